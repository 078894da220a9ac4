/-! what holds all along: statics, constants, the script -/
def mm_G (D : va_G) (cA : Nat → ClassId) (a : Nat → Nat) (base L : Nat) (xs : Nat → Int32) (so : Option Nat) (U : State) (Hp : Heap) : Prop :=
  base ≤ Hp.size ∧ va_K D mm_cl (mm_tys cA) U ∧
  (vx_Zq Bundle.tN "UNASSIGNED_STACK" Bundle.steD (fun q => base ≤ q) U Hp ∧ vx_Zq Bundle.tN "SUPPRESSED_SENTINEL" Bundle.listD (fun q => base ≤ q) U Hp) ∧
  (va_Z "java/lang/String" "COMPACT_STRINGS" "Z" (.int 1) (fun q => base ≤ q) U Hp ∧
   va_Z "jdk/internal/util/Preconditions" "SIOOBE_FORMATTER" "Ljava/util/function/BiFunction;" (mm_tr a (va_rf so)) (fun q => base ≤ q) U Hp) ∧
  (∀ j, j < 28 → va_O "java/lang/String" (a (1000 + j)) (fun q => base ≤ q) U Hp ∧ va_OF "java/lang/String" "coder" "B" (.int 0) (a (1000 + j)) (fun q => base ≤ q) U Hp ∧
    va_OF "java/lang/String" "value" "[B" (.ref (a (2000 + j))) (a (1000 + j)) (fun q => base ≤ q) U Hp ∧
    va_T .byte (a (2000 + j)) ((mm_at mm_strs j).getD []).length (fun i => .int (nI (((mm_at mm_strs j).getD []).getD i 0))) (fun q => base ≤ q) U Hp) ∧
  (∀ own i j, mm_tab mm_strT own i = some j → ∃ tx, vk_R (mm_cn own) i tx (a (1000 + j)) U) ∧
  va_X (a 5000) L xs U Hp ∧ a 5000 < base ∧ va_Nc "java/lang/IllegalArgumentException" "java/util/NoSuchElementException" U
theorem mm_G.on {D : va_G} {cA : Nat → ClassId} {a : Nat → Nat} {base L : Nat} {xs : Nat → Int32} {so : Option Nat} {s U : State} {Hp H1 : Heap} (h : mm_G D cA a base L xs so s Hp) (hW : s.WarmedH U.vm) (hz : Hp.size ≤ H1.size) (hq : ∀ q : Nat, q < Hp.size → ¬ base ≤ q → H1[q]? = Hp[q]?) : mm_G D cA a base L xs so U H1 := by
  obtain ⟨h1, h2, ⟨h3, h4⟩, ⟨h5, h6⟩, h7, h8, h9, h10, h11⟩ := h
  have hA := hW.alike
  refine ⟨Nat.le_trans h1 hz, h2.moved hA, ⟨(h3.moved hA).kept hq, (h4.moved hA).kept hq⟩, ⟨(h5.moved hA).kept hq, (h6.moved hA).kept hq⟩, fun j hj => ?_, fun own i j hj => ?_, ?_, h10, h11.moved hA⟩
  · obtain ⟨g1, g2, g3, g4⟩ := h7 j hj
    exact ⟨(g1.moved hA).kept hq, (g2.moved hA).kept hq, (g3.moved hA).kept hq, (g4.moved hA).kept hq⟩
  · obtain ⟨tx, g⟩ := h8 own i j hj
    exact ⟨tx, vk_R.warm hW g⟩
  · have hb : (a 5000) < Hp.size := by omega
    exact (h9.moved hA).kept (hq _ hb (by omega))
theorem mm_G.ext {D : va_G} {cA : Nat → ClassId} {a b : Nat → Nat} {base L n : Nat} {xs : Nat → Int32} {so : Option Nat} {s : State} {Hp : Heap} (h : mm_G D cA a base L xs so s Hp) (hs : so = none ∨ so = some 4001) (he : mm_ext n a b) : mm_G D cA b base L xs so s Hp := by
  obtain ⟨h1, h2, h34, ⟨h5, h6⟩, h7, h8, h9, h10, h11⟩ := h
  have e : ∀ k, 1000 ≤ k → b k = a k := fun k hk => he k (Or.inr hk)
  refine ⟨h1, h2, h34, ⟨h5, ?_⟩, fun j hj => ?_, fun own i j hj => ?_, ?_, ?_, h11⟩
  · rcases hs with rfl | rfl
    · exact h6
    · have : mm_tr b (va_rf (some 4001)) = mm_tr a (va_rf (some 4001)) := by simp [va_rf, mm_tr, e 4001 (by omega)]
      rw [this]; exact h6
  · rw [e (1000 + j) (by omega), e (2000 + j) (by omega)]; exact h7 j hj
  · obtain ⟨tx, g⟩ := h8 own i j hj
    exact ⟨tx, by rw [e (1000 + j) (by omega)]; exact g⟩
  · rw [e 5000 (by omega)]; exact h9
  · rw [e 5000 (by omega)]; exact h10
/-- the cells of the small heap in the real one -/
def mm_P (D : va_G) (cA : Nat → ClassId) (a : Nat → Nat) (base : Nat) (H : mm_H) (Hp : Heap) : Prop := va_P D mm_cl (mm_ws a cA H) Hp ∧ va_D (fun q => base ≤ q) (mm_ws a cA H)
/-- the locals -/
def mm_lr (a : Nat → Nat) (ls : Array Slot) (nL : Nat) (lo : List (Option Value)) : Prop := lo.length = nL ∧ ls.size = nL ∧ lv_wf ls ∧ ∀ (j : Nat) (v : Value), mm_at lo j = some (some v) → ls[j]? = some (.val (mm_tr a v))
theorem mm_tr_cat (a : Nat → Nat) (v : Value) : (mm_tr a v).category = v.category := by cases v <;> rfl
theorem mm_long_cat {v : Value} : (mm_long v = true → v.category = 2) ∧ (mm_long v = false → v.category = 1) := by cases v <;> simp [mm_long, Value.category]
theorem mm_cat_sum (a : Nat → Nat) : ∀ st : List Value, ((st.map (mm_tr a)).map fun v => v.category).sum = mm_cat st
  | [] => rfl
  | v :: r => by
    rw [List.map_cons, List.map_cons, List.sum_cons, mm_cat_sum a r, mm_cat, mm_tr_cat]
    cases h : mm_long v
    · rw [mm_long_cat.2 h]; rfl
    · rw [mm_long_cat.1 h]; rfl
def mm_enc (a : Nat → Nat) (lo : List (Option Value)) : List (Nat × Value) := (List.range lo.length).filterMap (fun j => match mm_at lo j with
  | some (some v) => some (j, mm_tr a v)
  | _ => none)
theorem mm_enc_mem {a : Nat → Nat} {lo : List (Option Value)} {q : Nat × Value} : q ∈ mm_enc a lo ↔ ∃ v, mm_at lo q.1 = some (some v) ∧ q.2 = mm_tr a v := by
  unfold mm_enc
  rw [List.mem_filterMap]
  constructor
  · rintro ⟨j, hj, h⟩
    cases h1 : mm_at lo j with
    | none => rw [h1] at h; cases h
    | some o =>
      cases o with
      | none => rw [h1] at h; cases h
      | some v =>
        rw [h1] at h
        cases h
        exact ⟨v, h1, rfl⟩
  · rintro ⟨v, h1, h2⟩
    have hl : q.1 < lo.length := by
      rw [mm_at_get] at h1
      exact (List.getElem?_eq_some_iff.mp h1).1
    refine ⟨q.1, List.mem_range.mpr hl, ?_⟩
    rw [h1]
    cases q
    simp_all
theorem mm_lr_has {a : Nat → Nat} {ls : Array Slot} {nL : Nat} {lo : List (Option Value)} (h : mm_lr a ls nL lo) : lv_has ls nL (mm_enc a lo) :=
  ⟨h.2.1, h.2.2.1, fun q hq => by
    obtain ⟨v, h1, h2⟩ := mm_enc_mem.mp hq
    rw [h2]
    exact h.2.2.2 q.1 v h1⟩
theorem mm_set_len (v : Option Value) : ∀ (lo : List (Option Value)) (i : Nat), (mm_set lo i v).length = lo.length
  | [], _ => rfl
  | _ :: _, 0 => rfl
  | x :: r, n + 1 => by simp [mm_set, mm_set_len v r n]
theorem mm_set_at (v : Option Value) : ∀ (lo : List (Option Value)) (i j : Nat), i < lo.length → mm_at (mm_set lo i v) j = if j = i then some v else mm_at lo j
  | [], _, _, h => absurd h (Nat.not_lt_zero _)
  | _ :: _, 0, 0, _ => rfl
  | _ :: _, 0, j + 1, _ => by simp [mm_set, mm_at]
  | x :: r, n + 1, 0, _ => by simp [mm_set, mm_at]
  | x :: r, n + 1, j + 1, h => by
    simp only [mm_set, mm_at, Nat.add_right_cancel_iff]
    exact mm_set_at v r n j (Nat.lt_of_succ_lt_succ h)
/-- behind a store: the new locals hold what the mini machine says -/
theorem mm_lr_sto {a : Nat → Nat} {ls ls' : Array Slot} {nL i : Nat} {lo : List (Option Value)} {w : Value} {v : Option Value} (h : mm_lr a ls nL lo) (hi : i < lo.length) (hg : mm_lg lo i = false) (hv : ∀ x, v = some x → w = mm_tr a x)
    (h' : lv_has ls' nL ((i, w) :: (mm_enc a lo).filter (fun q => !(q.1 == i) && !(q.1 + 1 == i && q.2.category == 2)))) : mm_lr a ls' nL (mm_set lo i v) := by
  refine ⟨by rw [mm_set_len]; exact h.1, h'.1, h'.2.1, fun j x hj => ?_⟩
  rw [mm_set_at v lo i j hi] at hj
  by_cases e : j = i
  · rw [if_pos e] at hj
    cases hj
    rw [e, ← hv x rfl]
    exact h'.2.2 (i, w) List.mem_cons_self
  · rw [if_neg e] at hj
    refine h'.2.2 (j, mm_tr a x) (List.mem_cons_of_mem _ (List.mem_filter.mpr ⟨mm_enc_mem.mpr ⟨x, hj, rfl⟩, ?_⟩))
    simp only [Bool.and_eq_true, Bool.not_eq_true', beq_eq_false_iff_ne, ne_eq, Bool.and_eq_false_iff]
    refine ⟨e, ?_⟩
    by_cases e2 : j + 1 = i
    · right
      subst e2
      have h9 : mm_lg lo (j + 1) = mm_long x := by simp [mm_lg, hj]
      rw [h9] at hg
      rw [mm_tr_cat, mm_long_cat.2 hg]
      decide
    · exact Or.inl e2
theorem mm_lr_ext {a b : Nat → Nat} {ls : Array Slot} {nL : Nat} {lo : List (Option Value)} (h : mm_lr a ls nL lo) (he : ∀ j k, mm_at lo j = some (some (.ref k)) → b k = a k) : mm_lr b ls nL lo := by
  refine ⟨h.1, h.2.1, h.2.2.1, fun j v hv => ?_⟩
  rw [h.2.2.2 j v hv]
  cases v with
  | ref k => simp only [mm_tr, he j k hv]
  | _ => rfl
