/-! THE WORLD: how a small heap lies in the real one -/
theorem mm_wkeep {w : Jvm.Cond} (h : mm_wok w = true) {s U : State} {args a' : Array Value} (hW : s.WarmedH U.vm) (hb : w.before args s = true) : w.before a' U = true := by
  unfold mm_wok at h
  rw [Bool.or_eq_true, Bool.or_eq_true, Bool.and_eq_true] at h
  rcases h with h | ⟨h1, h2⟩ | h
  · exact word_at hW (good_of_word h) hb
  · exact va_tabs h2 (rfl : (s.setVm U.vm).vm = U.vm) (Cond.faceAtom_setVm hW.alike w h1 hb)
  · cases w <;> first | (simp [mm_wn] at h; done) | skip
    · exact va_Nw.use rfl (va_Nw.warmM hW (va_Nw.of rfl hb))
    · exact va_Nw.use rfl (va_Nw.warmF hW (va_Nw.of rfl hb))
    · rename_i ty
      cases ty <;> first | (simp [mm_wn] at h; done) | exact va_AO.use (va_AO.moved hW.alike (va_AO.of hb))
theorem mm_TWkeep {s U : State} {args : Array Value} (hts : ∀ w ∈ mm_TW, w.before args s = true) (hW : s.WarmedH U.vm) : ∀ w ∈ mm_TW, ∀ a' : Array Value, w.before a' U = true :=
  fun w hw a' => mm_wkeep (List.mem_filter.mp hw).2 hW (hts w hw)
abbrev mm_cl : List vw_C := [(RX0, TX0, 2), (RX1, TX1, 5), (RX2, TX2, 1), (RX3, TX3, 4), (RX4, TX4, 9), (RX5, TX5, 4), (RX6, TX6, 9), (RX7, TX7, 7), (RX8, TX8, 5), (RX9, TX9, 4), (RX10, TX10, 10), (RX11, TX11, 16), (RX12, TX12, 62)]
def mm_cns : List String := [RX0, RX1, RX2, RX3, RX4, RX5, RX6, RX7, RX8, RX9, RX10, RX11, RX12, RL, "java/lang/Integer", "java/lang/Math", "java/lang/String", "java/lang/StringLatin1", "jdk/internal/util/Preconditions"]
def mm_cn (k : Nat) : String := (mm_at mm_cns k).getD ""
def mm_tr (a : Nat → Nat) : Value → Value
  | .ref k => .ref (a k)
  | v => v
def mm_fv (a : Nat → Nat) (H : mm_H) (k j : Nat) (ty : Option Nat) : Value := match ty with
  | some 0 => .int (mm_I H k j)
  | some 1 => .int (mm_I H k j)
  | _ => mm_tr a (va_rf (mm_R H k j))
def mm_fs (a : Nat → Nat) (H : mm_H) (k ci N : Nat) : List Value := (List.range N).map (fun j => mm_fv a H k j (mm_tab mm_ftT ci j))
def mm_cell (a : Nat → Nat) (cA : Nat → ClassId) (H : mm_H) (k : Nat) : va_E :=
  if (mm_sh H k).1 < 13 then .inr ((mm_sh H k).1, mm_fs a H k (mm_sh H k).1 (mm_sh H k).2)
  else if (mm_sh H k).1 = 102 then .inl (cA (mm_sh H k).1, (mm_sh H k).2, .inr (.inl (mm_L H k)))
  else if (mm_sh H k).1 < 102 then .inl (cA (mm_sh H k).1, (mm_sh H k).2, .inl (mm_I H k))
  else .inl (cA (mm_sh H k).1, (mm_sh H k).2, .inr (.inr (.inr (.inr (fun j => (mm_R H k j).map a)))))
def mm_ws (a : Nat → Nat) (cA : Nat → ClassId) (H : mm_H) : va_W := (List.range (mm_n H)).map (fun k => (a k, mm_cell a cA H k))
abbrev mm_tys (cA : Nat → ClassId) : List (ClassId × FieldType) := [(cA 100, .int), (cA 101, .byte), (cA 102, .long), (cA 103, .object RX0), (cA 104, .object RX8), (cA 105, .object "java/lang/String")]
def mm_ext (n : Nat) (a b : Nat → Nat) : Prop := ∀ k, k < n ∨ 1000 ≤ k → b k = a k
/-- a small heap's own order: the script (5000), the string constants (1000 and on, their bytes 2000 and on), no cell behind the last -/
def mm_wf (L : Nat) (xs : Nat → Int32) (so : Option Nat) (H : mm_H) : Prop :=
  mm_n H ≤ 1000 ∧ (∀ q, mm_n H ≤ q → q < 1000 → (mm_sh H q).1 = 999) ∧ (∀ q, 1028 ≤ q → (mm_sh H q).1 < 106 → False) ∧
  (∀ q, q < mm_n H → ((mm_sh H q).1 < 13 ∧ ∃ r, mm_at mm_cl (mm_sh H q).1 = some r ∧ (mm_sh H q).2 = r.2.2) ∨ (100 ≤ (mm_sh H q).1 ∧ (mm_sh H q).1 ≤ 105)) ∧
  (∀ j, j < 28 → mm_sh H (1000 + j) = (107, ((mm_at mm_strs j).getD []).length) ∧ mm_sh H (2000 + j) = (108, ((mm_at mm_strs j).getD []).length) ∧ ∀ i, mm_I H (2000 + j) i = nI (((mm_at mm_strs j).getD []).getD i 0)) ∧
  mm_sh H 5000 = (106, L) ∧ (∀ i, mm_I H 5000 i = xs i) ∧ mm_R H 4000 0 = so ∧ (so = none ∨ so = some 4001) ∧
  (∀ q, 1000 ≤ q → (mm_sh H q).1 = 107 → q < 1028) ∧ (∀ q, (mm_sh H q).1 = 108 → 2000 ≤ q ∧ q < 2028) ∧ (∀ q, (mm_sh H q).1 = 106 → q = 5000) ∧
  (∀ q j k, mm_R H q j = some k → k < mm_n H ∨ 1000 ≤ k)
theorem mm_at_get {α : Type} : ∀ (l : List α) (n : Nat), mm_at l n = l[n]?
  | [], _ => rfl
  | _ :: _, 0 => rfl
  | x :: r, n + 1 => by rw [mm_at, List.getElem?_cons_succ]; exact mm_at_get r n
theorem mm_ws_get {a : Nat → Nat} {cA : Nat → ClassId} {H : mm_H} {k : Nat} (h : k < mm_n H) : (mm_ws a cA H)[k]? = some (a k, mm_cell a cA H k) := by
  unfold mm_ws
  rw [List.getElem?_map, List.getElem?_range h]
  rfl
theorem mm_ws_len (a : Nat → Nat) (cA : Nat → ClassId) (H : mm_H) : (mm_ws a cA H).length = mm_n H := by simp [mm_ws]
theorem mm_map_set {α : Type} (n k : Nat) (f g : Nat → α) (h : ∀ j, j ≠ k → g j = f j) : ((List.range n).map f).set k (g k) = (List.range n).map g := by
  apply List.ext_getElem?
  intro i
  rw [List.getElem?_set]
  by_cases hi : k = i
  · subst hi
    by_cases hn : k < n
    · simp [hn, List.getElem?_map, List.getElem?_range]
    · simp [hn, List.getElem?_map]
  · rw [if_neg hi, List.getElem?_map, List.getElem?_map]
    cases h2 : (List.range n)[i]? with
    | none => rfl
    | some v =>
      have : v = i := by
        have := List.getElem?_eq_some_iff.mp h2
        obtain ⟨h3, h4⟩ := this
        simpa using h4.symm
      subst this
      simp only [Option.map_some]
      rw [h v (fun q => hi q.symm)]
theorem mm_map_push {α : Type} (n : Nat) (f g : Nat → α) (h : ∀ j, j < n → g j = f j) : (List.range n).map f ++ [g n] = (List.range (n + 1)).map g := by
  rw [List.range_succ, List.map_append]
  congr 1
  apply List.map_congr_left
  intro j hj
  exact (h j (List.mem_range.mp hj)).symm
