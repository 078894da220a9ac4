/-! THE SOUNDNESS OF A RUN: methods -/
def mm_ename (E : Nat) : String := if E = 0 then "java/util/NoSuchElementException" else "java/lang/IllegalArgumentException"
def mm_retok (k : Nat) (ret : Option FieldType) : Prop := ((k = 0 ∨ k = 4) ∧ ret = none) ∨ (k = 1 ∧ ret = some .int) ∨ (k = 2 ∧ ret = some .boolean) ∨ (k = 3 ∧ ∃ rt, ret = some rt ∧ mm_isRefT rt) ∨ (k = 5 ∧ ret = some .char) ∨ (k = 6 ∧ ret = some .byte)
def mm_wsm (M : mm_M) (y : MethodName) (b : ByteArray) (ret : Option FieldType) : List Jvm.Cond := (match M.2.2.2.1 with
  | [] => Jvm.Cond.code y b M.2.1 ret
  | hh => Jvm.Cond.codeWith y b M.2.1 ret hh) :: mm_TW
def mm_FM (lawi : Nat) : Prop := ∀ mi M y b ret, mi ≠ lawi → mm_at mm_prog mi = some M → mm_at mm_inf mi = some (y, b, ret) →
  y.cls = mm_cn M.1 ∧ plainName y.cls = true ∧ (y.cls ≠ "java/lang/invoke/MethodHandle" ∧ y.cls ≠ "java/lang/invoke/VarHandle") ∧ Jvm.Cond.initialized y.cls ∈ mm_TW ∧
  (∀ w ∈ mm_wsm M y b ret, w ∈ mm_TW) ∧ M.2.1 ≤ 21 ∧ mm_retok M.2.2.1 ret ∧ (M.2.2.1 = 4 → y.name = "<init>") ∧ mm_codeok b M.2.2.2.2
def mm_FL (lawi : Nat) : Prop := ∀ own j kind mi n ne ci, mm_tab mm_mthT own j = some (kind, mi, n, ne, ci) → kind < 3 → mi ≠ lawi ∧ ∃ M y b ret, mm_at mm_prog mi = some M ∧ mm_at mm_inf mi = some (y, b, ret) ∧
  (parseMethodDescriptor y.desc).map (fun d => d.parameters.length) = some n ∧
  ((ne = 0 ∧ Jvm.Cond.methodLink (mm_cn own) j y ∈ mm_TW) ∨ (ne = 1 ∧ Jvm.Cond.methodLinkNest (mm_cn own) j y RX11 ∈ mm_TW)) ∧
  (kind = 0 → Jvm.Cond.static y ∈ mm_TW) ∧ (kind ≠ 0 → Jvm.Cond.instanceMethod y ∈ mm_TW) ∧ (kind = 1 → Jvm.Cond.selects y.cls y y ∈ mm_TW ∧ ((ci = M.1 ∧ ci < 13) ∨ (ci = 107 ∧ M.1 = 16)) ∧ M.2.2.2.1 = []) ∧ (kind = 2 → y.name = "<init>" ∧ M.2.2.2.1 = [] ∧ ret = none) ∧ (ne = 1 → M.2.2.2.1 = [])
def mm_nms : List String := ["java/lang/RuntimeException", "java/lang/Exception"]
def mm_FX : Prop := (∀ own ct E, mm_tab mm_ctT own ct = some E → E ≤ 1 ∧ ct ≠ 0 ∧ Jvm.Cond.classLink (mm_cn own) ct (mm_ename E) ∈ mm_TW ∧ Jvm.Cond.castable (mm_ename E) (mm_ename E) ∈ mm_TW) ∧
  ∀ own j E ic, mm_tab mm_excT own j = some (E, ic) → E ≤ 1 ∧ Jvm.Cond.classLink (mm_cn own) j (mm_ename E) ∈ mm_TW ∧ Jvm.Cond.initialized (mm_ename E) ∈ mm_TW ∧ (∀ w ∈ vx_at0 (mm_cn own) ic (mm_ename E) mm_nms, w ∈ mm_TW) ∧ Bundle.fit (mm_ename E) = true ∧ (∀ n ∈ mm_nms, Bundle.fit n = true) ∧
    ∀ w ∈ Jvm.Cond.classLink (mm_cn own) j (mm_ename E) :: Jvm.Cond.initialized (mm_ename E) :: vx_at0 (mm_cn own) ic (mm_ename E) mm_nms, vx_ot w = true
def mm_Qc (D : va_G) (cA : Nat → ClassId) (base : Nat) (a : Nat → Nat) (H : mm_H) (o : Option Value ⊕ Nat) (H1 : mm_H) : Array Value → State → Outcome → State → Prop := fun _ st oc t =>
  (∃ (v : Option Value) (b : Nat → Nat), o = .inl v ∧ oc = .returned (v.map (mm_tr b)) ∧ mm_ext (mm_n H) a b ∧ mm_P D cA b base H1 t.heap) ∧ va_F (fun q => base ≤ q) st t
def mm_XC (D : va_G) (cA : Nat → ClassId) (base : Nat) (a : Nat → Nat) (H : mm_H) (o : Option Value ⊕ Nat) (H1 : mm_H) : String → State → State → Prop := fun E st t =>
  (∃ (E1 : Nat) (b : Nat → Nat), o = .inr E1 ∧ mm_ename E1 = E ∧ mm_ext (mm_n H) a b ∧ mm_P D cA b base H1 t.heap) ∧ va_F (fun q => base ≤ q) st t
def mm_Pc (D : va_G) (cA : Nat → ClassId) (base L : Nat) (xs : Nat → Int32) (so : Option Nat) (a : Nat → Nat) (As : List Value) (H : mm_H) : Array Value → State → Prop :=
  va_Pc (As.map (mm_tr a)) (fun U => mm_G D cA a base L xs so U U.heap ∧ mm_P D cA a base H U.heap)
def mm_rm (d : Nat) (H H1 : mm_H) : Room := { frames := d, cells := mm_nc H1 - mm_nc H, slots := mm_ns H1 - mm_ns H, locals := 40 * d }
theorem mm_blind {D : va_G} {cA : Nat → ClassId} {base L : Nat} {xs : Nat → Int32} {so : Option Nat} {a : Nat → Nat} {As : List Value} {H : mm_H} : FrameBlind (mm_Pc D cA base L xs so a As H) := by
  intro v U g mk ⟨h1, h2, h3⟩
  exact ⟨h1, h2.on (U := U.calling g mk v) (State.WarmedH.refl U) (Nat.le_refl _) (fun _ _ _ => rfl), h3⟩
/-- the locals at the entry -/
theorem mm_slots_at {a : Nat → Nat} : ∀ (As : List Value) (i j : Nat) (v : Value), mm_at (mm_slots As) j = some (some v) → (i + j, mm_tr a v) ∈ lv_args i (As.map (mm_tr a))
  | [], _, _, _, h => by simp [mm_slots, mm_at] at h
  | x :: r, i, j, v, h => by
    rw [List.map_cons, lv_args, mm_tr_cat]
    cases hx : mm_long x with
    | true =>
      rw [mm_slots, hx] at h
      rw [if_pos (mm_long_cat.1 hx)]
      match j, h with
      | 0, h => cases h; exact List.mem_cons_self
      | 1, h => cases h
      | j + 2, h =>
        have := mm_slots_at (a := a) r (i + 2) j v h
        rw [show i + (j + 2) = i + 2 + j by omega]
        exact List.mem_cons_of_mem _ this
    | false =>
      rw [mm_slots, hx] at h
      rw [if_neg (by rw [mm_long_cat.2 hx]; decide)]
      match j, h with
      | 0, h => cases h; exact List.mem_cons_self
      | j + 1, h =>
        have := mm_slots_at (a := a) r (i + 1) j v h
        rw [show i + (j + 1) = i + 1 + j by omega]
        exact List.mem_cons_of_mem _ this
theorem mm_slots_len {a : Nat → Nat} : ∀ As : List Value, (lg_sl (As.map (mm_tr a))).length = (mm_slots As).length
  | [] => rfl
  | x :: r => by
    have ih := mm_slots_len (a := a) r
    unfold lg_sl at ih ⊢
    rw [List.map_cons, List.flatMap_cons, List.length_append, ih, mm_slots, mm_tr_cat]
    cases hx : mm_long x with
    | true => rw [if_pos (mm_long_cat.1 hx)]; simp; omega
    | false => rw [if_neg (by rw [mm_long_cat.2 hx]; decide)]; simp; omega
theorem mm_pad_ok : ∀ (n : Nat) (l q : List (Option Value)), mm_pad n l = some q → q.length = n ∧ l.length ≤ n ∧ ∀ j v, mm_at q j = some (some v) → mm_at l j = some (some v)
  | 0, [], q, h => by
    simp only [mm_pad, Option.some.injEq] at h
    subst h
    exact ⟨rfl, Nat.le_refl _, fun j v hj => by simp [mm_at] at hj⟩
  | n + 1, [], q, h => by
    simp only [mm_pad, Option.some.injEq] at h
    subst h
    refine ⟨by simp, Nat.zero_le _, fun j v hj => ?_⟩
    rw [mm_at_get, List.getElem?_replicate] at hj
    split at hj <;> cases hj
  | 0, _ :: _, q, h => by simp [mm_pad] at h
  | n + 1, x :: r, q, h => by
    simp only [mm_pad] at h
    split at h
    · rename_i q1 hq
      cases h
      obtain ⟨h1, h2, h3⟩ := mm_pad_ok n r q1 hq
      refine ⟨by simp [h1], by simp; exact h2, fun j v hj => ?_⟩
      match j, hj with
      | 0, hj => exact hj
      | j + 1, hj => exact h3 j v hj
    · cases h
theorem mm_enter_lr {a : Nat → Nat} {As : List Value} {nL : Nat} {lo : List (Option Value)} (h : mm_enter As nL = some lo) : mm_lr a ((lg_sl (As.map (mm_tr a)) ++ List.replicate (nL - (lg_sl (As.map (mm_tr a))).length) Slot.unset).toArray) nL lo := by
  obtain ⟨h1, h2, h3⟩ := mm_pad_ok _ _ _ h
  have hle : (lg_sl (As.map (mm_tr a))).length ≤ nL := by rw [mm_slots_len]; exact h2
  obtain ⟨g1, g2, g3⟩ := lv_entry (As.map (mm_tr a)) hle
  refine ⟨h1, g1, g2, fun j v hj => ?_⟩
  have := mm_slots_at (a := a) As 0 j v (h3 j v hj)
  rw [Nat.zero_add] at this
  exact g3 _ this
theorem mm_slots_vv {n : Nat} : ∀ (As : List Value), (∀ v ∈ As, mm_vv n v) → ∀ j v, mm_at (mm_slots As) j = some (some v) → mm_vv n v
  | [], _, j, v, hj => by simp [mm_slots, mm_at] at hj
  | x :: r, h, j, v, hj => by
    have hr := mm_slots_vv r (fun v hv => h v (List.mem_cons_of_mem _ hv))
    cases hx : mm_long x with
    | true =>
      rw [mm_slots, hx] at hj
      match j, hj with
      | 0, hj => cases hj; exact h _ List.mem_cons_self
      | 1, hj => cases hj
      | j + 2, hj => exact hr j v hj
    | false =>
      rw [mm_slots, hx] at hj
      match j, hj with
      | 0, hj => cases hj; exact h _ List.mem_cons_self
      | j + 1, hj => exact hr j v hj
theorem mm_enter_vv {n nL : Nat} {As : List Value} {lo : List (Option Value)} (h : mm_enter As nL = some lo) (hA : ∀ v ∈ As, mm_vv n v) : mm_vok n lo [] := by
  obtain ⟨h1, h2, h3⟩ := mm_pad_ok _ _ _ h
  exact ⟨fun j v hj => mm_slots_vv As hA j v (h3 j v hj), fun v hv => by cases hv⟩
theorem mm_look_mem {α : Type} : ∀ (l : List (Nat × α)) (i : Nat) (v : α), mm_look l i = some v → (i, v) ∈ l
  | [], i, v, h => by simp [mm_look] at h
  | (k, w) :: r, i, v, h => by
    rw [mm_look] at h
    split at h
    · rename_i hk
      cases h
      rw [Nat.eq_of_beq_eq_true hk]
      exact List.mem_cons_self
    · exact List.mem_cons_of_mem _ (mm_look_mem r i v h)
