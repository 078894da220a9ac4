/-! what a step of the mini machine keeps -/
def mm_vv (n : Nat) : Value → Prop
  | .ref k => k < n ∨ 1000 ≤ k
  | _ => True
def mm_vok (n : Nat) (lo : List (Option Value)) (st : List Value) : Prop := (∀ j v, mm_at lo j = some (some v) → mm_vv n v) ∧ ∀ v ∈ st, mm_vv n v
theorem mm_vv_mono {n k : Nat} (h : n ≤ k) {v : Value} (hv : mm_vv n v) : mm_vv k v := by
  cases v with
  | ref q => exact hv.elim (fun z => Or.inl (Nat.lt_of_lt_of_le z h)) Or.inr
  | _ => exact trivial
theorem mm_vok_mono {n k : Nat} (h : n ≤ k) {lo : List (Option Value)} {st : List Value} (hv : mm_vok n lo st) : mm_vok k lo st :=
  ⟨fun j v e => mm_vv_mono h (hv.1 j v e), fun v e => mm_vv_mono h (hv.2 v e)⟩
theorem mm_vok_st {n : Nat} {lo : List (Option Value)} {st st' : List Value} (hv : mm_vok n lo st) (h : ∀ v ∈ st', mm_vv n v) : mm_vok n lo st' := ⟨hv.1, h⟩
theorem mm_vok_set {n : Nat} {lo : List (Option Value)} {st st' : List Value} {i : Nat} {v : Option Value} (hv : mm_vok n lo st) (hi : i < lo.length) (hx : ∀ x, v = some x → mm_vv n x) (h : ∀ v ∈ st', mm_vv n v) : mm_vok n (mm_set lo i v) st' := by
  refine ⟨fun j x e => ?_, h⟩
  rw [mm_set_at v lo i j hi] at e
  by_cases q : j = i
  · rw [if_pos q] at e
    cases e
    exact hx x rfl
  · rw [if_neg q] at e
    exact hv.1 j x e
def mm_le (H H' : mm_H) : Prop := mm_n H ≤ mm_n H' ∧ mm_nc H ≤ mm_nc H' ∧ mm_ns H ≤ mm_ns H'
theorem mm_le.refl (H : mm_H) : mm_le H H := ⟨Nat.le_refl _, Nat.le_refl _, Nat.le_refl _⟩
theorem mm_le.trans {A B C : mm_H} (h : mm_le A B) (k : mm_le B C) : mm_le A C := ⟨Nat.le_trans h.1 k.1, Nat.le_trans h.2.1 k.2.1, Nat.le_trans h.2.2 k.2.2⟩
/-- a result is in order -/
def mm_rok (L : Nat) (xs : Nat → Int32) (so : Option Nat) (lo : List (Option Value)) (H : mm_H) : mm_Res → Prop
  | .inl (_, lo1, st1, H1) => mm_wf L xs so H1 ∧ mm_le H H1 ∧ mm_vok (mm_n H1) lo1 st1 ∧ lo1.length = lo.length
  | .inr (.inl v) => ∀ x, v = some x → mm_vv (mm_n H) x
  | .inr (.inr (.inl (_, As, rest, _))) => (∀ v ∈ As, mm_vv (mm_n H) v) ∧ ∀ v ∈ rest, mm_vv (mm_n H) v
  | .inr (.inr (.inr _)) => True
section PURE
variable {L : Nat} {xs : Nat → Int32} {so : Option Nat} {lo lo' : List (Option Value)} {st st' : List Value} {H H' : mm_H} {r : mm_Res} {pc : Nat}
theorem mm_rok_nx (h : mm_nx pc lo st' H = some r) (hw : mm_wf L xs so H) (hv : mm_vok (mm_n H) lo st') : mm_rok L xs so lo H r := by
  unfold mm_nx at h
  cases h
  exact ⟨hw, mm_le.refl H, hv, rfl⟩
theorem mm_rok_nxH (h : mm_nx pc lo st' H' = some r) (hw : mm_wf L xs so H') (hl : mm_le H H') (hv : mm_vok (mm_n H') lo st') : mm_rok L xs so lo H r := by
  unfold mm_nx at h
  cases h
  exact ⟨hw, hl, hv, rfl⟩
theorem mm_rok_br {off : Int} (h : mm_br pc off lo st' H = some r) (hw : mm_wf L xs so H) (hv : mm_vok (mm_n H) lo st') : mm_rok L xs so lo H r := by
  unfold mm_br at h
  split at h
  · exact mm_rok_nx h hw hv
  · cases h
theorem mm_rok_sto {i : Nat} {v : Value} (h : mm_sto pc lo i v st' H = some r) (hw : mm_wf L xs so H) (hv : mm_vok (mm_n H) lo st) (h1 : mm_vv (mm_n H) v) (h2 : ∀ v ∈ st', mm_vv (mm_n H) v) : mm_rok L xs so lo H r := by
  unfold mm_sto at h
  split at h
  · cases h
  · split at h
    · rename_i hi
      unfold mm_nx at h
      cases h
      exact ⟨hw, mm_le.refl H, mm_vok_set hv hi (fun x e => by cases e; exact h1) h2, mm_set_len _ _ _⟩
    · cases h
theorem mm_ii_in {st : List Value} {k : Int32 → Int32 → List Value → Option mm_Res} (h : mm_ii st k = some r) : ∃ x y rest, st = .int y :: .int x :: rest ∧ k x y rest = some r := by
  unfold mm_ii at h
  split at h
  · exact ⟨_, _, _, rfl, h⟩
  · cases h
theorem mm_i_in {st : List Value} {k : Int32 → List Value → Option mm_Res} (h : mm_i st k = some r) : ∃ x rest, st = .int x :: rest ∧ k x rest = some r := by
  unfold mm_i at h
  split at h
  · exact ⟨_, _, rfl, h⟩
  · cases h
theorem mm_pop_ok : ∀ (k : Nat) (acc st : List Value) (q : List Value × List Value), mm_pop k acc st = some q → ∃ pre, q.1 = pre ++ acc ∧ st = pre.reverse ++ q.2 ∧ pre.length = k
  | 0, acc, st, q, h => by
    simp only [mm_pop, Option.some.injEq] at h
    subst h
    exact ⟨[], rfl, rfl, rfl⟩
  | k + 1, acc, [], q, h => by simp [mm_pop] at h
  | k + 1, acc, v :: st, q, h => by
    simp only [mm_pop] at h
    obtain ⟨pre, g1, g2, g3⟩ := mm_pop_ok k (v :: acc) st q h
    exact ⟨pre ++ [v], by rw [g1]; simp, by rw [g2]; simp, by simp [g3]⟩
theorem mm_pop_ok0 {k : Nat} {st : List Value} {q : List Value × List Value} (h : mm_pop k [] st = some q) : st = q.1.reverse ++ q.2 ∧ q.1.length = k := by
  obtain ⟨pre, g1, g2, g3⟩ := mm_pop_ok k [] st q h
  rw [List.append_nil] at g1
  subst g1
  exact ⟨g2, g3⟩
theorem mm_rok_call {mi n ci kind : Nat} {thr : Bool} (h : mm_call H mi n ci kind thr st = some r) (hv : mm_vok (mm_n H) lo st) : mm_rok L xs so lo H r := by
  unfold mm_call at h
  split at h
  · cases h
  · rename_i As st1 hp
    obtain ⟨e, -⟩ := mm_pop_ok0 hp
    have h1 : ∀ v ∈ As, mm_vv (mm_n H) v := fun v hx => hv.2 v (by rw [e]; simp [hx])
    have h2 : ∀ v ∈ st1, mm_vv (mm_n H) v := fun v hx => hv.2 v (by rw [e]; simp [hx])
    split at h
    · split at h
      · cases h
        exact ⟨h1, h2⟩
      · cases h
    · split at h
      · split at h
        · cases h
          refine ⟨fun v hx => ?_, fun v hx => h2 v (List.mem_cons_of_mem _ hx)⟩
          rcases List.mem_cons.mp hx with rfl | hx
          · exact h2 _ List.mem_cons_self
          · exact h1 v hx
        · cases h
      · cases h
    · split at h
      · split at h
        · cases h
          refine ⟨fun v hx => ?_, fun v hx => h2 v (List.mem_cons_of_mem _ hx)⟩
          rcases List.mem_cons.mp hx with rfl | hx
          · exact h2 _ List.mem_cons_self
          · exact h1 v hx
        · cases h
      · cases h
/-- a write into a tracked cell -/
theorem mm_wf_wI {k j : Nat} {v : Int32} (hw : mm_wf L xs so H) (hk : (mm_sh H k).1 < 102) : mm_wf L xs so (mm_wI H k j v) := by
  obtain ⟨w1, w2, w3, w4, w5, w6, w7, w8, w9, w10, w11, w12, w13⟩ := hw
  have ne : ∀ q, (mm_sh H q).1 = 108 ∨ (mm_sh H q).1 = 106 → q ≠ k := fun q h e => by subst e; omega
  refine ⟨w1, w2, w3, w4, fun i hi => ⟨(w5 i hi).1, (w5 i hi).2.1, fun z => ?_⟩, w6, fun i => ?_, w8, w9, w10, w11, w12, w13⟩
  · have : 2000 + i ≠ k := ne _ (Or.inl (by rw [(w5 i hi).2.1]))
    simp only [mm_I, mm_wI, mm_u2, this, false_and, if_false]
    exact (w5 i hi).2.2 z
  · have : 5000 ≠ k := ne _ (Or.inr (by rw [w6]))
    simp only [mm_I, mm_wI, mm_u2, this, false_and, if_false]
    exact w7 i
theorem mm_wf_wL {k j : Nat} {v : Int64} (hw : mm_wf L xs so H) : mm_wf L xs so (mm_wL H k j v) := hw
theorem mm_wf_wR {k j : Nat} {v : Option Nat} (hw : mm_wf L xs so H) (hk : (mm_sh H k).1 < 106) (hk2 : k < mm_n H) (hv : ∀ x, v = some x → x < mm_n H ∨ 1000 ≤ x) : mm_wf L xs so (mm_wR H k j v) := by
  obtain ⟨w1, w2, w3, w4, w5, w6, w7, w8, w9, w10, w11, w12, w13⟩ := hw
  refine ⟨w1, w2, w3, w4, w5, w6, w7, ?_, w9, w10, w11, w12, fun q i x hx => ?_⟩
  · have : 4000 ≠ k := by omega
    show (if (4000 = k ∧ 0 = j) then v else mm_R H 4000 0) = so
    rw [if_neg (by simp [this])]
    exact w8
  · have hx : (if (q = k ∧ i = j) then v else mm_R H q i) = some x := hx
    split at hx
    · exact hv x hx
    · exact w13 q i x hx
theorem mm_wf_new {t len : Nat} (hw : mm_wf L xs so H) (hn : mm_n H < 1000) (ht : (t < 13 ∧ ∃ r, mm_at mm_cl t = some r ∧ len = r.2.2) ∨ (100 ≤ t ∧ t ≤ 105)) : mm_wf L xs so (mm_new H t len) := by
  obtain ⟨w1, w2, w3, w4, w5, w6, w7, w8, w9, w10, w11, w12, w13⟩ := hw
  have hsh : ∀ q, mm_sh (mm_new H t len) q = if q = mm_n H then (t, len) else mm_sh H q := fun _ => rfl
  have hI : ∀ q i, mm_I (mm_new H t len) q i = if q = mm_n H then 0 else mm_I H q i := fun q i => by
    show (if q = mm_n H then (fun _ => (0 : Int32)) else mm_I H q) i = _
    split <;> rfl
  have hR : ∀ q i, mm_R (mm_new H t len) q i = if q = mm_n H then none else mm_R H q i := fun q i => by
    show (if q = mm_n H then (fun _ => (none : Option Nat)) else mm_R H q) i = _
    split <;> rfl
  have hN : mm_n (mm_new H t len) = mm_n H + 1 := rfl
  refine ⟨by rw [hN]; omega, fun q h1 h2 => ?_, fun q h1 h2 => ?_, fun q h1 => ?_, fun i hi => ⟨?_, ?_, fun z => ?_⟩, ?_, fun i => ?_, ?_, w9, fun q h1 h2 => ?_, fun q h1 => ?_, fun q h1 => ?_, fun q i x hx => ?_⟩
  · rw [hN] at h1
    rw [hsh, if_neg (by omega)]
    exact w2 q (by omega) h2
  · rw [hsh, if_neg (by omega)] at h2
    exact w3 q h1 h2
  · rw [hN] at h1
    rw [hsh]
    by_cases e : q = mm_n H
    · rw [if_pos e]; exact ht
    · rw [if_neg e]; exact w4 q (by omega)
  · rw [hsh, if_neg (by omega)]; exact (w5 i hi).1
  · rw [hsh, if_neg (by omega)]; exact (w5 i hi).2.1
  · rw [hI, if_neg (by omega)]; exact (w5 i hi).2.2 z
  · rw [hsh, if_neg (by omega)]; exact w6
  · rw [hI, if_neg (by omega)]; exact w7 i
  · rw [hR, if_neg (by omega)]; exact w8
  · rw [hsh, if_neg (by omega)] at h2; exact w10 q h1 h2
  · rw [hsh] at h1
    by_cases e : q = mm_n H
    · rw [if_pos e] at h1
      exfalso
      have h1 : t = 108 := h1
      rcases ht with ⟨z, -⟩ | ⟨-, z⟩ <;> omega
    · rw [if_neg e] at h1; exact w11 q h1
  · rw [hsh] at h1
    by_cases e : q = mm_n H
    · rw [if_pos e] at h1
      exfalso
      have h1 : t = 106 := h1
      rcases ht with ⟨z, -⟩ | ⟨-, z⟩ <;> omega
    · rw [if_neg e] at h1; exact w12 q h1
  · rw [hR] at hx
    rw [hN]
    by_cases e : q = mm_n H
    · rw [if_pos e] at hx; cases hx
    · rw [if_neg e] at hx
      rcases w13 q i x hx with z | z
      · exact Or.inl (by omega)
      · exact Or.inr z
theorem mm_le_new (t len : Nat) : mm_le H (mm_new H t len) := ⟨Nat.le_succ _, Nat.le_succ _, Nat.le_add_right _ _⟩
/-- a cell with a small tag is tracked -/
theorem mm_wf_lt (hw : mm_wf L xs so H) {q : Nat} (h : (mm_sh H q).1 < 106) : q < mm_n H := by
  obtain ⟨w1, w2, w3, w4, w5, w6, w7, w8, w9, w10, w11, w12, w13⟩ := hw
  rcases Nat.lt_or_ge q (mm_n H) with z | z
  · exact z
  · exfalso
    rcases Nat.lt_or_ge q 1000 with y | y
    · have := w2 q z y; omega
    · rcases Nat.lt_or_ge q 1028 with x | x
      · have h5 := (w5 (q - 1000) (by omega)).1
        rw [show 1000 + (q - 1000) = q by omega] at h5
        rw [h5] at h
        have h : (107 : Nat) < 106 := h
        omega
      · exact w3 q x h
end PURE
