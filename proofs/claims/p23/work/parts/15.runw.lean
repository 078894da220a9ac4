theorem mm_cl_cn {ci : Nat} {r : vw_C} (h : mm_at mm_cl ci = some r) : r.1 = mm_cn ci ∧ ci < 13 := by
  have h1 : ∀ k, k < 13 → (mm_at mm_cl k).map (fun r => r.1) = some (mm_cn k) := by decide +kernel
  have h2 : ci < 13 := by
    rw [mm_at_get] at h
    exact (List.getElem?_eq_some_iff.mp h).1
  have h3 := h1 ci h2
  rw [h] at h3
  exact ⟨Option.some.inj h3, h2⟩
def mm_end (k : Nat) (i : Instr) (v : Option Value) : Prop := (i = .return_ ∧ v = none ∧ (k = 0 ∨ k = 4)) ∨
  (i = .ireturn ∧ ∃ x : Int32, v = some (.int x) ∧ (k = 1 ∨ (k = 2 ∧ (x = 0 ∨ x = 1)) ∨ (k = 5 ∧ (x.toUInt32 % 65536).toInt32 = x) ∨ (k = 6 ∧ (x = 0 ∨ x = 1)))) ∨
  (i = .areturn ∧ k = 3 ∧ ∃ w, v = some w ∧ (w = .null ∨ ∃ x, w = .ref x))
theorem mm_call_nr {H : mm_H} {mi n ci kind : Nat} {thr : Bool} {st : List Value} {r : Option Value ⊕ ((Nat × List Value × List Value × Bool) ⊕ Nat)} (h : mm_call H mi n ci kind thr st = some (.inr r)) (hr : ∀ x, r ≠ .inr (.inl x)) : False := by
  unfold mm_call at h
  split at h
  · cases h
  · split at h
    · split at h
      · cases h; exact hr _ rfl
      · cases h
    · split at h
      · split at h
        · cases h; exact hr _ rfl
        · cases h
      · cases h
    · split at h
      · split at h
        · cases h; exact hr _ rfl
        · cases h
      · cases h
theorem mm_ret_in {M : mm_M} {d pc len : Nat} {lo : List (Option Value)} {st : List Value} {H : mm_H} {i : Instr} {v : Option Value} (h : mm_step M d pc len lo st H i = some (.inr (.inl v))) : mm_end M.2.2.1 i v ∧ st = v.toList := by
  by_cases hf : mm_flow i = false
  · obtain ⟨q, e⟩ := mm_step_inl hf h
    cases e
  · cases i <;> first | (exact absurd rfl hf) | skip
    · -- areturn
      simp only [mm_step] at h
      split at h
      · split at h
        · rename_i hk
          cases h
          exact ⟨Or.inr (Or.inr ⟨rfl, hk, _, rfl, Or.inr ⟨_, rfl⟩⟩), rfl⟩
        · cases h
      · split at h
        · rename_i hk
          cases h
          exact ⟨Or.inr (Or.inr ⟨rfl, hk, _, rfl, Or.inl rfl⟩), rfl⟩
        · cases h
      · cases h
    · simp only [mm_step] at h
      split at h
      · unfold mm_call at h
        split at h
        · cases h
        · split at h <;> (split at h <;> first | (cases h; done) | (split at h <;> cases h))
      · split at h
        · split at h
          · cases h
          · cases h
        · cases h
      · cases h
    · simp only [mm_step] at h
      split at h <;> first | (cases h; done) | (exact (mm_call_nr h (fun x => by intro z; cases z)).elim) | (split at h <;> first | (cases h; done) | (split at h <;> cases h))
    · simp only [mm_step] at h
      split at h <;> first | (cases h; done) | (exact (mm_call_nr h (fun x => by intro z; cases z)).elim) | (split at h <;> first | (cases h; done) | (split at h <;> cases h))
    · -- ireturn
      simp only [mm_step] at h
      split at h
      · split at h
        · rename_i hk
          cases h
          exact ⟨Or.inr (Or.inl ⟨rfl, _, rfl, Or.inl hk⟩), rfl⟩
        · rename_i hk
          split at h
          · rename_i hx
            cases h
            exact ⟨Or.inr (Or.inl ⟨rfl, _, rfl, Or.inr (Or.inl ⟨hk, hx⟩)⟩), rfl⟩
          · cases h
        · rename_i hk
          split at h
          · rename_i hx
            cases h
            exact ⟨Or.inr (Or.inl ⟨rfl, _, rfl, Or.inr (Or.inr (Or.inl ⟨hk, hx⟩))⟩), rfl⟩
          · cases h
        · rename_i hk
          split at h
          · rename_i hx
            cases h
            exact ⟨Or.inr (Or.inl ⟨rfl, _, rfl, Or.inr (Or.inr (Or.inr ⟨hk, hx⟩))⟩), rfl⟩
          · cases h
        · cases h
      · cases h
    · -- new
      simp only [mm_step] at h
      split at h
      · split at h <;> cases h
      · split at h
        · split at h
          · split at h
            · split at h <;> cases h
            · cases h
          · cases h
        · cases h
    · -- return_
      simp only [mm_step] at h
      split at h
      · split at h
        · rename_i hk
          cases h
          exact ⟨Or.inl ⟨rfl, rfl, Or.inl hk⟩, rfl⟩
        · rename_i hk
          cases h
          exact ⟨Or.inl ⟨rfl, rfl, Or.inr hk⟩, rfl⟩
        · cases h
      · cases h
theorem mm_thr_in {M : mm_M} {d pc len : Nat} {lo : List (Option Value)} {st : List Value} {H : mm_H} {i : Instr} {E : Nat} (h : mm_step M d pc len lo st H i = some (.inr (.inr (.inr E)))) :
    ∃ j ic, i = .new j ∧ mm_tab mm_excT M.1 j = some (E, ic) ∧ mm_cat st ≤ 8 ∧ 12 ≤ d ∧ mm_look M.2.2.2.2 (pc + 3) = some (.dup, 1) ∧ mm_look M.2.2.2.2 (pc + 4) = some (.invokespecial ic, 3) ∧ mm_look M.2.2.2.2 (pc + 7) = some (.athrow, 1) ∧ M.2.2.2.1 = [] := by
  by_cases hf : mm_flow i = false
  · obtain ⟨q, e⟩ := mm_step_inl hf h
    cases e
  · cases i <;> first | (exact absurd rfl hf) | skip
    · simp only [mm_step] at h
      split at h
      · split at h <;> cases h
      · split at h <;> cases h
      · cases h
    · simp only [mm_step] at h
      split at h
      · unfold mm_call at h
        split at h
        · cases h
        · split at h <;> (split at h <;> first | (cases h; done) | (split at h <;> cases h))
      · split at h
        · split at h
          · cases h
          · cases h
        · cases h
      · cases h
    · simp only [mm_step] at h
      split at h <;> first | (cases h; done) | (exact (mm_call_nr h (fun x => by intro z; cases z)).elim) | (split at h <;> first | (cases h; done) | (split at h <;> cases h))
    · simp only [mm_step] at h
      split at h <;> first | (cases h; done) | (exact (mm_call_nr h (fun x => by intro z; cases z)).elim) | (split at h <;> first | (cases h; done) | (split at h <;> cases h))
    · simp only [mm_step] at h
      split at h
      · split at h <;> first | (cases h; done) | (split at h <;> cases h)
      · cases h
    · simp only [mm_step] at h
      split at h
      · split at h <;> cases h
      · rename_i j hn
        split at h
        · rename_i E1 ic hE
          split at h
          · rename_i hc
            split at h
            · rename_i jc h1 h2 h3 h4
              split at h
              · rename_i hj
                cases h
                subst hj
                exact ⟨_, _, rfl, hE, hc.1, hc.2, h1, h2, h3, h4⟩
              · cases h
            · cases h
          · cases h
        · cases h
    · simp only [mm_step] at h
      split at h
      · split at h <;> cases h
      · cases h
theorem mm_cal_in {M : mm_M} {d pc len : Nat} {lo : List (Option Value)} {st : List Value} {H : mm_H} {i : Instr} {mi : Nat} {As rest : List Value} {thr : Bool} (h : mm_step M d pc len lo st H i = some (.inr (.inr (.inl (mi, As, rest, thr))))) :
    ∃ j kind n ne ci, mm_tab mm_mthT M.1 j = some (kind, mi, n, ne, ci) ∧ kind < 3 ∧ mm_call H mi n ci kind thr st = some (.inr (.inr (.inl (mi, As, rest, thr)))) ∧
      ((kind = 0 ∧ i = .invokestatic j) ∨ (kind = 1 ∧ i = .invokevirtual j) ∨ (kind = 2 ∧ i = .invokespecial j)) ∧ (thr = true → ne = 0 ∧ kind < 2) := by
  by_cases hf : mm_flow i = false
  · obtain ⟨q, e⟩ := mm_step_inl hf h
    cases e
  · cases i <;> first | (exact absurd rfl hf) | skip
    · simp only [mm_step] at h
      split at h
      · split at h <;> cases h
      · split at h <;> cases h
      · cases h
    · simp only [mm_step] at h
      split at h
      · rename_i j mi1 n ne ci hj
        obtain ⟨rfl, rfl, -⟩ := mm_call_in h
        exact ⟨_, 2, _, _, _, hj, by decide, h, Or.inr (Or.inr ⟨rfl, rfl⟩), fun z => by cases z⟩
      · split at h
        · split at h
          · cases h
          · cases h
        · cases h
      · cases h
    · simp only [mm_step] at h
      split at h
      · rename_i j mi1 n ci hj
        obtain ⟨rfl, rfl, -⟩ := mm_call_in h
        exact ⟨_, 0, _, _, _, hj, by decide, h, Or.inl ⟨rfl, rfl⟩, fun z => ⟨rfl, by decide⟩⟩
      · rename_i j mi1 n ci hj
        obtain ⟨rfl, rfl, -⟩ := mm_call_in h
        exact ⟨_, 0, _, _, _, hj, by decide, h, Or.inl ⟨rfl, rfl⟩, fun z => by cases z⟩
      · split at h <;> first | (cases h; done) | (split at h <;> cases h)
      · split at h <;> first | (cases h; done) | (split at h <;> cases h)
      · cases h
    · simp only [mm_step] at h
      split at h
      · rename_i j mi1 n ci hj
        obtain ⟨rfl, rfl, -⟩ := mm_call_in h
        exact ⟨_, 1, _, _, _, hj, by decide, h, Or.inr (Or.inl ⟨rfl, rfl⟩), fun z => ⟨rfl, by decide⟩⟩
      · rename_i j mi1 n ci hj
        obtain ⟨rfl, rfl, -⟩ := mm_call_in h
        exact ⟨_, 1, _, _, _, hj, by decide, h, Or.inr (Or.inl ⟨rfl, rfl⟩), fun z => by cases z⟩
      · cases h
    · simp only [mm_step] at h
      split at h
      · split at h <;> first | (cases h; done) | (split at h <;> cases h)
      · cases h
    · simp only [mm_step] at h
      split at h
      · split at h <;> cases h
      · split at h
        · split at h
          · split at h
            · split at h <;> cases h
            · cases h
          · cases h
        · cases h
    · simp only [mm_step] at h
      split at h
      · split at h <;> cases h
      · cases h
