theorem mm_run_ok {L : Nat} {xs : Nat → Int32} {so : Option Nat} (hFN : mm_FN) (hFA : mm_FA) (hFf : ∀ own i ci k ne, mm_tab mm_fldT own i = some (ci, k, ne) → ci < 13) : ∀ (f d : Nat) (M : mm_M) (pc : Nat) (lo : List (Option Value)) (st : List Value) (H : mm_H) (o : Option Value ⊕ Nat) (H1 : mm_H), mm_run f d M pc lo st H = some (o, H1) → mm_wf L xs so H → mm_vok (mm_n H) lo st →
    mm_wf L xs so H1 ∧ mm_le H H1 ∧ ∀ v, o = .inl (some v) → mm_vv (mm_n H1) v := by
  intro f
  induction f with
  | zero => intro d M pc lo st H o H1 h; simp [mm_run] at h
  | succ f ih =>
    intro d M pc lo st H o H1 h hw hv
    rw [mm_run] at h
    split at h
    · cases h
    · rename_i i len hlook
      split at h
      · cases h
      · rename_i pc1 lo1 st1 H2 hstep
        obtain ⟨g1, g2, g3, g4⟩ := mm_step_ok hFN hFA hFf hw hv hstep
        obtain ⟨k1, k2, k3⟩ := ih _ _ _ _ _ _ _ _ h g1 g3
        exact ⟨k1, g2.trans k2, k3⟩
      · rename_i v hstep
        have g := mm_step_ok hFN hFA hFf hw hv hstep
        cases h
        exact ⟨hw, mm_le.refl _, fun x e => by cases e; exact g x rfl⟩
      · rename_i E hstep
        cases h
        exact ⟨hw, ⟨Nat.le_refl _, Nat.le_succ _, Nat.le_add_right _ _⟩, fun x e => by cases e⟩
      · rename_i mi As rest thr hstep
        obtain ⟨g1, g2⟩ := mm_step_ok hFN hFA hFf hw hv hstep
        split at h
        · cases h
        · rename_i d1
          split at h
          · cases h
          · rename_i M1 hM1
            split at h
            · cases h
            · rename_i lo1 hlo1
              split at h
              · cases h
              · rename_i v H2 hrun
                obtain ⟨k1, k2, k3⟩ := ih _ _ _ _ _ _ _ _ hrun hw (mm_enter_vv hlo1 g1)
                have hv2 : mm_vok (mm_n H2) lo (v.toList ++ rest) := by
                  refine ⟨fun j x e => mm_vv_mono k2.1 (hv.1 j x e), fun x hx => ?_⟩
                  rcases List.mem_append.mp hx with hx | hx
                  · cases v with
                    | none => cases hx
                    | some y =>
                      have : x = y := by simpa using hx
                      subst this
                      exact k3 _ rfl
                  · exact mm_vv_mono k2.1 (g2 x hx)
                obtain ⟨q1, q2, q3⟩ := ih _ _ _ _ _ _ _ _ h k1 hv2
                exact ⟨q1, k2.trans q2, q3⟩
              · rename_i E H2 hrun
                obtain ⟨k1, k2, k3⟩ := ih _ _ _ _ _ _ _ _ hrun hw (mm_enter_vv hlo1 g1)
                split at h
                · cases h
                  exact ⟨k1, k2, fun x e => by cases e⟩
                · split at h
                  · cases h
                  · split at h
                    · split at h
                      · cases h
                      · split at h
                        · rename_i hlt
                          obtain ⟨q1, q2, q3⟩ := ih _ _ _ _ _ _ _ _ h k1 (mm_vok_set (st := []) (mm_vok_mono k2.1 ⟨hv.1, fun x hx => by cases hx⟩) hlt (fun x e => by cases e) (fun x hx => by cases hx))
                          exact ⟨q1, k2.trans q2, q3⟩
                        · cases h
                    · split at h
                      · cases h
                      · split at h
                        · rename_i hlt
                          obtain ⟨q1, q2, q3⟩ := ih _ _ _ _ _ _ _ _ h k1 (mm_vok_set (st := []) (mm_vok_mono k2.1 ⟨hv.1, fun x hx => by cases hx⟩) hlt (fun x e => by cases e) (fun x hx => by cases hx))
                          exact ⟨q1, k2.trans q2, q3⟩
                        · cases h
                    · cases h
                · cases h
theorem mm_call_in {H : mm_H} {mi n ci kind : Nat} {thr : Bool} {st : List Value} {mi1 : Nat} {As1 rest : List Value} {thr1 : Bool} (h : mm_call H mi n ci kind thr st = some (.inr (.inr (.inl (mi1, As1, rest, thr1))))) : mi1 = mi ∧ thr1 = thr ∧ mm_cat rest ≤ 8 ∧
    ∃ As : List Value, As.length = n ∧ ((kind = 0 ∧ As1 = As ∧ st = As.reverse ++ rest) ∨ (kind ≠ 0 ∧ ∃ b, As1 = .ref b :: As ∧ st = As.reverse ++ .ref b :: rest ∧ (kind = 1 → (mm_sh H b).1 = ci))) := by
  unfold mm_call at h
  split at h
  · cases h
  · rename_i As st1 hp
    obtain ⟨e1, e2⟩ := mm_pop_ok0 hp
    split at h
    · split at h
      · rename_i hc
        cases h
        exact ⟨rfl, rfl, hc, _, e2, Or.inl ⟨rfl, rfl, e1⟩⟩
      · cases h
    · split at h
      · split at h
        · rename_i b r hc
          cases h
          exact ⟨rfl, rfl, hc.2, _, e2, Or.inr ⟨by decide, _, rfl, e1, fun _ => hc.1⟩⟩
        · cases h
      · cases h
    · rename_i k0 k1
      split at h
      · split at h
        · rename_i b r hc
          cases h
          exact ⟨rfl, rfl, hc, _, e2, Or.inr ⟨k0, _, rfl, e1, fun z => absurd z k1⟩⟩
        · cases h
      · cases h
theorem mm_hand_in : ∀ (hh : List (Nat × Nat × Nat × Nat)) (own pc E hp : Nat), mm_hand hh own pc E = some hp → ∃ pre a b ct suf, hh = pre ++ (a, b, hp, ct) :: suf ∧ (a ≤ pc ∧ pc < b) ∧ mm_tab mm_ctT own ct = some E ∧ ∀ z ∈ pre, ¬ (z.1 ≤ pc ∧ pc < z.2.1) ∨ (E = 1 ∧ mm_tab mm_ctT own z.2.2.2 = some 0)
  | [], _, _, _, _, h => by simp [mm_hand] at h
  | (a, b, h1, ct) :: r, own, pc, E, hp, h => by
    rw [mm_hand] at h
    split at h
    · rename_i hc
      split at h
      · rename_i E1 hE
        split at h
        · rename_i e
          cases h
          subst e
          exact ⟨[], a, b, ct, r, rfl, hc, hE, fun z hz => by cases hz⟩
        · split at h
          · rename_i e2
            obtain ⟨pre, a2, b2, ct2, suf, g1, g2, g3, g4⟩ := mm_hand_in r own pc E hp h
            refine ⟨(a, b, h1, ct) :: pre, a2, b2, ct2, suf, by rw [g1]; rfl, g2, g3, fun z hz => ?_⟩
            rcases List.mem_cons.mp hz with rfl | hz
            · exact Or.inr ⟨e2.1, by rw [hE, e2.2]⟩
            · exact g4 z hz
          · cases h
      · cases h
    · rename_i hc
      obtain ⟨pre, a2, b2, ct2, suf, g1, g2, g3, g4⟩ := mm_hand_in r own pc E hp h
      refine ⟨(a, b, h1, ct) :: pre, a2, b2, ct2, suf, by rw [g1]; rfl, g2, g3, fun z hz => ?_⟩
      rcases List.mem_cons.mp hz with rfl | hz
      · exact Or.inl hc
      · exact g4 z hz
