/-! a line that tells a TRUNK; HEAT; a rule -/
section LT
variable {B : Int → Int} {n : Int} {ld : Nat} {d : Int} {gA gB : mz_G}
theorem X9_get {q0 : Nat} {i : Int} {g : mz_G} (h0 : 0 ≤ i) (h1 : i < 6) : zF_X9_get q0 i g = q0 + 3 + i.toNat := by
  unfold zF_X9_get
  simp only [zf_lq]
  rw [if_neg (by omega), if_pos (by omega)]
  omega
theorem line_trunk {s : Int} (hs : s = 0 ∨ s = 1) (hn : n ≤ 700) (hB : ∀ a, 0 ≤ B a) (hld : ld = 1 ∨ ld = 41) (h : ln_k B n gA gB) (t : td_k ld gA gB d) : lo_k B n ld d (zF_X4_readTrunk ld s gA) (zF_X12_sayTrunk s gB) := by
  have hb := h.2.2.2.2
  have t0 := t
  obtain ⟨⟨w1, w2, w3, w4⟩, ⟨p1, p2, p3, p4⟩, -⟩ := t0
  obtain ⟨o1, o2⟩ := another_k (k := 1) (most := 6) hb
  unfold zF_X4_readTrunk zF_X12_sayTrunk zF_X10_many
  simp only [zf_lq]
  rw [p1]
  by_cases c6 : gB 140 5 < 6
  · rw [if_pos c6, o2 (by show gB 140 5 ≠ 6; omega)]
    unfold zf_m2
    dsimp only
    rw [if_neg (show ¬ (1 : Int) = 0 by decide)]
    obtain ⟨h2, fA, fB⟩ := ln_step hn hB h
    have t2 := td_fr t (tkA hld fA) (rtB fB)
    have e5 : zF_X12_stepOn gB 140 5 = gB 140 5 := fB 140 5 (by unfold fw_rt; omega)
    have e4 : zF_X12_stepOn gB 140 4 = gB 140 4 := fB 140 4 (by unfold fw_rt; omega)
    have ew : zF_X7_step gA (ld + 1) 3 = gB 140 4 := by rw [t2.1.1, e4]
    generalize zF_X7_step gA = a2 at *
    generalize zF_X12_stepOn gB = b2 at *
    rw [e5, ew]
    obtain ⟨c, hc⟩ : ∃ c : Nat, gB 140 5 = (c : Int) := ⟨(gB 140 5).toNat, by omega⟩
    rw [hc] at e5 c6 ⊢
    rw [show (6 + (c : Int)).toNat = 6 + c by omega]
    -- the first writing
    have h4 : ln_k B n a2 (mz_up b2 144 (6 + c) s) := ln_B h2 (fr_up (by unfold wB; omega))
    have m4 : mz_up b2 144 (6 + c) s 140 4 = gB 140 4 := (up_k (by decide)).trans e4
    rcases rw_k hn hB m4 w3 h4 with ⟨v1, r1, r2, r3, r4⟩ | ⟨v, a, b, r1, r2, r3, r4⟩
    · rw [r1, r2]
      dsimp only
      rw [if_neg (by omega)]
      obtain ⟨h6, fA6, fB6⟩ := ln_step hn hB h4
      generalize zF_X7_step a2 = a6 at *
      generalize hg6 : zF_X12_stepOn (mz_up b2 144 (6 + c) s) = b6 at *
      have h7 : ln_k B n a6 (mz_up b6 145 (6 + c) v1) := ln_B h6 (fr_up (by unfold wB; omega))
      have m7 : mz_up b6 145 (6 + c) v1 140 4 = gB 140 4 := (up_k (by decide)).trans ((fB6 140 4 (by unfold fw_rt; omega)).trans m4)
      rcases rw_k hn hB m7 w3 h7 with ⟨v2, s1, s2, s3, s4⟩ | ⟨v, a, b, s1, s2, s3, s4⟩
      · rw [s1, s2]
        dsimp only
        unfold zJ_X4_readTrunk_59
        rw [if_neg (by omega)]
        obtain ⟨h9, fA9, fB9⟩ := ln_step hn hB h7
        generalize zF_X7_step a6 = a9 at *
        generalize hg9 : zF_X12_stepOn (mz_up b6 145 (6 + c) v1) = b9 at *
        have h10 : ln_k B n a9 (mz_up b9 146 (6 + c) v2) := ln_B h9 (fr_up (by unfold wB; omega))
        rcases rn_k hn hB (most := 9) h10 with ⟨v3, q1, q2, q3, q4⟩ | ⟨f, a, b, hf, q1, q2, q3⟩
        · rw [q1, q2]
          unfold zf_m2
          dsimp only
          unfold zJ_X4_readTrunk_78
          rw [if_neg (by omega)]
          obtain ⟨h12, fA12, fB12⟩ := ln_step hn hB h10
          have FA : mz_fr fw_tk a2 (zF_X7_step a9) := fr_tr fA6 (fr_tr fA9 fA12)
          have FB : mz_fr (fun a b => fw_rt a b ∨ ((a = 144 ∨ a = 145 ∨ a = 146) ∧ b = 6 + c)) b2 (zF_X12_stepOn (mz_up b9 146 (6 + c) v2)) := by
            refine fr_tr (fr_up (Or.inr ⟨Or.inl rfl, rfl⟩)) (fr_tr (fr_le fB6 (fun a b z => Or.inl z)) (fr_tr (fr_up (Or.inr ⟨Or.inr (Or.inl rfl), rfl⟩)) (fr_tr (fr_le fB9 (fun a b z => Or.inl z)) (fr_tr (fr_up (Or.inr ⟨Or.inr (Or.inr rfl), rfl⟩)) (fr_le fB12 (fun a b z => Or.inl z))))))
          have k144 : zF_X12_stepOn (mz_up b9 146 (6 + c) v2) 144 (6 + c) = s := (fB12 144 _ (by unfold fw_rt; omega)).trans ((up_k (by decide)).trans ((fB9 144 _ (by unfold fw_rt; omega)).trans ((up_k (by decide)).trans ((fB6 144 _ (by unfold fw_rt; omega)).trans (mz_up_at ..)))))
          have k145 : zF_X12_stepOn (mz_up b9 146 (6 + c) v2) 145 (6 + c) = v1 := (fB12 145 _ (by unfold fw_rt; omega)).trans ((up_k (by decide)).trans ((fB9 145 _ (by unfold fw_rt; omega)).trans (mz_up_at ..)))
          have k146 : zF_X12_stepOn (mz_up b9 146 (6 + c) v2) 146 (6 + c) = v2 := (fB12 146 _ (by unfold fw_rt; omega)).trans (mz_up_at ..)
          generalize zF_X7_step a9 = a12 at *
          generalize zF_X12_stepOn (mz_up b9 146 (6 + c) v2) = b12 at *
          unfold zJ_X4_readTrunk_100
          rw [zf_lq, if_neg (show ¬ v3 = -1 by omega)]
          have n26 : a12 (ld + 26) 2 = (c : Int) := by rw [FA _ _ (by unfold fw_tk; omega), t2.2.1.1, e5]
          have eT : zF_X9_addTrunk (ld + 26) v1 v2 v3 s a12 = mz_up (mz_up (mz_up (mz_up (mz_up (mz_up a12 (ld + 29 + c) 0 v1) (ld + 29 + c) 1 v2) (ld + 29 + c) 2 v3) (ld + 29 + c) 3 0) (ld + 29 + c) 4 s) (ld + 26) 2 ((c : Int) + 1) := by
            unfold zF_X9_addTrunk
            simp only [zf_lq]
            rw [n26, if_pos c6, X9_get (by omega) c6, show ((c : Int)).toNat = c by omega, show ld + 26 + 3 + c = ld + 29 + c by omega, show mz_up (mz_up (mz_up (mz_up (mz_up a12 (ld + 29 + c) 0 v1) (ld + 29 + c) 1 v2) (ld + 29 + c) 2 v3) (ld + 29 + c) 3 0) (ld + 29 + c) 4 s (ld + 26) 2 = (c : Int) from (up_k (by omega)).trans ((up_k (by omega)).trans ((up_k (by omega)).trans ((up_k (by omega)).trans ((up_k (by omega)).trans n26))))]
          rw [eT]
          have n140 : mz_up b12 147 (6 + c) v3 140 5 = (c : Int) := (up_k (by decide)).trans ((FB 140 5 (by unfold fw_rt; omega)).trans e5)
          show lo_k B n ld d (1, _) (mz_up (mz_up b12 147 (6 + c) v3) 140 5 (mz_up b12 147 (6 + c) v3 140 5 + 1))
          rw [n140]
          generalize hA : mz_up (mz_up (mz_up (mz_up (mz_up (mz_up a12 (ld + 29 + c) 0 v1) (ld + 29 + c) 1 v2) (ld + 29 + c) 2 v3) (ld + 29 + c) 3 0) (ld + 29 + c) 4 s) (ld + 26) 2 ((c : Int) + 1) = aZ
          generalize hZ : mz_up (mz_up b12 147 (6 + c) v3) 140 5 ((c : Int) + 1) = bZ
          have ZA : mz_fr (fun a b => a = ld + 29 + c ∨ (a = ld + 26 ∧ b = 2)) a12 aZ := by
            rw [← hA]
            exact fr_tr (fr_up (Or.inl rfl)) (fr_tr (fr_up (Or.inl rfl)) (fr_tr (fr_up (Or.inl rfl)) (fr_tr (fr_up (Or.inl rfl)) (fr_tr (fr_up (Or.inl rfl)) (fr_up (Or.inr ⟨rfl, rfl⟩))))))
          have ZB : mz_fr (fun a b => (a = 147 ∧ b = 6 + c) ∨ (a = 140 ∧ b = 5)) b12 bZ := by
            rw [← hZ]
            exact fr_tr (fr_up (Or.inl ⟨rfl, rfl⟩)) (fr_up (Or.inr ⟨rfl, rfl⟩))
          have cA : ∀ a b : Nat, a ≠ 82 → a ≠ ld + 29 + c → ¬ (a = ld + 26 ∧ b = 2) → aZ a b = a2 a b := fun a b x y z => (ZA a b (by omega)).trans (FA a b (by unfold fw_tk; omega))
          have cB : ∀ a b : Nat, a ≠ 137 → ¬ (a = 140 ∧ b = 5) → ¬ ((a = 144 ∨ a = 145 ∨ a = 146 ∨ a = 147) ∧ b = 6 + c) → bZ a b = b2 a b := fun a b x y z => (ZB a b (by omega)).trans (FB a b (by unfold fw_rt; omega))
          refine Or.inl ⟨rfl, ?_, ?_⟩
          · exact ln_B (ln_A h12 (fr_le ZA (fun a b z => by unfold wA; omega))) (fr_le ZB (fun a b z => by unfold wB; omega))
          · show td_k ld aZ bZ d
            obtain ⟨⟨w1', w2', w3', w4'⟩, ⟨p1', p2', p3', p4'⟩, ⟨y1, y2, y3, y4⟩, ⟨z1, z2, z3⟩, d1, d2, d3⟩ := t2
            have n5 : bZ 140 5 = (c : Int) + 1 := by rw [← hZ, mz_up_at]
            have n4 : bZ 140 4 = gB 140 4 := by rw [cB _ _ (by decide) (by decide) (by omega)]; exact e4
            have n6 : bZ 140 6 = b2 140 6 := cB _ _ (by decide) (by decide) (by omega)
            have n7 : bZ 140 7 = b2 140 7 := cB _ _ (by decide) (by decide) (by omega)
            refine ⟨⟨?_, ?_, ?_, fun i hi => ?_⟩, ⟨?_, ?_, ?_, fun i hi => ?_⟩, ⟨?_, ?_, ?_, fun i hi => ?_⟩, ⟨?_, ?_, fun i hi => ?_⟩, d1, ?_, ?_⟩
            · rw [cA _ _ (by omega) (by omega) (by omega), n4]; exact ew
            · rw [n4]; exact w2
            · rw [n4]; exact w3
            · rw [n4] at hi
              rw [cA _ _ (by omega) (by omega) (by omega), cB 142 _ (by decide) (by omega) (by omega), cA (ld + 5) _ (by omega) (by omega) (by omega), cB 143 _ (by decide) (by omega) (by omega)]
              obtain ⟨u1, u2, u3, u4, u5⟩ := w4' i (by rw [e4]; exact hi)
              refine ⟨u1, u2, u3, fun j hj => ?_, u5⟩
              rw [cA _ _ (by omega) (by omega) (by omega), cB 141 _ (by decide) (by omega) (by omega)]
              exact u4 j hj
            · rw [n5, ← hA, mz_up_at]
            · rw [n5]; omega
            · rw [n5]; omega
            · rw [n5] at hi
              by_cases ic : i = c
              · rw [ic]
                have q0 : aZ (ld + 29 + c) 0 = v1 := by rw [← hA, up_k (by omega), up_j (by decide), up_j (by decide), up_j (by decide), up_j (by decide), mz_up_at]
                have q1' : aZ (ld + 29 + c) 1 = v2 := by rw [← hA, up_k (by omega), up_j (by decide), up_j (by decide), up_j (by decide), mz_up_at]
                have q2' : aZ (ld + 29 + c) 2 = v3 := by rw [← hA, up_k (by omega), up_j (by decide), up_j (by decide), mz_up_at]
                have q3' : aZ (ld + 29 + c) 3 = 0 := by rw [← hA, up_k (by omega), up_j (by decide), mz_up_at]
                have q4' : aZ (ld + 29 + c) 4 = s := by rw [← hA, up_k (by omega), mz_up_at]
                have x145 : bZ 145 (6 + c) = v1 := by rw [ZB 145 _ (by omega)]; exact k145
                have x146 : bZ 146 (6 + c) = v2 := by rw [ZB 146 _ (by omega)]; exact k146
                have x144 : bZ 144 (6 + c) = s := by rw [ZB 144 _ (by omega)]; exact k144
                have x147 : bZ 147 (6 + c) = v3 := by rw [← hZ, up_k (by decide), mz_up_at]
                rw [q0, q1', q2', q3', q4', x145, x146, x147, x144, n4]
                exact ⟨rfl, rfl, rfl, rfl, rfl, ⟨r3, r4⟩, ⟨s3, s4⟩, ⟨q3, q4⟩, hs⟩
              · rw [cA _ 0 (by omega) (by omega) (by omega), cA _ 1 (by omega) (by omega) (by omega), cA _ 2 (by omega) (by omega) (by omega), cA _ 3 (by omega) (by omega) (by omega), cA _ 4 (by omega) (by omega) (by omega), cB 145 _ (by decide) (by omega) (by omega), cB 146 _ (by decide) (by omega) (by omega), cB 147 _ (by decide) (by omega) (by omega), cB 144 _ (by decide) (by omega) (by omega), n4]
                have := p4' i (by rw [e5]; omega)
                rw [e4] at this
                exact this
            · rw [cA _ _ (by omega) (by omega) (by omega), n6]; exact y1
            · rw [n6]; exact y2
            · rw [n6]; exact y3
            · rw [n6] at hi
              rw [cA _ _ (by omega) (by omega) (by omega), cB 148 _ (by decide) (by omega) (by omega)]
              exact y4 i hi
            · rw [cA _ _ (by omega) (by omega) (by omega), n7]; exact z1
            · rw [n7]; exact z2
            · rw [n7] at hi
              rw [cA _ _ (by omega) (by omega) (by omega), cB 149 _ (by decide) (by omega) (by omega)]
              exact z3 i hi
            · rw [n6]; exact d2
            · rw [n7]; exact d3
        · rw [q1, q2]
          unfold zf_m2
          dsimp only
          unfold zJ_X4_readTrunk_78
          rw [if_pos rfl]
          unfold zJ_X4_readTrunk_100
          rw [if_pos rfl]
          refine Or.inr ⟨rfl, q3.1, ?_, ?_⟩
          · rw [up_k (by decide), up_k (by decide)]; exact q3.2.1
          · rw [up_k (by decide), up_k (by decide)]; exact q3.2.2
      · rw [s1, s2]
        dsimp only
        unfold zJ_X4_readTrunk_59
        rw [if_pos rfl]
        unfold zJ_X4_readTrunk_78
        rw [if_pos rfl]
        unfold zJ_X4_readTrunk_100
        rw [if_pos rfl]
        rw [(num_bad (g := mz_up b 146 (6 + c) v) (by rw [up_k (by decide)]; exact s4)).1]
        dsimp only
        refine Or.inr ⟨rfl, s3.1, ?_, ?_⟩
        · rw [up_k (by decide), up_k (by decide), up_k (by decide)]; exact s3.2.1
        · rw [up_k (by decide), up_k (by decide), up_k (by decide)]; exact s3.2.2
    · rw [r1, r2]
      dsimp only
      rw [if_pos rfl]
      unfold zJ_X4_readTrunk_59
      rw [if_pos rfl]
      unfold zJ_X4_readTrunk_78
      rw [if_pos rfl]
      unfold zJ_X4_readTrunk_100
      rw [if_pos rfl]
      rw [(num_bad (g := mz_up b 145 (6 + c) v) (a := 0) (b := 9) (by rw [up_k (by decide)]; exact r4)).2]
      dsimp only
      rw [(num_bad (g := mz_up (mz_up b 145 (6 + c) v) 146 (6 + c) 0) (by rw [up_k (by decide), up_k (by decide)]; exact r4)).1]
      dsimp only
      refine Or.inr ⟨rfl, r3.1, ?_, ?_⟩
      · rw [up_k (by decide), up_k (by decide), up_k (by decide), up_k (by decide)]; exact r3.2.1
      · rw [up_k (by decide), up_k (by decide), up_k (by decide), up_k (by decide)]; exact r3.2.2
  · rw [if_neg c6, o1 (by show gB 140 5 = 6; omega)]
    unfold zf_m2
    dsimp only
    rw [if_pos rfl]
    exact lo_bl h (by decide)
end LT
