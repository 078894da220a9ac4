/-! A LINE of heat, of both -/
section LI
variable {B : Int → Int} {n : Int} {ld : Nat} {d : Int} {gA gB : mz_G}
theorem td_addheat {d' v : Int} {a2 b2 a' b' : mz_G} {c : Nat} (hld : ld = 1 ∨ ld = 41) (t : td_k ld a2 b2 d) (e6 : b2 140 6 = (c : Int)) (c8 : (c : Int) < 8)
    (hd : (d' = 1 ∨ d' = 3) ∧ (2 ≤ d' ↔ 2 ≤ d)) (hv : 0 ≤ v ∧ v ≤ 9)
    (cA : ∀ a b : Nat, a ≠ 82 → a ≠ ld + 35 → ¬ (a = ld ∧ b = 3) → a' a b = a2 a b)
    (n3 : a' ld 3 = (c : Int) + 1) (n5 : a' (ld + 35) c = v) (n5' : ∀ i : Nat, i ≠ c → a' (ld + 35) i = a2 (ld + 35) i)
    (cB : ∀ a b : Nat, a ≠ 137 → a ≠ 140 → a ≠ 148 → b' a b = b2 a b) (cB0 : ∀ j : Nat, j ≠ 6 → b' 140 j = b2 140 j) (k6 : b' 140 6 = (c : Int) + 1)
    (k8 : b' 148 (8 + c) = v) (k8' : ∀ j : Nat, j ≠ 8 + c → b' 148 j = b2 148 j) : td_k ld a' b' d' := by
  obtain ⟨⟨w1, w2, w3, w4⟩, ⟨p1, p2, p3, p4⟩, ⟨y1, y2, y3, y4⟩, ⟨z1, z2, z3⟩, d1, d2, d3⟩ := t
  refine ⟨⟨?_, ?_, ?_, fun i hi => ?_⟩, ⟨?_, ?_, ?_, fun i hi => ?_⟩, ⟨?_, ?_, ?_, fun i hi => ?_⟩, ⟨?_, ?_, fun i hi => ?_⟩, by omega, ?_, ?_⟩
  · rw [cB0 4 (by decide), cA _ _ (by omega) (by omega) (by omega)]; exact w1
  · rw [cB0 4 (by decide)]; exact w2
  · rw [cB0 4 (by decide)]; exact w3
  · rw [cB0 4 (by decide)] at hi
    obtain ⟨u1, u2, u3, u4, u5⟩ := w4 i hi
    rw [cA _ _ (by omega) (by omega) (by omega), cB 142 _ (by decide) (by decide) (by decide), cA (ld + 5) _ (by omega) (by omega) (by omega), cB 143 _ (by decide) (by decide) (by decide)]
    refine ⟨u1, u2, u3, fun j hj => ?_, u5⟩
    rw [cA _ _ (by omega) (by omega) (by omega), cB 141 _ (by decide) (by decide) (by decide)]
    exact u4 j hj
  · rw [cB0 5 (by decide), cA _ _ (by omega) (by omega) (by omega)]; exact p1
  · rw [cB0 5 (by decide)]; exact p2
  · rw [cB0 5 (by decide)]; exact p3
  · rw [cB0 5 (by decide)] at hi
    have r1 : ∀ j : Nat, a' (ld + 29 + i) j = a2 (ld + 29 + i) j := fun j => cA _ _ (by omega) (by omega) (by omega)
    rw [r1, r1, r1, r1, r1, cB 145 _ (by decide) (by decide) (by decide), cB 146 _ (by decide) (by decide) (by decide), cB 147 _ (by decide) (by decide) (by decide), cB 144 _ (by decide) (by decide) (by decide), cB0 4 (by decide)]
    exact p4 i hi
  · rw [n3, k6]
  · rw [k6]; omega
  · rw [k6]; omega
  · rw [k6] at hi
    by_cases ic : i = c
    · rw [ic, n5, k8]
      exact ⟨rfl, hv.1, hv.2⟩
    · rw [n5' i ic, k8' _ (by omega)]
      exact y4 i (by omega)
  · rw [cB0 7 (by decide), cA _ _ (by omega) (by omega) (by omega)]; exact z1
  · rw [cB0 7 (by decide)]; exact z2
  · rw [cB0 7 (by decide)] at hi
    rw [cA _ _ (by omega) (by omega) (by omega), cB 149 _ (by decide) (by decide) (by decide)]
    exact z3 i hi
  · rw [k6]
    exact ⟨fun _ => by omega, fun _ => hd.1⟩
  · rw [cB0 7 (by decide)]
    exact hd.2.trans d3
theorem L17_bad {k : Nat} {g : mz_G} (h : g 137 22 ≠ 0) : zL_X12_sayHeat_17 (k + 1) g = g := by
  rw [zL_X12_sayHeat_17_s]
  unfold zB_X12_sayHeat_17
  simp only [zf_lq]
  rw [if_neg h]
theorem J80_bad {k : Nat} {g : mz_G} (h : g 137 22 ≠ 0) : ∃ g1, zJ_X12_sayHeat_80 (zL_X12_sayHeat_17 (k + 1)) g = g1 ∧ g1 137 22 = g 137 22 ∧ g1 137 23 = g 137 23 := by
  refine ⟨_, rfl, ?_⟩
  unfold zJ_X12_sayHeat_80 zJ_X12_sayHeat_100
  simp only [zf_lq]
  rw [if_neg h, L17_bad (by rw [up_k (by decide)]; exact h)]
  exact ⟨up_k (by decide), up_k (by decide)⟩
theorem J49_bad {k : Nat} {g : mz_G} (h : g 137 22 ≠ 0) : ∃ g1, zJ_X12_sayHeat_49 (zL_X12_sayHeat_17 (k + 1)) g = g1 ∧ g1 137 22 = g 137 22 ∧ g1 137 23 = g 137 23 := by
  obtain ⟨g1, e, e1, e2⟩ := J80_bad (k := k) h
  refine ⟨g1, ?_, e1, e2⟩
  unfold zJ_X12_sayHeat_49
  rw [(num_bad h).1]
  unfold zf_m2
  simp only [zf_lq]
  rw [if_neg h]
  exact e
theorem fa_of {a b b1 : mz_G} (h : fa_k a b) (e1 : b1 137 22 = b 137 22) (e2 : b1 137 23 = b 137 23) : fa_k a b1 := ⟨h.1, e1.trans h.2.1, e2.trans h.2.2⟩
theorem X1_addHeat {v : Int} {c : Nat} {g : mz_G} (e : g ld 3 = (c : Int)) (c8 : (c : Int) < 8) : zF_X1_addHeat ld v g = mz_up (mz_up g (ld + 35) c v) ld 3 ((c : Int) + 1) := by
  unfold zF_X1_addHeat
  simp only [zf_lq]
  rw [e, if_pos c8, X11_put (by omega) (by omega), show ((c : Int)).toNat = c by omega, show mz_up g (ld + 35) c v ld 3 = (c : Int) from (up_k (by omega)).trans e]
theorem L_heat (hn : n ≤ 700) (hB : ∀ a, 0 ≤ B a) (hld : ld = 1 ∨ ld = 41) (hd : d = 0 ∨ d = 2) : ∀ (m kA kB : Nat) (gA gB : mz_G) (c : Nat), 8 - c < m → m ≤ kA → m + 1 ≤ kB → ln_k B n gA gB → td_k ld gA gB (if c = 0 then d else d + 1) → gB 140 6 = (c : Int) → (0 < c ∨ gA 82 4 = 2) → lo_k B n ld (d + 1) (zL_X4_readHeat_22 ld kA (c : Int) gA) (zL_X12_sayHeat_17 kB gB) := by
  intro m
  induction m with
  | zero => intro kA kB gA gB c h; exact absurd h (Nat.not_lt_zero _)
  | succ m ih =>
    intro kA kB gA gB c hm hkA hkB h t e6 h0
    obtain ⟨kA, rfl⟩ : ∃ k1, kA = k1 + 1 := ⟨kA - 1, by omega⟩
    obtain ⟨kB, rfl⟩ : ∃ k1, kB = k1 + 1 + 1 := ⟨kB - 2, by omega⟩
    have hb := h.2.2.2.2
    have e := ln_eq h
    have kd := (rs_kd h.2.1).2.1
    rw [e.2.2.1] at kd
    have c8 : (c : Int) ≤ 8 := by have := t.2.2.1.2.2.1; omega
    have eA : gA ld 3 = (c : Int) := by rw [t.2.2.1.1]; exact e6
    rw [zL_X4_readHeat_22_s, zL_X12_sayHeat_17_s]
    unfold zB_X4_readHeat_22 zB_X12_sayHeat_17 zF_X7_kind
    simp only [zf_lq]
    rw [if_pos hb]
    by_cases k2 : gA 82 4 = 2
    · rw [if_pos k2, if_pos k2, if_pos (kd.mp k2), e6]
      by_cases l8 : (c : Int) < 8
      · rw [if_pos l8, ite_self, if_neg (show ¬ (c : Int) = 8 by omega)]
        unfold zJ_X4_readHeat_45 zJ_X12_sayHeat_49
        rcases rn_k hn hB (most := 9) h with ⟨v, r1, r2, r3, r4⟩ | ⟨f, a, b, hf, r1, r2, r3⟩
        · rw [r1, r2]
          unfold zf_m2
          dsimp only
          rw [if_neg (show ¬ v = -1 by omega), zf_lq, zf_lq]
          obtain ⟨h1, fA, fB⟩ := ln_step hn hB h
          have t1 := td_fr t (tkA hld fA) (rtB fB)
          have e61 : zF_X12_stepOn gB 140 6 = (c : Int) := (fB 140 6 (by unfold fw_rt; omega)).trans e6
          have eA1 : zF_X7_step gA ld 3 = (c : Int) := (fA ld 3 (by unfold fw_tk; omega)).trans eA
          generalize zF_X7_step gA = a1 at *
          generalize zF_X12_stepOn gB = b1 at *
          rw [X1_addHeat eA1 l8, if_pos h1.2.2.2.2, zf_lq, e61, zf_lq, show (8 + (c : Int)).toNat = 8 + c by omega]
          unfold zJ_X12_sayHeat_80 zJ_X12_sayHeat_100
          rw [zf_lq, zf_lq, show mz_up b1 148 (8 + c) v 137 22 = 0 from (up_k (by decide)).trans h1.2.2.2.2, if_pos rfl, zf_lq, show mz_up b1 148 (8 + c) v 140 6 = (c : Int) from (up_k (by decide)).trans e61]
          show lo_k B n ld (d + 1) (zL_X4_readHeat_22 ld kA ((c : Int) + 1) (mz_up (mz_up a1 (ld + 35) c v) ld 3 ((c : Int) + 1))) (zL_X12_sayHeat_17 (kB + 1) (mz_up (mz_up b1 148 (8 + c) v) 140 6 ((c : Int) + 1)))
          have := ih kA (kB + 1) (mz_up (mz_up a1 (ld + 35) c v) ld 3 ((c : Int) + 1)) (mz_up (mz_up b1 148 (8 + c) v) 140 6 ((c : Int) + 1)) (c + 1) (by omega) (by omega) (by omega) ?_ ?_ (mz_up_at ..) (Or.inl (by omega))
          · exact this
          · refine ln_B (ln_A h1 ?_) ?_
            · exact fr_tr (fr_up (by unfold wA; omega)) (fr_up (by unfold wA; omega))
            · exact fr_tr (fr_up (by unfold wB; omega)) (fr_up (by unfold wB; omega))
          · rw [if_neg (by omega)]
            refine td_addheat (v := v) hld t1 e61 l8 ⟨by omega, ?_⟩ ⟨r3, r4⟩ (fun a b x1 x2 x3 => (mz_up_ne x3).trans (up_k x2)) (mz_up_at ..) ((up_k (by omega)).trans (mz_up_at ..)) (fun i hi => (up_k (by omega)).trans (up_j hi)) (fun a b x1 x2 x3 => (up_k x2).trans (up_k x3)) (fun j hj => (up_j hj).trans (up_k (by decide))) (mz_up_at ..) ((up_k (by decide)).trans (mz_up_at ..)) (fun j hj => (up_k (by decide)).trans (up_j hj))
            split <;> omega
        · rw [r1, r2]
          unfold zf_m2
          dsimp only
          rw [if_pos rfl, zf_lq, if_neg (show ¬ b 137 22 = 0 by rw [r3.2.1]; exact r3.1)]
          obtain ⟨g1, q, q1, q2⟩ := J80_bad (k := kB) (g := b) (by rw [r3.2.1]; exact r3.1)
          rw [q]
          exact Or.inr ⟨rfl, fa_of r3 q1 q2⟩
      · rw [if_neg l8, if_pos (show (c : Int) = 8 by omega), X4_blame]
        unfold zf_m2
        dsimp only
        rw [if_pos rfl]
        obtain ⟨g1, q, q1, q2⟩ := J49_bad (k := kB) (g := zF_X12_wrong 2 gB) (by rw [(wrong_at hb).1]; decide)
        rw [q]
        exact Or.inr ⟨rfl, fa_of (fa_blame h (by decide)) q1 q2⟩
    · rw [if_neg k2, if_neg k2, if_neg (fun z => k2 (kd.mpr z)), if_pos (show 0 < (c : Int) by omega)]
      unfold zJ_X4_readHeat_90
      rw [ite_self]
      rw [if_neg (by omega)] at t
      exact Or.inl ⟨rfl, h, t⟩
theorem line_heat (hn : n ≤ 700) (hB : ∀ a, 0 ≤ B a) (hld : ld = 1 ∨ ld = 41) (hd : d = 0 ∨ d = 2) (h : ln_k B n gA gB) (t : td_k ld gA gB d) : lo_k B n ld (d + 1) (zF_X4_readHeat ld gA) (zF_X12_sayHeat gB) := by
  have e6 : gB 140 6 = 0 := by
    have := t.2.2.2.2.2.1
    have := t.2.2.1.2.1
    omega
  unfold zF_X4_readHeat zF_X12_sayHeat
  simp only [zf_lq]
  rw [t.2.2.1.1, e6, if_neg (show ¬ (0 : Int) < 0 by decide)]
  obtain ⟨h1, fA, fB⟩ := ln_step hn hB h
  have t1 := td_fr t (tkA hld fA) (rtB fB)
  have e61 : zF_X12_stepOn gB 140 6 = 0 := (fB 140 6 (by unfold fw_rt; omega)).trans e6
  generalize zF_X7_step gA = a1 at *
  generalize zF_X12_stepOn gB = b1 at *
  have e := ln_eq h1
  have kd := (rs_kd h1.2.1).2.1
  rw [e.2.2.1] at kd
  by_cases k2 : a1 82 4 = 2
  · rw [if_pos (kd.mp k2)]
    exact L_heat hn hB hld hd 100 3000000000 3000000000 a1 b1 0 (by decide) (by decide) (by decide) h1 t1 e61 (Or.inr k2)
  · rw [if_neg (fun z => k2 (kd.mpr z))]
    have hb := h1.2.2.2.2
    rw [show (3000000000 : Nat) = 2999999999 + 1 from rfl, L17_bad (by rw [(wrong_at hb).1]; decide), zL_X4_readHeat_22_s]
    unfold zB_X4_readHeat_22 zJ_X4_readHeat_45
    rw [if_pos (by decide), if_neg (by decide), (rn_A (most := 9) (fab := 2) h1).1 k2]
    unfold zf_m2
    dsimp only
    rw [if_pos rfl]
    exact Or.inr ⟨rfl, fa_blame h1 (by decide)⟩
end LI
