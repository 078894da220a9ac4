/-! the levels above the part -/
section LV6
variable {B : Int → Int} {n : Int} {rx : Int → mz_G → mz_G} {a1 : Int}
/-- what a level below gives, from every state without a fault -/
abbrev lvF (B : Int → Int) (n p w : Int) (f : mz_G → mz_G) : Prop := ∀ g : mz_G, rs_k B n g → g 137 22 = 0 → 0 ≤ g 140 7 → lvl B n p w g (f g)
theorem rs_pos {g h : mz_G} {p p1 w : Int} (I : lvi B n p p1 w g h) (hb : h 137 22 = 0) (h7 : 0 ≤ g 140 7) : 0 ≤ h 140 7 := by
  obtain ⟨i1, i2, i3, L, i4, i5⟩ := I
  have := (i4 hb).1.1
  omega
theorem step22 (hn : n ≤ 700) (hB : ∀ a, 0 ≤ B a) {h : mz_G} (i : rs_k B n h) : zF_X12_stepOn h 137 22 = h 137 22 ∧ zF_X12_stepOn h 140 7 = h 140 7 := by
  have := step_keep (rs_step hn hB i).2.2
  exact ⟨this.1, this.2.2.1⟩
theorem prodL (hn : n ≤ 700) (hB : ∀ a, 0 ≤ B a) (hp : lvF B n 7 a1 (zF_X12_readPart rx a1)) {g : mz_G} (h7 : 0 ≤ g 140 7) : ∀ (m k : Nat) (h : mz_G), (n - h 137 20).toNat < m → m + 1 ≤ k → lvi B n 6 7 a1 g h → lvl B n 6 a1 g (zL_X12_readProduct_5 rx a1 k h)
  | 0, _, _, z, _, _ => absurd z (Nat.not_lt_zero _)
  | m + 1, 0, _, _, z, _ => absurd z (by omega)
  | m + 1, k + 1, h, hm, hk, I => by
    have i1 := I.1
    by_cases hb : h 137 22 = 0
    · rw [zL_X12_readProduct_5_s]
      unfold zB_X12_readProduct_5
      simp only [zf_lq]
      obtain ⟨a42, n42⟩ := mk_kd (c := 42) i1 hb (by unfold tk_sgn; omega)
      obtain ⟨a47, n47⟩ := mk_kd (c := 47) i1 hb (by unfold tk_sgn; omega)
      obtain ⟨u22, u7⟩ := step22 hn hB i1
      obtain ⟨-, -, s3⟩ := rs_step hn hB i1
      have J := hp (zF_X12_stepOn h) (rs_step hn hB i1).1 (u22.trans hb) (by rw [u7]; exact rs_pos I hb h7)
      have lh := rs_len i1
      have k0 := rs_kd0 i1
      have go : ∀ (sg v : Int), kd_k B h ≠ 41 → kd_k B h ≠ 59 → kd_k B h ≠ 0 → tk_so B (kd_k B h) (h 137 20) (h 137 16) sg → rk sg = 6 → cm v = sg → lvl B n 6 a1 g (zJ_X12_readProduct_39 rx a1 (zL_X12_readProduct_5 rx a1 k) v h) := by
        intro sg v h41 h59 hk0 hs hr hv
        unfold zJ_X12_readProduct_39
        simp only [zf_lq]
        obtain ⟨I2, hlt⟩ := lvi_go hn hB (q := 7) I h7 hb h41 h59 hs hr (by decide) (by decide) (by decide) (Or.inl (by decide)) hv J
        have := i1.2.2.2.2.2.2.2 (fun y => hk0 (k0.mpr y))
        have l2 := rs_len I2.1
        exact prodL hn hB hp h7 m k _ (by omega) (by omega) I2
      by_cases c42 : kd_k B h = 42
      · rw [a42 c42, if_neg (by decide)]
        unfold zJ_X12_readProduct_23
        simp only [zf_lq]
        rw [a42 c42, if_neg (by decide)]
        exact go (-18) (-22) (by omega) (by omega) (by omega) (by rw [c42]; exact so_42) (by decide) (by decide)
      · rw [n42 c42, if_pos rfl]
        by_cases c47 : kd_k B h = 47
        · rw [a47 c47, if_neg (by decide)]
          unfold zJ_X12_readProduct_23
          simp only [zf_lq]
          rw [n42 c42, if_pos rfl]
          exact go (-19) (-23) (by omega) (by omega) (by omega) (by rw [c47]; exact so_47) (by decide) (by decide)
        · rw [n47 c47, if_pos rfl]
          exact lvi_x I (fun _ T _ => ⟨fun _ => ⟨c42, c47⟩, fun y => absurd y (by decide), fun y => absurd y (by decide), fun y => absurd y (by decide), fun y => absurd y (by decide)⟩)
    · rw [prodL_bad hb]
      exact lvi_x I (fun z => absurd z hb)
theorem prod_lvl (hn : n ≤ 700) (hB : ∀ a, 0 ≤ B a) (hp : lvF B n 7 a1 (zF_X12_readPart rx a1)) : lvF B n 6 a1 (zF_X12_readProduct rx a1) := fun g h hb h7 => by
  unfold zF_X12_readProduct
  simp only [zf_lq]
  have I := hp g h hb h7
  have l := rs_len I.1
  exact prodL hn hB hp h7 800 3000000000 _ (by omega) (by decide) (lvi_up (by decide) (Or.inl (by decide)) I)
theorem sumL (hn : n ≤ 700) (hB : ∀ a, 0 ≤ B a) (hp : lvF B n 6 a1 (zF_X12_readProduct rx a1)) {g : mz_G} (h7 : 0 ≤ g 140 7) : ∀ (m k : Nat) (h : mz_G), (n - h 137 20).toNat < m → m + 1 ≤ k → lvi B n 5 6 a1 g h → lvl B n 5 a1 g (zL_X12_readSum_5 rx a1 k h)
  | 0, _, _, z, _, _ => absurd z (Nat.not_lt_zero _)
  | m + 1, 0, _, _, z, _ => absurd z (by omega)
  | m + 1, k + 1, h, hm, hk, I => by
    have i1 := I.1
    by_cases hb : h 137 22 = 0
    · rw [zL_X12_readSum_5_s]
      unfold zB_X12_readSum_5
      simp only [zf_lq]
      obtain ⟨a42, n42⟩ := mk_kd (c := 43) i1 hb (by unfold tk_sgn; omega)
      obtain ⟨a47, n47⟩ := mk_kd (c := 45) i1 hb (by unfold tk_sgn; omega)
      obtain ⟨u22, u7⟩ := step22 hn hB i1
      have J := hp (zF_X12_stepOn h) (rs_step hn hB i1).1 (u22.trans hb) (by rw [u7]; exact rs_pos I hb h7)
      have lh := rs_len i1
      have k0 := rs_kd0 i1
      have go : ∀ (sg v : Int), kd_k B h ≠ 41 → kd_k B h ≠ 59 → kd_k B h ≠ 0 → tk_so B (kd_k B h) (h 137 20) (h 137 16) sg → rk sg = 5 → cm v = sg → lvl B n 5 a1 g (zJ_X12_readSum_39 rx a1 (zL_X12_readSum_5 rx a1 k) v h) := by
        intro sg v h41 h59 hk0 hs hr hv
        unfold zJ_X12_readSum_39
        simp only [zf_lq]
        obtain ⟨I2, hlt⟩ := lvi_go hn hB (q := 6) I h7 hb h41 h59 hs hr (by decide) (by decide) (by decide) (Or.inl (by decide)) hv J
        have := i1.2.2.2.2.2.2.2 (fun y => hk0 (k0.mpr y))
        have l2 := rs_len I2.1
        exact sumL hn hB hp h7 m k _ (by omega) (by omega) I2
      by_cases c42 : kd_k B h = 43
      · rw [a42 c42, if_neg (by decide)]
        unfold zJ_X12_readSum_23
        simp only [zf_lq]
        rw [a42 c42, if_neg (by decide)]
        exact go (-16) (-20) (by omega) (by omega) (by omega) (by rw [c42]; exact so_43) (by decide) (by decide)
      · rw [n42 c42, if_pos rfl]
        by_cases c47 : kd_k B h = 45
        · rw [a47 c47, if_neg (by decide)]
          unfold zJ_X12_readSum_23
          simp only [zf_lq]
          rw [n42 c42, if_pos rfl]
          exact go (-17) (-21) (by omega) (by omega) (by omega) (by rw [c47]; exact so_45) (by decide) (by decide)
        · rw [n47 c47, if_pos rfl]
          exact lvi_x I (fun _ T y => ⟨fun _ => y.1 (by decide), fun _ => ⟨c42, c47⟩, fun y => absurd y (by decide), fun y => absurd y (by decide), fun y => absurd y (by decide)⟩)
    · rw [sumL_bad hb]
      exact lvi_x I (fun z => absurd z hb)
theorem sum_lvl (hn : n ≤ 700) (hB : ∀ a, 0 ≤ B a) (hp : lvF B n 6 a1 (zF_X12_readProduct rx a1)) : lvF B n 5 a1 (zF_X12_readSum rx a1) := fun g h hb h7 => by
  unfold zF_X12_readSum
  simp only [zf_lq]
  have I := hp g h hb h7
  have l := rs_len I.1
  exact sumL hn hB hp h7 800 3000000000 _ (by omega) (by decide) (lvi_up (by decide) (Or.inl (by decide)) I)
/-- the nots that are laid behind -/
theorem nots96 : ∀ (m k : Nat) (l2 l3 : Int) (g : mz_G), (l2 - l3).toNat < m → m ≤ k → l3 ≤ l2 → g 137 22 = 0 → 0 ≤ g 140 7 → ly g (zL_X12_readNot_96 rx a1 k l2 l3 g) (List.replicate (l2 - l3).toNat (-13)) ∧ (∀ b : Nat, zL_X12_readNot_96 rx a1 k l2 l3 g 137 b = g 137 b) ∧ mz_fr wl g (zL_X12_readNot_96 rx a1 k l2 l3 g) ∧ mz_fr wr g (zL_X12_readNot_96 rx a1 k l2 l3 g)
  | 0, _, _, _, _, z, _, _, _, _ => absurd z (Nat.not_lt_zero _)
  | m + 1, 0, _, _, _, _, z, _, _, _ => absurd z (by omega)
  | m + 1, k + 1, l2, l3, g, hm, hk, h1, hb, h7 => by
    rw [zL_X12_readNot_96_s]
    unfold zB_X12_readNot_96
    simp only [zf_lq]
    by_cases z : l3 < l2
    · rw [if_pos z]
      have l1 := ly_lay (v := -28) hb h7
      rw [show cm (-28) = -13 from rfl] at l1
      obtain ⟨i1, i2, i3, i4⟩ := nots96 m k l2 (l3 + 1) (zF_X12_lay (-28) g) (by omega) (by omega) (by omega) (by rw [lay_137]; exact hb) (by have := l1.1; omega)
      refine ⟨?_, fun b => (i2 b).trans lay_137, fr_tr lay_wl i3, fr_tr lay_fr i4⟩
      have := ly_tr h7 l1 i1
      rw [show (l2 - l3).toNat = (l2 - (l3 + 1)).toNat + 1 by omega]
      exact this
    · rw [if_neg z, show (l2 - l3).toNat = 0 by omega]
      exact ⟨ly_0 rfl (fun _ => rfl), fun _ => rfl, fr_rf, fr_rf⟩
/-- a test, or none, ahead of the nots: what J94 makes of it -/
theorem J94_lvl {g h h2 : mz_G} {l : Int} {S0 : Unit} (hw : a1 < 6) (h7 : 0 ≤ g 140 7) (hl0 : 0 ≤ l) (hl6 : l ≤ 6) (r2 : rs_k B n h2) (f : mz_fr wl g h2) (hpos : g 137 20 ≤ h2 137 20) (L : List Int) (hly : h2 137 22 = 0 → ly g h2 L ∧ 0 < L.length) (hN : ∀ (S O : List Int), rk (tp S) < 3 → ln_R B n a1 (g 137 20) (g 137 16) (kd_k B g) S O (h 137 20) (h 137 16) (kd_k B h) l 0 0) (hT : ∀ (S O : List Int), rk (tp S) < 3 → lt_R B n a1 (h 137 20) (h 137 16) (kd_k B h) (nt l.toNat S) 1 l O (h2 137 20) (h2 137 16) (kd_k B h2) (h2 137 22) (h2 137 23) L) : lvl B n 3 a1 g (zJ_X12_readNot_94 rx a1 l h2) := by
  unfold zJ_X12_readNot_94
  by_cases hb : h2 137 22 = 0
  · have ly2 := (hly hb).1
    obtain ⟨i1, i2, i3, i4⟩ := nots96 (rx := rx) (a1 := a1) 200 3000000000 l 0 h2 (by omega) (by decide) hl0 hb (by have := ly2.1; omega)
    rw [show (l - 0).toNat = l.toNat by omega] at i1
    generalize hg : zL_X12_readNot_96 rx a1 3000000000 l 0 h2 = g2 at *
    have ek : kd_k B g2 = kd_k B h2 := by unfold kd_k; rw [i2, i2]
    refine ⟨rs_w r2 i4, fr_tr f i3, by rw [i2]; exact hpos, L ++ List.replicate l.toNat (-13), fun _ => ⟨ly_tr h7 ly2 i1, by have := (hly hb).2; rw [List.length_append]; omega⟩, fun S nc k O ok => ?_⟩
    obtain ⟨o1, o2⟩ := ok.2.2 (by decide)
    rw [i2, i2, i2, i2, ek, o1, o2]
    exact lv_nots (hN S O ok.1) ok.1 rfl (hT S O ok.1)
  · rw [nots96_bad 200 3000000000 l 0 (by omega) (by decide) hb]
    refine ⟨r2, f, hpos, L, fun z => absurd z hb, fun S nc k O ok => ?_⟩
    obtain ⟨o1, o2⟩ := ok.2.2 (by decide)
    rw [o1, o2]
    have := lv_nots (hN S O ok.1) ok.1 rfl (hT S O ok.1)
    exact ⟨fun z => absurd z hb, this.2⟩
theorem notL (hn : n ≤ 700) (hB : ∀ a, 0 ≤ B a) (hw : a1 < 6) (hp : lvF B n 5 a1 (zF_X12_readSum rx a1)) {g : mz_G} (h7 : 0 ≤ g 140 7) : ∀ (m k : Nat) (h : mz_G) (l : Int), (n - h 137 20).toNat < m → m + 2 ≤ k → 0 ≤ l → l ≤ 6 → rs_k B n h → h 137 22 = 0 → mz_fr wl g h → g 137 20 ≤ h 137 20 → h 140 7 = g 140 7 → (∀ j, h 149 j = g 149 j) → (∀ (S O : List Int), rk (tp S) < 3 → ln_R B n a1 (g 137 20) (g 137 16) (kd_k B g) S O (h 137 20) (h 137 16) (kd_k B h) l 0 0) → lvl B n 3 a1 g (zL_X12_readNot_2 rx a1 k l h)
  | 0, _, _, _, z, _, _, _, _, _, _, _, _, _, _ => absurd z (Nat.not_lt_zero _)
  | m + 1, 0, _, _, _, z, _, _, _, _, _, _, _, _, _ => absurd z (by omega)
  | m + 1, k + 1, h, l, hm, hk, hl0, hl6, i1, hb, f, hpos, e7, e149, hN => by
    rw [zL_X12_readNot_2_s]
    unfold zB_X12_readNot_2
    simp only [zf_lq]
    obtain ⟨a24, n24⟩ := is_kd (q := 24) (by decide) i1 hb
    obtain ⟨s1, s2, s3⟩ := rs_step hn hB i1
    obtain ⟨u22, u23, u7, u149⟩ := step_keep s3
    have lh := rs_len i1
    have sl := tk_tok_len s2
    by_cases c24 : tk_sp B (kd_k B h) (h 137 20) (h 137 16) 24
    · rw [a24 c24, if_neg (by decide)]
      by_cases l6 : l = 6
      · rw [if_pos l6]
        unfold zJ_X12_readNot_23
        simp only [zf_lq]
        obtain ⟨e1, e2⟩ := wrong_at (v := 2) hb
        have e20 : zF_X12_wrong 2 h 137 20 = h 137 20 := wrong_fr 137 20 (by unfold wr; omega)
        rw [if_neg (by rw [e1]; decide)]
        obtain ⟨k1, rfl⟩ : ∃ k1, k = k1 + 1 := ⟨k - 1, by omega⟩
        rw [notL_bad (by omega) (by rw [e1]; decide)]
        refine ⟨rs_w i1 wrong_fr, fr_tr f wrong_wl, by rw [e20]; exact hpos, [], fun z => absurd (e1.symm.trans z) (by decide), fun S nc kk O ok => ?_⟩
        obtain ⟨o1, o2⟩ := ok.2.2 (by decide)
        rw [e1, e2, o1, o2]
        exact lv_nbad (b1 := 0) (e1 := 0) (kd1 := 0) (ln_6 (b2 := 0) (e2 := 0) (kd2 := 0) (k2 := 0) (hN S O ok.1) rfl (sp_not.mpr c24) (by omega)) (by decide)
      · rw [if_neg l6]
        unfold zJ_X12_readNot_23
        simp only [zf_lq]
        rw [if_pos hb]
        have k0 := rs_kd0 i1
        have := i1.2.2.2.2.2.2.2 (fun y => by have := k0.mpr y; have := c24.1; omega)
        exact notL hn hB hw hp h7 m k (zF_X12_stepOn h) (l + 1) (by omega) (by omega) (by omega) (by omega) s1 (u22.trans hb) (fr_tr f (step_wl s3)) (by omega) (u7.trans e7) (fun j => (u149 j).trans (e149 j)) (fun S O hS => ln_up (hN S O hS) rfl hw (sp_not.mpr c24) hl0 (by omega) rfl s2)
    · rw [n24 c24, if_pos rfl]
      have J := hp h i1 hb (by rw [e7]; exact h7)
      generalize hg2 : zF_X12_readSum rx a1 h = h2 at *
      obtain ⟨j1, j2, j3, L, j4, j5⟩ := J
      have j5' : ∀ (S O : List Int), rk (tp S) < 3 → lv_R B n 5 5 a1 (h 137 20) (h 137 16) (kd_k B h) (nt l.toNat S) 1 l O (h2 137 20) (h2 137 16) (kd_k B h2) (h2 137 22) (h2 137 23) L := fun S O hS => j5 (nt l.toNat S) 1 l O ⟨by have := nt_rk l.toNat hS; omega, fun _ y => c24 (sp_not.mp y.2), fun z => absurd z (by decide)⟩
      by_cases b2 : h2 137 22 = 0
      · obtain ⟨a60, n60⟩ := mk_kd (c := 60) j1 b2 (by unfold tk_sgn; omega)
        obtain ⟨a61, n61⟩ := mk_kd (c := 61) j1 b2 (by unfold tk_sgn; omega)
        obtain ⟨q1, q2, q3⟩ := rs_step hn hB j1
        obtain ⟨v22, v23, v7, v149⟩ := step_keep q3
        have ql := tk_tok_len q2
        have l2 := rs_len j1
        have p7 : 0 ≤ h2 140 7 := by have := (j4 b2).1.1; omega
        have go : ∀ (sg v : Int), kd_k B h2 ≠ 41 → kd_k B h2 ≠ 59 → tk_so B (kd_k B h2) (h2 137 20) (h2 137 16) sg → rk sg = 4 → cm v = sg → lvl B n 3 a1 g (zJ_X12_readNot_79 rx a1 v l h2) := by
          intro sg v h41 h59 hs hr hv
          unfold zJ_X12_readNot_79
          simp only [zf_lq]
          have K := hp (zF_X12_stepOn h2) q1 (v22.trans b2) (by rw [v7]; exact p7)
          generalize hg3 : zF_X12_readSum rx a1 (zF_X12_stepOn h2) = h3 at *
          obtain ⟨m1, m2, m3, M, m4, m5⟩ := K
          refine J94_lvl (h := h) (S0 := ()) hw h7 hl0 hl6 (rs_w m1 lay_fr) (fr_tr (fr_tr (fr_tr f j2) (step_wl q3)) (fr_tr m2 lay_wl)) (by rw [lay_137]; omega) (L ++ M ++ [sg]) (fun z => ?_) hN (fun S O hS => ?_)
          · rw [lay_137] at z
            have y1 := ly_dn e7 e149 (j4 b2).1
            have y2 := ly_dn v7 v149 (m4 z).1
            have y3 := ly_lay (v := v) z (by have := y2.1; omega)
            rw [hv] at y3
            exact ⟨ly_tr h7 (ly_tr h7 y1 y2) y3, by rw [List.length_append]; exact Nat.succ_pos _⟩
          · rw [lay_137, lay_137, lay_137, lay_137, lay_kd]
            exact lv_test (j5' S O hS) b2 h41 h59 hs hr (nt_rk _ hS) q2 (m5 (sg :: nt l.toNat S) 0 0 (O ++ L) ⟨by show rk sg < 5; omega, fun _ y => absurd y.1 (by decide), fun z => absurd z (by decide)⟩)
        by_cases c60 : kd_k B h2 = 60
        · rw [a60 c60, if_neg (by decide)]
          unfold zJ_X12_readNot_63
          simp only [zf_lq]
          rw [a60 c60, if_neg (by decide)]
          exact go (-14) (-24) (by omega) (by omega) (by rw [c60]; exact so_60) (by decide) (by decide)
        · rw [n60 c60, if_pos rfl]
          by_cases c61 : kd_k B h2 = 61
          · rw [a61 c61, if_neg (by decide)]
            unfold zJ_X12_readNot_63
            simp only [zf_lq]
            rw [n60 c60, if_pos rfl]
            exact go (-15) (-25) (by omega) (by omega) (by rw [c61]; exact so_61) (by decide) (by decide)
          · rw [n61 c61, if_pos rfl]
            exact J94_lvl (h := h) (S0 := ()) hw h7 hl0 hl6 j1 (fr_tr f j2) (by omega) L (fun z => ⟨ly_dn e7 e149 (j4 z).1, (j4 z).2⟩) hN (fun S O hS => lv_notest (j5' S O hS) (fun _ => ⟨c60, c61⟩))
      · rw [marked_bad b2, if_pos rfl, marked_bad b2, if_pos rfl]
        exact J94_lvl (h := h) (S0 := ()) hw h7 hl0 hl6 j1 (fr_tr f j2) (by omega) L (fun z => ⟨ly_dn e7 e149 (j4 z).1, (j4 z).2⟩) hN (fun S O hS => lv_notest (j5' S O hS) (fun z => absurd z b2))
theorem not_lvl (hn : n ≤ 700) (hB : ∀ a, 0 ≤ B a) (hw : a1 < 6) (hp : lvF B n 5 a1 (zF_X12_readSum rx a1)) : lvF B n 3 a1 (zF_X12_readNot rx a1) := fun g h hb h7 => by
  unfold zF_X12_readNot
  have l := rs_len h
  exact notL hn hB hw hp h7 800 3000000000 g 0 (by omega) (by decide) (by decide) (by decide) h hb fr_rf (Int.le_refl _) rfl (fun _ => rfl) (fun S O _ => ln_0)
theorem andL (hn : n ≤ 700) (hB : ∀ a, 0 ≤ B a) (hp : lvF B n 3 a1 (zF_X12_readNot rx a1)) {g : mz_G} (h7 : 0 ≤ g 140 7) : ∀ (m k : Nat) (h : mz_G), (n - h 137 20).toNat < m → m + 1 ≤ k → lvi B n 2 3 a1 g h → lvl B n 2 a1 g (zL_X12_readAnd_5 rx a1 k h)
  | 0, _, _, z, _, _ => absurd z (Nat.not_lt_zero _)
  | m + 1, 0, _, _, z, _ => absurd z (by omega)
  | m + 1, k + 1, h, hm, hk, I => by
    have i1 := I.1
    by_cases hb : h 137 22 = 0
    · rw [zL_X12_readAnd_5_s]
      unfold zB_X12_readAnd_5
      simp only [zf_lq]
      obtain ⟨a25, n25⟩ := is_kd (q := 25) (by decide) i1 hb
      obtain ⟨u22, u7⟩ := step22 hn hB i1
      have J := hp (zF_X12_stepOn h) (rs_step hn hB i1).1 (u22.trans hb) (by rw [u7]; exact rs_pos I hb h7)
      have lh := rs_len i1
      have k0 := rs_kd0 i1
      by_cases c : tk_sp B (kd_k B h) (h 137 20) (h 137 16) 25
      · rw [a25 c, if_neg (by decide)]
        have kd1 := c.1
        obtain ⟨I2, hlt⟩ := lvi_go hn hB (q := 3) (sg := -12) (v := -26) I h7 hb (by omega) (by omega) (so_and (sp_and.mpr c)) (by decide) (by decide) (by decide) (by decide) (Or.inr ⟨by decide, by decide⟩) (by decide) J
        have := i1.2.2.2.2.2.2.2 (fun y => by have := k0.mpr y; omega)
        have l2 := rs_len I2.1
        exact andL hn hB hp h7 m k _ (by omega) (by omega) I2
      · rw [n25 c, if_pos rfl]
        exact lvi_x I (fun _ T y => ⟨fun _ => y.1 (by decide), fun _ => y.2.1 (by decide), fun _ => y.2.2.1 (by decide), fun _ z => c (sp_and.mp z), fun y => absurd y (by decide)⟩)
    · rw [andL_bad hb]
      exact lvi_x I (fun z => absurd z hb)
theorem and_lvl (hn : n ≤ 700) (hB : ∀ a, 0 ≤ B a) (hp : lvF B n 3 a1 (zF_X12_readNot rx a1)) : lvF B n 2 a1 (zF_X12_readAnd rx a1) := fun g h hb h7 => by
  unfold zF_X12_readAnd
  simp only [zf_lq]
  have I := hp g h hb h7
  have l := rs_len I.1
  exact andL hn hB hp h7 800 3000000000 _ (by omega) (by decide) (lvi_up (by decide) (Or.inr (by decide)) I)
theorem exprL (hn : n ≤ 700) (hB : ∀ a, 0 ≤ B a) (hp : lvF B n 2 a1 (zF_X12_readAnd rx a1)) {g : mz_G} (h7 : 0 ≤ g 140 7) : ∀ (m k : Nat) (h : mz_G), (n - h 137 20).toNat < m → m + 1 ≤ k → lvi B n 1 2 a1 g h → lvl B n 1 a1 g (zL_X12_readExpression_67 rx a1 k h)
  | 0, _, _, z, _, _ => absurd z (Nat.not_lt_zero _)
  | m + 1, 0, _, _, z, _ => absurd z (by omega)
  | m + 1, k + 1, h, hm, hk, I => by
    have i1 := I.1
    by_cases hb : h 137 22 = 0
    · rw [zL_X12_readExpression_67_s]
      unfold zB_X12_readExpression_67
      simp only [zf_lq]
      obtain ⟨a25, n25⟩ := is_kd (q := 26) (by decide) i1 hb
      obtain ⟨u22, u7⟩ := step22 hn hB i1
      have J := hp (zF_X12_stepOn h) (rs_step hn hB i1).1 (u22.trans hb) (by rw [u7]; exact rs_pos I hb h7)
      have lh := rs_len i1
      have k0 := rs_kd0 i1
      by_cases c : tk_sp B (kd_k B h) (h 137 20) (h 137 16) 26
      · rw [a25 c, if_neg (by decide)]
        have kd1 := c.1
        obtain ⟨I2, hlt⟩ := lvi_go hn hB (q := 2) (sg := -11) (v := -27) I h7 hb (by omega) (by omega) (so_or (sp_or.mpr c)) (by decide) (by decide) (by decide) (by decide) (Or.inr ⟨by decide, by decide⟩) (by decide) J
        have := i1.2.2.2.2.2.2.2 (fun y => by have := k0.mpr y; omega)
        have l2 := rs_len I2.1
        exact exprL hn hB hp h7 m k _ (by omega) (by omega) I2
      · rw [n25 c, if_pos rfl]
        exact lvi_x I (fun _ T y => ⟨fun _ => y.1 (by decide), fun _ => y.2.1 (by decide), fun _ => y.2.2.1 (by decide), fun _ => y.2.2.2.1 (by decide), fun _ z => c (sp_or.mp z)⟩)
    · rw [exprL_bad hb]
      exact lvi_x I (fun z => absurd z hb)
/-- an expression: its first token may stand here, and it is not within too many -/
theorem expr_lvl (hn : n ≤ 700) (hB : ∀ a, 0 ≤ B a) (h6 : a1 ≤ 6) (hp : a1 < 6 → lvF B n 2 a1 (zF_X12_readAnd rx a1)) : lvF B n 1 a1 (zF_X12_readExpression rx a1) := fun g h hb h7 => by
  obtain ⟨k1, k2, k3⟩ := rs_kd h
  obtain ⟨a40, n40⟩ := mk_kd (c := 40) h hb (by unfold tk_sgn; omega)
  have may : (kd_k B g = 2 ∨ kd_k B g = 1 ∨ kd_k B g = 40) → lvl B n 1 a1 g (zJ_X12_readExpression_38 rx a1 1 g) := by
    intro hk
    unfold zJ_X12_readExpression_38
    rw [if_neg (by decide)]
    simp only [zf_lq]
    by_cases w6 : a1 = 6
    · rw [if_pos w6, expr62_bad _ (by rw [(wrong_at hb).1]; decide)]
      exact lvi_wrong h hb (by decide) (fun S nc k O ok F Z hF => EV_p2 hk (by omega) hF)
    · rw [if_neg w6]
      unfold zJ_X12_readExpression_62
      simp only [zf_lq]
      have I := hp (by omega) g h hb h7
      have l := rs_len I.1
      exact exprL hn hB (hp (by omega)) h7 800 3000000000 _ (by omega) (by decide) (lvi_up (by decide) (Or.inr (by decide)) I)
  unfold zF_X12_readExpression zJ_X12_readExpression_33
  simp only [zf_lq]
  rw [if_pos hb]
  by_cases t2 : g 137 18 = 2
  · rw [if_pos t2]; exact may (Or.inl (k2.mpr t2))
  · rw [if_neg t2]
    by_cases t1 : g 137 18 = 1
    · rw [if_pos t1]; exact may (Or.inr (Or.inl (k1.mpr t1)))
    · rw [if_neg t1]
      by_cases c40 : kd_k B g = 40
      · rw [a40 c40, if_neg (by decide)]; exact may (Or.inr (Or.inr c40))
      · rw [n40 c40, if_pos rfl]
        unfold zJ_X12_readExpression_38
        rw [if_pos rfl]
        simp only [zf_lq]
        rw [expr62_bad _ (by rw [(wrong_at hb).1]; decide)]
        exact lvi_wrong h hb (by decide) (fun S nc k O ok F Z hF => EV_p1 (fun y => t2 (k2.mp y)) (fun y => t1 (k1.mp y)) c40 hF)
end LV6
theorem zR_bad (k : Nat) (a : Int) : stl (zR_expr (k + 1) a) := expr_bad
/-- an expression within a1 others -/
theorem zR_lvl {B : Int → Int} {n : Int} (hn : n ≤ 700) (hB : ∀ a, 0 ≤ B a) : ∀ (m : Nat) (a : Int), 0 ≤ a → a ≤ 6 → (6 - a).toNat = m → lvF B n 1 a (zR_expr (m + 2) a)
  | 0, a, h0, h6, hm => expr_lvl hn hB h6 (fun z => absurd z (by omega))
  | m + 1, a, h0, h6, hm => expr_lvl hn hB h6 (fun z => and_lvl hn hB (not_lvl hn hB z (sum_lvl hn hB (prod_lvl hn hB (fun g h hb h7 => part_lvl hn hB h0 z (zR_bad _ _) (zR_lvl hn hB m (a + 1) (by omega) (by omega) (by omega)) h hb h7)))))
