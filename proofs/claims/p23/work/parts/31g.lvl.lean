/-! the levels, one by one -/
theorem num_tok {B : Int → Int} {n p b e nu : Int} (h : tk_tok B n p b e 2 nu) : tk_run tk_dig B n b e ∧ (e - b ≤ 4 → nu = tk_nv B b (e - b).toNat) := by
  obtain ⟨a1, a2, a3, a4, a5⟩ := h
  have l := a1.2.1
  by_cases z : b = n
  · have := (a2 z).1; omega
  · have z : b < n := by omega
    by_cases z1 : tk_let (B b)
    · have := (a3 z z1).1; omega
    · by_cases z2 : tk_dig (B b)
      · exact (a4 z z2).2
      · have := a5 z z1 z2
        by_cases z3 : tk_sgn (B b)
        · have := this.2.1 z3
          unfold tk_sgn at z3
          omega
        · have := this.2.2 z3
          omega
theorem num_b {B : Int → Int} {n p b e nu : Int} (h : tk_tok B n p b e 2 nu) (hl : e - b ≤ 4) : 0 ≤ nu ∧ nu ≤ 9999 ∧ nu = tk_nv B b (e - b).toNat := by
  obtain ⟨r, f⟩ := num_tok h
  have r0 := r.1
  have nb := tk_nv_b (B := B) (b := b) (k := (e - b).toNat) (by rw [show b + (((e - b).toNat : Nat) : Int) = e by omega]; exact r.2.2.1) (by omega)
  rw [f hl]
  exact ⟨nb.1, nb.2.2.2.2.2, rfl⟩
theorem vv_j {B : Int → Int} {b e : Int} {j : Nat} (hj : j < 7) (h : tk_sp B 1 b e (sa_i 139 + j)) (hn : ∀ i : Nat, i < j → ¬ tk_sp B 1 b e (sa_i 139 + i)) : vv B 1 b e = -1 - (j : Int) := by
  unfold vv
  rw [if_neg (by decide)]
  have e0 : sa_i 139 = 16 := rfl
  rw [e0] at h hn
  have m : ∀ i : Nat, i < j → ¬ tk_sp B 1 b e (16 + i) := hn
  rcases (by omega : j = 0 ∨ j = 1 ∨ j = 2 ∨ j = 3 ∨ j = 4 ∨ j = 5 ∨ j = 6) with rfl | rfl | rfl | rfl | rfl | rfl | rfl
  · rw [if_pos (sp_strap.mpr h)]; rfl
  · rw [if_neg (fun z => m 0 (by decide) (sp_strap.mp z)), if_pos (sp_heat.mpr h)]; rfl
  · rw [if_neg (fun z => m 0 (by decide) (sp_strap.mp z)), if_neg (fun z => m 1 (by decide) (sp_heat.mp z)), if_pos (sp_grown.mpr h)]; rfl
  · rw [if_neg (fun z => m 0 (by decide) (sp_strap.mp z)), if_neg (fun z => m 1 (by decide) (sp_heat.mp z)), if_neg (fun z => m 2 (by decide) (sp_grown.mp z)), if_pos (sp_said.mpr h)]; rfl
  · rw [if_neg (fun z => m 0 (by decide) (sp_strap.mp z)), if_neg (fun z => m 1 (by decide) (sp_heat.mp z)), if_neg (fun z => m 2 (by decide) (sp_grown.mp z)), if_neg (fun z => m 3 (by decide) (sp_said.mp z)), if_pos (sp_meant.mpr h)]; rfl
  · rw [if_neg (fun z => m 0 (by decide) (sp_strap.mp z)), if_neg (fun z => m 1 (by decide) (sp_heat.mp z)), if_neg (fun z => m 2 (by decide) (sp_grown.mp z)), if_neg (fun z => m 3 (by decide) (sp_said.mp z)), if_neg (fun z => m 4 (by decide) (sp_meant.mp z)), if_pos (sp_overlap.mpr h)]; rfl
  · rw [if_neg (fun z => m 0 (by decide) (sp_strap.mp z)), if_neg (fun z => m 1 (by decide) (sp_heat.mp z)), if_neg (fun z => m 2 (by decide) (sp_grown.mp z)), if_neg (fun z => m 3 (by decide) (sp_said.mp z)), if_neg (fun z => m 4 (by decide) (sp_meant.mp z)), if_neg (fun z => m 5 (by decide) (sp_overlap.mp z)), if_pos (sp_day.mpr h)]; rfl
section LA
variable {B : Int → Int} {n : Int} {g : mz_G}
theorem lay_137 {v : Int} {b : Nat} : zF_X12_lay v g 137 b = g 137 b := by
  by_cases h : g 137 22 = 0
  · rw [X12_lay.1 h]
    exact (up_k (by decide)).trans (up_k (by decide))
  · rw [X12_lay.2 h]
theorem lay_kd {v : Int} : kd_k B (zF_X12_lay v g) = kd_k B g := by
  unfold kd_k
  rw [lay_137, lay_137]
theorem lay_wl {v : Int} : mz_fr wl g (zF_X12_lay v g) := by
  by_cases h : g 137 22 = 0
  · rw [X12_lay.1 h]
    exact fr_tr (fr_up (Or.inr (Or.inl rfl))) (fr_up (Or.inr (Or.inr ⟨rfl, rfl⟩)))
  · rw [X12_lay.2 h]
    exact fr_rf
theorem wrong_wl {v : Int} : mz_fr wl g (zF_X12_wrong v g) := by
  by_cases h : g 137 22 = 0
  · rw [X12_wrong.1 h]
    exact fr_tr (fr_up (Or.inl ⟨rfl, by decide⟩)) (fr_up (Or.inl ⟨rfl, by decide⟩))
  · rw [X12_wrong.2 h]
    exact fr_rf
theorem step_wl {g1 : mz_G} (f : mz_fr fw_rt g g1) : mz_fr wl g g1 := fr_le f (fun a b z => Or.inl ⟨z.1, by have := z.2; omega⟩)
theorem step_keep {g1 : mz_G} (f : mz_fr fw_rt g g1) : g1 137 22 = g 137 22 ∧ g1 137 23 = g 137 23 ∧ g1 140 7 = g 140 7 ∧ ∀ j, g1 149 j = g 149 j := ⟨f 137 22 (by unfold fw_rt; omega), f 137 23 (by unfold fw_rt; omega), f 140 7 (by unfold fw_rt; omega), fun j => f 149 j (by unfold fw_rt; omega)⟩
/-- a fault of this token -/
theorem lvi_wrong {p p1 w v : Int} (h : rs_k B n g) (hb : g 137 22 = 0) (hv : v ≠ 0) (hE : ∀ (S : List Int) (nc k : Int) (O : List Int), okS p B g S nc k → ∀ (F : pw_F) (Z : pw_Z), F v (g 137 20) → EV B n (g 137 20) (g 137 16) (kd_k B g) 1 w S nc k O F Z) : lvi B n p p1 w g (zF_X12_wrong v g) := by
  obtain ⟨e1, e2⟩ := wrong_at (v := v) hb
  have e20 : zF_X12_wrong v g 137 20 = g 137 20 := wrong_fr 137 20 (by unfold wr; omega)
  refine ⟨rs_w h wrong_fr, wrong_wl, by rw [e20]; exact Int.le_refl _, [], fun z => absurd (e1.symm.trans z) hv, fun S nc k O ok => ?_⟩
  rw [e1, e2]
  exact lv_bad hv (hE S nc k O ok)
theorem now_59 {a b : Int} (hb : g 137 22 = 0) : zJ_X12_numberNow_59 a b g = (g 137 19, g) := by
  unfold zJ_X12_numberNow_59
  simp only [zf_lq]
  rw [if_pos hb]
theorem now_59b {a b : Int} (hb : g 137 22 ≠ 0) : zJ_X12_numberNow_59 a b g = (0, g) := by
  unfold zJ_X12_numberNow_59
  simp only [zf_lq]
  rw [if_neg hb]
theorem now_54 {a b : Int} (hb : g 137 22 = 0) : zJ_X12_numberNow_54 a b g = (0, zF_X12_wrong 2 g) := by
  unfold zJ_X12_numberNow_54
  rw [zf_lq]
  exact now_59b (by rw [(wrong_at hb).1]; decide)
theorem rdn_of {a b : Int} {p : Int × mz_G} (e : zF_X12_numberNow a b g = p) : zF_X12_readNumber a b g = (p.1, if p.2 137 22 = 0 then zF_X12_stepOn p.2 else p.2) := by
  unfold zF_X12_readNumber
  rw [e]
  unfold zf_m2 zJ_X12_readNumber_18
  simp only [zf_lq]
  split <;> rfl
theorem rd_num (h : rs_k B n g) (hb : g 137 22 = 0) (h2 : g 137 18 = 2) : (4 < g 137 16 - g 137 20 → zF_X12_readNumber 0 9999 g = (0, zF_X12_wrong 2 g)) ∧ (g 137 16 - g 137 20 ≤ 4 → zF_X12_readNumber 0 9999 g = (g 137 19, zF_X12_stepOn g)) := by
  obtain ⟨h1, -, -, ⟨p, h0, h4⟩, h5, -, -, -⟩ := h
  rw [h2, tk_rk_2] at h4
  constructor
  · intro hl
    have e : zF_X12_numberNow 0 9999 g = (0, zF_X12_wrong 2 g) := by
      unfold zF_X12_numberNow
      simp only [zf_lq]
      rw [if_pos hb, if_pos h2, h5, if_pos hl, now_54 hb]
    rw [rdn_of e]
    show ((0 : Int), if zF_X12_wrong 2 g 137 22 = 0 then zF_X12_stepOn (zF_X12_wrong 2 g) else zF_X12_wrong 2 g) = _
    rw [if_neg (by rw [(wrong_at hb).1]; decide)]
  · intro hl
    have nb := num_b h4 hl
    have e : zF_X12_numberNow 0 9999 g = (g 137 19, g) := by
      unfold zF_X12_numberNow
      simp only [zf_lq]
      rw [if_pos hb, if_pos h2, h5, if_neg (show ¬ 4 < g 137 16 - g 137 20 by omega), if_neg (show ¬ g 137 19 < 0 by omega), if_neg (show ¬ 9999 < g 137 19 by omega), now_59 hb]
    rw [rdn_of e]
    show (g 137 19, if g 137 22 = 0 then zF_X12_stepOn g else g) = _
    rw [if_pos hb]
end LA
section LP

theorem part_lvl {B : Int → Int} {n : Int} (hn : n ≤ 700) (hB : ∀ a, 0 ≤ B a) {rx : Int → mz_G → mz_G} {a1 : Int} (h0 : 0 ≤ a1) (h6 : a1 < 6) (hs : stl (rx (a1 + 1))) (hx : ∀ g, rs_k B n g → g 137 22 = 0 → 0 ≤ g 140 7 → lvl B n 1 (a1 + 1) g (rx (a1 + 1) g)) {g : mz_G} (h : rs_k B n g) (hb : g 137 22 = 0) (h7 : 0 ≤ g 140 7) : lvl B n 7 a1 g (zF_X12_readPart rx a1 g) := by
  have len := rs_len h
  obtain ⟨k1, k2, k3⟩ := rs_kd h
  obtain ⟨s1, s2, s3⟩ := rs_step hn hB h
  obtain ⟨u22, u23, u7, u149⟩ := step_keep s3
  have tl := tk_tok_len s2
  unfold zF_X12_readPart
  simp only [zf_lq]
  rw [if_pos hb]
  by_cases t2 : g 137 18 = 2
  · rw [if_pos t2]
    have kd : kd_k B g = 2 := k2.mpr t2
    unfold zf_m2
    by_cases hl : 4 < g 137 16 - g 137 20
    · rw [(rd_num h hb t2).1 hl]
      dsimp only
      rw [lay_bad _ (by rw [(wrong_at hb).1]; decide)]
      exact lvi_wrong h hb (by decide) (fun S nc k O ok F Z hF => EV_long kd hl hF)
    · rw [(rd_num h hb t2).2 (by omega)]
      dsimp only
      obtain ⟨p, hp, h4⟩ := h.2.2.2.1
      rw [t2, tk_rk_2] at h4
      have nb := num_b h4 (by omega)
      refine ⟨rs_w s1 lay_fr, fr_tr (step_wl s3) lay_wl, by rw [lay_137]; omega, [vv B (kd_k B g) (g 137 20) (g 137 16)], fun _ => ?_, fun S nc k O ok => ?_⟩
      · have := ly_lay (v := g 137 19) (u22.trans hb) (by rw [u7]; exact h7)
        rw [cm_id (by omega)] at this
        rw [kd]
        unfold vv
        rw [if_pos rfl, ← nb.2.2]
        exact ⟨ly_dn u7 u149 this, Nat.zero_lt_one⟩
      · rw [lay_137, lay_137, lay_137, lay_137, lay_kd]
        exact lv_val h6 (Or.inl ⟨kd, by omega⟩) (ok.2.1 (by decide)) s2 (u22.trans hb)
  · rw [if_neg t2]
    by_cases t1 : g 137 18 = 1
    · rw [if_pos t1]
      have kd : kd_k B g = 1 := k1.mpr t1
      rcases X12_which (q := 139) (n := 7) (Or.inr ⟨rfl, rfl⟩) h.2.2.1 h.2.2.2.2.1 with ⟨e, hno⟩ | ⟨j, hj, e, hj1, hj2⟩
      · rw [e, if_pos rfl]
        unfold zJ_X12_readPart_56
        simp only [zf_lq]
        rw [lay_bad _ (by rw [(wrong_at hb).1]; decide), if_neg (by rw [(wrong_at hb).1]; decide)]
        refine lvi_wrong h hb (by decide) (fun S nc k O ok F Z hF => EV_p3 h6 kd (ok.2.1 (by decide)) ?_ hF)
        refine tk_val_n (fun j hj y => hno j hj ⟨hb, ?_⟩)
        rw [h.1, t1, ← kd]
        exact y
      · rw [e, if_neg (by omega)]
        unfold zJ_X12_readPart_56
        simp only [zf_lq]
        rw [lay_137, if_pos hb]
        have hj1' : tk_sp B 1 (g 137 20) (g 137 16) (sa_i 139 + j) := by
          have := hj1.2
          rw [h.1, t1] at this
          exact this
        have hj2' : ∀ i : Nat, i < j → ¬ tk_sp B 1 (g 137 20) (g 137 16) (sa_i 139 + i) := fun i hi y => hj2 i hi ⟨hb, by rw [h.1, t1]; exact y⟩
        obtain ⟨q1, q2, q3⟩ := rs_step hn hB (rs_w h (lay_fr (v := -1 - (j : Int))))
        obtain ⟨v22, v23, v7, v149⟩ := step_keep q3
        rw [lay_137] at q2 v22 v23
        have ql := tk_tok_len q2
        refine ⟨q1, fr_tr lay_wl (step_wl q3), by omega, [vv B (kd_k B g) (g 137 20) (g 137 16)], fun _ => ?_, fun S nc k O ok => ?_⟩
        · have := ly_lay (v := -1 - (j : Int)) hb h7
          rw [cm_id (by omega)] at this
          rw [kd, vv_j hj hj1' hj2']
          exact ⟨ly_up this v7 v149, Nat.zero_lt_one⟩
        · exact lv_val h6 (Or.inr ⟨kd, by rw [kd]; exact tk_val_i hj hj1'⟩) (ok.2.1 (by decide)) q2 (v22.trans hb)
    · rw [if_neg t1]
      by_cases t40 : g 137 18 = 3 ∧ mz_rb g (g 137 20) = 40
      · rw [(mark_ok hb).1 t40]
        have kd : kd_k B g = 40 := (k3 40 (by unfold tk_sgn; omega)).mpr ⟨t40.1, by rw [← h.1]; exact t40.2⟩
        obtain ⟨i1, i2, i3, L, i4, i5⟩ := hx (zF_X12_stepOn g) s1 (u22.trans hb) (by rw [u7]; exact h7)
        generalize hg13 : rx (a1 + 1) (zF_X12_stepOn g) = g13 at *
        have par : ∀ (S : List Int) (O : List Int), lv_R B n 1 1 (a1 + 1) (zF_X12_stepOn g 137 20) (zF_X12_stepOn g 137 16) (kd_k B (zF_X12_stepOn g)) (-20 :: S) 1 0 O (g13 137 20) (g13 137 16) (kd_k B g13) (g13 137 22) (g13 137 23) L := fun S O => i5 (-20 :: S) 1 0 O ⟨by show rk (-20) < 1; decide, fun z => absurd z (by decide), fun _ => ⟨rfl, rfl⟩⟩
        by_cases b13 : g13 137 22 = 0
        · have ly1 := ly_dn u7 u149 (i4 b13).1
          obtain ⟨m1, m2, m3⟩ := rs_kd i1
          by_cases t41 : g13 137 18 = 3 ∧ mz_rb g13 (g13 137 20) = 41
          · rw [(mark_ok b13).1 t41]
            have kd41 : kd_k B g13 = 41 := (m3 41 (by unfold tk_sgn; omega)).mpr ⟨t41.1, by rw [← i1.1]; exact t41.2⟩
            obtain ⟨q1, q2, q3⟩ := rs_step hn hB i1
            obtain ⟨v22, v23, v7, v149⟩ := step_keep q3
            have ql := tk_tok_len q2
            have l13 := rs_len i1
            refine ⟨q1, fr_tr (fr_tr (step_wl s3) i2) (step_wl q3), by omega, L, fun _ => ⟨ly_up ly1 v7 v149, (i4 b13).2⟩, fun S nc k O ok => ?_⟩
            exact lv_paren kd h6 h0 s2 (par S O) b13 kd41 q2 (v22.trans b13)
          · rw [(mark_ok b13).2 t41 (by decide)]
            have kd41 : kd_k B g13 ≠ 41 := fun y => t41 (by have := (m3 41 (by unfold tk_sgn; omega)).mp y; exact ⟨this.1, by rw [i1.1]; exact this.2⟩)
            obtain ⟨e1, e2⟩ := wrong_at (v := 1) b13
            have e20 : zF_X12_wrong 1 g13 137 20 = g13 137 20 := wrong_fr 137 20 (by unfold wr; omega)
            refine ⟨rs_w i1 wrong_fr, fr_tr (fr_tr (step_wl s3) i2) wrong_wl, by rw [e20]; omega, [], fun z => absurd (e1.symm.trans z) (by decide), fun S nc k O ok => ?_⟩
            rw [e1, e2]
            exact lv_paren1 kd h6 h0 s2 (par S O) b13 kd41
        · rw [mark_bad _ b13]
          exact ⟨i1, fr_tr (step_wl s3) i2, by omega, L, fun z => absurd z b13, fun S nc k O ok => lv_paren2 kd h6 s2 (par S O) b13⟩
      · rw [(mark_ok hb).2 t40 (by decide), hs _ (by rw [(wrong_at hb).1]; decide), mark_bad _ (by rw [(wrong_at hb).1]; decide)]
        exact lvi_wrong h hb (by decide) (fun S nc k O ok F Z hF => EV_p1 (fun y => t2 (k2.mp y)) (fun y => t1 (k1.mp y)) (fun y => t40 (by have := (k3 40 (by unfold tk_sgn; omega)).mp y; exact ⟨this.1, by rw [h.1]; exact this.2⟩)) hF)
/-- a level's level below it -/
theorem lvi_up {B : Int → Int} {n p q w : Int} {g g1 : mz_G} (hpq : p ≤ q) (h35 : 4 < p ∨ q ≤ 3) (h : lvl B n q w g g1) : lvi B n p q w g g1 := by
  obtain ⟨h1, h2, h3, L, h4, h5⟩ := h
  exact ⟨h1, h2, h3, L, h4, fun S nc k O ok => lv_w (h5 S nc k O ⟨by have := ok.1; omega, fun z => by rcases h35 with y | y; exact ok.2.1 (by omega); omega, fun z => by rcases h35 with y | y; omega; exact ok.2.2 (by omega)⟩) hpq ok.1⟩
/-- a sign of the level, and what is right of it -/
theorem lvi_go {B : Int → Int} {n : Int} (hn : n ≤ 700) (hB : ∀ a, 0 ≤ B a) {p p1 q w sg v : Int} {g h h2 : mz_G} (I : lvi B n p p1 w g h) (h7 : 0 ≤ g 140 7) (hb : h 137 22 = 0) (h41 : kd_k B h ≠ 41) (h59 : kd_k B h ≠ 59) (hs : tk_so B (kd_k B h) (h 137 20) (h 137 16) sg) (hr : rk sg = p) (hp : 1 ≤ p) (h4 : p ≠ 4) (hpq : p < q) (h35 : 3 < p ∨ (q ≤ 3 ∧ p ≤ 2)) (hv : cm v = sg) (J : lvl B n q w (zF_X12_stepOn h) h2) : lvi B n p q w g (zF_X12_lay v h2) ∧ h 137 16 ≤ zF_X12_lay v h2 137 20 := by
  obtain ⟨i1, i2, i3, L, i4, i5⟩ := I
  obtain ⟨j1, j2, j3, M, j4, j5⟩ := J
  obtain ⟨s1, s2, s3⟩ := rs_step hn hB i1
  obtain ⟨u22, u23, u7, u149⟩ := step_keep s3
  have tl := tk_tok_len s2
  have il := rs_len i1
  refine ⟨⟨rs_w j1 lay_fr, fr_tr (fr_tr i2 (step_wl s3)) (fr_tr j2 lay_wl), by rw [lay_137]; omega, L ++ M ++ [sg], fun z => ?_, fun S nc k O ok => ?_⟩, by rw [lay_137]; omega⟩
  · rw [lay_137] at z
    have l1 := (i4 hb).1
    have l2 := ly_dn u7 u149 (j4 z).1
    have p7 : 0 ≤ h 140 7 := by have := l1.1; omega
    have l3 := ly_lay (v := v) z (by have := l2.1; omega)
    rw [hv] at l3
    exact ⟨ly_tr h7 (ly_tr h7 l1 l2) l3, by rw [List.length_append]; exact Nat.succ_pos _⟩
  · rw [lay_137, lay_137, lay_137, lay_137, lay_kd]
    refine lv_go (nc1 := if p ≤ 2 then 1 else 0) (i5 S nc k O ok) hb h41 h59 hs hr hp h4 rfl s2 (j5 (sg :: S) _ 0 (O ++ L) ⟨by show rk sg < q; omega, fun z => ?_, fun z => ?_⟩) (by omega)
    · rw [if_neg (by omega)]
      exact fun y => absurd y.1 (by decide)
    · rw [if_pos (by omega)]
      exact ⟨rfl, rfl⟩
theorem lvi_x {B : Int → Int} {n p p1 p2 w : Int} {g h : mz_G} (I : lvi B n p p1 w g h) (hx : h 137 22 = 0 → ∀ T, rx p1 B (h 137 20) (h 137 16) (kd_k B h) T → rx p2 B (h 137 20) (h 137 16) (kd_k B h) T) : lvi B n p p2 w g h := by
  obtain ⟨i1, i2, i3, L, i4, i5⟩ := I
  exact ⟨i1, i2, i3, L, i4, fun S nc k O ok => lv_x (i5 S nc k O ok) (fun z T _ y => hx z T y)⟩
/-- signs are told by their byte -/
theorem mk_kd {B : Int → Int} {n c : Int} {h : mz_G} (i : rs_k B n h) (hb : h 137 22 = 0) (hc : tk_sgn c) : (kd_k B h = c → zF_X12_isMarked c h = 1) ∧ (kd_k B h ≠ c → zF_X12_isMarked c h = 0) := by
  have k3 := (rs_kd i).2.2 c hc
  refine ⟨fun y => X12_isMarked.1 ⟨hb, (k3.mp y).1, by rw [i.1]; exact (k3.mp y).2⟩, fun y => X12_isMarked.2 (fun z => y (k3.mpr ⟨z.2.1, by rw [← i.1]; exact z.2.2⟩))⟩
theorem is_kd {B : Int → Int} {n : Int} {q : Nat} {h : mz_G} (hq : q < 28) (i : rs_k B n h) (hb : h 137 22 = 0) : (tk_sp B (kd_k B h) (h 137 20) (h 137 16) q → zF_X12_is q h = 1) ∧ (¬ tk_sp B (kd_k B h) (h 137 20) (h 137 16) q → zF_X12_is q h = 0) := by
  obtain ⟨k1, -, -⟩ := rs_kd i
  have e : tk_sp (mz_rb h) (h 137 18) (h 137 20) (h 137 16) q ↔ tk_sp B (kd_k B h) (h 137 20) (h 137 16) q := by
    rw [i.1]
    exact ⟨fun z => ⟨k1.mpr z.1, z.2⟩, fun z => ⟨k1.mp z.1, z.2⟩⟩
  exact ⟨fun y => (X12_is hq i.2.2.1 i.2.2.2.2.1).1 ⟨hb, e.mpr y⟩, fun y => (X12_is hq i.2.2.1 i.2.2.2.2.1).2 (fun z => y (e.mp z.2))⟩
theorem so_42 {B : Int → Int} {b e : Int} : tk_so B 42 b e (-18) := ⟨by decide, by decide, by decide, by decide, by decide, by decide, fun _ _ _ _ z => absurd rfl z⟩
theorem so_47 {B : Int → Int} {b e : Int} : tk_so B 47 b e (-19) := ⟨by decide, by decide, by decide, by decide, by decide, by decide, fun _ _ _ _ _ z => absurd rfl z⟩
theorem so_43 {B : Int → Int} {b e : Int} : tk_so B 43 b e (-16) := ⟨by decide, by decide, by decide, by decide, by decide, by decide, fun _ _ z => absurd rfl z⟩
theorem so_45 {B : Int → Int} {b e : Int} : tk_so B 45 b e (-17) := ⟨by decide, by decide, by decide, by decide, by decide, by decide, fun _ _ _ z => absurd rfl z⟩
theorem so_60 {B : Int → Int} {b e : Int} : tk_so B 60 b e (-14) := ⟨by decide, by decide, by decide, by decide, by decide, by decide, fun z => absurd rfl z⟩
theorem so_61 {B : Int → Int} {b e : Int} : tk_so B 61 b e (-15) := ⟨by decide, by decide, by decide, by decide, by decide, by decide, fun _ z => absurd rfl z⟩
theorem so_or {B : Int → Int} {kd b e : Int} (h : tk_sp B kd b e 12) : tk_so B kd b e (-11) := by
  have k := h.1
  exact ⟨by omega, by omega, by omega, by omega, by omega, by omega, fun _ _ _ _ _ _ => ⟨fun _ => rfl, fun z => absurd h z, fun z => absurd h z⟩⟩
theorem sp_12_13 {B : Int → Int} {kd b e : Int} (h : tk_sp B kd b e 13) : ¬ tk_sp B kd b e 12 := by
  intro z
  have a := h.2.1
  have b := z.2.1
  have e1 : mz_sl 13 = 3 := by decide +kernel
  have e2 : mz_sl 12 = 2 := by decide +kernel
  rw [e1] at a
  rw [e2] at b
  omega
theorem so_and {B : Int → Int} {kd b e : Int} (h : tk_sp B kd b e 13) : tk_so B kd b e (-12) := by
  have k := h.1
  exact ⟨by omega, by omega, by omega, by omega, by omega, by omega, fun _ _ _ _ _ _ => ⟨fun z => absurd z (sp_12_13 h), fun _ _ => rfl, fun _ z => absurd h z⟩⟩
end LP
