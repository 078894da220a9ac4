/-! A LINE, of both -/
theorem sp_ne {B : Int → Int} {kd b e : Int} {q r : Nat} (h : mz_sl q ≠ mz_sl r ∨ (0 < mz_sl q ∧ 0 < mz_sl r ∧ mz_sy q 0 ≠ mz_sy r 0)) (a : tk_sp B kd b e q) : ¬ tk_sp B kd b e r := fun c => by
  obtain ⟨a1, a2, a3⟩ := a
  obtain ⟨c1, c2, c3⟩ := c
  rcases h with h | ⟨h1, h2, h3⟩
  · omega
  · exact h3 ((a3 0 (by omega)).symm.trans (c3 0 (by omega)))
theorem sp_01 {B : Int → Int} {kd b e : Int} : tk_sp B kd b e 0 → ¬ tk_sp B kd b e 1 := sp_ne (by decide +kernel)
theorem sp_02 {B : Int → Int} {kd b e : Int} : tk_sp B kd b e 0 → ¬ tk_sp B kd b e 2 := sp_ne (by decide +kernel)
theorem sp_03 {B : Int → Int} {kd b e : Int} : tk_sp B kd b e 0 → ¬ tk_sp B kd b e 3 := sp_ne (by decide +kernel)
theorem sp_04 {B : Int → Int} {kd b e : Int} : tk_sp B kd b e 0 → ¬ tk_sp B kd b e 4 := sp_ne (by decide +kernel)
theorem sp_12 {B : Int → Int} {kd b e : Int} : tk_sp B kd b e 1 → ¬ tk_sp B kd b e 2 := sp_ne (by decide +kernel)
theorem sp_13 {B : Int → Int} {kd b e : Int} : tk_sp B kd b e 1 → ¬ tk_sp B kd b e 3 := sp_ne (by decide +kernel)
theorem sp_14 {B : Int → Int} {kd b e : Int} : tk_sp B kd b e 1 → ¬ tk_sp B kd b e 4 := sp_ne (by decide +kernel)
theorem sp_23 {B : Int → Int} {kd b e : Int} : tk_sp B kd b e 2 → ¬ tk_sp B kd b e 3 := sp_ne (by decide +kernel)
theorem sp_24 {B : Int → Int} {kd b e : Int} : tk_sp B kd b e 2 → ¬ tk_sp B kd b e 4 := sp_ne (by decide +kernel)
theorem sp_34 {B : Int → Int} {kd b e : Int} : tk_sp B kd b e 3 → ¬ tk_sp B kd b e 4 := sp_ne (by decide +kernel)
theorem and_1 {d : Int} (h : 0 ≤ d ∧ d ≤ 3) : mz_andI 1 d = if d = 1 ∨ d = 3 then 1 else 0 := by
  have : d = 0 ∨ d = 1 ∨ d = 2 ∨ d = 3 := by omega
  rcases this with rfl | rfl | rfl | rfl <;> decide +kernel
theorem and_2 {d : Int} (h : 0 ≤ d ∧ d ≤ 3) : mz_andI 2 d = if 2 ≤ d then 2 else 0 := by
  have : d = 0 ∨ d = 1 ∨ d = 2 ∨ d = 3 := by omega
  rcases this with rfl | rfl | rfl | rfl <;> decide +kernel
theorem and_0 {d : Int} (h : 0 ≤ d ∧ d ≤ 3) : mz_andI 0 d = 0 := by
  have : d = 0 ∨ d = 1 ∨ d = 2 ∨ d = 3 := by omega
  rcases this with rfl | rfl | rfl | rfl <;> decide +kernel
theorem or_0 {d : Int} (h : 0 ≤ d ∧ d ≤ 3) : mz_orI d 0 = d := by
  have : d = 0 ∨ d = 1 ∨ d = 2 ∨ d = 3 := by omega
  rcases this with rfl | rfl | rfl | rfl <;> decide +kernel
theorem or_1 {d : Int} (h : d = 0 ∨ d = 2) : mz_orI d 1 = d + 1 := by
  rcases h with rfl | rfl <;> decide +kernel
theorem or_2 {d : Int} (h : d = 0 ∨ d = 1) : mz_orI d 2 = d + 2 := by
  rcases h with rfl | rfl <;> decide +kernel
section LI
variable {B : Int → Int} {n : Int} {ld : Nat} {d : Int} {gA gB : mz_G}
theorem J127 {d s : Int} {g : mz_G} : zJ_X12_readLine_127 d s g = (mz_orI d s, zF_X12_mark 59 g) := by
  unfold zJ_X12_readLine_127
  simp only [zf_lq]
/-- a line that begins with a fault ends with it -/
theorem J49_line_bad {s : Int} {g : mz_G} (h : g 137 22 ≠ 0) : (zJ_X12_readLine_49 d (-1) s g).2 = g := by
  have w : zF_X12_wrong 1 g = g := X12_wrong.2 h
  have j : (zJ_X12_readLine_92 d (-1) s g).2 = g := by
    unfold zJ_X12_readLine_92
    simp only [zf_lq]
    rw [if_pos trivial, is_bad (by decide) h, if_pos rfl, w, J127]
    exact mark_bad g h
  unfold zJ_X12_readLine_49 zJ_X12_readLine_68
  simp only [zf_lq]
  rw [if_neg h, if_neg h, ite_self, ite_self]
  exact j
/-- the spelling's answers -/
theorem sp_AB (h : ln_k B n gA gB) {q : Nat} : tk_sp (mz_rb gB) (gB 137 18) (gB 137 20) (gB 137 16) q ↔ tk_sp B (gA 82 4) (gA 82 5) (gA 82 3) q := by
  have e := ln_eq h
  have k := (rs_kd h.2.1).1
  rw [e.2.2.1] at k
  rw [h.2.1.1, e.1, e.2.1]
  exact ⟨fun z => ⟨k.mpr z.1, z.2⟩, fun z => ⟨k.mp z.1, z.2⟩⟩
theorem sp_A (hn : n ≤ 700) (h : ln_k B n gA gB) {q : Nat} (hq : q < 28) : (tk_sp B (gA 82 4) (gA 82 5) (gA 82 3) q → zF_X7_spells q gA = 1) ∧ (¬ tk_sp B (gA 82 4) (gA 82 5) (gA 82 3) q → zF_X7_spells q gA = 0) := by
  have l := ln_len h
  have := X7_spells hq h.1.2.2 (g := gA) l.1 l.2.1 (by omega)
  rw [h.1.1] at this
  exact this
theorem sp_B (h : ln_k B n gA gB) {q : Nat} (hq : q < 28) : (tk_sp B (gA 82 4) (gA 82 5) (gA 82 3) q → zF_X12_is q gB = 1) ∧ (¬ tk_sp B (gA 82 4) (gA 82 5) (gA 82 3) q → zF_X12_is q gB = 0) := by
  obtain ⟨i1, i2⟩ := X12_is hq h.2.1.2.2.1 (g := gB) h.2.1.2.2.2.2.1
  exact ⟨fun z => i1 ⟨h.2.2.2.2, (sp_AB h).mpr z⟩, fun z => i2 (fun y => z ((sp_AB h).mp y.2))⟩
theorem wh_B (h : ln_k B n gA gB) : (tk_sp B (gA 82 4) (gA 82 5) (gA 82 3) 1 → zF_X12_which 138 2 gB = 0) ∧ (tk_sp B (gA 82 4) (gA 82 5) (gA 82 3) 2 → zF_X12_which 138 2 gB = 1) ∧ (¬ tk_sp B (gA 82 4) (gA 82 5) (gA 82 3) 1 → ¬ tk_sp B (gA 82 4) (gA 82 5) (gA 82 3) 2 → zF_X12_which 138 2 gB = -1) := by
  have hb := h.2.2.2.2
  have r1 : rq_w gB 14 ↔ tk_sp B (gA 82 4) (gA 82 5) (gA 82 3) 1 := ⟨fun z => sp_trunk.mpr ((sp_AB h).mp z.2), fun z => ⟨hb, (sp_AB h).mpr (sp_trunk.mp z)⟩⟩
  have r2 : rq_w gB 15 ↔ tk_sp B (gA 82 4) (gA 82 5) (gA 82 3) 2 := ⟨fun z => sp_treaty.mpr ((sp_AB h).mp z.2), fun z => ⟨hb, (sp_AB h).mpr (sp_treaty.mp z)⟩⟩
  rcases X12_which (q := 138) (n := 2) (Or.inl ⟨rfl, rfl⟩) h.2.1.2.2.1 h.2.1.2.2.2.2.1 with ⟨e, hno⟩ | ⟨j, hj, e, hj1, hj2⟩
  · exact ⟨fun z => absurd (r1.mpr z) (hno 0 (by decide)), fun z => absurd (r2.mpr z) (hno 1 (by decide)), fun _ _ => e⟩
  · have hm : j = 0 ∨ j = 1 := by omega
    rcases hm with rfl | rfl
    · have z := r1.mp hj1
      exact ⟨fun _ => e, fun y => absurd y (sp_12 z), fun y => absurd z y⟩
    · have z := r2.mp hj1
      exact ⟨fun y => absurd z (sp_12 y), fun _ => e, fun _ y => absurd z y⟩
theorem J92_trunk {s v : Int} {g : mz_G} (hv : v ≠ -1) : zJ_X12_readLine_92 d v s g = (mz_orI d s, zF_X12_mark 59 (zF_X12_sayTrunk v g)) := by
  unfold zJ_X12_readLine_92
  simp only [zf_lq]
  rw [if_neg hv, J127]
theorem J37_0 {v : Int} {g : mz_G} (hd : 0 ≤ d ∧ d ≤ 3) : zJ_X12_readLine_37 d 0 v g = zJ_X12_readLine_92 d v 0 g := by
  unfold zJ_X12_readLine_37 zJ_X12_readLine_49 zJ_X12_readLine_68
  simp only [zf_lq]
  rw [and_0 hd, if_pos rfl, if_neg (by decide), if_neg (by decide)]
theorem line_k (hn : n ≤ 700) (hB : ∀ a, 0 ≤ B a) (hld : ld = 1 ∨ ld = 41) (h : ln_k B n gA gB) (t : td_k ld gA gB d) : lx_k B n ld (zF_X12_readLine d gB).1 (zF_X4_readLine ld gA) (zF_X12_readLine d gB).2 := by
  have hb := h.2.2.2.2
  have hd := t.2.2.2.2.1
  obtain ⟨w1, w2, w3⟩ := wh_B h
  have a := fun q (hq : q < 28) => sp_A hn h hq
  have b := fun q (hq : q < 28) => sp_B h hq
  have n17 : ¬ tk_sp B (gA 82 4) (gA 82 5) (gA 82 3) 3 → zF_X12_is 17 gB = 0 := fun z => (b 17 (by decide)).2 (fun y => z (sp_heat.mpr y))
  have n23 : ¬ tk_sp B (gA 82 4) (gA 82 5) (gA 82 3) 4 → zF_X12_is 23 gB = 0 := fun z => (b 23 (by decide)).2 (fun y => z (sp_grows.mpr y))
  have j0 : ¬ tk_sp B (gA 82 4) (gA 82 5) (gA 82 3) 3 → ¬ tk_sp B (gA 82 4) (gA 82 5) (gA 82 3) 4 → zF_X12_readLine d gB = zJ_X12_readLine_92 d (zF_X12_which 138 2 gB) 0 gB := fun z3 z4 => by
    unfold zF_X12_readLine
    simp only [zf_lq]
    rw [n17 z3, n23 z4, if_pos rfl, if_pos rfl, J37_0 hd]
  by_cases s0 : tk_sp B (gA 82 4) (gA 82 5) (gA 82 3) 0
  · have eA : zF_X4_readLine ld gA = zJ_X4_readLine_117 ld (zF_X4_readWord (ld + 1) gA).1 (zF_X4_readWord (ld + 1) gA).2 := by
      unfold zF_X4_readLine
      rw [zf_lq, (a 0 (by decide)).1 s0, if_neg (by decide)]
      rfl
    have eB : zF_X12_readLine d gB = (d, zF_X12_mark 59 (zF_X12_sayWord gB)) := by
      rw [j0 (sp_03 s0) (sp_04 s0), w3 (sp_01 s0) (sp_02 s0)]
      unfold zJ_X12_readLine_92
      rw [if_pos rfl, zf_lq, (b 27 (by decide)).1 (sp_word.mp s0), if_neg (by decide), zf_lq, J127, or_0 hd]
    rw [eA, eB]
    exact line_end hn hB hld (line_word hn hB hld h t)
  by_cases s1 : tk_sp B (gA 82 4) (gA 82 5) (gA 82 3) 1
  · have eA : zF_X4_readLine ld gA = zJ_X4_readLine_117 ld (zF_X4_readTrunk ld 0 gA).1 (zF_X4_readTrunk ld 0 gA).2 := by
      unfold zF_X4_readLine
      rw [zf_lq, (a 0 (by decide)).2 s0, if_pos rfl, zf_lq, (a 1 (by decide)).1 s1, if_neg (by decide)]
      unfold zJ_X4_readLine_48
      rw [zf_lq, (a 2 (by decide)).2 (sp_12 s1)]
      rfl
    have eB : zF_X12_readLine d gB = (d, zF_X12_mark 59 (zF_X12_sayTrunk 0 gB)) := by
      rw [j0 (sp_13 s1) (sp_14 s1), w1 s1, J92_trunk (by decide), or_0 hd]
    rw [eA, eB]
    exact line_end hn hB hld (line_trunk (Or.inl rfl) hn hB hld h t)
  by_cases s2 : tk_sp B (gA 82 4) (gA 82 5) (gA 82 3) 2
  · have eA : zF_X4_readLine ld gA = zJ_X4_readLine_117 ld (zF_X4_readTrunk ld 1 gA).1 (zF_X4_readTrunk ld 1 gA).2 := by
      unfold zF_X4_readLine
      rw [zf_lq, (a 0 (by decide)).2 s0, if_pos rfl, zf_lq, (a 1 (by decide)).2 s1, if_pos rfl, zf_lq, (a 2 (by decide)).1 s2, if_neg (by decide)]
      unfold zJ_X4_readLine_48
      rw [zf_lq, (a 2 (by decide)).1 s2]
      rfl
    have eB : zF_X12_readLine d gB = (d, zF_X12_mark 59 (zF_X12_sayTrunk 1 gB)) := by
      rw [j0 (sp_23 s2) (sp_24 s2), w2 s2, J92_trunk (by decide), or_0 hd]
    rw [eA, eB]
    exact line_end hn hB hld (line_trunk (Or.inr rfl) hn hB hld h t)
  have w := w3 s1 s2
  -- a fault of this line's first word
  have bad5 : ∀ s : Int, (zJ_X12_readLine_49 d (-1) s (zF_X12_wrong 5 gB)).2 = zF_X12_wrong 5 gB := fun s => J49_line_bad (by rw [(wrong_at hb).1]; decide)
  by_cases s3 : tk_sp B (gA 82 4) (gA 82 5) (gA 82 3) 3
  · have eA : zF_X4_readLine ld gA = zJ_X4_readLine_117 ld (zF_X4_readHeat ld gA).1 (zF_X4_readHeat ld gA).2 := by
      unfold zF_X4_readLine
      rw [zf_lq, (a 0 (by decide)).2 s0, if_pos rfl, zf_lq, (a 1 (by decide)).2 s1, if_pos rfl, zf_lq, (a 2 (by decide)).2 s2, if_pos rfl, zf_lq, (a 3 (by decide)).1 s3, if_neg (by decide)]
      rfl
    have eB : zF_X12_readLine d gB = zJ_X12_readLine_37 d 1 (-1) gB := by
      unfold zF_X12_readLine
      rw [zf_lq, w, zf_lq, (b 17 (by decide)).1 (sp_heat.mp s3), if_neg (by decide)]
    rw [eA, eB]
    unfold zJ_X12_readLine_37
    rw [zf_lq, and_1 hd]
    by_cases od : d = 1 ∨ d = 3
    · rw [if_pos od, if_neg (show ¬ (1 : Int) = 0 by decide), zf_lq, bad5]
      have e6 := t.2.2.2.2.2.1.mp od
      unfold zF_X4_readHeat
      rw [zf_lq, t.2.2.1.1, if_pos e6, X4_blame]
      unfold zf_m2
      dsimp only
      rw [J117_bad]
      exact Or.inr (fa_blame h (by decide))
    · rw [if_neg od, if_pos rfl]
      unfold zJ_X12_readLine_49
      rw [if_pos rfl, zf_lq, if_pos hb, zf_lq, J127, or_1 (by omega)]
      exact line_end hn hB hld (line_heat hn hB hld (by omega) h t)
  by_cases s4 : tk_sp B (gA 82 4) (gA 82 5) (gA 82 3) 4
  · have eA : zF_X4_readLine ld gA = zJ_X4_readLine_117 ld (zF_X4_readGrows (ld + 36) gA).1 (zF_X4_readGrows (ld + 36) gA).2 := by
      unfold zF_X4_readLine
      rw [zf_lq, (a 0 (by decide)).2 s0, if_pos rfl, zf_lq, (a 1 (by decide)).2 s1, if_pos rfl, zf_lq, (a 2 (by decide)).2 s2, if_pos rfl, zf_lq, (a 3 (by decide)).2 s3, if_pos rfl, zf_lq, (a 4 (by decide)).1 s4, if_neg (by decide)]
      rfl
    have eB : zF_X12_readLine d gB = zJ_X12_readLine_37 d 2 (-1) gB := by
      unfold zF_X12_readLine
      rw [zf_lq, w, zf_lq, n17 s3, if_pos rfl, zf_lq, (b 23 (by decide)).1 (sp_grows.mp s4), if_neg (by decide)]
    rw [eA, eB]
    unfold zJ_X12_readLine_37
    rw [zf_lq, and_2 hd]
    by_cases od : 2 ≤ d
    · rw [if_pos od, if_neg (show ¬ (2 : Int) = 0 by decide), zf_lq, bad5]
      have e7 := t.2.2.2.2.2.2.mp od
      unfold zF_X4_readGrows zF_X5_isTold
      rw [zf_lq, zf_lq, t.2.2.2.1.1, if_pos e7, if_neg (show ¬ (1 : Int) = 0 by decide), X4_blame]
      unfold zf_m2
      dsimp only
      rw [J117_bad]
      exact Or.inr (fa_blame h (by decide))
    · rw [if_neg od, if_pos rfl]
      unfold zJ_X12_readLine_49
      rw [if_neg (show ¬ (2 : Int) = 1 by decide)]
      unfold zJ_X12_readLine_68
      rw [if_pos rfl, zf_lq, if_pos hb, zf_lq, zf_lq, J127, or_2 (by omega)]
      exact line_grows hn hB hld (by omega) h t
  · have eA : zF_X4_readLine ld gA = mz_up (mz_up gA 81 1 1) 81 2 (gA 82 5) := by
      unfold zF_X4_readLine
      rw [zf_lq, (a 0 (by decide)).2 s0, if_pos rfl, zf_lq, (a 1 (by decide)).2 s1, if_pos rfl, zf_lq, (a 2 (by decide)).2 s2, if_pos rfl, zf_lq, (a 3 (by decide)).2 s3, if_pos rfl, zf_lq, (a 4 (by decide)).2 s4, if_pos rfl, X4_blame]
      unfold zf_m2
      dsimp only
      rw [J117_bad]
    have eB : (zF_X12_readLine d gB).2 = zF_X12_wrong 1 gB := by
      rw [j0 s3 s4, w]
      unfold zJ_X12_readLine_92
      rw [if_pos rfl, zf_lq, (b 27 (by decide)).2 (fun z => s0 (sp_word.mpr z)), if_pos rfl, zf_lq, J127]
      exact mark_bad _ (by rw [(wrong_at hb).1]; decide)
    rw [eA, eB]
    exact Or.inr (fa_blame h (by decide))
end LI
