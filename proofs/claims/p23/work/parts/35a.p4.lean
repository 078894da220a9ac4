/-! THE FAULT'S PLACE, of both -/
theorem hl_A_k {ld : Nat} {x : mm_X} (hx : mk_x x) (hld : ld = 1 ∨ ld = 41) : hl_A ld := fun g I => by
  obtain ⟨g1, i1, f, e⟩ := q_X4_readLine hx I (q1 := ld) hld
  rw [e]
  exact ⟨i1, f 0 7 (by unfold fw_X4_readLine; omega)⟩
theorem hl_B_k {x : mm_X} (hx : mk_x x) : hl_B mz_TI := fun g d I h0 h3 p ti => by
  obtain ⟨r, g1, i1, f, -, -, -, -, -, p3, t1, -, e⟩ := q_X12_readLine hx I h0 h3 p ti
  rw [e]
  exact ⟨i1, t1, p3, f 137 24 (by unfold fw_X12_readLine; omega), f 137 2 (by unfold fw_X12_readLine; omega), f 137 53 (by unfold fw_X12_readLine; omega)⟩
theorem J99_fine {a1 : Int} {g : mz_G} (h : g 137 22 = 0) : (zJ_X12_baggage_99 a1 g).1 = 0 ∧ (zJ_X12_baggage_99 a1 g).2 = zF_X12_takeOver g := by
  unfold zJ_X12_baggage_99
  simp only [zf_lq]
  rw [if_pos h]
  generalize zF_X12_takeOver g = G
  exact ⟨rfl, rfl⟩
theorem J99_fault {a1 : Int} {g : mz_G} (h : g 137 22 ≠ 0) : (zJ_X12_baggage_99 a1 g).1 = g 137 22 ∧ (zJ_X12_baggage_99 a1 g).2 137 24 = g 137 23 ∧ (zJ_X12_baggage_99 a1 g).2 137 2 = g 137 2 := by
  obtain ⟨V, e⟩ : ∃ V, zJ_X12_baggage_99 a1 g = (mz_up (mz_up g 137 24 (g 137 23)) 150 0 V 137 22, mz_up (mz_up g 137 24 (g 137 23)) 150 0 V) := by
    unfold zJ_X12_baggage_99
    simp only [zf_lq]
    rw [if_neg h]
    exact ⟨_, rfl⟩
  rw [e]
  have e1 : mz_up (mz_up g 137 24 (g 137 23)) 150 0 V 137 22 = g 137 22 := (up_k (by decide)).trans (up_j (by decide))
  have e2 : mz_up (mz_up g 137 24 (g 137 23)) 150 0 V 137 24 = g 137 23 := (up_k (by decide)).trans (mz_up_at ..)
  have e3 : mz_up (mz_up g 137 24 (g 137 23)) 150 0 V 137 2 = g 137 2 := (up_k (by decide)).trans (up_j (by decide))
  exact ⟨e1, e2, e3⟩
theorem J77_fine {x : mm_X} {a1 : Int} {g : mz_G} (h : g 81 1 = 0) : (zJ_X11_baggage_77 x a1 g).1 = 0 ∧ (zJ_X11_baggage_77 x a1 g).2.1 = 0 ∧ (zJ_X11_baggage_77 x a1 g).2.2.1 = mz_up (zF_X6_beginWith 86 (x.2.1 + 26) (zF_X10_settle (x.2.1 + 1) 85 2048 (mz_up g 0 0 (g 81 2)))) 0 7 0 ∧ (zJ_X11_baggage_77 x a1 g).2.2.2 = (x.2.1, x.1, x.2.2) := by
  unfold zJ_X11_baggage_77 zF_X4_place zF_X4_faultKind
  simp only [zf_lq]
  rw [if_pos ((up_k (by decide)).trans h)]
  generalize zF_X6_beginWith 86 (x.2.1 + 26) (zF_X10_settle (x.2.1 + 1) 85 2048 (mz_up g 0 0 (g 81 2))) = G
  exact ⟨rfl, rfl, rfl, rfl⟩
theorem J77_fault {x : mm_X} {a1 : Int} {g : mz_G} (h : g 81 1 ≠ 0) : (zJ_X11_baggage_77 x a1 g).1 = 0 ∧ (zJ_X11_baggage_77 x a1 g).2.1 = g 81 1 ∧ (zJ_X11_baggage_77 x a1 g).2.2.1 0 0 = g 81 2 := by
  obtain ⟨V, e⟩ : ∃ V, zJ_X11_baggage_77 x a1 g = (0, mz_up (mz_up g 0 0 (g 81 2)) 100 0 V 81 1, mz_up (mz_up g 0 0 (g 81 2)) 100 0 V, x) := by
    unfold zJ_X11_baggage_77 zF_X4_place zF_X4_faultKind zF_X6_refuse zf_m2
    simp only [zf_lq]
    rw [if_neg (fun z => h ((up_k (by decide)).symm.trans z)), X11_put (by decide) (by decide)]
    exact ⟨_, rfl⟩
  rw [e]
  have e1 : mz_up (mz_up g 0 0 (g 81 2)) 100 0 V 81 1 = g 81 1 := (up_k (by decide)).trans (up_k (by decide))
  have e2 : mz_up (mz_up g 0 0 (g 81 2)) 100 0 V 0 0 = g 81 2 := (up_k (by decide)).trans (mz_up_at ..)
  exact ⟨rfl, e1, e2⟩
theorem takeOver_24 {x : mm_X} (hx : mk_x x) {g : mz_G} {d : Int} (I : mz_inv g) (ti : mz_TI g d) (h : g 137 22 = 0) : zF_X12_takeOver g 137 24 = g 137 24 ∧ zF_X12_takeOver g 137 2 = g 137 2 := by
  have u := mz_isU ti.2 h
  obtain ⟨g1, i1, f, -, -, -, -, e⟩ := q_X12_takeOver hx I ti.1 u.1 u.2.1 (by
    by_cases y : d ≤ 1
    · exact Or.inr (u.2.2.1 y)
    · exact Or.inl (u.2.2.2 (by omega)))
  rw [e]
  exact ⟨f 137 24 (by unfold fw_X12_takeOver; omega), f 137 2 (by unfold fw_X12_takeOver; omega)⟩
/-- a baggage that fits: what both stand at when all lines are read -/
theorem bag_full {x : mm_X} (hx : mk_x x) {a1 : Int} {g gB : mz_G} (I : mz_inv g) (IB : mz_inv gB) (hs : mz_str g) (hsB : mz_str gB) (hR : mz_cb g = mz_rb gB) (h0 : 0 ≤ a1) (hl : a1 ≤ g 82 1) (hlB : a1 ≤ gB 137 15) : ∃ gA' gB', zF_X11_baggage x a1 g = zJ_X11_baggage_77 x a1 gA' ∧ zF_X12_baggage a1 gB = zJ_X12_baggage_99 a1 gB' ∧ mz_inv gA' ∧ mz_inv gB' ∧ be_k (mz_rb gB) a1 x.2.1 mz_TI gA' gB' ∧ gB' 137 24 = -1 ∧ gB' 137 2 = 0 ∧ gA' 0 7 = g 0 7 ∧ gB' 137 53 = gB 137 53 := by
  have hld : x.2.1 = 1 ∨ x.2.1 = 41 := by unfold mk_x at hx; omega
  have h7 : a1 ≤ 700 := by have := (mz_rd I bd_82_1).2; omega
  have iA : mz_inv (zF_X4_begin a1 (zF_X1_forgetAll x.2.1 g)) := by
    obtain ⟨g1, i1, f1, e1⟩ := q_X1_forgetAll hx I (q0 := x.2.1) hld
    obtain ⟨g2, i2, f2, -, e2⟩ := q_X4_begin hx i1 h0 h7
    rw [e1, e2]
    exact i2
  have iS : mz_inv (rb_s a1 gB) := by
    unfold rb_s
    refine mz_inv_up (mz_inv_up (mz_inv_up (mz_inv_up (mz_inv_up (mz_inv_up (mz_inv_up (mz_inv_up (mz_inv_up (mz_inv_up IB (Prod.eta _).symm ?_ ?_) (Prod.eta _).symm ?_ ?_) (Prod.eta _).symm ?_ ?_) (Prod.eta _).symm ?_ ?_) (Prod.eta _).symm ?_ ?_) (Prod.eta _).symm ?_ ?_) (Prod.eta _).symm ?_ ?_) (Prod.eta _).symm ?_ ?_) (Prod.eta _).symm ?_ ?_) (Prod.eta _).symm ?_ ?_
    · decide
    · decide
    · decide
    · decide
    · exact Int.le_trans (by decide) h0
    · exact Int.le_trans h7 (by decide)
    all_goals decide
  have ro := rb_s_o (a1 := a1) (g := gB)
  have hp : ∀ a, 0 ≤ mz_rb gB a := fun a => (mz_rd IB (q := 151) (k := a.toNat) (lo := 0) (hi := 255) rfl).1
  obtain ⟨iB, ti⟩ : mz_inv (zF_X12_stepOn (rb_s a1 gB)) ∧ mz_TI (zF_X12_stepOn (rb_s a1 gB)) 0 := by
    obtain ⟨g1, i1, f, -, -, e⟩ := q_X12_stepOn hx iS (by rw [ro.2.2.1, ro.2.1]; exact h0)
    rw [e]
    exact ⟨i1, mz_TI_0 ((f 140 4 (by unfold fw_X12_stepOn; omega)).trans ro.2.2.2.2.2.1.1) ((f 140 5 (by unfold fw_X12_stepOn; omega)).trans ro.2.2.2.2.2.1.2.1) ((f 140 7 (by unfold fw_X12_stepOn; omega)).trans ro.2.2.2.2.2.1.2.2.2)⟩
  exact bag_k (TI := mz_TI) hld (hl_A_k hx hld) (hl_B_k hx) (a1 := a1) rfl hs hsB hR hp h0 h7 hl hlB iA iB ti
/-- a baggage that fits: both tell the same kind of fault, at the same place -/
theorem bag_end {x : mm_X} (hx : mk_x x) {a1 : Int} {g gB : mz_G} (I : mz_inv g) (IB : mz_inv gB) (hs : mz_str g) (hsB : mz_str gB) (hR : mz_cb g = mz_rb gB) (h0 : 0 ≤ a1) (hl : a1 ≤ g 82 1) (hlB : a1 ≤ gB 137 15) : (zF_X11_baggage x a1 g).1 = 0 ∧ (zF_X11_baggage x a1 g).2.1 = (zF_X12_baggage a1 gB).1 ∧ (zF_X11_baggage x a1 g).2.2.1 0 0 = (zF_X12_baggage a1 gB).2 137 24 ∧ (zF_X12_baggage a1 gB).2 137 2 = 0 := by
  have hld : x.2.1 = 1 ∨ x.2.1 = 41 := by unfold mk_x at hx; omega
  obtain ⟨gA', gB', r1, r2, r3, r4, r5, r6⟩ := bag_full hx (a1 := a1) I IB hs hsB hR h0 hl hlB
  rw [r1, r2]
  rcases r5 with ⟨d, lk, -, t1⟩ | hf
  · have e2 := lk.2.2.2.1.2
    obtain ⟨c1, c2, c3, -⟩ := J77_fine (x := x) (a1 := a1) lk.2.2.2.1.1
    obtain ⟨d1, d2⟩ := J99_fine (a1 := a1) lk.2.2.2.2
    rw [c1, c2, c3, d1, d2, e2]
    have tk := takeOver_24 hx r4 t1 lk.2.2.2.2
    refine ⟨rfl, rfl, ?_, tk.2.trans r6.2.1⟩
    rw [up_j (by decide), tk.1, r6.1]
    obtain ⟨g2, i2, f2, e3⟩ := q_X10_settle hx (mz_inv_up r3 (q := 0) (k := 0) (v := -1) bd_0_0 (by decide) (by decide)) (q0 := x.2.1 + 1) (by unfold kd_words; omega) (q1 := 85) (n_q1 := 2048) rfl (by decide) (fun _ => rfl)
    obtain ⟨g3, i3, f3, e4⟩ := q_X6_beginWith hx i2 (q0 := 86) (by unfold kd_story; decide) (q1 := x.2.1 + 26) (by unfold kd_tks; omega)
    rw [e3, e4, f3 0 0 (by unfold fw_X6_beginWith; omega), f2 0 0 (by unfold fw_X10_settle; omega), mz_up_at]
  · have hb : gB' 137 22 ≠ 0 := by rw [hf.2.1]; exact hf.1
    obtain ⟨c1, c2, c3⟩ := J77_fault (x := x) (a1 := a1) hf.1
    obtain ⟨d1, d2, d3⟩ := J99_fault (a1 := a1) hb
    exact ⟨c1, c2.trans (hf.2.1.symm.trans d1.symm), c3.trans (hf.2.2.symm.trans d2.symm), d3.trans r6.2.1⟩
theorem bag_no {a1 : Int} {gB : mz_G} (h : ¬ (0 ≤ a1 ∧ a1 ≤ gB 137 15)) : (zF_X12_baggage a1 gB).2 137 24 = gB 137 24 ∧ (zF_X12_baggage a1 gB).2 137 2 = 1 := by
  unfold zF_X12_baggage zJ_X12_baggage_17 zF_X12_fail zf_m2
  simp only [zf_lq]
  have e : mz_up gB 137 2 0 137 15 = gB 137 15 := up_j (by decide)
  have r : mz_up (mz_up gB 137 2 0) 137 2 1 137 24 = gB 137 24 := (up_j (by decide)).trans (up_j (by decide))
  have r2 : mz_up (mz_up gB 137 2 0) 137 2 1 137 2 = 1 := mz_up_at ..
  by_cases h0 : a1 < 0
  · rw [if_pos h0]
    exact ⟨r, r2⟩
  · rw [if_neg h0, e, if_pos (by omega)]
    exact ⟨r, r2⟩
