/-! ACTS of both: days, draw, pull, turn, pack, undo -/
section AC
variable {x : mm_X} {g gA gA' gB gB' : mz_G} {d d' : Int} {V V' : Nat → Nat → Int}
theorem get_A {t : Int} (h0 : 0 ≤ t) (h1 : t < 6) : zF_X9_get 87 t g = 87 + 3 + t.toNat := X9_get h0 h1
/-- one trunk changes -/
theorem sy_n_1 {t0 : Nat} (h : su_e gB gB') (a2 : gA' 87 2 = gA 87 2) (a3 : gA' 87 3 = gA 87 3) (ao : ∀ t j : Nat, (t : Int) < gB 140 1 → t ≠ t0 → gA' (87 + 3 + t) j = gA (87 + 3 + t) j) (e : d' = d) (fo : ∀ t : Nat, (t : Int) < gB 140 1 → t ≠ t0 → V' 0 t = V 0 t ∧ V' 1 t = V 1 t ∧ V' 2 t = V 2 t ∧ V' 3 t = V 3 t) (ne : gA' (87 + 3 + t0) 0 = V' 0 t0 ∧ gA' (87 + 3 + t0) 1 = V' 1 t0 ∧ gA' (87 + 3 + t0) 2 = V' 2 t0 ∧ gA' (87 + 3 + t0) 3 = V' 3 t0 ∧ gA' (87 + 3 + t0) 4 = gA (87 + 3 + t0) 4) (vv : vt gB (V' 0 t0) (V' 1 t0) (V' 3 t0) ∧ 0 ≤ V' 2 t0 ∧ V' 2 t0 ≤ 9) (k : sy_n 87 gA gB d V) : sy_n 87 gA' gB' d' V' := by
  obtain ⟨k1, k2, k3, k4, k5⟩ := k
  have n1 := h 140 1 (by decide) (by decide)
  refine ⟨by rw [a2, k1, n1], by rw [a3, k2, e], fun t ht => ?_, by rw [e]; exact k4, fun t ht => ?_⟩
  · rw [n1] at ht
    rw [h 144 t (by decide) (by decide)]
    by_cases c : t = t0
    · subst c
      obtain ⟨e0, e1, e2, e3, e4⟩ := ne
      exact ⟨e0, e1, e2, e3, e4.trans (k3 t ht).2.2.2.2⟩
    · obtain ⟨f0, f1, f2, f3⟩ := fo t ht c
      rw [ao t 0 ht c, ao t 1 ht c, ao t 2 ht c, ao t 3 ht c, ao t 4 ht c, f0, f1, f2, f3]
      exact k3 t ht
  · rw [n1] at ht
    rw [vt_c h]
    by_cases c : t = t0
    · rw [c]; exact vv
    · obtain ⟨f0, f1, f2, f3⟩ := fo t ht c
      rw [f0, f1, f2, f3]
      exact k5 t ht
/-- what is known of a trunk now -/
theorem now_t (k : ru x gA gB) {t : Int} (h0 : 0 ≤ t) (h1 : t < gB 140 1) : gA 87 2 = gB 140 1 ∧ (gA (87 + 3 + t.toNat) 0 = gB 153 t.toNat ∧ gA (87 + 3 + t.toNat) 1 = gB 154 t.toNat ∧ gA (87 + 3 + t.toNat) 2 = gB 155 t.toNat ∧ gA (87 + 3 + t.toNat) 3 = gB 152 t.toNat ∧ gA (87 + 3 + t.toNat) 4 = gB 144 t.toNat) ∧ vt gB (gB 153 t.toNat) (gB 154 t.toNat) (gB 152 t.toNat) ∧ (0 ≤ gB 155 t.toNat ∧ gB 155 t.toNat ≤ 9) ∧ (gB 144 t.toNat = 0 ∨ gB 144 t.toNat = 1) ∧ t < 6 := by
  obtain ⟨-, -, ⟨⟨n0, n6⟩, nt⟩, ⟨⟨s1, s2, s3, s4, s5⟩, -⟩, -, -⟩ := k
  have ht : (t.toNat : Int) < gB 140 1 := by omega
  obtain ⟨v1, v2, v3⟩ := s5 t.toNat ht
  exact ⟨s1, s3 t.toNat ht, v1, ⟨v2, v3⟩, nt t.toNat ht, by omega⟩
/-- an act that is kept: what holds behind it of the rest -/
theorem act_k (hx : mk_x x) (k : ru x gA gB) (hA hB : mz_G) (fA : ∀ a b : Nat, ¬ (87 ≤ a ∧ a ≤ 95) → a ≠ x.1 + 38 → a ≠ x.1 + 39 → hA a b = zF_X6_keepAct 86 gA a b) (fB : ∀ a b : Nat, ¬ (152 ≤ a ∧ a ≤ 155) → ¬ (a = 137 ∧ b = 30) → a ≠ 160 → a ≠ 161 → hB a b = zF_X12_keep gB a b) (s : sy_n 87 hA hB (hB 137 30) (sy_c hB)) : ru x hA hB := by
  have kx := kn_x hx
  obtain ⟨-, -, k3, ⟨s1, s2, s3, s4⟩, -, -⟩ := id k
  obtain ⟨q1, q2, q3⟩ := keep_k k3 s1 s2
  generalize zF_X6_keepAct 86 gA = mA at *
  generalize zF_X12_keep gB = mB at *
  have h1 : su_e gB mB := fun a b u v => q3 a b (by omega) (by omega)
  have h2 : su_e mB hB := fun a b u v => fB a b (by omega) (by omega) (by omega) (by omega)
  have n6 : mB 140 1 ≤ 6 := by rw [q3 140 1 (by decide) (by decide)]; exact k3.1.2
  refine ru_now hx k (fun a b u v => ?_) (fun a b u v w => ?_) ⟨s, ?_, ?_, ?_⟩
  · have : a ≠ x.1 + 38 ∧ a ≠ x.1 + 39 := by unfold na_ at v; omega
    exact (fA a b (by omega) this.1 this.2).trans (q2 a b (by omega) (by omega))
  · have : a ≠ 160 ∧ a ≠ 161 := by unfold nb_ at u; omega
    exact (fB a b (by omega) (by omega) this.1 this.2).trans (q3 a b (by omega) (by omega))
  · exact sy_a_c (sx_of h2) n6 (fA _ _ (by omega) (by omega) (by omega)) (fA _ _ (by omega) (by omega) (by omega)) (fun j _ => fA _ _ (by omega) (by omega) (by omega)) (fB _ _ (by omega) (by omega) (by omega) (by omega)) (fun j _ => fB _ _ (by omega) (by omega) (by omega) (by omega)) q1
  · refine sy_s_c (sx_of (fun a b u v => (h2 a b u v).trans (h1 a b u v))) ((fA _ _ (by omega) (by omega) (by omega)).trans (q2 _ _ (by omega) (by omega))) (fun j _ => ⟨?_, ?_, ?_⟩) ((fB _ _ (by omega) (by omega) (by omega) (by omega)).trans (q3 _ _ (by omega) (by omega))) (fun j _ => ⟨?_, ?_, ?_⟩) s3
    · exact (fA _ _ (by omega) (by omega) (by omega)).trans (q2 _ _ (by omega) (by omega))
    · exact (fA _ _ (by omega) (by omega) (by omega)).trans (q2 _ _ (by omega) (by omega))
    · exact (fA _ _ (by omega) (by omega) (by omega)).trans (q2 _ _ (by omega) (by omega))
    · exact (fB _ _ (by omega) (by omega) (by omega) (by omega)).trans (q3 _ _ (by omega) (by omega))
    · exact (fB _ _ (by omega) (by omega) (by omega) (by omega)).trans (q3 _ _ (by omega) (by omega))
    · exact (fB _ _ (by omega) (by omega) (by omega) (by omega)).trans (q3 _ _ (by omega) (by omega))
  · exact sy_r_c (fun j _ => (fA _ _ (by omega) (by omega) (by omega)).trans (q2 _ _ (by omega) (by omega))) (fun j _ => (fB _ _ (by omega) (by omega) (by omega) (by omega)).trans (q3 _ _ (by omega) (by omega))) s4
/-- behind an act that is kept all is now as it was -/
theorem keep_n (k : ru x gA gB) : sy_n 87 (zF_X6_keepAct 86 gA) (zF_X12_keep gB) (zF_X12_keep gB 137 30) (sy_c (zF_X12_keep gB)) ∧ su_e gB (zF_X12_keep gB) ∧ (∀ a b : Nat, ¬ (a = 86 ∧ (b = 2 ∨ b = 3)) → a ≠ 96 → zF_X6_keepAct 86 gA a b = gA a b) ∧ (∀ a b : Nat, ¬ (a = 137 ∧ b = 31) → a ≠ 156 → zF_X12_keep gB a b = gB a b) := by
  obtain ⟨-, -, k3, ⟨s1, s2, s3, s4⟩, -, -⟩ := id k
  obtain ⟨q1, q2, q3⟩ := keep_k k3 s1 s2
  have h1 : su_e gB (zF_X12_keep gB) := fun a b u v => q3 a b (by omega) (by omega)
  have n6 := k3.1.2
  exact ⟨sy_n_c (V := sy_c gB) (sx_of h1) (q2 _ _ (by decide) (by decide)) (q2 _ _ (by decide) (by decide)) (fun t j _ _ => q2 _ _ (by omega) (by omega)) (q3 _ _ (by decide) (by decide)) (fun t _ => ⟨q3 153 t (by omega) (by omega), q3 154 t (by omega) (by omega), q3 155 t (by omega) (by omega), q3 152 t (by omega) (by omega)⟩) s1, h1, q2, q3⟩
theorem draw_k (hx : mk_x x) (k : ru x gA gB) {a1 a2 : Int} : kp x (zF_X11_draw x a1 a2 gA) (zF_X12_draw a1 a2 gB) := by
  have k1 := ru_2 (v := 0) k
  unfold zF_X11_draw zF_X12_draw zJ_X11_draw_38 zJ_X12_draw_43
  simp only [zf_lq]
  rw [isT_A, isT_B]
  generalize hb : mz_up gB 137 2 0 = b1 at *
  have c0 : b1 137 2 = 0 := by rw [← hb, mz_up_at]
  clear k hb
  have n2 : gA 87 2 = b1 140 1 := k1.2.2.2.1.1.1
  rw [n2]
  by_cases ht : 0 ≤ a1 ∧ a1 < b1 140 1
  · obtain ⟨-, ⟨e0, e1, e2, e3, e4⟩, vv, ss, tt, t6⟩ := now_t k1 ht.1 ht.2
    rw [if_pos ht, mb_1, i10, get_A ht.1 t6, e2, isI_B]
    by_cases r1 : a2 < 0
    · rw [if_pos r1, if_neg (show ¬ (0 ≤ a2 ∧ a2 ≤ 9) by omega), i00]
      exact kp_ref hx (by decide) (by decide) c0 k1
    by_cases r2 : 9 < a2
    · rw [if_neg r1, if_pos r2, if_neg (show ¬ (0 ≤ a2 ∧ a2 ≤ 9) by omega), i00]
      exact kp_ref hx (by decide) (by decide) c0 k1
    by_cases r3 : a2 = b1 155 a1.toNat
    · rw [if_neg r1, if_neg r2, if_pos r3, if_pos (show 0 ≤ a2 ∧ a2 ≤ 9 by omega), i10, if_pos r3]
      exact kp_ref hx (by decide) (by decide) c0 k1
    rw [if_neg r1, if_neg r2, if_neg r3, if_pos (show 0 ≤ a2 ∧ a2 ≤ 9 by omega), i10, if_neg r3]
    obtain ⟨m1, m2, m3, m4⟩ := keep_n k1
    refine ⟨act_k hx k1 _ _ (fun a b u v w => up_k (by omega)) (fun a b u v w z => mz_up_ne (by omega)) ?_, by dsimp only; rw [up_k (by decide), m4 _ _ (by omega) (by omega)]; exact c0, fun _ => by dsimp only; rw [m3 _ _ (by omega) (by omega), e2]⟩
    dsimp only
    generalize zF_X6_keepAct 86 gA = mA at *
    generalize zF_X12_keep b1 = mB at *
    obtain ⟨y1, y2, y3, y4, y5⟩ := id m1
    have n1 : mB 140 1 = b1 140 1 := m2 _ _ (by decide) (by decide)
    have ht2 : (a1.toNat : Int) < mB 140 1 := by omega
    obtain ⟨z0, z1, z2, z3, z4⟩ := y3 a1.toNat ht2
    have fB : ∀ a b : Nat, ¬ (a = 155 ∧ b = a1.toNat) → mz_up mB 155 a1.toNat a2 a b = mB a b := fun a b z => mz_up_ne z
    refine sy_n_1 (V := sy_c mB) (t0 := a1.toNat) (fun a b u v => fB a b (by omega)) (up_k (by omega)) (up_k (by omega)) (fun t j _ h => up_k (by omega)) (fB _ _ (by omega)) (fun t _ h => ⟨fB 153 t (by omega), fB 154 t (by omega), fB 155 t (by omega), fB 152 t (by omega)⟩) ⟨?_, ?_, ?_, ?_, ?_⟩ ⟨?_, ?_⟩ m1
    · exact (up_j (by decide)).trans (z0.trans (fB 153 _ (by omega)).symm)
    · exact (up_j (by decide)).trans (z1.trans (fB 154 _ (by omega)).symm)
    · exact (mz_up_at ..).trans (mz_up_at mB 155 a1.toNat a2).symm
    · exact (up_j (by decide)).trans (z3.trans (fB 152 _ (by omega)).symm)
    · exact up_j (by decide)
    · show vt mB (mz_up mB 155 a1.toNat a2 153 a1.toNat) (mz_up mB 155 a1.toNat a2 154 a1.toNat) (mz_up mB 155 a1.toNat a2 152 a1.toNat)
      rw [fB _ _ (by omega), fB _ _ (by omega), fB _ _ (by omega)]
      exact (y5 a1.toNat ht2).1
    · show 0 ≤ mz_up mB 155 a1.toNat a2 155 a1.toNat ∧ mz_up mB 155 a1.toNat a2 155 a1.toNat ≤ 9
      rw [mz_up_at]
      omega
  · rw [if_neg ht, mb_0, i00]
    exact kp_fail k1 rfl (by decide)
theorem turnA {q : Nat} : zF_X8_turnRound q g q 0 = g q 1 ∧ zF_X8_turnRound q g q 1 = g q 0 ∧ zF_X8_turnRound q g q 3 = 0 ∧ ∀ a b : Nat, ¬ (a = q ∧ (b = 0 ∨ b = 1 ∨ b = 3)) → zF_X8_turnRound q g a b = g a b := by
  unfold zF_X8_turnRound
  simp only [zf_lq]
  refine ⟨?_, ?_, mz_up_at .., fun a b z => ?_⟩
  · rw [up_j (by decide), up_j (by decide), mz_up_at]
  · rw [up_j (by decide), mz_up_at]
  · rw [mz_up_ne (by omega), mz_up_ne (by omega), mz_up_ne (by omega)]
theorem turnB {t : Int} : zF_X12_turnRound t g 153 t.toNat = g 154 t.toNat ∧ zF_X12_turnRound t g 154 t.toNat = g 153 t.toNat ∧ zF_X12_turnRound t g 152 t.toNat = 0 ∧ ∀ a b : Nat, ¬ ((a = 152 ∨ a = 153 ∨ a = 154) ∧ b = t.toNat) → zF_X12_turnRound t g a b = g a b := by
  unfold zF_X12_turnRound
  simp only [zf_lq]
  refine ⟨?_, ?_, mz_up_at .., fun a b z => ?_⟩
  · rw [up_k (by decide), up_k (by decide), mz_up_at]
  · rw [up_k (by decide), mz_up_at]
  · rw [mz_up_ne (by omega), mz_up_ne (by omega), mz_up_ne (by omega)]
theorem packA {q : Nat} {h w : Int} : zF_X8_packIn q h w g q 0 = (if h = 0 then w else g q 0) ∧ zF_X8_packIn q h w g q 1 = (if h = 0 then g q 1 else w) ∧ zF_X8_packIn q h w g q 3 = 0 ∧ ∀ a b : Nat, ¬ (a = q ∧ (b = 0 ∨ b = 1 ∨ b = 3)) → zF_X8_packIn q h w g a b = g a b := by
  unfold zF_X8_packIn zJ_X8_packIn_17
  simp only [zf_lq]
  by_cases c : h = 0
  · rw [if_pos c, if_pos c, if_pos c]
    refine ⟨?_, ?_, mz_up_at .., fun a b z => ?_⟩
    · rw [up_j (by decide), mz_up_at]
    · rw [up_j (by decide), up_j (by decide)]
    · rw [mz_up_ne (by omega), mz_up_ne (by omega)]
  · rw [if_neg c, if_neg c, if_neg c]
    refine ⟨?_, ?_, mz_up_at .., fun a b z => ?_⟩
    · rw [up_j (by decide), up_j (by decide)]
    · rw [up_j (by decide), mz_up_at]
    · rw [mz_up_ne (by omega), mz_up_ne (by omega)]
theorem packB {t h w : Int} : zF_X12_packIn t h w g 153 t.toNat = (if h = 0 then w else g 153 t.toNat) ∧ zF_X12_packIn t h w g 154 t.toNat = (if h = 0 then g 154 t.toNat else w) ∧ zF_X12_packIn t h w g 152 t.toNat = 0 ∧ ∀ a b : Nat, ¬ ((a = 152 ∨ a = 153 ∨ a = 154) ∧ b = t.toNat) → zF_X12_packIn t h w g a b = g a b := by
  unfold zF_X12_packIn zJ_X12_packIn_21
  simp only [zf_lq]
  by_cases c : h = 0
  · rw [if_pos c, if_pos c, if_pos c]
    refine ⟨?_, ?_, mz_up_at .., fun a b z => ?_⟩
    · rw [up_k (by decide), mz_up_at]
    · rw [up_k (by decide), up_k (by decide)]
    · rw [mz_up_ne (by omega), mz_up_ne (by omega)]
  · rw [if_neg c, if_neg c, if_neg c]
    refine ⟨?_, ?_, mz_up_at .., fun a b z => ?_⟩
    · rw [up_k (by decide), up_k (by decide)]
    · rw [up_k (by decide), mz_up_at]
    · rw [mz_up_ne (by omega), mz_up_ne (by omega)]
/-- one trunk has other words, and isn't grown -/
theorem sy_n_0 {t : Int} {s m : Int} (h0 : 0 ≤ t) (h1 : t < gB 140 1) (ws : 0 ≤ s ∧ s < gB 140 0) (wm : 0 ≤ m ∧ m < gB 140 0) (w : sa_w x.1 gA' gB) (a0 : gA' (87 + 3 + t.toNat) 0 = s) (a1 : gA' (87 + 3 + t.toNat) 1 = m) (a3 : gA' (87 + 3 + t.toNat) 3 = 0) (fA : ∀ a b : Nat, ¬ (a = 87 + 3 + t.toNat ∧ (b = 0 ∨ b = 1 ∨ b = 3)) → gA' a b = gA a b) (b0 : gB' 153 t.toNat = s) (b1 : gB' 154 t.toNat = m) (b3 : gB' 152 t.toNat = 0) (fB : ∀ a b : Nat, ¬ ((a = 152 ∨ a = 153 ∨ a = 154) ∧ b = t.toNat) → gB' a b = gB a b) (k : sy_n 87 gA gB (gB 137 30) (sy_c gB)) : sy_n 87 gA' gB' (gB' 137 30) (sy_c gB') := by
  obtain ⟨y1, y2, y3, y4, y5⟩ := id k
  have ht : (t.toNat : Int) < gB 140 1 := by omega
  obtain ⟨z0, z1, z2, z3, z4⟩ := y3 t.toNat ht
  have e2 : gB' 155 t.toNat = gB 155 t.toNat := fB _ _ (by omega)
  refine sy_n_1 (V := sy_c gB) (t0 := t.toNat) (fun a b u v => fB a b (by omega)) (fA _ _ (by omega)) (fA _ _ (by omega)) (fun t' j _ h => fA _ _ (by omega)) (fB _ _ (by omega)) (fun t' _ h => ⟨fB 153 t' (by omega), fB 154 t' (by omega), fB 155 t' (by omega), fB 152 t' (by omega)⟩) ⟨a0.trans b0.symm, a1.trans b1.symm, (fA _ _ (by omega)).trans (z2.trans e2.symm), a3.trans b3.symm, fA _ _ (by omega)⟩ ⟨?_, ?_⟩ k
  · show vt gB (gB' 153 t.toNat) (gB' 154 t.toNat) (gB' 152 t.toNat)
    rw [b0, b1, b3]
    have := fu_b w ws.1 ws.2 wm.1 wm.2
    exact ⟨ws.1, ws.2, wm.1, wm.2, Int.le_refl 0, by omega⟩
  · show 0 ≤ gB' 155 t.toNat ∧ gB' 155 t.toNat ≤ 9
    rw [e2]
    exact (y5 t.toNat ht).2
theorem turn_k (hx : mk_x x) (k : ru x gA gB) {a1 : Int} : kp x (zF_X11_turn x a1 gA) (zF_X12_turn a1 gB) := by
  have kx := kn_x hx
  have hx1 := hx
  unfold mk_x at hx1
  have k1 := ru_2 (v := 0) k
  unfold zF_X11_turn zF_X12_turn
  simp only [zf_lq]
  rw [isT_A, isT_B]
  generalize hb : mz_up gB 137 2 0 = b1 at *
  have c0 : b1 137 2 = 0 := by rw [← hb, mz_up_at]
  clear k hb
  have n2 : gA 87 2 = b1 140 1 := k1.2.2.2.1.1.1
  rw [n2]
  by_cases ht : 0 ≤ a1 ∧ a1 < b1 140 1
  · obtain ⟨-, ⟨e0, e1, e2, e3, e4⟩, vv, ss, tt, t6⟩ := now_t k1 ht.1 ht.2
    rw [if_pos ht, mb_1, i10, get_A ht.1 t6]
    obtain ⟨m1, m2, m3, m4⟩ := keep_n k1
    obtain ⟨r0, r1, r2, r3⟩ := turnA (g := zF_X6_keepAct 86 gA) (q := 87 + 3 + a1.toNat)
    obtain ⟨q0, q1, q2, q3⟩ := turnB (g := zF_X12_keep b1) (t := a1)
    refine ⟨act_k hx k1 _ _ (fun a b u v w => r3 a b (by omega)) (fun a b u v w z => q3 a b (by omega)) ?_, by dsimp only; rw [q3 _ _ (by omega), m4 _ _ (by omega) (by omega)]; exact c0, fun _ => by dsimp only; rw [m3 _ _ (by omega) (by omega), m4 _ _ (by omega) (by omega), e3]⟩
    dsimp only
    generalize zF_X8_turnRound (87 + 3 + a1.toNat) (zF_X6_keepAct 86 gA) = A2 at *
    generalize zF_X12_turnRound a1 (zF_X12_keep b1) = B2 at *
    generalize zF_X6_keepAct 86 gA = mA at *
    generalize zF_X12_keep b1 = mB at *
    have n1 : mB 140 1 = b1 140 1 := m2 _ _ (by decide) (by decide)
    have n0 : mB 140 0 = b1 140 0 := m2 _ _ (by decide) (by decide)
    obtain ⟨v1, v2, v3, v4, -, -⟩ := vv
    have w1 : sa_w x.1 A2 mB := (sta_B (sta_A k1.2.1 (g := A2) (fun a b u v => (r3 a b (by omega)).trans (m3 a b (by omega) (by omega)))) m2).1
    refine sy_n_0 (t := a1) (s := b1 154 a1.toNat) (m := b1 153 a1.toNat) (x := x) ht.1 (by omega) (by omega) (by omega) w1 ?_ ?_ r2 r3 ?_ ?_ q2 q3 m1
    · rw [r0, m3 _ _ (by omega) (by omega), e1]
    · rw [r1, m3 _ _ (by omega) (by omega), e0]
    · rw [q0, m4 _ _ (by omega) (by omega)]
    · rw [q1, m4 _ _ (by omega) (by omega)]
  · rw [if_neg ht, mb_0, i00]
    exact kp_fail k1 rfl (by decide)
theorem pack_k (hx : mk_x x) (k : ru x gA gB) {a1 a2 a3 : Int} : kp x (zF_X11_pack x a1 a2 a3 gA) (zF_X12_pack a1 a2 a3 gB) := by
  have kx := kn_x hx
  have hx1 := hx
  unfold mk_x at hx1
  have k1 := ru_2 (v := 0) k
  unfold zF_X11_pack zF_X12_pack zJ_X11_pack_29 zJ_X11_pack_17 zJ_X11_pack_29 zJ_X12_pack_31
  simp only [zf_lq]
  rw [isT_A, isT_B, isW_A, isI_B, isW_B]
  generalize hb : mz_up gB 137 2 0 = b1 at *
  have c0 : b1 137 2 = 0 := by rw [← hb, mz_up_at]
  clear k hb
  have n2 : gA 87 2 = b1 140 1 := k1.2.2.2.1.1.1
  have n3 : gA (x.1 + 1) 3 = b1 140 0 := k1.2.1.1.1
  rw [n2, n3]
  have no : zJ_X11_pack_30 x a1 a2 a3 0 gA = (1, 0, gA) := rfl
  rw [no]
  by_cases ht : 0 ≤ a1 ∧ a1 < b1 140 1
  · rw [if_pos ht, i10, i10]
    by_cases hh : 0 ≤ a2 ∧ a2 ≤ 1
    · rw [if_pos hh, i10]
      by_cases hw : 0 ≤ a3 ∧ a3 < b1 140 0
      · rw [if_pos hw, i10, i10]
        have e30 : (if a2 = 0 then zJ_X11_pack_30 x a1 a2 a3 1 gA else if a2 = 1 then zJ_X11_pack_30 x a1 a2 a3 1 gA else (1, 0, gA)) = zJ_X11_pack_30 x a1 a2 a3 1 gA := by
          by_cases z : a2 = 0
          · rw [if_pos z]
          · rw [if_neg z, if_pos (by omega)]
        rw [e30]
        obtain ⟨-, ⟨e0, e1, e2, e3, e4⟩, vv, ss, tt, t6⟩ := now_t k1 ht.1 ht.2
        obtain ⟨v1, v2, v3, v4, -, -⟩ := vv
        unfold zJ_X11_pack_30
        rw [mb_1]
        simp only [zf_lq]
        rw [get_A ht.1 t6, e0, e1]
        have main : ∀ s0 : Int, s0 = (if a2 = 0 then b1 153 a1.toNat else b1 154 a1.toNat) → kp x (zJ_X11_pack_63 x a1 a2 a3 s0 (87 + 3 + a1.toNat) gA) (zJ_X12_pack_56 a1 a2 a3 s0 b1) := fun s0 hs => by
          unfold zJ_X11_pack_63 zJ_X12_pack_56
          simp only [zf_lq]
          by_cases z : s0 = a3
          · rw [if_pos z, if_pos z]
            exact kp_ref hx (by decide) (by decide) c0 k1
          · rw [if_neg z, if_neg z]
            obtain ⟨m1, m2, m3, m4⟩ := keep_n k1
            obtain ⟨r0, r1, r2, r3⟩ := packA (g := zF_X6_keepAct 86 gA) (q := 87 + 3 + a1.toNat) (h := a2) (w := a3)
            obtain ⟨q0, q1, q2, q3⟩ := packB (g := zF_X12_keep b1) (t := a1) (h := a2) (w := a3)
            refine ⟨act_k hx k1 _ _ (fun a b u v w => r3 a b (by omega)) (fun a b u v w z => q3 a b (by omega)) ?_, by dsimp only; rw [q3 _ _ (by omega), m4 _ _ (by omega) (by omega)]; exact c0, fun _ => rfl⟩
            dsimp only
            generalize zF_X8_packIn (87 + 3 + a1.toNat) a2 a3 (zF_X6_keepAct 86 gA) = A2 at *
            generalize zF_X12_packIn a1 a2 a3 (zF_X12_keep b1) = B2 at *
            generalize zF_X6_keepAct 86 gA = mA at *
            generalize zF_X12_keep b1 = mB at *
            have n1 : mB 140 1 = b1 140 1 := m2 _ _ (by decide) (by decide)
            have n0 : mB 140 0 = b1 140 0 := m2 _ _ (by decide) (by decide)
            have w1 : sa_w x.1 A2 mB := (sta_B (sta_A k1.2.1 (g := A2) (fun a b u v => (r3 a b (by omega)).trans (m3 a b (by omega) (by omega)))) m2).1
            rw [m3 _ _ (by omega) (by omega), e0] at r0
            rw [m3 _ _ (by omega) (by omega), e1] at r1
            rw [m4 _ _ (by omega) (by omega)] at q0 q1
            by_cases y : a2 = 0
            · rw [if_pos y] at r0 r1 q0 q1
              exact sy_n_0 (t := a1) (s := a3) (m := b1 154 a1.toNat) (x := x) ht.1 (by omega) (by omega) (by omega) w1 r0 r1 r2 r3 q0 q1 q2 q3 m1
            · rw [if_neg y] at r0 r1 q0 q1
              exact sy_n_0 (t := a1) (s := b1 153 a1.toNat) (m := a3) (x := x) ht.1 (by omega) (by omega) (by omega) w1 r0 r1 r2 r3 q0 q1 q2 q3 m1
        by_cases y : a2 = 0
        · rw [if_pos y, if_pos y]
          exact main _ (by rw [if_pos y])
        · rw [if_neg y, if_neg y]
          exact main _ (by rw [if_neg y])
      · rw [if_neg hw, i00, i00]
        have e30 : (if a2 = 0 then ((1, 0, gA) : zf_T) else if a2 = 1 then (1, 0, gA) else (1, 0, gA)) = (1, 0, gA) := by
          split
          · rfl
          · split <;> rfl
        rw [e30]
        exact kp_fail k1 rfl (by decide)
    · rw [if_neg hh, i00, if_neg (by omega), if_neg (by omega)]
      exact kp_fail k1 rfl (by decide)
  · rw [if_neg ht, i00, i00]
    exact kp_fail k1 rfl (by decide)
theorem pull_k (hx : mk_x x) (k : ru x gA gB) {a1 a2 : Int} : kp x (zF_X11_pull x a1 a2 gA) (zF_X12_pull a1 a2 gB) := by
  have kx := kn_x hx
  have k1 := ru_2 (v := 0) k
  unfold zF_X11_pull zF_X12_pull zJ_X11_pull_56 zJ_X12_pull_58
  simp only [zf_lq]
  rw [isT_A, isT_B]
  generalize hb : mz_up gB 137 2 0 = b1 at *
  have c0 : b1 137 2 = 0 := by rw [← hb, mz_up_at]
  clear k hb
  have n2 : gA 87 2 = b1 140 1 := k1.2.2.2.1.1.1
  rw [n2]
  by_cases ht : 0 ≤ a1 ∧ a1 < b1 140 1
  · obtain ⟨-, ⟨e0, e1, e2, e3, e4⟩, vv, ss, tt, t6⟩ := now_t k1 ht.1 ht.2
    obtain ⟨v1, v2, v3, v4, v5, v6⟩ := id vv
    rw [if_pos ht, mb_1, i10, get_A ht.1 t6, e3, e4, isI_B, isFull_A k1.2.1.1 (by rw [e0]; exact v1) (by rw [e0]; exact v2) (by rw [e1]; exact v3) (by rw [e1]; exact v4), isFull_B, e0, e1, e3]
    by_cases r1 : a2 < 1
    · rw [if_pos r1, if_neg (show ¬ (1 ≤ a2 ∧ a2 ≤ 9) by omega), if_pos rfl]
      exact kp_ref hx (by decide) (by decide) c0 k1
    by_cases r2 : 9 < a2
    · rw [if_neg r1, if_pos r2, if_neg (show ¬ (1 ≤ a2 ∧ a2 ≤ 9) by omega), if_pos rfl]
      exact kp_ref hx (by decide) (by decide) c0 k1
    rw [if_neg r1, if_neg r2, if_pos (show 1 ≤ a2 ∧ a2 ≤ 9 by omega), if_neg (by decide : ¬ (1 : Int) = 0)]
    by_cases r3 : b1 152 a1.toNat = 0
    · rw [if_pos r3, if_pos r3]
      exact kp_ref hx (by decide) (by decide) c0 k1
    rw [if_neg r3, if_neg r3]
    by_cases r4 : b1 152 a1.toNat = fu b1 (b1 153 a1.toNat) (b1 154 a1.toNat)
    · rw [if_pos r4, if_neg (by decide : ¬ (1 : Int) = 0), if_neg (by decide : ¬ (1 : Int) = 0)]
      exact kp_ref hx (by decide) (by decide) c0 k1
    rw [if_neg r4, if_pos rfl, if_pos rfl]
    by_cases r5 : b1 144 a1.toNat = 1
    · rw [if_neg (show ¬ b1 144 a1.toNat = 0 by omega), if_pos r5]
      exact kp_ref hx (by decide) (by decide) c0 k1
    rw [if_pos (show b1 144 a1.toNat = 0 by omega), if_neg r5]
    obtain ⟨m1, m2, m3, m4⟩ := keep_n k1
    have w1 := fu_b k1.2.1.1 v1 v2 v3 v4
    rw [m3 _ _ (by omega) (by omega), m4 152 _ (by omega) (by omega), e3, mz_wrap_id ⟨by omega, by omega⟩]
    refine ⟨act_k hx k1 _ _ (fun a b u v w => up_k (by omega)) (fun a b u v w z => mz_up_ne (by omega)) ?_, by dsimp only; rw [up_k (by decide), m4 _ _ (by omega) (by omega)]; exact c0, fun _ => by dsimp only; rw [mz_up_at, mz_up_at]⟩
    dsimp only
    generalize zF_X6_keepAct 86 gA = mA at *
    generalize zF_X12_keep b1 = mB at *
    obtain ⟨y1, y2, y3, y4, y5⟩ := id m1
    have n1 : mB 140 1 = b1 140 1 := m2 _ _ (by decide) (by decide)
    have ht2 : (a1.toNat : Int) < mB 140 1 := by omega
    obtain ⟨z0, z1, z2, z3, z4⟩ := y3 a1.toNat ht2
    generalize hw : max 0 (b1 152 a1.toNat - a2) = w
    have fB : ∀ a b : Nat, ¬ (a = 152 ∧ b = a1.toNat) → mz_up mB 152 a1.toNat w a b = mB a b := fun a b z => mz_up_ne z
    refine sy_n_1 (V := sy_c mB) (t0 := a1.toNat) (fun a b u v => fB a b (by omega)) (up_k (by omega)) (up_k (by omega)) (fun t j _ h => up_k (by omega)) (fB _ _ (by omega)) (fun t _ h => ⟨fB 153 t (by omega), fB 154 t (by omega), fB 155 t (by omega), fB 152 t (by omega)⟩) ⟨?_, ?_, ?_, ?_, ?_⟩ ⟨?_, ?_⟩ m1
    · exact (up_j (by decide)).trans (z0.trans (fB 153 _ (by omega)).symm)
    · exact (up_j (by decide)).trans (z1.trans (fB 154 _ (by omega)).symm)
    · exact (up_j (by decide)).trans (z2.trans (fB 155 _ (by omega)).symm)
    · exact (mz_up_at ..).trans (mz_up_at mB 152 a1.toNat w).symm
    · exact up_j (by decide)
    · show vt mB (mz_up mB 152 a1.toNat w 153 a1.toNat) (mz_up mB 152 a1.toNat w 154 a1.toNat) (mz_up mB 152 a1.toNat w 152 a1.toNat)
      rw [fB _ _ (by omega), fB _ _ (by omega), mz_up_at, vt_c m2, m4 153 _ (by omega) (by omega), m4 154 _ (by omega) (by omega)]
      exact ⟨v1, v2, v3, v4, by omega, by omega⟩
    · show 0 ≤ mz_up mB 152 a1.toNat w 155 a1.toNat ∧ mz_up mB 152 a1.toNat w 155 a1.toNat ≤ 9
      rw [fB _ _ (by omega)]
      exact (y5 a1.toNat ht2).2
  · rw [if_neg ht, mb_0, i00]
    exact kp_fail k1 rfl (by decide)
end AC
