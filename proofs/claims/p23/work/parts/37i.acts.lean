/-! ACTS of both: undone, days; what is seen; an image -/
section AD
variable {x : mm_X} {g gA gA' gB gB' : mz_G} {d d' : Int} {V V' : Nat → Nat → Int}
theorem undo_k (hx : mk_x x) (k : ru x gA gB) : kq x (zF_X11_undo x gA) (zF_X12_undo gB) := by
  have kx := kn_x hx
  have hx1 := hx
  unfold mk_x at hx1
  have k1 := ru_2 (v := 0) k
  unfold zF_X11_undo zF_X12_undo zF_X6_actsKept
  simp only [zf_lq]
  generalize hb : mz_up gB 137 2 0 = b1 at *
  clear k hb
  obtain ⟨-, -, k3, ⟨s1, s2, s3, s4⟩, -, -⟩ := id k1
  obtain ⟨⟨n0, n6⟩, -⟩ := id k3
  obtain ⟨u1, ⟨u2, u3⟩, ⟨u4, u5⟩, u6⟩ := id s2
  rw [u1]
  by_cases z : b1 137 31 = 0
  · rw [if_pos z, if_pos z]
    exact ⟨k1, rfl⟩
  · rw [if_neg z, if_neg z, mz_up_at]
    have eA : zF_X6_undoAct 86 gA = zF_X9_takeFrom 87 96 1000 ((gA 86 2 + (b1 137 31 - 1)) % 40 * 25) (mz_up gA 86 3 (b1 137 31 - 1)) := by
      unfold zF_X6_undoAct
      simp only [zf_lq, Nat.reduceAdd]
      rw [u1, if_pos (by omega), up_j (by decide), mz_up_at]
    rw [eA]
    have m2 : mz_up gA 86 3 (b1 137 31 - 1) 87 2 = b1 140 1 := (up_k (by decide)).trans s1.1
    obtain ⟨t1, t2, t3⟩ := take_A (g := mz_up gA 86 3 (b1 137 31 - 1)) (T := 87) (q := 96) (p := (gA 86 2 + (b1 137 31 - 1)) % 40 * 25) (by omega) (by omega) (by omega) (by rw [m2]; exact n0) (by rw [m2]; exact n6)
    obtain ⟨r1, r2, r3⟩ := recall_B (g := mz_up b1 137 31 (b1 137 31 - 1)) (q := 156) (nq := 1000) (p := 25 * (b1 137 31 - 1)) (by omega) (by omega)
    rw [m2] at t2
    generalize zF_X9_takeFrom 87 96 1000 ((gA 86 2 + (b1 137 31 - 1)) % 40 * 25) (mz_up gA 86 3 (b1 137 31 - 1)) = hA at *
    generalize zF_X12_recall 156 1000 (25 * (b1 137 31 - 1)) (mz_up b1 137 31 (b1 137 31 - 1)) = hB at *
    have a3 : hA 86 3 = b1 137 31 - 1 := (t3 _ _ (by omega) (by omega)).trans (mz_up_at ..)
    have b31 : hB 137 31 = b1 137 31 - 1 := (r3 _ _ (by omega) (by omega)).trans (mz_up_at ..)
    have fA : ∀ a b : Nat, ¬ (a = 86 ∧ b = 3) → ¬ (a = 87 ∧ b = 3) → ¬ ((87 + 3 ≤ a ∧ a < 87 + 9) ∧ b < 4) → hA a b = gA a b := fun a b u v w => (t3 a b v w).trans (mz_up_ne u)
    have fB : ∀ a b : Nat, ¬ (a = 137 ∧ b = 31) → ¬ (a = 137 ∧ b = 30) → ¬ ((152 ≤ a ∧ a ≤ 155) ∧ b < 6) → hB a b = b1 a b := fun a b u v w => (r3 a b v w).trans (mz_up_ne u)
    have h : su_e b1 hB := fun a b u v => fB a b (by omega) (by omega) (by omega)
    obtain ⟨⟨o1, o2⟩, o3⟩ := u6 (b1 137 31 - 1).toNat (by omega)
    refine ⟨ru_now (gA' := hA) (gB' := hB) hx k1 (fun a b u v => fA a b (by omega) (by omega) (by omega)) (fun a b u v w => fB a b (by omega) (by omega) (by omega)) ⟨⟨?_, ?_, fun t ht => ?_, ?_⟩, ⟨?_, ?_, ?_, fun i hi => ?_⟩, ?_, ?_⟩, ?_⟩
    · rw [fA _ _ (by omega) (by omega) (by omega), h 140 1 (by decide) (by decide)]
      exact s1.1
    · rw [t1, r1, up_k (by decide), up_k (by decide)]
      rw [show ((gA 86 2 + (b1 137 31 - 1)) % 40 * 25).toNat = 25 * (((gA 86 2).toNat + (b1 137 31 - 1).toNat) % 40) by omega, show (25 * (b1 137 31 - 1)).toNat = 25 * (b1 137 31 - 1).toNat by omega]
      exact o1
    · rw [h 140 1 (by decide) (by decide)] at ht
      obtain ⟨y0, y1, y2, y3⟩ := t2 t ht
      obtain ⟨z0, z1, z2, z3⟩ := r2 t (by omega)
      obtain ⟨w0, w1, w2, w3⟩ := o2 t ht
      rw [show ((gA 86 2 + (b1 137 31 - 1)) % 40 * 25).toNat = 25 * (((gA 86 2).toNat + (b1 137 31 - 1).toNat) % 40) by omega] at y0 y1 y2 y3
      rw [show (25 * (b1 137 31 - 1)).toNat = 25 * (b1 137 31 - 1).toNat by omega] at z0 z1 z2 z3
      rw [up_k (by decide)] at y0 y1 y2 y3 z0 z1 z2 z3
      refine ⟨y0.trans (w0.trans z1.symm), y1.trans (w1.trans z2.symm), y2.trans (w2.trans z3.symm), y3.trans (w3.trans z0.symm), ?_⟩
      rw [fA _ _ (by omega) (by omega) (by omega), h 144 t (by decide) (by decide)]
      exact (s1.2.2.1 t ht).2.2.2.2
    · refine sy_v_c (sx_of h) ?_ (fun t ht => ?_) o3
      · rw [r1, up_k (by decide), show (25 * (b1 137 31 - 1)).toNat = 25 * (b1 137 31 - 1).toNat by omega]
      · obtain ⟨z0, z1, z2, z3⟩ := r2 t (by omega)
        rw [show (25 * (b1 137 31 - 1)).toNat = 25 * (b1 137 31 - 1).toNat by omega] at z0 z1 z2 z3
        rw [up_k (by decide)] at z0 z1 z2 z3
        exact ⟨z1, z2, z3, z0⟩
    · rw [a3, b31]
    · rw [b31]; omega
    · rw [fA _ _ (by omega) (by omega) (by omega)]; omega
    · rw [b31] at hi
      rw [fA 86 2 (by omega) (by omega) (by omega), h 140 1 (by decide) (by decide)]
      obtain ⟨⟨p1, p2⟩, p3⟩ := u6 i (by omega)
      have w : ∀ t : Nat, (t : Int) < b1 140 1 → sy_w hB 156 (25 * i) 0 t = sy_w b1 156 (25 * i) 0 t ∧ sy_w hB 156 (25 * i) 1 t = sy_w b1 156 (25 * i) 1 t ∧ sy_w hB 156 (25 * i) 2 t = sy_w b1 156 (25 * i) 2 t ∧ sy_w hB 156 (25 * i) 3 t = sy_w b1 156 (25 * i) 3 t := fun t _ => ⟨fB 156 _ (by omega) (by omega) (by omega), fB 156 _ (by omega) (by omega) (by omega), fB 156 _ (by omega) (by omega) (by omega), fB 156 _ (by omega) (by omega) (by omega)⟩
      refine ⟨⟨?_, fun t ht => ?_⟩, sy_v_c (sx_of h) (fB _ _ (by omega) (by omega) (by omega)) w p3⟩
      · rw [fA _ _ (by omega) (by omega) (by omega), fB _ _ (by omega) (by omega) (by omega)]
        exact p1
      · obtain ⟨w0, w1, w2, w3⟩ := w t ht
        rw [fA _ _ (by omega) (by omega) (by omega), fA _ _ (by omega) (by omega) (by omega), fA _ _ (by omega) (by omega) (by omega), fA _ _ (by omega) (by omega) (by omega), w0, w1, w2, w3]
        exact p2 t ht
    · exact sy_s_c (sx_of h) (fA _ _ (by omega) (by omega) (by omega)) (fun j _ => ⟨fA _ _ (by omega) (by omega) (by omega), fA _ _ (by omega) (by omega) (by omega), fA _ _ (by omega) (by omega) (by omega)⟩) (fB _ _ (by omega) (by omega) (by omega)) (fun j _ => ⟨fB _ _ (by omega) (by omega) (by omega), fB _ _ (by omega) (by omega) (by omega), fB _ _ (by omega) (by omega) (by omega)⟩) s3
    · exact sy_r_c (fun j _ => fA _ _ (by omega) (by omega) (by omega)) (fun j _ => fB _ _ (by omega) (by omega) (by omega)) s4
    · show hA 86 3 = hB 137 31
      rw [a3, b31]
theorem day_l {ld : Nat} (hld : ld = 1 ∨ ld = 41) {g0 : mz_G} (hl : x.1 = ld) (S : sta ld g0 gB) {n d a1 : Int} (n0 : 0 ≤ n) (n6 : n ≤ 6) (hn : g0 87 2 = n) (d0 : 0 ≤ d) (h20 : d + a1 ≤ 2000) (V : ∀ t : Nat, (t : Int) < n → vt gB (g0 (87 + 3 + t) 0) (g0 (87 + 3 + t) 1) (g0 (87 + 3 + t) 3) ∧ (g0 (87 + 3 + t) 4 = 0 ∨ g0 (87 + 3 + t) 4 = 1)) : ∀ (m k i : Nat) (l : Int) (g : mz_G), (a1 - l).toNat = m → m < k → (i : Int) = l → l ≤ a1 → (∀ t : Nat, (t : Int) < n → g (87 + 3 + t) 3 = gnd gB (g0 (87 + 3 + t) 4) (g0 (87 + 3 + t) 0) (g0 (87 + 3 + t) 1) (g0 (87 + 3 + t) 2) i (g0 (87 + 3 + t) 3) d) → g 87 3 = d + l → (∀ a b : Nat, ¬ (b = 3 ∧ (a = 87 ∨ ∃ t : Nat, (t : Int) < n ∧ a = 87 + 3 + t)) → a ≠ ld + 38 → a ≠ ld + 39 → g a b = g0 a b) → ∃ g1, zL_X11_days_47 x a1 k l g = (d + a1, g1) ∧ (∀ t : Nat, (t : Int) < n → g1 (87 + 3 + t) 3 = gnd gB (g0 (87 + 3 + t) 4) (g0 (87 + 3 + t) 0) (g0 (87 + 3 + t) 1) (g0 (87 + 3 + t) 2) (i + m) (g0 (87 + 3 + t) 3) d) ∧ g1 87 3 = d + a1 ∧ (∀ a b : Nat, ¬ (b = 3 ∧ (a = 87 ∨ ∃ t : Nat, (t : Int) < n ∧ a = 87 + 3 + t)) → a ≠ ld + 38 → a ≠ ld + 39 → g1 a b = g0 a b) := by
  intro m
  induction m with
  | zero =>
    intro k i l g hm hk hi hl1 hv hd hf
    obtain ⟨k, rfl⟩ : ∃ k1, k = k1 + 1 := ⟨k - 1, by omega⟩
    have el : l = a1 := by omega
    subst el
    rw [zL_X11_days_47_s]
    unfold zB_X11_days_47
    simp only [zf_lq]
    rw [if_neg (by omega), hd]
    exact ⟨g, rfl, hv, hd, hf⟩
  | succ m ih =>
    intro k i l g hm hk hi hl1 hv hd hf
    obtain ⟨k, rfl⟩ : ∃ k1, k = k1 + 1 := ⟨k - 1, by omega⟩
    rw [zL_X11_days_47_s]
    unfold zB_X11_days_47
    simp only [zf_lq]
    rw [if_pos (by omega), hl]
    have Sg := sta_A S (g := g) (fun a b u v => hf a b (fun ⟨_, z⟩ => by
      rcases z with z | ⟨t, _, z⟩ <;> omega) (by omega) (by omega))
    have e2 : g 87 2 = n := (hf 87 2 (fun ⟨z, _⟩ => by omega) (by omega) (by omega)).trans hn
    have eq : ∀ t b : Nat, b ≠ 3 → g (87 + 3 + t) b = g0 (87 + 3 + t) b := fun t b z => hf _ b (fun ⟨y, _⟩ => z y) (by omega) (by omega)
    obtain ⟨p1, p2, p3⟩ := passDay_A hld (T := 87) (Or.inl rfl) Sg n0 n6 e2 hd (by omega) (by omega) (fun t ht => by
      rw [eq t 0 (by decide), eq t 1 (by decide), eq t 4 (by decide), hv t ht]
      exact ⟨(gnd_b (V t ht).2 i _ d (V t ht).1).1, (V t ht).2⟩)
    generalize zF_X1_passDay ld 87 g = g6 at *
    obtain ⟨g1, e, q1, q2, q3⟩ := ih k (i + 1) (l + 1) g6 (by omega) (by omega) (by omega) (by omega) (fun t ht => by
      rw [p1 t ht, eq t 0 (by decide), eq t 1 (by decide), eq t 2 (by decide), eq t 4 (by decide), hv t ht, gnd_e, hi]) (by rw [p2]; omega) (fun a b z u v => by
      rw [p3 a b z u v]; exact hf a b z u v)
    rw [show i + (m + 1) = i + 1 + m by omega]
    exact ⟨g1, e, q1, q2, q3⟩
theorem days_k (hx : mk_x x) (k : ru x gA gB) {a1 : Int} (l1 : -2147483648 ≤ a1) (u1 : a1 ≤ 2147483647) : kq x (zF_X11_days x a1 gA) (zF_X12_days a1 gB) := by
  have kx := kn_x hx
  have hx1 := hx
  unfold mk_x at hx1
  have k1 := ru_2 (v := 0) k
  unfold zF_X11_days zF_X12_days zJ_X11_days_29 zJ_X12_days_29
  simp only [zf_lq]
  rw [isI_B]
  generalize hb : mz_up gB 137 2 0 = b1 at *
  clear k hb
  obtain ⟨-, k2, k3, ⟨s1, s2, s3, s4⟩, -, -⟩ := id k1
  obtain ⟨m1, m2, m3, ⟨⟨d0, d9⟩, m5⟩⟩ := id s1
  rw [m2]
  by_cases r1 : a1 < 1
  · rw [if_pos r1, if_neg (show ¬ (1 ≤ a1 ∧ a1 ≤ 20) by omega), if_pos rfl]
    exact kq_ref hx (by decide) (by decide) k1
  by_cases r2 : 20 < a1
  · rw [if_neg r1, if_pos r2, if_neg (show ¬ (1 ≤ a1 ∧ a1 ≤ 20) by omega), if_pos rfl]
    exact kq_ref hx (by decide) (by decide) k1
  rw [if_neg r1, if_neg r2, if_pos (show 1 ≤ a1 ∧ a1 ≤ 20 by omega), if_neg (by decide : ¬ (1 : Int) = 0), mz_wrap_id ⟨by omega, by omega⟩]
  by_cases r3 : 999 < b1 137 30 + a1
  · rw [if_pos r3, if_pos r3]
    exact kq_ref hx (by decide) (by decide) k1
  rw [if_neg r3, if_neg r3]
  obtain ⟨q1, q2, q3, q4⟩ := keep_n k1
  have fA : ∀ hA : mz_G, (∀ a b : Nat, ¬ (87 ≤ a ∧ a ≤ 95) → a ≠ x.1 + 38 → a ≠ x.1 + 39 → hA a b = zF_X6_keepAct 86 gA a b) → ∀ hB : mz_G, (∀ a b : Nat, ¬ (152 ≤ a ∧ a ≤ 155) → ¬ (a = 137 ∧ b = 30) → a ≠ 160 → a ≠ 161 → hB a b = zF_X12_keep b1 a b) → sy_n 87 hA hB (hB 137 30) (sy_c hB) → ru x hA hB := fun hA u hB v s => act_k hx k1 hA hB u v s
  generalize zF_X6_keepAct 86 gA = mA at *
  generalize zF_X12_keep b1 = mB at *
  obtain ⟨y1, y2, y3, ⟨y4, y5⟩⟩ := id q1
  have S2 : sta x.1 mA mB := sta_B (sta_A k2 (g := mA) (fun a b u v => q3 a b (by omega) (by omega))) q2
  have n1 : mB 140 1 = b1 140 1 := q2 _ _ (by decide) (by decide)
  have e30 : mB 137 30 = b1 137 30 := q4 _ _ (by decide) (by decide)
  have n6 : mB 140 1 ≤ 6 := by rw [n1]; exact k3.1.2
  have n0 : 0 ≤ mB 140 1 := by rw [n1]; exact k3.1.1
  have tt : ∀ t : Nat, (t : Int) < mB 140 1 → mB 144 t = 0 ∨ mB 144 t = 1 := (ru_n_B q2 k3).2
  obtain ⟨g1, e, v1, v2, v3⟩ := day_l (x := x) (ld := x.1) (gB := mB) (g0 := mA) (by omega) rfl S2 (n := mB 140 1) (d := mB 137 30) (a1 := a1) n0 n6 y1 y4.1 (by omega) (fun t ht => by
    obtain ⟨z0, z1, z2, z3, z4⟩ := y3 t ht
    rw [z0, z1, z3, z4]
    exact ⟨(y5 t ht).1, tt t ht⟩) (a1 - 0).toNat 3000000000 0 0 mA rfl (by omega) rfl (by omega) (fun _ _ => rfl) (by rw [y2]; omega) (fun _ _ _ _ _ => rfl)
  rw [e]
  obtain ⟨w1, w2, w3⟩ := goOn_B (gB := mB) S2.2.2.2.2.2.2.2 S2.2.2.2.2.2.1 n6 (n := a1) (by omega) u1
  generalize zF_X12_goOn a1 mB = hB at *
  refine ⟨fA g1 (fun a b u v w => v3 a b (fun ⟨z, y⟩ => by
    rcases y with y | ⟨t, z2, y⟩
    · omega
    · omega) v w) hB (fun a b u v w z => w3 a b (by unfold fw_dy; omega)) ?_, by dsimp only; rw [w2]⟩
  have h2 : su_e mB hB := fun a b u v => w3 a b (by unfold fw_dy; omega)
  have n2 : hB 140 1 = mB 140 1 := h2 _ _ (by decide) (by decide)
  have c1 : ∀ t : Nat, hB 153 t = mB 153 t ∧ hB 154 t = mB 154 t ∧ hB 155 t = mB 155 t := fun t => ⟨w3 _ _ (by unfold fw_dy; omega), w3 _ _ (by unfold fw_dy; omega), w3 _ _ (by unfold fw_dy; omega)⟩
  have gr : ∀ t : Nat, (t : Int) < mB 140 1 → vt mB (mB 153 t) (mB 154 t) (hB 152 t) := fun t ht => by
    rw [w1 t ht]
    exact (gnd_b (tt t ht) _ _ _ (y5 t ht).1).1
  refine ⟨?_, ?_, fun t ht => ?_, ⟨?_, fun t ht => ?_⟩⟩
  · rw [v3 _ _ (fun ⟨z, _⟩ => by omega) (by omega) (by omega), n2]; exact y1
  · rw [v2, w2]
  · rw [n2] at ht
    obtain ⟨z0, z1, z2, z3, z4⟩ := y3 t ht
    obtain ⟨b3, b4, b5⟩ := c1 t
    have E : ∀ b : Nat, b ≠ 3 → g1 (87 + 3 + t) b = mA (87 + 3 + t) b := fun b hb => v3 _ _ (fun ⟨z, _⟩ => hb z) (by omega) (by omega)
    refine ⟨(E 0 (by decide)).trans (z0.trans b3.symm), (E 1 (by decide)).trans (z1.trans b4.symm), (E 2 (by decide)).trans (z2.trans b5.symm), ?_, (E 4 (by decide)).trans (z4.trans (h2 144 t (by decide) (by decide)).symm)⟩
    rw [v1 t ht, z0, z1, z2, z3, z4]
    show gnd mB (mB 144 t) (mB 153 t) (mB 154 t) (mB 155 t) (0 + (a1 - 0).toNat) (mB 152 t) (mB 137 30) = hB 152 t
    rw [w1 t ht, show 0 + (a1 - 0).toNat = a1.toNat by omega]
  · rw [w2]; omega
  · rw [n2] at ht
    obtain ⟨b3, b4, b5⟩ := c1 t
    show vt hB (hB 153 t) (hB 154 t) (hB 152 t) ∧ 0 ≤ hB 155 t ∧ hB 155 t ≤ 9
    rw [vt_c h2, b3, b4, b5]
    exact ⟨gr t ht, (y5 t ht).2⟩
theorem see_k (hx : mk_x x) (k : ru x gA gB) {a1 a2 a3 : Int} : kp x (zF_X11_see x a1 a2 a3 gA) (zF_X12_see a1 a2 a3 gB) := by
  have k1 := ru_2 (v := 0) k
  unfold zF_X11_see zF_X12_see zJ_X11_see_32 zJ_X12_see_52
  simp only [zf_lq]
  rw [isT_A, isT_B, isI_B, isI_B]
  generalize hb : mz_up gB 137 2 0 = b1 at *
  have c0 : b1 137 2 = 0 := by rw [← hb, mz_up_at]
  clear k hb
  have n2 : gA 87 2 = b1 140 1 := k1.2.2.2.1.1.1
  rw [n2]
  have J0 : zJ_X11_see_33 x a1 a2 a3 0 gA = zf_m2 (zF_X6_refuse 86 2 gA) fun v g => (0, v, g) := rfl
  by_cases ht : 0 ≤ a1 ∧ a1 < b1 140 1
  · rw [if_pos ht, mb_1, i10, J0]
    obtain ⟨-, -, k3, ⟨s1, s2, ⟨t1, ⟨t2, t3⟩, t4⟩, s4⟩, -, -⟩ := id k1
    have R := kp_ref (i := 2) hx (by decide) (by decide) c0 k1
    by_cases r1 : 0 ≤ a2 ∧ a2 ≤ 20
    · rw [if_neg (show ¬ a2 < 0 by omega), if_neg (show ¬ 20 < a2 by omega), if_pos r1, i10]
      by_cases r2 : 0 ≤ a3 ∧ a3 ≤ 16
      · rw [if_neg (show ¬ a3 < 0 by omega), if_neg (show ¬ 16 < a3 by omega), if_pos r2, i10]
        unfold zJ_X11_see_33 zJ_X11_see_52 zF_X6_seenSize
        simp only [zf_lq]
        rw [i10, t1]
        by_cases r3 : b1 137 32 = 8
        · rw [if_neg (show ¬ b1 137 32 < 8 by omega), if_pos r3]
          exact R
        rw [if_pos (show b1 137 32 < 8 by omega), if_neg r3]
        have k32 : ∀ (q : Nat) (g : mz_G) (j : Nat) (v : Int), q ≠ 137 → mz_up g q j v 137 32 = g 137 32 := fun _ _ _ _ h => up_k (Ne.symm h)
        rw [k32 166 b1 _ _ (by decide), k32 167 _ _ _ (by decide), k32 166 b1 _ _ (by decide), k32 168 _ _ _ (by decide), k32 167 _ _ _ (by decide), k32 166 b1 _ _ (by decide), mz_up_at]
        have k7 : ∀ (q : Nat) (g : mz_G) (j : Nat) (v : Int), q ≠ 86 → mz_up g q j v 86 7 = g 86 7 := fun _ _ _ _ h => up_k (Ne.symm h)
        have eA : zF_X6_addSeen 86 a1 a2 a3 gA = mz_up (mz_up (mz_up (mz_up gA 97 (b1 137 32).toNat a1) 98 (b1 137 32).toNat a2) 99 (b1 137 32).toNat a3) 86 7 (b1 137 32 + 1) := by
          unfold zF_X6_addSeen
          simp only [zf_lq, Nat.reduceAdd]
          rw [t1, if_pos (show b1 137 32 < 8 by omega), X11_put (n := 8) t2 (by omega), k7 97 _ _ _ (by decide), t1, X11_put (n := 8) t2 (by omega), k7 98 _ _ _ (by decide), k7 97 _ _ _ (by decide), t1, X11_put (n := 8) t2 (by omega), k7 99 _ _ _ (by decide), k7 98 _ _ _ (by decide), k7 97 _ _ _ (by decide), t1]
        rw [eA, mz_up_at]
        have h : su_e b1 (mz_up (mz_up (mz_up (mz_up b1 166 (b1 137 32).toNat a1) 167 (b1 137 32).toNat a2) 168 (b1 137 32).toNat a3) 137 32 (b1 137 32 + 1)) := fun a b u v => by
          rw [up_k (by omega), up_k (by omega), up_k (by omega), up_k (by omega)]
        have fA : ∀ a b : Nat, a ≠ 97 → a ≠ 98 → a ≠ 99 → ¬ (a = 86 ∧ b = 7) → mz_up (mz_up (mz_up (mz_up gA 97 (b1 137 32).toNat a1) 98 (b1 137 32).toNat a2) 99 (b1 137 32).toNat a3) 86 7 (b1 137 32 + 1) a b = gA a b := fun a b u v w z => by
          rw [mz_up_ne z, up_k w, up_k v, up_k u]
        have fB : ∀ a b : Nat, a ≠ 166 → a ≠ 167 → a ≠ 168 → ¬ (a = 137 ∧ b = 32) → mz_up (mz_up (mz_up (mz_up b1 166 (b1 137 32).toNat a1) 167 (b1 137 32).toNat a2) 168 (b1 137 32).toNat a3) 137 32 (b1 137 32 + 1) a b = b1 a b := fun a b u v w z => by
          rw [mz_up_ne z, up_k w, up_k v, up_k u]
        have main : ru x (mz_up (mz_up (mz_up (mz_up gA 97 (b1 137 32).toNat a1) 98 (b1 137 32).toNat a2) 99 (b1 137 32).toNat a3) 86 7 (b1 137 32 + 1)) (mz_up (mz_up (mz_up (mz_up b1 166 (b1 137 32).toNat a1) 167 (b1 137 32).toNat a2) 168 (b1 137 32).toNat a3) 137 32 (b1 137 32 + 1)) := by
          refine ru_now hx k1 (fun a b u v => fA a b (by omega) (by omega) (by omega) (by omega)) (fun a b u v w => fB a b (by omega) (by omega) (by omega) (by omega)) ⟨?_, ?_, ⟨?_, ?_, fun i hi => ?_⟩, ?_⟩
          · exact sy_n_c (V := sy_c b1) (sx_of h) (fA _ _ (by omega) (by omega) (by omega) (by omega)) (fA _ _ (by omega) (by omega) (by omega) (by omega)) (fun t j ht _ => fA _ _ (by have := k3.1.2; omega) (by have := k3.1.2; omega) (by have := k3.1.2; omega) (by omega)) (fB _ _ (by omega) (by omega) (by omega) (by omega)) (fun t _ => ⟨fB 153 t (by omega) (by omega) (by omega) (by omega), fB 154 t (by omega) (by omega) (by omega) (by omega), fB 155 t (by omega) (by omega) (by omega) (by omega), fB 152 t (by omega) (by omega) (by omega) (by omega)⟩) s1
          · exact sy_a_c (sx_of h) k3.1.2 (fA _ _ (by omega) (by omega) (by omega) (by omega)) (fA _ _ (by omega) (by omega) (by omega) (by omega)) (fun j _ => fA _ _ (by omega) (by omega) (by omega) (by omega)) (fB _ _ (by omega) (by omega) (by omega) (by omega)) (fun j _ => fB _ _ (by omega) (by omega) (by omega) (by omega)) s2
          · rw [mz_up_at, mz_up_at]
          · rw [mz_up_at]; omega
          · rw [mz_up_at] at hi
            rw [h 140 1 (by decide) (by decide)]
            have A9 : ∀ i : Nat, mz_up (mz_up (mz_up (mz_up gA 97 (b1 137 32).toNat a1) 98 (b1 137 32).toNat a2) 99 (b1 137 32).toNat a3) 86 7 (b1 137 32 + 1) 97 i = (if i = (b1 137 32).toNat then a1 else gA 97 i) ∧ mz_up (mz_up (mz_up (mz_up gA 97 (b1 137 32).toNat a1) 98 (b1 137 32).toNat a2) 99 (b1 137 32).toNat a3) 86 7 (b1 137 32 + 1) (97 + 1) i = (if i = (b1 137 32).toNat then a2 else gA 98 i) ∧ mz_up (mz_up (mz_up (mz_up gA 97 (b1 137 32).toNat a1) 98 (b1 137 32).toNat a2) 99 (b1 137 32).toNat a3) 86 7 (b1 137 32 + 1) (97 + 2) i = (if i = (b1 137 32).toNat then a3 else gA 99 i) := fun i => by
              by_cases c : i = (b1 137 32).toNat
              · rw [if_pos c, if_pos c, if_pos c, c]
                refine ⟨?_, ?_, ?_⟩
                · rw [up_k (by decide), up_k (by decide), up_k (by decide), mz_up_at]
                · rw [up_k (by decide), up_k (by decide)]; exact mz_up_at ..
                · rw [up_k (by decide)]; exact mz_up_at ..
              · rw [if_neg c, if_neg c, if_neg c]
                refine ⟨?_, ?_, ?_⟩
                · rw [up_k (by decide), up_k (by decide), up_k (by decide), up_j c]
                · rw [up_k (by decide), up_k (by decide)]; exact (up_j c).trans (up_k (by decide))
                · rw [up_k (by decide)]; exact (up_j c).trans ((up_k (by decide)).trans (up_k (by decide)))
            have B9 : ∀ i : Nat, mz_up (mz_up (mz_up (mz_up b1 166 (b1 137 32).toNat a1) 167 (b1 137 32).toNat a2) 168 (b1 137 32).toNat a3) 137 32 (b1 137 32 + 1) 166 i = (if i = (b1 137 32).toNat then a1 else b1 166 i) ∧ mz_up (mz_up (mz_up (mz_up b1 166 (b1 137 32).toNat a1) 167 (b1 137 32).toNat a2) 168 (b1 137 32).toNat a3) 137 32 (b1 137 32 + 1) (166 + 1) i = (if i = (b1 137 32).toNat then a2 else b1 167 i) ∧ mz_up (mz_up (mz_up (mz_up b1 166 (b1 137 32).toNat a1) 167 (b1 137 32).toNat a2) 168 (b1 137 32).toNat a3) 137 32 (b1 137 32 + 1) (166 + 2) i = (if i = (b1 137 32).toNat then a3 else b1 168 i) := fun i => by
              by_cases c : i = (b1 137 32).toNat
              · rw [if_pos c, if_pos c, if_pos c, c]
                refine ⟨?_, ?_, ?_⟩
                · rw [up_k (by decide), up_k (by decide), up_k (by decide), mz_up_at]
                · rw [up_k (by decide), up_k (by decide)]; exact mz_up_at ..
                · rw [up_k (by decide)]; exact mz_up_at ..
              · rw [if_neg c, if_neg c, if_neg c]
                refine ⟨?_, ?_, ?_⟩
                · rw [up_k (by decide), up_k (by decide), up_k (by decide), up_j c]
                · rw [up_k (by decide), up_k (by decide)]; exact (up_j c).trans (up_k (by decide))
                · rw [up_k (by decide)]; exact (up_j c).trans ((up_k (by decide)).trans (up_k (by decide)))
            obtain ⟨A1, A2, A3⟩ := A9 i
            obtain ⟨B1, B2, B3⟩ := B9 i
            rw [A1, A2, A3, B1, B2, B3]
            by_cases c : i = (b1 137 32).toNat
            · simp only [if_pos c]
              exact ⟨trivial, trivial, trivial, ht, r1⟩
            · rw [if_neg c, if_neg c, if_neg c, if_neg c, if_neg c, if_neg c]
              exact t4 i (by omega)
          · exact sy_r_c (fun j _ => fA _ _ (by omega) (by omega) (by omega) (by omega)) (fun j _ => fB _ _ (by omega) (by omega) (by omega) (by omega)) s4
        exact ⟨main, (fB 137 2 (by decide) (by decide) (by decide) (by decide)).trans c0, fun _ => rfl⟩
      · have e9 : (if a3 < 0 then (zf_m2 (zF_X6_refuse 86 2 gA) fun v g => (0, v, g) : zf_T) else if 16 < a3 then (zf_m2 (zF_X6_refuse 86 2 gA) fun v g => (0, v, g)) else zJ_X11_see_33 x a1 a2 a3 1 gA) = zf_m2 (zF_X6_refuse 86 2 gA) fun v g => (0, v, g) := by
          by_cases z : a3 < 0
          · rw [if_pos z]
          · rw [if_neg z, if_pos (by omega)]
        rw [e9, if_neg r2, i00]
        split <;> exact R
    · have e9 : ∀ T : zf_T, (if a2 < 0 then (zf_m2 (zF_X6_refuse 86 2 gA) fun v g => (0, v, g) : zf_T) else if 20 < a2 then (zf_m2 (zF_X6_refuse 86 2 gA) fun v g => (0, v, g)) else T) = zf_m2 (zF_X6_refuse 86 2 gA) fun v g => (0, v, g) := fun T => by
        by_cases z : a2 < 0
        · rw [if_pos z]
        · rw [if_neg z, if_pos (by omega)]
      rw [e9, if_neg r1, i00]
      split <;> exact R
  · rw [if_neg ht, mb_0, i00]
    exact kp_fail k1 rfl (by decide)
theorem forget_k (hx : mk_x x) (k : ru x gA gB) : ru x (zF_X11_forget x gA) (zF_X12_forget gB) := by
  have k1 := ru_2 (v := 0) k
  unfold zF_X11_forget zF_X12_forget zF_X6_forgetSeen
  simp only [zf_lq]
  generalize mz_up gB 137 2 0 = b1 at *
  clear k
  obtain ⟨-, -, k3, ⟨s1, s2, ⟨t1, ⟨t2, t3⟩, t4⟩, s4⟩, -, -⟩ := id k1
  have h : su_e b1 (mz_up b1 137 32 0) := fun a b u v => up_k (by omega)
  have fA : ∀ a b : Nat, ¬ (a = 86 ∧ b = 7) → mz_up gA 86 7 0 a b = gA a b := fun a b z => mz_up_ne z
  have fB : ∀ a b : Nat, ¬ (a = 137 ∧ b = 32) → mz_up b1 137 32 0 a b = b1 a b := fun a b z => mz_up_ne z
  refine ru_now hx k1 (fun a b u v => fA a b (by omega)) (fun a b u v w => fB a b (by omega)) ⟨?_, ?_, ⟨?_, ?_, fun i hi => ?_⟩, ?_⟩
  · exact sy_n_c (V := sy_c b1) (sx_of h) (fA _ _ (by omega)) (fA _ _ (by omega)) (fun t j ht _ => fA _ _ (by omega)) (fB _ _ (by omega)) (fun t _ => ⟨fB 153 t (by omega), fB 154 t (by omega), fB 155 t (by omega), fB 152 t (by omega)⟩) s1
  · exact sy_a_c (sx_of h) k3.1.2 (fA _ _ (by omega)) (fA _ _ (by omega)) (fun j _ => fA _ _ (by omega)) (fB _ _ (by omega)) (fun j _ => fB _ _ (by omega)) s2
  · rw [mz_up_at, mz_up_at]
  · rw [mz_up_at]; decide
  · rw [mz_up_at] at hi; omega
  · exact sy_r_c (fun j _ => fA _ _ (by omega)) (fun j _ => fB _ _ (by omega)) s4
/-- a story taken over by another one -/
theorem over_A {S U : Nat} (hs : S + 15 ≤ U ∨ U + 15 ≤ S) (n0 : 0 ≤ g (U + 1) 2) (n6 : g (U + 1) 2 ≤ 6) : zF_X6_takeOver S U g (S + 1) 2 = g (U + 1) 2 ∧ zF_X6_takeOver S U g (S + 1) 3 = g (U + 1) 3 ∧ (∀ t j : Nat, (t : Int) < g (U + 1) 2 → j < 5 → zF_X6_takeOver S U g (S + 1 + 3 + t) j = g (U + 1 + 3 + t) j) ∧ (∀ j : Nat, j < 1000 → zF_X6_takeOver S U g (S + 10) j = g (U + 10) j) ∧ zF_X6_takeOver S U g S 2 = g U 2 ∧ zF_X6_takeOver S U g S 3 = g U 3 ∧ zF_X6_takeOver S U g S 7 = g U 7 ∧ (∀ j : Nat, j < 8 → zF_X6_takeOver S U g (S + 11) j = g (U + 11) j ∧ zF_X6_takeOver S U g (S + 12) j = g (U + 12) j ∧ zF_X6_takeOver S U g (S + 13) j = g (U + 13) j) ∧ (∀ j : Nat, j < 3 → zF_X6_takeOver S U g (S + 14) j = g (U + 14) j) ∧ (∀ a b : Nat, ¬ (S ≤ a ∧ a ≤ S + 14) → zF_X6_takeOver S U g a b = g a b) := by
  unfold zF_X6_takeOver
  simp only [zf_lq]
  obtain ⟨a1, a2, a3, a4⟩ := copyAll_A (g := g) (T := S + 1) (U := U + 1) (by omega) n0 n6
  generalize zF_X9_copyAll (S + 1) (U + 1) g = g1 at *
  obtain ⟨b1, b2⟩ := copyRow_A (g := g1) (q := U + 10) (r := S + 10) (n := 1000) (by omega) (by omega)
  generalize zF_X11_copyRow (U + 10) 1000 (S + 10) 1000 g1 = g2 at *
  rw [show mz_up g2 S 2 (g2 U 2) U 3 = g2 U 3 from up_k (by omega)]
  generalize hg6 : mz_up (mz_up g2 S 2 (g2 U 2)) S 3 (g2 U 3) = g6 at *
  obtain ⟨c1, c2⟩ := copyRow_A (g := g6) (q := U + 11) (r := S + 11) (n := 8) (by omega) (by omega)
  generalize zF_X11_copyRow (U + 11) 8 (S + 11) 8 g6 = g7 at *
  obtain ⟨d1, d2⟩ := copyRow_A (g := g7) (q := U + 12) (r := S + 12) (n := 8) (by omega) (by omega)
  generalize zF_X11_copyRow (U + 12) 8 (S + 12) 8 g7 = g8 at *
  obtain ⟨e1, e2⟩ := copyRow_A (g := g8) (q := U + 13) (r := S + 13) (n := 8) (by omega) (by omega)
  generalize zF_X11_copyRow (U + 13) 8 (S + 13) 8 g8 = g9 at *
  generalize hg11 : mz_up g9 S 7 (g9 U 7) = g11 at *
  obtain ⟨f1, f2⟩ := copyRow_A (g := g11) (q := U + 14) (r := S + 14) (n := 3) (by omega) (by omega)
  generalize zF_X11_copyRow (U + 14) 3 (S + 14) 3 g11 = g12 at *
  have o6 : ∀ a b : Nat, ¬ (a = S ∧ (b = 2 ∨ b = 3)) → g6 a b = g2 a b := fun a b z => by
    rw [← hg6, mz_up_ne (by omega), mz_up_ne (by omega)]
  have o11 : ∀ a b : Nat, ¬ (a = S ∧ b = 7) → g11 a b = g9 a b := fun a b z => by
    rw [← hg11, mz_up_ne (by omega)]
  have p9 : ∀ a b : Nat, a ≠ S + 11 → a ≠ S + 12 → a ≠ S + 13 → g9 a b = g6 a b := fun a b u v w => by
    rw [e2 a b (by omega), d2 a b (by omega), c2 a b (by omega)]
  have p2 : ∀ a b : Nat, ¬ (S ≤ a ∧ a ≤ S + 10) → g2 a b = g a b := fun a b z => by
    rw [b2 a b (by omega), a4 a b (by omega) (by omega)]
  have pU : ∀ a b : Nat, ¬ (S ≤ a ∧ a ≤ S + 14) → g12 a b = g a b := fun a b z => by
    rw [f2 a b (by omega), o11 a b (by omega), p9 a b (by omega) (by omega) (by omega), o6 a b (by omega), p2 a b (by omega)]
  have q1 : ∀ a b : Nat, S + 1 ≤ a → a ≤ S + 9 → g12 a b = g1 a b := fun a b u v => by
    rw [f2 a b (by omega), o11 a b (by omega), p9 a b (by omega) (by omega) (by omega), o6 a b (by omega), b2 a b (by omega)]
  refine ⟨?_, ?_, fun t j ht hj => ?_, fun j hj => ?_, ?_, ?_, ?_, fun j hj => ⟨?_, ?_, ?_⟩, fun j hj => ?_, pU⟩
  · rw [q1 _ _ (by omega) (by omega), a1]
  · rw [q1 _ _ (by omega) (by omega), a2]
  · rw [q1 _ _ (by omega) (by omega), a3 t j ht hj]
  · rw [f2 _ _ (by omega), o11 _ _ (by omega), p9 _ _ (by omega) (by omega) (by omega), o6 _ _ (by omega), b1 j hj, a4 _ _ (by omega) (by omega)]
  · rw [f2 _ _ (by omega), o11 _ _ (by omega), p9 _ _ (by omega) (by omega) (by omega), ← hg6, up_j (by decide), mz_up_at, p2 _ _ (by omega)]
  · rw [f2 _ _ (by omega), o11 _ _ (by omega), p9 _ _ (by omega) (by omega) (by omega), ← hg6, mz_up_at, p2 _ _ (by omega)]
  · rw [f2 _ _ (by omega), ← hg11, mz_up_at, p9 _ _ (by omega) (by omega) (by omega), o6 _ _ (by omega), p2 _ _ (by omega)]
  · rw [f2 _ _ (by omega), o11 _ _ (by omega), e2 _ _ (by omega), d2 _ _ (by omega), c1 j hj, o6 _ _ (by omega), p2 _ _ (by omega)]
  · rw [f2 _ _ (by omega), o11 _ _ (by omega), e2 _ _ (by omega), d1 j hj, c2 _ _ (by omega), o6 _ _ (by omega), p2 _ _ (by omega)]
  · rw [f2 _ _ (by omega), o11 _ _ (by omega), e1 j hj, d2 _ _ (by omega), c2 _ _ (by omega), o6 _ _ (by omega), p2 _ _ (by omega)]
  · rw [f1 j hj, o11 _ _ (by omega), p9 _ _ (by omega) (by omega) (by omega), o6 _ _ (by omega), p2 _ _ (by omega)]
theorem image_k (hx : mk_x x) (k : ru x gA gB) : ru x (zF_X11_image x gA) (zF_X12_image gB) := by
  have kx := kn_x hx
  have hx1 := hx
  unfold mk_x at hx1
  have k1 := ru_2 (v := 0) k
  unfold zF_X11_image zF_X12_image
  simp only [zf_lq]
  generalize mz_up gB 137 2 0 = b1 at *
  clear k
  obtain ⟨⟨t1, t2, ⟨t3, t4⟩, t5, t6, t7⟩, k2, k3, ⟨s1, s2, s3, s4⟩, k5, k6⟩ := id k1
  have m2 : gA 87 2 = b1 140 1 := s1.1
  obtain ⟨a1, a2, a3, a4, a5, a6, a7, a8, a9, a10⟩ := over_A (g := gA) (S := 101) (U := 86) (by omega) (by show 0 ≤ gA 87 2; rw [m2]; exact k3.1.1) (by show gA 87 2 ≤ 6; rw [m2]; exact k3.1.2)
  simp only [Nat.reduceAdd] at a1 a2 a3 a4 a5 a6 a7 a8 a9 a10
  generalize zF_X6_takeOver 101 86 gA = A1 at *
  rw [show mz_up (mz_up b1 137 53 1) 137 54 (mz_up b1 137 53 1 137 31) 137 32 = b1 137 32 from (up_j (by decide)).trans (up_j (by decide)), show mz_up b1 137 53 1 137 31 = b1 137 31 from up_j (by decide)]
  generalize hb6 : mz_up (mz_up (mz_up b1 137 53 1) 137 54 (b1 137 31)) 137 55 (b1 137 32) = b6
  have o6 : ∀ a b : Nat, ¬ (a = 137 ∧ (b = 53 ∨ b = 54 ∨ b = 55)) → b6 a b = b1 a b := fun a b z => by
    rw [← hb6, mz_up_ne (by omega), mz_up_ne (by omega), mz_up_ne (by omega)]
  have v53 : b6 137 53 = 1 := by rw [← hb6, up_j (by decide), up_j (by decide), mz_up_at]
  have v54 : b6 137 54 = b1 137 31 := by rw [← hb6, up_j (by decide), mz_up_at]
  have v55 : b6 137 55 = b1 137 32 := by rw [← hb6, mz_up_at]
  clear hb6
  obtain ⟨w1, w2, w3⟩ := store_B (g := b6) (q := 173) (nq := 25) (p := 0) (by omega) (by decide)
  generalize zF_X12_store 173 25 0 b6 = b7 at *
  obtain ⟨c1, c2⟩ := copyTo_B (g := b7) (q := 174) (r := 156) (n := 1000) (by decide) (by decide)
  generalize zF_X12_copyTo 174 1000 156 1000 b7 = b8 at *
  obtain ⟨d1, d2⟩ := copyTo_B (g := b8) (q := 175) (r := 166) (n := 8) (by decide) (by decide)
  generalize zF_X12_copyTo 175 8 166 8 b8 = b9 at *
  obtain ⟨e1, e2⟩ := copyTo_B (g := b9) (q := 176) (r := 167) (n := 8) (by decide) (by decide)
  generalize zF_X12_copyTo 176 8 167 8 b9 = b10 at *
  obtain ⟨f1, f2⟩ := copyTo_B (g := b10) (q := 177) (r := 168) (n := 8) (by decide) (by decide)
  generalize zF_X12_copyTo 177 8 168 8 b10 = b11 at *
  obtain ⟨h1, h2⟩ := copyTo_B (g := b11) (q := 178) (r := 150) (n := 3) (by decide) (by decide)
  generalize zF_X12_copyTo 178 3 150 3 b11 = b12 at *
  have q7 : ∀ a b : Nat, a ≠ 173 → b7 a b = b6 a b := fun a b z => w3 a b (by omega)
  have q12 : ∀ a b : Nat, ¬ (174 ≤ a ∧ a ≤ 178) → b12 a b = b7 a b := fun a b z => by
    rw [h2 a b (by omega), f2 a b (by omega), e2 a b (by omega), d2 a b (by omega), c2 a b (by omega)]
  have q1 : ∀ a b : Nat, ¬ (173 ≤ a ∧ a ≤ 178) → ¬ (a = 137 ∧ (b = 53 ∨ b = 54 ∨ b = 55)) → b12 a b = b1 a b := fun a b u v => by
    rw [q12 a b (by omega), q7 a b (by omega), o6 a b v]
  have z53 : b12 137 53 = 1 := by rw [q12 _ _ (by omega), q7 _ _ (by omega), v53]
  have z54 : b12 137 54 = b1 137 31 := by rw [q12 _ _ (by omega), q7 _ _ (by omega), v54]
  have z55 : b12 137 55 = b1 137 32 := by rw [q12 _ _ (by omega), q7 _ _ (by omega), v55]
  have zr : b12 173 0 = b1 137 30 := by
    rw [q12 _ _ (by omega)]
    exact w1.trans (o6 _ _ (by omega))
  have zw : ∀ t : Nat, t < 6 → sy_w b12 173 0 0 t = sy_c b1 0 t ∧ sy_w b12 173 0 1 t = sy_c b1 1 t ∧ sy_w b12 173 0 2 t = sy_c b1 2 t ∧ sy_w b12 173 0 3 t = sy_c b1 3 t := fun t ht => by
    obtain ⟨y0, y1, y2, y3⟩ := w2 t ht
    refine ⟨?_, ?_, ?_, ?_⟩
    · exact (q12 173 _ (by omega)).trans (y1.trans (o6 _ _ (by omega)))
    · exact (q12 173 _ (by omega)).trans (y2.trans (o6 _ _ (by omega)))
    · exact (q12 173 _ (by omega)).trans (y3.trans (o6 _ _ (by omega)))
    · exact (q12 173 _ (by omega)).trans (y0.trans (o6 _ _ (by omega)))
  have zp : ∀ j : Nat, j < 1000 → b12 174 j = b1 156 j := fun j hj => by
    rw [h2 _ _ (by omega), f2 _ _ (by omega), e2 _ _ (by omega), d2 _ _ (by omega), c1 j hj, q7 _ _ (by omega), o6 _ _ (by omega)]
  have zs : ∀ j : Nat, j < 8 → b12 175 j = b1 166 j ∧ b12 (175 + 1) j = b1 (166 + 1) j ∧ b12 (175 + 2) j = b1 (166 + 2) j := fun j hj => by
    refine ⟨?_, ?_, ?_⟩
    · rw [h2 _ _ (by omega), f2 _ _ (by omega), e2 _ _ (by omega), d1 j hj, c2 _ _ (by omega), q7 _ _ (by omega), o6 _ _ (by omega)]
    · show b12 176 j = b1 167 j
      rw [h2 _ _ (by omega), f2 _ _ (by omega), e1 j hj, d2 _ _ (by omega), c2 _ _ (by omega), q7 _ _ (by omega), o6 _ _ (by omega)]
    · show b12 177 j = b1 168 j
      rw [h2 _ _ (by omega), f1 j hj, e2 _ _ (by omega), d2 _ _ (by omega), c2 _ _ (by omega), q7 _ _ (by omega), o6 _ _ (by omega)]
  have zt : ∀ j : Nat, j < 3 → b12 178 j = b1 150 j := fun j hj => by
    rw [h1 j hj, f2 _ _ (by omega), e2 _ _ (by omega), d2 _ _ (by omega), c2 _ _ (by omega), q7 _ _ (by omega), o6 _ _ (by omega)]
  have h : su_e b1 b12 := fun a b u v => q1 a b (by omega) (by omega)
  have gA1 : ∀ a b : Nat, ¬ (101 ≤ a ∧ a ≤ 115) → ¬ (a = 0 ∧ b = 7) → mz_up A1 0 7 1 a b = gA a b := fun a b u v => by
    rw [mz_up_ne v, a10 a b u]
  have gA2 : ∀ a b : Nat, a ≠ 0 → mz_up A1 0 7 1 a b = A1 a b := fun a b u => up_k u
  have e7 : mz_up A1 0 7 1 0 7 = 1 := mz_up_at ..
  refine ⟨⟨fun q i hq => ?_, fun q i hq => ?_, ⟨?_, fun j => ?_⟩, ?_, ?_, ?_⟩, sta_B (sta_A k2 (fun a b u v => gA1 a b (by omega) (by omega))) h, ru_n_B h k3, ?_, ?_, fun _ => ⟨?_, ?_, ?_, ?_⟩⟩
  · rw [gA1 _ _ (by omega) (by omega)]; exact t1 q i hq
  · rw [q1 _ _ (by omega) (by omega)]; exact t2 q i hq
  · rw [gA1 _ _ (by omega) (by omega), q1 _ _ (by omega) (by omega)]; exact t3
  · rw [gA1 _ _ (by omega) (by omega), q1 _ _ (by omega) (by omega)]; exact t4 j
  · rw [gA1 _ _ (by omega) (by omega), q1 _ _ (by omega) (by omega)]; exact t5
  · rw [gA1 _ _ (by omega) (by omega)]; exact t6
  · rw [gA1 _ _ (by omega) (by omega)]; exact t7
  · exact sy_1_B k3.1.2 h ⟨q1 _ _ (by omega) (by omega), q1 _ _ (by omega) (by omega), q1 _ _ (by omega) (by omega)⟩ (fun a b z => q1 a b (by omega) (by omega)) (sy_1_A k3.1.2 (fun a b u v => gA1 a b (by omega) (by omega)) ⟨s1, s2, s3, s4⟩)
  · rw [e7, z53]; exact ⟨rfl, Or.inr rfl⟩
  · refine sy_n_c (V := sy_c b1) (sx_of h) ?_ ?_ (fun t j ht hj => ?_) zr (fun t ht => zw t (by have := k3.1.2; omega)) s1
    · rw [gA2 _ _ (by decide), a1]
    · rw [gA2 _ _ (by decide), a2]
    · rw [gA2 _ _ (by omega)]
      exact a3 t j (by rw [m2]; exact ht) hj
  · refine sy_a_c (sx_of h) k3.1.2 ?_ ?_ (fun j hj => ?_) z54 zp s2
    · rw [gA2 _ _ (by decide), a5]
    · rw [gA2 _ _ (by decide), a6]
    · rw [gA2 _ _ (by decide)]
      exact a4 j hj
  · refine sy_s_c (sx_of h) ?_ (fun j hj => ?_) z55 zs s3
    · rw [gA2 _ _ (by decide), a7]
    · rw [gA2 _ _ (by decide), gA2 _ _ (by decide), gA2 _ _ (by decide)]
      exact a8 j hj
  · refine sy_r_c (fun j hj => ?_) zt s4
    rw [gA2 _ _ (by decide)]
    exact a9 j hj
theorem restore_k (hx : mk_x x) (k : ru x gA gB) : kq x (zF_X11_restore x gA) (zF_X12_restore gB) := by
  have kx := kn_x hx
  have hx1 := hx
  unfold mk_x at hx1
  have k1 := ru_2 (v := 0) k
  unfold zF_X11_restore zF_X12_restore zJ_X11_restore_18
  simp only [zf_lq]
  generalize mz_up gB 137 2 0 = b1 at *
  clear k
  obtain ⟨t0, k2, k3, ⟨s1, s2, s3, s4⟩, ⟨k5, k7⟩, k6⟩ := id k1
  rw [← k5]
  by_cases z : gA 0 7 = 0
  · rw [if_pos z, if_pos z]
    exact ⟨k1, z⟩
  rw [if_neg z, if_neg z]
  obtain ⟨r1, r2, r3, r4⟩ := k6 (by omega)
  have m2 : gA 102 2 = b1 140 1 := r1.1
  obtain ⟨a1, a2, a3, a4, a5, a6, a7, a8, a9, a10⟩ := over_A (g := gA) (S := 86) (U := 101) (by omega) (by show 0 ≤ gA 102 2; rw [m2]; exact k3.1.1) (by show gA 102 2 ≤ 6; rw [m2]; exact k3.1.2)
  simp only [Nat.reduceAdd] at a1 a2 a3 a4 a5 a6 a7 a8 a9 a10
  generalize zF_X6_takeOver 86 101 gA = A1 at *
  rw [show mz_up b1 137 31 (b1 137 54) 137 55 = b1 137 55 from up_j (by decide)]
  generalize hb6 : mz_up (mz_up b1 137 31 (b1 137 54)) 137 32 (b1 137 55) = b6
  have o6 : ∀ a b : Nat, ¬ (a = 137 ∧ (b = 31 ∨ b = 32)) → b6 a b = b1 a b := fun a b z => by
    rw [← hb6, mz_up_ne (by omega), mz_up_ne (by omega)]
  have v31 : b6 137 31 = b1 137 54 := by rw [← hb6, up_j (by decide), mz_up_at]
  have v32 : b6 137 32 = b1 137 55 := by rw [← hb6, mz_up_at]
  clear hb6
  obtain ⟨w1, w2, w3⟩ := recall_B (g := b6) (q := 173) (nq := 25) (p := 0) (by omega) (by decide)
  generalize zF_X12_recall 173 25 0 b6 = b7 at *
  obtain ⟨c1, c2⟩ := copyTo_B (g := b7) (q := 156) (r := 174) (n := 1000) (by decide) (by decide)
  generalize zF_X12_copyTo 156 1000 174 1000 b7 = b8 at *
  obtain ⟨d1, d2⟩ := copyTo_B (g := b8) (q := 166) (r := 175) (n := 8) (by decide) (by decide)
  generalize zF_X12_copyTo 166 8 175 8 b8 = b9 at *
  obtain ⟨e1, e2⟩ := copyTo_B (g := b9) (q := 167) (r := 176) (n := 8) (by decide) (by decide)
  generalize zF_X12_copyTo 167 8 176 8 b9 = b10 at *
  obtain ⟨f1, f2⟩ := copyTo_B (g := b10) (q := 168) (r := 177) (n := 8) (by decide) (by decide)
  generalize zF_X12_copyTo 168 8 177 8 b10 = b11 at *
  obtain ⟨h1, h2⟩ := copyTo_B (g := b11) (q := 150) (r := 178) (n := 3) (by decide) (by decide)
  generalize zF_X12_copyTo 150 3 178 3 b11 = b12 at *
  have q12 : ∀ a b : Nat, a ≠ 156 → a ≠ 166 → a ≠ 167 → a ≠ 168 → a ≠ 150 → b12 a b = b7 a b := fun a b u1 u2 u3 u4 u5 => by
    rw [h2 a b (by omega), f2 a b (by omega), e2 a b (by omega), d2 a b (by omega), c2 a b (by omega)]
  have q7 : ∀ a b : Nat, ¬ (a = 137 ∧ b = 30) → ¬ ((152 ≤ a ∧ a ≤ 155) ∧ b < 6) → ¬ (a = 137 ∧ (b = 31 ∨ b = 32)) → b7 a b = b1 a b := fun a b u v w => (w3 a b u v).trans (o6 a b w)
  have z31 : b12 137 31 = b1 137 54 := by
    rw [q12 _ _ (by decide) (by decide) (by decide) (by decide) (by decide), w3 _ _ (by decide) (by decide), v31]
  have z32 : b12 137 32 = b1 137 55 := by
    rw [q12 _ _ (by decide) (by decide) (by decide) (by decide) (by decide), w3 _ _ (by decide) (by decide), v32]
  have zd : b12 137 30 = b1 173 0 := by
    rw [q12 _ _ (by decide) (by decide) (by decide) (by decide) (by decide)]
    exact w1.trans (o6 _ _ (by decide))
  have zw : ∀ t : Nat, t < 6 → sy_c b12 0 t = sy_w b1 173 0 0 t ∧ sy_c b12 1 t = sy_w b1 173 0 1 t ∧ sy_c b12 2 t = sy_w b1 173 0 2 t ∧ sy_c b12 3 t = sy_w b1 173 0 3 t := fun t ht => by
    obtain ⟨y0, y1, y2, y3⟩ := w2 t ht
    refine ⟨?_, ?_, ?_, ?_⟩
    · exact (q12 153 _ (by decide) (by decide) (by decide) (by decide) (by decide)).trans (y1.trans (o6 _ _ (by omega)))
    · exact (q12 154 _ (by decide) (by decide) (by decide) (by decide) (by decide)).trans (y2.trans (o6 _ _ (by omega)))
    · exact (q12 155 _ (by decide) (by decide) (by decide) (by decide) (by decide)).trans (y3.trans (o6 _ _ (by omega)))
    · exact (q12 152 _ (by decide) (by decide) (by decide) (by decide) (by decide)).trans (y0.trans (o6 _ _ (by omega)))
  have zp : ∀ j : Nat, j < 1000 → b12 156 j = b1 174 j := fun j hj => by
    rw [h2 _ _ (by omega), f2 _ _ (by omega), e2 _ _ (by omega), d2 _ _ (by omega), c1 j hj, q7 _ _ (by omega) (by omega) (by omega)]
  have zs : ∀ j : Nat, j < 8 → b12 166 j = b1 175 j ∧ b12 (166 + 1) j = b1 (175 + 1) j ∧ b12 (166 + 2) j = b1 (175 + 2) j := fun j hj => by
    refine ⟨?_, ?_, ?_⟩
    · rw [h2 _ _ (by omega), f2 _ _ (by omega), e2 _ _ (by omega), d1 j hj, c2 _ _ (by omega), q7 _ _ (by omega) (by omega) (by omega)]
    · show b12 167 j = b1 176 j
      rw [h2 _ _ (by omega), f2 _ _ (by omega), e1 j hj, d2 _ _ (by omega), c2 _ _ (by omega), q7 _ _ (by omega) (by omega) (by omega)]
    · show b12 168 j = b1 177 j
      rw [h2 _ _ (by omega), f1 j hj, e2 _ _ (by omega), d2 _ _ (by omega), c2 _ _ (by omega), q7 _ _ (by omega) (by omega) (by omega)]
  have zt : ∀ j : Nat, j < 3 → b12 150 j = b1 178 j := fun j hj => by
    rw [h1 j hj, f2 _ _ (by omega), e2 _ _ (by omega), d2 _ _ (by omega), c2 _ _ (by omega), q7 _ _ (by omega) (by omega) (by omega)]
  have fB : ∀ a b : Nat, ¬ (a = 137 ∧ (b = 30 ∨ b = 31 ∨ b = 32)) → ¬ (a = 150 ∨ ((152 ≤ a ∧ a ≤ 155) ∧ b < 6) ∨ a = 156 ∨ (166 ≤ a ∧ a ≤ 168)) → b12 a b = b1 a b := fun a b u v => (q12 a b (by omega) (by omega) (by omega) (by omega) (by omega)).trans (q7 a b (by omega) (by omega) (by omega))
  have h : su_e b1 b12 := fun a b u v => fB a b (by omega) (by omega)
  refine ⟨ru_now hx k1 (fun a b u v => a10 a b (by omega)) (fun a b u v w => fB a b (by omega) (by omega)) ⟨?_, ?_, ?_, ?_⟩, ?_⟩
  · exact sy_n_c (V := sy_w b1 173 0) (sx_of h) a1 a2 (fun t j ht hj => a3 t j (by rw [m2]; exact ht) hj) zd (fun t ht => zw t (by have := k3.1.2; omega)) r1
  · exact sy_a_c (sx_of h) k3.1.2 a5 a6 (fun j hj => a4 j hj) z31 zp r2
  · exact sy_s_c (sx_of h) a7 (fun j hj => a8 j hj) z32 zs r3
  · exact sy_r_c (fun j hj => a9 j hj) zt r4
  · show A1 0 7 = 1
    rw [a10 _ _ (by decide)]
    omega
end AD
