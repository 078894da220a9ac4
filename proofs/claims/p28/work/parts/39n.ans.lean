/-! ANSWERS (14): years, second half -/
def fl_f (b0 h : mz_G) (t : Nat) : Bool := decide (h 152 t = fu b0 (h 153 t) (h 154 t))
section WN
variable {x : mm_X} {g g0 g1 gA gB b0 h : mz_G} {ld : Nat} {f f' : Nat → Bool}
theorem or_bit : ∀ n : Fin 6, ∀ a : Fin 64, a.val < 2 ^ n.val → mz_orI (a.val : Int) (mz_shlI 1 (n.val : Int)) = ((a.val + 2 ^ n.val : Nat) : Int) ∧ pf 6 ((a.val + 2 ^ n.val : Nat) : Int) = pf 6 (a.val : Int) + 1 := by decide +kernel
theorem orz_0 : ∀ a : Fin 64, mz_orI (a.val : Int) 0 = (a.val : Int) := by decide +kernel
theorem an_bit : ∀ n : Fin 6, ∀ a : Fin 64, a.val < 2 ^ n.val → ∀ b : Fin 64, b.val < 2 ^ n.val → mz_andI (a.val : Int) (b.val : Int) = (b.val : Int) → mz_andI ((a.val + 2 ^ n.val : Nat) : Int) ((b.val + 2 ^ n.val : Nat) : Int) = ((b.val + 2 ^ n.val : Nat) : Int) ∧ mz_andI ((a.val + 2 ^ n.val : Nat) : Int) (b.val : Int) = (b.val : Int) := by decide +kernel
theorem df_s : ∀ a b : Fin 64, mz_andI (a.val : Int) (b.val : Int) = (b.val : Int) → pf 6 (mz_andI (a.val : Int) (mz_xorI (b.val : Int) (-1))) + pf 6 (b.val : Int) = pf 6 (a.val : Int) ∧ 0 ≤ mz_andI (a.val : Int) (mz_xorI (b.val : Int) (-1)) ∧ mz_andI (a.val : Int) (mz_xorI (b.val : Int) (-1)) < 64 := by decide +kernel
theorem p2_b {n : Nat} (hn : n ≤ 5) : 2 ^ n ≤ 32 := Nat.pow_le_pow_right (by decide) hn
/-- a mask as a number -/
theorem mk_b : ∀ n : Nat, n ≤ 6 → ∃ a : Nat, mk_m f n = (a : Int) ∧ a < 2 ^ n ∧ pf 6 (mk_m f n) = mk_n f n := by
  intro n
  induction n with
  | zero => intro _; exact ⟨0, rfl, by decide, rfl⟩
  | succ n ih =>
    intro hn
    obtain ⟨a, e, l, p⟩ := ih (by omega)
    have b := p2_b (n := n) (by omega)
    unfold mk_m mk_n
    by_cases z : f n = true
    · obtain ⟨o1, o2⟩ := or_bit ⟨n, by omega⟩ ⟨a, by omega⟩ l
      rw [if_pos z, if_pos z, e]
      dsimp only at o1 o2
      rw [o1, o2, ← e, p]
      exact ⟨a + 2 ^ n, rfl, by rw [Nat.pow_succ]; omega, rfl⟩
    · have o := orz_0 ⟨a, by omega⟩
      dsimp only at o
      rw [if_neg z, if_neg z, e, o, ← e, p]
      exact ⟨a, e, by rw [Nat.pow_succ]; omega, by omega⟩
theorem mk_sub : ∀ n : Nat, n ≤ 6 → (∀ t : Nat, t < n → f t = true → f' t = true) → mz_andI (mk_m f' n) (mk_m f n) = mk_m f n := by
  intro n
  induction n with
  | zero => intro _ _; exact (by decide : mz_andI 0 0 = 0)
  | succ n ih =>
    intro hn hs
    obtain ⟨a, ea, la, -⟩ := mk_b (f := f') n (by omega)
    obtain ⟨b, eb, lb, -⟩ := mk_b (f := f) n (by omega)
    have c := p2_b (n := n) (by omega)
    have i := ih (by omega) (fun t ht => hs t (by omega))
    rw [ea, eb] at i
    obtain ⟨q1, q2⟩ := an_bit ⟨n, by omega⟩ ⟨a, by omega⟩ la ⟨b, by omega⟩ lb i
    dsimp only at q1 q2
    obtain ⟨oa, -⟩ := or_bit ⟨n, by omega⟩ ⟨a, by omega⟩ la
    obtain ⟨ob, -⟩ := or_bit ⟨n, by omega⟩ ⟨b, by omega⟩ lb
    have za := orz_0 ⟨a, by omega⟩
    have zb := orz_0 ⟨b, by omega⟩
    dsimp only at oa ob za zb
    unfold mk_m
    rw [ea, eb]
    by_cases z : f n = true
    · rw [if_pos z, if_pos (hs n (by omega) z), oa, ob]
      exact q1
    · rw [if_neg z, zb]
      by_cases z' : f' n = true
      · rw [if_pos z', oa]
        exact q2
      · rw [if_neg z', za]
        exact i
theorem mk_df {n : Nat} (hn : n ≤ 6) (hs : ∀ t : Nat, t < n → f t = true → f' t = true) : zF_X12_bitsOf (mz_andI (mk_m f' n) (mz_xorI (mk_m f n) (-1))) g = mk_n f' n - mk_n f n := by
  have s := mk_sub n hn hs
  obtain ⟨a, ea, la, pa⟩ := mk_b (f := f') n hn
  obtain ⟨b, eb, lb, pb⟩ := mk_b (f := f) n hn
  have c : 2 ^ n ≤ 64 := Nat.pow_le_pow_right (n := 2) (by decide) hn
  rw [ea, eb] at s
  obtain ⟨d1, d2, d3⟩ := df_s ⟨a, by omega⟩ ⟨b, by omega⟩ s
  dsimp only at d1 d2 d3
  rw [← ea, ← eb] at d1 d2 d3
  rw [bits_B d2 d3]
  omega
theorem mk_bt {n : Nat} (hn : n ≤ 6) : zF_X12_bitsOf (mk_m f n) g = mk_n f n := by
  obtain ⟨a, ea, la, pa⟩ := mk_b (f := f) n hn
  have c : 2 ^ n ≤ 64 := Nat.pow_le_pow_right (n := 2) (by decide) hn
  rw [bits_B (by rw [ea]; omega) (by rw [ea]; omega)]
  exact pa
theorem mn_b : ∀ n : Nat, 0 ≤ mk_n f n ∧ mk_n f n ≤ n := by
  intro n
  induction n with
  | zero => exact ⟨Int.le_refl 0, Int.le_refl 0⟩
  | succ n ih =>
    unfold mk_n
    split <;> omega
/-- the reference's full ones -/
theorem ones_l (Q : su_e b0 h) (c6 : b0 140 1 ≤ 6) : ∀ (m k i : Nat) (l1 l2 : Int), (b0 140 1 - l2).toNat = m → m < k → (i : Int) = l2 → l2 ≤ b0 140 1 → l1 = mk_m (fl_f b0 h) i → zL_X12_fullOnes_4 h k l1 l2 = mk_m (fl_f b0 h) (b0 140 1).toNat := by
  intro m
  induction m with
  | zero =>
    intro k i l1 l2 hm hk hi hl e
    obtain ⟨k, rfl⟩ : ∃ k1, k = k1 + 1 := ⟨k - 1, by omega⟩
    rw [zL_X12_fullOnes_4_s]
    unfold zB_X12_fullOnes_4
    simp only [zf_lq]
    rw [Q 140 1 (by decide) (by decide), if_neg (by omega), e, show i = (b0 140 1).toNat by omega]
  | succ m ih =>
    intro k i l1 l2 hm hk hi hl e
    obtain ⟨k, rfl⟩ : ∃ k1, k = k1 + 1 := ⟨k - 1, by omega⟩
    rw [zL_X12_fullOnes_4_s]
    unfold zB_X12_fullOnes_4 zJ_X12_fullOnes_30
    simp only [zf_lq]
    rw [Q 140 1 (by decide) (by decide), if_pos (by omega), isFull_B, fu_c Q, show l2.toNat = i by omega]
    by_cases z : h 152 i = fu b0 (h 153 i) (h 154 i)
    · rw [if_pos z, i10]
      refine ih k (i + 1) _ (l2 + 1) (by omega) (by omega) (by omega) (by omega) ?_
      unfold mk_m fl_f
      rw [if_pos (decide_eq_true z), e, hi]
      rfl
    · rw [if_neg z, i00]
      refine ih k (i + 1) _ (l2 + 1) (by omega) (by omega) (by omega) (by omega) ?_
      unfold mk_m fl_f
      rw [if_neg (by rw [decide_eq_false z]; decide), e]
      rfl
theorem ones_B (Q : su_e b0 h) (c6 : b0 140 1 ≤ 6) (n0 : 0 ≤ b0 140 1) : zF_X12_fullOnes h = mk_m (fl_f b0 h) (b0 140 1).toNat := by
  unfold zF_X12_fullOnes
  exact ones_l Q c6 (b0 140 1 - 0).toNat 3000000000 0 0 0 rfl (by omega) rfl n0 rfl
/-- the class's count of them -/
theorem many_l (S : sta ld g b0) (y : yr b0 g h) (c6 : b0 140 1 ≤ 6) : ∀ (m k i : Nat) (l2 l3 : Int), (b0 140 1 - l3).toNat = m → m < k → (i : Int) = l3 → l3 ≤ b0 140 1 → l2 = mk_n (fl_f b0 h) i → zL_X1_howManyFull_4 ld 124 g k l2 l3 = mk_n (fl_f b0 h) (b0 140 1).toNat := by
  intro m
  induction m with
  | zero =>
    intro k i l2 l3 hm hk hi hl e
    obtain ⟨k, rfl⟩ : ∃ k1, k = k1 + 1 := ⟨k - 1, by omega⟩
    rw [zL_X1_howManyFull_4_s]
    unfold zB_X1_howManyFull_4
    simp only [zf_lq]
    rw [y.2.1, if_neg (by omega), e, show i = (b0 140 1).toNat by omega]
  | succ m ih =>
    intro k i l2 l3 hm hk hi hl e
    obtain ⟨k, rfl⟩ : ∃ k1, k = k1 + 1 := ⟨k - 1, by omega⟩
    rw [zL_X1_howManyFull_4_s]
    unfold zB_X1_howManyFull_4 zJ_X1_howManyFull_30
    simp only [zf_lq]
    have b := mn_b (f := fl_f b0 h) i
    rw [y.2.1, if_pos (by omega), get_k (by omega) (by omega), show l3.toNat = i by omega]
    obtain ⟨q0, q1, q2, q3, q4, q5⟩ := y.2.2.2 i (by omega)
    obtain ⟨v0, v1, v2, v3, -, -⟩ := q5
    rw [isFull_A S.1 (by rw [q0]; exact v0) (by rw [q0]; exact v1) (by rw [q1]; exact v2) (by rw [q1]; exact v3), q0, q1, q3]
    by_cases z : h 152 i = fu b0 (h 153 i) (h 154 i)
    · rw [if_pos z, i10, mz_wrap_id ⟨by omega, by omega⟩]
      refine ih k (i + 1) _ (l3 + 1) (by omega) (by omega) (by omega) (by omega) ?_
      unfold mk_n fl_f
      rw [if_pos (decide_eq_true z), e]
      rfl
    · rw [if_neg z, i00, mz_wrap_id ⟨by omega, by omega⟩]
      refine ih k (i + 1) _ (l3 + 1) (by omega) (by omega) (by omega) (by omega) ?_
      unfold mk_n fl_f
      rw [if_neg (by rw [decide_eq_false z]; decide), e]
      rfl
theorem many_A (S : sta ld g b0) (y : yr b0 g h) (c6 : b0 140 1 ≤ 6) (n0 : 0 ≤ b0 140 1) : zF_X1_howManyFull ld 124 g = mk_n (fl_f b0 h) (b0 140 1).toNat := by
  unfold zF_X1_howManyFull
  exact many_l S y c6 (b0 140 1 - 0).toNat 3000000000 0 0 0 rfl (by omega) rfl n0 rfl
/-- letters of all -/
theorem lett_l (S : sta ld g b0) (y : yr b0 g h) (Q : su_e b0 h) (c6 : b0 140 1 ≤ 6) : ∀ (m k1 k2 : Nat) (l2 l3 : Int), (b0 140 1 - l3).toNat = m → m < k1 → m < k2 → 0 ≤ l3 → zL_X1_lettersOfAll_4 ld 124 g k1 l2 l3 = zL_X12_allLetters_4 h k2 l2 l3 := by
  intro m
  induction m with
  | zero =>
    intro k1 k2 l2 l3 hm h1 h2 h0
    obtain ⟨k1, rfl⟩ : ∃ k, k1 = k + 1 := ⟨k1 - 1, by omega⟩
    obtain ⟨k2, rfl⟩ : ∃ k, k2 = k + 1 := ⟨k2 - 1, by omega⟩
    rw [zL_X1_lettersOfAll_4_s, zL_X12_allLetters_4_s]
    unfold zB_X1_lettersOfAll_4 zB_X12_allLetters_4
    simp only [zf_lq]
    rw [y.2.1, Q 140 1 (by decide) (by decide), if_neg (by omega), if_neg (by omega)]
  | succ m ih =>
    intro k1 k2 l2 l3 hm h1 h2 h0
    obtain ⟨k1, rfl⟩ : ∃ k, k1 = k + 1 := ⟨k1 - 1, by omega⟩
    obtain ⟨k2, rfl⟩ : ∃ k, k2 = k + 1 := ⟨k2 - 1, by omega⟩
    rw [zL_X1_lettersOfAll_4_s, zL_X12_allLetters_4_s]
    unfold zB_X1_lettersOfAll_4 zB_X12_allLetters_4
    simp only [zf_lq]
    obtain ⟨q0, q1, q2, q3, q4, q5⟩ := y.2.2.2 l3.toNat (by omega)
    rw [y.2.1, Q 140 1 (by decide) (by decide), if_pos (by omega), if_pos (by omega), get_k h0 (by omega), bsize_n S.1 q0 q1 q3 q5, bsize_m Q rfl rfl rfl]
    exact ih k1 k2 _ (l3 + 1) (by omega) (by omega) (by omega) (by omega)
theorem lett_k (S : sta ld g b0) (y : yr b0 g h) (Q : su_e b0 h) (c6 : b0 140 1 ≤ 6) : zF_X1_lettersOfAll ld 124 g = zF_X12_allLetters h := by
  unfold zF_X1_lettersOfAll zF_X12_allLetters
  exact lett_l S y Q c6 (b0 140 1 - 0).toNat 3000000000 3000000000 0 0 rfl (by omega) (by omega) (by decide)
/-- a day of both -/
theorem yday_k (hld : x.1 = 1 ∨ x.1 = 41) (S : sta x.1 g b0) (Q : su_e b0 h) (K : kr b0) (T : ∀ t : Nat, (t : Int) < b0 140 1 → b0 144 t = 0 ∨ b0 144 t = 1) (n0 : 0 ≤ b0 140 1) (d0 : 0 ≤ h 137 30) (d9 : h 137 30 ≤ 2000) (y : yr b0 g h) : yr b0 (zF_X1_passDay x.1 124 g) (zF_X12_goOn 1 h) ∧ fA_ x g (zF_X1_passDay x.1 124 g) ∧ su_e b0 (zF_X12_goOn 1 h) ∧ zF_X12_goOn 1 h 137 2 = h 137 2 ∧ zF_X12_goOn 1 h 137 30 = h 137 30 + 1 ∧ zF_X12_goOn 1 h 137 52 = h 137 52 ∧ ∀ t : Nat, (t : Int) < b0 140 1 → fl_f b0 h t = true → fl_f b0 (zF_X12_goOn 1 h) t = true := by
  obtain ⟨y0, y1, y2, y3⟩ := y
  have c6 := K.2.2
  have Kh := kr_e Q K
  obtain ⟨gg, gd, gf⟩ := goOn_B Kh.1 Kh.2.1 Kh.2.2 (n := 1) (by decide) (by decide)
  have nh : h 140 1 = b0 140 1 := Q 140 1 (by decide) (by decide)
  obtain ⟨p1, p2, p3⟩ := passDay_A hld (T := 124) (Or.inr rfl) S n0 c6 y1 y2 d0 (by omega) (fun t ht => by
    obtain ⟨q0, q1, q2, q3, q4, q5⟩ := y3 t ht
    rw [q0, q1, q3, q4]
    exact ⟨q5, T t ht⟩)
  have F : ∀ a b : Nat, ¬ fw_dy a b → zF_X12_goOn 1 h a b = h a b := gf
  have G : ∀ t : Nat, (t : Int) < b0 140 1 → zF_X12_goOn 1 h 152 t = g1d b0 (b0 144 t) (h 153 t) (h 154 t) (h 155 t) (h 152 t) (h 137 30) (ht b0 (h 137 30)) := fun t hlt => by
    rw [gg t (by omega), gnd_c Q, Q 144 _ (by decide) (by decide)]
    rfl
  refine ⟨⟨?_, ?_, ?_, fun t hlt => ?_⟩, ?_, ?_, F _ _ (by unfold fw_dy; omega), gd, F _ _ (by unfold fw_dy; omega), ?_⟩
  · rw [p3 0 15 (by omega) (by omega) (by omega), F _ _ (by unfold fw_dy; omega)]
    exact y0
  · rw [p3 124 2 (by omega) (by omega) (by omega)]
    exact y1
  · rw [p2, gd]
  · obtain ⟨q0, q1, q2, q3, q4, q5⟩ := y3 t hlt
    have c : ∀ b : Nat, b ≠ 3 → zF_X1_passDay x.1 124 g (124 + 3 + t) b = g (124 + 3 + t) b := fun b hb => p3 _ _ (fun z => hb z.1) (by omega) (by omega)
    have e := p1 t hlt
    rw [q0, q1, q2, q3, q4] at e
    refine ⟨?_, ?_, ?_, ?_, ?_, ?_⟩
    · rw [c 0 (by decide), F _ _ (by unfold fw_dy; omega)]; exact q0
    · rw [c 1 (by decide), F _ _ (by unfold fw_dy; omega)]; exact q1
    · rw [c 2 (by decide), F _ _ (by unfold fw_dy; omega)]; exact q2
    · rw [e, G t hlt]
    · rw [c 4 (by decide)]; exact q4
    · rw [F 153 _ (by unfold fw_dy; omega), F 154 _ (by unfold fw_dy; omega), G t hlt]
      exact (g1d_b q5 (T t hlt)).1
  · intro a b u v w w2
    refine p3 a b (fun z => ?_) w w2
    rcases z with ⟨z1, z2 | ⟨t, z2, z3⟩⟩ <;> omega
  · intro a b u v
    rw [F a b (by unfold fw_dy; omega)]
    exact Q a b u v
  · intro t hlt hf
    obtain ⟨q0, q1, q2, q3, q4, q5⟩ := y3 t hlt
    have z : h 152 t = fu b0 (h 153 t) (h 154 t) := of_decide_eq_true hf
    have b := g1d_b (d := h 137 30) (h := ht b0 (h 137 30)) (sp := h 155 t) q5 (T t hlt)
    refine decide_eq_true ?_
    rw [F 153 _ (by unfold fw_dy; omega), F 154 _ (by unfold fw_dy; omega), G t hlt]
    have b1 := b.1.2.2.2.2.2
    omega
theorem years_ll (hx : mk_x x) (k0 : ru x gA b0) (K : kr b0) (w0 : 0 < b0 140 1 → 0 < b0 140 0) {a1 a2 a3 : Int} (h60 : a2 ≤ 60) : ∀ (m k1 k2 : Nat) (l4 l5 : Int) (g h : mz_G), (60 - l5).toNat = m → m < k1 → m < k2 → 0 ≤ l5 → l5 ≤ 60 → 0 ≤ l4 ∧ l4 ≤ 6 * l5 → yr b0 g h → fA_ x gA g → su_e b0 h → h 137 2 = 0 → 0 ≤ h 137 30 ∧ h 137 30 ≤ 999 + l5 → ka (zL_X11_years_49 x a1 a2 a3 k1 l4 l5 g) (zL_X12_years_61 a1 a2 a3 k2 l4 l5 h) := by
  have hld : x.1 = 1 ∨ x.1 = 41 := by unfold mk_x at hx; omega
  have n0 : 0 ≤ b0 140 1 := k0.2.2.1.1.1
  have T := k0.2.2.1.2
  have SS : ∀ g : mz_G, fA_ x gA g → sta x.1 g b0 := fun g f => sta_A k0.2.1 (fun a b u v => f a b (by omega) (by omega) (by omega) (by omega))
  have fin : ∀ (l4 : Int) (g h : mz_G), yr b0 g h → fA_ x gA g → su_e b0 h → h 137 2 = 0 → ka (if a3 = 0 then (0, l4, g) else if a3 = 1 then (0, zF_X1_howManyFull x.1 124 g, g) else (0, zF_X1_lettersOfAll x.1 124 g, g)) (if a3 = 0 then (l4, zF_X12_recall 162 25 0 h) else if a3 = 1 then (zF_X12_bitsOf (zF_X12_fullOnes h) h, zF_X12_recall 162 25 0 h) else (zF_X12_allLetters h, zF_X12_recall 162 25 0 h)) := fun l4 g h y f Q c0 => by
    have R := (rec_2 (g := h) (Or.inl rfl : (162 : Nat) = 162 ∨ (162 : Nat) = 169)).trans c0
    by_cases z0 : a3 = 0
    · rw [if_pos z0, if_pos z0]
      exact ka_0 R rfl
    · rw [if_neg z0, if_neg z0]
      by_cases z1 : a3 = 1
      · rw [if_pos z1, if_pos z1, many_A (SS g f) y K.2.2 n0, ones_B Q K.2.2 n0, mk_bt (by have := K.2.2; omega)]
        exact ka_0 R rfl
      · rw [if_neg z1, if_neg z1, lett_k (SS g f) y Q K.2.2]
        exact ka_0 R rfl
  intro m
  induction m with
  | zero =>
    intro k1 k2 l4 l5 g h hm hk1 hk2 h0 h6 b4 y f Q c0 dd
    obtain ⟨k1, rfl⟩ : ∃ k, k1 = k + 1 := ⟨k1 - 1, by omega⟩
    obtain ⟨k2, rfl⟩ : ∃ k, k2 = k + 1 := ⟨k2 - 1, by omega⟩
    rw [zL_X11_years_49_s, zL_X12_years_61_s]
    unfold zB_X11_years_49 zB_X12_years_61 zJ_X12_years_133
    simp only [zf_lq]
    have z : ¬ l5 < a2 := by omega
    rw [if_neg z, if_neg z]
    exact fin l4 g h y f Q c0
  | succ m ih =>
    intro k1 k2 l4 l5 g h hm hk1 hk2 h0 h6 b4 y f Q c0 dd
    obtain ⟨k1, rfl⟩ : ∃ k, k1 = k + 1 := ⟨k1 - 1, by omega⟩
    obtain ⟨k2, rfl⟩ : ∃ k, k2 = k + 1 := ⟨k2 - 1, by omega⟩
    rw [zL_X11_years_49_s, zL_X12_years_61_s]
    unfold zB_X11_years_49 zB_X12_years_61 zJ_X12_years_133
    simp only [zf_lq]
    by_cases z : l5 < a2
    · rw [if_pos z, if_pos z]
      obtain ⟨y8, f8, s8⟩ := some_k hld (SS g f) Q K.2.2 n0 w0 y
      generalize zF_X11_drawAhead x g = g8 at *
      generalize zF_X12_something h = h8 at *
      have fa8 : fA_ x gA g8 := fun a b u v w w2 => (f8 a b u v w w2).trans (f a b u v w w2)
      have Q8 : su_e b0 h8 := fun a b u v => (s8 a b (by unfold fy; omega)).trans (Q a b u v)
      have d8 : h8 137 30 = h 137 30 := s8 _ _ (by unfold fy; omega)
      have c8 : h8 137 2 = 0 := (s8 _ _ (by unfold fy; omega)).trans c0
      obtain ⟨yA, fA, QA, cA, dA, -, mono⟩ := yday_k hld (SS g8 fa8) Q8 K T n0 (by omega) (by omega) y8
      rw [many_A (SS g8 fa8) y8 K.2.2 n0, ones_B Q8 K.2.2 n0]
      generalize zF_X1_passDay x.1 124 g8 = gC at *
      generalize zF_X12_goOn 1 h8 = hC at *
      have faC : fA_ x gA gC := fun a b u v w w2 => (fA a b u v w w2).trans (fa8 a b u v w w2)
      rw [many_A (SS gC faC) yA K.2.2 n0, ones_B QA K.2.2 n0, mk_df (by have := K.2.2; omega) (fun t ht => mono t (by omega))]
      have b1 := mn_b (f := fl_f b0 h8) (b0 140 1).toNat
      have b2 := mn_b (f := fl_f b0 hC) (b0 140 1).toNat
      have pb : mk_n (fl_f b0 h8) (b0 140 1).toNat ≤ mk_n (fl_f b0 hC) (b0 140 1).toNat := by
        have M : ∀ n : Nat, (n : Int) ≤ b0 140 1 → mk_n (fl_f b0 h8) n ≤ mk_n (fl_f b0 hC) n := by
          intro n
          induction n with
          | zero => intro _; exact Int.le_refl _
          | succ n jh =>
            intro hn
            have j := jh (by omega)
            unfold mk_n
            by_cases w : fl_f b0 h8 n = true
            · rw [if_pos w, if_pos (mono n (by omega) w)]; omega
            · rw [if_neg w]; split <;> omega
        exact M _ (by omega)
      have c6 := K.2.2
      rw [mz_wrap_id (a := mk_n (fl_f b0 hC) (b0 140 1).toNat - mk_n (fl_f b0 h8) (b0 140 1).toNat) ⟨by omega, by omega⟩, mz_wrap_id ⟨by omega, by omega⟩]
      exact ih k1 k2 _ (l5 + 1) gC hC (by omega) (by omega) (by omega) (by omega) (by omega) ⟨by omega, by omega⟩ yA faC QA (cA.trans c8) ⟨by omega, by omega⟩
    · rw [if_neg z, if_neg z]
      exact fin l4 g h y f Q c0
theorem years_a (hx : mk_x x) (K : kr gB) (w0 : 0 < gB 140 1 → 0 < gB 140 0) (k : ru x gA gB) {a1 a2 a3 : Int} : ka (zF_X11_years x a1 a2 a3 gA) (zF_X12_years a1 a2 a3 gB) := by
  have hld : x.1 = 1 ∨ x.1 = 41 := by unfold mk_x at hx; omega
  have k1 := ru_2 (v := 0) k
  have K1 : kr (mz_up gB 137 2 0) := kr_e (g0 := gB) (fun a b u v => up_k (by omega)) K
  have w1 : 0 < mz_up gB 137 2 0 140 1 → 0 < mz_up gB 137 2 0 140 0 := by
    rw [up_k (by decide), up_k (by decide)]
    exact w0
  unfold zF_X11_years zF_X12_years zJ_X11_years_13 zJ_X11_years_14
  simp only [zf_lq]
  rw [isI_B, isI_B, mb_0, mb_1, isAh_A]
  generalize hb : mz_up gB 137 2 0 = b1 at *
  have c0 : b1 137 2 = 0 := by rw [← hb, mz_up_at]
  clear k hb
  by_cases h3 : 0 ≤ a3 ∧ a3 ≤ 2
  · rw [if_neg (show ¬ a3 < 0 by omega), if_neg (show ¬ 2 < a3 by omega), if_pos h3, i10]
    by_cases h2 : 0 ≤ a2 ∧ a2 ≤ 60
    · rw [if_pos h2, mf_1, i10]
      have n2 : gA 87 2 = b1 140 1 := k1.2.2.2.1.1.1
      have e87 : gA 87 3 = b1 137 30 := k1.2.2.2.1.1.2.1
      have dd : 0 ≤ b1 137 30 ∧ b1 137 30 ≤ 999 := k1.2.2.2.1.1.2.2.2.1
      have n0 : 0 ≤ b1 140 1 := k1.2.2.1.1.1
      obtain ⟨p1, p2, p3, p4⟩ := copyAll_A (g := mz_up gA 0 15 a1) (T := 124) (U := 87) (by omega) (by rw [up_k (by decide), n2]; exact n0) (by rw [up_k (by decide), n2]; exact K1.2.2)
      have u : ∀ q b : Nat, q ≠ 0 → mz_up gA 0 15 a1 q b = gA q b := fun q b hq => up_k hq
      rw [u _ _ (by decide), n2] at p1
      rw [u _ _ (by decide), e87] at p2
      rw [u _ _ (by decide), n2] at p3
      have f7 : fA_ x gA (zF_X9_copyAll 124 87 (mz_up gA 0 15 a1)) := fun a b z1 z2 _ _ => (p4 a b (by omega) (by omega)).trans (mz_up_ne z1)
      have s15 : zF_X9_copyAll 124 87 (mz_up gA 0 15 a1) 0 15 = a1 := (p4 0 15 (by omega) (by omega)).trans (mz_up_at ..)
      obtain ⟨s1, s2, s3⟩ := store_B (g := b1) (q := 162) (nq := 25) (p := 0) (by omega) (by decide)
      have o : ∀ a b : Nat, a ≠ 162 → ¬ (a = 137 ∧ b = 52) → mz_up (zF_X12_store 162 25 0 b1) 137 52 a1 a b = b1 a b := fun a b z z2 => (mz_up_ne z2).trans (s3 a b (fun y => z y.1))
      have o52 : mz_up (zF_X12_store 162 25 0 b1) 137 52 a1 137 52 = a1 := mz_up_at ..
      generalize zF_X9_copyAll 124 87 (mz_up gA 0 15 a1) = g7 at *
      generalize mz_up (zF_X12_store 162 25 0 b1) 137 52 a1 = h9 at *
      refine years_ll hx k1 K1 w1 h2.2 (60 - 0 : Int).toNat 3000000000 3000000000 0 0 g7 h9 rfl (by decide) (by decide) (by decide) (by decide) ⟨by decide, by decide⟩ ⟨s15.trans o52.symm, p1, p2.trans (o _ _ (by decide) (by decide)).symm, fun t ht => ?_⟩ f7 (fun a b u v => o a b (by omega) (by omega)) ((o _ _ (by decide) (by decide)).trans c0) (by rw [o _ _ (by decide) (by decide)]; omega)
      obtain ⟨-, ⟨e0, e1, e2, e3, e4⟩, vv, -, -, t6⟩ := now_t k1 (t := (t : Int)) (by omega) ht
      rw [show ((t : Nat) : Int).toNat = t by omega] at e0 e1 e2 e3 e4 vv
      have c : ∀ j : Nat, j < 5 → g7 (124 + 3 + t) j = gA (87 + 3 + t) j := fun j hj => (p3 t j ht hj).trans (u _ _ (by omega))
      refine ⟨?_, ?_, ?_, ?_, ?_, ?_⟩
      · rw [c 0 (by decide), o _ _ (by decide) (by omega)]; exact e0
      · rw [c 1 (by decide), o _ _ (by decide) (by omega)]; exact e1
      · rw [c 2 (by decide), o _ _ (by decide) (by omega)]; exact e2
      · rw [c 3 (by decide), o _ _ (by decide) (by omega)]; exact e3
      · rw [c 4 (by decide)]; exact e4
      · rw [o _ _ (by decide) (by omega), o _ _ (by decide) (by omega), o _ _ (by decide) (by omega)]; exact vv
    · rw [if_neg h2, mf_0, i00]
      exact ka_fail (c := 2) rfl (by decide)
  · rw [if_neg h3, i00]
    by_cases y : a3 < 0
    · rw [if_pos y]
      exact ka_fail (c := 1) rfl (by decide)
    · rw [if_neg y, if_pos (show 2 < a3 by omega)]
      exact ka_fail (c := 1) rfl (by decide)
end WN
