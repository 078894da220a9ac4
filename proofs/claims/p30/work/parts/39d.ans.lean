/-! ANSWERS (4): seasons -/
section WD
variable {x : mm_X} {g g0 g1 gA gB b0 : mz_G} {ld : Nat}
theorem bit_5 : ∀ a : Fin 32, ∀ b : Fin 5, (mz_andI (a.val : Int) (mz_shlI 1 (b.val : Int)) = 0 → ¬ mz_andI (mz_shrI (a.val : Int) (b.val : Int)) 1 = 1) ∧ (¬ mz_andI (a.val : Int) (mz_shlI 1 (b.val : Int)) = 0 → mz_andI (mz_shrI (a.val : Int) (b.val : Int)) 1 = 1) := by decide +kernel
theorem isOf_B {l5 l7 : Int} (h5 : 0 ≤ l5 ∧ l5 < 32) (h7 : 0 ≤ l7 ∧ l7 < 5) : zF_X12_isOf l5 l7 g = if mz_andI l5 (mz_shlI 1 l7) = 0 then 0 else 1 := by
  have b := bit_5 ⟨l5.toNat, by omega⟩ ⟨l7.toNat, by omega⟩
  dsimp only at b
  rw [show ((l5.toNat : Nat) : Int) = l5 by omega, show ((l7.toNat : Nat) : Int) = l7 by omega] at b
  unfold zF_X12_isOf
  simp only [zf_lq]
  by_cases z : mz_andI l5 (mz_shlI 1 l7) = 0
  · rw [if_pos z, if_neg (b.1 z)]
  · rw [if_neg z, if_pos (b.2 z)]
theorem day_2 (K : kr g) {h : Int} : zF_X12_aDayOf h g 137 2 = g 137 2 := by
  obtain ⟨p, c, e⟩ := K
  obtain ⟨-, -, f⟩ := day_B p c (h := h) e
  exact f 137 2 (by unfold fw_dy; omega)
theorem sea_ll (hx : mk_x x) (k0 : ru x gA b0) (K : kr b0) {a1 a2 a3 : Int} (t0 : 0 ≤ a1) (t1 : a1 < b0 140 1) (h5 : 1 ≤ a2 ∧ a2 ≤ 5) {l4 l5 : Int} (z5 : 0 ≤ l5 ∧ l5 < 32) : ∀ (m k1 k2 : Nat) (l6 l7 X : Int) (g h : mz_G), (a2 - l7).toNat = m → m < k1 → m < k2 → 0 ≤ l7 → l7 ≤ a2 → fp x gA g → g 122 0 = b0 153 a1.toNat → g 122 1 = b0 154 a1.toNat → g 122 2 = b0 155 a1.toNat → g 122 4 = b0 144 a1.toNat → g 122 3 = X → vt b0 (b0 153 a1.toNat) (b0 154 a1.toNat) X → qk 162 b0 h → h 137 2 = 0 → h 137 30 = b0 137 30 + l7 → h 153 a1.toNat = b0 153 a1.toNat → h 154 a1.toNat = b0 154 a1.toNat → h 155 a1.toNat = b0 155 a1.toNat → h 152 a1.toNat = X → ∃ v X1 g1 h1, zL_X11_seasons_74 x a1 a2 a3 k1 l4 l5 l6 l7 g = (v, g1) ∧ zL_X12_seasons_78 a1 a2 a3 k2 l4 l5 l6 l7 h = (v, h1) ∧ fp x gA g1 ∧ g1 122 0 = b0 153 a1.toNat ∧ g1 122 1 = b0 154 a1.toNat ∧ g1 122 3 = X1 ∧ qk 162 b0 h1 ∧ h1 137 2 = 0 ∧ h1 153 a1.toNat = b0 153 a1.toNat ∧ h1 154 a1.toNat = b0 154 a1.toNat ∧ h1 152 a1.toNat = X1 := by
  have hld : x.1 = 1 ∨ x.1 = 41 := by unfold mk_x at hx; omega
  obtain ⟨-, -, vv, ss, tt, t6⟩ := now_t k0 t0 t1
  have e87 : gA 87 3 = b0 137 30 := k0.2.2.2.1.1.2.1
  have dd : 0 ≤ b0 137 30 ∧ b0 137 30 ≤ 999 := k0.2.2.2.1.1.2.2.2.1
  intro m
  induction m with
  | zero =>
    intro k1 k2 l6 l7 X g h hm hk1 hk2 h0 h7 f w0 w1 w2 w4 w3 v q c0 d0 b3 b4 b5 b2
    obtain ⟨k1, rfl⟩ : ∃ k, k1 = k + 1 := ⟨k1 - 1, by omega⟩
    obtain ⟨k2, rfl⟩ : ∃ k, k2 = k + 1 := ⟨k2 - 1, by omega⟩
    rw [zL_X11_seasons_74_s, zL_X12_seasons_78_s]
    unfold zB_X11_seasons_74 zB_X12_seasons_78
    rw [if_neg (by omega), if_neg (by omega)]
    exact ⟨l6, X, g, h, rfl, rfl, f, w0, w1, w3, q, c0, b3, b4, b2⟩
  | succ m ih =>
    intro k1 k2 l6 l7 X g h hm hk1 hk2 h0 h7 f w0 w1 w2 w4 w3 v q c0 d0 b3 b4 b5 b2
    obtain ⟨k1, rfl⟩ : ∃ k, k1 = k + 1 := ⟨k1 - 1, by omega⟩
    obtain ⟨k2, rfl⟩ : ∃ k, k2 = k + 1 := ⟨k2 - 1, by omega⟩
    rw [zL_X11_seasons_74_s, zL_X12_seasons_78_s]
    unfold zB_X11_seasons_74 zB_X12_seasons_78 zJ_X11_seasons_95 zJ_X11_seasons_129 zJ_X11_seasons_147 zJ_X12_seasons_104 zJ_X12_seasons_124
    simp only [zf_lq]
    have g87 : g 87 3 = b0 137 30 := (f 87 3 (by decide) (by omega) (by omega)).trans e87
    rw [if_pos (show l7 < a2 by omega), if_pos (show l7 < a2 by omega), isOf_B z5 ⟨h0, by omega⟩, g87, mz_wrap_id (a := b0 137 30 + l7) ⟨by omega, by omega⟩]
    have Kh := kr_e q.1 K
    have n1 : h 140 1 = b0 140 1 := q.1 140 1 (by decide) (by decide)
    have N : ∀ (ht P : Int), ∃ v X1 g1 h1, zL_X11_seasons_74 x a1 a2 a3 k1 l4 l5 P (l7 + 1) (zF_X1_grow x.1 122 (b0 137 30 + l7) ht g) = (v, g1) ∧ zL_X12_seasons_78 a1 a2 a3 k2 l4 l5 P (l7 + 1) (zF_X12_aDayOf ht h) = (v, h1) ∧ fp x gA g1 ∧ g1 122 0 = b0 153 a1.toNat ∧ g1 122 1 = b0 154 a1.toNat ∧ g1 122 3 = X1 ∧ qk 162 b0 h1 ∧ h1 137 2 = 0 ∧ h1 153 a1.toNat = b0 153 a1.toNat ∧ h1 154 a1.toNat = b0 154 a1.toNat ∧ h1 152 a1.toNat = X1 := fun ht P => by
      obtain ⟨p1, p2⟩ := grow_A (fp_S hld k0.2.1 f) hld (q := 122) (by decide) (d := b0 137 30 + l7) (h := ht) (by rw [w0, w1, w3]; exact v) (by rw [w4]; exact tt)
      rw [w0, w1, w2, w3, w4] at p1
      obtain ⟨gg, gd, gf⟩ := day_B Kh.1 Kh.2.1 (h := ht) Kh.2.2
      have q2 := qk_day K (Or.inl rfl) (h := ht) q
      have c2 : zF_X12_aDayOf ht h 137 2 = 0 := (day_2 Kh).trans c0
      have g2 := gg a1.toNat (by omega)
      rw [g1d_c q.1, q.1 144 _ (by decide) (by decide), b3, b4, b5, b2, d0] at g2
      have b3' := (gf 153 a1.toNat (by unfold fw_dy; omega)).trans b3
      have b4' := (gf 154 a1.toNat (by unfold fw_dy; omega)).trans b4
      have b5' := (gf 155 a1.toNat (by unfold fw_dy; omega)).trans b5
      have nv := (g1d_b (d := b0 137 30 + l7) (h := ht) (sp := b0 155 a1.toNat) v tt).1
      generalize zF_X1_grow x.1 122 (b0 137 30 + l7) ht g = g6 at *
      generalize zF_X12_aDayOf ht h = hh at *
      exact ih k1 k2 P (l7 + 1) _ g6 hh (by omega) (by omega) (by omega) (by omega) (by omega) (fun a b z u w => (p2 a b (by unfold fw_gr; omega)).trans (f a b z u w)) ((p2 122 0 (by unfold fw_gr; omega)).trans w0) ((p2 122 1 (by unfold fw_gr; omega)).trans w1) ((p2 122 2 (by unfold fw_gr; omega)).trans w2) ((p2 122 4 (by unfold fw_gr; omega)).trans w4) p1 nv q2 c2 (by rw [gd, d0]; omega) b3' b4' b5' g2
    by_cases z : mz_andI l5 (mz_shlI 1 l7) = 0
    · rw [if_pos z, if_pos z]
      simp only [if_true, i00]
      exact N 0 _
    · rw [if_neg z, if_neg z]
      simp only [if_false, i10]
      exact N 9 _
theorem sea_oo (hx : mk_x x) (k0 : ru x gA b0) (K : kr b0) {a1 a2 a3 : Int} (t0 : 0 ≤ a1) (t1 : a1 < b0 140 1) (h5 : 1 ≤ a2 ∧ a2 ≤ 5) : ∀ (m k1 k2 : Nat) (l4 l5 : Int) (g h : mz_G), (mz_shlI 1 a2 - l5).toNat = m → m < k1 → m < k2 → 0 ≤ l5 → fp x gA g → qk 162 b0 h → sm5 b0 h → h 137 2 = 0 → ka (zL_X11_seasons_42 x a1 a2 a3 k1 l4 l5 g) (zL_X12_seasons_64 a1 a2 a3 k2 l4 l5 h) := by
  have hld : x.1 = 1 ∨ x.1 = 41 := by unfold mk_x at hx; omega
  obtain ⟨-, ⟨e0, e1, e2, e3, e4⟩, vv, ss, tt, t6⟩ := now_t k0 t0 t1
  have h32 := shl_32 h5
  intro m
  induction m with
  | zero =>
    intro k1 k2 l4 l5 g h hm hk1 hk2 h0 f q s c0
    obtain ⟨k1, rfl⟩ : ∃ k, k1 = k + 1 := ⟨k1 - 1, by omega⟩
    obtain ⟨k2, rfl⟩ : ∃ k, k2 = k + 1 := ⟨k2 - 1, by omega⟩
    rw [zL_X11_seasons_42_s, zL_X12_seasons_64_s]
    unfold zB_X11_seasons_42 zB_X12_seasons_64
    simp only [zf_lq]
    rw [if_neg (by omega), if_neg (by omega)]
    exact ka_0 c0 rfl
  | succ m ih =>
    intro k1 k2 l4 l5 g h hm hk1 hk2 h0 f q s c0
    obtain ⟨k1, rfl⟩ : ∃ k, k1 = k + 1 := ⟨k1 - 1, by omega⟩
    obtain ⟨k2, rfl⟩ : ∃ k, k2 = k + 1 := ⟨k2 - 1, by omega⟩
    rw [zL_X11_seasons_42_s, zL_X12_seasons_64_s]
    unfold zB_X11_seasons_42 zB_X12_seasons_64 zJ_X11_seasons_178 zJ_X12_seasons_149
    simp only [zf_lq]
    rw [if_pos (by omega), if_pos (by omega), get_A t0 t6]
    have ft : ∀ b : Nat, g (87 + 3 + a1.toNat) b = gA (87 + 3 + a1.toNat) b := fun b => f _ b (by omega) (by omega) (by omega)
    obtain ⟨r0, r1, r2, r3, r4, rf⟩ := asOf_A (g := g) (q := 122) (r := 87 + 3 + a1.toNat) (by omega)
    generalize zF_X8_becomeAs 122 (87 + 3 + a1.toNat) g = g2 at *
    obtain ⟨m2, m3, m4, m5⟩ := s.2 a1.toNat (by omega)
    obtain ⟨v, X1, g3, h3, ea, eb, f3, w0, w1, w3, q3, c3, b3, b4, b2⟩ := sea_ll hx k0 K (a3 := a3) t0 t1 h5 (l4 := l4) (l5 := l5) ⟨h0, by omega⟩ (a2 - 0).toNat 3000000000 3000000000 1 0 (b0 152 a1.toNat) g2 h rfl (by omega) (by omega) (by decide) (by omega) (fun a b z u w => (rf a b (by omega)).trans (f a b z u w)) (r0.trans ((ft 0).trans e0)) (r1.trans ((ft 1).trans e1)) (r2.trans ((ft 2).trans e2)) (r4.trans ((ft 4).trans e4)) (r3.trans ((ft 3).trans e3)) vv q c0 (by rw [s.1]; omega) m3 m4 m5 m2
    rw [ea, eb]
    unfold zf_m2
    dsimp only
    have W := (fp_S hld k0.2.1 f3).1
    rw [isFull_A W (by rw [w0]; exact vv.1) (by rw [w0]; exact vv.2.1) (by rw [w1]; exact vv.2.2.1) (by rw [w1]; exact vv.2.2.2.1), isFull_B, w0, w1, w3, b2, b3, b4, fu_c q3.1]
    obtain ⟨R1, R2⟩ := qk_rec (Or.inl rfl) q3
    have R3 : zF_X12_recall 162 25 0 h3 137 2 = 0 := (rec_2 (Or.inl rfl)).trans c3
    generalize zF_X12_recall 162 25 0 h3 = h4 at *
    by_cases hf : X1 = fu b0 (b0 153 a1.toNat) (b0 154 a1.toNat)
    · rw [if_pos hf, i10, i10]
      exact ih k1 k2 _ (l5 + 1) g3 h4 (by omega) (by omega) (by omega) (by omega) f3 R2 R1 R3
    · rw [if_neg hf, i00, i00]
      exact ih k1 k2 _ (l5 + 1) g3 h4 (by omega) (by omega) (by omega) (by omega) f3 R2 R1 R3
theorem seasons_a (hx : mk_x x) (K : kr gB) (k : ru x gA gB) {a1 a2 a3 : Int} : ka (zF_X11_seasons x a1 a2 a3 gA) (zF_X12_seasons a1 a2 a3 gB) := by
  have k1 := ru_2 (v := 0) k
  have K1 : kr (mz_up gB 137 2 0) := kr_e (g0 := gB) (fun a b u v => up_k (by omega)) K
  unfold zF_X11_seasons zF_X12_seasons zJ_X11_seasons_32 zJ_X11_seasons_33 zJ_X12_seasons_43
  simp only [zf_lq]
  rw [isT_A, isT_B, isI_B, isI_B]
  generalize hb : mz_up gB 137 2 0 = b1 at *
  have c0 : b1 137 2 = 0 := by rw [← hb, mz_up_at]
  clear k hb
  have n2 : gA 87 2 = b1 140 1 := k1.2.2.2.1.1.1
  rw [n2]
  by_cases ht : 0 ≤ a1 ∧ a1 < b1 140 1
  · rw [if_pos ht, mb_1, i10, mf_0, mf_1]
    by_cases h2 : 1 ≤ a2 ∧ a2 ≤ 5
    · rw [if_neg (show ¬ a2 < 1 by omega), if_neg (show ¬ 5 < a2 by omega), if_pos h2, i10]
      by_cases h3 : 0 ≤ a3 ∧ a3 ≤ 10
      · rw [if_neg (show ¬ a3 < 0 by omega), if_neg (show ¬ 10 < a3 by omega), if_pos h3, i10]
        have h32 := shl_32 h2
        have S2 : zF_X12_store 162 25 0 b1 137 2 = 0 := by
          obtain ⟨-, -, s3⟩ := store_B (g := b1) (q := 162) (nq := 25) (p := 0) (by omega) (by decide)
          rw [s3 137 2 (by omega)]
          exact c0
        exact sea_oo hx k1 K1 ht.1 ht.2 h2 (mz_shlI 1 a2 - 0).toNat 3000000000 3000000000 0 0 gA _ rfl (by omega) (by omega) (by decide) (fun _ _ _ _ _ => rfl) (qk_sto (Or.inl rfl)) (sto_s (Or.inl rfl)) S2
      · rw [if_neg h3, i00]
        by_cases y : a3 < 0
        · rw [if_pos y]
          exact ka_fail (c := 2) rfl (by decide)
        · rw [if_neg y, if_pos (show 10 < a3 by omega)]
          exact ka_fail (c := 2) rfl (by decide)
    · rw [if_neg h2, i00]
      by_cases y : a2 < 1
      · rw [if_pos y]
        exact ka_fail (c := 2) rfl (by decide)
      · rw [if_neg y, if_pos (show 5 < a2 by omega)]
        exact ka_fail (c := 2) rfl (by decide)
  · rw [if_neg ht, mb_0, i00]
    exact ka_fail (c := 1) rfl (by decide)
end WD
