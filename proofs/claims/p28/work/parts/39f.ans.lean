/-! ANSWERS (6): game, the reference's side -/
/-- how far the first is ahead -/
def gd (b0 : mz_G) (t1 t2 : Nat) (l : Nat) : Int := sz b0 (if l / 2 = 1 then 9 else b0 155 t1) t1 - sz b0 (if l % 2 = 1 then 9 else b0 155 t2) t2
def gt (b0 : mz_G) (t1 t2 : Nat) (n : Int) (h : mz_G) : Prop := ∀ l : Nat, (l : Int) < n → h 172 (2 * l) = gd b0 t1 t2 l - (l / 2 : Nat) ∧ h 172 (2 * l + 1) = -(gd b0 t1 t2 l) - (l % 2 : Nat)
section WF
variable {x : mm_X} {g g0 g1 gA gB b0 : mz_G} {ld : Nat}
theorem sz_B (K : kr b0) {h : mz_G} (q : qk 162 b0 h) {t s : Int} (t0 : 0 ≤ t) (t1 : t < b0 140 1) (h2 : h 152 t.toNat = b0 152 t.toNat) (h3 : h 153 t.toNat = b0 153 t.toNat) (h4 : h 154 t.toNat = b0 154 t.toNat) (h5 : h 155 t.toNat = s) (d : h 137 30 = b0 137 30) : zF_X12_blendSize t (zF_X12_goOn 4 h) = sz b0 s t.toNat := by
  have Kh := kr_e q.1 K
  obtain ⟨gg, -, gf⟩ := goOn_B Kh.1 Kh.2.1 Kh.2.2 (n := 4) (by decide) (by decide)
  have n1 : h 140 1 = b0 140 1 := q.1 140 1 (by decide) (by decide)
  have g2 := gg t.toNat (by omega)
  rw [gnd_c q.1, q.1 144 _ (by decide) (by decide), h2, h3, h4, h5, d] at g2
  have q2 := qk_go K (Or.inl rfl) (n := 4) (by decide) (by decide) q
  exact bsize_m q2.1 ((gf _ _ (by unfold fw_dy; omega)).trans h3) ((gf _ _ (by unfold fw_dy; omega)).trans h4) g2
theorem gains_B (K : kr b0) {a1 a2 : Int} (t0 : 0 ≤ a1) (t1 : a1 < b0 140 1) (s0 : 0 ≤ a2) (s1 : a2 < b0 140 1) (h12 : a1 ≠ a2) : ∀ (m k n : Nat) (l3 : Int) (h : mz_G), (4 - l3).toNat = m → m < k → (n : Int) = l3 → n ≤ 4 → qk 162 b0 h → sm5 b0 h → h 137 2 = 0 → gt b0 a1.toNat a2.toNat l3 h → gt b0 a1.toNat a2.toNat 4 (zL_X12_tellGains_11 a1 a2 k l3 h) ∧ zL_X12_tellGains_11 a1 a2 k l3 h 137 2 = 0 := by
  have c6 := K.2.2
  intro m
  induction m with
  | zero =>
    intro k n l3 h hm hk hn h4 q s c0 t
    obtain ⟨k, rfl⟩ : ∃ k1, k = k1 + 1 := ⟨k - 1, by omega⟩
    rw [zL_X12_tellGains_11_s]
    unfold zB_X12_tellGains_11
    rw [if_neg (by omega)]
    have e : l3 = 4 := by omega
    rw [e] at t
    exact ⟨t, c0⟩
  | succ m ih =>
    intro k n l3 h hm hk hn h4 q s c0 t
    obtain ⟨k, rfl⟩ : ∃ k1, k = k1 + 1 := ⟨k - 1, by omega⟩
    rw [zL_X12_tellGains_11_s]
    unfold zB_X12_tellGains_11
    rw [if_pos (by omega)]
    obtain ⟨p2, p3, p4, p5⟩ := s.2 a1.toNat (by omega)
    obtain ⟨r2, r3, r4, r5⟩ := s.2 a2.toNat (by omega)
    have N : ∀ (u w : Int) (h1 : mz_G), u = (if n / 2 = 1 then 9 else b0 155 a1.toNat) → w = (if n % 2 = 1 then 9 else b0 155 a2.toNat) → h1 155 a1.toNat = u → h1 155 a2.toNat = w → (∀ a b : Nat, a ≠ 155 → h1 a b = h a b) → gt b0 a1.toNat a2.toNat 4 (zJ_X12_tellGains_46 a1 a2 (zL_X12_tellGains_11 a1 a2 k) l3 h1) ∧ zJ_X12_tellGains_46 a1 a2 (zL_X12_tellGains_11 a1 a2 k) l3 h1 137 2 = 0 := fun u w h1 eu ew e1 e2 f => by
      have q1 : qk 162 b0 h1 := qk_fr (fun a b z => f a b (by omega)) q
      have K1 := kr_e q1.1 K
      have z1 := sz_B K q1 t0 t1 ((f _ _ (by decide)).trans p2) ((f _ _ (by decide)).trans p3) ((f _ _ (by decide)).trans p4) e1 ((f _ _ (by decide)).trans s.1)
      have z2 := sz_B K q1 s0 s1 ((f _ _ (by decide)).trans r2) ((f _ _ (by decide)).trans r3) ((f _ _ (by decide)).trans r4) e2 ((f _ _ (by decide)).trans s.1)
      have q2 := qk_go K (Or.inl rfl) (n := 4) (by decide) (by decide) q1
      have c2 : zF_X12_goOn 4 h1 137 2 = 0 := (go_2 K1 (by decide) (by decide)).trans ((f _ _ (by decide)).trans c0)
      obtain ⟨-, -, gf⟩ := goOn_B K1.1 K1.2.1 K1.2.2 (n := 4) (by decide) (by decide)
      have f2 : ∀ b : Nat, zF_X12_goOn 4 h1 172 b = h 172 b := fun b => (gf 172 b (by unfold fw_dy; omega)).trans (f _ _ (by decide))
      unfold zJ_X12_tellGains_46
      simp only [zf_lq]
      rw [z1, z2, eu, ew]
      have D : sz b0 (if n / 2 = 1 then 9 else b0 155 a1.toNat) a1.toNat - sz b0 (if n % 2 = 1 then 9 else b0 155 a2.toNat) a2.toNat = gd b0 a1.toNat a2.toNat n := rfl
      rw [D]
      generalize zF_X12_goOn 4 h1 = h2 at *
      have o : ∀ a b : Nat, a ≠ 172 → mz_up (mz_up h2 172 (2 * l3).toNat (gd b0 a1.toNat a2.toNat n - l3 / 2)) 172 (2 * l3 + 1).toNat (-(gd b0 a1.toNat a2.toNat n) - l3 % 2) a b = h2 a b := fun a b z => (up_k z).trans (up_k z)
      have w1 : mz_up (mz_up h2 172 (2 * l3).toNat (gd b0 a1.toNat a2.toNat n - l3 / 2)) 172 (2 * l3 + 1).toNat (-(gd b0 a1.toNat a2.toNat n) - l3 % 2) 172 (2 * n) = gd b0 a1.toNat a2.toNat n - l3 / 2 := by
        rw [up_j (by omega), show 2 * n = (2 * l3).toNat by omega, mz_up_at]
      have w2 : mz_up (mz_up h2 172 (2 * l3).toNat (gd b0 a1.toNat a2.toNat n - l3 / 2)) 172 (2 * l3 + 1).toNat (-(gd b0 a1.toNat a2.toNat n) - l3 % 2) 172 (2 * n + 1) = -(gd b0 a1.toNat a2.toNat n) - l3 % 2 := by
        rw [show 2 * n + 1 = (2 * l3 + 1).toNat by omega, mz_up_at]
      have w3 : ∀ b : Nat, b < 2 * n → mz_up (mz_up h2 172 (2 * l3).toNat (gd b0 a1.toNat a2.toNat n - l3 / 2)) 172 (2 * l3 + 1).toNat (-(gd b0 a1.toNat a2.toNat n) - l3 % 2) 172 b = h 172 b := fun b hb => by
        rw [up_j (by omega), up_j (by omega)]
        exact f2 b
      generalize mz_up (mz_up h2 172 (2 * l3).toNat (gd b0 a1.toNat a2.toNat n - l3 / 2)) 172 (2 * l3 + 1).toNat (-(gd b0 a1.toNat a2.toNat n) - l3 % 2) = h3 at *
      obtain ⟨R1, R2⟩ := qk_rec (Or.inl rfl) (qk_fr (g1 := h3) (fun a b z => o a b (by omega)) q2)
      have R3 : zF_X12_recall 162 25 0 h3 137 2 = 0 := (rec_2 (Or.inl rfl)).trans ((o _ _ (by decide)).trans c2)
      obtain ⟨-, -, rr⟩ := recall_B (g := h3) (q := 162) (nq := 25) (p := 0) (by omega) (by decide)
      have R4 : ∀ b : Nat, zF_X12_recall 162 25 0 h3 172 b = h3 172 b := fun b => rr 172 b (by omega) (by omega)
      generalize zF_X12_recall 162 25 0 h3 = h4 at *
      refine ih k (n + 1) (l3 + 1) h4 (by omega) (by omega) (by omega) (by omega) R2 R1 R3 (fun l hl => ?_)
      rw [R4, R4]
      by_cases z : l = n
      · rw [z, w1, w2]
        constructor <;> omega
      · rw [w3 _ (by omega), w3 _ (by omega)]
        exact t l (by omega)
    have M : ∀ (u : Int) (h1 : mz_G), u = (if n / 2 = 1 then 9 else b0 155 a1.toNat) → h1 155 a1.toNat = u → h1 155 a2.toNat = b0 155 a2.toNat → (∀ a b : Nat, a ≠ 155 → h1 a b = h a b) → gt b0 a1.toNat a2.toNat 4 (zJ_X12_tellGains_31 a1 a2 (zL_X12_tellGains_11 a1 a2 k) l3 h1) ∧ zJ_X12_tellGains_31 a1 a2 (zL_X12_tellGains_11 a1 a2 k) l3 h1 137 2 = 0 := fun u h1 eu e1 e2 f => by
      unfold zJ_X12_tellGains_31
      simp only [zf_lq]
      by_cases z : l3 % 2 = 1
      · rw [if_pos z]
        exact N u 9 _ eu (by rw [if_pos (by omega)]) ((up_j (by omega)).trans e1) (mz_up_at ..) (fun a b y => (up_k y).trans (f a b y))
      · rw [if_neg z]
        exact N u _ h1 eu (by rw [if_neg (by omega)]) e1 e2 f
    simp only [zf_lq]
    by_cases z : l3 / 2 = 1
    · rw [if_pos z]
      exact M 9 _ (by rw [if_pos (by omega)]) (mz_up_at ..) ((up_j (by omega)).trans r5) (fun a b y => up_k y)
    · rw [if_neg z]
      exact M _ h (by rw [if_neg (by omega)]) p5 r5 (fun _ _ _ => rfl)
theorem g63_s {a1 a2 a3 l4 l5 l6 i j : Int} {t1 t2 : Nat} (hi : l6 / 2 = i) (hj : l6 % 2 = j) (h0 : l6 < 4) (h4 : 0 ≤ l4 ∧ l4 ≤ 100) (c1 : g 172 (2 * l6).toNat < g 172 (2 * mz_xorI l6 2).toNat ↔ gg b0 t1 i < gg b0 t1 (1 - i)) (c2 : g 172 (2 * l6 + 1).toNat < g 172 (2 * mz_xorI l6 1 + 1).toNat ↔ gg b0 t2 j < gg b0 t2 (1 - j)) (k : Nat) : zL_X12_game_63 a1 a2 a3 g (k + 1) l4 l5 l6 = zL_X12_game_63 a1 a2 a3 g k (gm b0 t1 t2 (l4, l5) i j).1 (gm b0 t1 t2 (l4, l5) i j).2 (l6 + 1) := by
  rw [zL_X12_game_63_s]
  unfold zB_X12_game_63 zJ_X12_game_148 zJ_X12_game_150
  simp only [zf_lq]
  rw [if_pos h0]
  by_cases z1 : gg b0 t1 i < gg b0 t1 (1 - i)
  · rw [if_pos (c1.mpr z1), gm_1 z1]
  · rw [if_neg (fun y => z1 (c1.mp y))]
    by_cases z2 : gg b0 t2 j < gg b0 t2 (1 - j)
    · rw [if_pos (c2.mpr z2), gm_2 z1 z2]
    · rw [if_neg (fun y => z2 (c2.mp y)), gm_3 z1 z2, mz_wrap_id ⟨by omega, by omega⟩, hi, hj]
      by_cases z3 : l5 = -1
      · rw [if_pos z3, if_pos z3]
      · rw [if_neg z3, if_neg z3]
theorem g63 {a1 a2 a3 : Int} {t1 t2 : Nat} (T : gt b0 t1 t2 4 g) : zL_X12_game_63 a1 a2 a3 g 3000000000 0 (-1) 0 = (if a3 = 0 then (gq b0 t1 t2).1 else (gq b0 t1 t2).2, g) := by
  obtain ⟨k, hk⟩ : ∃ k : Nat, 3000000000 = k + 1 + 1 + 1 + 1 + 1 := ⟨2999999995, by omega⟩
  obtain ⟨T0, T1⟩ := T 0 (by decide)
  obtain ⟨T2, T3⟩ := T 1 (by decide)
  obtain ⟨T4, T5⟩ := T 2 (by decide)
  obtain ⟨T6, T7⟩ := T 3 (by decide)
  have d0 : gd b0 t1 t2 0 = sz b0 (b0 155 t1) t1 - sz b0 (b0 155 t2) t2 := rfl
  have d1 : gd b0 t1 t2 1 = sz b0 (b0 155 t1) t1 - sz b0 9 t2 := rfl
  have d2 : gd b0 t1 t2 2 = sz b0 9 t1 - sz b0 (b0 155 t2) t2 := rfl
  have d3 : gd b0 t1 t2 3 = sz b0 9 t1 - sz b0 9 t2 := rfl
  have G0 : ∀ t : Nat, gg b0 t 0 = sz b0 (b0 155 t) t - 0 := fun t => rfl
  have G1 : ∀ t : Nat, gg b0 t 1 = sz b0 9 t - 1 := fun t => rfl
  have S0 : g 172 0 = gd b0 t1 t2 0 - 0 ∧ g 172 1 = -(gd b0 t1 t2 0) - 0 := ⟨T0, T1⟩
  have S1 : g 172 2 = gd b0 t1 t2 1 - 0 ∧ g 172 3 = -(gd b0 t1 t2 1) - 1 := ⟨T2, T3⟩
  have S2 : g 172 4 = gd b0 t1 t2 2 - 1 ∧ g 172 5 = -(gd b0 t1 t2 2) - 0 := ⟨T4, T5⟩
  have S3 : g 172 6 = gd b0 t1 t2 3 - 1 ∧ g 172 7 = -(gd b0 t1 t2 3) - 1 := ⟨T6, T7⟩
  rw [d0] at S0
  rw [d1] at S1
  rw [d2] at S2
  rw [d3] at S3
  have b1 := gm_b (b0 := b0) (p := (0, -1)) (i := 0) (j := 0) (t1 := t1) (t2 := t2)
  have e1 := g63_s (g := g) (b0 := b0) (a1 := a1) (a2 := a2) (a3 := a3) (l4 := 0) (l5 := -1) (l6 := 0) (i := 0) (j := 0) (t1 := t1) (t2 := t2) rfl rfl (by decide) (by decide) (by show g 172 0 < g 172 4 ↔ gg b0 t1 0 < gg b0 t1 1; rw [S0.1, S2.1, G0, G1]; omega) (by show g 172 1 < g 172 3 ↔ gg b0 t2 0 < gg b0 t2 1; rw [S0.2, S1.2, G0, G1]; omega) (k + 1 + 1 + 1 + 1)
  unfold gq
  generalize gm b0 t1 t2 (0, -1) 0 0 = p1 at *
  have b2 := gm_b (b0 := b0) (p := p1) (i := 0) (j := 1) (t1 := t1) (t2 := t2)
  have e2 := g63_s (g := g) (b0 := b0) (a1 := a1) (a2 := a2) (a3 := a3) (l4 := p1.1) (l5 := p1.2) (l6 := 1) (i := 0) (j := 1) (t1 := t1) (t2 := t2) rfl rfl (by decide) (by omega) (by show g 172 2 < g 172 6 ↔ gg b0 t1 0 < gg b0 t1 1; rw [S1.1, S3.1, G0, G1]; omega) (by show g 172 3 < g 172 1 ↔ gg b0 t2 1 < gg b0 t2 0; rw [S1.2, S0.2, G0, G1]; omega) (k + 1 + 1 + 1)
  rw [Prod.eta] at e2
  generalize gm b0 t1 t2 p1 0 1 = p2 at *
  have b3 := gm_b (b0 := b0) (p := p2) (i := 1) (j := 0) (t1 := t1) (t2 := t2)
  have e3 := g63_s (g := g) (b0 := b0) (a1 := a1) (a2 := a2) (a3 := a3) (l4 := p2.1) (l5 := p2.2) (l6 := 2) (i := 1) (j := 0) (t1 := t1) (t2 := t2) rfl rfl (by decide) (by omega) (by show g 172 4 < g 172 0 ↔ gg b0 t1 1 < gg b0 t1 0; rw [S2.1, S0.1, G0, G1]; omega) (by show g 172 5 < g 172 7 ↔ gg b0 t2 0 < gg b0 t2 1; rw [S2.2, S3.2, G0, G1]; omega) (k + 1 + 1)
  rw [Prod.eta] at e3
  generalize gm b0 t1 t2 p2 1 0 = p3 at *
  have e4 := g63_s (g := g) (b0 := b0) (a1 := a1) (a2 := a2) (a3 := a3) (l4 := p3.1) (l5 := p3.2) (l6 := 3) (i := 1) (j := 1) (t1 := t1) (t2 := t2) rfl rfl (by decide) (by omega) (by show g 172 6 < g 172 2 ↔ gg b0 t1 1 < gg b0 t1 0; rw [S3.1, S1.1, G0, G1]; omega) (by show g 172 7 < g 172 5 ↔ gg b0 t2 1 < gg b0 t2 0; rw [S3.2, S2.2, G0, G1]; omega) (k + 1)
  rw [Prod.eta] at e4
  rw [hk, e1, show (0 : Int) + 1 = 1 from rfl, e2, show (1 : Int) + 1 = 2 from rfl, e3, show (2 : Int) + 1 = 3 from rfl, e4, zL_X12_game_63_s]
  unfold zB_X12_game_63
  rw [if_neg (by decide)]
  by_cases z : a3 = 0
  · rw [if_pos z, if_pos z]
  · rw [if_neg z, if_neg z]
theorem game_a (hx : mk_x x) (K : kr gB) (k : ru x gA gB) {a1 a2 a3 : Int} : ka (zF_X11_game x a1 a2 a3 gA) (zF_X12_game a1 a2 a3 gB) := by
  have k1 := ru_2 (v := 0) k
  have K1 : kr (mz_up gB 137 2 0) := kr_e (g0 := gB) (fun a b u v => up_k (by omega)) K
  unfold zF_X11_game zF_X12_game zJ_X11_game_25 zJ_X11_game_29 zJ_X11_game_30 zJ_X11_game_43 zJ_X12_game_31
  simp only [zf_lq]
  rw [isT_A, isT_A, isT_B, isT_B, isI_B]
  generalize hb : mz_up gB 137 2 0 = b1 at *
  have c0 : b1 137 2 = 0 := by rw [← hb, mz_up_at]
  clear k hb
  have n2 : gA 87 2 = b1 140 1 := k1.2.2.2.1.1.1
  rw [n2]
  have F1 : ka (1, 0, gA) (zf_m2 (zF_X12_fail 1 b1) fun v3 g4 => (v3, g4)) := ka_fail (c := 1) rfl (by decide)
  by_cases h1 : 0 ≤ a1 ∧ a1 < b1 140 1
  · rw [if_pos h1, i10, i10]
    by_cases h2 : 0 ≤ a2 ∧ a2 < b1 140 1
    · rw [if_pos h2, i10, i10]
      have G : ka (zf_mx (zF_X11_mustBe 1 gA) gA fun v2 g3 => if a1 = a2 then (zf_mx (zF_X11_mustFit 0 g3) g3 fun v4 g5 => zL_X11_game_55 x a1 a2 a3 3000000000 0 (-1) 0 g5) else (zf_mx (zF_X11_mustFit 1 g3) g3 fun v4 g5 => zL_X11_game_55 x a1 a2 a3 3000000000 0 (-1) 0 g5)) (if a1 = a2 then zf_m2 (zF_X12_fail 2 b1) fun v7 g8 => (v7, g8) else zL_X12_game_63 a1 a2 a3 (zF_X12_tellGains a1 a2 b1) 3000000000 0 (-1) 0) := by
        rw [mb_1]
        by_cases z : a1 = a2
        · rw [if_pos z, if_pos z, mf_0]
          exact ka_fail (c := 2) rfl (by decide)
        · rw [if_neg z, if_neg z, mf_1]
          obtain ⟨g1, e⟩ := g55 hx k1 (a3 := a3) h1.1 h1.2 h2.1 h2.2
          rw [e]
          have T : gt b1 a1.toNat a2.toNat 4 (zF_X12_tellGains a1 a2 b1) ∧ zF_X12_tellGains a1 a2 b1 137 2 = 0 := by
            unfold zF_X12_tellGains
            simp only [zf_lq]
            have S2 : zF_X12_store 162 25 0 b1 137 2 = 0 := by
              obtain ⟨-, -, s3⟩ := store_B (g := b1) (q := 162) (nq := 25) (p := 0) (by omega) (by decide)
              rw [s3 137 2 (by omega)]
              exact c0
            exact gains_B K1 h1.1 h1.2 h2.1 h2.2 z (4 - 0 : Int).toNat 3000000000 0 0 _ rfl (by decide) rfl (by decide) (qk_sto (Or.inl rfl)) (sto_s (Or.inl rfl)) S2 (fun l hl => by omega)
          generalize zF_X12_tellGains a1 a2 b1 = g9 at *
          rw [g63 T.1]
          exact ka_0 T.2 rfl
      by_cases h3 : 0 ≤ a3 ∧ a3 ≤ 1
      · rw [if_pos h3, i10]
        by_cases y : a3 = 0
        · rw [if_pos y]
          exact G
        · rw [if_neg y, if_pos (show a3 = 1 by omega)]
          exact G
      · rw [if_neg h3, i00, if_neg (show ¬ a3 = 0 by omega), if_neg (show ¬ a3 = 1 by omega), mb_0]
        exact F1
    · rw [if_neg h2, i00, i00, mb_0]
      exact F1
  · rw [if_neg h1, i00, i00, mb_0]
    exact F1
end WF
