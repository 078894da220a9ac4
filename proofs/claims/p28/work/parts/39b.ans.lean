/-! ANSWERS (2): later -/
section WB
variable {x : mm_X} {g g0 g1 gA gB b0 : mz_G} {ld : Nat}
theorem ka_x {v w : Int} {gA g : mz_G} {p : zf_T} {q : Int × mz_G} (e : p = (0, v, gA)) (f : q = (w, g)) (c : g 137 2 = 0) (h : v = w) : ka p q := by
  rw [e, f]
  exact ka_0 c h
/-- a trunk's size -/
def bn (g : mz_G) (sd mt gn : Int) : Int := g 142 sd.toNat + g 142 mt.toNat - gn
theorem bn_b (W : sa_w ld gA gB) {sd mt gn : Int} (v : vt gB sd mt gn) : 1 ≤ bn gB sd mt gn ∧ bn gB sd mt gn ≤ 16 ∧ 0 ≤ gn ∧ gn ≤ 8 := by
  obtain ⟨a0, a1, c0, c1, d0, d1⟩ := v
  have u := sa_len W a0 a1
  have w := sa_len W c0 c1
  unfold fu at d1
  unfold bn
  omega
theorem bsize_n (W : sa_w ld gA gB) {q : Nat} {sd mt gn : Int} (e0 : gA q 0 = sd) (e1 : gA q 1 = mt) (e3 : gA q 3 = gn) (v : vt gB sd mt gn) : zF_X1_blendSize ld q gA = bn gB sd mt gn := by
  rw [bsize_A W (by rw [e0, e1, e3]; exact v), e0, e1, e3]
  rfl
theorem bsize_m (E : su_e b0 g) {t sd mt gn : Int} (e0 : g 153 t.toNat = sd) (e1 : g 154 t.toNat = mt) (e3 : g 152 t.toNat = gn) : zF_X12_blendSize t g = bn b0 sd mt gn := by
  rw [bsize_B, e0, e1, e3, E 142 _ (by decide) (by decide), E 142 _ (by decide) (by decide)]
  rfl
/-- grown of a trunk after so many days -/
def ga (b0 : mz_G) (n : Nat) (t : Nat) : Int := gnd b0 (b0 144 t) (b0 153 t) (b0 154 t) (b0 155 t) n (b0 152 t) (b0 137 30)
def gs (b0 : mz_G) (n : Nat) (t : Nat) : Int := bn b0 (b0 153 t) (b0 154 t) (ga b0 n t)
theorem later_ll (hx : mk_x x) (k0 : ru x gA b0) {h : mz_G} (Q : su_e b0 h) {a1 a2 : Int} (n0 : 0 ≤ a1) (n6 : a1 ≤ 60) (H : ∀ t : Nat, (t : Int) < b0 140 1 → h 152 t = ga b0 a1.toNat t ∧ h 153 t = b0 153 t ∧ h 154 t = b0 154 t) : ∀ (m k1 k2 k3 k4 k5 : Nat) (l3 l4 l5 sA sB l6 l7 : Int) (g : mz_G), (b0 140 1 - l7).toNat = m → m < k1 → m < k2 → m < k3 → m < k4 → m < k5 → 0 ≤ l7 → l7 ≤ b0 140 1 → fp x gA g → ((l4 = -1 ∧ l5 = 0) ∨ (0 ≤ l4 ∧ l4 < l7 ∧ l5 = gs b0 a1.toNat l4.toNat)) → (0 ≤ sA ∧ sA ≤ 8 * l7) → (0 ≤ sB ∧ sB ≤ 8 * l7) → l6 = sA - sB → ∃ g1, zL_X11_later_38 x a1 a2 k1 l3 l4 l5 l6 l7 g = (0, if a2 = 0 then zL_X12_fullOnes_4 h k2 l3 l7 else if a2 = 1 then zL_X12_longestNow_4 h k3 l4 l7 else zL_X12_allGrown_4 h k4 sA l7 - zL_X12_allGrown_4 b0 k5 sB l7, g1) ∧ (0 ≤ zL_X12_allGrown_4 h k4 sA l7 ∧ zL_X12_allGrown_4 h k4 sA l7 ≤ 48) ∧ (0 ≤ zL_X12_allGrown_4 b0 k5 sB l7 ∧ zL_X12_allGrown_4 b0 k5 sB l7 ≤ 48) := by
  have hld : x.1 = 1 ∨ x.1 = 41 := by unfold mk_x at hx; omega
  have c6 : b0 140 1 ≤ 6 := k0.2.2.1.1.2
  have nh : h 140 1 = b0 140 1 := Q 140 1 (by decide) (by decide)
  have nA : gA 87 2 = b0 140 1 := k0.2.2.2.1.1.1
  have e87 : gA 87 3 = b0 137 30 := k0.2.2.2.1.1.2.1
  have dd : 0 ≤ b0 137 30 ∧ b0 137 30 ≤ 999 := k0.2.2.2.1.1.2.2.2.1
  intro m
  induction m with
  | zero =>
    intro k1 k2 k3 k4 k5 l3 l4 l5 sA sB l6 l7 g hm h1 h2 h3 h4 h5 l70 l7n f L bA bB e6
    obtain ⟨k1, rfl⟩ : ∃ k, k1 = k + 1 := ⟨k1 - 1, by omega⟩
    obtain ⟨k2, rfl⟩ : ∃ k, k2 = k + 1 := ⟨k2 - 1, by omega⟩
    obtain ⟨k3, rfl⟩ : ∃ k, k3 = k + 1 := ⟨k3 - 1, by omega⟩
    obtain ⟨k4, rfl⟩ : ∃ k, k4 = k + 1 := ⟨k4 - 1, by omega⟩
    obtain ⟨k5, rfl⟩ : ∃ k, k5 = k + 1 := ⟨k5 - 1, by omega⟩
    rw [zL_X11_later_38_s, zL_X12_fullOnes_4_s, zL_X12_longestNow_4_s, zL_X12_allGrown_4_s, zL_X12_allGrown_4_s]
    unfold zB_X11_later_38 zB_X12_fullOnes_4 zB_X12_longestNow_4 zB_X12_allGrown_4 zF_X11_trunkCount
    simp only [zf_lq]
    have e2 : g 87 2 = b0 140 1 := (f 87 2 (by decide) (by omega) (by omega)).trans nA
    rw [e2, nh]
    simp only [if_neg (show ¬ l7 < b0 140 1 by omega)]
    refine ⟨g, ?_, ⟨bA.1, by omega⟩, bB.1, by omega⟩
    by_cases y0 : a2 = 0
    · rw [if_pos y0, if_pos y0]
    · rw [if_neg y0, if_neg y0]
      by_cases y1 : a2 = 1
      · rw [if_pos y1, if_pos y1]
      · rw [if_neg y1, if_neg y1, e6]
  | succ m ih =>
    intro k1 k2 k3 k4 k5 l3 l4 l5 sA sB l6 l7 g hm h1 h2 h3 h4 h5 l70 l7n f L bA bB e6
    obtain ⟨k1, rfl⟩ : ∃ k, k1 = k + 1 := ⟨k1 - 1, by omega⟩
    obtain ⟨k2, rfl⟩ : ∃ k, k2 = k + 1 := ⟨k2 - 1, by omega⟩
    obtain ⟨k3, rfl⟩ : ∃ k, k3 = k + 1 := ⟨k3 - 1, by omega⟩
    obtain ⟨k4, rfl⟩ : ∃ k, k4 = k + 1 := ⟨k4 - 1, by omega⟩
    obtain ⟨k5, rfl⟩ : ∃ k, k5 = k + 1 := ⟨k5 - 1, by omega⟩
    have hl : l7 < b0 140 1 := by omega
    have e2 : g 87 2 = b0 140 1 := (f 87 2 (by decide) (by omega) (by omega)).trans nA
    obtain ⟨-, ⟨e0, e1, e2', e3, e4⟩, vv, ss, tt, t6⟩ := now_t k0 l70 hl
    have ft : ∀ b : Nat, g (87 + 3 + l7.toNat) b = gA (87 + 3 + l7.toNat) b := fun b => f _ b (by omega) (by omega) (by omega)
    obtain ⟨H0, H1, H2⟩ := H l7.toNat (by omega)
    have vg := (gnd_b tt a1.toNat _ (b0 137 30) vv (sp := b0 155 l7.toNat)).1
    rw [zL_X11_later_38_s, zL_X12_fullOnes_4_s, zL_X12_longestNow_4_s, zL_X12_allGrown_4_s, zL_X12_allGrown_4_s]
    unfold zB_X11_later_38 zJ_X11_later_96 zJ_X11_later_131 zF_X11_trunkCount zB_X12_fullOnes_4 zJ_X12_fullOnes_30 zB_X12_longestNow_4 zJ_X12_longestNow_32 zJ_X12_longestNow_34 zB_X12_allGrown_4
    simp only [zf_lq]
    rw [e2, nh]
    simp only [if_pos hl]
    rw [get_A l70 t6, ft 2, e2']
    obtain ⟨g7, eg, ⟨w0, w1, w3, w4⟩, wf⟩ := probe_A (s := b0 155 l7.toNat) hld (fp_S hld k0.2.1 f) l70 t6 ((ft 0).trans e0) ((ft 1).trans e1) ((ft 3).trans e3) ((ft 4).trans e4) vv tt ((f 87 3 (by decide) (by omega) (by omega)).trans e87) dd.1 dd.2 n0 n6
    rw [eg]
    have fg := fp_t f wf
    have W7 : sa_w x.1 g7 b0 := (fp_S hld k0.2.1 fg).1
    have z3 : g7 (87 + 3 + l7.toNat) 3 = b0 152 l7.toNat := (fg _ _ (by omega) (by omega) (by omega)).trans e3
    have w3' : g7 122 3 = ga b0 a1.toNat l7.toNat := w3
    have vg' : vt b0 (b0 153 l7.toNat) (b0 154 l7.toNat) (ga b0 a1.toNat l7.toNat) := vg
    have bb := bn_b W7 vg'
    have b2 := bn_b W7 vv
    rw [isFull_A W7 (by rw [w0]; exact vv.1) (by rw [w0]; exact vv.2.1) (by rw [w1]; exact vv.2.2.1) (by rw [w1]; exact vv.2.2.2.1), isFull_B, w0, w1, w3', H0, H1, H2, fu_c Q, z3, bsize_n W7 w0 w1 w3' vg', bsize_m Q H1 H2 H0]
    have s7 : bn b0 (b0 153 l7.toNat) (b0 154 l7.toNat) (ga b0 a1.toNat l7.toNat) = gs b0 a1.toNat l7.toNat := rfl
    rw [s7] at bb ⊢
    rw [mz_wrap_id (a := ga b0 a1.toNat l7.toNat - b0 152 l7.toNat) ⟨by omega, by omega⟩, mz_wrap_id (a := l6 + (ga b0 a1.toNat l7.toNat - b0 152 l7.toNat)) ⟨by omega, by omega⟩, mz_wrap_id (a := sA + ga b0 a1.toNat l7.toNat) ⟨by omega, by omega⟩, mz_wrap_id (a := sB + b0 152 l7.toNat) ⟨by omega, by omega⟩]
    have T : ∀ (bit l4' l5' : Int), ((l4' = -1 ∧ l5' = 0) ∨ (0 ≤ l4' ∧ l4' < l7 + 1 ∧ l5' = gs b0 a1.toNat l4'.toNat)) → ∃ g1, zL_X11_later_38 x a1 a2 k1 (mz_orI l3 bit) l4' l5' (l6 + (ga b0 a1.toNat l7.toNat - b0 152 l7.toNat)) (l7 + 1) g7 = (0, if a2 = 0 then zL_X12_fullOnes_4 h k2 (mz_orI l3 bit) (l7 + 1) else if a2 = 1 then zL_X12_longestNow_4 h k3 l4' (l7 + 1) else zL_X12_allGrown_4 h k4 (sA + ga b0 a1.toNat l7.toNat) (l7 + 1) - zL_X12_allGrown_4 b0 k5 (sB + b0 152 l7.toNat) (l7 + 1), g1) ∧ (0 ≤ zL_X12_allGrown_4 h k4 (sA + ga b0 a1.toNat l7.toNat) (l7 + 1) ∧ zL_X12_allGrown_4 h k4 (sA + ga b0 a1.toNat l7.toNat) (l7 + 1) ≤ 48) ∧ (0 ≤ zL_X12_allGrown_4 b0 k5 (sB + b0 152 l7.toNat) (l7 + 1) ∧ zL_X12_allGrown_4 b0 k5 (sB + b0 152 l7.toNat) (l7 + 1) ≤ 48) := fun bit l4' l5' L' => ih k1 k2 k3 k4 k5 _ l4' l5' _ _ _ (l7 + 1) g7 (by omega) (by omega) (by omega) (by omega) (by omega) (by omega) (by omega) (by omega) fg L' ⟨by omega, by omega⟩ ⟨by omega, by omega⟩ (by omega)
    have U : ∀ bit : Int, ∃ g1, (if l5 < gs b0 a1.toNat l7.toNat then zL_X11_later_38 x a1 a2 k1 (mz_orI l3 bit) l7 (gs b0 a1.toNat l7.toNat) (l6 + (ga b0 a1.toNat l7.toNat - b0 152 l7.toNat)) (l7 + 1) g7 else zL_X11_later_38 x a1 a2 k1 (mz_orI l3 bit) l4 l5 (l6 + (ga b0 a1.toNat l7.toNat - b0 152 l7.toNat)) (l7 + 1) g7) = (0, if a2 = 0 then zL_X12_fullOnes_4 h k2 (mz_orI l3 bit) (l7 + 1) else if a2 = 1 then (if l4 = -1 then zL_X12_longestNow_4 h k3 l7 (l7 + 1) else if zF_X12_blendSize l4 h < gs b0 a1.toNat l7.toNat then zL_X12_longestNow_4 h k3 l7 (l7 + 1) else zL_X12_longestNow_4 h k3 l4 (l7 + 1)) else zL_X12_allGrown_4 h k4 (sA + ga b0 a1.toNat l7.toNat) (l7 + 1) - zL_X12_allGrown_4 b0 k5 (sB + b0 152 l7.toNat) (l7 + 1), g1) ∧ (0 ≤ zL_X12_allGrown_4 h k4 (sA + ga b0 a1.toNat l7.toNat) (l7 + 1) ∧ zL_X12_allGrown_4 h k4 (sA + ga b0 a1.toNat l7.toNat) (l7 + 1) ≤ 48) ∧ (0 ≤ zL_X12_allGrown_4 b0 k5 (sB + b0 152 l7.toNat) (l7 + 1) ∧ zL_X12_allGrown_4 b0 k5 (sB + b0 152 l7.toNat) (l7 + 1) ≤ 48) := fun bit => by
      rcases L with ⟨y1, y2⟩ | ⟨y1, y2, y3⟩
      · rw [if_pos (show l5 < gs b0 a1.toNat l7.toNat by omega), if_pos y1]
        exact T bit l7 _ (Or.inr ⟨l70, by omega, rfl⟩)
      · obtain ⟨I0, I1, I2⟩ := H l4.toNat (by omega)
        have bs : zF_X12_blendSize l4 h = gs b0 a1.toNat l4.toNat := bsize_m Q I1 I2 I0
        rw [if_neg (show ¬ l4 = -1 by omega), bs, ← y3]
        by_cases z : l5 < gs b0 a1.toNat l7.toNat
        · rw [if_pos z, if_pos z]
          exact T bit l7 _ (Or.inr ⟨l70, by omega, rfl⟩)
        · rw [if_neg z, if_neg z]
          exact T bit l4 l5 (Or.inr ⟨y1, by omega, y3⟩)
    by_cases hf : ga b0 a1.toNat l7.toNat = fu b0 (b0 153 l7.toNat) (b0 154 l7.toNat)
    · rw [if_pos hf, i10, i10]
      exact U (mz_shlI 1 l7)
    · rw [if_neg hf, i00, i00]
      exact U 0
theorem later_a (hx : mk_x x) (K : kr gB) (k : ru x gA gB) {a1 a2 : Int} : ka (zF_X11_later x a1 a2 gA) (zF_X12_later a1 a2 gB) := by
  have k1 := ru_2 (v := 0) k
  have K1 : kr (mz_up gB 137 2 0) := kr_e (g0 := gB) (fun a b u v => up_k (by omega)) K
  unfold zF_X11_later zF_X12_later zJ_X11_later_13 zJ_X11_later_14 zJ_X12_later_89
  simp only [zf_lq]
  rw [isI_B, isI_B]
  generalize hb : mz_up gB 137 2 0 = b1 at *
  have c0 : b1 137 2 = 0 := by rw [← hb, mz_up_at]
  clear k hb
  by_cases h2 : 0 ≤ a2 ∧ a2 ≤ 2
  · rw [if_neg (show ¬ a2 < 0 by omega), if_neg (show ¬ 2 < a2 by omega), mb_1, if_pos h2, i10, isAh_A]
    by_cases h1 : 0 ≤ a1 ∧ a1 ≤ 60
    · rw [if_pos h1, mf_1, i10]
      obtain ⟨s1, s2, s3⟩ := store_B (g := b1) (q := 162) (nq := 25) (p := 0) (by omega) (by decide)
      have q := qk_sto (q := 162) (g := b1) (Or.inl rfl)
      have o : ∀ a b : Nat, a ≠ 162 → zF_X12_store 162 25 0 b1 a b = b1 a b := fun a b z => s3 a b (fun y => z y.1)
      generalize zF_X12_store 162 25 0 b1 = h0 at *
      have Kh := kr_e q.1 K1
      obtain ⟨gg, gd, gf⟩ := goOn_B Kh.1 Kh.2.1 Kh.2.2 h1.1 (by omega)
      have q2 := qk_go K1 (Or.inl rfl) h1.1 (by omega) q
      have c2 : zF_X12_goOn a1 h0 137 2 = 0 := (go_2 Kh h1.1 (by omega)).trans ((o _ _ (by decide)).trans c0)
      have H : ∀ t : Nat, (t : Int) < b1 140 1 → zF_X12_goOn a1 h0 152 t = ga b1 a1.toNat t ∧ zF_X12_goOn a1 h0 153 t = b1 153 t ∧ zF_X12_goOn a1 h0 154 t = b1 154 t := fun t ht => by
        refine ⟨?_, (gf _ _ (by unfold fw_dy; omega)).trans (o _ _ (by decide)), (gf _ _ (by unfold fw_dy; omega)).trans (o _ _ (by decide))⟩
        rw [gg t (by rw [o _ _ (by decide)]; exact ht), gnd_c q.1, o _ _ (by decide), o _ _ (by decide), o _ _ (by decide), o _ _ (by decide), o _ _ (by decide), o _ _ (by decide)]
        rfl
      generalize zF_X12_goOn a1 h0 = h at *
      obtain ⟨g1, e, bA, bB⟩ := later_ll hx k1 q2.1 (a2 := a2) h1.1 h1.2 H (b1 140 1 - 0).toNat 3000000000 3000000000 3000000000 3000000000 3000000000 0 (-1) 0 0 0 0 0 gA rfl (by have := K1.2.2; omega) (by have := K1.2.2; omega) (by have := K1.2.2; omega) (by have := K1.2.2; omega) (by have := K1.2.2; omega) (by decide) k1.2.2.1.1.1 (fun _ _ _ _ _ => rfl) (Or.inl ⟨rfl, rfl⟩) ⟨by decide, by decide⟩ ⟨by decide, by decide⟩ (by decide)
      have R : zF_X12_recall 162 25 0 h 137 2 = 0 := (rec_2 (Or.inl rfl)).trans c2
      rw [e]
      unfold zF_X12_fullOnes zF_X12_longestNow zF_X12_allGrown
      by_cases y0 : a2 = 0
      · rw [if_pos y0, if_pos y0]
        exact ka_0 R rfl
      · rw [if_neg y0, if_neg y0]
        by_cases y1 : a2 = 1
        · rw [if_pos y1, if_pos y1]
          exact ka_0 R rfl
        · rw [if_neg y1, if_neg y1, mz_wrap_id ⟨by omega, by omega⟩]
          exact ka_0 R rfl
    · rw [if_neg h1, mf_0, i00]
      exact ka_fail (c := 2) rfl (by decide)
  · rw [if_neg h2, i00]
    by_cases h3 : a2 < 0
    · rw [if_pos h3, mb_0]
      exact ka_fail (c := 1) rfl (by decide)
    · rw [if_neg h3, if_pos (show 2 < a2 by omega), mb_0]
      exact ka_fail (c := 1) rfl (by decide)
end WB
