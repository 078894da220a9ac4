/-! ANSWERS (12): alike -/
section WL
variable {x : mm_X} {g g0 g1 gA gB b0 : mz_G} {ld : Nat}
theorem step_q (hld : x.1 = 1 ∨ x.1 = 41) (S : sta x.1 g gB) {q : Nat} (hq : 121 < q) {sd mt gn tr d s l : Int} {i : Nat} (v : vt gB sd mt gn) (tt : tr = 0 ∨ tr = 1) (hd : g 87 3 = d) (d0 : 0 ≤ d) (d9 : d ≤ 999) (hi : (i : Int) = l) (l6 : l ≤ 100) (w0 : g q 0 = sd) (w1 : g q 1 = mt) (w2 : g q 2 = s) (w4 : g q 4 = tr) (w3 : g q 3 = gnd gB tr sd mt s i gn d) : zF_X11_growBy x q l g q 3 = gnd gB tr sd mt s (i + 1) gn d ∧ ∀ a b : Nat, ¬ (a = q ∧ b = 3) → a ≠ x.1 + 38 → a ≠ x.1 + 39 → zF_X11_growBy x q l g a b = g a b := by
  obtain ⟨p1, p2⟩ := growBy_A (l := l) S hld hq (by rw [hd]; omega) (by rw [hd]; omega) (by rw [w0, w1, w3]; exact (gnd_b tt i gn d v).1) (by rw [w4]; exact tt)
  rw [w0, w1, w2, w3, w4, hd] at p1
  refine ⟨?_, fun a b u v w => p2 a b (by unfold fw_gr; omega)⟩
  rw [p1, gnd_e, hi]
def pq (b0 g : mz_G) (q t i : Nat) : Prop := g q 0 = b0 153 t ∧ g q 1 = b0 154 t ∧ g q 2 = b0 155 t ∧ g q 4 = b0 144 t ∧ g q 3 = ga b0 i t
def hq_ (b0 h : mz_G) (t i : Nat) : Prop := h 153 t = b0 153 t ∧ h 154 t = b0 154 t ∧ h 155 t = b0 155 t ∧ h 152 t = ga b0 i t
theorem go1_B {h : mz_G} (K : kr b0) (q : qk 162 b0 h) {t i : Nat} {l : Int} (ht : (t : Int) < b0 140 1) (hi : (i : Int) = l) (d0 : h 137 30 = b0 137 30 + l) (H : hq_ b0 h t i) : hq_ b0 (zF_X12_goOn 1 h) t (i + 1) := by
  obtain ⟨h3, h4, h5, h2⟩ := H
  have K1 := kr_e q.1 K
  obtain ⟨gg, gd, gf⟩ := goOn_B K1.1 K1.2.1 K1.2.2 (n := 1) (by decide) (by decide)
  have n1 : h 140 1 = b0 140 1 := q.1 140 1 (by decide) (by decide)
  have g2 := gg t (by omega)
  rw [gnd_c q.1, q.1 144 _ (by decide) (by decide), h3, h4, h5, h2, d0, show (1 : Int).toNat = 0 + 1 from rfl, gnd_s, show ∀ a b : Int, gnd b0 (b0 144 t) (b0 153 t) (b0 154 t) (b0 155 t) 0 a b = a from fun _ _ => rfl, ← hi] at g2
  exact ⟨(gf 153 t (by unfold fw_dy; omega)).trans h3, (gf 154 t (by unfold fw_dy; omega)).trans h4, (gf 155 t (by unfold fw_dy; omega)).trans h5, g2.trans (gnd_e ..).symm⟩
theorem alike_ll (hx : mk_x x) (k0 : ru x gA b0) (K : kr b0) {a1 a2 : Int} (t0 : 0 ≤ a1) (t1 : a1 < b0 140 1) (u0 : 0 ≤ a2) (u1 : a2 < b0 140 1) (h12 : a1 ≠ a2) : ∀ (m k1 k2 i : Nat) (l : Int) (g h : mz_G), (61 - l).toNat = m → m < k1 → m < k2 → (i : Int) = l → fq x gA g → pq b0 g 122 a1.toNat i → pq b0 g 123 a2.toNat i → qk 162 b0 h → h 137 2 = 0 → h 137 30 = b0 137 30 + l → hq_ b0 h a1.toNat i → hq_ b0 h a2.toNat i → ka (zL_X11_alike_69 x a1 a2 k1 l g) (zL_X12_alike_41 a1 a2 k2 (-1) l h) := by
  have hld : x.1 = 1 ∨ x.1 = 41 := by unfold mk_x at hx; omega
  obtain ⟨-, -, vv, -, tt, -⟩ := now_t k0 t0 t1
  obtain ⟨-, -, vw, -, tw', -⟩ := now_t k0 u0 u1
  have e87 : gA 87 3 = b0 137 30 := k0.2.2.2.1.1.2.1
  have dd : 0 ≤ b0 137 30 ∧ b0 137 30 ≤ 999 := k0.2.2.2.1.1.2.2.2.1
  intro m
  induction m with
  | zero =>
    intro k1 k2 i l g h hm hk1 hk2 hi f p1 p2 q c0 d0 H1 H2
    obtain ⟨k1, rfl⟩ : ∃ k, k1 = k + 1 := ⟨k1 - 1, by omega⟩
    obtain ⟨k2, rfl⟩ : ∃ k, k2 = k + 1 := ⟨k2 - 1, by omega⟩
    rw [zL_X11_alike_69_s, zL_X12_alike_41_s]
    unfold zB_X11_alike_69 zB_X12_alike_41 zJ_X12_alike_105
    simp only [zf_lq]
    rw [if_pos (by omega), if_pos (by omega)]
    exact ka_0 ((rec_2 (Or.inl rfl)).trans c0) rfl
  | succ m ih =>
    intro k1 k2 i l g h hm hk1 hk2 hi f p1 p2 q c0 d0 H1 H2
    obtain ⟨k1, rfl⟩ : ∃ k, k1 = k + 1 := ⟨k1 - 1, by omega⟩
    obtain ⟨k2, rfl⟩ : ∃ k, k2 = k + 1 := ⟨k2 - 1, by omega⟩
    rw [zL_X11_alike_69_s, zL_X12_alike_41_s]
    unfold zB_X11_alike_69 zB_X12_alike_41 zJ_X12_alike_105 zJ_X12_alike_94
    simp only [zf_lq]
    have hl0 : ¬ 60 < l := by omega
    rw [if_neg hl0, if_neg hl0, if_pos trivial, if_neg h12]
    obtain ⟨x0, x1, x2, x4, x3⟩ := id p1
    obtain ⟨y0, y1, y2, y4, y3⟩ := id p2
    have S := fq_S hld k0.2.1 f
    have vg : vt b0 (b0 153 a1.toNat) (b0 154 a1.toNat) (ga b0 i a1.toNat) := (gnd_b tt i _ (b0 137 30) vv (sp := b0 155 a1.toNat)).1
    have vh : vt b0 (b0 153 a2.toNat) (b0 154 a2.toNat) (ga b0 i a2.toNat) := (gnd_b tw' i _ (b0 137 30) vw (sp := b0 155 a2.toNat)).1
    have nb := bn_b S.1 vg
    have nc := bn_b S.1 vh
    obtain ⟨n1, en, t⟩ := blend_A hld (q := 133) (by decide) rfl S (q1 := 122) ⟨by decide, by decide⟩ x0 x1 x3 vg
    generalize zF_X1_blendInto x.1 122 133 g = g8 at *
    have f8 := fq_bt (x := x) (Or.inl rfl) f t
    have S8 := fq_S hld k0.2.1 f8
    have u8 : ∀ a b : Nat, a ≠ 133 → a ≠ 134 → g8 a b = g a b := fun a b z1 z2 => t.2.2 a b (by omega) z2
    obtain ⟨n2, em, s⟩ := blend_A hld (q := 135) (by decide) rfl S8 (q1 := 123) ⟨by decide, by decide⟩ ((u8 _ _ (by decide) (by decide)).trans y0) ((u8 _ _ (by decide) (by decide)).trans y1) ((u8 _ _ (by decide) (by decide)).trans y3) vh
    generalize zF_X1_blendInto x.1 123 135 g8 = g9 at *
    have f9 := fq_bt (x := x) (Or.inr rfl) f8 s
    have S9 := fq_S hld k0.2.1 f9
    have u9 : ∀ a b : Nat, a ≠ 135 → a ≠ 136 → g9 a b = g8 a b := fun a b z1 z2 => s.2.2 a b (by omega) z2
    -- the reference's texts
    obtain ⟨h9, ea, ta, fa⟩ := blend_B (q1 := 157) (nq := 16) (b0 := h) (t := a1) (by decide) (sta_B S q.1).1 (vt_of q.1 vg) H1.1 H1.2.1 H1.2.2.2
    rw [ea]
    unfold zf_m2
    dsimp only
    rw [bn_c q.1] at ta ⊢
    obtain ⟨N, hN⟩ : ∃ N, bn b0 (b0 153 a1.toNat) (b0 154 a1.toNat) (ga b0 i a1.toNat) = N := ⟨_, rfl⟩
    rw [hN] at ta en nb ⊢
    have o1 : ∀ a b : Nat, a ≠ 157 → ¬ (a = 137 ∧ b = 36) → mz_up h9 137 36 N a b = h a b := fun a b z1 z2 => (mz_up_ne z2).trans (fa a b z1)
    have e36 : mz_up h9 137 36 N 137 36 = N := mz_up_at ..
    have e157 : ∀ j : Nat, (j : Int) < N → mz_up h9 137 36 N 157 j = bc b0 (b0 153 a1.toNat) (b0 154 a1.toNat) (ga b0 i a1.toNat) j := fun j hj => (up_k (by decide)).trans ((ta j hj).trans (bc_c q.1))
    generalize mz_up h9 137 36 N = hA at *
    have qA : qk 162 b0 hA := qk_fr (fun a b z => o1 a b (by omega) (by omega)) q
    obtain ⟨h12', eb, tb', fb⟩ := blend_B (q1 := 158) (nq := 16) (b0 := hA) (t := a2) (by decide) (sta_B S qA.1).1 (vt_of qA.1 vh) ((o1 _ _ (by decide) (by omega)).trans H2.1) ((o1 _ _ (by decide) (by omega)).trans H2.2.1) ((o1 _ _ (by decide) (by omega)).trans H2.2.2.2)
    rw [eb]
    dsimp only
    rw [bn_c qA.1] at tb' ⊢
    obtain ⟨M, hM⟩ : ∃ M, bn b0 (b0 153 a2.toNat) (b0 154 a2.toNat) (ga b0 i a2.toNat) = M := ⟨_, rfl⟩
    rw [hM] at tb' em nc ⊢
    have o2 : ∀ a b : Nat, a ≠ 158 → ¬ (a = 137 ∧ b = 37) → mz_up h12' 137 37 M a b = hA a b := fun a b z1 z2 => (mz_up_ne z2).trans (fb a b z1)
    have e37 : mz_up h12' 137 37 M 137 37 = M := mz_up_at ..
    have e158 : ∀ j : Nat, (j : Int) < M → mz_up h12' 137 37 M 158 j = bc b0 (b0 153 a2.toNat) (b0 154 a2.toNat) (ga b0 i a2.toNat) j := fun j hj => (up_k (by decide)).trans ((tb' j hj).trans (bc_c qA.1))
    generalize mz_up h12' 137 37 M = hB at *
    have qB : qk 162 b0 hB := qk_fr (fun a b z => o2 a b (by omega) (by omega)) qA
    have b36 : hB 137 36 = N := (o2 _ _ (by decide) (by decide)).trans e36
    have b157 : ∀ j : Nat, (j : Int) < N → hB 157 j = bc b0 (b0 153 a1.toNat) (b0 154 a1.toNat) (ga b0 i a1.toNat) j := fun j hj => (o2 _ _ (by decide) (by omega)).trans (e157 j hj)
    have oo : ∀ a b : Nat, a ≠ 157 → a ≠ 158 → ¬ (a = 137 ∧ b = 36) → ¬ (a = 137 ∧ b = 37) → hB a b = h a b := fun a b z1 z2 z3 z4 => (o2 a b z2 z4).trans (o1 a b z1 z3)
    obtain ⟨A1, A2⟩ := X0_isSame (g := g9) (q0 := 133) (q1 := 135) (by rw [u9 133 1 (by decide) (by decide), t.1, en, show zf_ln 133 = 16 from rfl]; omega) (by rw [s.1, em, show zf_ln 135 = 16 from rfl]; omega)
    obtain ⟨B1, B2⟩ := same_B (g := hB) (by rw [b36]; omega) (by rw [e37]; omega)
    have C : sm_k g9 133 135 ↔ (hB 137 36 = hB 137 37 ∧ ∀ j : Nat, (j : Int) < hB 137 36 → hB 157 j = hB 158 j) := by
      unfold sm_k
      rw [u9 133 1 (by decide) (by decide), t.1, s.1, en, em, b36, e37]
      constructor
      · rintro ⟨z1, z2⟩
        refine ⟨z1, fun j hj => ?_⟩
        have z := z2 j hj
        rw [u9 _ _ (by decide) (by decide), t.2.1 j (by omega), s.2.1 j (by omega)] at z
        rw [b157 j hj, e158 j (by omega), z]
      · rintro ⟨z1, z2⟩
        refine ⟨z1, fun j hj => ?_⟩
        have z := z2 j hj
        rw [b157 j hj, e158 j (by omega)] at z
        rw [u9 _ _ (by decide) (by decide), t.2.1 j (by omega), s.2.1 j (by omega), z]
    have K1 := kr_e qB.1 K
    obtain ⟨gg, gd, gf⟩ := goOn_B K1.1 K1.2.1 K1.2.2 (n := 1) (by decide) (by decide)
    have q2 := qk_go K (Or.inl rfl) (n := 1) (by decide) (by decide) qB
    have c2 : zF_X12_goOn 1 hB 137 2 = 0 := (go_2 K1 (by decide) (by decide)).trans ((oo _ _ (by decide) (by decide) (by decide) (by decide)).trans c0)
    have dB : hB 137 30 = b0 137 30 + l := (oo _ _ (by decide) (by decide) (by decide) (by decide)).trans d0
    have HB : ∀ t : Nat, hq_ b0 h t i → hq_ b0 hB t i := fun t H => ⟨(oo _ _ (by decide) (by decide) (by omega) (by omega)).trans H.1, (oo _ _ (by decide) (by decide) (by omega) (by omega)).trans H.2.1, (oo _ _ (by decide) (by decide) (by omega) (by omega)).trans H.2.2.1, (oo _ _ (by decide) (by decide) (by omega) (by omega)).trans H.2.2.2⟩
    have N1 := go1_B K qB (by omega) hi dB (HB _ H1)
    have N2 := go1_B K qB (by omega) hi dB (HB _ H2)
    generalize zF_X12_goOn 1 hB = hh at *
    by_cases hf : hB 137 36 = hB 137 37 ∧ ∀ j : Nat, (j : Int) < hB 137 36 → hB 157 j = hB 158 j
    · rw [A1 (C.mpr hf), B1 hf, i10, i10]
      obtain ⟨k2, rfl⟩ : ∃ k, k2 = k + 1 := ⟨k2 - 1, by omega⟩
      rw [zL_X12_alike_41_s]
      unfold zB_X12_alike_41 zJ_X12_alike_105
      simp only [zf_lq]
      by_cases hl1 : 60 < l + 1
      · rw [if_pos hl1]
        exact ka_0 ((rec_2 (Or.inl rfl)).trans c2) rfl
      · rw [if_neg hl1, if_neg (by omega)]
        exact ka_0 ((rec_2 (Or.inl rfl)).trans c2) rfl
    · rw [A2 (fun z => hf (C.mp z)), B2 hf, i00, i00]
      have v9 : ∀ q b : Nat, q = 122 ∨ q = 123 → g9 q b = g q b := fun q b hq => (u9 q b (by omega) (by omega)).trans (u8 q b (by omega) (by omega))
      have e9 : g9 87 3 = b0 137 30 := (f9 87 3 (by decide) (by decide) (by decide) (by omega) (by omega)).trans e87
      obtain ⟨r3, rf⟩ := step_q hld S9 (q := 122) (by decide) vv tt e9 dd.1 dd.2 hi (by omega) ((v9 _ 0 (by decide)).trans x0) ((v9 _ 1 (by decide)).trans x1) ((v9 _ 2 (by decide)).trans x2) ((v9 _ 4 (by decide)).trans x4) ((v9 _ 3 (by decide)).trans x3)
      generalize zF_X11_growBy x 122 l g9 = gC at *
      have fC : fq x gA gC := fun a b z z2 z3 z4 z5 => (rf a b (by omega) z4 z5).trans (f9 a b z z2 z3 z4 z5)
      have eC : gC 87 3 = b0 137 30 := (rf 87 3 (by omega) (by omega) (by omega)).trans e9
      have vC : ∀ b : Nat, gC 123 b = g 123 b := fun b => (rf 123 b (by omega) (by omega) (by omega)).trans (v9 123 b (Or.inr rfl))
      obtain ⟨s3, sf⟩ := step_q hld (fq_S hld k0.2.1 fC) (q := 123) (by decide) vw tw' eC dd.1 dd.2 hi (by omega) ((vC 0).trans y0) ((vC 1).trans y1) ((vC 2).trans y2) ((vC 4).trans y4) ((vC 3).trans y3)
      generalize zF_X11_growBy x 123 l gC = gD at *
      have w1 : ∀ b : Nat, gD 122 b = gC 122 b := fun b => sf 122 b (by omega) (by omega) (by omega)
      have w2 : ∀ b : Nat, b ≠ 3 → gC 122 b = g 122 b := fun b hb => (rf 122 b (by omega) (by omega) (by omega)).trans (v9 122 b (Or.inl rfl))
      have w3 : ∀ b : Nat, b ≠ 3 → gD 123 b = g 123 b := fun b hb => (sf 123 b (by omega) (by omega) (by omega)).trans (vC b)
      exact ih k1 k2 (i + 1) (l + 1) gD hh (by omega) (by omega) (by omega) (by omega) (fun a b z z2 z3 z4 z5 => (sf a b (by omega) z4 z5).trans (fC a b z z2 z3 z4 z5)) ⟨(w1 0).trans ((w2 0 (by decide)).trans x0), (w1 1).trans ((w2 1 (by decide)).trans x1), (w1 2).trans ((w2 2 (by decide)).trans x2), (w1 4).trans ((w2 4 (by decide)).trans x4), (w1 3).trans r3⟩ ⟨(w3 0 (by decide)).trans y0, (w3 1 (by decide)).trans y1, (w3 2 (by decide)).trans y2, (w3 4 (by decide)).trans y4, s3⟩ q2 c2 (by rw [gd, dB]; omega) N1 N2
theorem alike_a (hx : mk_x x) (K : kr gB) (k : ru x gA gB) {a1 a2 : Int} : ka (zF_X11_alike x a1 a2 gA) (zF_X12_alike a1 a2 gB) := by
  have k1 := ru_2 (v := 0) k
  have K1 : kr (mz_up gB 137 2 0) := kr_e (g0 := gB) (fun a b u v => up_k (by omega)) K
  unfold zF_X11_alike zF_X12_alike zJ_X11_alike_20 zJ_X11_alike_21 zJ_X12_alike_21
  simp only [zf_lq]
  rw [isT_A, isT_A, isT_B, isT_B]
  generalize hb : mz_up gB 137 2 0 = b1 at *
  have c0 : b1 137 2 = 0 := by rw [← hb, mz_up_at]
  clear k hb
  have n2 : gA 87 2 = b1 140 1 := k1.2.2.2.1.1.1
  rw [n2, mb_0, mb_1]
  by_cases h1 : 0 ≤ a1 ∧ a1 < b1 140 1
  · rw [if_pos h1, i10, i10]
    by_cases h2 : 0 ≤ a2 ∧ a2 < b1 140 1
    · rw [if_pos h2, i10, i10]
      obtain ⟨s1, s2, s3⟩ := store_B (g := b1) (q := 162) (nq := 25) (p := 0) (by omega) (by decide)
      have q := qk_sto (q := 162) (g := b1) (Or.inl rfl)
      have o : ∀ a b : Nat, a ≠ 162 → zF_X12_store 162 25 0 b1 a b = b1 a b := fun a b z => s3 a b (fun y => z y.1)
      generalize zF_X12_store 162 25 0 b1 = h at *
      by_cases z : a1 = a2
      · rw [if_pos z]
        obtain ⟨k, hk⟩ : ∃ k : Nat, 3000000000 = k + 1 := ⟨2999999999, by omega⟩
        rw [hk, zL_X12_alike_41_s]
        unfold zB_X12_alike_41 zJ_X12_alike_105
        simp only [zf_lq]
        rw [if_neg (by decide), if_pos trivial, if_pos z]
        exact ka_0 ((rec_2 (Or.inl rfl)).trans ((o _ _ (by decide)).trans c0)) rfl
      · rw [if_neg z]
        obtain ⟨-, ⟨e0, e1, e2, e3, e4⟩, vv, ss, tt, t6⟩ := now_t k1 h1.1 h1.2
        obtain ⟨-, ⟨d0, d1, d2, d3, d4⟩, vw, sw, tw', u6⟩ := now_t k1 h2.1 h2.2
        rw [get_A h1.1 t6, get_A h2.1 u6]
        obtain ⟨r0, r1, r2, r3, r4, rf⟩ := asOf_A (g := gA) (q := 122) (r := 87 + 3 + a1.toNat) (by omega)
        generalize zF_X8_becomeAs 122 (87 + 3 + a1.toNat) gA = g5 at *
        obtain ⟨v0, v1, v2, v3, v4, vf⟩ := asOf_A (g := g5) (q := 123) (r := 87 + 3 + a2.toNat) (by omega)
        generalize zF_X8_becomeAs 123 (87 + 3 + a2.toNat) g5 = g7 at *
        have w : ∀ b : Nat, g7 122 b = g5 122 b := fun b => vf 122 b (by omega)
        have w' : ∀ b : Nat, g5 (87 + 3 + a2.toNat) b = gA (87 + 3 + a2.toNat) b := fun b => rf _ b (by omega)
        exact alike_ll hx k1 K1 h1.1 h1.2 h2.1 h2.2 z (61 - 0 : Int).toNat 3000000000 3000000000 0 0 g7 h rfl (by decide) (by decide) rfl (fun a b z1 z2 _ _ _ => (vf a b (by omega)).trans (rf a b (by omega))) ⟨(w 0).trans (r0.trans e0), (w 1).trans (r1.trans e1), (w 2).trans (r2.trans e2), (w 4).trans (r4.trans e4), (w 3).trans (r3.trans e3)⟩ ⟨v0.trans ((w' 0).trans d0), v1.trans ((w' 1).trans d1), v2.trans ((w' 2).trans d2), v4.trans ((w' 4).trans d4), v3.trans ((w' 3).trans d3)⟩ q ((o _ _ (by decide)).trans c0) (by rw [o _ _ (by decide)]; omega) ⟨o _ _ (by decide), o _ _ (by decide), o _ _ (by decide), o _ _ (by decide)⟩ ⟨o _ _ (by decide), o _ _ (by decide), o _ _ (by decide), o _ _ (by decide)⟩
    · rw [if_neg h2, i00, i00]
      exact ka_fail (c := 1) rfl (by decide)
  · rw [if_neg h1, i00, i00]
    exact ka_fail (c := 1) rfl (by decide)
end WL
