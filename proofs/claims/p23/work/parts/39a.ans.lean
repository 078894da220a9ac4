/-! ANSWERS (1): letter, toDraw, full -/
/-- both answer the same -/
def ka (p : zf_T) (q : Int × mz_G) : Prop := q.2 137 2 = (p.1 : Int) ∧ (p.1 = 0 → p.2.1 = q.1)
theorem m2_q {α β γ : Type} (a : α) (b : β) (f : α → β → γ) : zf_m2 (a, b) f = f a b := rfl
section WA
variable {x : mm_X} {g g0 g1 gA gB b0 : mz_G} {ld : Nat}
theorem ka_fail {c : Nat} {v : Int} {gA gB : mz_G} (e : (c : Int) = v) (hc : c ≠ 0) : ka (c, 0, gA) (zf_m2 (zF_X12_fail v gB) fun v1 g2 => (v1, g2)) := by
  unfold zf_m2 zF_X12_fail
  simp only [zf_lq]
  exact ⟨(mz_up_at gB 137 2 v).trans e.symm, fun z => absurd z hc⟩
theorem ka_0 {v w : Int} {gA g : mz_G} (c : g 137 2 = 0) (e : v = w) : ka (0, v, gA) (w, g) := ⟨c, fun _ => e⟩
theorem RR_ka {p : zf_T} {q : Int × mz_G} {r r2 : Int} {g1 g2 : mz_G} {x1 : mm_X} (W : wd x p r g1 x1) (e : q = (r2, g2)) (K : ka p q) : g2 137 2 = r ∧ (r = 0 → x1.2.2.2.2.1 179 0 = Int64.ofInt r2) ∧ 0 ≤ r ∧ r ≤ 2 := by
  obtain ⟨w1, w2, w3, w4, -, w6⟩ := W
  obtain ⟨k2, k3⟩ := K
  rw [e] at k2 k3
  refine ⟨k2.trans w2.symm, fun z => ?_, w6.1, w6.2⟩
  have z0 : p.1 = 0 := by omega
  rw [w3 z0, k3 z0]
theorem sign_w (hld : ld = 1 ∨ ld = 41) (W : sa_w ld gA gB) {w j : Int} (h0 : 0 ≤ w) (h1 : w < gB 140 0) (j0 : 0 ≤ j) (j1 : j < gB 142 w.toNat) : zF_X0_signAt (zF_X10_of (ld + 1) w gA) j gA = gB 141 (8 * w + j).toNat := by
  have l := sa_len W h0 h1
  have l8 := W.2.2.1
  rw [of_w h0 (by omega)]
  have z8 : zf_ln (ld + 10 + 2 * w.toNat) = 8 := by
    unfold zf_ln
    rw [if_neg (by omega), if_neg (by omega)]
  unfold zF_X0_signAt
  rw [zf_lq, z8, X11_at (n := 8) j0 (by omega), show ld + 10 + 2 * w.toNat + 1 = ld + 11 + 2 * w.toNat by omega, sa_let W h0 h1 (j := j.toNat) (by omega), show (8 * w + j).toNat = 8 * w.toNat + j.toNat by omega]
theorem letter_a (hx : mk_x x) (k : ru x gA gB) {a1 a2 : Int} : ka (zF_X11_letter x a1 a2 gA) (zF_X12_letter a1 a2 gB) := by
  have hld : x.1 = 1 ∨ x.1 = 41 := by unfold mk_x at hx; omega
  have k1 := ru_2 (v := 0) k
  unfold zF_X11_letter zF_X12_letter zJ_X11_letter_36 zJ_X11_letter_37 zJ_X12_letter_40
  simp only [zf_lq]
  rw [isW_A, isW_B]
  generalize hb : mz_up gB 137 2 0 = b1 at *
  have c0 : b1 137 2 = 0 := by rw [← hb, mz_up_at]
  clear k hb
  have W : sa_w x.1 gA b1 := k1.2.1.1
  rw [W.1]
  by_cases h : 0 ≤ a1 ∧ a1 < b1 140 0
  · rw [if_pos h, mb_1, i10, wlen W h.1 h.2, isI_B]
    have l := sa_len W h.1 h.2
    by_cases h2 : 0 ≤ a2 ∧ a2 ≤ b1 142 a1.toNat - 1
    · rw [if_neg (show ¬ a2 < 0 by omega), if_pos (show a2 < b1 142 a1.toNat by omega), mb_1, if_pos h2, i10, sign_w hld W h.1 h.2 h2.1 (by omega)]
      refine ka_0 c0 ?_
      unfold zF_X12_letterOf
      rw [zf_lq]
    · rw [if_neg h2, i00]
      by_cases h3 : a2 < 0
      · rw [if_pos h3, mb_0]
        exact ka_fail (c := 1) rfl (by decide)
      · rw [if_neg h3, if_neg (show ¬ a2 < b1 142 a1.toNat by omega), mb_0]
        exact ka_fail (c := 1) rfl (by decide)
  · rw [if_neg h, mb_0, i00]
    exact ka_fail (c := 1) rfl (by decide)
/-- the class's probe -/
def fp (x : mm_X) (g0 g : mz_G) : Prop := ∀ a b : Nat, a ≠ 122 → a ≠ x.1 + 38 → a ≠ x.1 + 39 → g a b = g0 a b
theorem fp_t (h : fp x g0 g) (k : fp x g g1) : fp x g0 g1 := fun a b u v w => (k a b u v w).trans (h a b u v w)
theorem fp_S (hld : x.1 = 1 ∨ x.1 = 41) (S : sta x.1 g0 gB) (f : fp x g0 g) : sta x.1 g gB := sta_A S (fun a b u v => f a b (by omega) (by omega) (by omega))
theorem step_A (hld : x.1 = 1 ∨ x.1 = 41) (S : sta x.1 g0 gB) {sd mt gn tr d s l : Int} {i : Nat} (v : vt gB sd mt gn) (tt : tr = 0 ∨ tr = 1) (hd : g0 87 3 = d) (d0 : 0 ≤ d) (d9 : d ≤ 999) (hi : (i : Int) = l) (l6 : l ≤ 100) (w0 : g 122 0 = sd) (w1 : g 122 1 = mt) (w2 : g 122 2 = s) (w4 : g 122 4 = tr) (w3 : g 122 3 = gnd gB tr sd mt s i gn d) (f : fp x g0 g) : zF_X11_growBy x 122 l g 122 0 = sd ∧ zF_X11_growBy x 122 l g 122 1 = mt ∧ zF_X11_growBy x 122 l g 122 2 = s ∧ zF_X11_growBy x 122 l g 122 4 = tr ∧ zF_X11_growBy x 122 l g 122 3 = gnd gB tr sd mt s (i + 1) gn d ∧ fp x g0 (zF_X11_growBy x 122 l g) := by
  have e87 : g 87 3 = d := (f 87 3 (by decide) (by omega) (by omega)).trans hd
  obtain ⟨p1, p2⟩ := growBy_A (l := l) (fp_S hld S f) hld (q := 122) (by decide) (by rw [e87]; omega) (by rw [e87]; omega) (by rw [w0, w1, w3]; exact (gnd_b tt i gn d v).1) (by rw [w4]; exact tt)
  rw [w0, w1, w2, w3, w4, e87] at p1
  generalize zF_X11_growBy x 122 l g = g6 at *
  refine ⟨(p2 122 0 (by unfold fw_gr; omega)).trans w0, (p2 122 1 (by unfold fw_gr; omega)).trans w1, (p2 122 2 (by unfold fw_gr; omega)).trans w2, (p2 122 4 (by unfold fw_gr; omega)).trans w4, ?_, fun a b z u v => (p2 a b (by unfold fw_gr; omega)).trans (f a b z u v)⟩
  rw [p1, gnd_e, hi]
theorem probe_l (hld : x.1 = 1 ∨ x.1 = 41) (S : sta x.1 g0 gB) {a1 a2 n sd mt gn tr d s : Int} (v : vt gB sd mt gn) (tt : tr = 0 ∨ tr = 1) (hd : g0 87 3 = d) (d0 : 0 ≤ d) (d9 : d ≤ 999) (n6 : n ≤ 60) : ∀ (m k i : Nat) (l : Int) (g : mz_G), (n - l).toNat = m → m < k → (i : Int) = l → l ≤ n → g 122 0 = sd → g 122 1 = mt → g 122 2 = s → g 122 4 = tr → g 122 3 = gnd gB tr sd mt s i gn d → fp x g0 g → ∃ g1, zL_X11_growProbe_29 x a1 a2 n k l g = g1 ∧ (g1 122 0 = sd ∧ g1 122 1 = mt ∧ g1 122 3 = gnd gB tr sd mt s n.toNat gn d ∧ g1 122 4 = tr) ∧ fp x g0 g1 := by
  intro m
  induction m with
  | zero =>
    intro k i l g hm hk hi hl w0 w1 w2 w4 w3 f
    obtain ⟨k, rfl⟩ : ∃ k1, k = k1 + 1 := ⟨k - 1, by omega⟩
    rw [zL_X11_growProbe_29_s]
    unfold zB_X11_growProbe_29
    rw [if_neg (by omega)]
    exact ⟨g, rfl, ⟨w0, w1, by rw [w3, show n.toNat = i by omega], w4⟩, f⟩
  | succ m ih =>
    intro k i l g hm hk hi hl w0 w1 w2 w4 w3 f
    obtain ⟨k, rfl⟩ : ∃ k1, k = k1 + 1 := ⟨k - 1, by omega⟩
    rw [zL_X11_growProbe_29_s]
    unfold zB_X11_growProbe_29
    simp only [zf_lq]
    rw [if_pos (by omega)]
    obtain ⟨p0, p1, p2, p4, p3, pf⟩ := step_A hld S v tt hd d0 d9 hi (by omega) w0 w1 w2 w4 w3 f
    generalize zF_X11_growBy x 122 l g = g6 at *
    exact ih k (i + 1) (l + 1) g6 (by omega) (by omega) (by omega) (by omega) p0 p1 p2 p4 p3 pf
theorem probe_A (hld : x.1 = 1 ∨ x.1 = 41) (S : sta x.1 gA gB) {t sd mt gn tr d s n : Int} (h0 : 0 ≤ t) (h6 : t < 6) (q0 : gA (87 + 3 + t.toNat) 0 = sd) (q1 : gA (87 + 3 + t.toNat) 1 = mt) (q3 : gA (87 + 3 + t.toNat) 3 = gn) (q4 : gA (87 + 3 + t.toNat) 4 = tr) (v : vt gB sd mt gn) (tt : tr = 0 ∨ tr = 1) (hd : gA 87 3 = d) (d0 : 0 ≤ d) (d9 : d ≤ 999) (n0 : 0 ≤ n) (n6 : n ≤ 60) : ∃ g1, zF_X11_growProbe x t s n gA = g1 ∧ (g1 122 0 = sd ∧ g1 122 1 = mt ∧ g1 122 3 = gnd gB tr sd mt s n.toNat gn d ∧ g1 122 4 = tr) ∧ fp x gA g1 := by
  unfold zF_X11_growProbe
  simp only [zf_lq]
  rw [get_A h0 h6]
  obtain ⟨r0, r1, r2, r3, r4, rf⟩ := asOf_A (g := gA) (q := 122) (r := 87 + 3 + t.toNat) (by omega)
  generalize zF_X8_becomeAs 122 (87 + 3 + t.toNat) gA = g2 at *
  have f3 : fp x gA (mz_up g2 122 2 s) := fun a b z _ _ => (up_k z).trans (rf a b (by omega))
  have z0 : mz_up g2 122 2 s 122 0 = sd := (up_j (by decide)).trans (r0.trans q0)
  have z1 : mz_up g2 122 2 s 122 1 = mt := (up_j (by decide)).trans (r1.trans q1)
  have z3 : mz_up g2 122 2 s 122 3 = gn := (up_j (by decide)).trans (r3.trans q3)
  have z4 : mz_up g2 122 2 s 122 4 = tr := (up_j (by decide)).trans (r4.trans q4)
  have z2 : mz_up g2 122 2 s 122 2 = s := mz_up_at ..
  generalize mz_up g2 122 2 s = g3 at *
  exact probe_l hld S v tt hd d0 d9 n6 n.toNat 3000000000 0 0 g3 (by omega) (by omega) rfl n0 z0 z1 z2 z4 z3 f3
theorem isAh_A {a : Int} : zF_X11_isAhead a g = if 0 ≤ a ∧ a ≤ 60 then 1 else 0 := by
  unfold zF_X11_isAhead zJ_X11_isAhead_14
  by_cases h : a < 0
  · rw [if_pos h, if_neg (by omega)]
  · rw [if_neg h]
    by_cases h2 : 60 < a
    · rw [if_pos h2, if_neg (by omega)]
    · rw [if_neg h2, if_pos (by omega)]
/-- the reference is put back, and has not failed -/
theorem rec_2 {q : Nat} (hq : q = 162 ∨ q = 169) : zF_X12_recall q 25 0 g 137 2 = g 137 2 := by
  obtain ⟨-, -, r3⟩ := recall_B (g := g) (q := q) (nq := 25) (p := 0) (by omega) (by decide)
  exact r3 137 2 (by omega) (by omega)
theorem go_2 (K : kr g) {n : Int} (n0 : 0 ≤ n) (n1 : n ≤ 2147483647) : zF_X12_goOn n g 137 2 = g 137 2 := by
  obtain ⟨p, c, e⟩ := K
  obtain ⟨-, -, f⟩ := goOn_B p c e n0 n1
  exact f 137 2 (by unfold fw_dy; omega)
theorem draw_ll (hx : mk_x x) (k0 : ru x gA b0) (K : kr b0) {a1 a2 : Int} (t0 : 0 ≤ a1) (t1 : a1 < b0 140 1) (n0 : 0 ≤ a2) (n6 : a2 ≤ 60) : ∀ (m k1 k2 : Nat) (l : Int) (g h : mz_G), (l + 1).toNat = m → m < k1 → m < k2 → l ≤ 9 → fp x gA g → qk 162 b0 h → sm5 b0 h → h 137 2 = 0 → ka (zL_X11_toDraw_18 x a1 a2 k1 l g) (zL_X12_toDraw_52 a1 a2 k2 (-1) l h) := by
  have hld : x.1 = 1 ∨ x.1 = 41 := by unfold mk_x at hx; omega
  obtain ⟨-, ⟨e0, e1, e2, e3, e4⟩, vv, ss, tt, t6⟩ := now_t k0 t0 t1
  have e87 : gA 87 3 = b0 137 30 := k0.2.2.2.1.1.2.1
  have dd : 0 ≤ b0 137 30 ∧ b0 137 30 ≤ 999 := k0.2.2.2.1.1.2.2.2.1
  intro m
  induction m with
  | zero =>
    intro k1 k2 l g h hm hk1 hk2 hl f q s c0
    obtain ⟨k1, rfl⟩ : ∃ k, k1 = k + 1 := ⟨k1 - 1, by omega⟩
    obtain ⟨k2, rfl⟩ : ∃ k, k2 = k + 1 := ⟨k2 - 1, by omega⟩
    rw [zL_X11_toDraw_18_s, zL_X12_toDraw_52_s]
    unfold zB_X11_toDraw_18 zB_X12_toDraw_52 zJ_X12_toDraw_101
    rw [if_pos (by omega), if_pos (by omega)]
    exact ka_0 c0 rfl
  | succ m ih =>
    intro k1 k2 l g h hm hk1 hk2 hl f q s c0
    obtain ⟨k1, rfl⟩ : ∃ k, k1 = k + 1 := ⟨k1 - 1, by omega⟩
    obtain ⟨k2, rfl⟩ : ∃ k, k2 = k + 1 := ⟨k2 - 1, by omega⟩
    rw [zL_X11_toDraw_18_s, zL_X12_toDraw_52_s]
    unfold zB_X11_toDraw_18 zB_X12_toDraw_52 zJ_X12_toDraw_101 zJ_X12_toDraw_86
    simp only [zf_lq]
    have hl0 : ¬ l < 0 := by omega
    rw [if_neg hl0, if_neg hl0, if_pos trivial]
    have ft : ∀ b : Nat, g (87 + 3 + a1.toNat) b = gA (87 + 3 + a1.toNat) b := fun b => f _ b (by omega) (by omega) (by omega)
    obtain ⟨g7, eg, ⟨w0, w1, w3, w4⟩, wf⟩ := probe_A (s := l) hld (fp_S hld k0.2.1 f) t0 t6 ((ft 0).trans e0) ((ft 1).trans e1) ((ft 3).trans e3) ((ft 4).trans e4) vv tt ((f 87 3 (by decide) (by omega) (by omega)).trans e87) dd.1 dd.2 n0 n6
    rw [eg]
    have fg := fp_t f wf
    have W7 : sa_w x.1 g7 b0 := (fp_S hld k0.2.1 fg).1
    have q1 : qk 162 b0 (mz_up h 155 a1.toNat l) := qk_fr (fun a b z => up_k (by omega)) q
    have s1 : ∀ a b : Nat, a ≠ 155 → mz_up h 155 a1.toNat l a b = h a b := fun a b z => up_k z
    have s2 : mz_up h 155 a1.toNat l 155 a1.toNat = l := mz_up_at ..
    generalize mz_up h 155 a1.toNat l = h1 at *
    have K1 := kr_e q1.1 K
    obtain ⟨gg, -, gf⟩ := goOn_B K1.1 K1.2.1 K1.2.2 n0 (by omega)
    have q2 := qk_go K (Or.inl rfl) n0 (by omega) q1
    have c2 : zF_X12_goOn a2 h1 137 2 = 0 := (go_2 K1 n0 (by omega)).trans ((s1 _ _ (by decide)).trans c0)
    have n1 : h1 140 1 = b0 140 1 := q1.1 140 1 (by decide) (by decide)
    have g2 := gg a1.toNat (by omega)
    obtain ⟨m2, m3, m4, m5⟩ := s.2 a1.toNat (by omega)
    rw [gnd_c q1.1, q1.1 144 _ (by decide) (by decide), s1 153 _ (by decide), s1 154 _ (by decide), s1 152 _ (by decide), s1 137 _ (by decide), s2, m2, m3, m4, s.1] at g2
    have b3 : zF_X12_goOn a2 h1 153 a1.toNat = b0 153 a1.toNat := (gf _ _ (by unfold fw_dy; omega)).trans ((s1 _ _ (by decide)).trans m3)
    have b4 : zF_X12_goOn a2 h1 154 a1.toNat = b0 154 a1.toNat := (gf _ _ (by unfold fw_dy; omega)).trans ((s1 _ _ (by decide)).trans m4)
    generalize zF_X12_goOn a2 h1 = h2 at *
    obtain ⟨v0, v1, v2, v3, -, -⟩ := vv
    rw [isFull_A W7 (by rw [w0]; exact v0) (by rw [w0]; exact v1) (by rw [w1]; exact v2) (by rw [w1]; exact v3), isFull_B, w0, w1, w3, g2, b3, b4, fu_c q2.1]
    obtain ⟨R1, R2⟩ := qk_rec (Or.inl rfl) q2
    have R3 : zF_X12_recall 162 25 0 h2 137 2 = 0 := (rec_2 (Or.inl rfl)).trans c2
    generalize zF_X12_recall 162 25 0 h2 = h3 at *
    by_cases hf : gnd b0 (b0 144 a1.toNat) (b0 153 a1.toNat) (b0 154 a1.toNat) l a2.toNat (b0 152 a1.toNat) (b0 137 30) = fu b0 (b0 153 a1.toNat) (b0 154 a1.toNat)
    · rw [if_pos hf, i10, i10]
      obtain ⟨k2, rfl⟩ : ∃ k, k2 = k + 1 := ⟨k2 - 1, by omega⟩
      rw [zL_X12_toDraw_52_s]
      unfold zB_X12_toDraw_52 zJ_X12_toDraw_101
      by_cases hl1 : l + -1 < 0
      · rw [if_pos hl1]
        exact ka_0 R3 rfl
      · rw [if_neg hl1, if_neg (by omega)]
        exact ka_0 R3 rfl
    · rw [if_neg hf, i00, i00]
      exact ih k1 k2 (l + -1) g7 h3 (by omega) (by omega) (by omega) (by omega) fg R2 R1 R3
theorem toDraw_a (hx : mk_x x) (K : kr gB) (k : ru x gA gB) {a1 a2 : Int} : ka (zF_X11_toDraw x a1 a2 gA) (zF_X12_toDraw a1 a2 gB) := by
  have k1 := ru_2 (v := 0) k
  have K1 : kr (mz_up gB 137 2 0) := kr_e (g0 := gB) (fun a b u v => up_k (by omega)) K
  unfold zF_X11_toDraw zF_X12_toDraw
  simp only [zf_lq]
  rw [isT_A, isT_B, isI_B]
  generalize hb : mz_up gB 137 2 0 = b1 at *
  have c0 : b1 137 2 = 0 := by rw [← hb, mz_up_at]
  clear k hb
  have n2 : gA 87 2 = b1 140 1 := k1.2.2.2.1.1.1
  rw [n2]
  by_cases ht : 0 ≤ a1 ∧ a1 < b1 140 1
  · rw [if_pos ht, mb_1, i10, isAh_A]
    by_cases h2 : 0 ≤ a2 ∧ a2 ≤ 60
    · rw [if_pos h2, mf_1, i10]
      have S2 : zF_X12_store 162 25 0 b1 137 2 = 0 := by
        obtain ⟨-, -, s3⟩ := store_B (g := b1) (q := 162) (nq := 25) (p := 0) (by omega) (by decide)
        rw [s3 137 2 (by omega)]
        exact c0
      exact draw_ll hx k1 K1 ht.1 ht.2 h2.1 h2.2 (9 + 1 : Int).toNat 3000000000 3000000000 9 gA _ rfl (by decide) (by decide) (by decide) (fun _ _ _ _ _ => rfl) (qk_sto (Or.inl rfl)) (sto_s (Or.inl rfl)) S2
    · rw [if_neg h2, mf_0, i00]
      exact ka_fail (c := 2) rfl (by decide)
  · rw [if_neg ht, mb_0, i00]
    exact ka_fail (c := 1) rfl (by decide)
theorem full_ll (hx : mk_x x) (k0 : ru x gA b0) (K : kr b0) {a1 : Int} (t0 : 0 ≤ a1) (t1 : a1 < b0 140 1) : ∀ (m k1 k2 i : Nat) (l : Int) (g h : mz_G), (61 - l).toNat = m → m < k1 → m < k2 → (i : Int) = l → fp x gA g → g 122 0 = b0 153 a1.toNat → g 122 1 = b0 154 a1.toNat → g 122 2 = b0 155 a1.toNat → g 122 4 = b0 144 a1.toNat → g 122 3 = gnd b0 (b0 144 a1.toNat) (b0 153 a1.toNat) (b0 154 a1.toNat) (b0 155 a1.toNat) i (b0 152 a1.toNat) (b0 137 30) → qk 162 b0 h → h 137 2 = 0 → h 137 30 = b0 137 30 + l → h 153 a1.toNat = b0 153 a1.toNat → h 154 a1.toNat = b0 154 a1.toNat → h 155 a1.toNat = b0 155 a1.toNat → h 152 a1.toNat = gnd b0 (b0 144 a1.toNat) (b0 153 a1.toNat) (b0 154 a1.toNat) (b0 155 a1.toNat) i (b0 152 a1.toNat) (b0 137 30) → ka (zL_X11_full_28 x a1 k1 l g) (zL_X12_full_32 a1 k2 (-1) l h) := by
  have hld : x.1 = 1 ∨ x.1 = 41 := by unfold mk_x at hx; omega
  obtain ⟨-, -, vv, ss, tt, t6⟩ := now_t k0 t0 t1
  have e87 : gA 87 3 = b0 137 30 := k0.2.2.2.1.1.2.1
  have dd : 0 ≤ b0 137 30 ∧ b0 137 30 ≤ 999 := k0.2.2.2.1.1.2.2.2.1
  intro m
  induction m with
  | zero =>
    intro k1 k2 i l g h hm hk1 hk2 hi f w0 w1 w2 w4 w3 q c0 d0 h3 h4 h5 h2
    obtain ⟨k1, rfl⟩ : ∃ k, k1 = k + 1 := ⟨k1 - 1, by omega⟩
    obtain ⟨k2, rfl⟩ : ∃ k, k2 = k + 1 := ⟨k2 - 1, by omega⟩
    rw [zL_X11_full_28_s, zL_X12_full_32_s]
    unfold zB_X11_full_28 zB_X12_full_32 zJ_X12_full_64
    simp only [zf_lq]
    rw [if_pos (by omega), if_pos (by omega)]
    exact ka_0 ((rec_2 (Or.inl rfl)).trans c0) rfl
  | succ m ih =>
    intro k1 k2 i l g h hm hk1 hk2 hi f w0 w1 w2 w4 w3 q c0 d0 h3 h4 h5 h2
    obtain ⟨k1, rfl⟩ : ∃ k, k1 = k + 1 := ⟨k1 - 1, by omega⟩
    obtain ⟨k2, rfl⟩ : ∃ k, k2 = k + 1 := ⟨k2 - 1, by omega⟩
    rw [zL_X11_full_28_s, zL_X12_full_32_s]
    unfold zB_X11_full_28 zB_X12_full_32 zJ_X12_full_64 zJ_X12_full_53
    simp only [zf_lq]
    have hl0 : ¬ 60 < l := by omega
    rw [if_neg hl0, if_neg hl0, if_pos trivial]
    have W := (fp_S hld k0.2.1 f).1
    obtain ⟨v0, v1, v2, v3, -, -⟩ := id vv
    rw [isFull_A W (by rw [w0]; exact v0) (by rw [w0]; exact v1) (by rw [w1]; exact v2) (by rw [w1]; exact v3), isFull_B, w0, w1, w3, h2, h3, h4, fu_c q.1]
    have K1 := kr_e q.1 K
    obtain ⟨gg, gd, gf⟩ := goOn_B K1.1 K1.2.1 K1.2.2 (n := 1) (by decide) (by decide)
    have q2 := qk_go K (Or.inl rfl) (n := 1) (by decide) (by decide) q
    have c2 : zF_X12_goOn 1 h 137 2 = 0 := (go_2 K1 (by decide) (by decide)).trans c0
    have n1 : h 140 1 = b0 140 1 := q.1 140 1 (by decide) (by decide)
    have g2 := gg a1.toNat (by omega)
    rw [gnd_c q.1, q.1 144 _ (by decide) (by decide), h3, h4, h5, h2, d0, show (1 : Int).toNat = 0 + 1 from rfl, gnd_s, show ∀ a b : Int, gnd b0 (b0 144 a1.toNat) (b0 153 a1.toNat) (b0 154 a1.toNat) (b0 155 a1.toNat) 0 a b = a from fun _ _ => rfl, ← hi, ← gnd_e] at g2
    have b3 := (gf 153 a1.toNat (by unfold fw_dy; omega)).trans h3
    have b4 := (gf 154 a1.toNat (by unfold fw_dy; omega)).trans h4
    have b5 := (gf 155 a1.toNat (by unfold fw_dy; omega)).trans h5
    generalize zF_X12_goOn 1 h = hh at *
    by_cases hf : gnd b0 (b0 144 a1.toNat) (b0 153 a1.toNat) (b0 154 a1.toNat) (b0 155 a1.toNat) i (b0 152 a1.toNat) (b0 137 30) = fu b0 (b0 153 a1.toNat) (b0 154 a1.toNat)
    · rw [if_pos hf, i10, i10]
      obtain ⟨k2, rfl⟩ : ∃ k, k2 = k + 1 := ⟨k2 - 1, by omega⟩
      rw [zL_X12_full_32_s]
      unfold zB_X12_full_32 zJ_X12_full_64
      simp only [zf_lq]
      by_cases hl1 : 60 < l + 1
      · rw [if_pos hl1]
        exact ka_0 ((rec_2 (Or.inl rfl)).trans c2) rfl
      · rw [if_neg hl1, if_neg (by omega)]
        exact ka_0 ((rec_2 (Or.inl rfl)).trans c2) rfl
    · rw [if_neg hf, i00, i00]
      obtain ⟨p0, p1, p2, p4, p3, pf⟩ := step_A hld k0.2.1 vv tt e87 dd.1 dd.2 hi (by omega) w0 w1 w2 w4 w3 f
      generalize zF_X11_growBy x 122 l g = g6 at *
      exact ih k1 k2 (i + 1) (l + 1) g6 hh (by omega) (by omega) (by omega) (by omega) pf p0 p1 p2 p4 p3 q2 c2 (by rw [gd, d0]; omega) b3 b4 b5 g2
theorem full_a (hx : mk_x x) (K : kr gB) (k : ru x gA gB) {a1 : Int} : ka (zF_X11_full x a1 gA) (zF_X12_full a1 gB) := by
  have k1 := ru_2 (v := 0) k
  have K1 : kr (mz_up gB 137 2 0) := kr_e (g0 := gB) (fun a b u v => up_k (by omega)) K
  unfold zF_X11_full zF_X12_full
  simp only [zf_lq]
  rw [isT_A, isT_B]
  generalize hb : mz_up gB 137 2 0 = b1 at *
  have c0 : b1 137 2 = 0 := by rw [← hb, mz_up_at]
  clear k hb
  have n2 : gA 87 2 = b1 140 1 := k1.2.2.2.1.1.1
  rw [n2]
  by_cases ht : 0 ≤ a1 ∧ a1 < b1 140 1
  · obtain ⟨-, ⟨e0, e1, e2, e3, e4⟩, vv, ss, tt, t6⟩ := now_t k1 ht.1 ht.2
    rw [if_pos ht, mb_1, i10, get_A ht.1 t6]
    obtain ⟨r0, r1, r2, r3, r4, rf⟩ := asOf_A (g := gA) (q := 122) (r := 87 + 3 + a1.toNat) (by omega)
    generalize zF_X8_becomeAs 122 (87 + 3 + a1.toNat) gA = g2 at *
    obtain ⟨s1, s2, s3⟩ := store_B (g := b1) (q := 162) (nq := 25) (p := 0) (by omega) (by decide)
    have q := qk_sto (q := 162) (g := b1) (Or.inl rfl)
    have o : ∀ a b : Nat, a ≠ 162 → zF_X12_store 162 25 0 b1 a b = b1 a b := fun a b z => s3 a b (fun y => z y.1)
    generalize zF_X12_store 162 25 0 b1 = h at *
    exact full_ll hx k1 K1 ht.1 ht.2 (61 - 0 : Int).toNat 3000000000 3000000000 0 0 g2 h rfl (by decide) (by decide) rfl (fun a b z _ _ => rf a b (by omega)) (r0.trans e0) (r1.trans e1) (r2.trans e2) (r4.trans e4) (r3.trans e3) q ((o _ _ (by decide)).trans c0) (by rw [o _ _ (by decide)]; omega) (o _ _ (by decide)) (o _ _ (by decide)) (o _ _ (by decide)) (o _ _ (by decide))
  · rw [if_neg ht, mb_0, i00]
    exact ka_fail (c := 1) rfl (by decide)
end WA
