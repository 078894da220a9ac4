/-! ANSWERS (3): how a trunk reads, of both; blend -/
/-- a trunk's letters -/
def bc (g : mz_G) (sd mt gn : Int) (i : Nat) : Int := if (i : Int) < g 142 sd.toNat - (gn + 1) / 2 then g 141 (8 * sd + i).toNat else g 141 (8 * mt + (gn / 2 + ((i : Int) - (g 142 sd.toNat - (gn + 1) / 2)))).toNat
def bt (q n : Nat) (B : Nat → Int) (g0 g : mz_G) : Prop := g q 1 = (n : Int) ∧ (∀ i : Nat, i < n → g (q + 1) i = B i) ∧ ∀ a b : Nat, ¬ (a = q ∧ b = 1) → a ≠ q + 1 → g a b = g0 a b
section WC
variable {x : mm_X} {g g0 g1 gA gB b0 : mz_G} {ld q n : Nat} {B : Nat → Int}
theorem div_p {a b : Int} (ha : mz_inR a) (hb : mz_inR b) (h0 : 0 ≤ a) (h1 : 0 < b) : mz_divI a b = a / b := by
  have := zf_divp (f := fun v : Int => v) (rfl : a / b = a / b) ha hb h0 h1
  rw [zf_lq] at this
  exact this
theorem bn_c (h : su_e b0 g) {sd mt gn : Int} : bn g sd mt gn = bn b0 sd mt gn := by
  unfold bn
  rw [h 142 _ (by decide) (by decide), h 142 _ (by decide) (by decide)]
theorem bc_c (h : su_e b0 g) {sd mt gn : Int} {i : Nat} : bc g sd mt gn i = bc b0 sd mt gn i := by
  unfold bc
  rw [h 142 _ (by decide) (by decide), h 141 _ (by decide) (by decide), h 141 _ (by decide) (by decide)]
theorem bt_0 (q : Nat) (B : Nat → Int) (g0 : mz_G) : bt q 0 B g0 (mz_up g0 q 1 0) := ⟨mz_up_at .., fun i hi => absurd hi (Nat.not_lt_zero _), fun a b z _ => mz_up_ne z⟩
theorem bt_s (z16 : zf_ln q = 16) (h : bt q n B g0 g) (hn : n < 16) {v : Int} (e : v = B n) : bt q (n + 1) B g0 (zF_X0_addLetter q v g) := by
  obtain ⟨h1, h2, h3⟩ := h
  rw [X0_addLetter (by omega) (by rw [z16]; omega), h1]
  refine ⟨(mz_up_at ..).trans (by omega), fun i hi => ?_, fun a b y w => (mz_up_ne y).trans ((up_k w).trans (h3 a b y w))⟩
  rw [up_k (by omega)]
  by_cases z : i = n
  · rw [z, e, show ((n : Nat) : Int).toNat = n by omega, mz_up_at]
  · rw [up_j (by omega)]
    exact h2 i (by omega)
theorem sign_q (hld : ld = 1 ∨ ld = 41) (W : sa_w ld gA gB) {w j : Int} (h0 : 0 ≤ w) (h1 : w < gB 140 0) (j0 : 0 ≤ j) (j1 : j < gB 142 w.toNat) : zF_X0_signAt (ld + 10 + 2 * w.toNat) j gA = gB 141 (8 * w + j).toNat := by
  have l8 := W.2.2.1
  have := sign_w hld W h0 h1 j0 j1
  rw [of_w h0 (by omega)] at this
  exact this
theorem bt_S (hld : ld = 1 ∨ ld = 41) (hq : 115 < q) (S : sta ld g0 gB) (h : bt q n B g0 g) : sta ld g gB := sta_A S (fun a b u v => h.2.2 a b (by omega) (by omega))
theorem bl_2 (hld : ld = 1 ∨ ld = 41) (hq : 115 < q) (z16 : zf_ln q = 16) (S : sta ld g0 gB) {q1 : Nat} {sd mt gn : Int} (v : vt gB sd mt gn) : ∀ (m k n : Nat) (l6 : Int) (g : mz_G), (gB 142 mt.toNat - l6).toNat = m → m < k → gn / 2 ≤ l6 → l6 ≤ gB 142 mt.toNat → (n : Int) = gB 142 sd.toNat - (gn + 1) / 2 + (l6 - gn / 2) → bt q n (bc gB sd mt gn) g0 g → ∃ n1 : Nat, (n1 : Int) = bn gB sd mt gn ∧ bt q n1 (bc gB sd mt gn) g0 (zL_X1_blendInto_78 ld q1 q k (ld + 10 + 2 * mt.toNat) l6 g) := by
  obtain ⟨a0, a1, c0, c1, d0, d1⟩ := id v
  have u := sa_len S.1 a0 a1
  have w := sa_len S.1 c0 c1
  have dd := d1
  unfold fu at dd
  intro m
  induction m with
  | zero =>
    intro k n l6 g hm hk h0 h1 hn t
    obtain ⟨k, rfl⟩ : ∃ k1, k = k1 + 1 := ⟨k - 1, by omega⟩
    rw [zL_X1_blendInto_78_s]
    unfold zB_X1_blendInto_78
    simp only [zf_lq]
    have St := bt_S hld hq S t
    rw [len_q, (sa_len St.1 c0 c1).1, if_neg (by omega)]
    exact ⟨n, by unfold bn; omega, t⟩
  | succ m ih =>
    intro k n l6 g hm hk h0 h1 hn t
    obtain ⟨k, rfl⟩ : ∃ k1, k = k1 + 1 := ⟨k - 1, by omega⟩
    rw [zL_X1_blendInto_78_s]
    unfold zB_X1_blendInto_78
    simp only [zf_lq]
    have St := bt_S hld hq S t
    rw [len_q, (sa_len St.1 c0 c1).1, if_pos (by omega), sign_q hld St.1 c0 c1 (by omega) (by omega)]
    refine ih k (n + 1) (l6 + 1) _ (by omega) (by omega) (by omega) (by omega) (by omega) (bt_s z16 t (by omega) ?_)
    unfold bc
    rw [if_neg (by omega)]
    congr 2
    omega
theorem bl_1 (hld : ld = 1 ∨ ld = 41) (hq : 115 < q) (z16 : zf_ln q = 16) (S : sta ld g0 gB) {q1 : Nat} (hq1 : q1 ≠ q ∧ q1 ≠ q + 1) {sd mt gn : Int} (e3 : g0 q1 3 = gn) (v : vt gB sd mt gn) : ∀ (m k n : Nat) (l6 : Int) (g : mz_G), (gB 142 sd.toNat - (gn + 1) / 2 - l6).toNat = m → m < k → 0 ≤ l6 → l6 ≤ gB 142 sd.toNat - (gn + 1) / 2 → (n : Int) = l6 → bt q n (bc gB sd mt gn) g0 g → ∃ n1 : Nat, (n1 : Int) = bn gB sd mt gn ∧ bt q n1 (bc gB sd mt gn) g0 (zL_X1_blendInto_47 ld q1 q k (ld + 10 + 2 * sd.toNat) (ld + 10 + 2 * mt.toNat) (gB 142 sd.toNat - (gn + 1) / 2) l6 g) := by
  obtain ⟨a0, a1, c0, c1, d0, d1⟩ := id v
  have u := sa_len S.1 a0 a1
  have w := sa_len S.1 c0 c1
  have dd := d1
  unfold fu at dd
  intro m
  induction m with
  | zero =>
    intro k n l6 g hm hk h0 h1 hn t
    obtain ⟨k, rfl⟩ : ∃ k1, k = k1 + 1 := ⟨k - 1, by omega⟩
    rw [zL_X1_blendInto_47_s]
    unfold zB_X1_blendInto_47
    simp only [zf_lq]
    have eg : g q1 3 = gn := (t.2.2 q1 3 (fun y => hq1.1 y.1) hq1.2).trans e3
    rw [if_neg (by omega), eg, div_p ⟨by omega, by omega⟩ ⟨by decide, by decide⟩ (by omega) (by decide)]
    exact bl_2 hld hq z16 S v (gB 142 mt.toNat - gn / 2).toNat 3000000000 n (gn / 2) g rfl (by omega) (by omega) (by omega) (by omega) t
  | succ m ih =>
    intro k n l6 g hm hk h0 h1 hn t
    obtain ⟨k, rfl⟩ : ∃ k1, k = k1 + 1 := ⟨k - 1, by omega⟩
    rw [zL_X1_blendInto_47_s]
    unfold zB_X1_blendInto_47
    simp only [zf_lq]
    have St := bt_S hld hq S t
    rw [if_pos (by omega), sign_q hld St.1 a0 a1 h0 (by omega)]
    refine ih k (n + 1) (l6 + 1) _ (by omega) (by omega) (by omega) (by omega) (by omega) (bt_s z16 t (by omega) ?_)
    unfold bc
    rw [if_pos (by omega), hn]
/-- the class's text of a trunk -/
theorem blend_A (hld : ld = 1 ∨ ld = 41) (hq : 115 < q) (z16 : zf_ln q = 16) (S : sta ld g0 gB) {q1 : Nat} (hq1 : q1 ≠ q ∧ q1 ≠ q + 1) {sd mt gn : Int} (e0 : g0 q1 0 = sd) (e1 : g0 q1 1 = mt) (e3 : g0 q1 3 = gn) (v : vt gB sd mt gn) : ∃ n1 : Nat, (n1 : Int) = bn gB sd mt gn ∧ bt q n1 (bc gB sd mt gn) g0 (zF_X1_blendInto ld q1 q g0) := by
  obtain ⟨a0, a1, c0, c1, d0, d1⟩ := id v
  have u := sa_len S.1 a0 a1
  have w := sa_len S.1 c0 c1
  have l8 := S.1.2.2.1
  have dd := d1
  unfold fu at dd
  unfold zF_X1_blendInto zF_X0_empty
  simp only [zf_lq]
  rw [e0, e1, e3, of_w a0 (by omega), of_w c0 (by omega), len_q, u.1, mz_wrap_id (a := gn + 1) ⟨by omega, by omega⟩, div_p ⟨by omega, by omega⟩ ⟨by decide, by decide⟩ (by omega) (by decide), mz_wrap_id ⟨by omega, by omega⟩]
  exact bl_1 hld hq z16 S hq1 e3 v (gB 142 sd.toNat - (gn + 1) / 2 - 0).toNat 3000000000 0 0 _ rfl (by omega) (by decide) (by omega) rfl (bt_0 q _ g0)
/-- the reference's -/
theorem br_2 {q1 nq : Nat} (hq : 155 < q1) {t sd mt gn : Int} (W : sa_w ld gA b0) (v : vt b0 sd mt gn) (e0 : b0 153 t.toNat = sd) (e1 : b0 154 t.toNat = mt) (e3 : b0 152 t.toNat = gn) : ∀ (m k n : Nat) (l3 l4 : Int) (g : mz_G), (b0 142 mt.toNat - l4).toNat = m → m < k → gn / 2 ≤ l4 → l4 ≤ b0 142 mt.toNat → (n : Int) = l3 → l3 = b0 142 sd.toNat - (gn + 1) / 2 + (l4 - gn / 2) → (∀ i : Nat, i < n → g q1 i = bc b0 sd mt gn i) → (∀ a b : Nat, a ≠ q1 → g a b = b0 a b) → ∃ g1, zL_X12_blendInto_66 q1 nq t k l3 l4 g = (bn b0 sd mt gn, g1) ∧ (∀ i : Nat, (i : Int) < bn b0 sd mt gn → g1 q1 i = bc b0 sd mt gn i) ∧ ∀ a b : Nat, a ≠ q1 → g1 a b = b0 a b := by
  obtain ⟨a0, a1, c0, c1, d0, d1⟩ := id v
  have u := sa_len W a0 a1
  have w := sa_len W c0 c1
  have dd := d1
  unfold fu at dd
  intro m
  induction m with
  | zero =>
    intro k n l3 l4 g hm hk h0 h1 hn h3 t f
    obtain ⟨k, rfl⟩ : ∃ k1, k = k1 + 1 := ⟨k - 1, by omega⟩
    rw [zL_X12_blendInto_66_s]
    unfold zB_X12_blendInto_66
    simp only [zf_lq]
    rw [f 154 _ (by omega), e1, f 142 _ (by omega), if_neg (by omega)]
    have e : l3 = bn b0 sd mt gn := by unfold bn; omega
    exact ⟨g, by rw [e], fun i hi => t i (by omega), f⟩
  | succ m ih =>
    intro k n l3 l4 g hm hk h0 h1 hn h3 t f
    obtain ⟨k, rfl⟩ : ∃ k1, k = k1 + 1 := ⟨k - 1, by omega⟩
    rw [zL_X12_blendInto_66_s]
    unfold zB_X12_blendInto_66 zF_X12_letterOf
    simp only [zf_lq]
    rw [f 154 _ (by omega), e1, f 142 _ (by omega), if_pos (by omega), f 141 _ (by omega)]
    refine ih k (n + 1) (l3 + 1) (l4 + 1) _ (by omega) (by omega) (by omega) (by omega) (by omega) (by omega) (fun i hi => ?_) (fun a b z => (up_k z).trans (f a b z))
    by_cases z : i = n
    · rw [z, show l3.toNat = n by omega, mz_up_at]
      unfold bc
      rw [if_neg (by omega)]
      congr 2
      omega
    · rw [up_j (by omega)]
      exact t i (by omega)
theorem br_1 {q1 nq : Nat} (hq : 155 < q1) {t sd mt gn : Int} (W : sa_w ld gA b0) (v : vt b0 sd mt gn) (e0 : b0 153 t.toNat = sd) (e1 : b0 154 t.toNat = mt) (e3 : b0 152 t.toNat = gn) : ∀ (m k n : Nat) (l3 l4 : Int) (g : mz_G), (b0 142 sd.toNat - (gn + 1) / 2 - l4).toNat = m → m < k → 0 ≤ l4 → l4 ≤ b0 142 sd.toNat - (gn + 1) / 2 → (n : Int) = l3 → l3 = l4 → (∀ i : Nat, i < n → g q1 i = bc b0 sd mt gn i) → (∀ a b : Nat, a ≠ q1 → g a b = b0 a b) → ∃ g1, zL_X12_blendInto_5 q1 nq t k l3 l4 g = (bn b0 sd mt gn, g1) ∧ (∀ i : Nat, (i : Int) < bn b0 sd mt gn → g1 q1 i = bc b0 sd mt gn i) ∧ ∀ a b : Nat, a ≠ q1 → g1 a b = b0 a b := by
  obtain ⟨a0, a1, c0, c1, d0, d1⟩ := id v
  have u := sa_len W a0 a1
  have w := sa_len W c0 c1
  have dd := d1
  unfold fu at dd
  intro m
  induction m with
  | zero =>
    intro k n l3 l4 g hm hk h0 h1 hn h3 tt f
    obtain ⟨k, rfl⟩ : ∃ k1, k = k1 + 1 := ⟨k - 1, by omega⟩
    rw [zL_X12_blendInto_5_s]
    unfold zB_X12_blendInto_5
    simp only [zf_lq]
    rw [f 153 _ (by omega), e0, f 142 _ (by omega), f 152 _ (by omega), e3, if_neg (by omega)]
    exact br_2 hq W v e0 e1 e3 (b0 142 mt.toNat - gn / 2).toNat 3000000000 n l3 (gn / 2) g rfl (by omega) (by omega) (by omega) hn (by omega) tt f
  | succ m ih =>
    intro k n l3 l4 g hm hk h0 h1 hn h3 tt f
    obtain ⟨k, rfl⟩ : ∃ k1, k = k1 + 1 := ⟨k - 1, by omega⟩
    rw [zL_X12_blendInto_5_s]
    unfold zB_X12_blendInto_5 zF_X12_letterOf
    simp only [zf_lq]
    rw [f 153 _ (by omega), e0, f 142 _ (by omega), f 152 _ (by omega), e3, if_pos (by omega), f 141 _ (by omega)]
    refine ih k (n + 1) (l3 + 1) (l4 + 1) _ (by omega) (by omega) (by omega) (by omega) (by omega) (by omega) (fun i hi => ?_) (fun a b z => (up_k z).trans (f a b z))
    by_cases z : i = n
    · rw [z, show l3.toNat = n by omega, mz_up_at]
      unfold bc
      rw [if_pos (by omega)]
      congr 2
      omega
    · rw [up_j (by omega)]
      exact tt i (by omega)
theorem blend_B {q1 nq : Nat} (hq : 155 < q1) {t sd mt gn : Int} (W : sa_w ld gA b0) (v : vt b0 sd mt gn) (e0 : b0 153 t.toNat = sd) (e1 : b0 154 t.toNat = mt) (e3 : b0 152 t.toNat = gn) : ∃ g1, zF_X12_blendInto q1 nq t b0 = (bn b0 sd mt gn, g1) ∧ (∀ i : Nat, (i : Int) < bn b0 sd mt gn → g1 q1 i = bc b0 sd mt gn i) ∧ ∀ a b : Nat, a ≠ q1 → g1 a b = b0 a b := by
  obtain ⟨a0, a1, c0, c1, d0, d1⟩ := id v
  have u := sa_len W a0 a1
  have dd := d1
  unfold fu at dd
  unfold zF_X12_blendInto
  exact br_1 hq W v e0 e1 e3 (b0 142 sd.toNat - (gn + 1) / 2 - 0).toNat 3000000000 0 0 0 b0 rfl (by omega) (by decide) (by omega) rfl rfl (fun i hi => absurd hi (Nat.not_lt_zero _)) (fun _ _ _ => rfl)
theorem vt_of (h : su_e b0 g) {a b c : Int} (v : vt b0 a b c) : vt g a b c := (vt_c h).mpr v
theorem blend_a (hx : mk_x x) (K : kr gB) (k : ru x gA gB) {a1 a2 a3 : Int} : ka (zF_X11_blend x a1 a2 a3 gA) (zF_X12_blend a1 a2 a3 gB) := by
  have hld : x.1 = 1 ∨ x.1 = 41 := by unfold mk_x at hx; omega
  have k1 := ru_2 (v := 0) k
  have K1 : kr (mz_up gB 137 2 0) := kr_e (g0 := gB) (fun a b u v => up_k (by omega)) K
  unfold zF_X11_blend zF_X12_blend zJ_X11_blend_76
  simp only [zf_lq]
  rw [isT_A, isT_B, isI_B]
  generalize hb : mz_up gB 137 2 0 = b1 at *
  have c0 : b1 137 2 = 0 := by rw [← hb, mz_up_at]
  clear k hb
  have n2 : gA 87 2 = b1 140 1 := k1.2.2.2.1.1.1
  rw [n2]
  by_cases ht : 0 ≤ a1 ∧ a1 < b1 140 1
  · obtain ⟨-, ⟨e0, e1, e2, e3, e4⟩, vv, ss, tt, t6⟩ := now_t k1 ht.1 ht.2
    have e87 : gA 87 3 = b1 137 30 := k1.2.2.2.1.1.2.1
    have dd : 0 ≤ b1 137 30 ∧ b1 137 30 ≤ 999 := k1.2.2.2.1.1.2.2.2.1
    rw [if_pos ht, mb_1, i10, isAh_A]
    by_cases h3 : 0 ≤ a3 ∧ a3 ≤ 60
    · rw [if_pos h3, mf_1, i10, get_A ht.1 t6, e2]
      obtain ⟨g7, eg, ⟨w0, w1, w3, w4⟩, wf⟩ := probe_A (s := b1 155 a1.toNat) hld k1.2.1 ht.1 t6 e0 e1 e3 e4 vv tt e87 dd.1 dd.2 h3.1 h3.2
      rw [eg]
      have vg : vt b1 (b1 153 a1.toNat) (b1 154 a1.toNat) (ga b1 a3.toNat a1.toNat) := (gnd_b tt a3.toNat _ (b1 137 30) vv (sp := b1 155 a1.toNat)).1
      have w3' : g7 122 3 = ga b1 a3.toNat a1.toNat := w3
      have S7 := fp_S hld k1.2.1 wf
      obtain ⟨n1, en, t⟩ := blend_A hld (q := 133) (by decide) rfl S7 (q1 := 122) ⟨by decide, by decide⟩ w0 w1 w3' vg
      generalize zF_X1_blendInto x.1 122 133 g7 = g8 at *
      have nb := bn_b S7.1 vg
      obtain ⟨s1, s2, s3⟩ := store_B (g := b1) (q := 162) (nq := 25) (p := 0) (by omega) (by decide)
      have q := qk_sto (q := 162) (g := b1) (Or.inl rfl)
      have o : ∀ a b : Nat, a ≠ 162 → zF_X12_store 162 25 0 b1 a b = b1 a b := fun a b z => s3 a b (fun y => z y.1)
      generalize zF_X12_store 162 25 0 b1 = h0 at *
      have Kh := kr_e q.1 K1
      obtain ⟨gg, gd, gf⟩ := goOn_B Kh.1 Kh.2.1 Kh.2.2 h3.1 (by omega)
      have q2 := qk_go K1 (Or.inl rfl) h3.1 (by omega) q
      have c2 : zF_X12_goOn a3 h0 137 2 = 0 := (go_2 Kh h3.1 (by omega)).trans ((o _ _ (by decide)).trans c0)
      have H0 : zF_X12_goOn a3 h0 152 a1.toNat = ga b1 a3.toNat a1.toNat := by
        rw [gg a1.toNat (by rw [o _ _ (by decide)]; omega), gnd_c q.1, o _ _ (by decide), o _ _ (by decide), o _ _ (by decide), o _ _ (by decide), o _ _ (by decide), o _ _ (by decide)]
        rfl
      have H1 : zF_X12_goOn a3 h0 153 a1.toNat = b1 153 a1.toNat := (gf _ _ (by unfold fw_dy; omega)).trans (o _ _ (by decide))
      have H2 : zF_X12_goOn a3 h0 154 a1.toNat = b1 154 a1.toNat := (gf _ _ (by unfold fw_dy; omega)).trans (o _ _ (by decide))
      generalize zF_X12_goOn a3 h0 = h at *
      obtain ⟨g1, e, tb, f1⟩ := blend_B (q1 := 157) (nq := 16) (by decide) (sta_B k1.2.1 q2.1).1 (vt_of q2.1 vg) H1 H2 H0
      rw [e]
      unfold zf_m2
      dsimp only
      rw [bn_c q2.1] at tb ⊢
      obtain ⟨N, hN⟩ : ∃ N, bn b1 (b1 153 a1.toNat) (b1 154 a1.toNat) (ga b1 a3.toNat a1.toNat) = N := ⟨_, rfl⟩
      rw [hN] at tb en nb ⊢
      obtain ⟨-, -, r3⟩ := recall_B (g := mz_up g1 137 36 N) (q := 162) (nq := 25) (p := 0) (by omega) (by decide)
      have R36 : zF_X12_recall 162 25 0 (mz_up g1 137 36 N) 137 36 = N := (r3 137 36 (by omega) (by omega)).trans (mz_up_at ..)
      have R2 : zF_X12_recall 162 25 0 (mz_up g1 137 36 N) 137 2 = 0 := (r3 137 2 (by omega) (by omega)).trans ((up_j (by decide)).trans ((f1 137 2 (by decide)).trans c2))
      have R7 : ∀ i : Nat, (i : Int) < N → zF_X12_recall 162 25 0 (mz_up g1 137 36 N) 157 i = bc h (b1 153 a1.toNat) (b1 154 a1.toNat) (ga b1 a3.toNat a1.toNat) i := fun i hi => (r3 157 i (by omega) (by omega)).trans ((up_k (by decide)).trans (tb i hi))
      generalize zF_X12_recall 162 25 0 (mz_up g1 137 36 N) = g13 at *
      rw [R36, isI_B, len_q, t.1, en]
      by_cases y : 0 ≤ a2 ∧ a2 ≤ N - 1
      · rw [if_neg (show ¬ a2 < 0 by omega), if_pos (show a2 < N by omega), if_pos y, i10]
        unfold zF_X0_signAt
        rw [zf_lq, show zf_ln 133 = 16 from rfl, X11_at (n := 16) y.1 (by omega)]
        refine ka_0 R2 ?_
        rw [t.2.1 a2.toNat (by omega), R7 a2.toNat (by omega), bc_c q2.1]
      · rw [if_neg y, i00]
        by_cases y2 : a2 < 0
        · rw [if_pos y2]
          exact ka_0 R2 rfl
        · rw [if_neg y2, if_neg (show ¬ a2 < N by omega)]
          exact ka_0 R2 rfl
    · rw [if_neg h3, mf_0, i00]
      exact ka_fail (c := 2) rfl (by decide)
  · rw [if_neg ht, mb_0, i00]
    exact ka_fail (c := 1) rfl (by decide)
end WC
