/-! ANSWERS (7): a text within a text; read -/
/-- q (so long) stands in p (so long) -/
def tw (p q : Nat → Int) (lp lq : Int) (a0 : Int) : Prop := ∃ a : Nat, a0 ≤ (a : Int) ∧ (a : Int) + lq ≤ lp ∧ ∀ j : Nat, (j : Int) < lq → p (a + j) = q j
section WG
variable {x : mm_X} {g g0 g1 gA gB b0 : mz_G} {ld : Nat}
theorem tw_c {p p' q q' : Nat → Int} {lp lq a0 : Int} (h0 : 0 ≤ a0) (hp : ∀ i : Nat, (i : Int) < lp → p' i = p i) (hq : ∀ i : Nat, (i : Int) < lq → q' i = q i) : tw p' q' lp lq a0 ↔ tw p q lp lq a0 := by
  constructor
  · rintro ⟨a, h1, h2, h3⟩
    refine ⟨a, h1, h2, fun j hj => ?_⟩
    rw [← hp _ (by omega), ← hq j hj]
    exact h3 j hj
  · rintro ⟨a, h1, h2, h3⟩
    refine ⟨a, h1, h2, fun j hj => ?_⟩
    rw [hp _ (by omega), hq j hj]
    exact h3 j hj
theorem tw_no {p q : Nat → Int} {lp lq a0 : Int} (h : lp < a0 + lq) : ¬ tw p q lp lq a0 := fun ⟨a, h1, h2, _⟩ => by omega
theorem tw_in {p q : Nat → Int} {lp lq a0 : Int} (h0 : 0 ≤ a0) (h : a0 + lq ≤ lp) (m : ∀ j : Nat, (j : Int) < lq → p (a0.toNat + j) = q j) : tw p q lp lq a0 := ⟨a0.toNat, by omega, by omega, m⟩
theorem tw_s {p q : Nat → Int} {lp lq a0 : Int} (h0 : 0 ≤ a0) (m : ¬ ∀ j : Nat, (j : Int) < lq → p (a0.toNat + j) = q j) : tw p q lp lq (a0 + 1) ↔ tw p q lp lq a0 := by
  constructor
  · rintro ⟨a, h1, h2, h3⟩
    exact ⟨a, by omega, h2, h3⟩
  · rintro ⟨a, h1, h2, h3⟩
    refine ⟨a, ?_, h2, h3⟩
    rcases (by omega : a0 + 1 ≤ (a : Int) ∨ (a : Int) = a0) with z | z
    · exact z
    · exact absurd (by rw [show a0.toNat = a by omega]; exact h3) m
theorem holds_l {q0 q1 : Nat} (l0 : g q0 1 ≤ (zf_ln q0 : Int)) (l1 : g q1 1 ≤ (zf_ln q1 : Int)) (p1 : 0 ≤ g q1 1) : ∀ (m k : Nat) (l : Int), (g q0 1 + 1 - l).toNat = m → m < k → 0 ≤ l → (tw (g (q0 + 1)) (g (q1 + 1)) (g q0 1) (g q1 1) l → zL_X0_holds_2 q0 q1 g k l = 1) ∧ (¬ tw (g (q0 + 1)) (g (q1 + 1)) (g q0 1) (g q1 1) l → zL_X0_holds_2 q0 q1 g k l = 0) := by
  intro m
  induction m with
  | zero =>
    intro k l hm hk h0
    obtain ⟨k, rfl⟩ : ∃ k1, k = k1 + 1 := ⟨k - 1, by omega⟩
    rw [zL_X0_holds_2_s]
    unfold zB_X0_holds_2
    simp only [zf_lq]
    rw [if_pos (by omega)]
    exact ⟨fun h => absurd h (tw_no (by omega)), fun _ => rfl⟩
  | succ m ih =>
    intro k l hm hk h0
    obtain ⟨k, rfl⟩ : ∃ k1, k = k1 + 1 := ⟨k - 1, by omega⟩
    rw [zL_X0_holds_2_s]
    unfold zB_X0_holds_2
    simp only [zf_lq]
    by_cases z : g q0 1 < l + g q1 1
    · rw [if_pos z]
      exact ⟨fun h => absurd h (tw_no z), fun _ => rfl⟩
    · rw [if_neg z]
      obtain ⟨i1, i2⟩ := X0_matches (q0 := q0) (q2 := q1) (a := l) (n := g q1 1) (g := g) h0 (by omega) l1
      have ee : (∀ j : Nat, (j : Int) < g q1 1 → g (q0 + 1) (l + (j : Int)).toNat = g (q1 + 1) j) ↔ (∀ j : Nat, (j : Int) < g q1 1 → g (q0 + 1) (l.toNat + j) = g (q1 + 1) j) := by
        have e : ∀ j : Nat, (l + (j : Int)).toNat = l.toNat + j := fun j => by omega
        simp only [e]
      by_cases y : ∀ j : Nat, (j : Int) < g q1 1 → g (q0 + 1) (l.toNat + j) = g (q1 + 1) j
      · rw [i1 (ee.mpr y), if_neg (by decide)]
        exact ⟨fun _ => rfl, fun h => absurd (tw_in h0 (by omega) y) h⟩
      · rw [i2 (fun h => y (ee.mp h)), if_pos rfl]
        obtain ⟨j1, j2⟩ := ih k (l + 1) (by omega) (by omega) (by omega)
        exact ⟨fun h => j1 ((tw_s h0 y).mpr h), fun h => j2 (fun h2 => h ((tw_s h0 y).mp h2))⟩
theorem holds_A {q0 q1 : Nat} (l0 : g q0 1 ≤ (zf_ln q0 : Int)) (l1 : g q1 1 ≤ (zf_ln q1 : Int)) (p1 : 0 ≤ g q1 1) : (tw (g (q0 + 1)) (g (q1 + 1)) (g q0 1) (g q1 1) 0 → zF_X0_holds q0 q1 g = 1) ∧ (¬ tw (g (q0 + 1)) (g (q1 + 1)) (g q0 1) (g q1 1) 0 → zF_X0_holds q0 q1 g = 0) := by
  have b := zf_ln_le q0
  exact holds_l l0 l1 p1 (g q0 1 + 1 - 0).toNat 3000000000 0 rfl (by omega) (by decide)
theorem win_i {l1 : Int} (h1 : 0 ≤ l1) : ∀ (m k : Nat) (l2 l3 : Int), (g 137 37 - l3).toNat = m → m < k → 0 ≤ l3 → l3 ≤ max 0 (g 137 37) → (l2 = 0 ∨ l2 = 1) → ((l2 = 1 ∧ ∀ j : Nat, l3 ≤ (j : Int) → (j : Int) < g 137 37 → g 157 (l1.toNat + j) = g 158 j) → zL_X12_isWithin_19 g k l1 l2 l3 = 1) ∧ (¬ (l2 = 1 ∧ ∀ j : Nat, l3 ≤ (j : Int) → (j : Int) < g 137 37 → g 157 (l1.toNat + j) = g 158 j) → zL_X12_isWithin_19 g k l1 l2 l3 = 0) := by
  intro m
  induction m with
  | zero =>
    intro k l2 l3 hm hk h0 h3 h2
    obtain ⟨k, rfl⟩ : ∃ k1, k = k1 + 1 := ⟨k - 1, by omega⟩
    rw [zL_X12_isWithin_19_s]
    unfold zB_X12_isWithin_19
    simp only [zf_lq]
    rw [if_neg (by omega)]
    refine ⟨fun h => h.1, fun h => ?_⟩
    rcases h2 with z | z
    · exact z
    · exact absurd ⟨z, fun j a b => by omega⟩ h
  | succ m ih =>
    intro k l2 l3 hm hk h0 h3 h2
    obtain ⟨k, rfl⟩ : ∃ k1, k = k1 + 1 := ⟨k - 1, by omega⟩
    rw [zL_X12_isWithin_19_s]
    unfold zB_X12_isWithin_19 zJ_X12_isWithin_53
    simp only [zf_lq]
    rw [if_pos (by omega)]
    rcases h2 with z | z
    · rw [if_pos z]
      exact ⟨fun h => h.1, fun _ => z⟩
    · rw [if_neg (by omega), show (l1 + l3).toNat = l1.toNat + l3.toNat by omega]
      by_cases e : g 157 (l1.toNat + l3.toNat) = g 158 l3.toNat
      · rw [if_pos e]
        obtain ⟨i1, i2⟩ := ih k 1 (l3 + 1) (by omega) (by omega) (by omega) (by omega) (Or.inr rfl)
        have ee : (l2 = 1 ∧ ∀ j : Nat, l3 ≤ (j : Int) → (j : Int) < g 137 37 → g 157 (l1.toNat + j) = g 158 j) ↔ ((1 : Int) = 1 ∧ ∀ j : Nat, l3 + 1 ≤ (j : Int) → (j : Int) < g 137 37 → g 157 (l1.toNat + j) = g 158 j) := by
          refine ⟨fun h => ⟨rfl, fun j a b => h.2 j (by omega) b⟩, fun h => ⟨z, fun j a b => ?_⟩⟩
          rcases (by omega : l3 + 1 ≤ (j : Int) ∨ j = l3.toNat) with w | w
          · exact h.2 j w b
          · rw [w]; exact e
        exact ⟨fun h => i1 (ee.mp h), fun h => i2 (fun h2 => h (ee.mpr h2))⟩
      · rw [if_neg e]
        obtain ⟨i1, i2⟩ := ih k 0 (l3 + 1) (by omega) (by omega) (by omega) (by omega) (Or.inl rfl)
        refine ⟨fun h => absurd (h.2 l3.toNat (by omega) (by omega)) e, fun _ => i2 (fun h2 => absurd h2.1 (by decide))⟩
theorem win_l (l16 : g 137 36 ≤ 16) (p0 : 0 ≤ g 137 37) : ∀ (m k : Nat) (l : Int), (g 137 36 + 1 - l).toNat = m → m < k → 0 ≤ l → (tw (g 157) (g 158) (g 137 36) (g 137 37) l → zL_X12_isWithin_2 g k l = 1) ∧ (¬ tw (g 157) (g 158) (g 137 36) (g 137 37) l → zL_X12_isWithin_2 g k l = 0) := by
  intro m
  induction m with
  | zero =>
    intro k l hm hk h0
    obtain ⟨k, rfl⟩ : ∃ k1, k = k1 + 1 := ⟨k - 1, by omega⟩
    rw [zL_X12_isWithin_2_s]
    unfold zB_X12_isWithin_2
    simp only [zf_lq]
    rw [if_pos (by omega)]
    exact ⟨fun h => absurd h (tw_no (by omega)), fun _ => rfl⟩
  | succ m ih =>
    intro k l hm hk h0
    obtain ⟨k, rfl⟩ : ∃ k1, k = k1 + 1 := ⟨k - 1, by omega⟩
    rw [zL_X12_isWithin_2_s]
    unfold zB_X12_isWithin_2 zJ_X12_isWithin_60
    simp only [zf_lq]
    by_cases z : g 137 36 < l + g 137 37
    · rw [if_pos z]
      exact ⟨fun h => absurd h (tw_no z), fun _ => rfl⟩
    · rw [if_neg z]
      obtain ⟨i1, i2⟩ := win_i (g := g) h0 (g 137 37 - 0).toNat 3000000000 1 0 rfl (by omega) (by decide) (by omega) (Or.inr rfl)
      by_cases y : ∀ j : Nat, (j : Int) < g 137 37 → g 157 (l.toNat + j) = g 158 j
      · rw [i1 ⟨rfl, fun j _ b => y j b⟩, if_neg (by decide)]
        exact ⟨fun _ => rfl, fun h => absurd (tw_in h0 (by omega) y) h⟩
      · rw [i2 (fun h => y (fun j b => h.2 j (by omega) b)), if_pos rfl]
        obtain ⟨j1, j2⟩ := ih k (l + 1) (by omega) (by omega) (by omega)
        exact ⟨fun h => j1 ((tw_s h0 y).mpr h), fun h => j2 (fun h2 => h ((tw_s h0 y).mp h2))⟩
theorem within_B (l16 : g 137 36 ≤ 16) (p0 : 0 ≤ g 137 37) : (tw (g 157) (g 158) (g 137 36) (g 137 37) 0 → zF_X12_isWithin g = 1) ∧ (¬ tw (g 157) (g 158) (g 137 36) (g 137 37) 0 → zF_X12_isWithin g = 0) :=
  win_l l16 p0 (g 137 36 + 1 - 0).toNat 3000000000 0 rfl (by omega) (by decide)
/-- a word's letters of the reference -/
theorem winto_l {q1 nq : Nat} (hq : 155 < q1) {w : Int} (w0 : 0 ≤ w) (w8 : b0 142 w.toNat ≤ 8) : ∀ (m k n : Nat) (l : Int) (g : mz_G), (b0 142 w.toNat - l).toNat = m → m < k → (n : Int) = l → (∀ i : Nat, i < n → g q1 i = b0 141 (8 * w + i).toNat) → (∀ a b : Nat, a ≠ q1 → g a b = b0 a b) → ∃ g1, zL_X12_wordInto_2 q1 nq w k l g = (b0 142 w.toNat, g1) ∧ (∀ i : Nat, (i : Int) < b0 142 w.toNat → g1 q1 i = b0 141 (8 * w + i).toNat) ∧ ∀ a b : Nat, a ≠ q1 → g1 a b = b0 a b := by
  intro m
  induction m with
  | zero =>
    intro k n l g hm hk hn t f
    obtain ⟨k, rfl⟩ : ∃ k1, k = k1 + 1 := ⟨k - 1, by omega⟩
    rw [zL_X12_wordInto_2_s]
    unfold zB_X12_wordInto_2
    simp only [zf_lq]
    rw [f 142 _ (by omega), if_neg (by omega)]
    exact ⟨g, rfl, fun i hi => t i (by omega), f⟩
  | succ m ih =>
    intro k n l g hm hk hn t f
    obtain ⟨k, rfl⟩ : ∃ k1, k = k1 + 1 := ⟨k - 1, by omega⟩
    rw [zL_X12_wordInto_2_s]
    unfold zB_X12_wordInto_2 zF_X12_letterOf
    simp only [zf_lq]
    rw [f 142 _ (by omega), if_pos (by omega), f 141 _ (by omega)]
    refine ih k (n + 1) (l + 1) _ (by omega) (by omega) (by omega) (fun i hi => ?_) (fun a b z => (up_k z).trans (f a b z))
    by_cases z : i = n
    · rw [z, show l.toNat = n by omega, mz_up_at, hn]
    · rw [up_j (by omega)]
      exact t i (by omega)
theorem winto_B {q1 nq : Nat} (hq : 155 < q1) {w : Int} (w0 : 0 ≤ w) (w8 : b0 142 w.toNat ≤ 8) : ∃ g1, zF_X12_wordInto q1 nq w b0 = (b0 142 w.toNat, g1) ∧ (∀ i : Nat, (i : Int) < b0 142 w.toNat → g1 q1 i = b0 141 (8 * w + i).toNat) ∧ ∀ a b : Nat, a ≠ q1 → g1 a b = b0 a b := by
  unfold zF_X12_wordInto
  exact winto_l hq w0 w8 (b0 142 w.toNat - 0).toNat 3000000000 0 0 b0 rfl (by omega) rfl (fun i hi => absurd hi (Nat.not_lt_zero _)) (fun _ _ _ => rfl)
/-- the class's side while texts are laid out -/
def fq (x : mm_X) (g0 g : mz_G) : Prop := ∀ a b : Nat, a ≠ 122 → a ≠ 123 → ¬ (133 ≤ a ∧ a ≤ 136) → a ≠ x.1 + 38 → a ≠ x.1 + 39 → g a b = g0 a b
theorem fq_S (hld : x.1 = 1 ∨ x.1 = 41) (S : sta x.1 g0 gB) (f : fq x g0 g) : sta x.1 g gB := sta_A S (fun a b u v => f a b (by omega) (by omega) (by omega) (by omega) (by omega))
theorem fq_p (f : fq x g0 g) (k : fp x g g1) : fq x g0 g1 := fun a b u u2 v w y => (k a b u w y).trans (f a b u u2 v w y)
theorem fq_bt {q n : Nat} {B : Nat → Int} (hq : q = 133 ∨ q = 135) (f : fq x g0 g) (t : bt q n B g g1) : fq x g0 g1 := fun a b u u2 v w y => (t.2.2 a b (by omega) (by omega)).trans (f a b u u2 v w y)
theorem read_ll (hx : mk_x x) (k0 : ru x gA b0) (K : kr b0) {a1 a2 : Int} (t0 : 0 ≤ a1) (t1 : a1 < b0 140 1) (w0' : 0 ≤ a2) (w1' : a2 < b0 140 0) : ∀ (m k1 k2 i : Nat) (l : Int) (g h : mz_G), (61 - l).toNat = m → m < k1 → m < k2 → (i : Int) = l → fq x gA g → g 122 0 = b0 153 a1.toNat → g 122 1 = b0 154 a1.toNat → g 122 2 = b0 155 a1.toNat → g 122 4 = b0 144 a1.toNat → g 122 3 = ga b0 i a1.toNat → qk 162 b0 h → h 137 2 = 0 → h 137 30 = b0 137 30 + l → h 153 a1.toNat = b0 153 a1.toNat → h 154 a1.toNat = b0 154 a1.toNat → h 155 a1.toNat = b0 155 a1.toNat → h 152 a1.toNat = ga b0 i a1.toNat → h 137 37 = b0 142 a2.toNat → (∀ j : Nat, (j : Int) < b0 142 a2.toNat → h 158 j = b0 141 (8 * a2 + j).toNat) → ka (zL_X11_read_44 x a1 a2 k1 l g) (zL_X12_read_54 a1 a2 k2 (-1) l h) := by
  have hld : x.1 = 1 ∨ x.1 = 41 := by unfold mk_x at hx; omega
  obtain ⟨-, -, vv, ss, tt, t6⟩ := now_t k0 t0 t1
  have e87 : gA 87 3 = b0 137 30 := k0.2.2.2.1.1.2.1
  have dd : 0 ≤ b0 137 30 ∧ b0 137 30 ≤ 999 := k0.2.2.2.1.1.2.2.2.1
  have wl := sa_len k0.2.1.1 w0' w1'
  have l8 := k0.2.1.1.2.2.1
  intro m
  induction m with
  | zero =>
    intro k1 k2 i l g h hm hk1 hk2 hi f w0 w1 w2 w4 w3 q c0 d0 h3 h4 h5 h2 h37 h158
    obtain ⟨k1, rfl⟩ : ∃ k, k1 = k + 1 := ⟨k1 - 1, by omega⟩
    obtain ⟨k2, rfl⟩ : ∃ k, k2 = k + 1 := ⟨k2 - 1, by omega⟩
    rw [zL_X11_read_44_s, zL_X12_read_54_s]
    unfold zB_X11_read_44 zB_X12_read_54 zJ_X12_read_100
    simp only [zf_lq]
    rw [if_pos (by omega), if_pos (by omega)]
    exact ka_0 ((rec_2 (Or.inl rfl)).trans c0) rfl
  | succ m ih =>
    intro k1 k2 i l g h hm hk1 hk2 hi f w0 w1 w2 w4 w3 q c0 d0 h3 h4 h5 h2 h37 h158
    obtain ⟨k1, rfl⟩ : ∃ k, k1 = k + 1 := ⟨k1 - 1, by omega⟩
    obtain ⟨k2, rfl⟩ : ∃ k, k2 = k + 1 := ⟨k2 - 1, by omega⟩
    rw [zL_X11_read_44_s, zL_X12_read_54_s]
    unfold zB_X11_read_44 zB_X12_read_54 zJ_X12_read_100 zJ_X12_read_89
    simp only [zf_lq]
    have hl0 : ¬ 60 < l := by omega
    rw [if_neg hl0, if_neg hl0, if_pos trivial]
    have S := fq_S hld k0.2.1 f
    have vg : vt b0 (b0 153 a1.toNat) (b0 154 a1.toNat) (ga b0 i a1.toNat) := (gnd_b tt i _ (b0 137 30) vv (sp := b0 155 a1.toNat)).1
    have nb := bn_b S.1 vg
    obtain ⟨n1, en, t⟩ := blend_A hld (q := 133) (by decide) rfl S (q1 := 122) ⟨by decide, by decide⟩ w0 w1 w3 vg
    generalize zF_X1_blendInto x.1 122 133 g = g8 at *
    have f8 := fq_bt (x := x) (Or.inl rfl) f t
    have S8 := fq_S hld k0.2.1 f8
    have z8 : zf_ln (x.1 + 10 + 2 * a2.toNat) = 8 := by
      unfold zf_ln
      rw [if_neg (by omega), if_neg (by omega)]
    have wl8 := sa_len S8.1 w0' w1'
    obtain ⟨g12, eb, tb, f12⟩ := blend_B (q1 := 157) (nq := 16) (b0 := h) (t := a1) (by decide) (sta_B S q.1).1 (vt_of q.1 vg) h3 h4 h2
    rw [of_w w0' (by omega), eb]
    unfold zf_m2
    dsimp only
    rw [bn_c q.1] at tb ⊢
    obtain ⟨N, hN⟩ : ∃ N, bn b0 (b0 153 a1.toNat) (b0 154 a1.toNat) (ga b0 i a1.toNat) = N := ⟨_, rfl⟩
    rw [hN] at tb en nb ⊢
    have o : ∀ a b : Nat, a ≠ 157 → ¬ (a = 137 ∧ b = 36) → mz_up g12 137 36 N a b = h a b := fun a b z1 z2 => (mz_up_ne z2).trans (f12 a b z1)
    have e36 : mz_up g12 137 36 N 137 36 = N := mz_up_at ..
    have e157 : ∀ j : Nat, (j : Int) < N → mz_up g12 137 36 N 157 j = bc b0 (b0 153 a1.toNat) (b0 154 a1.toNat) (ga b0 i a1.toNat) j := fun j hj => (up_k (by decide)).trans ((tb j hj).trans (bc_c q.1))
    generalize mz_up g12 137 36 N = h' at *
    have q' : qk 162 b0 h' := qk_fr (fun a b z => o a b (by omega) (by omega)) q
    have C : (tw (g8 (133 + 1)) (g8 (x.1 + 10 + 2 * a2.toNat + 1)) (g8 133 1) (g8 (x.1 + 10 + 2 * a2.toNat) 1) 0) ↔ tw (h' 157) (h' 158) (h' 137 36) (h' 137 37) 0 := by
      rw [t.1, en, wl8.1, e36, o 137 37 (by decide) (by decide), h37]
      refine Iff.trans (tw_c (p := bc b0 (b0 153 a1.toNat) (b0 154 a1.toNat) (ga b0 i a1.toNat)) (q := fun j => b0 141 (8 * a2 + (j : Int)).toNat) (by decide) (fun j hj => t.2.1 j (by omega)) (fun j hj => ?_)) (tw_c (by decide) e157 (fun j hj => (o 158 j (by decide) (by omega)).trans (h158 j hj))).symm
      rw [show x.1 + 10 + 2 * a2.toNat + 1 = x.1 + 11 + 2 * a2.toNat by omega, sa_let S8.1 w0' w1' hj]
      show b0 141 _ = b0 141 _
      rw [show (8 * a2 + (j : Int)).toNat = 8 * a2.toNat + j by omega]
    obtain ⟨A1, A2⟩ := holds_A (g := g8) (q0 := 133) (q1 := x.1 + 10 + 2 * a2.toNat) (by rw [t.1, en, show zf_ln 133 = 16 from rfl]; omega) (by rw [z8, wl8.1]; omega) (by rw [wl8.1]; omega)
    obtain ⟨B1, B2⟩ := within_B (g := h') (by rw [e36]; omega) (by rw [o 137 37 (by decide) (by decide), h37]; omega)
    have K1 := kr_e q'.1 K
    obtain ⟨gg, gd, gf⟩ := goOn_B K1.1 K1.2.1 K1.2.2 (n := 1) (by decide) (by decide)
    have q2 := qk_go K (Or.inl rfl) (n := 1) (by decide) (by decide) q'
    have c2 : zF_X12_goOn 1 h' 137 2 = 0 := (go_2 K1 (by decide) (by decide)).trans ((o _ _ (by decide) (by decide)).trans c0)
    have n1' : h' 140 1 = b0 140 1 := q'.1 140 1 (by decide) (by decide)
    have g2 := gg a1.toNat (by omega)
    have i3 := (o 153 a1.toNat (by decide) (by omega)).trans h3
    have i4 := (o 154 a1.toNat (by decide) (by omega)).trans h4
    have i5 := (o 155 a1.toNat (by decide) (by omega)).trans h5
    have i2 := (o 152 a1.toNat (by decide) (by omega)).trans h2
    have id0 := (o 137 30 (by decide) (by omega)).trans d0
    rw [gnd_c q'.1, q'.1 144 _ (by decide) (by decide), i3, i4, i5, i2, id0, show (1 : Int).toNat = 0 + 1 from rfl, gnd_s, show ∀ a b : Int, gnd b0 (b0 144 a1.toNat) (b0 153 a1.toNat) (b0 154 a1.toNat) (b0 155 a1.toNat) 0 a b = a from fun _ _ => rfl, ← hi] at g2
    have g2' : zF_X12_goOn 1 h' 152 a1.toNat = ga b0 (i + 1) a1.toNat := g2.trans (gnd_e ..).symm
    have b3 := (gf 153 a1.toNat (by unfold fw_dy; omega)).trans i3
    have b4 := (gf 154 a1.toNat (by unfold fw_dy; omega)).trans i4
    have b5 := (gf 155 a1.toNat (by unfold fw_dy; omega)).trans i5
    have b37 := (gf 137 37 (by unfold fw_dy; omega)).trans ((o 137 37 (by decide) (by decide)).trans h37)
    have b158 : ∀ j : Nat, (j : Int) < b0 142 a2.toNat → zF_X12_goOn 1 h' 158 j = b0 141 (8 * a2 + j).toNat := fun j hj => (gf 158 j (by unfold fw_dy; omega)).trans ((o 158 j (by decide) (by omega)).trans (h158 j hj))
    have bd := gd.trans (by rw [id0])
    generalize zF_X12_goOn 1 h' = hh at *
    by_cases hf : tw (h' 157) (h' 158) (h' 137 36) (h' 137 37) 0
    · rw [A1 (C.mpr hf), B1 hf, i10, i10]
      obtain ⟨k2, rfl⟩ : ∃ k, k2 = k + 1 := ⟨k2 - 1, by omega⟩
      rw [zL_X12_read_54_s]
      unfold zB_X12_read_54 zJ_X12_read_100
      simp only [zf_lq]
      by_cases hl1 : 60 < l + 1
      · rw [if_pos hl1]
        exact ka_0 ((rec_2 (Or.inl rfl)).trans c2) rfl
      · rw [if_neg hl1, if_neg (by omega)]
        exact ka_0 ((rec_2 (Or.inl rfl)).trans c2) rfl
    · rw [A2 (fun y => hf (C.mp y)), B2 hf, i00, i00]
      have u : ∀ b : Nat, g8 122 b = g 122 b := fun b => t.2.2 122 b (fun y => absurd y.1 (by decide)) (by decide)
      have e87' : g8 87 3 = b0 137 30 := (f8 87 3 (by decide) (by decide) (by decide) (by omega) (by omega)).trans e87
      obtain ⟨p0, p1, p2, p4, p3, pf⟩ := step_A hld S8 vv tt e87' dd.1 dd.2 hi (by omega) ((u 0).trans w0) ((u 1).trans w1) ((u 2).trans w2) ((u 4).trans w4) ((u 3).trans w3) (fun _ _ _ _ _ => rfl)
      have f6 := fq_p f8 pf
      generalize zF_X11_growBy x 122 l g8 = g6 at *
      exact ih k1 k2 (i + 1) (l + 1) g6 hh (by omega) (by omega) (by omega) (by omega) f6 p0 p1 p2 p4 p3 q2 c2 (by rw [bd]; omega) b3 b4 b5 g2' b37 b158
end WG
