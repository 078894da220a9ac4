/-! ANSWERS (10): what both have, of the class; the reference's table; both -/
section WJ
variable {x : mm_X} {g g0 g1 gA gB b0 : mz_G} {ld q1 q2 : Nat} {p q : Nat → Int}
theorem co_i (h1 : q1 + 1 < 117 ∨ 117 < q1) (h2 : q2 + 1 < 117 ∨ 117 < q2) (l1 : g0 q1 1 ≤ (zf_ln q1 : Int)) (l2 : g0 q2 1 ≤ (zf_ln q2 : Int)) {i : Nat} {l3 : Int} (hi : (i : Int) = l3) (i1 : l3 < g0 q1 1) : ∀ (m k j : Nat) (l4 l5 : Int) (g : mz_G), (g0 q2 1 - l5).toNat = m → m < k → (j : Int) = l5 → l4 = lcr (g0 (q1 + 1)) (g0 (q2 + 1)) i j → (∀ t : Nat, t ≤ j → g 117 t = lcr (g0 (q1 + 1)) (g0 (q2 + 1)) (i + 1) t) → (∀ t : Nat, j < t → (t : Int) ≤ g0 q2 1 → g 117 t = lcr (g0 (q1 + 1)) (g0 (q2 + 1)) i t) → tA g0 g → ∃ g1, zL_X2_common_41 q1 q2 k l3 l4 l5 g = g1 ∧ (∀ t : Nat, (t : Int) ≤ g0 q2 1 → (j ≤ t ∨ t ≤ j) → g1 117 t = lcr (g0 (q1 + 1)) (g0 (q2 + 1)) (i + 1) t) ∧ tA g0 g1 := by
  have z1 := zf_ln_le q1
  have z2 := zf_ln_le q2
  intro m
  induction m with
  | zero =>
    intro k j l4 l5 g hm hk hj e4 t1 t2 f
    obtain ⟨k, rfl⟩ : ∃ k1, k = k1 + 1 := ⟨k - 1, by omega⟩
    rw [zL_X2_common_41_s]
    unfold zB_X2_common_41
    simp only [zf_lq]
    rw [len_q, f q2 1 (by omega), if_neg (by omega)]
    exact ⟨g, rfl, fun t ht _ => t1 t (by omega), f⟩
  | succ m ih =>
    intro k j l4 l5 g hm hk hj e4 t1 t2 f
    obtain ⟨k, rfl⟩ : ∃ k1, k = k1 + 1 := ⟨k - 1, by omega⟩
    rw [zL_X2_common_41_s]
    unfold zB_X2_common_41 zJ_X2_common_82 zJ_X2_common_118
    simp only [zf_lq]
    rw [len_q, f q2 1 (by omega), if_pos (by omega), X11_at (n := 17) (i := l5 + 1) (by omega) (by omega), sg_A (q := q1) (by omega) (by omega), sg_A (q := q2) (by omega) (by omega), f (q1 + 1) _ (by omega), f (q2 + 1) _ (by omega), X11_at (n := 17) (i := l5) (by omega) (by omega)]
    have e5 : (l5 + 1).toNat = j + 1 := by omega
    have e6 : l5.toNat = j := by omega
    have e7 : l3.toNat = i := by omega
    rw [e5, e6, e7, t2 (j + 1) (by omega) (by omega), t1 j (Nat.le_refl _)]
    have b0 := lcr_b (p := g0 (q1 + 1)) (q := g0 (q2 + 1)) i j
    have N : ∀ v : Int, v = lcr (g0 (q1 + 1)) (g0 (q2 + 1)) (i + 1) (j + 1) → ∃ g1, zL_X2_common_41 q1 q2 k l3 (lcr (g0 (q1 + 1)) (g0 (q2 + 1)) i (j + 1)) (l5 + 1) (zF_X11_put 117 17 (l5 + 1) v g) = g1 ∧ (∀ t : Nat, (t : Int) ≤ g0 q2 1 → (j ≤ t ∨ t ≤ j) → g1 117 t = lcr (g0 (q1 + 1)) (g0 (q2 + 1)) (i + 1) t) ∧ tA g0 g1 := fun v hv => by
      rw [X11_put (n := 17) (by omega) (by omega), e5]
      obtain ⟨g1, e, r1, r2⟩ := ih k (j + 1) _ (l5 + 1) (mz_up g 117 (j + 1) v) (by omega) (by omega) (by omega) rfl (fun t ht => by
        by_cases z : t = j + 1
        · rw [z, mz_up_at, hv]
        · rw [up_j z]
          exact t1 t (by omega)) (fun t ht h => by
        rw [up_j (by omega)]
        exact t2 t (by omega) h) (fun a b z => (up_k z).trans (f a b z))
      exact ⟨g1, e, fun t ht _ => r1 t ht (by omega), r2⟩
    by_cases y : g0 (q1 + 1) i = g0 (q2 + 1) j
    · rw [if_pos y, if_neg (by decide), mz_wrap_id (a := l4 + 1) ⟨by omega, by omega⟩]
      exact N _ (by rw [lcr_s, if_pos y, e4])
    · rw [if_neg y, if_pos trivial]
      exact N _ (by rw [lcr_s, if_neg y])
theorem co_o (h1 : q1 + 1 < 117 ∨ 117 < q1) (h2 : q2 + 1 < 117 ∨ 117 < q2) (l1 : g0 q1 1 ≤ (zf_ln q1 : Int)) (l2 : g0 q2 1 ≤ (zf_ln q2 : Int)) (p2 : 0 ≤ g0 q2 1) : ∀ (m k i : Nat) (l3 : Int) (g : mz_G), (g0 q1 1 - l3).toNat = m → m < k → (i : Int) = l3 → l3 ≤ g0 q1 1 → (∀ t : Nat, (t : Int) ≤ g0 q2 1 → g 117 t = lcr (g0 (q1 + 1)) (g0 (q2 + 1)) i t) → tA g0 g → ∃ g1, zL_X2_common_27 q1 q2 k l3 g = (lcr (g0 (q1 + 1)) (g0 (q2 + 1)) (g0 q1 1).toNat (g0 q2 1).toNat, g1) ∧ tA g0 g1 := by
  have z1 := zf_ln_le q1
  have z2 := zf_ln_le q2
  intro m
  induction m with
  | zero =>
    intro k i l3 g hm hk hi hl t f
    obtain ⟨k, rfl⟩ : ∃ k1, k = k1 + 1 := ⟨k - 1, by omega⟩
    rw [zL_X2_common_27_s]
    unfold zB_X2_common_27
    simp only [zf_lq]
    rw [len_q, f q1 1 (by omega), if_neg (by omega), len_q, f q2 1 (by omega), X11_at (n := 17) (by omega) (by omega), t _ (by omega), show i = (g0 q1 1).toNat by omega]
    exact ⟨g, rfl, f⟩
  | succ m ih =>
    intro k i l3 g hm hk hi hl t f
    obtain ⟨k, rfl⟩ : ∃ k1, k = k1 + 1 := ⟨k - 1, by omega⟩
    rw [zL_X2_common_27_s]
    unfold zB_X2_common_27
    simp only [zf_lq]
    rw [len_q, f q1 1 (by omega), if_pos (by omega)]
    have l0 : ∀ i : Nat, lcr (g0 (q1 + 1)) (g0 (q2 + 1)) i 0 = 0 := fun i => by
      cases i with
      | zero => rfl
      | succ i => rfl
    obtain ⟨g1, e, r1, r2⟩ := co_i h1 h2 l1 l2 hi (by omega) (g0 q2 1 - 0).toNat 3000000000 0 0 0 g rfl (by omega) rfl (l0 i).symm (fun s hs => by
      rw [show s = 0 by omega, l0, t 0 (by omega), l0]) (fun s hs h => t s h) f
    rw [e]
    exact ih k (i + 1) (l3 + 1) g1 (by omega) (by omega) (by omega) (by omega) (fun s hs => r1 s hs (by omega)) r2
theorem co_f (h2 : q2 + 1 < 117 ∨ 117 < q2) (l2 : g0 q2 1 ≤ (zf_ln q2 : Int)) (p2 : 0 ≤ g0 q2 1) : ∀ (m k i : Nat) (l3 : Int) (g : mz_G), (g0 q2 1 + 1 - l3).toNat = m → m < k → (i : Int) = l3 → l3 ≤ g0 q2 1 + 1 → (∀ t : Nat, t < i → g 117 t = 0) → tA g0 g → ∃ g1, zL_X2_common_2 q1 q2 k l3 g = zL_X2_common_27 q1 q2 3000000000 0 g1 ∧ (∀ t : Nat, (t : Int) ≤ g0 q2 1 → g1 117 t = 0) ∧ tA g0 g1 := by
  have z2 := zf_ln_le q2
  intro m
  induction m with
  | zero =>
    intro k i l3 g hm hk hi hl t f
    obtain ⟨k, rfl⟩ : ∃ k1, k = k1 + 1 := ⟨k - 1, by omega⟩
    rw [zL_X2_common_2_s]
    unfold zB_X2_common_2
    simp only [zf_lq]
    rw [len_q, f q2 1 (by omega), if_pos (by omega)]
    exact ⟨g, rfl, fun s hs => t s (by omega), f⟩
  | succ m ih =>
    intro k i l3 g hm hk hi hl t f
    obtain ⟨k, rfl⟩ : ∃ k1, k = k1 + 1 := ⟨k - 1, by omega⟩
    rw [zL_X2_common_2_s]
    unfold zB_X2_common_2
    simp only [zf_lq]
    rw [len_q, f q2 1 (by omega), if_neg (by omega), X11_put (n := 17) (by omega) (by omega)]
    exact ih k (i + 1) (l3 + 1) _ (by omega) (by omega) (by omega) (by omega) (fun s hs => by
      by_cases z : s = i
      · rw [z, show l3.toNat = i by omega, mz_up_at]
      · rw [up_j (by omega)]
        exact t s (by omega)) (fun a b z => (up_k z).trans (f a b z))
theorem common_A (h1 : q1 + 1 < 117 ∨ 117 < q1) (h2 : q2 + 1 < 117 ∨ 117 < q2) (l1 : g0 q1 1 ≤ (zf_ln q1 : Int)) (l2 : g0 q2 1 ≤ (zf_ln q2 : Int)) (p1 : 0 ≤ g0 q1 1) (p2 : 0 ≤ g0 q2 1) : ∃ g1, zF_X2_common q1 q2 g0 = (lcr (g0 (q1 + 1)) (g0 (q2 + 1)) (g0 q1 1).toNat (g0 q2 1).toNat, g1) ∧ tA g0 g1 := by
  have z1 := zf_ln_le q1
  have z2 := zf_ln_le q2
  unfold zF_X2_common
  obtain ⟨g1, e, t, f⟩ := co_f (q1 := q1) h2 l2 p2 (g0 q2 1 + 1 - 0).toNat 3000000000 0 0 g0 rfl (by omega) rfl (by omega) (fun t h => absurd h (Nat.not_lt_zero _)) (fun _ _ _ => rfl)
  rw [e]
  exact co_o h1 h2 l1 l2 p2 (g0 q1 1 - 0).toNat 3000000000 0 0 g1 rfl (by omega) rfl p1 t f
/-- the reference's table -/
def tb (a : Int) (p q : Nat → Int) (i j : Nat) : Int := if a = 0 then lcr p q i j else edr p q i j
def tB (g0 g : mz_G) : Prop := ∀ a b : Nat, a ≠ 159 → g a b = g0 a b
theorem tb_b {a : Int} {i j : Nat} (hi : i ≤ 16) (hj : j ≤ 16) : 0 ≤ tb a p q i j ∧ tb a p q i j ≤ 32 := by
  unfold tb
  have u := edr_b (p := p) (q := q) i j
  have v := lcr_b (p := p) (q := q) i j
  split <;> omega
theorem cb_i {a1 : Int} (l1 : g0 137 36 ≤ 16) (l2 : g0 137 37 ≤ 16) {i : Nat} {l3 : Int} (hi : (i : Int) = l3) (i1 : l3 ≤ g0 137 36) : ∀ (m k j : Nat) (l4 : Int) (g : mz_G), (g0 137 37 + 1 - l4).toNat = m → m < k → (j : Int) = l4 → (∀ s t : Nat, s < i → (t : Int) ≤ g0 137 37 → g 159 (17 * s + t) = tb a1 (g0 157) (g0 158) s t) → (∀ t : Nat, t < j → (t : Int) ≤ g0 137 37 → g 159 (17 * i + t) = tb a1 (g0 157) (g0 158) i t) → tB g0 g → ∃ g1, zL_X12_compared_16 a1 k 17 l3 l4 g = g1 ∧ (∀ s t : Nat, s < i + 1 → (t : Int) ≤ g0 137 37 → g1 159 (17 * s + t) = tb a1 (g0 157) (g0 158) s t) ∧ tB g0 g1 := by
  intro m
  induction m with
  | zero =>
    intro k j l4 g hm hk hj t1 t2 f
    obtain ⟨k, rfl⟩ : ∃ k1, k = k1 + 1 := ⟨k - 1, by omega⟩
    rw [zL_X12_compared_16_s]
    unfold zB_X12_compared_16
    simp only [zf_lq]
    rw [f 137 37 (by decide), if_pos (by omega)]
    refine ⟨g, rfl, fun s t hs ht => ?_, f⟩
    rcases (by omega : s < i ∨ s = i) with z | z
    · exact t1 s t z ht
    · rw [z]
      exact t2 t (by omega) ht
  | succ m ih =>
    intro k j l4 g hm hk hj t1 t2 f
    obtain ⟨k, rfl⟩ : ∃ k1, k = k1 + 1 := ⟨k - 1, by omega⟩
    rw [zL_X12_compared_16_s]
    unfold zB_X12_compared_16 zJ_X12_compared_42 zJ_X12_compared_60 zJ_X12_compared_184 zJ_X12_compared_89 zJ_X12_compared_183 zJ_X12_compared_148
    simp only [zf_lq]
    have N : ∀ v : Int, v = tb a1 (g0 157) (g0 158) i j → ∃ g1, zL_X12_compared_16 a1 k 17 l3 (l4 + 1) (mz_up g 159 (17 * l3 + l4).toNat v) = g1 ∧ (∀ s t : Nat, s < i + 1 → (t : Int) ≤ g0 137 37 → g1 159 (17 * s + t) = tb a1 (g0 157) (g0 158) s t) ∧ tB g0 g1 := fun v hv => by
      rw [show (17 * l3 + l4).toNat = 17 * i + j by omega]
      refine ih k (j + 1) (l4 + 1) _ (by omega) (by omega) (by omega) (fun s t hs ht => ?_) (fun t ht h => ?_) (fun a b z => (up_k z).trans (f a b z))
      · rw [up_j (by omega)]
        exact t1 s t hs ht
      · by_cases z : t = j
        · rw [z, mz_up_at, hv]
        · rw [up_j (by omega)]
          exact t2 t (by omega) h
    rw [f 137 37 (by decide), if_neg (by omega)]
    by_cases y3 : l3 = 0
    · rw [if_pos y3]
      have i0 : i = 0 := by omega
      by_cases ya : a1 = 0
      · rw [if_pos ya]
        exact N 0 (by unfold tb; rw [if_pos ya, i0, lcr_0])
      · rw [if_neg ya]
        exact N _ (by unfold tb; rw [if_neg ya, i0, edr_0]; omega)
    · rw [if_neg y3]
      obtain ⟨i, rfl⟩ : ∃ i1, i = i1 + 1 := ⟨i - 1, by omega⟩
      by_cases y4 : l4 = 0
      · rw [if_pos y4]
        have j0 : j = 0 := by omega
        by_cases ya : a1 = 0
        · rw [if_pos ya]
          exact N 0 (by unfold tb; rw [if_pos ya, j0, lcr_i])
        · rw [if_neg ya]
          exact N _ (by unfold tb; rw [if_neg ya, j0, edr_i]; omega)
      · rw [if_neg y4]
        obtain ⟨j, rfl⟩ : ∃ j1, j = j1 + 1 := ⟨j - 1, by omega⟩
        rw [f 157 _ (by decide), f 158 _ (by decide), show (l3 - 1).toNat = i by omega, show (l4 - 1).toNat = j by omega, show (17 * l3 + l4 - 17).toNat = 17 * i + (j + 1) by omega, show (17 * l3 + l4 - 1).toNat = 17 * (i + 1) + j by omega, show (17 * l3 + l4 - 17 - 1).toNat = 17 * i + j by omega, t1 i (j + 1) (by omega) (by omega), t2 j (by omega) (by omega), t1 i j (by omega) (by omega)]
        have b1 := tb_b (a := a1) (p := g0 157) (q := g0 158) (i := i) (j := j) (by omega) (by omega)
        have b2 := tb_b (a := a1) (p := g0 157) (q := g0 158) (i := i) (j := j + 1) (by omega) (by omega)
        have b3 := tb_b (a := a1) (p := g0 157) (q := g0 158) (i := i + 1) (j := j) (by omega) (by omega)
        by_cases ya : a1 = 0
        · rw [if_pos ya, if_pos ya]
          have e : ∀ s t : Nat, tb a1 (g0 157) (g0 158) s t = lcr (g0 157) (g0 158) s t := fun s t => if_pos ya
          by_cases yl : g0 157 i = g0 158 j
          · rw [if_pos yl, i10, mz_wrap_id ⟨by omega, by omega⟩]
            exact N _ (by rw [e, e, lcr_s, if_pos yl])
          · rw [if_neg yl, if_pos trivial]
            exact N _ (by rw [e, e, e, lcr_s, if_neg yl])
        · rw [if_neg ya, if_neg ya]
          have e : ∀ s t : Nat, tb a1 (g0 157) (g0 158) s t = edr (g0 157) (g0 158) s t := fun s t => if_neg ya
          by_cases yl : g0 157 i = g0 158 j
          · rw [if_pos yl, i10, mz_wrap_id (a := tb a1 (g0 157) (g0 158) i j + 0) ⟨by omega, by omega⟩, mz_wrap_id ⟨by omega, by omega⟩]
            exact N _ (by rw [e, e, e, e, edr_s, if_pos yl]; omega)
          · rw [if_neg yl, if_pos trivial, mz_wrap_id (a := tb a1 (g0 157) (g0 158) i j + 1) ⟨by omega, by omega⟩, mz_wrap_id ⟨by omega, by omega⟩]
            exact N _ (by rw [e, e, e, e, edr_s, if_neg yl]; omega)
theorem cb_o {a1 : Int} (l1 : g0 137 36 ≤ 16) (l2 : g0 137 37 ≤ 16) (p1 : 0 ≤ g0 137 36) (p2 : 0 ≤ g0 137 37) : ∀ (m k i : Nat) (l3 : Int) (g : mz_G), (g0 137 36 + 1 - l3).toNat = m → m < k → (i : Int) = l3 → (∀ s t : Nat, s < i → (t : Int) ≤ g0 137 37 → g 159 (17 * s + t) = tb a1 (g0 157) (g0 158) s t) → tB g0 g → ∃ g1, zL_X12_compared_5 a1 k 17 l3 g = (tb a1 (g0 157) (g0 158) (g0 137 36).toNat (g0 137 37).toNat, g1) ∧ tB g0 g1 := by
  intro m
  induction m with
  | zero =>
    intro k i l3 g hm hk hi t f
    obtain ⟨k, rfl⟩ : ∃ k1, k = k1 + 1 := ⟨k - 1, by omega⟩
    rw [zL_X12_compared_5_s]
    unfold zB_X12_compared_5
    simp only [zf_lq]
    rw [f 137 36 (by decide), f 137 37 (by decide), if_pos (by omega), show (17 * g0 137 36 + g0 137 37).toNat = 17 * (g0 137 36).toNat + (g0 137 37).toNat by omega, t _ _ (by omega) (by omega)]
    exact ⟨g, rfl, f⟩
  | succ m ih =>
    intro k i l3 g hm hk hi t f
    obtain ⟨k, rfl⟩ : ∃ k1, k = k1 + 1 := ⟨k - 1, by omega⟩
    rw [zL_X12_compared_5_s]
    unfold zB_X12_compared_5
    simp only [zf_lq]
    rw [f 137 36 (by decide), if_neg (by omega)]
    obtain ⟨g1, e, r1, r2⟩ := cb_i (a1 := a1) l1 l2 hi (by omega) (g0 137 37 + 1 - 0).toNat 3000000000 0 0 g rfl (by omega) rfl t (fun t h => absurd h (Nat.not_lt_zero _)) f
    rw [e]
    exact ih k (i + 1) (l3 + 1) g1 (by omega) (by omega) (by omega) r1 r2
theorem compared_B {a1 : Int} (l1 : g0 137 36 ≤ 16) (l2 : g0 137 37 ≤ 16) (p1 : 0 ≤ g0 137 36) (p2 : 0 ≤ g0 137 37) : ∃ g1, zF_X12_compared a1 g0 = (tb a1 (g0 157) (g0 158) (g0 137 36).toNat (g0 137 37).toNat, g1) ∧ tB g0 g1 := by
  unfold zF_X12_compared
  exact cb_o l1 l2 p1 p2 (g0 137 36 + 1 - 0).toNat 3000000000 0 0 g0 rfl (by omega) rfl (fun s t h => absurd h (Nat.not_lt_zero _)) (fun _ _ _ => rfl)
end WJ
