/-! ANSWERS (9): what changes one text into another, what both have: tables of both sides -/
def erow (pr c : Nat → Int) (s : Int) : Nat → Int
  | 0 => s
  | j + 1 => min (pr j + c j) (min (pr (j + 1)) (erow pr c s j) + 1)
def edr (p q : Nat → Int) : Nat → Nat → Int
  | 0 => fun j => (j : Int)
  | i + 1 => erow (edr p q i) (fun j => if p i = q j then 0 else 1) ((i : Int) + 1)
def crow (pr : Nat → Int) (v : Int) (q : Nat → Int) : Nat → Int
  | 0 => 0
  | j + 1 => if v = q j then pr j + 1 else max (pr (j + 1)) (crow pr v q j)
def lcr (p q : Nat → Int) : Nat → Nat → Int
  | 0 => fun _ => 0
  | i + 1 => crow (lcr p q i) (p i) q
section WI
variable {x : mm_X} {g g0 g1 gA gB b0 : mz_G} {ld q1 q2 : Nat} {p q : Nat → Int}
theorem edr_0 {j : Nat} : edr p q 0 j = j := rfl
theorem edr_i {i : Nat} : edr p q (i + 1) 0 = (i : Int) + 1 := rfl
theorem edr_s {i j : Nat} : edr p q (i + 1) (j + 1) = min (edr p q i j + (if p i = q j then 0 else 1)) (min (edr p q i (j + 1)) (edr p q (i + 1) j) + 1) := rfl
theorem lcr_0 {j : Nat} : lcr p q 0 j = 0 := rfl
theorem lcr_i {i : Nat} : lcr p q (i + 1) 0 = 0 := rfl
theorem lcr_s {i j : Nat} : lcr p q (i + 1) (j + 1) = if p i = q j then lcr p q i j + 1 else max (lcr p q i (j + 1)) (lcr p q (i + 1) j) := rfl
theorem edr_b : ∀ i j : Nat, 0 ≤ edr p q i j ∧ edr p q i j ≤ (i : Int) + j := by
  intro i
  induction i with
  | zero => intro j; rw [edr_0]; omega
  | succ i ih =>
    intro j
    induction j with
    | zero => rw [edr_i]; omega
    | succ j jh =>
      rw [edr_s]
      have a := ih j
      have b := ih (j + 1)
      by_cases z : p i = q j
      · rw [if_pos z]; omega
      · rw [if_neg z]; omega
theorem lcr_b : ∀ i j : Nat, 0 ≤ lcr p q i j ∧ lcr p q i j ≤ (i : Int) := by
  intro i
  induction i with
  | zero => intro j; rw [lcr_0]; omega
  | succ i ih =>
    intro j
    induction j with
    | zero => rw [lcr_i]; omega
    | succ j jh =>
      rw [lcr_s]
      have a := ih j
      have b := ih (j + 1)
      by_cases z : p i = q j
      · rw [if_pos z]; omega
      · rw [if_neg z]; omega
/-- only the first so many letters matter -/
theorem edr_c {p' q' : Nat → Int} {lp lq : Int} (hp : ∀ i : Nat, (i : Int) < lp → p' i = p i) (hq : ∀ j : Nat, (j : Int) < lq → q' j = q j) : ∀ i j : Nat, (i : Int) ≤ lp → (j : Int) ≤ lq → edr p' q' i j = edr p q i j := by
  intro i
  induction i with
  | zero => intro j _ _; rfl
  | succ i ih =>
    intro j
    induction j with
    | zero => intro _ _; rfl
    | succ j jh =>
      intro h1 h2
      rw [edr_s, edr_s, ih j (by omega) (by omega), ih (j + 1) (by omega) h2, jh h1 (by omega), hp i (by omega), hq j (by omega)]
theorem lcr_c {p' q' : Nat → Int} {lp lq : Int} (hp : ∀ i : Nat, (i : Int) < lp → p' i = p i) (hq : ∀ j : Nat, (j : Int) < lq → q' j = q j) : ∀ i j : Nat, (i : Int) ≤ lp → (j : Int) ≤ lq → lcr p' q' i j = lcr p q i j := by
  intro i
  induction i with
  | zero => intro j _ _; rfl
  | succ i ih =>
    intro j
    induction j with
    | zero => intro _ _; rfl
    | succ j jh =>
      intro h1 h2
      rw [lcr_s, lcr_s, ih j (by omega) (by omega), ih (j + 1) (by omega) h2, jh h1 (by omega), hp i (by omega), hq j (by omega)]
theorem sg_A {q : Nat} {j : Int} (h0 : 0 ≤ j) (h1 : j < (zf_ln q : Int)) : zF_X0_signAt q j g = g (q + 1) j.toNat := by
  unfold zF_X0_signAt
  rw [zf_lq, X11_at h0 h1]
/-- a text of the class: its length and letters, whatever lies at 117 -/
def tA (g0 g : mz_G) : Prop := ∀ a b : Nat, a ≠ 117 → g a b = g0 a b
theorem ch_i (h1 : q1 + 1 < 117 ∨ 117 < q1) (h2 : q2 + 1 < 117 ∨ 117 < q2) (l1 : g0 q1 1 ≤ (zf_ln q1 : Int)) (l2 : g0 q2 1 ≤ (zf_ln q2 : Int)) {i : Nat} {l3 : Int} (hi : (i : Int) = l3) (i1 : l3 < g0 q1 1) : ∀ (m k j : Nat) (l4 l5 : Int) (g : mz_G), (g0 q2 1 - l5).toNat = m → m < k → (j : Int) = l5 → l4 = edr (g0 (q1 + 1)) (g0 (q2 + 1)) i j → (∀ t : Nat, t ≤ j → g 117 t = edr (g0 (q1 + 1)) (g0 (q2 + 1)) (i + 1) t) → (∀ t : Nat, j < t → (t : Int) ≤ g0 q2 1 → g 117 t = edr (g0 (q1 + 1)) (g0 (q2 + 1)) i t) → tA g0 g → ∃ g1, zL_X2_changes_59 q1 q2 k l3 l4 l5 g = g1 ∧ (∀ t : Nat, (t : Int) ≤ g0 q2 1 → (j ≤ t ∨ t ≤ j) → g1 117 t = edr (g0 (q1 + 1)) (g0 (q2 + 1)) (i + 1) t) ∧ tA g0 g1 := by
  have z1 := zf_ln_le q1
  have z2 := zf_ln_le q2
  intro m
  induction m with
  | zero =>
    intro k j l4 l5 g hm hk hj e4 t1 t2 f
    obtain ⟨k, rfl⟩ : ∃ k1, k = k1 + 1 := ⟨k - 1, by omega⟩
    rw [zL_X2_changes_59_s]
    unfold zB_X2_changes_59
    simp only [zf_lq]
    rw [len_q, f q2 1 (by omega), if_neg (by omega)]
    exact ⟨g, rfl, fun t ht _ => t1 t (by omega), f⟩
  | succ m ih =>
    intro k j l4 l5 g hm hk hj e4 t1 t2 f
    obtain ⟨k, rfl⟩ : ∃ k1, k = k1 + 1 := ⟨k - 1, by omega⟩
    rw [zL_X2_changes_59_s]
    unfold zB_X2_changes_59 zJ_X2_changes_102
    simp only [zf_lq]
    rw [len_q, f q2 1 (by omega), if_pos (by omega), X11_at (n := 17) (i := l5 + 1) (by omega) (by omega), sg_A (q := q1) (by omega) (by omega), sg_A (q := q2) (by omega) (by omega), f (q1 + 1) _ (by omega), f (q2 + 1) _ (by omega), X11_at (n := 17) (i := l5) (by omega) (by omega)]
    have e5 : (l5 + 1).toNat = j + 1 := by omega
    have e6 : l5.toNat = j := by omega
    have e7 : l3.toNat = i := by omega
    rw [e5, e6, e7, t2 (j + 1) (by omega) (by omega), t1 j (Nat.le_refl _)]
    have b0 := edr_b (p := g0 (q1 + 1)) (q := g0 (q2 + 1)) i j
    have b1 := edr_b (p := g0 (q1 + 1)) (q := g0 (q2 + 1)) i (j + 1)
    have b2 := edr_b (p := g0 (q1 + 1)) (q := g0 (q2 + 1)) (i + 1) j
    have N : ∀ s : Int, (s = if g0 (q1 + 1) i = g0 (q2 + 1) j then 0 else 1) → ∃ g1, zL_X2_changes_59 q1 q2 k l3 (edr (g0 (q1 + 1)) (g0 (q2 + 1)) i (j + 1)) (l5 + 1) (zF_X11_put 117 17 (l5 + 1) (min (mz_wrap (l4 + s)) (mz_wrap (min (edr (g0 (q1 + 1)) (g0 (q2 + 1)) i (j + 1)) (edr (g0 (q1 + 1)) (g0 (q2 + 1)) (i + 1) j) + 1))) g) = g1 ∧ (∀ t : Nat, (t : Int) ≤ g0 q2 1 → (j ≤ t ∨ t ≤ j) → g1 117 t = edr (g0 (q1 + 1)) (g0 (q2 + 1)) (i + 1) t) ∧ tA g0 g1 := fun s hs => by
      have bs : 0 ≤ s ∧ s ≤ 1 := by
        rw [hs]
        split <;> omega
      rw [X11_put (n := 17) (by omega) (by omega), e5, mz_wrap_id (a := l4 + s) ⟨by omega, by omega⟩, mz_wrap_id ⟨by omega, by omega⟩, e4, hs]
      obtain ⟨g1, e, r1, r2⟩ := ih k (j + 1) _ (l5 + 1) (mz_up g 117 (j + 1) (min (edr (g0 (q1 + 1)) (g0 (q2 + 1)) i j + if g0 (q1 + 1) i = g0 (q2 + 1) j then 0 else 1) (min (edr (g0 (q1 + 1)) (g0 (q2 + 1)) i (j + 1)) (edr (g0 (q1 + 1)) (g0 (q2 + 1)) (i + 1) j) + 1))) (by omega) (by omega) (by omega) rfl (fun t ht => by
        by_cases z : t = j + 1
        · rw [z, mz_up_at, edr_s]
        · rw [up_j z]
          exact t1 t (by omega)) (fun t ht h => by
        rw [up_j (by omega)]
        exact t2 t (by omega) h) (fun a b z => (up_k z).trans (f a b z))
      exact ⟨g1, e, fun t ht _ => r1 t ht (by omega), r2⟩
    by_cases y : g0 (q1 + 1) i = g0 (q2 + 1) j
    · rw [if_pos y]
      exact N 0 (by rw [if_pos y])
    · rw [if_neg y]
      exact N 1 (by rw [if_neg y])
theorem ch_o (h1 : q1 + 1 < 117 ∨ 117 < q1) (h2 : q2 + 1 < 117 ∨ 117 < q2) (l1 : g0 q1 1 ≤ (zf_ln q1 : Int)) (l2 : g0 q2 1 ≤ (zf_ln q2 : Int)) (p2 : 0 ≤ g0 q2 1) : ∀ (m k i : Nat) (l3 : Int) (g : mz_G), (g0 q1 1 - l3).toNat = m → m < k → (i : Int) = l3 → l3 ≤ g0 q1 1 → (∀ t : Nat, (t : Int) ≤ g0 q2 1 → g 117 t = edr (g0 (q1 + 1)) (g0 (q2 + 1)) i t) → tA g0 g → ∃ g1, zL_X2_changes_27 q1 q2 k l3 g = (edr (g0 (q1 + 1)) (g0 (q2 + 1)) (g0 q1 1).toNat (g0 q2 1).toNat, g1) ∧ tA g0 g1 := by
  have z1 := zf_ln_le q1
  have z2 := zf_ln_le q2
  intro m
  induction m with
  | zero =>
    intro k i l3 g hm hk hi hl t f
    obtain ⟨k, rfl⟩ : ∃ k1, k = k1 + 1 := ⟨k - 1, by omega⟩
    rw [zL_X2_changes_27_s]
    unfold zB_X2_changes_27
    simp only [zf_lq]
    rw [len_q, f q1 1 (by omega), if_neg (by omega), len_q, f q2 1 (by omega), X11_at (n := 17) (by omega) (by omega), t _ (by omega), show i = (g0 q1 1).toNat by omega]
    exact ⟨g, rfl, f⟩
  | succ m ih =>
    intro k i l3 g hm hk hi hl t f
    obtain ⟨k, rfl⟩ : ∃ k1, k = k1 + 1 := ⟨k - 1, by omega⟩
    rw [zL_X2_changes_27_s]
    unfold zB_X2_changes_27
    simp only [zf_lq]
    rw [len_q, f q1 1 (by omega), if_pos (by omega), X11_at (n := 17) (by omega) (by omega), X11_put (n := 17) (by omega) (by omega), show (0 : Int).toNat = 0 from rfl, t 0 (by omega)]
    obtain ⟨g1, e, r1, r2⟩ := ch_i h1 h2 l1 l2 hi (by omega) (g0 q2 1 - 0).toNat 3000000000 0 (edr (g0 (q1 + 1)) (g0 (q2 + 1)) i 0) 0 (mz_up g 117 0 (l3 + 1)) rfl (by omega) rfl rfl (fun s hs => by
      rw [show s = 0 by omega, mz_up_at, edr_i, hi]) (fun s hs h => by
      rw [up_j (by omega)]
      exact t s h) (fun a b z => (up_k z).trans (f a b z))
    rw [e]
    exact ih k (i + 1) (l3 + 1) g1 (by omega) (by omega) (by omega) (by omega) (fun s hs => r1 s hs (by omega)) r2
theorem ch_f (h2 : q2 + 1 < 117 ∨ 117 < q2) (l2 : g0 q2 1 ≤ (zf_ln q2 : Int)) (p2 : 0 ≤ g0 q2 1) : ∀ (m k i : Nat) (l3 : Int) (g : mz_G), (g0 q2 1 + 1 - l3).toNat = m → m < k → (i : Int) = l3 → l3 ≤ g0 q2 1 + 1 → (∀ t : Nat, t < i → g 117 t = t) → tA g0 g → ∃ g1, zL_X2_changes_2 q1 q2 k l3 g = zL_X2_changes_27 q1 q2 3000000000 0 g1 ∧ (∀ t : Nat, (t : Int) ≤ g0 q2 1 → g1 117 t = t) ∧ tA g0 g1 := by
  have z2 := zf_ln_le q2
  intro m
  induction m with
  | zero =>
    intro k i l3 g hm hk hi hl t f
    obtain ⟨k, rfl⟩ : ∃ k1, k = k1 + 1 := ⟨k - 1, by omega⟩
    rw [zL_X2_changes_2_s]
    unfold zB_X2_changes_2
    simp only [zf_lq]
    rw [len_q, f q2 1 (by omega), if_pos (by omega)]
    exact ⟨g, rfl, fun s hs => t s (by omega), f⟩
  | succ m ih =>
    intro k i l3 g hm hk hi hl t f
    obtain ⟨k, rfl⟩ : ∃ k1, k = k1 + 1 := ⟨k - 1, by omega⟩
    rw [zL_X2_changes_2_s]
    unfold zB_X2_changes_2
    simp only [zf_lq]
    rw [len_q, f q2 1 (by omega), if_neg (by omega), X11_put (n := 17) (by omega) (by omega)]
    exact ih k (i + 1) (l3 + 1) _ (by omega) (by omega) (by omega) (by omega) (fun s hs => by
      by_cases z : s = i
      · rw [z, show l3.toNat = i by omega, mz_up_at, hi]
      · rw [up_j (by omega)]
        exact t s (by omega)) (fun a b z => (up_k z).trans (f a b z))
/-- changes, of the class -/
theorem changes_A (h1 : q1 + 1 < 117 ∨ 117 < q1) (h2 : q2 + 1 < 117 ∨ 117 < q2) (l1 : g0 q1 1 ≤ (zf_ln q1 : Int)) (l2 : g0 q2 1 ≤ (zf_ln q2 : Int)) (p1 : 0 ≤ g0 q1 1) (p2 : 0 ≤ g0 q2 1) : ∃ g1, zF_X2_changes q1 q2 g0 = (edr (g0 (q1 + 1)) (g0 (q2 + 1)) (g0 q1 1).toNat (g0 q2 1).toNat, g1) ∧ tA g0 g1 := by
  have z1 := zf_ln_le q1
  have z2 := zf_ln_le q2
  unfold zF_X2_changes
  obtain ⟨g1, e, t, f⟩ := ch_f (q1 := q1) h2 l2 p2 (g0 q2 1 + 1 - 0).toNat 3000000000 0 0 g0 rfl (by omega) rfl (by omega) (fun t h => absurd h (Nat.not_lt_zero _)) (fun _ _ _ => rfl)
  rw [e]
  exact ch_o h1 h2 l1 l2 p2 (g0 q1 1 - 0).toNat 3000000000 0 0 g1 rfl (by omega) rfl p1 t f
end WI
