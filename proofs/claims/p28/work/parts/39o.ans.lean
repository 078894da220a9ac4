/-! ANSWERS (15): word; trunk but its couple -/
section WO
variable {x : mm_X} {g g0 g1 gA gB b0 h : mz_G} {ld : Nat}
/-- how often a letter, of both -/
theorem often_l (hld : ld = 1 ∨ ld = 41) (W : sa_w ld gA b0) {w c : Int} (h0 : 0 ≤ w) (h1 : w < b0 140 0) : ∀ (m k1 k2 : Nat) (l2 l3 : Int), (b0 142 w.toNat - l3).toNat = m → m < k1 → m < k2 → 0 ≤ l3 → zL_X0_howOften_4 (ld + 10 + 2 * w.toNat) c gA k1 l2 l3 = zL_X12_manyOf_5 w c b0 k2 l2 l3 := by
  have v := sa_len W h0 h1
  have l8 := W.2.2.1
  have z := ln_w hld (w := w.toNat) (by omega)
  intro m
  induction m with
  | zero =>
    intro k1 k2 l2 l3 hm hk1 hk2 hl
    obtain ⟨k1, rfl⟩ : ∃ k, k1 = k + 1 := ⟨k1 - 1, by omega⟩
    obtain ⟨k2, rfl⟩ : ∃ k, k2 = k + 1 := ⟨k2 - 1, by omega⟩
    rw [zL_X0_howOften_4_s, zL_X12_manyOf_5_s]
    unfold zB_X0_howOften_4 zB_X12_manyOf_5
    simp only [zf_lq]
    rw [v.1, if_neg (by omega), if_neg (by omega)]
  | succ m ih =>
    intro k1 k2 l2 l3 hm hk1 hk2 hl
    obtain ⟨k1, rfl⟩ : ∃ k, k1 = k + 1 := ⟨k1 - 1, by omega⟩
    obtain ⟨k2, rfl⟩ : ∃ k, k2 = k + 1 := ⟨k2 - 1, by omega⟩
    rw [zL_X0_howOften_4_s, zL_X12_manyOf_5_s]
    unfold zB_X0_howOften_4 zJ_X0_howOften_30 zB_X12_manyOf_5 zJ_X12_manyOf_33 zF_X12_letterOf
    simp only [zf_lq]
    have e := wt_A W h0 h1 (j := l3.toNat) (by omega)
    unfold wt at e
    rw [show ((l3.toNat : Nat) : Int) = l3 by omega] at e
    have q1 : l3 < b0 142 w.toNat := by omega
    rw [v.1, if_pos q1, if_pos q1, z, X11_at (n := 8) hl (by omega), e]
    by_cases y : b0 141 (8 * w + l3).toNat = c
    · rw [if_pos y, if_pos y]
      exact ih k1 k2 _ (l3 + 1) (by omega) (by omega) (by omega) (by omega)
    · rw [if_neg y, if_neg y]
      exact ih k1 k2 _ (l3 + 1) (by omega) (by omega) (by omega) (by omega)
theorem often_k (hld : ld = 1 ∨ ld = 41) (W : sa_w ld gA b0) {w c : Int} (h0 : 0 ≤ w) (h1 : w < b0 140 0) : zF_X0_howOften (ld + 10 + 2 * w.toNat) c gA = zF_X12_manyOf w c b0 := by
  have v := sa_len W h0 h1
  unfold zF_X0_howOften zF_X12_manyOf
  exact often_l hld W h0 h1 (b0 142 w.toNat - 0).toNat 3000000000 3000000000 0 0 rfl (by omega) (by omega) (by decide)
theorem ana_i (hld : ld = 1 ∨ ld = 41) (W : sa_w ld gA b0) {a w : Int} (a0 : 0 ≤ a) (a1 : a < b0 140 0) (h0 : 0 ≤ w) (h1 : w < b0 140 0) {l2 : Int} : ∀ (m k1 k2 : Nat) (l5 : Int), (27 - l5).toNat = m → m < k1 → m + 1 < k2 → zL_X0_isAnagram_2 (ld + 10 + 2 * w.toNat) (ld + 10 + 2 * a.toNat) gA k1 l5 = zL_X12_anagramsOf_20 a b0 k2 l2 w 1 l5 := by
  intro m
  induction m with
  | zero =>
    intro k1 k2 l5 hm hk1 hk2
    obtain ⟨k1, rfl⟩ : ∃ k, k1 = k + 1 := ⟨k1 - 1, by omega⟩
    obtain ⟨k2, rfl⟩ : ∃ k, k2 = k + 1 := ⟨k2 - 1, by omega⟩
    rw [zL_X0_isAnagram_2_s, zL_X12_anagramsOf_20_s]
    unfold zB_X0_isAnagram_2 zB_X12_anagramsOf_20
    rw [if_pos (by omega), if_pos (by omega)]
  | succ m ih =>
    intro k1 k2 l5 hm hk1 hk2
    obtain ⟨k1, rfl⟩ : ∃ k, k1 = k + 1 := ⟨k1 - 1, by omega⟩
    obtain ⟨k2, rfl⟩ : ∃ k, k2 = k + 1 := ⟨k2 - 1, by omega⟩
    rw [zL_X0_isAnagram_2_s, zL_X12_anagramsOf_20_s]
    unfold zB_X0_isAnagram_2 zB_X12_anagramsOf_20 zJ_X12_anagramsOf_54
    simp only [zf_lq]
    have q1 : ¬ 26 < l5 := by omega
    rw [if_neg q1, if_neg q1, i10, often_k hld W h0 h1, often_k hld W a0 a1]
    by_cases y : zF_X12_manyOf w l5 b0 = zF_X12_manyOf a l5 b0
    · rw [if_pos y, if_pos y]
      exact ih k1 k2 (l5 + 1) (by omega) (by omega) (by omega)
    · rw [if_neg y, if_neg y]
      obtain ⟨k2, rfl⟩ : ∃ k, k2 = k + 1 := ⟨k2 - 1, by omega⟩
      rw [zL_X12_anagramsOf_20_s]
      unfold zB_X12_anagramsOf_20
      by_cases z : 26 < l5 + 1
      · rw [if_pos z]
      · rw [if_neg z, if_pos rfl]
theorem ana_o (hld : ld = 1 ∨ ld = 41) (W : sa_w ld gA b0) {a : Int} (a0 : 0 ≤ a) (a1 : a < b0 140 0) : ∀ (m k1 k2 : Nat) (l2 l3 : Int), (b0 140 0 - l3).toNat = m → m < k1 → m < k2 → 0 ≤ l3 → zL_X10_anagrams_4 (ld + 1) a gA k1 l2 l3 = zL_X12_anagramsOf_4 a b0 k2 l2 l3 := by
  have l8 := W.2.2.1
  intro m
  induction m with
  | zero =>
    intro k1 k2 l2 l3 hm hk1 hk2 hl
    obtain ⟨k1, rfl⟩ : ∃ k, k1 = k + 1 := ⟨k1 - 1, by omega⟩
    obtain ⟨k2, rfl⟩ : ∃ k, k2 = k + 1 := ⟨k2 - 1, by omega⟩
    rw [zL_X10_anagrams_4_s, zL_X12_anagramsOf_4_s]
    unfold zB_X10_anagrams_4 zB_X12_anagramsOf_4
    simp only [zf_lq]
    rw [W.1, if_neg (by omega), if_neg (by omega)]
  | succ m ih =>
    intro k1 k2 l2 l3 hm hk1 hk2 hl
    obtain ⟨k1, rfl⟩ : ∃ k, k1 = k + 1 := ⟨k1 - 1, by omega⟩
    obtain ⟨k2, rfl⟩ : ∃ k, k2 = k + 1 := ⟨k2 - 1, by omega⟩
    rw [zL_X10_anagrams_4_s, zL_X12_anagramsOf_4_s]
    unfold zB_X10_anagrams_4 zJ_X10_anagrams_36 zB_X12_anagramsOf_4 zJ_X12_anagramsOf_62 zJ_X12_anagramsOf_75
    simp only [zf_lq]
    have q1 : l3 < b0 140 0 := by omega
    rw [W.1, if_pos q1, if_pos q1, of_w hl (by omega), of_w a0 (by omega)]
    have e : zF_X0_isAnagram (ld + 10 + 2 * l3.toNat) (ld + 10 + 2 * a.toNat) gA = zL_X12_anagramsOf_20 a b0 3000000000 l2 l3 1 1 := by
      unfold zF_X0_isAnagram
      exact ana_i hld W a0 a1 hl (by omega) (27 - 1 : Int).toNat 3000000000 3000000000 1 rfl (by decide) (by decide)
    rw [e]
    generalize zL_X12_anagramsOf_20 a b0 3000000000 l2 l3 1 1 = v
    by_cases y : v = 0
    · rw [if_pos y, if_pos y]
      exact ih k1 k2 _ (l3 + 1) (by omega) (by omega) (by omega) (by omega)
    · rw [if_neg y, if_neg y]
      exact ih k1 k2 _ (l3 + 1) (by omega) (by omega) (by omega) (by omega)
theorem ana_k (hld : ld = 1 ∨ ld = 41) (W : sa_w ld gA b0) {a : Int} (a0 : 0 ≤ a) (a1 : a < b0 140 0) : zF_X10_anagrams (ld + 1) a gA = zF_X12_anagramsOf a b0 := by
  have l8 := W.2.2.1
  unfold zF_X10_anagrams zF_X12_anagramsOf
  exact ana_o hld W a0 a1 (b0 140 0 - 0).toNat 3000000000 3000000000 0 0 rfl (by omega) (by omega) (by decide)
/-- within -/
theorem wit_l (hld : ld = 1 ∨ ld = 41) (W : sa_w ld gA b0) {a : Int} (a0 : 0 ≤ a) (a1 : a < b0 140 0) : ∀ (m k1 k2 : Nat) (l2 l3 : Int) (h : mz_G), (b0 140 0 - l3).toNat = m → m < k1 → m < k2 → 0 ≤ l3 → (∀ p q : Nat, p ≠ 157 → p ≠ 158 → ¬ (p = 137 ∧ (q = 36 ∨ q = 37)) → h p q = b0 p q) → h 137 37 = b0 142 a.toNat → (∀ j : Nat, (j : Int) < b0 142 a.toNat → h 158 j = wt b0 a j) → ∃ h1, zL_X12_withinOf_17 a k2 l2 l3 h = (zL_X10_within_4 (ld + 1) a gA k1 l2 l3, h1) ∧ h1 137 2 = b0 137 2 := by
  have l8 := W.2.2.1
  have va := sa_len W a0 a1
  have za := ln_w hld (w := a.toNat) (by omega)
  intro m
  induction m with
  | zero =>
    intro k1 k2 l2 l3 h hm hk1 hk2 hl f e37 t
    obtain ⟨k1, rfl⟩ : ∃ k, k1 = k + 1 := ⟨k1 - 1, by omega⟩
    obtain ⟨k2, rfl⟩ : ∃ k, k2 = k + 1 := ⟨k2 - 1, by omega⟩
    rw [zL_X10_within_4_s, zL_X12_withinOf_17_s]
    unfold zB_X10_within_4 zB_X12_withinOf_17
    simp only [zf_lq]
    rw [W.1, f 140 0 (by decide) (by decide) (by decide), if_neg (by omega), if_neg (by omega)]
    exact ⟨h, rfl, f _ _ (by decide) (by decide) (by decide)⟩
  | succ m ih =>
    intro k1 k2 l2 l3 h hm hk1 hk2 hl f e37 t
    obtain ⟨k1, rfl⟩ : ∃ k, k1 = k + 1 := ⟨k1 - 1, by omega⟩
    obtain ⟨k2, rfl⟩ : ∃ k, k2 = k + 1 := ⟨k2 - 1, by omega⟩
    rw [zL_X10_within_4_s, zL_X12_withinOf_17_s]
    unfold zB_X10_within_4 zJ_X10_within_36 zB_X12_withinOf_17 zJ_X12_withinOf_55
    simp only [zf_lq]
    have hl3 : l3 < b0 140 0 := by omega
    rw [W.1, f 140 0 (by decide) (by decide) (by decide), if_pos hl3, if_pos hl3, of_w hl (by omega), of_w a0 (by omega)]
    have v := sa_len W hl hl3
    have zv := ln_w hld (w := l3.toNat) (by omega)
    have h142 : h 142 l3.toNat = b0 142 l3.toNat := f _ _ (by decide) (by decide) (by omega)
    obtain ⟨h6, e6, t6, f6⟩ := winto_B (q1 := 157) (nq := 16) (b0 := h) (w := l3) (by decide) hl (by rw [h142]; exact v.2.2)
    rw [h142] at e6 t6
    rw [e6]
    unfold zf_m2
    dsimp only
    have o7 : ∀ p q : Nat, p ≠ 157 → ¬ (p = 137 ∧ q = 36) → mz_up h6 137 36 (b0 142 l3.toNat) p q = h p q := fun p q z1 z2 => (mz_up_ne z2).trans (f6 p q z1)
    have e36 : mz_up h6 137 36 (b0 142 l3.toNat) 137 36 = b0 142 l3.toNat := mz_up_at ..
    have t7 : ∀ j : Nat, (j : Int) < b0 142 l3.toNat → mz_up h6 137 36 (b0 142 l3.toNat) 157 j = wt b0 l3 j := fun j hj => (up_k (by decide)).trans ((t6 j hj).trans (f _ _ (by decide) (by decide) (by omega)))
    generalize mz_up h6 137 36 (b0 142 l3.toNat) = h7 at *
    have p37 : h7 137 37 = b0 142 a.toNat := (o7 _ _ (by decide) (by decide)).trans e37
    have s158 : ∀ j : Nat, (j : Int) < b0 142 a.toNat → h7 158 j = wt b0 a j := fun j hj => (o7 _ _ (by decide) (by omega)).trans (t j hj)
    have f7 : ∀ p q : Nat, p ≠ 157 → p ≠ 158 → ¬ (p = 137 ∧ (q = 36 ∨ q = 37)) → h7 p q = b0 p q := fun p q z1 z2 z3 => (o7 p q z1 (by omega)).trans (f p q z1 z2 z3)
    obtain ⟨A1, A2⟩ := holds_A (g := gA) (q0 := ld + 10 + 2 * l3.toNat) (q1 := ld + 10 + 2 * a.toNat) (by rw [zv, v.1]; omega) (by rw [za, va.1]; omega) (by rw [va.1]; omega)
    obtain ⟨B1, B2⟩ := within_B (g := h7) (by rw [e36]; omega) (by rw [p37]; omega)
    have C : tw (gA (ld + 10 + 2 * l3.toNat + 1)) (gA (ld + 10 + 2 * a.toNat + 1)) (gA (ld + 10 + 2 * l3.toNat) 1) (gA (ld + 10 + 2 * a.toNat) 1) 0 ↔ tw (h7 157) (h7 158) (h7 137 36) (h7 137 37) 0 := by
      rw [v.1, va.1, e36, p37]
      exact Iff.trans (tw_c (p := wt b0 l3) (q := wt b0 a) (by decide) (fun j hj => wt_A W hl hl3 hj) (fun j hj => wt_A W a0 a1 hj)) (tw_c (by decide) t7 s158).symm
    by_cases y : tw (h7 157) (h7 158) (h7 137 36) (h7 137 37) 0
    · rw [A1 (C.mpr y), B1 y, i10, i10]
      exact ih k1 k2 _ (l3 + 1) h7 (by omega) (by omega) (by omega) (by omega) f7 p37 s158
    · rw [A2 (fun z => y (C.mp z)), B2 y, i00, i00]
      exact ih k1 k2 _ (l3 + 1) h7 (by omega) (by omega) (by omega) (by omega) f7 p37 s158
theorem wit_k (hld : ld = 1 ∨ ld = 41) (W : sa_w ld gA b0) {a : Int} (a0 : 0 ≤ a) (a1 : a < b0 140 0) : ∃ h1, zF_X12_withinOf a b0 = (zF_X10_within (ld + 1) a gA, h1) ∧ h1 137 2 = b0 137 2 := by
  have l8 := W.2.2.1
  have va := sa_len W a0 a1
  unfold zF_X12_withinOf zF_X10_within
  obtain ⟨h2, e, t, f⟩ := winto_B (q1 := 158) (nq := 16) (b0 := b0) (w := a) (by decide) a0 va.2.2
  rw [e]
  unfold zf_m2
  dsimp only
  simp only [zf_lq]
  exact wit_l hld W a0 a1 (b0 140 0 - 0).toNat 3000000000 3000000000 0 0 _ rfl (by omega) (by omega) (by decide) (fun p q z1 z2 z3 => (mz_up_ne (by omega)).trans (f p q z2)) (mz_up_at ..) (fun j hj => (up_k (by decide)).trans (t j hj))
/-- the trunks of a word -/
def wf (b0 : mz_G) (a : Int) (t : Nat) : Bool := decide (b0 153 t = a ∨ b0 154 t = a)
theorem mk_0 {f : Nat → Bool} {n : Nat} (hn : n ≤ 6) : mz_orI (mk_m f n) 0 = mk_m f n := by
  obtain ⟨a, e, l, -⟩ := mk_b (f := f) n hn
  have c : 2 ^ n ≤ 64 := Nat.pow_le_pow_right (n := 2) (by decide) hn
  rw [e]
  exact orz_0 ⟨a, by omega⟩
theorem with_A (k0 : ru x gA b0) {a : Int} : ∀ (m k i : Nat) (l2 l3 : Int), (b0 140 1 - l3).toNat = m → m < k → (i : Int) = l3 → l3 ≤ b0 140 1 → l2 = mk_m (wf b0 a) i → zL_X11_trunksWith_4 x a gA k l2 l3 = mk_m (wf b0 a) (b0 140 1).toNat := by
  have n2 : gA 87 2 = b0 140 1 := k0.2.2.2.1.1.1
  have c6 : b0 140 1 ≤ 6 := k0.2.2.1.1.2
  intro m
  induction m with
  | zero =>
    intro k i l2 l3 hm hk hi hl e
    obtain ⟨k, rfl⟩ : ∃ k1, k = k1 + 1 := ⟨k - 1, by omega⟩
    rw [zL_X11_trunksWith_4_s]
    unfold zB_X11_trunksWith_4 zF_X11_trunkCount
    simp only [zf_lq]
    rw [n2, if_neg (by omega), e, show i = (b0 140 1).toNat by omega]
  | succ m ih =>
    intro k i l2 l3 hm hk hi hl e
    obtain ⟨k, rfl⟩ : ∃ k1, k = k1 + 1 := ⟨k - 1, by omega⟩
    rw [zL_X11_trunksWith_4_s]
    unfold zB_X11_trunksWith_4 zJ_X11_trunksWith_43 zJ_X11_trunksWith_49 zF_X11_trunkCount
    simp only [zf_lq]
    obtain ⟨-, ⟨e0, e1, -, -, -⟩, -, -, -, t6⟩ := now_t k0 (t := l3) (by omega) (by omega)
    rw [n2, if_pos (by omega), get_A (by omega) t6, e0, e1, show l3.toNat = i by omega]
    have P : wf b0 a i = true → zL_X11_trunksWith_4 x a gA k (mz_orI l2 (mz_shlI 1 l3)) (l3 + 1) = mk_m (wf b0 a) (b0 140 1).toNat := fun w => by
      refine ih k (i + 1) _ (l3 + 1) (by omega) (by omega) (by omega) (by omega) ?_
      unfold mk_m
      rw [if_pos w, e, hi]
    by_cases z : b0 153 i = a
    · rw [if_pos z]
      exact P (decide_eq_true (Or.inl z))
    · rw [if_neg z]
      by_cases z2 : b0 154 i = a
      · rw [if_pos z2]
        exact P (decide_eq_true (Or.inr z2))
      · rw [if_neg z2]
        refine ih k (i + 1) _ (l3 + 1) (by omega) (by omega) (by omega) (by omega) ?_
        have w : ¬ wf b0 a i = true := fun y => by
          rcases of_decide_eq_true y with u | u
          · exact z u
          · exact z2 u
        show l2 = mz_orI (mk_m (wf b0 a) i) (if wf b0 a i = true then mz_shlI 1 (i : Int) else 0)
        rw [if_neg w, mk_0 (by omega), e]
/-- the reference: the trunks first, then what is asked -/
theorem word_l {a1 a2 : Int} (c6 : b0 140 1 ≤ 6) : ∀ (m k i : Nat) (l3 l4 : Int), (b0 140 1 - l4).toNat = m → m < k → (i : Int) = l4 → l4 ≤ b0 140 1 → l3 = mk_m (wf b0 a1) i → zL_X12_word_61 a1 a2 b0 k l3 l4 = if a2 = 2 then (zf_m2 (zF_X12_withinOf a1 b0) fun v13 g14 => (v13, g14)) else if a2 = 3 then (zF_X12_anagramsOf a1 b0, b0) else (mk_m (wf b0 a1) (b0 140 1).toNat, b0) := by
  intro m
  induction m with
  | zero =>
    intro k i l3 l4 hm hk hi hl e
    obtain ⟨k, rfl⟩ : ∃ k1, k = k1 + 1 := ⟨k - 1, by omega⟩
    rw [zL_X12_word_61_s]
    unfold zB_X12_word_61
    simp only [zf_lq]
    rw [if_neg (by omega), e, show i = (b0 140 1).toNat by omega]
  | succ m ih =>
    intro k i l3 l4 hm hk hi hl e
    obtain ⟨k, rfl⟩ : ∃ k1, k = k1 + 1 := ⟨k - 1, by omega⟩
    rw [zL_X12_word_61_s]
    unfold zB_X12_word_61 zJ_X12_word_95 zJ_X12_word_103
    simp only [zf_lq]
    rw [if_pos (by omega), show l4.toNat = i by omega]
    have P : wf b0 a1 i = true → mz_orI l3 (mz_shlI 1 l4) = mk_m (wf b0 a1) (i + 1) := fun w => by
      unfold mk_m
      rw [if_pos w, e, hi]
    by_cases z : b0 153 i = a1
    · rw [if_pos z]
      exact ih k (i + 1) _ (l4 + 1) (by omega) (by omega) (by omega) (by omega) (P (decide_eq_true (Or.inl z)))
    · rw [if_neg z]
      by_cases z2 : b0 154 i = a1
      · rw [if_pos z2]
        exact ih k (i + 1) _ (l4 + 1) (by omega) (by omega) (by omega) (by omega) (P (decide_eq_true (Or.inr z2)))
      · rw [if_neg z2]
        refine ih k (i + 1) _ (l4 + 1) (by omega) (by omega) (by omega) (by omega) ?_
        have w : ¬ wf b0 a1 i = true := fun y => by
          rcases of_decide_eq_true y with u | u
          · exact z u
          · exact z2 u
        show mz_orI l3 0 = mz_orI (mk_m (wf b0 a1) i) (if wf b0 a1 i = true then mz_shlI 1 (i : Int) else 0)
        rw [if_neg w, e]
theorem word_a (hx : mk_x x) (k : ru x gA gB) {a1 a2 : Int} : ka (zF_X11_word x a1 a2 gA) (zF_X12_word a1 a2 gB) := by
  have hld : x.1 = 1 ∨ x.1 = 41 := by unfold mk_x at hx; omega
  have k1 := ru_2 (v := 0) k
  unfold zF_X11_word zF_X12_word zJ_X11_word_21 zJ_X11_word_22 zJ_X12_word_25
  simp only [zf_lq]
  rw [isW_A, isW_B, isI_B, mb_0, mb_1]
  generalize hb : mz_up gB 137 2 0 = b1 at *
  have c0 : b1 137 2 = 0 := by rw [← hb, mz_up_at]
  clear k hb
  have W : sa_w x.1 gA b1 := k1.2.1.1
  have c6 : b1 140 1 ≤ 6 := k1.2.2.1.1.2
  have n0 : 0 ≤ b1 140 1 := k1.2.2.1.1.1
  rw [W.1]
  by_cases h1 : 0 ≤ a1 ∧ a1 < b1 140 0
  · rw [if_pos h1, i10, i10]
    by_cases h2 : 0 ≤ a2 ∧ a2 ≤ 4
    · rw [if_neg (show ¬ a2 < 0 by omega), if_neg (show ¬ 4 < a2 by omega), if_pos h2, i10]
      by_cases y0 : a2 = 0
      · rw [if_pos y0, if_pos (show a2 < 2 by omega), if_pos y0]
        exact ka_0 c0 (wlen W h1.1 h1.2)
      · rw [if_neg y0]
        by_cases y1 : a2 = 1
        · rw [if_pos y1, if_pos (show a2 < 2 by omega), if_neg y0]
          exact ka_0 c0 (firm_w W h1.1 h1.2)
        · rw [if_neg y1, if_neg (show ¬ a2 < 2 by omega), word_l c6 (b1 140 1 - 0).toNat 3000000000 0 0 0 rfl (by omega) rfl n0 rfl]
          by_cases y2 : a2 = 2
          · rw [if_pos y2, if_pos y2]
            obtain ⟨h3, e, c3⟩ := wit_k hld W h1.1 h1.2
            rw [e]
            exact ka_0 (c3.trans c0) rfl
          · rw [if_neg y2, if_neg y2]
            by_cases y3 : a2 = 3
            · rw [if_pos y3, if_pos y3]
              exact ka_0 c0 (ana_k hld W h1.1 h1.2)
            · rw [if_neg y3, if_neg y3]
              refine ka_0 c0 ?_
              unfold zF_X11_trunksWith
              exact with_A k1 (b1 140 1 - 0).toNat 3000000000 0 0 0 rfl (by omega) rfl n0 rfl
    · rw [if_neg h2, i00]
      by_cases y : a2 < 0
      · rw [if_pos y]
        exact ka_fail (c := 1) rfl (by decide)
      · rw [if_neg y, if_pos (show 4 < a2 by omega)]
        exact ka_fail (c := 1) rfl (by decide)
  · rw [if_neg h1, i00, i00]
    exact ka_fail (c := 1) rfl (by decide)
end WO
