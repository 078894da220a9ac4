/-! SPELLING by the functions -/
theorem sl_b {q : Nat} (hq : q < 28) : mz_sl q ≤ 7 := mz_sl_k ⟨q, hq⟩
theorem J0_length {q : Nat} (hq : q < 28) (g : mz_G) : zF_J0_length q g = (mz_sl q : Int) := by
  unfold zF_J0_length zF_J0_coder zf_l
  have h := sl_b hq
  exact mz_shr0 (if_neg (by decide)) (by omega) (by omega)
theorem J0_latin {q : Nat} {g : mz_G} : zF_J0_isLatin1 q g = 1 := by
  unfold zF_J0_isLatin1
  rw [if_neg (by decide), if_pos rfl]
theorem J0_charAt {q : Nat} (hq : q < 28) {g : mz_G} (hs : mz_str g) {i : Int} (h0 : 0 ≤ i) (h1 : i < (mz_sl q : Int)) : zF_J0_charAt q i g = mz_sy q i.toNat := by
  unfold zF_J0_charAt
  rw [zf_lq, J0_latin, if_neg (by decide), zf_lq]
  unfold zF_J1_charAt
  simp only [zf_lq]
  unfold zF_J0_checkIndex
  rw [zf_lq, hs _ _ hq]
  exact mz_sy_a hq (by omega)
theorem L7_spells {q : Nat} (hq : q < 28) {g : mz_G} (hs : mz_str g) (hb : 0 ≤ g 82 5) (he : g 82 5 + (mz_sl q : Int) ≤ 700) : ∀ (m k : Nat) (l : Int), ((mz_sl q : Int) - l).toNat < m → m ≤ k → 0 ≤ l → l ≤ (mz_sl q : Int) → ((∀ i : Nat, l ≤ (i : Int) → i < mz_sl q → mz_cb g (g 82 5 + (i : Int)) = mz_sy q i) → zL_X7_spells_23 q g k l = 1) ∧ (¬ (∀ i : Nat, l ≤ (i : Int) → i < mz_sl q → mz_cb g (g 82 5 + (i : Int)) = mz_sy q i) → zL_X7_spells_23 q g k l = 0)
  | 0, _, _, h, _, _, _ => absurd h (by omega)
  | m + 1, 0, _, _, h, _, _ => absurd h (by omega)
  | m + 1, k + 1, l, hm, hk, h0, h1 => by
    rw [zL_X7_spells_23_s]
    unfold zB_X7_spells_23
    simp only [zf_lq]
    rw [J0_length hq]
    by_cases h : l < (mz_sl q : Int)
    · rw [if_pos h, X7_byteAt (by omega) (by omega), J0_charAt hq hs h0 h]
      by_cases e : mz_cb g (g 82 5 + l) = mz_sy q l.toNat
      · rw [if_pos e]
        obtain ⟨i1, i2⟩ := L7_spells hq hs hb he m k (l + 1) (by omega) (by omega) (by omega) (by omega)
        refine ⟨fun z => i1 (fun i a b => z i (by omega) b), fun z => i2 (fun y => z (fun i a b => ?_))⟩
        rcases (by omega : (i : Int) = l ∨ l + 1 ≤ (i : Int)) with w | w
        · rw [w, e, show l.toNat = i by omega]
        · exact y i w b
      · rw [if_neg e]
        refine ⟨fun z => absurd ?_ e, fun _ => rfl⟩
        have := z l.toNat (by omega) (by omega)
        rw [show ((l.toNat : Nat) : Int) = l by omega] at this
        exact this
    · rw [if_neg h]
      exact ⟨fun _ => rfl, fun z => absurd (fun i a b => absurd a (by omega)) z⟩
theorem X7_spells {q : Nat} (hq : q < 28) {g : mz_G} (hs : mz_str g) (hb : 0 ≤ g 82 5) (h1 : g 82 5 ≤ g 82 3) (h2 : g 82 3 ≤ 700) : (tk_sp (mz_cb g) (g 82 4) (g 82 5) (g 82 3) q → zF_X7_spells q g = 1) ∧ (¬ tk_sp (mz_cb g) (g 82 4) (g 82 5) (g 82 3) q → zF_X7_spells q g = 0) := by
  unfold zF_X7_spells zF_X7_tokenSize zJ_X7_spells_19
  simp only [zf_lq]
  rw [J0_length hq]
  by_cases h : g 82 4 = 1
  · rw [if_pos h]
    by_cases h3 : g 82 3 - g 82 5 = (mz_sl q : Int)
    · rw [if_pos h3]
      have hl := sl_b hq
      obtain ⟨i1, i2⟩ := L7_spells hq hs hb (by omega) 100 3000000000 0 (by omega) (by decide) (Int.le_refl _) (by omega)
      exact ⟨fun z => i1 (fun i _ b => z.2.2 i (by omega)), fun z => i2 (fun y => z ⟨h, h3, fun i hi => y i (by omega) (by omega)⟩)⟩
    · rw [if_neg h3]
      exact ⟨fun z => absurd z.2.1 h3, fun _ => rfl⟩
  · rw [if_neg h]
    exact ⟨fun z => absurd z.1 h, fun _ => rfl⟩
theorem L12_is {q : Nat} (hq : q < 28) {g : mz_G} (hs : mz_str g) : ∀ (m k : Nat) (t l : Int), ((mz_sl q : Int) - l).toNat < m → m ≤ k → 0 ≤ l → l ≤ (mz_sl q : Int) → (t = 0 → zL_X12_is_39 q g k t l = 0) ∧ (t = 1 → ((∀ i : Nat, l ≤ (i : Int) → i < mz_sl q → mz_rb g (g 137 20 + (i : Int)) = mz_sy q i) → zL_X12_is_39 q g k t l = 1) ∧ (¬ (∀ i : Nat, l ≤ (i : Int) → i < mz_sl q → mz_rb g (g 137 20 + (i : Int)) = mz_sy q i) → zL_X12_is_39 q g k t l = 0))
  | 0, _, _, _, h, _, _, _ => absurd h (by omega)
  | m + 1, 0, _, _, _, h, _, _ => absurd h (by omega)
  | m + 1, k + 1, t, l, hm, hk, h0, h1 => by
    rw [zL_X12_is_39_s]
    unfold zB_X12_is_39 zJ_X12_is_82
    simp only [zf_lq]
    rw [J0_length hq]
    refine ⟨fun z => by rw [if_pos z]; exact z, fun z => ?_⟩
    rw [if_neg (by omega)]
    by_cases h : l < (mz_sl q : Int)
    · rw [if_pos h, J0_charAt hq hs h0 h]
      show ((∀ i : Nat, l ≤ (i : Int) → i < mz_sl q → mz_rb g (g 137 20 + (i : Int)) = mz_sy q i) → (if mz_sy q l.toNat = mz_rb g (g 137 20 + l) then zL_X12_is_39 q g k 1 (l + 1) else zL_X12_is_39 q g k 0 (l + 1)) = 1) ∧ (¬ (∀ i : Nat, l ≤ (i : Int) → i < mz_sl q → mz_rb g (g 137 20 + (i : Int)) = mz_sy q i) → (if mz_sy q l.toNat = mz_rb g (g 137 20 + l) then zL_X12_is_39 q g k 1 (l + 1) else zL_X12_is_39 q g k 0 (l + 1)) = 0)
      by_cases e : mz_sy q l.toNat = mz_rb g (g 137 20 + l)
      · rw [if_pos e]
        obtain ⟨-, i3⟩ := L12_is hq hs m k 1 (l + 1) (by omega) (by omega) (by omega) (by omega)
        obtain ⟨i1, i2⟩ := i3 rfl
        refine ⟨fun z => i1 (fun i a b => z i (by omega) b), fun z => i2 (fun y => z (fun i a b => ?_))⟩
        rcases (by omega : (i : Int) = l ∨ l + 1 ≤ (i : Int)) with w | w
        · rw [w, ← e, show l.toNat = i by omega]
        · exact y i w b
      · rw [if_neg e]
        obtain ⟨i3, -⟩ := L12_is hq hs m k 0 (l + 1) (by omega) (by omega) (by omega) (by omega)
        refine ⟨fun z => absurd ?_ e, fun _ => i3 rfl⟩
        have := z l.toNat (by omega) (by omega)
        rw [show ((l.toNat : Nat) : Int) = l by omega] at this
        exact this.symm
    · rw [if_neg h, z]
      exact ⟨fun _ => rfl, fun y => absurd (fun i a b => absurd a (by omega)) y⟩
theorem X12_is {q : Nat} (hq : q < 28) {g : mz_G} (hs : mz_str g) (he : g 137 21 = g 137 16) : ((g 137 22 = 0 ∧ tk_sp (mz_rb g) (g 137 18) (g 137 20) (g 137 16) q) → zF_X12_is q g = 1) ∧ (¬ (g 137 22 = 0 ∧ tk_sp (mz_rb g) (g 137 18) (g 137 20) (g 137 16) q) → zF_X12_is q g = 0) := by
  unfold zF_X12_is zJ_X12_is_35 zJ_X12_is_36
  simp only [zf_lq]
  rw [J0_length hq, he]
  have hl := sl_b hq
  have i0 := (L12_is hq hs 100 3000000000 0 0 (by omega) (by decide) (Int.le_refl _) (by omega)).1 rfl
  by_cases h0 : g 137 22 = 0
  · rw [if_pos h0]
    by_cases h : g 137 18 = 1
    · rw [if_pos h]
      by_cases h3 : (mz_sl q : Int) = g 137 16 - g 137 20
      · rw [if_pos h3]
        obtain ⟨i1, i2⟩ := (L12_is hq hs 100 3000000000 1 0 (by omega) (by decide) (Int.le_refl _) (by omega)).2 rfl
        exact ⟨fun z => i1 (fun i _ b => z.2.2.2 i (by omega)), fun z => i2 (fun y => z ⟨h0, h, h3.symm, fun i hi => y i (by omega) (by omega)⟩)⟩
      · rw [if_neg h3]
        exact ⟨fun z => absurd z.2.2.1.symm h3, fun _ => i0⟩
    · rw [if_neg h]
      exact ⟨fun z => absurd z.2.1 h, fun _ => i0⟩
  · rw [if_neg h0]
    exact ⟨fun z => absurd z.1 h0, fun _ => i0⟩
/-- the reference's word now is this constant's -/
def rq_w (g : mz_G) (q : Nat) : Prop := g 137 22 = 0 ∧ tk_sp (mz_rb g) (g 137 18) (g 137 20) (g 137 16) q
theorem L12_which {q n : Nat} {g : mz_G} (hs : mz_str g) (he : g 137 21 = g 137 16) (hn : n ≤ 7) (hq : ∀ j, j < n → sa_i q + j < 28) : ∀ (m k : Nat) (l : Int), ((n : Int) - l).toNat < m → m ≤ k → 0 ≤ l → l ≤ (n : Int) → (zL_X12_which_2 q n g k l = -1 ∧ ∀ j : Nat, l ≤ (j : Int) → j < n → ¬ rq_w g (sa_i q + j)) ∨ ∃ j : Nat, j < n ∧ zL_X12_which_2 q n g k l = (j : Int) ∧ rq_w g (sa_i q + j) ∧ ∀ i : Nat, l ≤ (i : Int) → i < j → ¬ rq_w g (sa_i q + i)
  | 0, _, _, h, _, _, _ => absurd h (by omega)
  | m + 1, 0, _, _, h, _, _ => absurd h (by omega)
  | m + 1, k + 1, l, hm, hk, h0, h1 => by
    rw [show zL_X12_which_2 q n g (k + 1) l = zB_X12_which_2 q n g (zL_X12_which_2 q n g k) l from rfl]
    unfold zB_X12_which_2
    simp only [zf_lq]
    by_cases h : l < (n : Int)
    · rw [if_pos h]
      obtain ⟨i1, i2⟩ := X12_is (hq l.toNat (by omega)) hs he
      by_cases w : rq_w g (sa_i q + l.toNat)
      · rw [i1 w, if_neg (by decide)]
        exact Or.inr ⟨l.toNat, by omega, by omega, w, fun i a b => by omega⟩
      · rw [i2 w, if_pos rfl]
        rcases L12_which hs he hn hq m k (l + 1) (by omega) (by omega) (by omega) (by omega) with ⟨e, f⟩ | ⟨j, e1, e2, e3, e4⟩
        · refine Or.inl ⟨e, fun j a b => ?_⟩
          rcases (by omega : (j : Int) = l ∨ l + 1 ≤ (j : Int)) with z | z
          · rw [show j = l.toNat by omega]; exact w
          · exact f j z b
        · refine Or.inr ⟨j, e1, e2, e3, fun i a b => ?_⟩
          rcases (by omega : (i : Int) = l ∨ l + 1 ≤ (i : Int)) with z | z
          · rw [show i = l.toNat by omega]; exact w
          · exact e4 i z b
    · rw [if_neg h]
      exact Or.inl ⟨rfl, fun j a b => absurd a (by omega)⟩
theorem X12_which {q n : Nat} (hm : mk_sa q n) {g : mz_G} (hs : mz_str g) (he : g 137 21 = g 137 16) : (zF_X12_which q n g = -1 ∧ ∀ j : Nat, j < n → ¬ rq_w g (sa_i q + j)) ∨ ∃ j : Nat, j < n ∧ zF_X12_which q n g = (j : Int) ∧ rq_w g (sa_i q + j) ∧ ∀ i : Nat, i < j → ¬ rq_w g (sa_i q + i) := by
  have hn : n ≤ 7 := by rcases hm with ⟨_, rfl⟩ | ⟨_, rfl⟩ <;> decide
  have hq : ∀ j, j < n → sa_i q + j < 28 := by
    intro j hj
    unfold sa_i
    rcases hm with ⟨rfl, rfl⟩ | ⟨rfl, rfl⟩
    · rw [if_pos rfl]; omega
    · rw [if_neg (by decide)]; omega
  unfold zF_X12_which
  rcases L12_which hs he hn hq 100 3000000000 0 (by omega) (by decide) (Int.le_refl _) (by omega) with ⟨a, b⟩ | ⟨j, a, b, c, d⟩
  · exact Or.inl ⟨a, fun j hj => b j (by omega) hj⟩
  · exact Or.inr ⟨j, a, b, c, fun i hi => d i (by omega) hi⟩
theorem X12_isMarked {c : Int} {g : mz_G} : ((g 137 22 = 0 ∧ g 137 18 = 3 ∧ mz_rb g (g 137 20) = c) → zF_X12_isMarked c g = 1) ∧ (¬ (g 137 22 = 0 ∧ g 137 18 = 3 ∧ mz_rb g (g 137 20) = c) → zF_X12_isMarked c g = 0) := by
  unfold zF_X12_isMarked zJ_X12_isMarked_32
  simp only [zf_lq]
  show ((g 137 22 = 0 ∧ g 137 18 = 3 ∧ mz_rb g (g 137 20) = c) → (if g 137 22 = 0 then (if g 137 18 = 3 then (if mz_rb g (g 137 20) = c then (1 : Int) else 0) else 0) else 0) = 1) ∧ (¬ (g 137 22 = 0 ∧ g 137 18 = 3 ∧ mz_rb g (g 137 20) = c) → (if g 137 22 = 0 then (if g 137 18 = 3 then (if mz_rb g (g 137 20) = c then (1 : Int) else 0) else 0) else 0) = 0)
  constructor
  · rintro ⟨a, b, d⟩
    rw [if_pos a, if_pos b, if_pos d]
  · intro h
    by_cases a : g 137 22 = 0
    · rw [if_pos a]
      by_cases b : g 137 18 = 3
      · rw [if_pos b, if_neg (fun d => h ⟨a, b, d⟩)]
      · rw [if_neg b]
    · rw [if_neg a]
theorem X12_wrong {k : Int} {g : mz_G} : (g 137 22 = 0 → zF_X12_wrong k g = mz_up (mz_up g 137 22 k) 137 23 (g 137 20)) ∧ (g 137 22 ≠ 0 → zF_X12_wrong k g = g) := by
  unfold zF_X12_wrong
  simp only [zf_lq]
  constructor
  · intro h
    rw [if_pos h, show mz_up g 137 22 k 137 20 = g 137 20 from up_j (by decide)]
  · intro h
    rw [if_neg h]
