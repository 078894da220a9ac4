/-! a line that tells a WORD -/
theorem L0_matches {q0 q2 : Nat} {a n : Int} {g : mz_G} (ha : 0 ≤ a) (h0 : a + n ≤ (zf_ln q0 : Int)) (h2 : n ≤ (zf_ln q2 : Int)) : ∀ (m k : Nat) (l : Int), (n - l).toNat < m → m ≤ k → 0 ≤ l → ((∀ j : Nat, l ≤ (j : Int) → (j : Int) < n → g (q0 + 1) (a + (j : Int)).toNat = g (q2 + 1) j) → zL_X0_matches_3 q0 a q2 n g k l = 1) ∧ (¬ (∀ j : Nat, l ≤ (j : Int) → (j : Int) < n → g (q0 + 1) (a + (j : Int)).toNat = g (q2 + 1) j) → zL_X0_matches_3 q0 a q2 n g k l = 0)
  | 0, _, _, z, _, _ => absurd z (Nat.not_lt_zero _)
  | m + 1, 0, _, _, z, _ => absurd z (by omega)
  | m + 1, k + 1, l, hm, hk, hl => by
    rw [zL_X0_matches_3_s]
    unfold zB_X0_matches_3
    simp only [zf_lq]
    have b16 := zf_ln_le q0
    by_cases z : l < n
    · rw [if_pos z, mz_wrap_id ⟨by omega, by omega⟩, X11_at (by omega) (by omega), X11_at (by omega) (by omega)]
      by_cases e : g (q0 + 1) (a + l).toNat = g (q2 + 1) l.toNat
      · rw [if_pos e]
        obtain ⟨i1, i2⟩ := L0_matches ha h0 h2 m k (l + 1) (by omega) (by omega) (by omega)
        refine ⟨fun y => i1 (fun j a1 b1 => y j (by omega) b1), fun y => i2 (fun x => y (fun j a1 b1 => ?_))⟩
        rcases (by omega : (j : Int) = l ∨ l + 1 ≤ (j : Int)) with w | w
        · rw [w, e, show l.toNat = j by omega]
        · exact x j w b1
      · rw [if_neg e]
        refine ⟨fun y => absurd ?_ e, fun _ => rfl⟩
        have := y l.toNat (by omega) (by omega)
        rw [show ((l.toNat : Nat) : Int) = l by omega] at this
        exact this
    · rw [if_neg z]
      exact ⟨fun _ => rfl, fun y => absurd (fun j a1 b1 => by omega) y⟩
theorem X0_matches {q0 q2 : Nat} {a n : Int} {g : mz_G} (ha : 0 ≤ a) (h0 : a + n ≤ (zf_ln q0 : Int)) (h2 : n ≤ (zf_ln q2 : Int)) : ((∀ j : Nat, (j : Int) < n → g (q0 + 1) (a + (j : Int)).toNat = g (q2 + 1) j) → zF_X0_matches q0 a q2 n g = 1) ∧ (¬ (∀ j : Nat, (j : Int) < n → g (q0 + 1) (a + (j : Int)).toNat = g (q2 + 1) j) → zF_X0_matches q0 a q2 n g = 0) := by
  have b16 := zf_ln_le q2
  obtain ⟨i1, i2⟩ := L0_matches (q0 := q0) (q2 := q2) (g := g) ha h0 h2 100 3000000000 0 (by omega) (by decide) (Int.le_refl _)
  exact ⟨fun y => i1 (fun j _ b => y j b), fun y => i2 (fun x => y (fun j b => x j (by omega) b))⟩
/-- the same letters -/
def sm_k (g : mz_G) (q0 q1 : Nat) : Prop := g q0 1 = g q1 1 ∧ ∀ j : Nat, (j : Int) < g q0 1 → g (q0 + 1) j = g (q1 + 1) j
theorem X0_isSame {q0 q1 : Nat} {g : mz_G} (h0 : g q0 1 ≤ (zf_ln q0 : Int)) (h1 : g q1 1 ≤ (zf_ln q1 : Int)) : (sm_k g q0 q1 → zF_X0_isSame q0 q1 g = 1) ∧ (¬ sm_k g q0 q1 → zF_X0_isSame q0 q1 g = 0) := by
  unfold zF_X0_isSame zJ_X0_isSame_28
  simp only [zf_lq]
  by_cases e : g q0 1 = g q1 1
  · rw [if_pos e]
    obtain ⟨i1, i2⟩ := X0_matches (q0 := q0) (q2 := q1) (a := 0) (n := g q0 1) (g := g) (by decide) (by omega) (by omega)
    have ee : (∀ j : Nat, (j : Int) < g q0 1 → g (q0 + 1) (0 + (j : Int)).toNat = g (q1 + 1) j) ↔ (∀ j : Nat, (j : Int) < g q0 1 → g (q0 + 1) j = g (q1 + 1) j) := by
      have x : ∀ j : Nat, (0 + (j : Int)).toNat = j := fun j => by omega
      simp only [x]
    refine ⟨fun y => ?_, fun y => ?_⟩
    · rw [i1 (ee.mpr y.2), if_neg (by decide)]
    · rw [i2 (fun z => y ⟨e, ee.mp z⟩), if_pos rfl]
  · rw [if_neg e]
    exact ⟨fun y => absurd y.1 e, fun _ => rfl⟩
theorem X10_of {q0 : Nat} {i : Int} {g : mz_G} (h0 : 0 ≤ i) (h1 : i < 8) : zF_X10_of q0 i g = q0 + 9 + 2 * i.toNat := by
  unfold zF_X10_of
  simp only [zf_lq]
  rw [if_neg (by omega), if_pos (by omega)]
  omega
theorem L10_has {q0 q1 : Nat} {g : mz_G} (hc : g q0 3 ≤ 8) (hl : ∀ w : Nat, (w : Int) < g q0 3 → g (q0 + 9 + 2 * w) 1 ≤ (zf_ln (q0 + 9 + 2 * w) : Int)) (h1 : g q1 1 ≤ (zf_ln q1 : Int)) : ∀ (m k : Nat) (l : Int), (g q0 3 - l).toNat < m → m ≤ k → 0 ≤ l → ((∃ w : Nat, l ≤ (w : Int) ∧ (w : Int) < g q0 3 ∧ sm_k g (q0 + 9 + 2 * w) q1) → zL_X10_hasAlready_2 q0 q1 g k l = 1) ∧ ((¬ ∃ w : Nat, l ≤ (w : Int) ∧ (w : Int) < g q0 3 ∧ sm_k g (q0 + 9 + 2 * w) q1) → zL_X10_hasAlready_2 q0 q1 g k l = 0)
  | 0, _, _, z, _, _ => absurd z (Nat.not_lt_zero _)
  | m + 1, 0, _, _, z, _ => absurd z (by omega)
  | m + 1, k + 1, l, hm, hk, h0 => by
    rw [zL_X10_hasAlready_2_s]
    unfold zB_X10_hasAlready_2
    simp only [zf_lq]
    by_cases z : l < g q0 3
    · rw [if_pos z, X10_of h0 (by omega)]
      obtain ⟨s1, s2⟩ := X0_isSame (q0 := q0 + 9 + 2 * l.toNat) (q1 := q1) (g := g) (hl _ (by omega)) h1
      by_cases e : sm_k g (q0 + 9 + 2 * l.toNat) q1
      · rw [s1 e, if_neg (by decide)]
        exact ⟨fun _ => rfl, fun y => absurd ⟨l.toNat, by omega, by omega, e⟩ y⟩
      · rw [s2 e, if_pos rfl]
        obtain ⟨i1, i2⟩ := L10_has hc hl h1 m k (l + 1) (by omega) (by omega) (by omega)
        refine ⟨fun ⟨w, a, b, c⟩ => i1 ⟨w, ?_, b, c⟩, fun y => i2 (fun ⟨w, a, b, c⟩ => y ⟨w, by omega, b, c⟩)⟩
        rcases (by omega : (w : Int) = l ∨ l + 1 ≤ (w : Int)) with x | x
        · exact absurd (by rw [show l.toNat = w by rw [← x]; exact Int.toNat_natCast w]; exact c) e
        · exact x
    · rw [if_neg z]
      exact ⟨fun ⟨w, a, b, c⟩ => absurd z (by omega), fun _ => rfl⟩
theorem X10_has {q0 q1 : Nat} {g : mz_G} (hc : g q0 3 ≤ 8) (hl : ∀ w : Nat, (w : Int) < g q0 3 → g (q0 + 9 + 2 * w) 1 ≤ (zf_ln (q0 + 9 + 2 * w) : Int)) (h1 : g q1 1 ≤ (zf_ln q1 : Int)) : ((∃ w : Nat, (w : Int) < g q0 3 ∧ sm_k g (q0 + 9 + 2 * w) q1) → zF_X10_hasAlready q0 q1 g = 1) ∧ ((¬ ∃ w : Nat, (w : Int) < g q0 3 ∧ sm_k g (q0 + 9 + 2 * w) q1) → zF_X10_hasAlready q0 q1 g = 0) := by
  obtain ⟨i1, i2⟩ := L10_has hc hl h1 100 3000000000 0 (by omega) (by decide) (Int.le_refl _)
  exact ⟨fun ⟨w, a, b⟩ => i1 ⟨w, by omega, a, b⟩, fun y => i2 (fun ⟨w, _, a, b⟩ => y ⟨w, a, b⟩)⟩
/-- letters spelled into a row -/
theorem X0_addLetter {u : Nat} {v : Int} {g : mz_G} (h0 : 0 ≤ g u 1) (h1 : g u 1 < (zf_ln u : Int)) : zF_X0_addLetter u v g = mz_up (mz_up g (u + 1) (g u 1).toNat v) u 1 (g u 1 + 1) := by
  unfold zF_X0_addLetter
  simp only [zf_lq]
  rw [if_pos h1, X11_put h0 h1, show mz_up g (u + 1) (g u 1).toNat v u 1 = g u 1 from up_k (by omega)]
theorem L7_spell {u : Nat} {b : Int} (hu : u + 1 < 80) : ∀ (m k : Nat) (l : Int) (g : mz_G), (g 82 3 - l).toNat < m → m ≤ k → 0 ≤ b → b ≤ l → l ≤ g 82 3 → g 82 3 ≤ 700 → g 82 3 - b ≤ (zf_ln u : Int) → g u 1 = l - b → (∀ j : Nat, (j : Int) < l - b → g (u + 1) j = mz_cb g (b + (j : Int)) - 97 + 1) → (zL_X7_spellInto_9 u k l g u 1 = g 82 3 - b ∧ ∀ j : Nat, (j : Int) < g 82 3 - b → zL_X7_spellInto_9 u k l g (u + 1) j = mz_cb g (b + (j : Int)) - 97 + 1) ∧ mz_fr (fun a c => a = u + 1 ∨ (a = u ∧ c = 1)) g (zL_X7_spellInto_9 u k l g)
  | 0, _, _, _, z, _, _, _, _, _, _, _, _ => absurd z (Nat.not_lt_zero _)
  | m + 1, 0, _, _, _, z, _, _, _, _, _, _, _ => absurd z (by omega)
  | m + 1, k + 1, l, g, hm, hk, h0, h1, h2, h3, h4, h5, h6 => by
    rw [zL_X7_spellInto_9_s]
    unfold zB_X7_spellInto_9
    simp only [zf_lq]
    by_cases z : l < g 82 3
    · rw [if_pos z, X7_byteAt (by omega) (by omega), X0_addLetter (by omega) (by omega)]
      generalize hg : mz_up (mz_up g (u + 1) (g u 1).toNat (mz_cb g l - 97 + 1)) u 1 (g u 1 + 1) = g1
      have e3 : g1 82 3 = g 82 3 := by rw [← hg]; exact (up_k (by omega)).trans (up_k (by omega))
      have ec : mz_cb g1 = mz_cb g := by rw [← hg]; exact (cb_up (by omega)).trans (cb_up (by omega))
      have e1 : g1 u 1 = l + 1 - b := by rw [← hg, mz_up_at]; omega
      obtain ⟨i1, i2⟩ := L7_spell hu m k (l + 1) g1 (by rw [e3]; omega) (by omega) h0 (by omega) (by rw [e3]; omega) (by rw [e3]; omega) (by rw [e3]; omega) e1 (fun j hj => by
        rw [ec, ← hg, up_k (by omega)]
        by_cases y : j = (g u 1).toNat
        · rw [y, mz_up_at, show b + (((g u 1).toNat : Nat) : Int) = l by omega]
        · rw [up_j y]; exact h6 j (by omega))
      rw [e3, ec] at i1
      refine ⟨i1, fr_tr ?_ i2⟩
      rw [← hg]
      exact fr_tr (fr_up (Or.inl rfl)) (fr_up (Or.inr ⟨rfl, rfl⟩))
    · rw [if_neg z]
      have : l = g 82 3 := by omega
      rw [this] at h5 h6
      exact ⟨⟨h5, h6⟩, fr_rf⟩
theorem X7_spellInto {u : Nat} {g : mz_G} (hu : u + 1 < 80) (h0 : 0 ≤ g 82 5) (h1 : g 82 5 ≤ g 82 3) (h2 : g 82 3 ≤ 700) (h3 : g 82 3 - g 82 5 ≤ (zf_ln u : Int)) : (zF_X7_spellInto u g u 1 = g 82 3 - g 82 5 ∧ ∀ j : Nat, (j : Int) < g 82 3 - g 82 5 → zF_X7_spellInto u g (u + 1) j = mz_cb g (g 82 5 + (j : Int)) - 97 + 1) ∧ mz_fr (fun a c => a = u + 1 ∨ (a = u ∧ c = 1)) g (zF_X7_spellInto u g) := by
  unfold zF_X7_spellInto zF_X0_empty
  simp only [zf_lq]
  have e3 : mz_up g u 1 0 82 3 = g 82 3 := up_k (by omega)
  have e5 : mz_up g u 1 0 82 5 = g 82 5 := up_k (by omega)
  have ec : mz_cb (mz_up g u 1 0) = mz_cb g := cb_up (by omega)
  rw [e5]
  obtain ⟨i1, i2⟩ := L7_spell (b := g 82 5) hu 800 3000000000 (g 82 5) (mz_up g u 1 0) (by rw [e3]; omega) (by decide) h0 (Int.le_refl _) (by rw [e3]; omega) (by rw [e3]; omega) (by rw [e3]; omega) (by rw [mz_up_at]; omega) (fun j hj => by omega)
  rw [e3, ec] at i1
  exact ⟨i1, fr_tr (fr_up (Or.inr ⟨rfl, rfl⟩)) i2⟩
/-- the reference: whether these letters are told ahead -/
theorem L12_told34 {n w : Int} {g : mz_G} (hw : 0 ≤ w) : ∀ (m k : Nat) (t l : Int), (n - l).toNat < m → m ≤ k → 0 ≤ l → (t = 0 → zL_X12_isToldAhead_34 n g k w t l = 0) ∧ (t = 1 → ((∀ j : Nat, l ≤ (j : Int) → (j : Int) < n → g 141 (8 * (8 + w) + (j : Int)).toNat = mz_rb g (g 137 20 + (j : Int)) - 97 + 1) → zL_X12_isToldAhead_34 n g k w t l = 1) ∧ (¬ (∀ j : Nat, l ≤ (j : Int) → (j : Int) < n → g 141 (8 * (8 + w) + (j : Int)).toNat = mz_rb g (g 137 20 + (j : Int)) - 97 + 1) → zL_X12_isToldAhead_34 n g k w t l = 0))
  | 0, _, _, _, z, _, _ => absurd z (Nat.not_lt_zero _)
  | m + 1, 0, _, _, _, z, _ => absurd z (by omega)
  | m + 1, k + 1, t, l, hm, hk, hl => by
    rw [zL_X12_isToldAhead_34_s]
    unfold zB_X12_isToldAhead_34 zJ_X12_isToldAhead_84
    simp only [zf_lq]
    by_cases z : l < n
    · rw [if_pos z]
      refine ⟨fun t0 => by rw [if_pos t0]; exact t0, fun t1 => ?_⟩
      rw [if_neg (by omega)]
      show ((∀ j : Nat, l ≤ (j : Int) → (j : Int) < n → g 141 (8 * (8 + w) + (j : Int)).toNat = mz_rb g (g 137 20 + (j : Int)) - 97 + 1) → (if g 141 (8 * (8 + w) + l).toNat = mz_rb g (g 137 20 + l) - 97 + 1 then zL_X12_isToldAhead_34 n g k w 1 (l + 1) else zL_X12_isToldAhead_34 n g k w 0 (l + 1)) = 1) ∧ (¬ (∀ j : Nat, l ≤ (j : Int) → (j : Int) < n → g 141 (8 * (8 + w) + (j : Int)).toNat = mz_rb g (g 137 20 + (j : Int)) - 97 + 1) → (if g 141 (8 * (8 + w) + l).toNat = mz_rb g (g 137 20 + l) - 97 + 1 then zL_X12_isToldAhead_34 n g k w 1 (l + 1) else zL_X12_isToldAhead_34 n g k w 0 (l + 1)) = 0)
      by_cases e : g 141 (8 * (8 + w) + l).toNat = mz_rb g (g 137 20 + l) - 97 + 1
      · rw [if_pos e]
        obtain ⟨i1, i2⟩ := (L12_told34 (n := n) (g := g) hw m k 1 (l + 1) (by omega) (by omega) (by omega)).2 rfl
        refine ⟨fun y => i1 (fun j a b => y j (by omega) b), fun y => i2 (fun x => y (fun j a b => ?_))⟩
        rcases (by omega : (j : Int) = l ∨ l + 1 ≤ (j : Int)) with q | q
        · rw [q]; exact e
        · exact x j q b
      · rw [if_neg e]
        have i0 := (L12_told34 (n := n) (g := g) hw m k 0 (l + 1) (by omega) (by omega) (by omega)).1 rfl
        refine ⟨fun y => absurd ?_ e, fun _ => i0⟩
        have := y l.toNat (by omega) (by omega)
        rw [show ((l.toNat : Nat) : Int) = l by omega] at this
        exact this
    · rw [if_neg z]
      exact ⟨fun h => h, fun h => ⟨fun _ => h, fun y => absurd (fun j a b => by omega) y⟩⟩
/-- what the reference holds for a WORD told: the letters at the token -/
def ta_k (g : mz_G) (n : Int) (w : Nat) : Prop := g 142 (8 + w) = n ∧ ∀ j : Nat, (j : Int) < n → g 141 (64 + 8 * w + j) = mz_rb g (g 137 20 + (j : Int)) - 97 + 1
theorem L12_told2 {n : Int} {g : mz_G} (hc : g 140 4 ≤ 8) (hn : n ≤ 8) : ∀ (m k : Nat) (l : Int), (g 140 4 - l).toNat < m → m ≤ k → 0 ≤ l → ((∃ w : Nat, l ≤ (w : Int) ∧ (w : Int) < g 140 4 ∧ ta_k g n w) → zL_X12_isToldAhead_2 n g k l = 1) ∧ ((¬ ∃ w : Nat, l ≤ (w : Int) ∧ (w : Int) < g 140 4 ∧ ta_k g n w) → zL_X12_isToldAhead_2 n g k l = 0)
  | 0, _, _, z, _, _ => absurd z (Nat.not_lt_zero _)
  | m + 1, 0, _, _, z, _ => absurd z (by omega)
  | m + 1, k + 1, l, hm, hk, h0 => by
    rw [zL_X12_isToldAhead_2_s]
    unfold zB_X12_isToldAhead_2 zJ_X12_isToldAhead_30 zJ_X12_isToldAhead_91
    simp only [zf_lq]
    by_cases z : l < g 140 4
    · rw [if_pos z]
      have s0 := (L12_told34 (n := n) (g := g) h0 100 3000000000 0 0 (by omega) (by decide) (Int.le_refl _)).1 rfl
      obtain ⟨s1, s2⟩ := (L12_told34 (n := n) (g := g) h0 100 3000000000 1 0 (by omega) (by decide) (Int.le_refl _)).2 rfl
      have ix : ∀ j : Nat, (8 * (8 + l) + (j : Int)).toNat = 64 + 8 * l.toNat + j := fun j => by omega
      have i8 : (8 + l).toNat = 8 + l.toNat := by omega
      have fin : (ta_k g n l.toNat → (if g 142 (8 + l).toNat = n then (if zL_X12_isToldAhead_34 n g 3000000000 l 1 0 = 0 then zL_X12_isToldAhead_2 n g k (l + 1) else 1) else (if zL_X12_isToldAhead_34 n g 3000000000 l 0 0 = 0 then zL_X12_isToldAhead_2 n g k (l + 1) else 1)) = 1) ∧ (¬ ta_k g n l.toNat → (if g 142 (8 + l).toNat = n then (if zL_X12_isToldAhead_34 n g 3000000000 l 1 0 = 0 then zL_X12_isToldAhead_2 n g k (l + 1) else 1) else (if zL_X12_isToldAhead_34 n g 3000000000 l 0 0 = 0 then zL_X12_isToldAhead_2 n g k (l + 1) else 1)) = zL_X12_isToldAhead_2 n g k (l + 1)) := by
        rw [s0, if_pos (rfl : (0 : Int) = 0), i8]
        by_cases e : g 142 (8 + l.toNat) = n
        · rw [if_pos e]
          refine ⟨fun y => ?_, fun y => ?_⟩
          · rw [s1 (fun j _ b => by rw [ix]; exact y.2 j b), if_neg (by decide)]
          · rw [s2 (fun x => y ⟨e, fun j b => by have := x j (by omega) b; rw [ix] at this; exact this⟩), if_pos rfl]
        · rw [if_neg e]
          exact ⟨fun y => absurd y.1 e, fun _ => rfl⟩
      obtain ⟨i1, i2⟩ := L12_told2 hc hn m k (l + 1) (by omega) (by omega) (by omega)
      by_cases e : ta_k g n l.toNat
      · rw [fin.1 e]
        exact ⟨fun _ => rfl, fun y => absurd ⟨l.toNat, by omega, by omega, e⟩ y⟩
      · rw [fin.2 e]
        refine ⟨fun ⟨w, a, b, c⟩ => i1 ⟨w, ?_, b, c⟩, fun y => i2 (fun ⟨w, a, b, c⟩ => y ⟨w, by omega, b, c⟩)⟩
        rcases (by omega : (w : Int) = l ∨ l + 1 ≤ (w : Int)) with x | x
        · exact absurd (by rw [show l.toNat = w by rw [← x]; exact Int.toNat_natCast w]; exact c) e
        · exact x
    · rw [if_neg z]
      exact ⟨fun ⟨w, a, b, c⟩ => absurd z (by omega), fun _ => rfl⟩
theorem X12_isToldAhead {n : Int} {g : mz_G} (h0 : 0 ≤ g 140 4) (hc : g 140 4 ≤ 8) (hn : n ≤ 8) : ((∃ w : Nat, (w : Int) < g 140 4 ∧ ta_k g n w) → zF_X12_isToldAhead n g = 1) ∧ ((¬ ∃ w : Nat, (w : Int) < g 140 4 ∧ ta_k g n w) → zF_X12_isToldAhead n g = 0) := by
  obtain ⟨i1, i2⟩ := L12_told2 hc hn 100 3000000000 0 (by omega) (by decide) (Int.le_refl _)
  exact ⟨fun ⟨w, a, b⟩ => i1 ⟨w, by omega, a, b⟩, fun y => i2 (fun ⟨w, _, a, b⟩ => y ⟨w, a, b⟩)⟩
/-- behind the letters -/
def wc_k (l1 l2 : Int) (g : mz_G) : mz_G := zf_l (mz_up g 142 (l1 : Int).toNat l2) fun g12 => zf_l (zF_X12_stepOn g12) fun g13 => zf_m2 (zF_X12_readNumber 0 9 g13) fun v14 g15 => zf_l (mz_up g15 143 (l1 : Int).toNat v14) fun g16 => zf_l (g16 140 4) fun v17 => zf_l (mz_up g16 140 (4 : Int).toNat (v17 + 1)) fun g18 => g18
theorem L12_word84 {l1 l2 : Int} {g0 : mz_G} (h1 : 0 ≤ l1) : ∀ (m k : Nat) (l3 : Int) (g : mz_G), (8 - l3).toNat < m → m ≤ k → 0 ≤ l3 → l3 ≤ 8 → mz_fr (fun a _ => a = 141) g0 g → (∀ j : Nat, (j : Int) < l3 → (j : Int) < l2 → g 141 ((8 * l1).toNat + j) = mz_rb g0 (g0 137 20 + (j : Int)) - 97 + 1) → (∀ j : Nat, (j : Int) < 8 * l1 → g 141 j = g0 141 j) → ∃ g1, zL_X12_sayWord_84 k l1 l2 l3 g = wc_k l1 l2 g1 ∧ mz_fr (fun a _ => a = 141) g0 g1 ∧ (∀ j : Nat, (j : Int) < 8 → (j : Int) < l2 → g1 141 ((8 * l1).toNat + j) = mz_rb g0 (g0 137 20 + (j : Int)) - 97 + 1) ∧ (∀ j : Nat, (j : Int) < 8 * l1 → g1 141 j = g0 141 j)
  | 0, _, _, _, z, _, _, _, _, _, _ => absurd z (Nat.not_lt_zero _)
  | m + 1, 0, _, _, _, z, _, _, _, _, _ => absurd z (by omega)
  | m + 1, k + 1, l3, g, hm, hk, h3, h8, f, hj, hlow => by
    rw [zL_X12_sayWord_84_s]
    unfold zB_X12_sayWord_84 zJ_X12_sayWord_125
    simp only [zf_lq]
    have eb : mz_rb g = mz_rb g0 := mz_rb_eq (fun j => f 151 j (show ¬ (151 : Nat) = 141 by decide))
    have e20 : g 137 20 = g0 137 20 := f 137 20 (by decide)
    by_cases z : l3 < 8
    · rw [if_pos z]
      have go : ∀ v : Int, (l3 < l2 → v = mz_rb g0 (g0 137 20 + l3) - 97 + 1) → ∃ g1, zL_X12_sayWord_84 k l1 l2 (l3 + 1) (mz_up g 141 (8 * l1 + l3).toNat v) = wc_k l1 l2 g1 ∧ mz_fr (fun a _ => a = 141) g0 g1 ∧ (∀ j : Nat, (j : Int) < 8 → (j : Int) < l2 → g1 141 ((8 * l1).toNat + j) = mz_rb g0 (g0 137 20 + (j : Int)) - 97 + 1) ∧ (∀ j : Nat, (j : Int) < 8 * l1 → g1 141 j = g0 141 j) := by
        intro v hv
        refine L12_word84 h1 m k (l3 + 1) _ (by omega) (by omega) (by omega) (by omega) (fr_tr f (fr_up rfl)) (fun j a b => ?_) (fun j a => ?_)
        · by_cases y : (j : Int) = l3
          · rw [show (8 * l1).toNat + j = (8 * l1 + l3).toNat by omega, mz_up_at, hv (by omega), y]
          · rw [up_j (by omega)]
            exact hj j (by omega) b
        · rw [up_j (by omega)]
          exact hlow j a
      by_cases y : l3 < l2
      · rw [if_pos y]
        refine go _ (fun _ => ?_)
        show mz_rb g (g 137 20 + l3) - 97 + 1 = _
        rw [eb, e20]
      · rw [if_neg y]
        exact go 0 (fun x => absurd x y)
    · rw [if_neg z]
      exact ⟨g, rfl, f, fun j a b => hj j (by omega) b, hlow⟩
