/-! WHAT IS ASKED of the reference leaves it as it was (6): loose -/
/-- what a look at all that was seen may change on its way -/
def fz : Nat → Nat → Prop := fun a b => (a = 137 ∧ b = 30) ∨ (152 ≤ a ∧ a ≤ 155) ∨ a = 160 ∨ a = 161 ∨ a = 169
def tf (l : Nat) (v : Int) (g0 g : mz_G) : Prop := sm5 g0 (mz_up g 155 l v) ∧ ∀ a b : Nat, ¬ fz a b → ¬ (a = 137 ∧ b = 50) → a ≠ 170 → g a b = g0 a b
/-- at most so many were seen, so late -/
def sn_b (g : mz_G) : Prop := g 137 32 ≤ 8 ∧ ∀ j : Nat, g 167 j ≤ 20
section YF
variable {x : mm_X} {g g0 g1 g2 gA gB : mz_G} {q : Nat}
theorem rec_f {a b : Nat} (h : ¬ fz a b) : zF_X12_recall 169 25 0 g a b = g a b := by
  obtain ⟨-, -, r3⟩ := recall_B (g := g) (q := 169) (nq := 25) (p := 0) (by omega) (by decide)
  unfold fz at h
  exact r3 a b (by omega) (by omega)
theorem sto_f {a b : Nat} (h : ¬ fz a b) : zF_X12_store 169 25 0 g a b = g a b := by
  obtain ⟨-, -, s3⟩ := store_B (g := g) (q := 169) (nq := 25) (p := 0) (by omega) (by decide)
  unfold fz at h
  exact s3 a b (by omega)
theorem go_f (K : kr g) {n : Int} (n0 : 0 ≤ n) (n1 : n ≤ 2147483647) {a b : Nat} (h : ¬ fz a b) : zF_X12_goOn n g a b = g a b := by
  obtain ⟨p, c, e⟩ := K
  obtain ⟨-, -, f⟩ := goOn_B p c e n0 n1
  exact f a b (by unfold fz at h; unfold fw_dy; omega)
theorem seen_l (K : kr g0) {l1 : Int} : ∀ (m k : Nat) (l2 l3 : Int) (g : mz_G), (l1 + 1 - l3).toNat = m → m < k → qk 169 g0 g → (∀ a b : Nat, ¬ fz a b → g a b = g0 a b) → sm5 g0 (zL_X12_isAsSeen_42 k l1 l2 l3 g).2 ∧ ∀ a b : Nat, ¬ fz a b → (zL_X12_isAsSeen_42 k l1 l2 l3 g).2 a b = g0 a b := by
  intro m
  induction m with
  | zero =>
    intro k l2 l3 g hm hk q f
    obtain ⟨k, rfl⟩ : ∃ k1, k = k1 + 1 := ⟨k - 1, by omega⟩
    rw [zL_X12_isAsSeen_42_s]
    unfold zB_X12_isAsSeen_42 zJ_X12_isAsSeen_122
    simp only [zf_lq]
    rw [if_pos (by omega)]
    dsimp only
    exact ⟨(qk_rec (Or.inr rfl) q).1, fun a b z => (rec_f z).trans (f a b z)⟩
  | succ m ih =>
    intro k l2 l3 g hm hk q f
    obtain ⟨k, rfl⟩ : ∃ k1, k = k1 + 1 := ⟨k - 1, by omega⟩
    rw [zL_X12_isAsSeen_42_s]
    unfold zB_X12_isAsSeen_42 zJ_X12_isAsSeen_122
    simp only [zf_lq]
    rw [if_neg (by omega)]
    split
    · dsimp only
      exact ⟨(qk_rec (Or.inr rfl) q).1, fun a b z => (rec_f z).trans (f a b z)⟩
    · exact ih k _ (l3 + 1) _ (by omega) (by omega) (qk_go K (Or.inr rfl) (by decide) (by decide) q) (fun a b z => (go_f (kr_e q.1 K) (by decide) (by decide) z).trans (f a b z))
theorem seen_m (K : kr g0) (w : sn_b g) (q : qk 169 g0 g) (f : ∀ a b : Nat, ¬ fz a b → g a b = g0 a b) : ∀ (m k : Nat) (l1 l2 : Int), (8 - l2).toNat = m → m < k → l1 ≤ 20 → sm5 g0 (zL_X12_isAsSeen_13 g k l1 l2).2 ∧ ∀ a b : Nat, ¬ fz a b → (zL_X12_isAsSeen_13 g k l1 l2).2 a b = g0 a b := by
  obtain ⟨w8, w20⟩ := w
  intro m
  induction m with
  | zero =>
    intro k l1 l2 hm hk h20
    obtain ⟨k, rfl⟩ : ∃ k1, k = k1 + 1 := ⟨k - 1, by omega⟩
    rw [zL_X12_isAsSeen_13_s]
    unfold zB_X12_isAsSeen_13
    simp only [zf_lq]
    rw [if_neg (by omega)]
    exact seen_l K (l1 + 1 - 0).toNat 3000000000 1 0 g rfl (by omega) q f
  | succ m ih =>
    intro k l1 l2 hm hk h20
    obtain ⟨k, rfl⟩ : ∃ k1, k = k1 + 1 := ⟨k - 1, by omega⟩
    rw [zL_X12_isAsSeen_13_s]
    unfold zB_X12_isAsSeen_13
    simp only [zf_lq]
    split
    · exact ih k _ (l2 + 1) (by omega) (by omega) (by have := w20 l2.toNat; omega)
    · exact seen_l K (l1 + 1 - 0).toNat 3000000000 1 0 g rfl (by omega) q f
theorem seen_s (K : kr g) (w : sn_b g) : sm5 g (zF_X12_isAsSeen g).2 ∧ ∀ a b : Nat, ¬ fz a b → (zF_X12_isAsSeen g).2 a b = g a b := by
  unfold zF_X12_isAsSeen
  simp only [zf_lq]
  have e : ∀ a b : Nat, ¬ fz a b → zF_X12_store 169 25 0 g a b = g a b := fun a b z => sto_f z
  have w1 : sn_b (zF_X12_store 169 25 0 g) := ⟨by rw [e _ _ (by unfold fz; omega)]; exact w.1, fun j => by rw [e _ _ (by unfold fz; omega)]; exact w.2 j⟩
  exact seen_m K w1 (qk_sto (Or.inr rfl)) e (8 - 0 : Int).toNat 3000000000 0 0 rfl (by decide) (by decide)
theorem up_up {g : mz_G} {q k : Nat} {v w : Int} : mz_up (mz_up g q k v) q k w = mz_up g q k w := by
  funext a b
  by_cases h : a = q ∧ b = k
  · obtain ⟨rfl, rfl⟩ := h
    rw [mz_up_at, mz_up_at]
  · rw [mz_up_ne h, mz_up_ne h, mz_up_ne h]
theorem sm_up (h : sm5 g0 g) {l : Nat} {v : Int} : sm5 (mz_up g0 155 l v) (mz_up g 155 l v) := by
  refine ⟨by rw [mz_up_ne (by omega), mz_up_ne (by omega)]; exact h.1, fun t ht => ?_⟩
  obtain ⟨h0, h1, h2, h3⟩ := h.2 t ht
  refine ⟨by rw [mz_up_ne (by omega), mz_up_ne (by omega)]; exact h0, by rw [mz_up_ne (by omega), mz_up_ne (by omega)]; exact h1, by rw [mz_up_ne (by omega), mz_up_ne (by omega)]; exact h2, ?_⟩
  by_cases z : t = l
  · rw [z, mz_up_at, mz_up_at]
  · rw [mz_up_ne (by omega), mz_up_ne (by omega)]; exact h3
theorem tf_up {l a b : Nat} {v w : Int} (hab : a = 170 ∨ (a = 137 ∧ b = 50)) (h : tf l v g0 g) : tf l v g0 (mz_up g a b w) := by
  refine ⟨sm_tr h.1 (sm_fr fun c d z => ?_), fun c d z1 z2 z3 => (mz_up_ne (by omega)).trans (h.2 c d z1 z2 z3)⟩
  by_cases y : c = 155 ∧ d = l
  · rw [y.1, y.2, mz_up_at, mz_up_at]
  · rw [mz_up_ne y, mz_up_ne y, mz_up_ne (by omega)]
theorem fits_i (K : kr g0) (w : sn_b g0) {l1 l2 v : Int} : ∀ (m k : Nat) (l3 : Int) (g : mz_G), (10 - l3).toNat = m → m < k → tf l1.toNat v g0 g → tf l1.toNat v g0 (zL_X12_tellFits_26 k l1 l2 l3 g) := by
  intro m
  induction m with
  | zero =>
    intro k l3 g hm hk t
    obtain ⟨k, rfl⟩ : ∃ k1, k = k1 + 1 := ⟨k - 1, by omega⟩
    rw [zL_X12_tellFits_26_s]
    unfold zB_X12_tellFits_26
    rw [if_pos (by omega)]
    exact t
  | succ m ih =>
    intro k l3 g hm hk t
    obtain ⟨k, rfl⟩ : ∃ k1, k = k1 + 1 := ⟨k - 1, by omega⟩
    rw [zL_X12_tellFits_26_s]
    unfold zB_X12_tellFits_26 zJ_X12_tellFits_79
    simp only [zf_lq]
    rw [if_neg (by omega)]
    have t4 : tf l1.toNat v g0 (mz_up g 155 l1.toNat l3) := ⟨by rw [up_up]; exact t.1, fun a b z1 z2 z3 => (mz_up_ne (by unfold fz at z1; omega)).trans (t.2 a b z1 z2 z3)⟩
    generalize mz_up g 155 l1.toNat l3 = g4 at *
    split
    · exact ih k (l3 + 1) g4 (by omega) (by omega) t4
    · have K4 : kr g4 := kr_e (g0 := g0) (fun a b u z => t4.2 a b (by unfold fz; omega) (by omega) (by omega)) K
      have w4 : sn_b g4 := ⟨by rw [t4.2 _ _ (by unfold fz; omega) (by omega) (by omega)]; exact w.1, fun j => by rw [t4.2 _ _ (by unfold fz; omega) (by omega) (by omega)]; exact w.2 j⟩
      obtain ⟨s1, s2⟩ := seen_s K4 w4
      generalize zF_X12_isAsSeen g4 = p at *
      obtain ⟨v5, g6⟩ := p
      unfold zf_m2
      dsimp only at *
      have t6 : tf l1.toNat v g0 g6 := ⟨sm_tr t4.1 (sm_up s1), fun a b z1 z2 z3 => (s2 a b z1).trans (t4.2 a b z1 z2 z3)⟩
      split
      · exact ih k (l3 + 1) g6 (by omega) (by omega) t6
      · exact ih k (l3 + 1) _ (by omega) (by omega) (tf_up (Or.inr ⟨rfl, rfl⟩) (tf_up (Or.inl rfl) t6))
def ff (g0 g : mz_G) : Prop := sm5 g0 g ∧ ∀ a b : Nat, ¬ fz a b → ¬ (a = 137 ∧ b = 50) → a ≠ 170 → g a b = g0 a b
theorem ff_kr (K : kr g0) (f : ff g0 g) : kr g := kr_e (g0 := g0) (fun a b u z => f.2 a b (by unfold fz; omega) (by omega) (by omega)) K
theorem ff_sn (w : sn_b g0) (f : ff g0 g) : sn_b g := ⟨by rw [f.2 _ _ (by unfold fz; omega) (by omega) (by omega)]; exact w.1, fun j => by rw [f.2 _ _ (by unfold fz; omega) (by omega) (by omega)]; exact w.2 j⟩
theorem fits_o (K : kr g0) (w : sn_b g0) : ∀ (m k : Nat) (l1 : Int) (g : mz_G), (6 - l1).toNat = m → m < k → ff g0 g → ff g0 (zL_X12_tellFits_7 k l1 g) := by
  intro m
  induction m with
  | zero =>
    intro k l1 g hm hk f
    obtain ⟨k, rfl⟩ : ∃ k1, k = k1 + 1 := ⟨k - 1, by omega⟩
    have := (ff_kr K f).2.2
    rw [zL_X12_tellFits_7_s]
    unfold zB_X12_tellFits_7
    simp only [zf_lq]
    rw [if_neg (by omega)]
    exact f
  | succ m ih =>
    intro k l1 g hm hk f
    obtain ⟨k, rfl⟩ : ∃ k1, k = k1 + 1 := ⟨k - 1, by omega⟩
    rw [zL_X12_tellFits_7_s]
    unfold zB_X12_tellFits_7
    simp only [zf_lq]
    split
    · have t : tf l1.toNat (g 155 l1.toNat) g (zL_X12_tellFits_26 3000000000 l1 (g 155 l1.toNat) 0 g) := fits_i (ff_kr K f) (ff_sn w f) (10 - 0 : Int).toNat 3000000000 0 g rfl (by decide) ⟨sm_fr fun a b _ => by
        by_cases y : a = 155 ∧ b = l1.toNat
        · rw [y.1, y.2, mz_up_at]
        · rw [mz_up_ne y], fun _ _ _ _ _ => rfl⟩
      generalize zL_X12_tellFits_26 3000000000 l1 (g 155 l1.toNat) 0 g = g11 at *
      exact ih k (l1 + 1) _ (by omega) (by omega) ⟨sm_tr f.1 t.1, fun a b z1 z2 z3 => (mz_up_ne (by unfold fz at z1; omega)).trans ((t.2 a b z1 z2 z3).trans (f.2 a b z1 z2 z3))⟩
    · exact f
theorem fits_s (K : kr g) (w : sn_b g) : ff g (zF_X12_tellFits g) := by
  unfold zF_X12_tellFits
  simp only [zf_lq]
  exact fits_o K w (6 - 0 : Int).toNat 3000000000 0 _ rfl (by decide) ⟨sm_fr (fun a b z => mz_up_ne (by omega)), fun a b z1 z2 z3 => mz_up_ne z2⟩
theorem loose_s (K : kr g) (w : sn_b g) {a1 : Int} : sm5 g (zF_X12_loose a1 g).2 := by
  refine sm_tr (sm_2 (v := 0)) ?_
  have K1 : kr (mz_up g 137 2 0) := kr_e (g0 := g) (fun a b u v => up_k (by omega)) K
  have w1 : sn_b (mz_up g 137 2 0) := ⟨by rw [up_j (by decide)]; exact w.1, fun j => by rw [up_k (by decide)]; exact w.2 j⟩
  unfold zF_X12_loose
  simp only [zf_lq]
  rw [isI_B]
  generalize mz_up g 137 2 0 = b1 at *
  by_cases h : 0 ≤ a1 ∧ a1 ≤ 2
  · rw [if_pos h, i10]
    split
    · obtain ⟨s1, s2⟩ := seen_s K1 w1
      generalize zF_X12_isAsSeen b1 = p at *
      obtain ⟨v5, g6⟩ := p
      unfold zf_m2
      dsimp only at *
      split
      · exact snd_s s1
      · exact snd_s s1
    · have f := (fits_s K1 w1).1
      generalize zF_X12_tellFits b1 = g7 at *
      split
      · exact snd_s f
      · split
        · exact snd_s f
        · exact snd_s f
  · rw [if_neg h, i00]; exact fail_s
end YF
