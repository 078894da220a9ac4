/-! ANSWERS (18): what is seen, in both; loose -/
/-- one of what is seen, of a trunk with a strap -/
def sk (b0 : mz_G) (t : Nat) (s : Int) (k : Nat) : Prop := bn b0 (b0 153 t) (b0 154 t) (gnd b0 (b0 144 t) (b0 153 t) (b0 154 t) s (b0 167 k).toNat (b0 152 t) (b0 137 30)) = b0 168 k
def okt (b0 : mz_G) (t : Nat) (s : Int) : Prop := ∀ k : Nat, (k : Int) < b0 137 32 → b0 166 k = (t : Int) → sk b0 t s k
def so (h : mz_G) (k : Nat) : Prop := bn h (h 153 (h 166 k).toNat) (h 154 (h 166 k).toNat) (ga h (h 167 k).toNat (h 166 k).toNat) = h 168 k
def sb_ (h : mz_G) : Prop := 0 ≤ h 137 32 ∧ h 137 32 ≤ 8 ∧ ∀ k : Nat, (k : Int) < h 137 32 → (0 ≤ h 166 k ∧ h 166 k < h 140 1) ∧ 0 ≤ h 167 k ∧ h 167 k ≤ 20
/-- the reference some days on -/
def dq (h g : mz_G) (i : Nat) : Prop := qk 169 h g ∧ g 137 30 = h 137 30 + i ∧ (∀ u : Nat, u < 6 → g 153 u = h 153 u ∧ g 154 u = h 154 u ∧ g 155 u = h 155 u) ∧ (∀ u : Nat, (u : Int) < h 140 1 → g 152 u = ga h i u) ∧ g 137 32 = h 137 32 ∧ ∀ j : Nat, g 166 j = h 166 j ∧ g 167 j = h 167 j ∧ g 168 j = h 168 j
section WI2
variable {x : mm_X} {g g0 g1 gA gB b0 h h0 : mz_G} {ld : Nat}
theorem dq_go (K : kr h) {i : Nat} (D : dq h g i) : dq h (zF_X12_goOn 1 g) (i + 1) := by
  obtain ⟨q, d, s, w, n, f⟩ := D
  have K1 := kr_e q.1 K
  obtain ⟨gg, gd, gf⟩ := goOn_B K1.1 K1.2.1 K1.2.2 (n := 1) (by decide) (by decide)
  refine ⟨qk_go K (Or.inr rfl) (by decide) (by decide) q, by rw [gd, d]; omega, fun u hu => ?_, fun u hu => ?_, (gf _ _ (by unfold fw_dy; omega)).trans n, fun j => ⟨(gf _ _ (by unfold fw_dy; omega)).trans (f j).1, (gf _ _ (by unfold fw_dy; omega)).trans (f j).2.1, (gf _ _ (by unfold fw_dy; omega)).trans (f j).2.2⟩⟩
  · exact ⟨(gf 153 u (by unfold fw_dy; omega)).trans (s u hu).1, (gf 154 u (by unfold fw_dy; omega)).trans (s u hu).2.1, (gf 155 u (by unfold fw_dy; omega)).trans (s u hu).2.2⟩
  · have c6 := K.2.2
    obtain ⟨s3, s4, s5⟩ := s u (by omega)
    have g2 := gg u (by rw [q.1 140 1 (by decide) (by decide)]; exact hu)
    rw [gnd_c q.1, q.1 144 _ (by decide) (by decide), s3, s4, s5, w u hu, d, show (1 : Int).toNat = 0 + 1 from rfl, gnd_s, show ∀ a b : Int, gnd h (h 144 u) (h 153 u) (h 154 u) (h 155 u) 0 a b = a from fun _ _ => rfl] at g2
    exact g2.trans (gnd_e ..).symm
theorem sv_54 {i : Nat} (D : dq h g i) (B : sb_ h) (n6 : h 140 1 ≤ 6) {l1 : Int} : ∀ (m k : Nat) (l2 l4 : Int), (8 - l4).toNat = m → m < k → 0 ≤ l4 → (l2 = 0 ∨ l2 = 1) → ((l2 = 1 ∧ ∀ j : Nat, l4 ≤ (j : Int) → (j : Int) < h 137 32 → h 167 j = (i : Int) → so h j) → zL_X12_isAsSeen_54 g k l1 l2 (i : Int) l4 = 1) ∧ (¬ (l2 = 1 ∧ ∀ j : Nat, l4 ≤ (j : Int) → (j : Int) < h 137 32 → h 167 j = (i : Int) → so h j) → zL_X12_isAsSeen_54 g k l1 l2 (i : Int) l4 = 0) := by
  obtain ⟨q, d, s, w, n, f⟩ := D
  obtain ⟨b0', b8, b⟩ := B
  intro m
  induction m with
  | zero =>
    intro k l2 l4 hm hk h0 h2
    obtain ⟨k, rfl⟩ : ∃ k1, k = k1 + 1 := ⟨k - 1, by omega⟩
    rw [zL_X12_isAsSeen_54_s]
    unfold zB_X12_isAsSeen_54
    simp only [zf_lq]
    rw [n, if_neg (by omega)]
    refine ⟨fun z => z.1, fun z => ?_⟩
    rcases h2 with y | y
    · exact y
    · exact absurd ⟨y, fun j a b => by omega⟩ z
  | succ m ih =>
    intro k l2 l4 hm hk h0 h2
    obtain ⟨k, rfl⟩ : ∃ k1, k = k1 + 1 := ⟨k - 1, by omega⟩
    rw [zL_X12_isAsSeen_54_s]
    unfold zB_X12_isAsSeen_54 zJ_X12_isAsSeen_103 zJ_X12_isAsSeen_99 zJ_X12_isAsSeen_104
    simp only [zf_lq]
    rw [n]
    by_cases hl : l4 < h 137 32
    · rw [if_pos hl]
      obtain ⟨f6, f7, f8⟩ := f l4.toNat
      obtain ⟨⟨b1, b2⟩, b3, b4⟩ := b l4.toNat (by omega)
      by_cases y2 : l2 = 0
      · rw [if_pos y2]
        obtain ⟨i1, i2⟩ := ih k 0 (l4 + 1) (by omega) (by omega) (by omega) (Or.inl rfl)
        refine ⟨fun z => by omega, fun z => i2 (fun w => absurd w.1 (by decide))⟩
      · rw [if_neg y2, f7]
        have y2' : l2 = 1 := by omega
        -- what is not asked on this day
        have N : (h 167 l4.toNat = (i : Int) → so h l4.toNat) → ((l2 = 1 ∧ ∀ j : Nat, l4 ≤ (j : Int) → (j : Int) < h 137 32 → h 167 j = (i : Int) → so h j) → zL_X12_isAsSeen_54 g k l1 1 (i : Int) (l4 + 1) = 1) ∧ (¬ (l2 = 1 ∧ ∀ j : Nat, l4 ≤ (j : Int) → (j : Int) < h 137 32 → h 167 j = (i : Int) → so h j) → zL_X12_isAsSeen_54 g k l1 1 (i : Int) (l4 + 1) = 0) := fun z => by
          obtain ⟨i1, i2⟩ := ih k 1 (l4 + 1) (by omega) (by omega) (by omega) (Or.inr rfl)
          refine ⟨fun w => i1 ⟨rfl, fun j a b => w.2 j (by omega) b⟩, fun w => i2 (fun v => w ⟨y2', fun j a b c => ?_⟩)⟩
          by_cases e : j = l4.toNat
          · rw [e] at c ⊢
            exact z c
          · exact v.2 j (by omega) b c
        by_cases y7 : h 167 l4.toNat = (i : Int)
        · have c6 : (h 166 l4.toNat).toNat < 6 ∨ ¬ (h 166 l4.toNat).toNat < 6 := by omega
          have ew : g 152 (h 166 l4.toNat).toNat = ga h i (h 166 l4.toNat).toNat := w _ (by omega)
          have es : g 153 (h 166 l4.toNat).toNat = h 153 (h 166 l4.toNat).toNat ∧ g 154 (h 166 l4.toNat).toNat = h 154 (h 166 l4.toNat).toNat := by
            rcases c6 with c | c
            · exact ⟨(s _ c).1, (s _ c).2.1⟩
            · exact absurd (show (h 166 l4.toNat).toNat < 6 by omega) c
          rw [if_pos y7, f6, bsize_m q.1 es.1 es.2 ew, f8]
          have ei : i = (h 167 l4.toNat).toNat := by omega
          by_cases y8 : bn h (h 153 (h 166 l4.toNat).toNat) (h 154 (h 166 l4.toNat).toNat) (ga h i (h 166 l4.toNat).toNat) = h 168 l4.toNat
          · rw [if_pos y8]
            exact N (fun _ => by unfold so; rw [← ei]; exact y8)
          · rw [if_neg y8]
            obtain ⟨i1, i2⟩ := ih k 0 (l4 + 1) (by omega) (by omega) (by omega) (Or.inl rfl)
            refine ⟨fun z => ?_, fun _ => i2 (fun w => absurd w.1 (by decide))⟩
            have := z.2 l4.toNat (by omega) (by omega) y7
            unfold so at this
            rw [← ei] at this
            exact absurd this y8
        · rw [if_neg y7]
          exact N (fun z => absurd z y7)
    · rw [if_neg hl]
      refine ⟨fun z => z.1, fun z => ?_⟩
      rcases h2 with y | y
      · exact y
      · exact absurd ⟨y, fun j a b => by omega⟩ z
theorem sv_42 (K : kr h) (B : sb_ h) {L : Int} (hL : ∀ j : Nat, (j : Int) < h 137 32 → h 167 j ≤ L) : ∀ (m k i : Nat) (l2 : Int) (g : mz_G), (L + 1 - (i : Int)).toNat = m → m < k → dq h g i → (l2 = 0 ∨ l2 = 1) → ((l2 = 1 ∧ ∀ j : Nat, (j : Int) < h 137 32 → (i : Int) ≤ h 167 j → so h j) → (zL_X12_isAsSeen_42 k L l2 (i : Int) g).1 = 1) ∧ (¬ (l2 = 1 ∧ ∀ j : Nat, (j : Int) < h 137 32 → (i : Int) ≤ h 167 j → so h j) → (zL_X12_isAsSeen_42 k L l2 (i : Int) g).1 = 0) := by
  intro m
  induction m with
  | zero =>
    intro k i l2 g hm hk D h2
    obtain ⟨k, rfl⟩ : ∃ k1, k = k1 + 1 := ⟨k - 1, by omega⟩
    rw [zL_X12_isAsSeen_42_s]
    unfold zB_X12_isAsSeen_42 zJ_X12_isAsSeen_122
    simp only [zf_lq]
    rw [if_pos (by omega)]
    refine ⟨fun z => z.1, fun z => ?_⟩
    rcases h2 with y | y
    · exact y
    · exact absurd ⟨y, fun j a b => by have := hL j a; omega⟩ z
  | succ m ih =>
    intro k i l2 g hm hk D h2
    obtain ⟨k, rfl⟩ : ∃ k1, k = k1 + 1 := ⟨k - 1, by omega⟩
    rw [zL_X12_isAsSeen_42_s]
    unfold zB_X12_isAsSeen_42 zJ_X12_isAsSeen_122
    simp only [zf_lq]
    rw [if_neg (by omega)]
    by_cases y2 : l2 = 0
    · rw [if_pos y2]
      exact ⟨fun z => by omega, fun _ => y2⟩
    · rw [if_neg y2]
      have y2' : l2 = 1 := by omega
      obtain ⟨v1, v2⟩ := sv_54 (l1 := L) D B K.2.2 (8 - 0 : Int).toNat 3000000000 l2 0 rfl (by decide) (by decide) (Or.inr y2')
      have D1 := dq_go K D
      by_cases z : l2 = 1 ∧ ∀ j : Nat, (0 : Int) ≤ (j : Int) → (j : Int) < h 137 32 → h 167 j = (i : Int) → so h j
      · rw [v1 z]
        obtain ⟨i1, i2⟩ := ih k (i + 1) 1 _ (by omega) (by omega) D1 (Or.inr rfl)
        rw [show ((i + 1 : Nat) : Int) = (i : Int) + 1 by omega] at i1 i2
        refine ⟨fun w => i1 ⟨rfl, fun j a b => w.2 j a (by omega)⟩, fun w => i2 (fun u => w ⟨y2', fun j a b => ?_⟩)⟩
        by_cases e : h 167 j = (i : Int)
        · exact z.2 j (by omega) a e
        · exact u.2 j a (by omega)
      · rw [v2 z]
        obtain ⟨i1, i2⟩ := ih k (i + 1) 0 _ (by omega) (by omega) D1 (Or.inl rfl)
        rw [show ((i + 1 : Nat) : Int) = (i : Int) + 1 by omega] at i1 i2
        exact ⟨fun w => absurd ⟨y2', fun j _ b c => w.2 j b (by omega)⟩ z, fun _ => i2 (fun u => absurd u.1 (by decide))⟩
theorem sv_13 (K : kr h) (B : sb_ h) (D : dq h g 0) : ∀ (m k : Nat) (l1 l2 : Int), (8 - l2).toNat = m → m < k → 0 ≤ l2 → 0 ≤ l1 → l1 ≤ 20 → (∀ j : Nat, (j : Int) < l2 → (j : Int) < h 137 32 → h 167 j ≤ l1) → ((∀ j : Nat, (j : Int) < h 137 32 → so h j) → (zL_X12_isAsSeen_13 g k l1 l2).1 = 1) ∧ (¬ (∀ j : Nat, (j : Int) < h 137 32 → so h j) → (zL_X12_isAsSeen_13 g k l1 l2).1 = 0) := by
  have E : ∀ l1 : Int, 0 ≤ l1 → l1 ≤ 20 → (∀ j : Nat, (j : Int) < h 137 32 → h 167 j ≤ l1) → ((∀ j : Nat, (j : Int) < h 137 32 → so h j) → (zL_X12_isAsSeen_42 3000000000 l1 1 0 g).1 = 1) ∧ (¬ (∀ j : Nat, (j : Int) < h 137 32 → so h j) → (zL_X12_isAsSeen_42 3000000000 l1 1 0 g).1 = 0) := fun l1 h0 h20 I => by
    obtain ⟨i1, i2⟩ := sv_42 K B I (l1 + 1 - ((0 : Nat) : Int)).toNat 3000000000 0 1 g rfl (by omega) D (Or.inr rfl)
    rw [show ((0 : Nat) : Int) = 0 from rfl] at i1 i2
    exact ⟨fun w => i1 ⟨rfl, fun j a _ => w j a⟩, fun w => i2 (fun u => w (fun j a => u.2 j a (B.2.2 j a).2.1))⟩
  have n := D.2.2.2.2.1
  have f := D.2.2.2.2.2
  intro m
  induction m with
  | zero =>
    intro k l1 l2 hm hk h0 h1 h20 I
    obtain ⟨k, rfl⟩ : ∃ k1, k = k1 + 1 := ⟨k - 1, by omega⟩
    have := B.2.1
    rw [zL_X12_isAsSeen_13_s]
    unfold zB_X12_isAsSeen_13
    simp only [zf_lq]
    rw [n, if_neg (by omega)]
    exact E l1 h1 h20 (fun j a => I j (by omega) a)
  | succ m ih =>
    intro k l1 l2 hm hk h0 h1 h20 I
    obtain ⟨k, rfl⟩ : ∃ k1, k = k1 + 1 := ⟨k - 1, by omega⟩
    rw [zL_X12_isAsSeen_13_s]
    unfold zB_X12_isAsSeen_13
    simp only [zf_lq]
    rw [n]
    by_cases z : l2 < h 137 32
    · rw [if_pos z, (f l2.toNat).2.1]
      have b := (B.2.2 l2.toNat (by omega)).2
      refine ih k _ (l2 + 1) (by omega) (by omega) (by omega) (by omega) (by omega) (fun j a c => ?_)
      by_cases e : j = l2.toNat
      · rw [e]; omega
      · have := I j (by omega) c
        omega
    · rw [if_neg z]
      exact E l1 h1 h20 (fun j a => I j (by omega) a)
/-- whether all that is seen is so, of the reference -/
theorem svs (K : kr h) (B : sb_ h) : ((∀ j : Nat, (j : Int) < h 137 32 → so h j) → (zF_X12_isAsSeen h).1 = 1) ∧ (¬ (∀ j : Nat, (j : Int) < h 137 32 → so h j) → (zF_X12_isAsSeen h).1 = 0) := by
  unfold zF_X12_isAsSeen
  simp only [zf_lq]
  have e : ∀ a b : Nat, ¬ fz a b → zF_X12_store 169 25 0 h a b = h a b := fun a b z => sto_f z
  obtain ⟨s1, s2⟩ := sto_s (g := h) (q := 169) (Or.inr rfl)
  have D : dq h (zF_X12_store 169 25 0 h) 0 := ⟨qk_sto (Or.inr rfl), s1.trans (by omega), fun u hu => (s2 u hu).2, fun u hu => by have := K.2.2; exact (s2 u (by omega)).1, e _ _ (by unfold fz; omega), fun j => ⟨e _ _ (by unfold fz; omega), e _ _ (by unfold fz; omega), e _ _ (by unfold fz; omega)⟩⟩
  generalize zF_X12_store 169 25 0 h = g at *
  exact sv_13 K B D (8 - 0 : Int).toNat 3000000000 0 0 rfl (by decide) (by decide) (by decide) (by decide) (fun j a => by omega)
/-- the same in the class, trunk by trunk -/
theorem las_l (s : sy_s 86 97 g b0 (b0 137 32) 166) {a1 : Int} : ∀ (m k : Nat) (l2 l3 : Int), (8 - l3).toNat = m → m < k → 0 ≤ l3 → -1 ≤ l2 → l2 ≤ 20 → (∀ i : Nat, (i : Int) < l3 → (i : Int) < b0 137 32 → b0 166 i = a1 → b0 167 i ≤ l2) → -1 ≤ zL_X6_lastSeenDay_4 86 a1 g k l2 l3 ∧ zL_X6_lastSeenDay_4 86 a1 g k l2 l3 ≤ 20 ∧ ∀ i : Nat, (i : Int) < b0 137 32 → b0 166 i = a1 → b0 167 i ≤ zL_X6_lastSeenDay_4 86 a1 g k l2 l3 := by
  obtain ⟨k1, k2, k3⟩ := s
  intro m
  induction m with
  | zero =>
    intro k l2 l3 hm hk h0 h1 h20 I
    obtain ⟨k, rfl⟩ : ∃ k1, k = k1 + 1 := ⟨k - 1, by omega⟩
    rw [zL_X6_lastSeenDay_4_s]
    unfold zB_X6_lastSeenDay_4
    simp only [zf_lq]
    rw [k1, if_neg (by omega)]
    exact ⟨h1, h20, fun i a c => I i (by omega) a c⟩
  | succ m ih =>
    intro k l2 l3 hm hk h0 h1 h20 I
    obtain ⟨k, rfl⟩ : ∃ k1, k = k1 + 1 := ⟨k - 1, by omega⟩
    rw [zL_X6_lastSeenDay_4_s]
    unfold zB_X6_lastSeenDay_4 zJ_X6_lastSeenDay_37
    simp only [zf_lq]
    rw [k1]
    by_cases z : l3 < b0 137 32
    · rw [if_pos z]
      obtain ⟨e1, e2, e3, e4, e5, e6⟩ := k3 l3.toNat (by omega)
      have e2 : g (97 + 1) l3.toNat = b0 167 l3.toNat := e2
      have e5 : 0 ≤ b0 167 l3.toNat := e5
      have e6 : b0 167 l3.toNat ≤ 20 := e6
      rw [X11_at (n := 8) h0 (by omega), X11_at (n := 8) h0 (by omega), show 86 + 11 = 97 from rfl, show 86 + 12 = 97 + 1 from rfl, e1, e2]
      by_cases y : b0 166 l3.toNat = a1
      · rw [if_pos y]
        refine ih k _ (l3 + 1) (by omega) (by omega) (by omega) (by omega) (by omega) (fun i a c d => ?_)
        by_cases e : i = l3.toNat
        · rw [e]; omega
        · have := I i (by omega) c d
          omega
      · rw [if_neg y]
        refine ih k _ (l3 + 1) (by omega) (by omega) (by omega) (by omega) (by omega) (fun i a c d => ?_)
        by_cases e : i = l3.toNat
        · rw [e] at d; exact absurd d y
        · exact I i (by omega) c d
    · rw [if_neg z]
      exact ⟨h1, h20, fun i a c => I i (by omega) a c⟩
theorem agr_l (s : sy_s 86 97 g b0 (b0 137 32) 166) {a1 a2 a3 : Int} : ∀ (m k : Nat) (l4 : Int), (8 - l4).toNat = m → m < k → 0 ≤ l4 → ((∀ i : Nat, l4 ≤ (i : Int) → (i : Int) < b0 137 32 → b0 166 i = a1 → b0 167 i = a2 → b0 168 i = a3) → zL_X6_agrees_3 86 a1 a2 a3 g k l4 = 1) ∧ (¬ (∀ i : Nat, l4 ≤ (i : Int) → (i : Int) < b0 137 32 → b0 166 i = a1 → b0 167 i = a2 → b0 168 i = a3) → zL_X6_agrees_3 86 a1 a2 a3 g k l4 = 0) := by
  obtain ⟨k1, k2, k3⟩ := s
  intro m
  induction m with
  | zero =>
    intro k l4 hm hk h0
    obtain ⟨k, rfl⟩ : ∃ k1, k = k1 + 1 := ⟨k - 1, by omega⟩
    rw [zL_X6_agrees_3_s]
    unfold zB_X6_agrees_3
    simp only [zf_lq]
    rw [k1, if_neg (by omega)]
    exact ⟨fun _ => rfl, fun z => absurd (fun i a b => by omega) z⟩
  | succ m ih =>
    intro k l4 hm hk h0
    obtain ⟨k, rfl⟩ : ∃ k1, k = k1 + 1 := ⟨k - 1, by omega⟩
    rw [zL_X6_agrees_3_s]
    unfold zB_X6_agrees_3 zJ_X6_agrees_42 zJ_X6_agrees_43 zJ_X6_agrees_65
    simp only [zf_lq]
    rw [k1]
    by_cases z : l4 < b0 137 32
    · rw [if_pos z]
      obtain ⟨e1, e2, e3, e4, e5, e6⟩ := k3 l4.toNat (by omega)
      have e2 : g (97 + 1) l4.toNat = b0 167 l4.toNat := e2
      have e3 : g (97 + 2) l4.toNat = b0 168 l4.toNat := e3
      rw [X11_at (n := 8) h0 (by omega), X11_at (n := 8) h0 (by omega), X11_at (n := 8) h0 (by omega), show 86 + 11 = 97 from rfl, show 86 + 12 = 97 + 1 from rfl, show 86 + 13 = 97 + 2 from rfl, e1, e2, e3]
      have N : (b0 166 l4.toNat = a1 → b0 167 l4.toNat = a2 → b0 168 l4.toNat = a3) → ((∀ i : Nat, l4 ≤ (i : Int) → (i : Int) < b0 137 32 → b0 166 i = a1 → b0 167 i = a2 → b0 168 i = a3) → zL_X6_agrees_3 86 a1 a2 a3 g k (l4 + 1) = 1) ∧ (¬ (∀ i : Nat, l4 ≤ (i : Int) → (i : Int) < b0 137 32 → b0 166 i = a1 → b0 167 i = a2 → b0 168 i = a3) → zL_X6_agrees_3 86 a1 a2 a3 g k (l4 + 1) = 0) := fun y => by
        obtain ⟨i1, i2⟩ := ih k (l4 + 1) (by omega) (by omega) (by omega)
        refine ⟨fun w => i1 (fun i a => w i (by omega)), fun w => i2 (fun v => w (fun i a b c d => ?_))⟩
        by_cases e : i = l4.toNat
        · rw [e] at c d ⊢
          exact y c d
        · exact v i (by omega) b c d
      by_cases y1 : b0 166 l4.toNat = a1
      · rw [if_pos y1]
        by_cases y2 : b0 167 l4.toNat = a2
        · rw [if_pos y2, i10]
          by_cases y3 : b0 168 l4.toNat = a3
          · rw [if_pos y3]
            exact N (fun _ _ => y3)
          · rw [if_neg y3]
            exact ⟨fun w => absurd (w l4.toNat (by omega) (by omega) y1 y2) y3, fun _ => rfl⟩
        · rw [if_neg y2, if_pos trivial]
          exact N (fun _ w => absurd w y2)
      · rw [if_neg y1, if_pos trivial]
        exact N (fun w => absurd w y1)
    · rw [if_neg z]
      exact ⟨fun _ => rfl, fun y => absurd (fun i a b => by omega) y⟩
theorem fp_s (f : fp x g0 g) (hld : x.1 = 1 ∨ x.1 = 41) (s : sy_s 86 97 g0 b0 (b0 137 32) 166) : sy_s 86 97 g b0 (b0 137 32) 166 := by
  obtain ⟨k1, k2, k3⟩ := s
  refine ⟨(f _ _ (by decide) (by omega) (by omega)).trans k1, k2, fun i hi => ?_⟩
  obtain ⟨e1, e2, e3, e4⟩ := k3 i hi
  exact ⟨(f _ _ (by decide) (by omega) (by omega)).trans e1, (f _ _ (by decide) (by omega) (by omega)).trans e2, (f _ _ (by decide) (by omega) (by omega)).trans e3, e4⟩
theorem fits_l (hx : mk_x x) (k0 : ru x gA b0) {t s L a2 : Int} (t0 : 0 ≤ t) (t1 : t < b0 140 1) (L20 : L ≤ 20) (hL : ∀ i : Nat, (i : Int) < b0 137 32 → b0 166 i = t → b0 167 i ≤ L) : ∀ (m k i : Nat) (l4 : Int) (g : mz_G), (L + 1 - l4).toNat = m → m < k → (i : Int) = l4 → fp x gA g → g 122 0 = b0 153 t.toNat → g 122 1 = b0 154 t.toNat → g 122 2 = s → g 122 4 = b0 144 t.toNat → g 122 3 = gnd b0 (b0 144 t.toNat) (b0 153 t.toNat) (b0 154 t.toNat) s i (b0 152 t.toNat) (b0 137 30) → ∃ v g1, zL_X11_fitsSeen_38 x t a2 k L l4 g = (v, g1) ∧ fp x gA g1 ∧ ((∀ j : Nat, (j : Int) < b0 137 32 → b0 166 j = t → l4 ≤ b0 167 j → sk b0 t.toNat s j) → v = 1) ∧ (¬ (∀ j : Nat, (j : Int) < b0 137 32 → b0 166 j = t → l4 ≤ b0 167 j → sk b0 t.toNat s j) → v = 0) := by
  have hld : x.1 = 1 ∨ x.1 = 41 := by unfold mk_x at hx; omega
  obtain ⟨-, -, vv, ss, tt, t6⟩ := now_t k0 t0 t1
  have e87 : gA 87 3 = b0 137 30 := k0.2.2.2.1.1.2.1
  have dd : 0 ≤ b0 137 30 ∧ b0 137 30 ≤ 999 := k0.2.2.2.1.1.2.2.2.1
  have sy : sy_s 86 97 gA b0 (b0 137 32) 166 := k0.2.2.2.1.2.2.1
  intro m
  induction m with
  | zero =>
    intro k i l4 g hm hk hi f w0 w1 w2 w4 w3
    obtain ⟨k, rfl⟩ : ∃ k1, k = k1 + 1 := ⟨k - 1, by omega⟩
    rw [zL_X11_fitsSeen_38_s]
    unfold zB_X11_fitsSeen_38
    rw [if_pos (by omega)]
    exact ⟨1, g, rfl, f, fun _ => rfl, fun z => absurd (fun j a b c => by have := hL j a b; omega) z⟩
  | succ m ih =>
    intro k i l4 g hm hk hi f w0 w1 w2 w4 w3
    obtain ⟨k, rfl⟩ : ∃ k1, k = k1 + 1 := ⟨k - 1, by omega⟩
    rw [zL_X11_fitsSeen_38_s]
    unfold zB_X11_fitsSeen_38
    simp only [zf_lq]
    have S := fp_S hld k0.2.1 f
    have vg := (gnd_b tt i _ (b0 137 30) vv (sp := s)).1
    rw [if_neg (by omega), bsize_n S.1 w0 w1 w3 vg]
    obtain ⟨A1, A2⟩ := agr_l (fp_s f hld sy) (a1 := t) (a2 := l4) (a3 := bn b0 (b0 153 t.toNat) (b0 154 t.toNat) (gnd b0 (b0 144 t.toNat) (b0 153 t.toNat) (b0 154 t.toNat) s i (b0 152 t.toNat) (b0 137 30))) (8 - 0 : Int).toNat 3000000000 0 rfl (by decide) (by decide)
    have agf : zF_X6_agrees 86 t l4 (bn b0 (b0 153 t.toNat) (b0 154 t.toNat) (gnd b0 (b0 144 t.toNat) (b0 153 t.toNat) (b0 154 t.toNat) s i (b0 152 t.toNat) (b0 137 30))) g = zL_X6_agrees_3 86 t l4 (bn b0 (b0 153 t.toNat) (b0 154 t.toNat) (gnd b0 (b0 144 t.toNat) (b0 153 t.toNat) (b0 154 t.toNat) s i (b0 152 t.toNat) (b0 137 30))) g 3000000000 0 := rfl
    rw [agf]
    by_cases y : ∀ j : Nat, (0 : Int) ≤ (j : Int) → (j : Int) < b0 137 32 → b0 166 j = t → b0 167 j = l4 → b0 168 j = bn b0 (b0 153 t.toNat) (b0 154 t.toNat) (gnd b0 (b0 144 t.toNat) (b0 153 t.toNat) (b0 154 t.toNat) s i (b0 152 t.toNat) (b0 137 30))
    · rw [A1 y, i10]
      obtain ⟨p0, p1, p2, p4, p3, pf⟩ := step_A hld k0.2.1 vv tt e87 dd.1 dd.2 hi (by omega) w0 w1 w2 w4 w3 f
      generalize zF_X11_growBy x 122 l4 g = g6 at *
      obtain ⟨v, g1, e, f1, q1, q2⟩ := ih k (i + 1) (l4 + 1) g6 (by omega) (by omega) (by omega) pf p0 p1 p2 p4 p3
      refine ⟨v, g1, e, f1, fun z => q1 (fun j a b c => z j a b (by omega)), fun z => q2 (fun w => z (fun j a b c => ?_))⟩
      by_cases ej : b0 167 j = l4
      · have := y j (by omega) a b ej
        unfold sk
        rw [this, show (b0 167 j).toNat = i by omega]
      · exact w j a b (by omega)
    · rw [A2 y, i00]
      refine ⟨0, g, rfl, f, fun z => ?_, fun _ => rfl⟩
      refine absurd (fun j _ a b c => ?_) y
      have := z j a b (by omega)
      unfold sk at this
      rw [show (b0 167 j).toNat = i by omega] at this
      exact this.symm
/-- whether a trunk with a strap is as seen, of the class -/
theorem fits_A (hx : mk_x x) (k0 : ru x gA b0) {t s : Int} (t0 : 0 ≤ t) (t1 : t < b0 140 1) (f : fp x gA g) : ∃ v g1, zF_X11_fitsSeen x t s g = (v, g1) ∧ fp x gA g1 ∧ (okt b0 t.toNat s → v = 1) ∧ (¬ okt b0 t.toNat s → v = 0) := by
  have hld : x.1 = 1 ∨ x.1 = 41 := by unfold mk_x at hx; omega
  obtain ⟨-, ⟨e0, e1, e2, e3, e4⟩, vv, ss, tt, t6⟩ := now_t k0 t0 t1
  have sy : sy_s 86 97 gA b0 (b0 137 32) 166 := k0.2.2.2.1.2.2.1
  have ft : ∀ b : Nat, g (87 + 3 + t.toNat) b = gA (87 + 3 + t.toNat) b := fun b => f _ b (by omega) (by omega) (by omega)
  unfold zF_X11_fitsSeen
  simp only [zf_lq]
  obtain ⟨L1, L2, L3⟩ := las_l (fp_s f hld sy) (a1 := t) (8 - 0 : Int).toNat 3000000000 (-1) 0 rfl (by decide) (by decide) (by decide) (by decide) (fun i a => by omega)
  have le : zF_X6_lastSeenDay 86 t g = zL_X6_lastSeenDay_4 86 t g 3000000000 (-1) 0 := rfl
  rw [le, get_A t0 t6]
  generalize zL_X6_lastSeenDay_4 86 t g 3000000000 (-1) 0 = L at *
  obtain ⟨r0, r1, r2, r3, r4, rf⟩ := asOf_A (g := g) (q := 122) (r := 87 + 3 + t.toNat) (by omega)
  generalize zF_X8_becomeAs 122 (87 + 3 + t.toNat) g = g2 at *
  have f3 : fp x gA (mz_up g2 122 2 s) := fun a b z z1 z2 => (up_k z).trans ((rf a b (by omega)).trans (f a b z z1 z2))
  obtain ⟨v, g1, e, f1, q1, q2⟩ := fits_l hx k0 (s := s) (a2 := s) t0 t1 L2 L3 (L + 1 - 0).toNat 3000000000 0 0 (mz_up g2 122 2 s) rfl (by omega) rfl f3 ((up_j (by decide)).trans (r0.trans ((ft 0).trans e0))) ((up_j (by decide)).trans (r1.trans ((ft 1).trans e1))) (mz_up_at ..) ((up_j (by decide)).trans (r4.trans ((ft 4).trans e4))) ((up_j (by decide)).trans (r3.trans ((ft 3).trans e3)))
  have b : ∀ j : Nat, (j : Int) < b0 137 32 → 0 ≤ b0 167 j := fun j hj => (sy.2.2 j hj).2.2.2.2.1
  refine ⟨v, g1, e, f1, fun z => q1 (fun j a c _ => z j a (by omega)), fun z => q2 (fun w => z (fun j a c => w j a (by omega) (b j a)))⟩
/-- a trunk's strap fits, all others' as they are -/
noncomputable def fb (b0 : mz_G) (t v : Nat) : Bool := @decide ((v : Int) ≠ b0 155 t ∧ okt b0 t v ∧ ∀ u : Nat, (u : Int) < b0 140 1 → u ≠ t → okt b0 u (b0 155 u)) (Classical.propDecidable _)
noncomputable def fo (b0 : mz_G) (t : Nat) : Bool := @decide (okt b0 t (b0 155 t)) (Classical.propDecidable _)
theorem fb_t {t v : Nat} : fb b0 t v = true ↔ ((v : Int) ≠ b0 155 t ∧ okt b0 t v ∧ ∀ u : Nat, (u : Int) < b0 140 1 → u ≠ t → okt b0 u (b0 155 u)) := @decide_eq_true_iff _ (Classical.propDecidable _)
theorem fo_t {t : Nat} : fo b0 t = true ↔ okt b0 t (b0 155 t) := @decide_eq_true_iff _ (Classical.propDecidable _)
/-- a mask of the ones that are so, their number -/
def ms (f : Nat → Bool) : Nat → Nat
  | 0 => 0
  | n + 1 => ms f n + (if f n = true then 2 ^ n else 0)
def cn (f : Nat → Bool) : Nat → Nat
  | 0 => 0
  | n + 1 => cn f n + (if f n = true then 1 else 0)
theorem ms_lt {f : Nat → Bool} : ∀ n : Nat, ms f n < 2 ^ n := by
  intro n
  induction n with
  | zero => exact (by decide : 0 < 2 ^ 0)
  | succ n ih =>
    unfold ms
    rw [Nat.pow_succ]
    split <;> omega
theorem ms_bit {f : Nat → Bool} : ∀ n v : Nat, v < n → (ms f n / 2 ^ v % 2 = 1 ↔ f v = true) := by
  intro n
  induction n with
  | zero => intro v hv; omega
  | succ n ih =>
    intro v hv
    unfold ms
    have l := ms_lt (f := f) n
    by_cases e : v = n
    · rw [e]
      by_cases z : f n = true
      · rw [if_pos z, Nat.add_div_right _ (Nat.pow_pos (by decide)), Nat.div_eq_of_lt l]
        exact ⟨fun _ => z, fun _ => rfl⟩
      · rw [if_neg z, Nat.add_zero, Nat.div_eq_of_lt l]
        exact ⟨fun w => by omega, fun w => absurd w z⟩
    · by_cases z : f n = true
      · rw [if_pos z]
        have p : 2 ^ n = 2 ^ v * (2 * 2 ^ (n - v - 1)) := by
          rw [← Nat.pow_succ', ← Nat.pow_add]
          congr 1
          omega
        rw [p, Nat.add_mul_div_left _ _ (Nat.pow_pos (by decide)), Nat.add_mul_mod_self_left]
        exact ih v (by omega)
      · rw [if_neg z, Nat.add_zero]
        exact ih v (by omega)
theorem cn_b {f : Nat → Bool} : ∀ n : Nat, cn f n ≤ n := by
  intro n
  induction n with
  | zero => exact Nat.le_refl 0
  | succ n ih =>
    unfold cn
    split <;> omega
theorem wi_cn0 {f : Nat → Bool} : ∀ n : Nat, (∀ v : Nat, v < n → f v = false) → cn f n = 0 ∧ ms f n = 0 := by
  intro n
  induction n with
  | zero => intro _; exact ⟨rfl, rfl⟩
  | succ n ih =>
    intro I
    obtain ⟨a, b⟩ := ih (fun v hv => I v (by omega))
    unfold cn ms
    have z : ¬ f n = true := by rw [I n (by omega)]; decide
    rw [if_neg z, if_neg z, a, b]
    exact ⟨rfl, rfl⟩
theorem cn_p {f : Nat → Bool} {v : Nat} (z : f v = true) : ∀ n : Nat, v < n → 0 < cn f n ∧ 0 < ms f n := by
  intro n
  induction n with
  | zero => intro h; omega
  | succ n ih =>
    intro h
    unfold cn ms
    by_cases e : v = n
    · rw [← e, if_pos z, if_pos z]
      have : 0 < 2 ^ v := Nat.pow_pos (by decide)
      omega
    · have := ih (by omega)
      omega
theorem or_10 : ∀ n : Fin 10, ∀ a : Fin (2 ^ n.val), mz_orI (a.val : Int) (mz_shlI 1 (n.val : Int)) = ((a.val + 2 ^ n.val : Nat) : Int) := by decide +kernel
theorem bc_10 : ∀ n : Fin 10, ∀ a : Fin (2 ^ n.val), zF_J6_bitCount ((a.val + 2 ^ n.val : Nat) : Int) (fun _ _ => 0) = zF_J6_bitCount (a.val : Int) (fun _ _ => 0) + 1 := by decide +kernel
theorem an_10 : ∀ a : Fin 1024, ∀ v : Fin 10, decide (mz_andI (a.val : Int) (mz_shlI 1 (v.val : Int)) = 0) = decide (¬ a.val / 2 ^ v.val % 2 = 1) := by decide +kernel
theorem al_6 : ∀ n : Fin 7, ∀ a : Fin 64, a.val < 2 ^ n.val → (∀ t : Fin 6, t.val < n.val → (mz_orI (a.val : Int) (mz_shlI 1 (t.val : Int)) = ((2 ^ n.val : Nat) : Int) - 1 ↔ ∀ u : Fin 6, u.val < n.val → u.val ≠ t.val → a.val / 2 ^ u.val % 2 = 1)) ∧ ((a.val : Int) = ((2 ^ n.val : Nat) : Int) - 1 ↔ ∀ u : Fin 6, u.val < n.val → a.val / 2 ^ u.val % 2 = 1) := by decide +kernel
theorem sh_7 : ∀ n : Fin 7, mz_shlI 1 (n.val : Int) = ((2 ^ n.val : Nat) : Int) := by decide +kernel
theorem ms_or {f : Nat → Bool} {n : Nat} (hn : n < 10) (z : f n = true) : mz_orI (ms f n : Int) (mz_shlI 1 (n : Int)) = (ms f (n + 1) : Int) := by
  have := or_10 ⟨n, hn⟩ ⟨ms f n, ms_lt n⟩
  dsimp only at this
  rw [this]
  show _ = ((ms f n + (if f n = true then 2 ^ n else 0) : Nat) : Int)
  rw [if_pos z]
theorem ms_no {f : Nat → Bool} {n : Nat} (z : ¬ f n = true) : ms f (n + 1) = ms f n ∧ cn f (n + 1) = cn f n := by
  show ms f n + _ = _ ∧ cn f n + _ = _
  rw [if_neg z, if_neg z]
  exact ⟨rfl, rfl⟩
theorem cn_y {f : Nat → Bool} {n : Nat} (z : f n = true) : cn f (n + 1) = cn f n + 1 := by
  show cn f n + _ = _
  rw [if_pos z]
theorem ms_bc {f : Nat → Bool} : ∀ n : Nat, n ≤ 10 → zF_J6_bitCount (ms f n : Int) g = (cn f n : Int) := by
  intro n
  induction n with
  | zero => intro _; exact (by decide +kernel : zF_J6_bitCount ((0 : Nat) : Int) (fun _ _ => 0) = ((0 : Nat) : Int))
  | succ n ih =>
    intro hn
    have i := ih (by omega)
    by_cases z : f n = true
    · have := bc_10 ⟨n, by omega⟩ ⟨ms f n, ms_lt n⟩
      dsimp only at this
      rw [cn_y z, show ms f (n + 1) = ms f n + 2 ^ n by show ms f n + _ = _; rw [if_pos z]]
      have i' : zF_J6_bitCount (ms f n : Int) (fun _ _ => 0) = (cn f n : Int) := i
      rw [i'] at this
      exact this
    · rw [(ms_no z).1, (ms_no z).2]
      exact i
theorem ms_low {f : Nat → Bool} {r : Nat} (hr : f r = true) (h10 : r < 10) (I : ∀ v : Nat, v < r → ¬ f v = true) : ∀ (m k t : Nat), r - t = m → m < k → t ≤ r → zL_X11_lowestBit_2 (ms f 10 : Int) g k (t : Int) = (r : Int) := by
  have bit : ∀ v : Nat, v < 10 → (mz_andI (ms f 10 : Int) (mz_shlI 1 (v : Int)) = 0 ↔ ¬ f v = true) := fun v hv => by
    have a := an_10 ⟨ms f 10, ms_lt 10⟩ ⟨v, hv⟩
    dsimp only at a
    have b := ms_bit (f := f) 10 v hv
    rw [← b]
    exact decide_eq_decide.mp a
  intro m
  induction m with
  | zero =>
    intro k t hm hk ht
    obtain ⟨k, rfl⟩ : ∃ k1, k = k1 + 1 := ⟨k - 1, by omega⟩
    have e : t = r := by omega
    rw [e, zL_X11_lowestBit_2_s]
    unfold zB_X11_lowestBit_2 zJ_X11_lowestBit_22
    simp only [zf_lq]
    rw [if_pos (by omega), if_neg (fun z => (bit r h10).mp z hr)]
  | succ m ih =>
    intro k t hm hk ht
    obtain ⟨k, rfl⟩ : ∃ k1, k = k1 + 1 := ⟨k - 1, by omega⟩
    rw [zL_X11_lowestBit_2_s]
    unfold zB_X11_lowestBit_2 zJ_X11_lowestBit_22
    simp only [zf_lq]
    rw [if_pos (by omega), if_pos ((bit t (by omega)).mpr (I t (by omega)))]
    have r1 := ih k (t + 1) (by omega) (by omega) (by omega)
    rw [show ((t + 1 : Nat) : Int) = (t : Int) + 1 by omega] at r1
    exact r1
/-- the class's masks -/
theorem fit_l (hx : mk_x x) (k0 : ru x gA b0) : ∀ (m k i : Nat) (g : mz_G), (b0 140 1 - (i : Int)).toNat = m → m < k → (i : Int) ≤ b0 140 1 → fp x gA g → ∃ g1, zL_X11_fittingTrunks_4 x k (ms (fo b0) i : Int) (i : Int) g = ((ms (fo b0) (b0 140 1).toNat : Int), g1) ∧ fp x gA g1 := by
  have hld : x.1 = 1 ∨ x.1 = 41 := by unfold mk_x at hx; omega
  have c6 : b0 140 1 ≤ 6 := k0.2.2.1.1.2
  have n2 : gA 87 2 = b0 140 1 := k0.2.2.2.1.1.1
  intro m
  induction m with
  | zero =>
    intro k i g hm hk hi f
    obtain ⟨k, rfl⟩ : ∃ k1, k = k1 + 1 := ⟨k - 1, by omega⟩
    rw [zL_X11_fittingTrunks_4_s]
    unfold zB_X11_fittingTrunks_4 zF_X11_trunkCount
    simp only [zf_lq]
    rw [f 87 2 (by decide) (by omega) (by omega), n2, if_neg (by omega), show (b0 140 1).toNat = i by omega]
    exact ⟨g, rfl, f⟩
  | succ m ih =>
    intro k i g hm hk hi f
    obtain ⟨k, rfl⟩ : ∃ k1, k = k1 + 1 := ⟨k - 1, by omega⟩
    have hin : (i : Int) < b0 140 1 := by omega
    obtain ⟨-, ⟨e0, e1, e2, e3, e4⟩, vv, ss, tt, t6⟩ := now_t k0 (t := (i : Int)) (by omega) hin
    rw [show ((i : Nat) : Int).toNat = i from rfl] at e2
    rw [zL_X11_fittingTrunks_4_s]
    unfold zB_X11_fittingTrunks_4 zJ_X11_fittingTrunks_40 zF_X11_trunkCount
    simp only [zf_lq]
    rw [f 87 2 (by decide) (by omega) (by omega), n2, if_pos hin, get_A (by omega) t6, show ((i : Nat) : Int).toNat = i from rfl, f (87 + 3 + i) 2 (by omega) (by omega) (by omega), e2]
    obtain ⟨v, g1, e, f1, q1, q2⟩ := fits_A hx k0 (t := (i : Int)) (s := b0 155 i) (by omega) hin f
    rw [show ((i : Nat) : Int).toNat = i from rfl] at q1 q2
    rw [e]
    unfold zf_m2
    dsimp only
    by_cases z : okt b0 i (b0 155 i)
    · rw [q1 z, i10, ms_or (by omega) (fo_t.mpr z)]
      have r := ih k (i + 1) g1 (by omega) (by omega) (by omega) f1
      rw [show ((i + 1 : Nat) : Int) = (i : Int) + 1 by omega] at r
      exact r
    · rw [q2 z, i00]
      have r := ih k (i + 1) g1 (by omega) (by omega) (by omega) f1
      rw [show ((i + 1 : Nat) : Int) = (i : Int) + 1 by omega, (ms_no (fun w => z (fo_t.mp w))).1] at r
      exact r
theorem fit_A (hx : mk_x x) (k0 : ru x gA b0) (f : fp x gA g) : ∃ g1, zF_X11_fittingTrunks x g = ((ms (fo b0) (b0 140 1).toNat : Int), g1) ∧ fp x gA g1 := by
  have c6 : b0 140 1 ≤ 6 := k0.2.2.1.1.2
  have n0 : 0 ≤ b0 140 1 := k0.2.2.1.1.1
  exact fit_l hx k0 (b0 140 1 - ((0 : Nat) : Int)).toNat 3000000000 0 g rfl (by omega) (by omega) f
theorem lst_l (hx : mk_x x) (k0 : ru x gA b0) {t a2 : Int} (t0 : 0 ≤ t) (t1 : t < b0 140 1) (O : ∀ u : Nat, (u : Int) < b0 140 1 → u ≠ t.toNat → okt b0 u (b0 155 u)) : ∀ (m k v : Nat) (g : mz_G), 10 - v = m → m < k → v ≤ 10 → fp x gA g → ∃ g1, zL_X11_looseStraps_19 x t a2 k (ms (fb b0 t.toNat) v : Int) (v : Int) g = ((ms (fb b0 t.toNat) 10 : Int), g1) ∧ fp x gA g1 := by
  have hld : x.1 = 1 ∨ x.1 = 41 := by unfold mk_x at hx; omega
  obtain ⟨-, ⟨e0, e1, e2, e3, e4⟩, vv, ss, tt, t6⟩ := now_t k0 t0 t1
  intro m
  induction m with
  | zero =>
    intro k v g hm hk hv f
    obtain ⟨k, rfl⟩ : ∃ k1, k = k1 + 1 := ⟨k - 1, by omega⟩
    rw [zL_X11_looseStraps_19_s]
    unfold zB_X11_looseStraps_19
    rw [if_pos (by omega), show v = 10 by omega]
    exact ⟨g, rfl, f⟩
  | succ m ih =>
    intro k v g hm hk hv f
    obtain ⟨k, rfl⟩ : ∃ k1, k = k1 + 1 := ⟨k - 1, by omega⟩
    rw [zL_X11_looseStraps_19_s]
    unfold zB_X11_looseStraps_19 zJ_X11_looseStraps_62
    simp only [zf_lq]
    rw [if_neg (by omega), get_A t0 t6, f (87 + 3 + t.toNat) 2 (by omega) (by omega) (by omega), e2]
    by_cases y : (v : Int) = b0 155 t.toNat
    · rw [if_pos y]
      have r := ih k (v + 1) g (by omega) (by omega) (by omega) f
      rw [show ((v + 1 : Nat) : Int) = (v : Int) + 1 by omega, (ms_no (fun w => (fb_t.mp w).1 y)).1] at r
      exact r
    · rw [if_neg y]
      obtain ⟨w, g1, e, f1, q1, q2⟩ := fits_A hx k0 (t := t) (s := (v : Int)) t0 t1 f
      rw [e]
      unfold zf_m2
      dsimp only
      by_cases z : okt b0 t.toNat (v : Int)
      · rw [q1 z, i10, ms_or (by omega) (fb_t.mpr ⟨y, z, O⟩)]
        have r := ih k (v + 1) g1 (by omega) (by omega) (by omega) f1
        rw [show ((v + 1 : Nat) : Int) = (v : Int) + 1 by omega] at r
        exact r
      · rw [q2 z, i00]
        have r := ih k (v + 1) g1 (by omega) (by omega) (by omega) f1
        rw [show ((v + 1 : Nat) : Int) = (v : Int) + 1 by omega, (ms_no (fun w => z (fb_t.mp w).2.1)).1] at r
        exact r
theorem lst_A (hx : mk_x x) (k0 : ru x gA b0) {t : Int} (t0 : 0 ≤ t) (t1 : t < b0 140 1) (f : fp x gA g) : ∃ g1, zF_X11_looseStraps x t (ms (fo b0) (b0 140 1).toNat : Int) g = ((ms (fb b0 t.toNat) 10 : Int), g1) ∧ fp x gA g1 := by
  have hld : x.1 = 1 ∨ x.1 = 41 := by unfold mk_x at hx; omega
  have c6 : b0 140 1 ≤ 6 := k0.2.2.1.1.2
  have n2 : gA 87 2 = b0 140 1 := k0.2.2.2.1.1.1
  obtain ⟨n, hn⟩ : ∃ n : Nat, b0 140 1 = n := ⟨(b0 140 1).toNat, by omega⟩
  have l := ms_lt (f := fo b0) n
  have p := Nat.pow_le_pow_right (n := 2) (by decide) (show n ≤ 6 by omega)
  have A := (al_6 ⟨n, by omega⟩ ⟨ms (fo b0) n, by omega⟩ l).1 ⟨t.toNat, by omega⟩ (by dsimp only; omega)
  dsimp only at A
  unfold zF_X11_looseStraps zF_X11_allTrunks zF_X11_trunkCount
  simp only [zf_lq]
  rw [f 87 2 (by decide) (by omega) (by omega), n2, hn, sh_7 ⟨n, by omega⟩, show ((n : Nat) : Int).toNat = n from rfl]
  rw [show ((t.toNat : Nat) : Int) = t by omega] at A
  by_cases z : mz_orI (ms (fo b0) n : Int) (mz_shlI 1 t) = ((2 ^ n : Nat) : Int) - 1
  · rw [if_pos z]
    have O : ∀ u : Nat, (u : Int) < b0 140 1 → u ≠ t.toNat → okt b0 u (b0 155 u) := fun u hu ht => fo_t.mp ((ms_bit n u (by omega)).mp (A.mp z ⟨u, by omega⟩ (by dsimp only; omega) ht))
    exact lst_l hx k0 (a2 := (ms (fo b0) n : Int)) t0 t1 O (10 - 0) 3000000000 0 g rfl (by decide) (by decide) f
  · rw [if_neg z]
    have N : ∀ v : Nat, v < 10 → fb b0 t.toNat v = false := fun v _ => by
      rw [← Bool.not_eq_true]
      intro w
      exact z (A.mpr fun u hu ht => (ms_bit n u.val hu).mpr (fo_t.mpr ((fb_t.mp w).2.2 u.val (by omega) ht)))
    rw [(wi_cn0 10 N).2]
    exact ⟨g, rfl, f⟩
end WI2
