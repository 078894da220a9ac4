/-! WHAT OVERLAPS, of both; the reference takes over -/
section OV
variable {x : mm_X} {g gA gB gB' : mz_G} {ld : Nat}
theorem ovr_ex {fl fn : Nat → Int} {a b : Int} (ha : 1 ≤ fn a.toNat) (hb : 1 ≤ fn b.toNat) : ∃ r, mz_ovr fl fn a b r := by
  have go : ∀ k : Nat, (k : Int) + 1 ≤ fn a.toNat → (k : Int) + 1 ≤ fn b.toNat → (∀ n : Int, (k : Int) < n → n + 1 ≤ fn a.toNat → n + 1 ≤ fn b.toNat → mz_mm fl fn a b n n) → ∃ r, mz_ovr fl fn a b r := by
    intro k
    induction k with
    | zero => intro h1 h2 h; exact ⟨0, Int.le_refl 0, fun z => absurd z (by decide), fun n z u v => h n z u v⟩
    | succ k ih =>
      intro h1 h2 h
      by_cases c : ∀ i : Int, 0 ≤ i → i < ((k + 1 : Nat) : Int) → mz_mt fl fn a b ((k + 1 : Nat) : Int) i
      · exact ⟨((k + 1 : Nat) : Int), by omega, fun _ => ⟨h1, h2, c⟩, h⟩
      · refine ih (by omega) (by omega) (fun n z u v => ?_)
        by_cases e : n = ((k + 1 : Nat) : Int)
        · rw [e]
          refine Classical.byContradiction (fun y => c (fun i i0 i1 => Classical.byContradiction (fun w => y ⟨i, i0, i1, w⟩)))
        · exact h n (by omega) u v
  exact go ((min (fn a.toNat) (fn b.toNat)).toNat - 1) (by omega) (by omega) (fun n z u v => by omega)
theorem ovr_ov {fl fn : Nat → Int} {a b : Int} (ha : 1 ≤ fn a.toNat) (hb : 1 ≤ fn b.toNat) : mz_ovr fl fn a b (mz_ov fl fn a b) := by
  obtain ⟨r, h⟩ := ovr_ex (fl := fl) ha hb
  rw [← mz_ov_eq h]
  exact h
theorem ov_B (hx : mk_x x) (I : mz_inv gB) {a b : Int} (a0 : 0 ≤ a) (a1 : a ≤ 7) (b0 : 0 ≤ b) (b1 : b ≤ 7) : zF_X12_overlapOf a b gB = mz_ov (gB 141) (gB 142) a b := by
  obtain ⟨r, -, -, h, -, e⟩ := q_X12_overlapOf hx I a0 a1 b0 b1
  exact e.trans h
/-- what overlaps hangs on the words' letters alone -/
theorem ovr_c {fl fn fl' fn' : Nat → Int} {a b r : Int} (a0 : 0 ≤ a) (b0 : 0 ≤ b) (ea : fn' a.toNat = fn a.toNat) (eb : fn' b.toNat = fn b.toNat) (la : fn a.toNat ≤ 8) (lb : fn b.toNat ≤ 8) (ha : ∀ j : Int, 0 ≤ j → j < 8 → fl' (8 * a + j).toNat = fl (8 * a + j).toNat) (hb : ∀ j : Int, 0 ≤ j → j < 8 → fl' (8 * b + j).toNat = fl (8 * b + j).toNat) (h : mz_ovr fl fn a b r) : mz_ovr fl' fn' a b r := by
  have mt : ∀ n i : Int, 0 ≤ i → i < n → n + 1 ≤ fn a.toNat → (mz_mt fl' fn' a b n i ↔ mz_mt fl fn a b n i) := fun n i i0 i1 n1 => by
    unfold mz_mt
    rw [ea, ha _ (by omega) (by omega), hb _ i0 (by omega)]
  obtain ⟨h0, h1, h2⟩ := h
  refine ⟨h0, fun z => ?_, fun n z u v => ?_⟩
  · obtain ⟨u, v, w⟩ := h1 z
    rw [ea, eb]
    exact ⟨u, v, fun i i0 i1 => (mt r i i0 i1 u).mpr (w i i0 i1)⟩
  · rw [ea] at u
    rw [eb] at v
    obtain ⟨i, i0, i1, i2⟩ := h2 n z u v
    exact ⟨i, i0, i1, fun y => i2 ((mt n i i0 i1 u).mp y)⟩
/-- the class's overlap of two words -/
theorem ovw_l {u v : Nat} {fl fn : Nat → Int} {a b la lb : Int} (ea : g u 1 = la) (eb : g v 1 = lb) (fa : fn a.toNat = la) (fb : fn b.toNat = lb) (za : la ≤ (zf_ln u : Int)) (zb : lb ≤ (zf_ln v : Int)) (a0 : 0 ≤ a) (b0 : 0 ≤ b) (lu : ∀ j : Nat, (j : Int) < la → g (u + 1) j = fl (8 * a + j).toNat) (lv : ∀ j : Nat, (j : Int) < lb → g (v + 1) j = fl (8 * b + j).toNat) : ∀ (m k : Nat) (l : Int), l.toNat < m → m ≤ k → l + 1 ≤ la → l + 1 ≤ lb → (∀ n : Int, l < n → n + 1 ≤ la → n + 1 ≤ lb → mz_mm fl fn a b n n) → mz_ovr fl fn a b (zL_X0_overlapWith_14 u v g k l) := by
  intro m
  induction m with
  | zero => intro k l h; exact absurd h (Nat.not_lt_zero _)
  | succ m ih =>
    intro k l hm hk l1 l2 hh
    obtain ⟨k, rfl⟩ : ∃ k1, k = k1 + 1 := ⟨k - 1, by omega⟩
    rw [zL_X0_overlapWith_14_s]
    unfold zB_X0_overlapWith_14 zJ_X0_overlapWith_39
    simp only [zf_lq]
    by_cases c : 0 < l
    · rw [if_pos c, ea]
      obtain ⟨m1, m2⟩ := X0_matches (q0 := u) (q2 := v) (a := la - l) (n := l) (g := g) (by omega) (by omega) (by omega)
      have tr : ∀ j : Nat, (j : Int) < l → (g (u + 1) (la - l + j).toNat = g (v + 1) j ↔ mz_mt fl fn a b l j) := fun j hj => by
        unfold mz_mt
        rw [fa, lv j (by omega)]
        have := lu (la - l + j).toNat (by omega)
        rw [this, show (8 * a + ((la - l + (j : Int)).toNat : Nat) : Int) = 8 * a + (la - l + j) by omega]
      by_cases y : ∀ j : Nat, (j : Int) < l → g (u + 1) (la - l + j).toNat = g (v + 1) j
      · rw [m1 y, if_neg (by decide)]
        have e : max l 0 = l := by omega
        rw [e]
        refine ⟨by omega, fun _ => ⟨by rw [fa]; exact l1, by rw [fb]; exact l2, fun i i0 i1 => ?_⟩, fun n z p q => hh n z (by rw [fa] at p; exact p) (by rw [fb] at q; exact q)⟩
        have := (tr i.toNat (by omega)).mp (y i.toNat (by omega))
        rw [show ((i.toNat : Nat) : Int) = i by omega] at this
        exact this
      · rw [m2 y, if_pos rfl]
        refine ih k (l + -1) (by omega) (by omega) (by omega) (by omega) (fun n z p q => ?_)
        by_cases e : n = l
        · rw [e]
          refine Classical.byContradiction (fun w => y (fun j hj => (tr j hj).mpr (Classical.byContradiction (fun t => w ⟨j, by omega, hj, t⟩))))
        · exact hh n (by omega) p q
    · rw [if_neg c]
      refine ⟨by omega, fun z => by omega, fun n z p q => hh n (by omega) (by rw [fa] at p; exact p) (by rw [fb] at q; exact q)⟩
theorem ovw_A {u v : Nat} {fl fn : Nat → Int} {a b la lb : Int} (ea : g u 1 = la) (eb : g v 1 = lb) (fa : fn a.toNat = la) (fb : fn b.toNat = lb) (pa : 1 ≤ la) (pb : 1 ≤ lb) (za : la ≤ (zf_ln u : Int)) (zb : lb ≤ (zf_ln v : Int)) (a0 : 0 ≤ a) (b0 : 0 ≤ b) (lu : ∀ j : Nat, (j : Int) < la → g (u + 1) j = fl (8 * a + j).toNat) (lv : ∀ j : Nat, (j : Int) < lb → g (v + 1) j = fl (8 * b + j).toNat) : zF_X0_overlapWith u v g = mz_ov fl fn a b := by
  have z16 := zf_ln_le u
  refine mz_ov_eq ?_
  unfold zF_X0_overlapWith
  simp only [zf_lq]
  rw [ea, eb]
  exact ovw_l ea eb fa fb za zb a0 b0 lu lv 20 3000000000 (min la lb - 1) (by omega) (by decide) (by omega) (by omega) (fun n z p q => by omega)
/-- the overlaps that the class finds when all is told: its words as the reference's at 140 .. -/
theorem set12 (hld : ld = 1 ∨ ld = 41) (w : sa_w ld gA gB) (ho : ∀ a b : Int, 0 ≤ a → a ≤ 7 → 0 ≤ b → b ≤ 7 → 0 ≤ mz_ov (gB 141) (gB 142) a b ∧ mz_ov (gB 141) (gB 142) a b ≤ 7) {l : Int} (l0 : 0 ≤ l) (l8 : l < gB 140 0) : ∀ (m k : Nat) (l3 : Int) (g : mz_G), (gB 140 0 - l3).toNat = m → m < k → 0 ≤ l3 → l3 ≤ gB 140 0 → mz_inv g → (∀ a b : Nat, a ≠ ld + 6 → a ≠ ld + 7 → g a b = gA a b) → (∀ i j : Nat, (i : Int) < gB 140 0 → (j : Int) < gB 140 0 → ((i : Int) < l ∨ ((i : Int) = l ∧ (j : Int) < l3)) → g (ld + 6) (8 * i + j) = mz_ov (gB 141) (gB 142) i j) → ∃ g1, zL_X10_settle_12 (ld + 1) 85 2048 k l l3 g = g1 ∧ mz_inv g1 ∧ (∀ a b : Nat, a ≠ ld + 6 → a ≠ ld + 7 → g1 a b = gA a b) ∧ (∀ i j : Nat, (i : Int) < gB 140 0 → (j : Int) < gB 140 0 → (i : Int) < l + 1 → g1 (ld + 6) (8 * i + j) = mz_ov (gB 141) (gB 142) i j) := by
  have c8 := w.2.2.1
  intro m
  induction m with
  | zero =>
    intro k l3 g hm hk h0 h1 hI hf hv
    obtain ⟨k, rfl⟩ : ∃ k1, k = k1 + 1 := ⟨k - 1, by omega⟩
    rw [zL_X10_settle_12_s]
    unfold zB_X10_settle_12
    simp only [zf_lq]
    rw [hf (ld + 1) 3 (by omega) (by omega), w.1, if_neg (by omega)]
    exact ⟨g, rfl, hI, hf, fun i j hi hj z => hv i j hi hj (by omega)⟩
  | succ m ih =>
    intro k l3 g hm hk h0 h1 hI hf hv
    obtain ⟨k, rfl⟩ : ∃ k1, k = k1 + 1 := ⟨k - 1, by omega⟩
    rw [zL_X10_settle_12_s]
    unfold zB_X10_settle_12
    simp only [zf_lq]
    rw [hf (ld + 1) 3 (by omega) (by omega), w.1, if_pos (by omega)]
    have O1 : ∀ g : mz_G, zF_X10_of (ld + 1) l g = ld + 1 + 9 + 2 * l.toNat := fun g => X10_of l0 (by omega)
    have O3 : ∀ g : mz_G, zF_X10_of (ld + 1) l3 g = ld + 1 + 9 + 2 * l3.toNat := fun g => X10_of h0 (by omega)
    simp only [O1, O3]
    obtain ⟨p1, p2, p3, p4, -⟩ := w.2.2.2 l.toNat (by omega)
    obtain ⟨q1, q2, q3, q4, -⟩ := w.2.2.2 l3.toNat (by omega)
    have zl := ln8 (w := l.toNat) hld (by omega)
    have z3 := ln8 (w := l3.toNat) hld (by omega)
    have ov : zF_X0_overlapWith (ld + 1 + 9 + 2 * l.toNat) (ld + 1 + 9 + 2 * l3.toNat) g = mz_ov (gB 141) (gB 142) l l3 := by
      rw [show ld + 1 + 9 + 2 * l.toNat = ld + 10 + 2 * l.toNat by omega, show ld + 1 + 9 + 2 * l3.toNat = ld + 10 + 2 * l3.toNat by omega]
      refine ovw_A (la := gB 142 l.toNat) (lb := gB 142 l3.toNat) ?_ ?_ rfl rfl p2 q2 (by rw [zl]; exact p3) (by rw [z3]; exact q3) l0 h0 (fun j hj => ?_) (fun j hj => ?_)
      · rw [hf _ _ (by omega) (by omega)]; exact p1
      · rw [hf _ _ (by omega) (by omega)]; exact q1
      · rw [show ld + 10 + 2 * l.toNat + 1 = ld + 11 + 2 * l.toNat by omega, hf _ _ (by omega) (by omega), (p4 j hj).1]
        congr 1
        omega
      · rw [show ld + 10 + 2 * l3.toNat + 1 = ld + 11 + 2 * l3.toNat by omega, hf _ _ (by omega) (by omega), (q4 j hj).1]
        congr 1
        omega
    rw [ov, X11_put (n := 64) (by omega) (by omega)]
    have bd : ∀ q : Nat, (q = ld + 1 + 5 ∨ q = ld + 1 + 6) → ∀ j, mz_bd q j = (-2147483648, 2147483647) := fun q hq j => by rcases hld with rfl | rfl <;> rcases hq with rfl | rfl <;> rfl
    have oo := ho l l3 l0 (by omega) h0 (by omega)
    have fin : ∀ s : Int, -1 ≤ s → s ≤ 1 → ∃ g1, zJ_X10_settle_81 (ld + 1) 85 2048 (zL_X10_settle_12 (ld + 1) 85 2048 k) (l * 8 + l3) s l l3 (mz_up g (ld + 1 + 5) (l * 8 + l3).toNat (mz_ov (gB 141) (gB 142) l l3)) = g1 ∧ mz_inv g1 ∧ (∀ a b : Nat, a ≠ ld + 6 → a ≠ ld + 7 → g1 a b = gA a b) ∧ (∀ i j : Nat, (i : Int) < gB 140 0 → (j : Int) < gB 140 0 → (i : Int) < l + 1 → g1 (ld + 6) (8 * i + j) = mz_ov (gB 141) (gB 142) i j) := fun s s0 s1 => by
      unfold zJ_X10_settle_81
      simp only [zf_lq]
      rw [X11_put (n := 64) (by omega) (by omega)]
      refine ih k (l3 + 1) _ (by omega) (by omega) (by omega) (by omega) (mz_inv_up (mz_inv_up hI (bd _ (Or.inl rfl) _) (by omega) (by omega)) (bd _ (Or.inr rfl) _) (by omega) (by omega)) (fun a b u v => ?_) (fun i j hi hj z => ?_)
      · rw [up_k (by omega), up_k (by omega)]; exact hf a b u v
      · rw [up_k (by omega), show ld + 1 + 5 = ld + 6 from rfl]
        by_cases c : (i : Int) = l ∧ (j : Int) = l3
        · rw [show (l * 8 + l3).toNat = 8 * i + j by omega, mz_up_at, c.1, c.2]
        · rw [up_j (by omega)]
          exact hv i j hi hj (by omega)
    split
    · exact fin 1 (by decide) (by decide)
    · exact fin (-1) (by decide) (by decide)
theorem set134 (hld : ld = 1 ∨ ld = 41) {g0 : mz_G} : ∀ (m k : Nat) (l : Int) (g : mz_G), (g0 (ld + 1) 3 - l).toNat = m → m < k → (∀ a b : Nat, ¬ (a = ld + 1 ∧ b = 8) → g a b = g0 a b) → ∃ g1, zL_X10_settle_134 (ld + 1) 85 2048 k l g = g1 ∧ (∀ a b : Nat, ¬ (a = ld + 1 ∧ b = 8) → g1 a b = g0 a b) := by
  intro m
  induction m with
  | zero =>
    intro k l g hm hk hf
    obtain ⟨k, rfl⟩ : ∃ k1, k = k1 + 1 := ⟨k - 1, by omega⟩
    rw [zL_X10_settle_134_s]
    unfold zB_X10_settle_134
    simp only [zf_lq]
    rw [hf (ld + 1) 3 (by omega), if_neg (by omega)]
    exact ⟨g, rfl, hf⟩
  | succ m ih =>
    intro k l g hm hk hf
    obtain ⟨k, rfl⟩ : ∃ k1, k = k1 + 1 := ⟨k - 1, by omega⟩
    rw [zL_X10_settle_134_s]
    unfold zB_X10_settle_134 zJ_X10_settle_183
    simp only [zf_lq]
    rw [hf (ld + 1) 3 (by omega), if_pos (by omega)]
    split
    · exact ih k (l + 1) _ (by omega) (by omega) (fun a b z => (mz_up_ne z).trans (hf a b z))
    · exact ih k (l + 1) _ (by omega) (by omega) (fun a b z => (mz_up_ne z).trans (hf a b z))
theorem set2 (hx : mk_x x) (hld : ld = 1 ∨ ld = 41) (w : sa_w ld gA gB) (ho : ∀ a b : Int, 0 ≤ a → a ≤ 7 → 0 ≤ b → b ≤ 7 → 0 ≤ mz_ov (gB 141) (gB 142) a b ∧ mz_ov (gB 141) (gB 142) a b ≤ 7) : ∀ (m k : Nat) (l : Int) (g : mz_G), (gB 140 0 - l).toNat = m → m < k → 0 ≤ l → l ≤ gB 140 0 → mz_inv g → (∀ a b : Nat, a ≠ ld + 6 → a ≠ ld + 7 → g a b = gA a b) → (∀ i j : Nat, (i : Int) < gB 140 0 → (j : Int) < gB 140 0 → (i : Int) < l → g (ld + 6) (8 * i + j) = mz_ov (gB 141) (gB 142) i j) → ∃ g1, zL_X10_settle_2 (ld + 1) 85 2048 k l g = g1 ∧ (∀ a b : Nat, a ≠ ld + 6 → a ≠ ld + 7 → a ≠ ld + 8 → a ≠ ld + 9 → a ≠ 85 → ¬ (a = ld + 1 ∧ (b = 8 ∨ b = 9)) → g1 a b = gA a b) ∧ (∀ i j : Nat, (i : Int) < gB 140 0 → (j : Int) < gB 140 0 → g1 (ld + 6) (8 * i + j) = mz_ov (gB 141) (gB 142) i j) := by
  have c8 := w.2.2.1
  intro m
  induction m with
  | zero =>
    intro k l g hm hk h0 h1 hI hf hv
    obtain ⟨k, rfl⟩ : ∃ k1, k = k1 + 1 := ⟨k - 1, by omega⟩
    rw [zL_X10_settle_2_s]
    unfold zB_X10_settle_2 zf_m2
    simp only [zf_lq]
    rw [hf (ld + 1) 3 (by omega) (by omega), w.1, if_neg (by omega)]
    have sh : ∀ q : Nat, (q = ld + 1 + 5 ∨ q = ld + 1 + 6) → mm_SH x.2.2.2.1 q = (100, 64) := fun q hq => by rcases hld with rfl | rfl <;> rcases hq with rfl | rfl <;> rfl
    have sh8 : ∀ q : Nat, (q = ld + 1 + 7 ∨ q = ld + 1 + 8) → mm_SH x.2.2.2.1 q = (100, 8) := fun q hq => by rcases hld with rfl | rfl <;> rcases hq with rfl | rfl <;> rfl
    have bd : ∀ q : Nat, (q = ld + 1 + 5 ∨ q = ld + 1 + 6 ∨ q = ld + 1 + 7 ∨ q = ld + 1 + 8) → ∀ j, mz_bd q j = (-2147483648, 2147483647) := fun q hq j => by rcases hld with rfl | rfl <;> rcases hq with rfl | rfl | rfl | rfl <;> rfl
    have kw : kd_words (ld + 1) := by unfold kd_words; omega
    obtain ⟨r1, h1, i1, f1, -, -, e1⟩ := q_X10_findOrder hx hI kw (sh (ld + 1 + 5) (Or.inl rfl)) (by decide) (bd _ (by omega)) (sh8 (ld + 1 + 7) (Or.inl rfl)) (by decide) (bd _ (by omega)) (q3 := 85) (n_q3 := 2048) rfl (by decide) (fun _ => rfl)
    rw [e1]
    dsimp only
    obtain ⟨r2, h2, i2, f2, -, -, e2⟩ := q_X10_findOrder hx i1 kw (sh (ld + 1 + 6) (Or.inr rfl)) (by decide) (bd _ (by omega)) (sh8 (ld + 1 + 8) (Or.inr rfl)) (by decide) (bd _ (by omega)) (q3 := 85) (n_q3 := 2048) rfl (by decide) (fun _ => rfl)
    rw [e2]
    dsimp only
    have F : ∀ a b : Nat, a ≠ 85 → a ≠ ld + 8 → a ≠ ld + 9 → h2 a b = g a b := fun a b u v z => (f2 a b (by unfold fw_X10_findOrder; omega)).trans (f1 a b (by unfold fw_X10_findOrder; omega))
    have G : ∀ a b : Nat, a ≠ 85 → a ≠ ld + 8 → a ≠ ld + 9 → ¬ (a = ld + 1 ∧ (b = 8 ∨ b = 9)) → mz_up (mz_up h2 (ld + 1) 9 r2) (ld + 1) 8 0 a b = g a b := fun a b u v z y => by
      rw [mz_up_ne (by omega), mz_up_ne (by omega)]; exact F a b u v z
    obtain ⟨g1, e, f⟩ := set134 hld (g0 := mz_up (mz_up h2 (ld + 1) 9 r2) (ld + 1) 8 0) _ 3000000000 0 _ rfl (by rw [G _ _ (by omega) (by omega) (by omega) (by omega), hf _ _ (by omega) (by omega), w.1]; omega) (fun _ _ _ => rfl)
    refine ⟨g1, e, fun a b u1 u2 u3 u4 u5 u6 => ?_, fun i j hi hj => ?_⟩
    · rw [f a b (by omega), G a b u5 u3 u4 u6]; exact hf a b u1 u2
    · rw [f _ _ (by omega), G _ _ (by omega) (by omega) (by omega) (by omega)]; exact hv i j hi hj (by omega)
  | succ m ih =>
    intro k l g hm hk h0 h1 hI hf hv
    obtain ⟨k, rfl⟩ : ∃ k1, k = k1 + 1 := ⟨k - 1, by omega⟩
    rw [zL_X10_settle_2_s]
    unfold zB_X10_settle_2
    simp only [zf_lq]
    rw [hf (ld + 1) 3 (by omega) (by omega), w.1, if_pos (by omega)]
    obtain ⟨g12, e, i12, f, v⟩ := set12 hld w ho (l := l) h0 (by omega) (gB 140 0 - 0).toNat 3000000000 0 g rfl (by omega) (by decide) (by omega) hI hf (fun i j hi hj z => hv i j hi hj (by omega))
    rw [e]
    exact ih k (l + 1) g12 (by omega) (by omega) (by omega) (by omega) i12 f v
/-- when all is told the class knows what overlaps -/
theorem settle_A (hx : mk_x x) (hld : ld = 1 ∨ ld = 41) (I : mz_inv gA) (w : sa_w ld gA gB) (ho : ∀ a b : Int, 0 ≤ a → a ≤ 7 → 0 ≤ b → b ≤ 7 → 0 ≤ mz_ov (gB 141) (gB 142) a b ∧ mz_ov (gB 141) (gB 142) a b ≤ 7) : (∀ a b : Nat, a ≠ ld + 6 → a ≠ ld + 7 → a ≠ ld + 8 → a ≠ ld + 9 → a ≠ 85 → ¬ (a = ld + 1 ∧ (b = 8 ∨ b = 9)) → zF_X10_settle (ld + 1) 85 2048 gA a b = gA a b) ∧ (∀ i j : Nat, (i : Int) < gB 140 0 → (j : Int) < gB 140 0 → zF_X10_settle (ld + 1) 85 2048 gA (ld + 6) (8 * i + j) = mz_ov (gB 141) (gB 142) i j) := by
  have c8 := w.2.2.1
  unfold zF_X10_settle
  obtain ⟨g1, e, f, v⟩ := set2 hx hld w ho (gB 140 0 - 0).toNat 3000000000 0 gA rfl (by omega) (by decide) w.2.1 I (fun _ _ _ _ => rfl) (fun i j _ _ z => by omega)
  rw [e]
  exact ⟨f, v⟩
/-- the reference takes over what was told -/
theorem to77 {g0 : mz_G} : ∀ (m k : Nat) (l : Int) (g : mz_G), (6 - l).toNat = m → m < k → 0 ≤ l → l ≤ 6 → (∀ t : Nat, (t : Int) < l → g 152 t = 0 ∧ ((t : Int) < g0 140 1 → g 153 t = g0 145 t ∧ g 154 t = g0 146 t ∧ g 155 t = g0 147 t)) → (∀ a b : Nat, ¬ (152 ≤ a ∧ a ≤ 155) → g a b = g0 a b) → ∃ g1, zL_X12_takeOver_77 k l g = g1 ∧ (∀ t : Nat, t < 6 → g1 152 t = 0 ∧ ((t : Int) < g0 140 1 → g1 153 t = g0 145 t ∧ g1 154 t = g0 146 t ∧ g1 155 t = g0 147 t)) ∧ (∀ a b : Nat, ¬ (152 ≤ a ∧ a ≤ 155) → ¬ (a = 137 ∧ (b = 31 ∨ b = 32 ∨ b = 53)) → g1 a b = g0 a b) ∧ g1 137 31 = 0 ∧ g1 137 32 = 0 ∧ g1 137 53 = 0 := by
  intro m
  induction m with
  | zero =>
    intro k l g hm hk l0 l6 hv hf
    obtain ⟨k, rfl⟩ : ∃ k1, k = k1 + 1 := ⟨k - 1, by omega⟩
    rw [zL_X12_takeOver_77_s]
    unfold zB_X12_takeOver_77
    simp only [zf_lq]
    rw [if_neg (by omega)]
    refine ⟨_, rfl, fun t ht => ?_, fun a b u v => ?_, ?_, ?_, mz_up_at ..⟩
    · rw [up_k (by decide), up_k (by decide), up_k (by decide), up_k (by decide), up_k (by decide), up_k (by decide), up_k (by decide), up_k (by decide), up_k (by decide), up_k (by decide), up_k (by decide), up_k (by decide)]
      exact hv t (by omega)
    · rw [mz_up_ne (by omega), mz_up_ne (by omega), mz_up_ne (by omega)]; exact hf a b u
    · rw [up_j (by decide), up_j (by decide), mz_up_at]
    · rw [up_j (by decide), mz_up_at]
  | succ m ih =>
    intro k l g hm hk l0 l6 hv hf
    obtain ⟨k, rfl⟩ : ∃ k1, k = k1 + 1 := ⟨k - 1, by omega⟩
    rw [zL_X12_takeOver_77_s]
    unfold zB_X12_takeOver_77
    simp only [zf_lq]
    rw [if_pos (by omega), hf 140 1 (by decide)]
    have go : ∀ (v3 v4 v5 : Int) (g' : mz_G), ((l : Int) < g0 140 1 → v3 = g0 145 l.toNat ∧ v4 = g0 146 l.toNat ∧ v5 = g0 147 l.toNat) → g' = mz_up (mz_up (mz_up (mz_up g 152 l.toNat 0) 153 l.toNat v3) 154 l.toNat v4) 155 l.toNat v5 → ∃ g1, zL_X12_takeOver_77 k (l + 1) g' = g1 ∧ (∀ t : Nat, t < 6 → g1 152 t = 0 ∧ ((t : Int) < g0 140 1 → g1 153 t = g0 145 t ∧ g1 154 t = g0 146 t ∧ g1 155 t = g0 147 t)) ∧ (∀ a b : Nat, ¬ (152 ≤ a ∧ a ≤ 155) → ¬ (a = 137 ∧ (b = 31 ∨ b = 32 ∨ b = 53)) → g1 a b = g0 a b) ∧ g1 137 31 = 0 ∧ g1 137 32 = 0 ∧ g1 137 53 = 0 := fun v3 v4 v5 g' hv' e => by
      subst e
      refine ih k (l + 1) _ (by omega) (by omega) (by omega) (by omega) (fun t ht => ?_) (fun a b z => ?_)
      · by_cases c : t = l.toNat
        · subst c
          refine ⟨?_, fun z => ?_⟩
          · rw [up_k (by decide), up_k (by decide), up_k (by decide), mz_up_at]
          · obtain ⟨w3, w4, w5⟩ := hv' (by omega)
            refine ⟨?_, ?_, ?_⟩
            · rw [up_k (by decide), up_k (by decide), mz_up_at]; exact w3
            · rw [up_k (by decide), mz_up_at]; exact w4
            · rw [mz_up_at]; exact w5
        · obtain ⟨u0, u1⟩ := hv t (by omega)
          rw [mz_up_ne (by omega), mz_up_ne (by omega), mz_up_ne (by omega), mz_up_ne (by omega), mz_up_ne (by omega), mz_up_ne (by omega), mz_up_ne (by omega), mz_up_ne (by omega), mz_up_ne (by omega), mz_up_ne (by omega), mz_up_ne (by omega), mz_up_ne (by omega), mz_up_ne (by omega), mz_up_ne (by omega), mz_up_ne (by omega), mz_up_ne (by omega)]
          exact ⟨u0, u1⟩
      · rw [up_k (by omega), up_k (by omega), up_k (by omega), up_k (by omega)]; exact hf a b z
    unfold zJ_X12_takeOver_98 zJ_X12_takeOver_125 zJ_X12_takeOver_145 zJ_X12_takeOver_165
    simp only [zf_lq]
    have k5 : ∀ (q : Nat) (g : mz_G) (j b c : Nat) (v : Int), c ≠ q → mz_up g q j v c b = g c b := fun _ _ _ _ _ _ h => up_k h
    by_cases c : l < g0 140 1
    · rw [if_pos c, if_neg (by decide : ¬ (1 : Int) = 0), if_neg (by decide : ¬ (1 : Int) = 0), if_neg (by decide : ¬ (1 : Int) = 0)]
      exact go _ _ _ _ (fun _ => ⟨by rw [k5 152 _ _ _ 145 _ (by decide)]; exact hf _ _ (by decide), by rw [k5 153 _ _ _ 146 _ (by decide), k5 152 _ _ _ 146 _ (by decide)]; exact hf _ _ (by decide), by rw [k5 154 _ _ _ 147 _ (by decide), k5 153 _ _ _ 147 _ (by decide), k5 152 _ _ _ 147 _ (by decide)]; exact hf _ _ (by decide)⟩) rfl
    · rw [if_neg c, if_pos trivial, if_pos trivial, if_pos trivial]
      exact go 0 0 0 _ (fun z => absurd z c) rfl
end OV
