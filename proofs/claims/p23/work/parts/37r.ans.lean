/-! ANSWERS (23): when all is told the class lays down its row and chain; what it keeps of them -/
def l1_ (ld : Nat) (g : mz_G) (n : Nat) (w v : Nat) : Int := if w < n ∧ v < n then g (ld + 6) (8 * w + v) else 0
def l2_ (ld : Nat) (g : mz_G) (n : Nat) (w v : Nat) : Int := if w < n ∧ v < n then (if g (ld + 11 + 2 * w) (g (ld + 10 + 2 * w) 1 - 1).toNat = g (ld + 11 + 2 * v) 0 then 1 else -1) else 0
def lc_ (ld : Nat) (g : mz_G) (v : Nat) : Int := g (ld + 10 + 2 * v) 1
/-- what the class keeps -/
def rwa (ld : Nat) (g : mz_G) : Prop := ∀ n : Nat, g (ld + 1) 3 = (n : Int) → n ≤ 8 → (g (ld + 1) 8 = ltS (lc_ ld g) 0 n - M0 (l1_ ld g n) n ∧ ∀ i : Nat, i < n → g (ld + 8) i = ((sq (l1_ ld g n) n i).2 : Int)) ∧ g (ld + 1) 9 = (cs_ (l2_ ld g n) n : Int) ∧ ∀ i : Nat, i < cs_ (l2_ ld g n) n → g (ld + 9) i = ((sq (l2_ ld g n) n i).2 : Int)
section WN2
variable {x : mm_X} {g g0 g1 gA gB b0 h h0 : mz_G} {ld n : Nat}
theorem rwa_A (f : ∀ a b : Nat, ld ≤ a → a ≤ ld + 37 → g a b = gA a b) (k : rwa ld gA) : rwa ld g := by
  intro n hn n8
  rw [f _ _ (by omega) (by omega)] at hn
  have e1 : l1_ ld g n = l1_ ld gA n := by
    funext w v
    unfold l1_
    rw [f _ _ (by omega) (by omega)]
  have e2 : l2_ ld g n = l2_ ld gA n := by
    funext w v
    unfold l2_
    by_cases z : w < n ∧ v < n
    · rw [if_pos z, if_pos z, f (ld + 10 + 2 * w) 1 (by omega) (by omega), f (ld + 11 + 2 * w) _ (by omega) (by omega), f (ld + 11 + 2 * v) 0 (by omega) (by omega)]
    · rw [if_neg z, if_neg z]
  have e3 : ltS (lc_ ld g) 0 n = ltS (lc_ ld gA) 0 n := by
    have A : ∀ m : Nat, m ≤ 8 → ltS (lc_ ld g) 0 m = ltS (lc_ ld gA) 0 m := by
      intro m
      induction m with
      | zero => intro _; rfl
      | succ m ih =>
        intro hm
        show ltS _ 0 m + _ = ltS _ 0 m + _
        rw [ih (by omega), show lc_ ld g m = lc_ ld gA m from f _ _ (by omega) (by omega)]
    exact A n n8
  obtain ⟨⟨k1, k2⟩, k3, k4⟩ := k n hn n8
  rw [e1, e2, e3]
  exact ⟨⟨(f _ _ (by omega) (by omega)).trans k1, fun i hi => (f _ _ (by omega) (by omega)).trans (k2 i hi)⟩, (f _ _ (by omega) (by omega)).trans k3, fun i hi => (f _ _ (by omega) (by omega)).trans (k4 i hi)⟩
/-- both tables -/
theorem se12 (hld : ld = 1 ∨ ld = 41) (w : sa_w ld gA gB) (ho : ∀ a b : Int, 0 ≤ a → a ≤ 7 → 0 ≤ b → b ≤ 7 → 0 ≤ mz_ov (gB 141) (gB 142) a b ∧ mz_ov (gB 141) (gB 142) a b ≤ 7) {n l : Nat} (hn : gB 140 0 = n) (hl : l < n) : ∀ (m k j : Nat) (g : mz_G), n - j = m → m < k → j ≤ n → (∀ a b : Nat, a ≠ ld + 6 → a ≠ ld + 7 → g a b = gA a b) → (∀ i t : Nat, i < n → t < n → (i < l ∨ (i = l ∧ t < j)) → g (ld + 6) (8 * i + t) = mz_ov (gB 141) (gB 142) i t ∧ g (ld + 7) (8 * i + t) = l2_ ld gA n i t) → ∃ g1, zL_X10_settle_12 (ld + 1) 85 2048 k (l : Int) (j : Int) g = g1 ∧ (∀ a b : Nat, a ≠ ld + 6 → a ≠ ld + 7 → g1 a b = gA a b) ∧ ∀ i t : Nat, i < n → t < n → i < l + 1 → g1 (ld + 6) (8 * i + t) = mz_ov (gB 141) (gB 142) i t ∧ g1 (ld + 7) (8 * i + t) = l2_ ld gA n i t := by
  have c8 := w.2.2.1
  intro m
  induction m with
  | zero =>
    intro k j g hm hk hj hf hv
    obtain ⟨k, rfl⟩ : ∃ k1, k = k1 + 1 := ⟨k - 1, by omega⟩
    rw [zL_X10_settle_12_s]
    unfold zB_X10_settle_12
    simp only [zf_lq]
    rw [hf (ld + 1) 3 (by omega) (by omega), w.1, hn, if_neg (by omega)]
    exact ⟨g, rfl, hf, fun i t hi ht z => hv i t hi ht (by omega)⟩
  | succ m ih =>
    intro k j g hm hk hj hf hv
    obtain ⟨k, rfl⟩ : ∃ k1, k = k1 + 1 := ⟨k - 1, by omega⟩
    have hjn : j < n := by omega
    rw [zL_X10_settle_12_s]
    unfold zB_X10_settle_12
    simp only [zf_lq]
    rw [hf (ld + 1) 3 (by omega) (by omega), w.1, hn, if_pos (by omega)]
    have O1 : ∀ g : mz_G, zF_X10_of (ld + 1) (l : Int) g = ld + 1 + 9 + 2 * l := fun g => X10_of (by omega) (by omega)
    have O3 : ∀ g : mz_G, zF_X10_of (ld + 1) (j : Int) g = ld + 1 + 9 + 2 * j := fun g => X10_of (by omega) (by omega)
    simp only [O1, O3]
    obtain ⟨p1, p2, p3, p4, -⟩ := w.2.2.2 l (by omega)
    obtain ⟨q1, q2, q3, q4, -⟩ := w.2.2.2 j (by omega)
    have zl := ln8 (w := l) hld (by omega)
    have z3 := ln8 (w := j) hld (by omega)
    have ov : zF_X0_overlapWith (ld + 1 + 9 + 2 * l) (ld + 1 + 9 + 2 * j) g = mz_ov (gB 141) (gB 142) l j := by
      rw [show ld + 1 + 9 + 2 * l = ld + 10 + 2 * l by omega, show ld + 1 + 9 + 2 * j = ld + 10 + 2 * j by omega]
      refine ovw_A (la := gB 142 l) (lb := gB 142 j) ?_ ?_ rfl rfl p2 q2 (by rw [zl]; exact p3) (by rw [z3]; exact q3) (by omega) (by omega) (fun t ht => ?_) (fun t ht => ?_)
      · rw [hf _ _ (by omega) (by omega)]; exact p1
      · rw [hf _ _ (by omega) (by omega)]; exact q1
      · rw [show ld + 10 + 2 * l + 1 = ld + 11 + 2 * l by omega, hf _ _ (by omega) (by omega), (p4 t ht).1]
        congr 1
      · rw [show ld + 10 + 2 * j + 1 = ld + 11 + 2 * j by omega, hf _ _ (by omega) (by omega), (q4 t ht).1]
        congr 1
    rw [ov, X11_put (n := 64) (by omega) (by omega)]
    have o6 : ∀ a b : Nat, a ≠ ld + 6 → a ≠ ld + 7 → mz_up g (ld + 1 + 5) ((l : Int) * 8 + (j : Int)).toNat (mz_ov (gB 141) (gB 142) l j) a b = gA a b := fun a b u v => (up_k (by omega)).trans (hf a b u v)
    have la : zF_X0_last (ld + 1 + 9 + 2 * l) (mz_up g (ld + 1 + 5) ((l : Int) * 8 + (j : Int)).toNat (mz_ov (gB 141) (gB 142) l j)) = gA (ld + 11 + 2 * l) (gA (ld + 10 + 2 * l) 1 - 1).toNat := by
      unfold zF_X0_last
      simp only [zf_lq]
      rw [show ld + 1 + 9 + 2 * l = ld + 10 + 2 * l by omega, o6 _ _ (by omega) (by omega), zl, p1, X11_at (n := 8) (by omega) (by omega), show ld + 10 + 2 * l + 1 = ld + 11 + 2 * l by omega, o6 _ _ (by omega) (by omega)]
    have fi : zF_X0_signAt (ld + 1 + 9 + 2 * j) 0 (mz_up g (ld + 1 + 5) ((l : Int) * 8 + (j : Int)).toNat (mz_ov (gB 141) (gB 142) l j)) = gA (ld + 11 + 2 * j) 0 := by
      unfold zF_X0_signAt
      simp only [zf_lq]
      rw [show ld + 1 + 9 + 2 * j = ld + 10 + 2 * j by omega, z3, X11_at (n := 8) (by decide) (by decide), show ld + 10 + 2 * j + 1 = ld + 11 + 2 * j by omega, o6 _ _ (by omega) (by omega)]
      rfl
    rw [la, fi]
    have fin : ∀ s : Int, s = l2_ ld gA n l j → ∃ g1, zJ_X10_settle_81 (ld + 1) 85 2048 (zL_X10_settle_12 (ld + 1) 85 2048 k) ((l : Int) * 8 + (j : Int)) s (l : Int) (j : Int) (mz_up g (ld + 1 + 5) ((l : Int) * 8 + (j : Int)).toNat (mz_ov (gB 141) (gB 142) l j)) = g1 ∧ (∀ a b : Nat, a ≠ ld + 6 → a ≠ ld + 7 → g1 a b = gA a b) ∧ ∀ i t : Nat, i < n → t < n → i < l + 1 → g1 (ld + 6) (8 * i + t) = mz_ov (gB 141) (gB 142) i t ∧ g1 (ld + 7) (8 * i + t) = l2_ ld gA n i t := fun s hs => by
      unfold zJ_X10_settle_81
      simp only [zf_lq]
      rw [X11_put (n := 64) (by omega) (by omega), show ((l : Int) * 8 + (j : Int)).toNat = 8 * l + j by omega]
      have r := ih k (j + 1) (mz_up (mz_up g (ld + 1 + 5) (8 * l + j) (mz_ov (gB 141) (gB 142) l j)) (ld + 1 + 6) (8 * l + j) s) (by omega) (by omega) (by omega) (fun a b u v => (up_k (by omega)).trans ((up_k (by omega)).trans (hf a b u v))) (fun i t hi ht z => by
        rw [show ld + 6 = ld + 1 + 5 from rfl, show ld + 7 = ld + 1 + 6 from rfl]
        by_cases c : i = l ∧ t = j
        · rw [c.1, c.2, mz_up_at, up_k (by omega), mz_up_at]
          exact ⟨rfl, hs⟩
        · rw [up_k (by omega), up_j (by omega), up_j (by omega), up_k (by omega)]
          exact hv i t hi ht (by omega))
      rw [show ((j + 1 : Nat) : Int) = (j : Int) + 1 by omega] at r
      exact r
    by_cases c : gA (ld + 11 + 2 * l) (gA (ld + 10 + 2 * l) 1 - 1).toNat = gA (ld + 11 + 2 * j) 0
    · rw [if_pos c]
      exact fin 1 (by unfold l2_; rw [if_pos ⟨hl, hjn⟩, if_pos c])
    · rw [if_neg c]
      exact fin (-1) (by unfold l2_; rw [if_pos ⟨hl, hjn⟩, if_neg c])
/-- the row's letters -/
theorem se134 {L : Nat → Nat → Int} {c : Nat → Int} (hld : ld = 1 ∨ ld = 41) (n8 : n ≤ 8) (hL : ∀ w v : Nat, w < n → v < n → 0 ≤ L w v ∧ L w v ≤ 8) (e3 : g0 (ld + 1) 3 = n) (eL : lk g0 (ld + 6) n L) (eo : ∀ i : Nat, i < n → g0 (ld + 8) i = ((sq L n i).2 : Int)) (ec : ∀ v : Nat, v < n → g0 (ld + 10 + 2 * v) 1 = c v ∧ 0 ≤ c v ∧ c v ≤ 8) : ∀ (m k i : Nat) (g : mz_G), n - i = m → m < k → i ≤ n → (∀ a b : Nat, ¬ (a = ld + 1 ∧ b = 8) → g a b = g0 a b) → (i = 0 → g (ld + 1) 8 = 0) → (0 < i → g (ld + 1) 8 = ltS c 0 n - ltS c (sq L n (i - 1)).1 n - (M0 L n - R_ L n (sq L n (i - 1)).1 (sq L n (i - 1)).2)) → ∃ g1, zL_X10_settle_134 (ld + 1) 85 2048 k (i : Int) g = g1 ∧ (∀ a b : Nat, ¬ (a = ld + 1 ∧ b = 8) → g1 a b = g0 a b) ∧ g1 (ld + 1) 8 = ltS c 0 n - M0 L n := by
  have hC : ∀ w v : Nat, w < n → v < n → L w v ≤ 8 := fun w v a b => (hL w v a b).2
  have st := st_row n8 hL
  have p := p2_n n8
  have bM : 0 ≤ M0 L n ∧ M0 L n ≤ 64 := by
    refine ⟨mx_0 _ n, mx_b (by decide) n fun v hv => ?_⟩
    have := (R_b (L := L) (C := 8) (by decide) hC (S := 2 ^ v) hv).2
    omega
  have bS : ∀ S : Nat, 0 ≤ ltS c S n ∧ ltS c S n ≤ 64 := fun S => by
    have := ltS_b (c := c) (S := S) n (fun v hv => (ec v hv).2)
    omega
  intro m
  induction m with
  | zero =>
    intro k i g hm hk hi f I0 I1
    obtain ⟨k, rfl⟩ : ∃ k1, k = k1 + 1 := ⟨k - 1, by omega⟩
    have e : i = n := by omega
    rw [zL_X10_settle_134_s]
    unfold zB_X10_settle_134
    simp only [zf_lq]
    rw [f (ld + 1) 3 (by omega), e3, if_neg (by omega)]
    refine ⟨g, rfl, f, ?_⟩
    by_cases z : i = 0
    · rw [I0 z, ← e, z]
      rfl
    · obtain ⟨v1, v2, v3, v4⟩ := st.2.1 (i - 1) (by omega)
      obtain ⟨-, q2, -, -⟩ := rc_5 ⟨n, by omega⟩ ⟨(sq L n (i - 1)).1, by omega⟩ v2
      dsimp only at q2
      have full := q2.mp (by omega)
      have z1 : ltS c (sq L n (i - 1)).1 n = 0 := ltS_z n (fun v hv => full ⟨v, by omega⟩ hv)
      have z2 : R_ L n (sq L n (i - 1)).1 (sq L n (i - 1)).2 = 0 := by
        unfold R_
        rw [show n - pc8 (sq L n (i - 1)).1 = 0 by omega]
        rfl
      rw [I1 (by omega), z1, z2]
      omega
  | succ m ih =>
    intro k i g hm hk hi f I0 I1
    obtain ⟨k, rfl⟩ : ∃ k1, k = k1 + 1 := ⟨k - 1, by omega⟩
    have hin : i < n := by omega
    obtain ⟨v1, v2, v3, v4⟩ := st.2.1 i hin
    have cw := ec (sq L n i).2 v1
    rw [zL_X10_settle_134_s]
    unfold zB_X10_settle_134 zJ_X10_settle_183
    simp only [zf_lq]
    have inr : ∀ t : Nat, t < n → zF_X10_inRow (ld + 1) (t : Int) g = ((sq L n t).2 : Int) := fun t ht => by
      unfold zF_X10_inRow
      simp only [zf_lq]
      rw [X11_at (n := 8) (by omega) (by omega), show ((t : Nat) : Int).toNat = t from rfl, show ld + 1 + 7 = ld + 8 from rfl, f _ _ (by omega), eo t ht]
    have ofw : zF_X10_of (ld + 1) ((sq L n i).2 : Int) g = ld + 1 + 9 + 2 * (sq L n i).2 := X10_of (by omega) (by omega)
    have len : zF_X0_length (ld + 1 + 9 + 2 * (sq L n i).2) g = c (sq L n i).2 := by
      rw [len_q, show ld + 1 + 9 + 2 * (sq L n i).2 = ld + 10 + 2 * (sq L n i).2 by omega, f _ _ (by omega), cw.1]
    rw [f (ld + 1) 3 (by omega), e3, if_pos (by omega), inr i hin, ofw, len]
    have fin : ∀ s d : Int, (-1000 ≤ s ∧ s ≤ 1000) → (0 ≤ d ∧ d ≤ 8) → g (ld + 1) 8 = s → s + (c (sq L n i).2 - d) = ltS c 0 n - ltS c (sq L n i).1 n - (M0 L n - R_ L n (sq L n i).1 (sq L n i).2) → ∃ g1, zL_X10_settle_134 (ld + 1) 85 2048 k ((i : Int) + 1) (mz_up g (ld + 1) 8 (mz_wrap (g (ld + 1) 8 + mz_wrap (c (sq L n i).2 - d)))) = g1 ∧ (∀ a b : Nat, ¬ (a = ld + 1 ∧ b = 8) → g1 a b = g0 a b) ∧ g1 (ld + 1) 8 = ltS c 0 n - M0 L n := fun s d bs bd e8 E => by
      rw [e8, mz_wrap_id (a := c (sq L n i).2 - d) ⟨by omega, by omega⟩, mz_wrap_id ⟨by omega, by omega⟩]
      have r := ih k (i + 1) (mz_up g (ld + 1) 8 (s + (c (sq L n i).2 - d))) (by omega) (by omega) (by omega) (fun a b z => (mz_up_ne z).trans (f a b z)) (fun z => by omega) (fun _ => by rw [Nat.add_sub_cancel, mz_up_at]; exact E)
      rw [show ((i + 1 : Nat) : Int) = (i : Int) + 1 by omega] at r
      exact r
    by_cases z : i = 0
    · rw [if_pos (by omega)]
      have m0 := M0_at (L := L) (by omega) n8 hC
      refine fin 0 0 ⟨by decide, by decide⟩ ⟨by decide, by decide⟩ (I0 z) ?_
      rw [z]
      have q := ltS_a (c := c) (S := 0) (v := fw_ L n) (by decide) (rc_6 ⟨fw_ L n, by omega⟩).2.2.2.1 n n8
      rw [if_pos m0.1, Nat.zero_add] at q
      have q2 := m0.2.1
      show 0 + (c (fw_ L n) - 0) = ltS c 0 n - ltS c (2 ^ fw_ L n) n - (M0 L n - R_ L n (2 ^ fw_ L n) (fw_ L n))
      omega
    · rw [if_neg (by omega)]
      obtain ⟨i1, hi1⟩ : ∃ i1, i = i1 + 1 := ⟨i - 1, by omega⟩
      obtain ⟨w1, w2, w3, w4⟩ := st.2.1 i1 (by omega)
      have I := I1 (by omega)
      rw [show i - 1 = i1 by omega] at I
      have ri := inr i1 (by omega)
      rw [show (i : Int) - 1 = (i1 : Int) by omega, ri]
      obtain ⟨s1, s2⟩ := sum_k n8 (c := c) st.2.1 i1 (by omega)
      rw [← hi1] at s1 s2
      have ov : zF_X10_overlapOf (ld + 1) ((sq L n i1).2 : Int) ((sq L n i).2 : Int) g = L (sq L n i1).2 (sq L n i).2 := by
        unfold zF_X10_overlapOf
        simp only [zf_lq]
        rw [mz_wrap_id (a := ((sq L n i1).2 : Int) * 8) ⟨by omega, by omega⟩, mz_wrap_id ⟨by omega, by omega⟩, X11_at (n := 64) (by omega) (by omega), show (((sq L n i1).2 : Int) * 8 + ((sq L n i).2 : Int)).toNat = 8 * (sq L n i1).2 + (sq L n i).2 by omega, show ld + 1 + 5 = ld + 6 from rfl, f _ _ (by omega), eL _ _ w1 v1]
      rw [ov]
      have l := hL _ _ w1 v1
      have b1 := bS (sq L n i1).1
      have b0 := bS 0
      have r1 := R_b (L := L) (C := 8) (by decide) hC (S := (sq L n i1).1) w1
      refine fin _ _ ⟨?_, ?_⟩ l I ?_
      · omega
      · omega
      · omega
theorem se2 (hld : ld = 1 ∨ ld = 41) (w : sa_w ld gA gB) (ho : ∀ a b : Int, 0 ≤ a → a ≤ 7 → 0 ≤ b → b ≤ 7 → 0 ≤ mz_ov (gB 141) (gB 142) a b ∧ mz_ov (gB 141) (gB 142) a b ≤ 7) {n : Nat} (hn : gB 140 0 = n) : ∀ (m k l : Nat) (g : mz_G), n - l = m → m < k → l ≤ n → (∀ a b : Nat, a ≠ ld + 6 → a ≠ ld + 7 → g a b = gA a b) → (∀ i t : Nat, i < n → t < n → i < l → g (ld + 6) (8 * i + t) = mz_ov (gB 141) (gB 142) i t ∧ g (ld + 7) (8 * i + t) = l2_ ld gA n i t) → ∃ g1, zL_X10_settle_2 (ld + 1) 85 2048 k (l : Int) g = g1 ∧ rwa ld g1 := by
  have c8 := w.2.2.1
  have n8 : n ≤ 8 := by omega
  intro m
  induction m with
  | zero =>
    intro k l g hm hk hl hf hv
    obtain ⟨k, rfl⟩ : ∃ k1, k = k1 + 1 := ⟨k - 1, by omega⟩
    have e : l = n := by omega
    rw [zL_X10_settle_2_s]
    unfold zB_X10_settle_2
    simp only [zf_lq]
    rw [hf (ld + 1) 3 (by omega) (by omega), w.1, hn, if_neg (by omega)]
    -- the links
    have h1 : ∀ a b : Nat, a < n → b < n → 0 ≤ l1_ ld g n a b ∧ l1_ ld g n a b ≤ 8 := fun a b ha hb => by
      unfold l1_
      rw [if_pos ⟨ha, hb⟩, (hv a b ha hb (by omega)).1]
      have := ho a b (by omega) (by omega) (by omega) (by omega)
      omega
    have h2 : ∀ a b : Nat, a < n → b < n → l2_ ld gA n a b = 1 ∨ l2_ ld gA n a b = -1 := fun a b ha hb => by
      unfold l2_
      rw [if_pos ⟨ha, hb⟩]
      split
      · exact Or.inl rfl
      · exact Or.inr rfl
    have k1 : lk g (ld + 6) n (l1_ ld g n) := fun a b ha hb => by
      unfold l1_
      rw [if_pos ⟨ha, hb⟩]
    have k2 : lk g (ld + 7) n (l2_ ld gA n) := fun a b ha hb => (hv a b ha hb (by omega)).2
    have e3 : g (ld + 1) 3 = n := (hf _ _ (by omega) (by omega)).trans (w.1.trans hn)
    obtain ⟨g2, u1, u2, u3⟩ := find_A (q0 := ld + 1) (q1 := ld + 1 + 5) (q2 := ld + 1 + 7) ⟨by omega, by omega, by omega, by omega, by omega⟩ n8 (fun a b ha hb => ⟨by have := (h1 a b ha hb).1; omega, (h1 a b ha hb).2⟩) (st_row n8 h1) e3 k1
    rw [u1, m2_r]
    obtain ⟨g3, y1, y2, y3⟩ := find_A (g := g2) (q0 := ld + 1) (q1 := ld + 1 + 6) (q2 := ld + 1 + 8) ⟨by omega, by omega, by omega, by omega, by omega⟩ n8 (fun a b ha hb => by rcases h2 a b ha hb with z | z <;> omega) (st_ch n8 h2) ((u2 _ _ (by omega) (by omega)).trans e3) (fun a b ha hb => (u2 _ _ (by omega) (by omega)).trans (k2 a b ha hb))
    rw [y1, m2_r]
    have F : ∀ a b : Nat, a ≠ ld + 8 → a ≠ ld + 9 → a ≠ 85 → g3 a b = g a b := fun a b z1 z2 z3 => (y2 a b (by omega) z3).trans (u2 a b (by omega) z3)
    have r8 : ∀ i : Nat, i < n → g3 (ld + 8) i = ((sq (l1_ ld g n) n i).2 : Int) := fun i hi => (y2 _ _ (by omega) (by omega)).trans (u3 i hi)
    have F4 : ∀ a b : Nat, ¬ (a = ld + 1 ∧ (b = 8 ∨ b = 9)) → mz_up (mz_up g3 (ld + 1) 9 (cs_ (l2_ ld gA n) n : Int)) (ld + 1) 8 0 a b = g3 a b := fun a b z => by
      rw [mz_up_ne (by omega), mz_up_ne (by omega)]
    have p9 : mz_up (mz_up g3 (ld + 1) 9 (cs_ (l2_ ld gA n) n : Int)) (ld + 1) 8 0 (ld + 1) 9 = (cs_ (l2_ ld gA n) n : Int) := (up_j (by decide)).trans (mz_up_at ..)
    have p8 : mz_up (mz_up g3 (ld + 1) 9 (cs_ (l2_ ld gA n) n : Int)) (ld + 1) 8 0 (ld + 1) 8 = 0 := mz_up_at ..
    generalize mz_up (mz_up g3 (ld + 1) 9 (cs_ (l2_ ld gA n) n : Int)) (ld + 1) 8 0 = g4 at *
    have F5 : ∀ a b : Nat, a ≠ ld + 6 → a ≠ ld + 7 → a ≠ ld + 8 → a ≠ ld + 9 → a ≠ 85 → ¬ (a = ld + 1 ∧ (b = 8 ∨ b = 9)) → g4 a b = gA a b := fun a b z1 z2 z3 z4 z5 z6 => (F4 a b z6).trans ((F a b z3 z4 z5).trans (hf a b z1 z2))
    have c3 : ∀ v : Nat, v < n → g4 (ld + 10 + 2 * v) 1 = lc_ ld gA v ∧ 0 ≤ lc_ ld gA v ∧ lc_ ld gA v ≤ 8 := fun v hv => by
      obtain ⟨q1, q2, q3, -⟩ := w.2.2.2 v (by omega)
      refine ⟨F5 _ _ (by omega) (by omega) (by omega) (by omega) (by omega) (by omega), ?_⟩
      unfold lc_
      rw [q1]
      omega
    obtain ⟨g5, w1, w2, w3⟩ := se134 (L := l1_ ld g n) (c := lc_ ld gA) (g0 := g4) hld n8 h1 ((F4 _ _ (by omega)).trans ((F _ _ (by omega) (by omega) (by omega)).trans e3)) (fun a b ha hb => (F4 _ _ (by omega)).trans ((F _ _ (by omega) (by omega) (by omega)).trans (k1 a b ha hb))) (fun i hi => (F4 _ _ (by omega)).trans (r8 i hi)) c3 (n - 0) 3000000000 0 g4 rfl (by omega) (by omega) (fun _ _ _ => rfl) (fun _ => p8) (fun z => absurd z (Nat.lt_irrefl 0))
    rw [show ((0 : Nat) : Int) = 0 from rfl] at w1
    refine ⟨g5, w1, fun n' hn' _ => ?_⟩
    have en : n' = n := by
      have := (w2 (ld + 1) 3 (by omega)).trans ((F4 _ _ (by omega)).trans ((F _ _ (by omega) (by omega) (by omega)).trans e3))
      omega
    rw [en]
    have G5 : ∀ a b : Nat, ¬ (a = ld + 1 ∧ (b = 8 ∨ b = 9)) → g5 a b = g3 a b := fun a b z => (w2 a b (by omega)).trans (F4 a b z)
    have e1 : l1_ ld g5 n = l1_ ld g n := by
      funext a b
      unfold l1_
      rw [G5 _ _ (by omega), F _ _ (by omega) (by omega) (by omega)]
    have eA : ∀ a b : Nat, a ≠ ld + 6 → a ≠ ld + 7 → a ≠ ld + 8 → a ≠ ld + 9 → a ≠ 85 → ¬ (a = ld + 1 ∧ (b = 8 ∨ b = 9)) → g5 a b = gA a b := fun a b z1 z2 z3 z4 z5 z6 => (w2 a b (by omega)).trans (F5 a b z1 z2 z3 z4 z5 z6)
    have e2 : l2_ ld g5 n = l2_ ld gA n := by
      funext a b
      unfold l2_
      by_cases z : a < n ∧ b < n
      · rw [if_pos z, if_pos z, eA (ld + 10 + 2 * a) 1 (by omega) (by omega) (by omega) (by omega) (by omega) (by omega), eA (ld + 11 + 2 * a) _ (by omega) (by omega) (by omega) (by omega) (by omega) (by omega), eA (ld + 11 + 2 * b) 0 (by omega) (by omega) (by omega) (by omega) (by omega) (by omega)]
      · rw [if_neg z, if_neg z]
    have e4 : ltS (lc_ ld g5) 0 n = ltS (lc_ ld gA) 0 n := by
      have A : ∀ m : Nat, m ≤ n → ltS (lc_ ld g5) 0 m = ltS (lc_ ld gA) 0 m := by
        intro m
        induction m with
        | zero => intro _; rfl
        | succ m ih2 =>
          intro hm
          show ltS _ 0 m + _ = ltS _ 0 m + _
          rw [ih2 (by omega), show lc_ ld g5 m = lc_ ld gA m from eA _ _ (by omega) (by omega) (by omega) (by omega) (by omega) (by omega)]
      exact A n (Nat.le_refl n)
    rw [e1, e2, e4]
    refine ⟨⟨w3, fun i hi => (G5 _ _ (by omega)).trans (r8 i hi)⟩, (w2 _ _ (by omega)).trans p9, fun i hi => (G5 _ _ (by omega)).trans (y3 i hi)⟩
  | succ m ih =>
    intro k l g hm hk hl hf hv
    obtain ⟨k, rfl⟩ : ∃ k1, k = k1 + 1 := ⟨k - 1, by omega⟩
    rw [zL_X10_settle_2_s]
    unfold zB_X10_settle_2
    simp only [zf_lq]
    rw [hf (ld + 1) 3 (by omega) (by omega), w.1, hn, if_pos (by omega)]
    obtain ⟨g12, e, f, v⟩ := se12 hld w ho hn (l := l) (by omega) (n - 0) 3000000000 0 g rfl (by omega) (by omega) hf (fun i t hi ht z => hv i t hi ht (by omega))
    rw [show ((0 : Nat) : Int) = 0 from rfl] at e
    rw [e]
    have r := ih k (l + 1) g12 (by omega) (by omega) (by omega) f v
    rw [show ((l + 1 : Nat) : Int) = (l : Int) + 1 by omega] at r
    exact r
theorem settle_R (hld : ld = 1 ∨ ld = 41) (w : sa_w ld gA gB) (ho : ∀ a b : Int, 0 ≤ a → a ≤ 7 → 0 ≤ b → b ≤ 7 → 0 ≤ mz_ov (gB 141) (gB 142) a b ∧ mz_ov (gB 141) (gB 142) a b ≤ 7) : rwa ld (zF_X10_settle (ld + 1) 85 2048 gA) := by
  obtain ⟨n, hn⟩ : ∃ n : Nat, gB 140 0 = n := ⟨(gB 140 0).toNat, by have := w.2.1; omega⟩
  have c8 := w.2.2.1
  unfold zF_X10_settle
  obtain ⟨g1, e, r⟩ := se2 hld w ho hn (n - 0) 3000000000 0 gA rfl (by omega) (by omega) (fun _ _ _ _ => rfl) (fun i t _ _ z => absurd z (Nat.not_lt_zero i))
  rw [show ((0 : Nat) : Int) = 0 from rfl] at e
  rw [e]
  exact r
end WN2
