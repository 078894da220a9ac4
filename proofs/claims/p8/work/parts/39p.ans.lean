/-! ANSWERS (16): sets of trunks (bits), couples -/
def cp_has (S t : Nat) : Bool := decide (S / 2 ^ t % 2 = 1)
def cp_lo (S : Nat) : Nat := if S % 2 = 1 then 0 else if S / 2 % 2 = 1 then 1 else if S / 4 % 2 = 1 then 2 else if S / 8 % 2 = 1 then 3 else if S / 16 % 2 = 1 then 4 else 5
def cp_re (S t : Nat) : Nat := if cp_has S t then S - 2 ^ t else S
def cp_pc (S : Nat) : Nat := S % 2 + S / 2 % 2 + S / 4 % 2 + S / 8 % 2 + S / 16 % 2 + S / 32 % 2
section WG
variable {x : mm_X} {g g0 g1 gA gB b0 h h0 : mz_G} {ld : Nat}
theorem cp_1 : ∀ S : Fin 64, ∀ t : Fin 6, decide (mz_andI (S.val : Int) (mz_shlI 1 (t.val : Int)) = 0) = !cp_has S.val t.val := by decide +kernel
theorem cp_2 : ∀ S : Fin 64, ∀ t : Fin 6, decide (mz_andI (mz_shrI (S.val : Int) (t.val : Int)) 1 = 1) = cp_has S.val t.val := by decide +kernel
theorem cp_3 : ∀ S : Fin 64, ∀ t : Fin 6, mz_andI (S.val : Int) (mz_xorI (mz_shlI 1 (t.val : Int)) (-1)) = (cp_re S.val t.val : Int) := by decide +kernel
theorem cp_4 : ∀ S : Fin 64, S.val ≠ 0 → cp_has S.val (cp_lo S.val) = true ∧ cp_lo S.val < 6 ∧ ∀ t : Fin 6, t.val < cp_lo S.val → cp_has S.val t.val = false := by decide +kernel
theorem cp_5 : ∀ S : Fin 64, ∀ t : Fin 6, cp_has S.val t.val = true → cp_pc (cp_re S.val t.val) + 1 = cp_pc S.val ∧ cp_re S.val t.val < S.val := by decide +kernel
theorem cp_6 : ∀ S : Fin 64, ∀ t u : Fin 6, cp_has (cp_re S.val t.val) u.val = (cp_has S.val u.val && decide (u.val ≠ t.val)) := by decide +kernel
theorem cp_7 : ∀ S : Fin 64, zF_J6_bitCount (S.val : Int) (fun _ _ => 0) = (cp_pc S.val : Int) := by decide +kernel
theorem cp_9 : ∀ n : Fin 7, ∀ S : Fin 64, S.val < 2 ^ n.val → ∀ t : Fin 6, cp_has S.val t.val = true → t.val < n.val := by decide +kernel
theorem cp_10 : ∀ S : Fin 64, S.val ≠ 0 → cp_pc S.val % 2 = 0 → cp_has (cp_re S.val (cp_lo S.val)) (cp_lo (cp_re S.val (cp_lo S.val))) = true ∧ cp_lo S.val < cp_lo (cp_re S.val (cp_lo S.val)) ∧ cp_lo (cp_re S.val (cp_lo S.val)) < 6 := by decide +kernel
theorem cp_11 : ∀ n : Fin 7, mz_shlI 1 (n.val : Int) = ((2 ^ n.val : Nat) : Int) := by decide +kernel
theorem cp_12 : ∀ S : Fin 64, (∀ t : Fin 6, cp_has S.val t.val = false) → S.val = 0 := by decide +kernel
theorem cp_64 {n : Nat} (hn : n ≤ 6) : 1 ≤ 2 ^ n ∧ 2 ^ n ≤ 64 := ⟨Nat.pow_pos (by decide), Nat.pow_le_pow_right (n := 2) (by decide) hn⟩
theorem has_A {S t : Nat} (hS : S < 64) (ht : t < 6) : (cp_has S t = true → mz_andI (S : Int) (mz_shlI 1 (t : Int)) ≠ 0) ∧ (cp_has S t = false → mz_andI (S : Int) (mz_shlI 1 (t : Int)) = 0) := by
  have c := cp_1 ⟨S, hS⟩ ⟨t, ht⟩
  dsimp only at c
  constructor
  · intro k
    rw [k] at c
    exact of_decide_eq_false c
  · intro k
    rw [k] at c
    exact of_decide_eq_true c
theorem has_B {S t : Nat} (hS : S < 64) (ht : t < 6) : zF_X12_isOf (S : Int) (t : Int) g = if cp_has S t = true then 1 else 0 := by
  have c := cp_2 ⟨S, hS⟩ ⟨t, ht⟩
  dsimp only at c
  unfold zF_X12_isOf
  simp only [zf_lq]
  by_cases k : cp_has S t = true
  · rw [if_pos k]
    rw [k] at c
    rw [if_pos (of_decide_eq_true c)]
  · rw [if_neg k]
    rw [Bool.not_eq_true] at k
    rw [k] at c
    rw [if_neg (of_decide_eq_false c)]
theorem re_A {S t : Nat} (hS : S < 64) (ht : t < 6) : mz_andI (S : Int) (mz_xorI (mz_shlI 1 (t : Int)) (-1)) = (cp_re S t : Int) := cp_3 ⟨S, hS⟩ ⟨t, ht⟩
theorem re_lt {S t : Nat} (hS : S < 64) (ht : t < 6) (k : cp_has S t = true) : cp_pc (cp_re S t) + 1 = cp_pc S ∧ cp_re S t < S := cp_5 ⟨S, hS⟩ ⟨t, ht⟩ k
theorem re_has {S t u : Nat} (hS : S < 64) (ht : t < 6) (hu : u < 6) : cp_has (cp_re S t) u = true ↔ cp_has S u = true ∧ u ≠ t := by
  have c := cp_6 ⟨S, hS⟩ ⟨t, ht⟩ ⟨u, hu⟩
  dsimp only at c
  rw [c, Bool.and_eq_true, decide_eq_true_eq]
theorem lo_has {S : Nat} (hS : S < 64) (h0 : S ≠ 0) : cp_has S (cp_lo S) = true ∧ cp_lo S < 6 ∧ ∀ t : Nat, t < cp_lo S → cp_has S t = false := by
  obtain ⟨a, b, c⟩ := cp_4 ⟨S, hS⟩ h0
  exact ⟨a, b, fun t ht => c ⟨t, by dsimp only at b; omega⟩ ht⟩
theorem has_n {n S t : Nat} (hn : n ≤ 6) (hS : S < 2 ^ n) (ht : t < 6) (k : cp_has S t = true) : t < n := cp_9 ⟨n, by omega⟩ ⟨S, by have := cp_64 hn; omega⟩ hS ⟨t, ht⟩ k
theorem bct {S : Nat} (hS : S < 64) : zF_J6_bitCount (S : Int) g = (cp_pc S : Int) := cp_7 ⟨S, hS⟩
/-- the lowest, of both -/
theorem low_l {S : Nat} (hS : S < 64) (h0 : S ≠ 0) : ∀ (m k t : Nat), cp_lo S - t = m → m < k → t ≤ cp_lo S → zL_X11_lowestBit_2 (S : Int) g k (t : Int) = (cp_lo S : Int) ∧ zL_X12_tellCouples_101 g k (S : Int) (t : Int) = (cp_lo S : Int) ∧ ∀ a : Int, zL_X12_coupleOf_21 a g k (S : Int) (t : Int) = (cp_lo S : Int) := by
  obtain ⟨l1, l2, l3⟩ := lo_has hS h0
  intro m
  induction m with
  | zero =>
    intro k t hm hk ht
    obtain ⟨k, rfl⟩ : ∃ k1, k = k1 + 1 := ⟨k - 1, by omega⟩
    have e : t = cp_lo S := by omega
    rw [e]
    rw [zL_X11_lowestBit_2_s, zL_X12_tellCouples_101_s]
    unfold zB_X11_lowestBit_2 zB_X12_tellCouples_101 zJ_X11_lowestBit_22
    simp only [zf_lq]
    rw [if_pos (by omega), if_neg ((has_A hS l2).1 l1), has_B hS l2, if_pos l1, if_neg (by decide)]
    refine ⟨rfl, rfl, fun a => ?_⟩
    rw [zL_X12_coupleOf_21_s]
    unfold zB_X12_coupleOf_21
    simp only [zf_lq]
    rw [has_B hS l2, if_pos l1, if_neg (by decide)]
  | succ m ih =>
    intro k t hm hk ht
    obtain ⟨k, rfl⟩ : ∃ k1, k = k1 + 1 := ⟨k - 1, by omega⟩
    have ht6 : t < 6 := by omega
    have f := l3 t (by omega)
    have f' : ¬ cp_has S t = true := by rw [f]; decide
    obtain ⟨i1, i2, i3⟩ := ih k (t + 1) (by omega) (by omega) (by omega)
    rw [show ((t + 1 : Nat) : Int) = (t : Int) + 1 by omega] at i1 i2
    rw [zL_X11_lowestBit_2_s, zL_X12_tellCouples_101_s]
    unfold zB_X11_lowestBit_2 zB_X12_tellCouples_101 zJ_X11_lowestBit_22
    simp only [zf_lq]
    rw [if_pos (by omega), if_pos ((has_A hS ht6).2 f), has_B hS ht6, if_neg f', if_pos rfl]
    refine ⟨i1, i2, fun a => ?_⟩
    have i4 := i3 a
    rw [show ((t + 1 : Nat) : Int) = (t : Int) + 1 by omega] at i4
    rw [zL_X12_coupleOf_21_s]
    unfold zB_X12_coupleOf_21
    simp only [zf_lq]
    rw [has_B hS ht6, if_neg f', if_pos rfl]
    exact i4
theorem low_A {S : Nat} (hS : S < 64) (h0 : S ≠ 0) : zF_X11_lowestBit (S : Int) g = (cp_lo S : Int) := by
  unfold zF_X11_lowestBit
  have l := (lo_has hS h0).2.1
  exact (low_l hS h0 (cp_lo S) 3000000000 0 rfl (by omega) (by omega)).1
theorem low_B {S : Nat} (hS : S < 64) (h0 : S ≠ 0) : zL_X12_tellCouples_101 g 3000000000 (S : Int) 0 = (cp_lo S : Int) ∧ ∀ a : Int, zL_X12_coupleOf_21 a g 3000000000 (S : Int) 0 = (cp_lo S : Int) := by
  have l := (lo_has hS h0).2.1
  exact (low_l hS h0 (cp_lo S) 3000000000 0 rfl (by omega) (by omega)).2
/-- what couples cost, in both; the least of sets, in both -/
def cpk (n : Nat) (g h : mz_G) : Prop := ∀ i j : Nat, i < j → j < n → g 119 (6 * i + j) = h 164 (6 * i + j) ∧ 0 ≤ h 164 (6 * i + j) ∧ h 164 (6 * i + j) ≤ 32
def fk (m : Nat) (g h : mz_G) : Prop := ∀ S : Nat, S < m → h 165 S = 1000 * ((cp_pc S % 2 : Nat) : Int) + g 120 S ∧ 0 ≤ g 120 S ∧ g 120 S ≤ 16 * (cp_pc S : Int)
theorem pc_6 {S : Nat} : cp_pc S ≤ 6 := by unfold cp_pc; omega
/-- what a couple and the rest cost -/
theorem with_c {n t o R m : Nat} (hn : n ≤ 6) (c : cpk n g h) (f : fk m g h) (hto : t < o) (ho : o < n) (hR : R < 64) (ho' : cp_has R o = true) (hm : R ≤ m) : zF_X3_withCouple (t : Int) (o : Int) (R : Int) g = h 164 (6 * t + o) + g 120 (cp_re R o) := by
  have r := re_lt hR (by omega) ho'
  obtain ⟨c1, c2, c3⟩ := c t o hto ho
  obtain ⟨f1, f2, f3⟩ := f (cp_re R o) (by omega)
  have p := pc_6 (S := cp_re R o)
  unfold zF_X3_withCouple
  simp only [zf_lq]
  rw [mz_wrap_id (a := (t : Int) * 6) ⟨by omega, by omega⟩, mz_wrap_id (a := (t : Int) * 6 + o) ⟨by omega, by omega⟩, X11_at (n := 36) (by omega) (by omega), re_A hR (by omega), X11_at (n := 64) (by omega) (by omega), show ((t : Int) * 6 + o).toNat = 6 * t + o by omega, show ((cp_re R o : Nat) : Int).toNat = cp_re R o from rfl, c1, mz_wrap_id ⟨by omega, by omega⟩]
/-- the same search, in both: how far, what was found -/
def fi (S t l : Nat) (a c : Int) : Prop := if cp_pc S % 2 = 1 then c = 1000 + a ∧ 0 ≤ a ∧ a ≤ 16 * (cp_pc S : Int) else (a = 2147483647 ∧ 1000 ≤ c ∧ c ≤ 10000 ∧ ∀ o : Nat, t < o → o < l → cp_has (cp_re S t) o = false) ∨ (c = a ∧ 0 ≤ a ∧ a ≤ 16 * (cp_pc S : Int))
theorem few_l {n S t : Nat} (hn : n ≤ 6) (nB : h0 140 1 = n) (hS : S < 2 ^ n) (ht : t < 6) (hst : cp_has S t = true) (c : cpk n g h0) (f : fk S g h0) : ∀ (m k1 k2 l : Nat) (a : Int) (h : mz_G), n - l = m → m < k1 → m < k2 → t < l → (∀ a b : Nat, ¬ (a = 165 ∧ b = S) → h a b = h0 a b) → fi S t l a (h 165 S) → ∃ h1, zL_X12_tellCouples_144 k2 (S : Int) (t : Int) (cp_re S t : Int) (l : Int) h = h1 ∧ (∀ a b : Nat, ¬ (a = 165 ∧ b = S) → h1 a b = h0 a b) ∧ fi S t (max n l) (zL_X3_fewestOf_45 (S : Int) (n : Int) g k1 (t : Int) (cp_re S t : Int) a (l : Int)) (h1 165 S) := by
  have h64 := cp_64 hn
  have r1 := re_lt (show S < 64 by omega) ht hst
  intro m
  induction m with
  | zero =>
    intro k1 k2 l a h hm hk1 hk2 hl fh I
    obtain ⟨k1, rfl⟩ : ∃ k, k1 = k + 1 := ⟨k1 - 1, by omega⟩
    obtain ⟨k2, rfl⟩ : ∃ k, k2 = k + 1 := ⟨k2 - 1, by omega⟩
    rw [zL_X3_fewestOf_45_s, zL_X12_tellCouples_144_s]
    unfold zB_X3_fewestOf_45 zB_X12_tellCouples_144
    simp only [zf_lq]
    rw [fh 140 1 (by omega), nB, if_neg (by omega), if_neg (by omega)]
    exact ⟨h, rfl, fh, by rw [show max n l = l by omega]; exact I⟩
  | succ m ih =>
    intro k1 k2 l a h hm hk1 hk2 hl fh I
    obtain ⟨k1, rfl⟩ : ∃ k, k1 = k + 1 := ⟨k1 - 1, by omega⟩
    obtain ⟨k2, rfl⟩ : ∃ k, k2 = k + 1 := ⟨k2 - 1, by omega⟩
    have hln : l < n := by omega
    rw [zL_X3_fewestOf_45_s, zL_X12_tellCouples_144_s]
    unfold zB_X3_fewestOf_45 zB_X12_tellCouples_144 zJ_X3_fewestOf_77 zJ_X12_tellCouples_205
    simp only [zf_lq]
    have q1 : (l : Int) < (n : Int) := by omega
    rw [fh 140 1 (by omega), nB, if_pos q1, if_pos q1, has_B (by omega) (by omega), show max n l = max n (l + 1) by omega]
    by_cases y : cp_has (cp_re S t) l = true
    · rw [if_neg ((has_A (by omega) (by omega)).1 y), if_pos y, if_neg (by decide)]
      have r2 := re_lt (show cp_re S t < 64 by omega) (by omega) y
      obtain ⟨c1, c2, c3⟩ := c t l hl hln
      obtain ⟨f1, f2, f3⟩ := f (cp_re (cp_re S t) l) (by omega)
      have p := pc_6 (S := cp_re (cp_re S t) l)
      have p2 := pc_6 (S := S)
      rw [with_c hn c f hl hln (by omega) y (by omega), re_A (by omega) (by omega), show ((S : Nat) : Int).toNat = S from rfl, show ((cp_re (cp_re S t) l : Nat) : Int).toNat = cp_re (cp_re S t) l from rfl, show (6 * (t : Int) + (l : Int)).toNat = 6 * t + l by omega, fh 164 _ (by omega), fh 165 (cp_re (cp_re S t) l) (by omega), mz_wrap_id ⟨by omega, by omega⟩]
      refine ih k1 k2 (l + 1) _ _ (by omega) (by omega) (by omega) (by omega) (fun a b z => (mz_up_ne z).trans (fh a b z)) ?_
      rw [mz_up_at]
      have pe : cp_pc (cp_re (cp_re S t) l) + 2 = cp_pc S := by omega
      unfold fi at I ⊢
      by_cases w : cp_pc S % 2 = 1
      · rw [if_pos w] at I ⊢
        have w2 : cp_pc (cp_re (cp_re S t) l) % 2 = 1 := by omega
        rw [w2] at f1
        omega
      · rw [if_neg w] at I ⊢
        have w2 : cp_pc (cp_re (cp_re S t) l) % 2 = 0 := by omega
        rw [w2] at f1
        right
        rcases I with ⟨i1, i2, i3, -⟩ | ⟨i1, i2, i3⟩
        · omega
        · omega
    · rw [Bool.not_eq_true] at y
      have y' : ¬ cp_has (cp_re S t) l = true := by rw [y]; decide
      rw [if_pos ((has_A (by omega) (by omega)).2 y), if_neg y', if_pos rfl]
      refine ih k1 k2 (l + 1) _ _ (by omega) (by omega) (by omega) (by omega) fh ?_
      unfold fi at I ⊢
      by_cases w : cp_pc S % 2 = 1
      · rw [if_pos w] at I ⊢
        exact I
      · rw [if_neg w] at I ⊢
        rcases I with ⟨i1, i2, i3, i4⟩ | i
        · refine Or.inl ⟨i1, i2, i3, fun o u v => ?_⟩
          by_cases z : o = l
          · rw [z]; exact y
          · exact i4 o u (by omega)
        · exact Or.inr i
/-- one more set -/
theorem few_k {n S : Nat} (hn : n ≤ 6) (nB : h0 140 1 = n) (hS : S < 2 ^ n) (s0 : S ≠ 0) (c : cpk n g h0) (f : fk S g h0) : ∃ h1, (let t := cp_lo S; zL_X12_tellCouples_144 3000000000 (S : Int) (t : Int) (cp_re S t : Int) ((t : Int) + 1) (mz_up h0 165 S (mz_wrap (1000 + h0 165 (cp_re S t))))) = h1 ∧ (∀ a b : Nat, ¬ (a = 165 ∧ b = S) → h1 a b = h0 a b) ∧ h1 165 S = 1000 * ((cp_pc S % 2 : Nat) : Int) + zF_X3_fewestOf (S : Int) (n : Int) g ∧ 0 ≤ zF_X3_fewestOf (S : Int) (n : Int) g ∧ zF_X3_fewestOf (S : Int) (n : Int) g ≤ 16 * (cp_pc S : Int) := by
  have h64 := cp_64 hn
  have S6 : S < 64 := by omega
  obtain ⟨l1, l2, l3⟩ := lo_has S6 s0
  have ln := has_n hn hS l2 l1
  have r := re_lt S6 l2 l1
  obtain ⟨f1, f2, f3⟩ := f (cp_re S (cp_lo S)) r.2
  have p := pc_6 (S := cp_re S (cp_lo S))
  unfold zF_X3_fewestOf zJ_X3_fewestOf_38
  simp only [zf_lq]
  rw [low_A S6 s0, re_A S6 l2, bct S6, X11_at (n := 64) (by omega) (by omega), show ((cp_re S (cp_lo S) : Nat) : Int).toNat = cp_re S (cp_lo S) from rfl, mz_wrap_id ⟨by omega, by omega⟩]
  have fh : ∀ a b : Nat, ¬ (a = 165 ∧ b = S) → mz_up h0 165 S (1000 + h0 165 (cp_re S (cp_lo S))) a b = h0 a b := fun a b z => mz_up_ne z
  have N : ∀ a : Int, fi S (cp_lo S) (cp_lo S + 1) a (1000 + h0 165 (cp_re S (cp_lo S))) → ∃ h1, zL_X12_tellCouples_144 3000000000 (S : Int) (cp_lo S : Int) (cp_re S (cp_lo S) : Int) ((cp_lo S : Int) + 1) (mz_up h0 165 S (1000 + h0 165 (cp_re S (cp_lo S)))) = h1 ∧ (∀ a b : Nat, ¬ (a = 165 ∧ b = S) → h1 a b = h0 a b) ∧ fi S (cp_lo S) (max n (cp_lo S + 1)) (zL_X3_fewestOf_45 (S : Int) (n : Int) g 3000000000 (cp_lo S : Int) (cp_re S (cp_lo S) : Int) a ((cp_lo S : Int) + 1)) (h1 165 S) := fun a I => by
    have q := few_l hn nB hS l2 l1 c f (n - (cp_lo S + 1)) 3000000000 3000000000 (cp_lo S + 1) a (mz_up h0 165 S (1000 + h0 165 (cp_re S (cp_lo S)))) rfl (by omega) (by omega) (by omega) fh (by rw [mz_up_at]; exact I)
    rw [show ((cp_lo S + 1 : Nat) : Int) = (cp_lo S : Int) + 1 by omega] at q
    exact q
  by_cases w : cp_pc S % 2 = 1
  · have w2 : cp_pc (cp_re S (cp_lo S)) % 2 = 0 := by omega
    rw [w2] at f1
    rw [if_pos (show (cp_pc S : Int) % 2 = 1 by omega)]
    obtain ⟨h1, e, fr, I⟩ := N (g 120 (cp_re S (cp_lo S))) (by unfold fi; rw [if_pos w]; omega)
    unfold fi at I
    rw [if_pos w] at I
    exact ⟨h1, e, fr, by rw [w]; omega, I.2.1, I.2.2⟩
  · have w2 : cp_pc (cp_re S (cp_lo S)) % 2 = 1 := by omega
    have w3 : cp_pc S % 2 = 0 := by omega
    rw [w2] at f1
    rw [if_neg (show ¬ (cp_pc S : Int) % 2 = 1 by omega)]
    obtain ⟨h1, e, fr, I⟩ := N 2147483647 (by unfold fi; rw [if_neg w]; exact Or.inl ⟨rfl, by omega, by omega, fun o u v => by omega⟩)
    unfold fi at I
    rw [if_neg w] at I
    obtain ⟨z1, z2, z3⟩ := cp_10 ⟨S, S6⟩ s0 w3
    dsimp only at z1 z2 z3
    have zn := has_n hn (show cp_re S (cp_lo S) < 2 ^ n by omega) z3 z1
    rcases I with ⟨-, -, -, i4⟩ | ⟨i1, i2, i3⟩
    · have := i4 _ z2 (by omega)
      rw [z1] at this
      cases this
    · exact ⟨h1, e, fr, by rw [w3]; omega, i2, i3⟩
/-- all sets -/
theorem all_l {n : Nat} (hn : n ≤ 6) : ∀ (m k1 k2 S : Nat) (g h : mz_G), 2 ^ n - S = m → m < k1 → m < k2 → 0 < S → S ≤ 2 ^ n → h 140 1 = n → cpk n g h → fk S g h → ∃ g1 h1, zL_X3_find_17 (n : Int) k1 ((2 ^ n : Nat) - 1 : Int) (S : Int) g = zF_X3_choosePartners ((2 ^ n : Nat) - 1 : Int) (n : Int) (mz_up g1 118 3 (g1 120 (2 ^ n - 1))) ∧ zL_X12_tellCouples_87 k2 (S : Int) h = h1 ∧ cpk n g1 h1 ∧ fk (2 ^ n) g1 h1 ∧ (∀ a b : Nat, a ≠ 120 → g1 a b = g a b) ∧ ∀ a b : Nat, a ≠ 165 → h1 a b = h a b := by
  have h64 := cp_64 hn
  intro m
  induction m with
  | zero =>
    intro k1 k2 S g h hm hk1 hk2 s0 hS nB c f
    obtain ⟨k1, rfl⟩ : ∃ k, k1 = k + 1 := ⟨k1 - 1, by omega⟩
    obtain ⟨k2, rfl⟩ : ∃ k, k2 = k + 1 := ⟨k2 - 1, by omega⟩
    rw [zL_X3_find_17_s, zL_X12_tellCouples_87_s]
    unfold zB_X3_find_17 zB_X12_tellCouples_87
    simp only [zf_lq]
    have e : S = 2 ^ n := by omega
    rw [nB, cp_11 ⟨n, by omega⟩, if_pos (by omega), if_neg (by dsimp only; omega), X11_at (n := 64) (by omega) (by omega), show ((2 ^ n : Nat) - 1 : Int).toNat = 2 ^ n - 1 by omega]
    exact ⟨g, h, rfl, rfl, c, by rw [← e]; exact f, fun _ _ _ => rfl, fun _ _ _ => rfl⟩
  | succ m ih =>
    intro k1 k2 S g h hm hk1 hk2 s0 hS nB c f
    obtain ⟨k1, rfl⟩ : ∃ k, k1 = k + 1 := ⟨k1 - 1, by omega⟩
    obtain ⟨k2, rfl⟩ : ∃ k, k2 = k + 1 := ⟨k2 - 1, by omega⟩
    have S6 : S < 64 := by omega
    obtain ⟨l1, l2, l3⟩ := lo_has S6 (by omega)
    rw [zL_X3_find_17_s, zL_X12_tellCouples_87_s]
    unfold zB_X3_find_17 zB_X12_tellCouples_87
    simp only [zf_lq]
    rw [nB, cp_11 ⟨n, by omega⟩, if_neg (by omega), if_pos (by dsimp only; omega), (low_B S6 (by omega)).1, re_A S6 l2, show ((S : Nat) : Int).toNat = S from rfl, show ((cp_re S (cp_lo S) : Nat) : Int).toNat = cp_re S (cp_lo S) from rfl]
    obtain ⟨h1, e1, fr, v1, v2, v3⟩ := few_k hn nB (show S < 2 ^ n by omega) (by omega) c f
    dsimp only at e1
    rw [e1, X11_put (n := 64) (by omega) (by omega), show ((S : Nat) : Int).toNat = S from rfl]
    generalize zF_X3_fewestOf (S : Int) (n : Int) g = v at *
    have c1 : cpk n (mz_up g 120 S v) h1 := fun i j hi hj => by
      rw [up_k (by decide), fr 164 _ (by omega)]
      exact c i j hi hj
    have f1 : fk (S + 1) (mz_up g 120 S v) h1 := fun T hT => by
      by_cases z : T = S
      · rw [z, mz_up_at]
        exact ⟨v1, v2, v3⟩
      · rw [up_j z, fr 165 T (by omega)]
        exact f T (by omega)
    obtain ⟨g2, h2, u1, u2, u3, u4, u5, u6⟩ := ih k1 k2 (S + 1) (mz_up g 120 S v) h1 (by omega) (by omega) (by omega) (by omega) (by omega) ((fr 140 1 (by omega)).trans nB) c1 f1
    rw [show ((S + 1 : Nat) : Int) = (S : Int) + 1 by omega] at u1 u2
    exact ⟨g2, h2, u1, u2, u3, u4, fun a b z => (u5 a b z).trans (up_k z), fun a b z => (u6 a b z).trans (fr a b (by omega))⟩
/-- whom one is with -/
def cq (n t R S : Nat) (g h : mz_G) (o : Nat) : Prop := cp_has R o = true ∧ h 164 (6 * t + o) + g 120 (cp_re R o) = g 120 S
def cw (n t R S : Nat) (g h : mz_G) (v : Int) : Prop := (v = -1 ∧ ∀ o : Nat, t < o → o < n → ¬ cq n t R S g h o) ∨ (∃ o : Nat, v = (o : Int) ∧ t < o ∧ o < n ∧ cq n t R S g h o ∧ ∀ u : Nat, t < u → u < o → ¬ cq n t R S g h u)
def cv_ (n t S : Nat) (g h : mz_G) (l v : Int) : Prop := (v = -1 ∧ ∀ o : Nat, l < (o : Int) → o < n → ¬ cq n t (cp_re S t) S g h o) ∨ (∃ o : Nat, v = (o : Int) ∧ l < (o : Int) ∧ o < n ∧ cq n t (cp_re S t) S g h o ∧ ∀ u : Nat, l < (u : Int) → u < o → ¬ cq n t (cp_re S t) S g h u)
theorem cw_u {n t R S : Nat} {v w : Int} (a : cw n t R S g h v) (b : cw n t R S g h w) : v = w := by
  rcases a with ⟨a1, a2⟩ | ⟨o, a1, a2, a3, a4, a5⟩
  · rcases b with ⟨b1, b2⟩ | ⟨u, b1, b2, b3, b4, b5⟩
    · omega
    · exact absurd b4 (a2 u b2 b3)
  · rcases b with ⟨b1, b2⟩ | ⟨u, b1, b2, b3, b4, b5⟩
    · exact absurd a4 (b2 o a2 a3)
    · rcases Nat.lt_trichotomy o u with z | z | z
      · exact absurd a4 (b5 o a2 z)
      · rw [a1, b1, z]
      · exact absurd b4 (a5 u b2 z)
theorem ch_w {n t S : Nat} (hn : n ≤ 6) (hS : S < 2 ^ n) (ht : t < 6) (hst : cp_has S t = true) (c : cpk n g h) (f : fk (2 ^ n) g h) : ∀ (m k l : Nat), n - l = m → m < k → t < l → l ≤ n → (∀ u : Nat, t < u → u < l → ¬ cq n t (cp_re S t) S g h u) → ∃ v : Nat, zL_X3_choosePartners_39 (((2 ^ n : Nat) : Int) - 1) (n : Int) g k (S : Int) (t : Int) (cp_re S t : Int) (l : Int) = (v : Int) ∧ v ≤ n ∧ cw n t (cp_re S t) S g h (if v < n then (v : Int) else -1) := by
  have h64 := cp_64 hn
  have r1 := re_lt (show S < 64 by omega) ht hst
  intro m
  induction m with
  | zero =>
    intro k l hm hk hl hln I
    obtain ⟨k, rfl⟩ : ∃ k1, k = k1 + 1 := ⟨k - 1, by omega⟩
    rw [zL_X3_choosePartners_39_s]
    unfold zB_X3_choosePartners_39
    rw [if_neg (by omega)]
    refine ⟨l, rfl, hln, ?_⟩
    rw [if_neg (by omega)]
    exact Or.inl ⟨rfl, fun o u v => I o u (by omega)⟩
  | succ m ih =>
    intro k l hm hk hl hln I
    obtain ⟨k, rfl⟩ : ∃ k1, k = k1 + 1 := ⟨k - 1, by omega⟩
    have hl' : l < n := by omega
    have N : ¬ cq n t (cp_re S t) S g h l → ∃ v : Nat, zL_X3_choosePartners_39 (((2 ^ n : Nat) : Int) - 1) (n : Int) g k (S : Int) (t : Int) (cp_re S t : Int) ((l : Int) + 1) = (v : Int) ∧ v ≤ n ∧ cw n t (cp_re S t) S g h (if v < n then (v : Int) else -1) := fun z => by
      have q := ih k (l + 1) (by omega) (by omega) (by omega) (by omega) (fun u a b => by
        by_cases e : u = l
        · rw [e]; exact z
        · exact I u a (by omega))
      rw [show ((l + 1 : Nat) : Int) = (l : Int) + 1 by omega] at q
      exact q
    rw [zL_X3_choosePartners_39_s]
    unfold zB_X3_choosePartners_39 zJ_X3_choosePartners_76
    simp only [zf_lq]
    rw [if_pos (by omega)]
    by_cases y : cp_has (cp_re S t) l = true
    · rw [if_neg ((has_A (by omega) (by omega)).1 y), with_c hn c f hl hl' (by omega) y (by omega), X11_at (n := 64) (by omega) (by omega), show ((S : Nat) : Int).toNat = S from rfl]
      by_cases z : h 164 (6 * t + l) + g 120 (cp_re (cp_re S t) l) = g 120 S
      · rw [if_pos z]
        refine ⟨l, rfl, hln, ?_⟩
        rw [if_pos hl']
        exact Or.inr ⟨l, rfl, hl, hl', ⟨y, z⟩, I⟩
      · rw [if_neg z]
        exact N (fun q => z q.2)
    · rw [if_pos ((has_A (by omega) (by omega)).2 (Bool.not_eq_true _ ▸ y))]
      exact N (fun q => y q.1)
theorem co_w {n t S : Nat} {a1 : Int} (hn : n ≤ 6) (nB : h 140 1 = n) (hS : S < 2 ^ n) (ht : t < 6) (hst : cp_has S t = true) (c : cpk n g h) (f : fk (2 ^ n) g h) : ∀ (m k : Nat) (l v : Int), (l - t).toNat = m → m < k → (t : Int) ≤ l → l < n → cv_ n t S g h l v → cw n t (cp_re S t) S g h (zL_X12_coupleOf_57 a1 h k (S : Int) (t : Int) (cp_re S t : Int) v l) := by
  have h64 := cp_64 hn
  have r1 := re_lt (show S < 64 by omega) ht hst
  intro m
  induction m with
  | zero =>
    intro k l v hm hk h0' hl I
    obtain ⟨k, rfl⟩ : ∃ k1, k = k1 + 1 := ⟨k - 1, by omega⟩
    rw [zL_X12_coupleOf_57_s]
    unfold zB_X12_coupleOf_57
    rw [if_neg (by omega)]
    rcases I with ⟨i1, i2⟩ | ⟨o, i1, i2, i3, i4, i5⟩
    · exact Or.inl ⟨i1, fun o u w => i2 o (by omega) w⟩
    · exact Or.inr ⟨o, i1, by omega, i3, i4, fun u a b => i5 u (by omega) b⟩
  | succ m ih =>
    intro k l v hm hk h0' hl I
    obtain ⟨k, rfl⟩ : ∃ k1, k = k1 + 1 := ⟨k - 1, by omega⟩
    obtain ⟨j, hj⟩ : ∃ j : Nat, (j : Int) = l := ⟨l.toNat, by omega⟩
    rw [zL_X12_coupleOf_57_s]
    unfold zB_X12_coupleOf_57 zJ_X12_coupleOf_113
    simp only [zf_lq]
    rw [if_pos (by omega), ← hj, has_B (by omega) (by omega)]
    have N : ¬ cq n t (cp_re S t) S g h j → cw n t (cp_re S t) S g h (zL_X12_coupleOf_57 a1 h k (S : Int) (t : Int) (cp_re S t : Int) v ((j : Int) + -1)) := fun z => by
      refine ih k _ v (by omega) (by omega) (by omega) (by omega) ?_
      rcases I with ⟨i1, i2⟩ | ⟨o, i1, i2, i3, i4, i5⟩
      · refine Or.inl ⟨i1, fun o u w => ?_⟩
        by_cases e : o = j
        · rw [e]; exact z
        · exact i2 o (by omega) w
      · refine Or.inr ⟨o, i1, by omega, i3, i4, fun u a b => ?_⟩
        by_cases e : u = j
        · rw [e]; exact z
        · exact i5 u (by omega) b
    by_cases y : cp_has (cp_re S t) j = true
    · rw [if_pos y, if_neg (by decide)]
      have r2 := re_lt (show cp_re S t < 64 by omega) (by omega) y
      obtain ⟨c1, c2, c3⟩ := c t j (by omega) (by omega)
      obtain ⟨f1, f2, f3⟩ := f (cp_re (cp_re S t) j) (by omega)
      obtain ⟨e1, e2, e3⟩ := f S hS
      have p := pc_6 (S := cp_re (cp_re S t) j)
      have pe : cp_pc (cp_re (cp_re S t) j) % 2 = cp_pc S % 2 := by omega
      rw [re_A (by omega) (by omega), show ((S : Nat) : Int).toNat = S from rfl, show ((cp_re (cp_re S t) j : Nat) : Int).toNat = cp_re (cp_re S t) j from rfl, show (6 * (t : Int) + (j : Int)).toNat = 6 * t + j by omega, mz_wrap_id ⟨by omega, by omega⟩, f1, e1, pe]
      by_cases z : h 164 (6 * t + j) + g 120 (cp_re (cp_re S t) j) = g 120 S
      · rw [if_pos (by omega)]
        exact ih k _ _ (by omega) (by omega) (by omega) (by omega) (Or.inr ⟨j, rfl, by omega, by omega, ⟨y, z⟩, fun u a b => by omega⟩)
      · rw [if_neg (by omega)]
        exact N (fun q => z q.2)
    · rw [if_neg y, if_pos rfl]
      exact N (fun q => y q.1)
end WG
