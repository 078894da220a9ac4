/-! ANSWERS (13): years: what chance does, what stands in masks -/
def nx (v : Int) : Int := mz_wrap (mz_wrap (v * 1103515245) + 12345)
def rv (s : Int) : Int := mz_andI (mz_shrI s 16) 32767
def pf : Nat → Int → Int
  | 0, _ => 0
  | k + 1, v => if v = 0 then 0 else 1 + pf k (mz_andI v (v - 1))
def pz : Nat → Int → Bool
  | 0, v => decide (v = 0)
  | k + 1, v => decide (v = 0) || pz k (mz_andI v (v - 1))
/-- a mask of the ones that are so, and how many -/
def mk_m (f : Nat → Bool) : Nat → Int
  | 0 => 0
  | n + 1 => mz_orI (mk_m f n) (if f n then mz_shlI 1 (n : Int) else 0)
def mk_n (f : Nat → Bool) : Nat → Int
  | 0 => 0
  | n + 1 => mk_n f n + (if f n then 1 else 0)
section WM
variable {x : mm_X} {g g0 g1 gA gB b0 h : mz_G} {ld : Nat}
theorem usr {v : Int} : mz_andI (mz_ushrI v 16) 32767 = mz_andI (mz_shrI v 16) 32767 := by
  rw [mz_and_N (by decide) ⟨by decide, by decide⟩, mz_and_N (by decide) ⟨by decide, by decide⟩]
  unfold mz_ushrI mz_shrI
  rw [Int32.ofInt_toInt, Int32.ofInt_toInt]
  generalize Int32.ofInt v = w
  congr 1
  apply Nat.eq_of_testBit_eq
  intro i
  rw [Nat.testBit_and, Nat.testBit_and]
  by_cases hi : i < 15
  · have e1 : (w.toUInt32 >>> ((Int32.ofInt 16).toUInt32 &&& Int32.toUInt32 31)).toInt32.toBitVec = w.toBitVec >>> 16 := by rfl
    have e2 : (w >>> (Int32.ofInt 16 &&& 31)).toBitVec = w.toBitVec.sshiftRight 16 := by rfl
    rw [e1, e2]
    have a1 : (w.toBitVec >>> 16).toNat.testBit i = (w.toBitVec >>> 16).getLsbD i := rfl
    have a2 : (w.toBitVec.sshiftRight 16).toNat.testBit i = (w.toBitVec.sshiftRight 16).getLsbD i := rfl
    rw [a1, a2, BitVec.getLsbD_ushiftRight, BitVec.getLsbD_sshiftRight]
    have z1 : ¬ 32 ≤ i := by omega
    have z2 : 16 + i < 32 := by omega
    simp [z1, z2]
  · have z : (32767 : Int).toNat.testBit i = false := Nat.testBit_lt_two_pow (Nat.lt_of_lt_of_le (by decide : (32767 : Int).toNat < 2 ^ 15) (Nat.pow_le_pow_right (by decide) (by omega)))
    rw [z, Bool.and_false, Bool.and_false]
theorem rv_b {s a : Int} (ha : 0 < a) : 0 ≤ rv s % a ∧ rv s % a < a := ⟨Int.emod_nonneg _ (by omega), Int.emod_lt_of_pos _ ha⟩
theorem dr_A {a : Int} (ha : 0 < a) : zF_X11_drawOf x a g = (rv (nx (g 0 15)) % a, mz_up g 0 15 (nx (g 0 15))) := by
  unfold zF_X11_drawOf
  simp only [zf_lq]
  rw [if_pos ha, mz_up_at, usr]
  rfl
theorem dr_B {a : Int} : zF_X12_drawOf a g = (rv (nx (g 137 52)) % a, mz_up g 137 52 (nx (g 137 52))) := by
  unfold zF_X12_drawOf
  simp only [zf_lq]
  rw [mz_up_at]
  rfl
def yt (b0 g h : mz_G) (t : Nat) : Prop := g (124 + 3 + t) 0 = h 153 t ∧ g (124 + 3 + t) 1 = h 154 t ∧ g (124 + 3 + t) 2 = h 155 t ∧ g (124 + 3 + t) 3 = h 152 t ∧ g (124 + 3 + t) 4 = b0 144 t ∧ vt b0 (h 153 t) (h 154 t) (h 152 t)
def yr (b0 g h : mz_G) : Prop := g 0 15 = h 137 52 ∧ g 124 2 = b0 140 1 ∧ g 124 3 = h 137 30 ∧ ∀ t : Nat, (t : Int) < b0 140 1 → yt b0 g h t
def fA_ (x : mm_X) (g0 g : mz_G) : Prop := ∀ a b : Nat, ¬ (a = 0 ∧ b = 15) → ¬ (124 ≤ a ∧ a ≤ 132) → a ≠ x.1 + 38 → a ≠ x.1 + 39 → g a b = g0 a b
theorem yr_seed {s : Int} (y : yr b0 g h) : yr b0 (mz_up g 0 15 s) (mz_up h 137 52 s) := by
  obtain ⟨y0, y1, y2, y3⟩ := y
  refine ⟨(mz_up_at ..).trans (mz_up_at ..).symm, (up_k (by decide)).trans y1, (up_k (by decide)).trans (y2.trans (up_j (by decide)).symm), fun t ht => ?_⟩
  obtain ⟨z0, z1, z2, z3, z4, z5⟩ := y3 t ht
  refine ⟨?_, ?_, ?_, ?_, ?_, ?_⟩
  · rw [up_k (by omega), up_k (by decide)]; exact z0
  · rw [up_k (by omega), up_k (by decide)]; exact z1
  · rw [up_k (by omega), up_k (by decide)]; exact z2
  · rw [up_k (by omega), up_k (by decide)]; exact z3
  · rw [up_k (by omega)]; exact z4
  · rw [up_k (by decide), up_k (by decide), up_k (by decide)]; exact z5
theorem yr_t {g' h' : mz_G} {t0 : Nat} (y : yr b0 g h) (fa : ∀ a b : Nat, ¬ (a = 124 + 3 + t0 ∧ b < 4) → g' a b = g a b) (fb : ∀ a b : Nat, ¬ ((152 ≤ a ∧ a ≤ 155) ∧ b = t0) → h' a b = h a b) (n : (t0 : Int) < b0 140 1 → yt b0 g' h' t0) : yr b0 g' h' := by
  obtain ⟨y0, y1, y2, y3⟩ := y
  refine ⟨(fa _ _ (by omega)).trans (y0.trans (fb _ _ (by omega)).symm), (fa _ _ (by omega)).trans y1, (fa _ _ (by omega)).trans (y2.trans (fb _ _ (by omega)).symm), fun t ht => ?_⟩
  by_cases z : t = t0
  · rw [z] at ht ⊢
    exact n ht
  · obtain ⟨z0, z1, z2, z3, z4, z5⟩ := y3 t ht
    refine ⟨?_, ?_, ?_, ?_, ?_, ?_⟩
    · rw [fa _ _ (by omega), fb _ _ (by omega)]; exact z0
    · rw [fa _ _ (by omega), fb _ _ (by omega)]; exact z1
    · rw [fa _ _ (by omega), fb _ _ (by omega)]; exact z2
    · rw [fa _ _ (by omega), fb _ _ (by omega)]; exact z3
    · rw [fa _ _ (by omega)]; exact z4
    · rw [fb _ _ (by omega), fb _ _ (by omega), fb _ _ (by omega)]; exact z5
theorem vt_sw {a b c : Int} (W : sa_w ld gA b0) (v : vt b0 a b c) : vt b0 b a 0 := by
  obtain ⟨a0, a1, c0, c1, -, -⟩ := v
  have u := fu_b W c0 c1 a0 a1
  exact ⟨c0, c1, a0, a1, by decide, by omega⟩
theorem vt_pk {a b c w : Int} (W : sa_w ld gA b0) (v : vt b0 a b c) (w0 : 0 ≤ w) (w1 : w < b0 140 0) : vt b0 w b 0 ∧ vt b0 a w 0 := by
  obtain ⟨a0, a1, c0, c1, -, -⟩ := v
  have u := fu_b W w0 w1 c0 c1
  have u' := fu_b W a0 a1 w0 w1
  exact ⟨⟨w0, w1, c0, c1, by decide, by omega⟩, ⟨a0, a1, w0, w1, by decide, by omega⟩⟩
/-- chance, of both -/
theorem some_k (hld : x.1 = 1 ∨ x.1 = 41) (S : sta x.1 g b0) (Q : su_e b0 h) (c6 : b0 140 1 ≤ 6) (n0 : 0 ≤ b0 140 1) (w0 : 0 < b0 140 1 → 0 < b0 140 0) (y : yr b0 g h) : yr b0 (zF_X11_drawAhead x g) (zF_X12_something h) ∧ fA_ x g (zF_X11_drawAhead x g) ∧ ∀ a b : Nat, ¬ fy a b → zF_X12_something h a b = h a b := by
  refine and_assoc.mp ⟨?_, some_f⟩
  · unfold zF_X11_drawAhead zF_X12_something zJ_X12_something_42 zJ_X12_something_59
    simp only [zf_lq]
    rw [dr_A (by decide), dr_B, y.1]
    unfold zf_m2
    dsimp only
    have y2 := yr_seed (s := nx (h 137 52)) y
    have f2 : fA_ x g (mz_up g 0 15 (nx (h 137 52))) := fun a b z _ _ _ => mz_up_ne z
    have v0 := rv_b (s := nx (h 137 52)) (a := 6) (by decide)
    have Q2 : su_e b0 (mz_up h 137 52 (nx (h 137 52))) := fun a b u v => (up_k (by omega)).trans (Q a b u v)
    have S2 : sta x.1 (mz_up g 0 15 (nx (h 137 52))) b0 := sta_A S (fun a b u v => up_k (by omega))
    generalize mz_up g 0 15 (nx (h 137 52)) = g2 at *
    generalize mz_up h 137 52 (nx (h 137 52)) = h2 at *
    generalize rv (nx (h 137 52)) % 6 = v at *
    rw [y2.2.1, Q2 140 1 (by decide) (by decide)]
    by_cases z0 : b0 140 1 = 0
    · rw [if_pos z0, if_pos z0]
      by_cases z2 : 2 < v
      · rw [if_pos z2]; exact ⟨y2, f2⟩
      · rw [if_neg z2]; exact ⟨y2, f2⟩
    · rw [if_neg z0, if_neg z0]
      by_cases z2 : 2 < v
      · rw [if_pos z2, if_pos z2]; exact ⟨y2, f2⟩
      · rw [if_neg z2, if_neg z2, dr_A (by omega), dr_B, y2.1]
        dsimp only
        have y6 := yr_seed (s := nx (h2 137 52)) y2
        have f6 : fA_ x g (mz_up g2 0 15 (nx (h2 137 52))) := fun a b z u v w => (mz_up_ne z).trans (f2 a b z u v w)
        have v5b := rv_b (s := nx (h2 137 52)) (a := b0 140 1) (by omega)
        have Q6 : su_e b0 (mz_up h2 137 52 (nx (h2 137 52))) := fun a b u v => (up_k (by omega)).trans (Q2 a b u v)
        have S6 : sta x.1 (mz_up g2 0 15 (nx (h2 137 52))) b0 := sta_A S2 (fun a b u v => up_k (by omega))
        generalize mz_up g2 0 15 (nx (h2 137 52)) = g6 at *
        generalize mz_up h2 137 52 (nx (h2 137 52)) = h6 at *
        generalize rv (nx (h2 137 52)) % b0 140 1 = v5 at *
        rw [get_k v5b.1 (by omega)]
        have yt6 := y6.2.2.2 v5.toNat (by omega)
        obtain ⟨q0, q1, q2, q3, q4, q5⟩ := yt6
        by_cases k0 : v = 0
        · rw [if_pos k0, if_pos k0, if_neg (show ¬ v = 1 by omega), if_neg (show ¬ v = 2 by omega)]
          obtain ⟨a0, a1, a3, af⟩ := turnA (g := g6) (q := 124 + 3 + v5.toNat)
          obtain ⟨c0, c1, c3, cf⟩ := turnB (g := h6) (t := v5)
          generalize zF_X8_turnRound (124 + 3 + v5.toNat) g6 = g8 at *
          generalize zF_X12_turnRound v5 h6 = h8 at *
          refine ⟨yr_t (t0 := v5.toNat) y6 (fun a b z => af a b (by omega)) (fun a b z => cf a b (by omega)) (fun _ => ⟨?_, ?_, ?_, ?_, ?_, ?_⟩), fun a b z u w w2 => (af a b (by omega)).trans (f6 a b z u w w2)⟩
          · rw [a0, c0]; exact q1
          · rw [a1, c1]; exact q0
          · rw [af _ _ (by omega), cf _ _ (by omega)]; exact q2
          · rw [a3, c3]
          · rw [af _ _ (by omega)]; exact q4
          · rw [c0, c1, c3]; exact vt_sw S6.1 q5
        · rw [if_neg k0, if_neg k0]
          by_cases k1 : v = 1
          · rw [if_pos k1, if_pos k1, if_neg (show ¬ v = 2 by omega), dr_A (by decide), dr_B, y6.1]
            dsimp only
            have y10 := yr_seed (s := nx (h6 137 52)) y6
            have f10 : fA_ x g (mz_up g6 0 15 (nx (h6 137 52))) := fun a b z u v w => (mz_up_ne z).trans (f6 a b z u v w)
            have p : yt b0 (mz_up g6 0 15 (nx (h6 137 52))) (mz_up h6 137 52 (nx (h6 137 52))) v5.toNat := y10.2.2.2 v5.toNat (by omega)
            generalize mz_up g6 0 15 (nx (h6 137 52)) = gC at *
            generalize mz_up h6 137 52 (nx (h6 137 52)) = hC at *
            generalize rv (nx (h6 137 52)) % 10 = v9 at *
            obtain ⟨p0, p1, p2, p3, p4, p5⟩ := p
            refine ⟨yr_t (t0 := v5.toNat) y10 (fun a b z => mz_up_ne (by omega)) (fun a b z => mz_up_ne (by omega)) (fun _ => ⟨?_, ?_, ?_, ?_, ?_, ?_⟩), fun a b z u w w2 => (up_k (by omega)).trans (f10 a b z u w w2)⟩
            · rw [up_j (by decide), up_k (by decide)]; exact p0
            · rw [up_j (by decide), up_k (by decide)]; exact p1
            · rw [mz_up_at, mz_up_at]
            · rw [up_j (by decide), up_k (by decide)]; exact p3
            · rw [up_j (by decide)]; exact p4
            · rw [up_k (by decide), up_k (by decide), up_k (by decide)]; exact p5
          · rw [if_neg k1, if_neg k1, if_pos (show v = 2 by omega)]
            have wn : zF_X10_many (x.1 + 1) g6 = b0 140 0 := by
              unfold zF_X10_many
              rw [zf_lq]
              exact S6.1.1
            rw [wn, Q6 140 0 (by decide) (by decide), dr_A (w0 (by omega)), dr_B (a := b0 140 0) (g := h6), y6.1]
            dsimp only
            have y10 := yr_seed (s := nx (h6 137 52)) y6
            have f10 : fA_ x g (mz_up g6 0 15 (nx (h6 137 52))) := fun a b z u v w => (mz_up_ne z).trans (f6 a b z u v w)
            have wb' := rv_b (s := nx (h6 137 52)) (a := b0 140 0) (w0 (by omega))
            generalize mz_up g6 0 15 (nx (h6 137 52)) = gC at *
            generalize mz_up h6 137 52 (nx (h6 137 52)) = hC at *
            generalize rv (nx (h6 137 52)) % b0 140 0 = v13 at *
            rw [dr_A (by decide), dr_B, y10.1]
            dsimp only
            have y11 := yr_seed (s := nx (hC 137 52)) y10
            have f11 : fA_ x g (mz_up gC 0 15 (nx (hC 137 52))) := fun a b z u v w => (mz_up_ne z).trans (f10 a b z u v w)
            generalize mz_up gC 0 15 (nx (hC 137 52)) = gD at *
            generalize mz_up hC 137 52 (nx (hC 137 52)) = hD at *
            generalize rv (nx (hC 137 52)) % 2 = v15 at *
            obtain ⟨p0, p1, p2, p3, p4, p5⟩ := y11.2.2.2 v5.toNat (by omega)
            obtain ⟨a0, a1, a3, af⟩ := packA (g := gD) (q := 124 + 3 + v5.toNat) (h := v15) (w := v13)
            obtain ⟨c0, c1, c3, cf⟩ := packB (g := hD) (t := v5) (h := v15) (w := v13)
            generalize zF_X8_packIn (124 + 3 + v5.toNat) v15 v13 gD = g8 at *
            generalize zF_X12_packIn v5 v15 v13 hD = h8 at *
            have vp := vt_pk S6.1 p5 wb'.1 wb'.2
            refine ⟨yr_t (t0 := v5.toNat) y11 (fun a b z => af a b (by omega)) (fun a b z => cf a b (by omega)) (fun _ => ⟨?_, ?_, ?_, ?_, ?_, ?_⟩), fun a b z u w w2 => (af a b (by omega)).trans (f11 a b z u w w2)⟩
            · rw [a0, c0, p0]
            · rw [a1, c1, p1]
            · rw [af _ _ (by omega), cf _ _ (by omega)]; exact p2
            · rw [a3, c3]
            · rw [af _ _ (by omega)]; exact p4
            · rw [c0, c1, c3]
              by_cases z : v15 = 0
              · rw [if_pos z, if_pos z]; exact vp.1
              · rw [if_neg z, if_neg z]; exact vp.2
/-- masks -/
theorem pz_s : ∀ v : Fin 64, pz 6 (v.val : Int) = true := by decide +kernel
theorem bits_l : ∀ (j k : Nat) (l v : Int), pz j v = true → j < k → 0 ≤ l → l + j ≤ 1000 → ∀ a : Int, zL_X12_bitsOf_4 a g k l v = l + pf j v := by
  intro j
  induction j with
  | zero =>
    intro k l v hp hk l0 l1 a
    obtain ⟨k, rfl⟩ : ∃ k1, k = k1 + 1 := ⟨k - 1, by omega⟩
    rw [zL_X12_bitsOf_4_s]
    unfold zB_X12_bitsOf_4
    have z : v = 0 := of_decide_eq_true hp
    rw [if_pos z]
    unfold pf
    omega
  | succ j ih =>
    intro k l v hp hk l0 l1 a
    obtain ⟨k, rfl⟩ : ∃ k1, k = k1 + 1 := ⟨k - 1, by omega⟩
    rw [zL_X12_bitsOf_4_s]
    unfold zB_X12_bitsOf_4 pf
    simp only [zf_lq]
    by_cases z : v = 0
    · rw [if_pos z, if_pos z]
      omega
    · rw [if_neg z, if_neg z, mz_wrap_id ⟨by omega, by omega⟩]
      have hp' : pz j (mz_andI v (v - 1)) = true := by
        unfold pz at hp
        rw [decide_eq_false z, Bool.false_or] at hp
        exact hp
      rw [ih k (l + 1) _ hp' (by omega) (by omega) (by omega) a]
      omega
theorem bits_B {v : Int} (h0 : 0 ≤ v) (h1 : v < 64) : zF_X12_bitsOf v g = pf 6 v := by
  unfold zF_X12_bitsOf
  have p := pz_s ⟨v.toNat, by omega⟩
  dsimp only at p
  rw [show ((v.toNat : Nat) : Int) = v by omega] at p
  rw [bits_l 6 3000000000 0 v p (by decide) (by decide) (by decide) v]
  omega
end WM
