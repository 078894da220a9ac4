/-! WHAT IS TOLD, of both: the class reads it of its load (ld) in gA, the reference of its lower halves in gB -/
def sa_w (ld : Nat) (gA gB : mz_G) : Prop := gA (ld + 1) 3 = gB 140 0 ∧ 0 ≤ gB 140 0 ∧ gB 140 0 ≤ 8 ∧ ∀ i : Nat, (i : Int) < gB 140 0 → gA (ld + 10 + 2 * i) 1 = gB 142 i ∧ 1 ≤ gB 142 i ∧ gB 142 i ≤ 8 ∧ (∀ j : Nat, (j : Int) < gB 142 i → gA (ld + 11 + 2 * i) j = gB 141 (8 * i + j) ∧ 1 ≤ gB 141 (8 * i + j) ∧ gB 141 (8 * i + j) ≤ 26) ∧ gA (ld + 5) i = gB 143 i
def sa_o (ld : Nat) (gA gB : mz_G) : Prop := ∀ i j : Nat, (i : Int) < gB 140 0 → (j : Int) < gB 140 0 → gA (ld + 6) (8 * i + j) = zF_X12_overlapOf i j gB
def sa_h (ld : Nat) (gA gB : mz_G) : Prop := gA ld 3 = gB 140 2 ∧ 0 ≤ gB 140 2 ∧ gB 140 2 ≤ 8 ∧ ∀ i : Nat, (i : Int) < gB 140 2 → gA (ld + 35) i = gB 148 i
def sa_r (ld : Nat) (gA gB : mz_G) : Prop := gA (ld + 36) 1 = gB 140 3 ∧ 0 ≤ gB 140 3 ∧ gB 140 3 ≤ 700 ∧ (∀ i : Nat, (i : Int) < gB 140 3 → gA (ld + 37) i = cm (gB 149 i) ∧ -28 ≤ gB 149 i) ∧ mz_pv gB
def sta (ld : Nat) (gA gB : mz_G) : Prop := sa_w ld gA gB ∧ sa_o ld gA gB ∧ sa_h ld gA gB ∧ sa_r ld gA gB
/-- how many letters a trunk has at most to grow -/
def fu (g : mz_G) (a b : Int) : Int := min (g 142 a.toNat) (g 142 b.toNat)
/-- a trunk as it may be -/
def vt (g : mz_G) (sd mt gn : Int) : Prop := 0 ≤ sd ∧ sd < g 140 0 ∧ 0 ≤ mt ∧ mt < g 140 0 ∧ 0 ≤ gn ∧ gn ≤ fu g sd mt
section ST
variable {ld : Nat} {gA gB : mz_G}
theorem sa_len (h : sa_w ld gA gB) {w : Int} (h0 : 0 ≤ w) (h1 : w < gB 140 0) : gA (ld + 10 + 2 * w.toNat) 1 = gB 142 w.toNat ∧ 1 ≤ gB 142 w.toNat ∧ gB 142 w.toNat ≤ 8 := by
  have := h.2.2.2 w.toNat (by omega)
  exact ⟨this.1, this.2.1, this.2.2.1⟩
theorem sa_let (h : sa_w ld gA gB) {w : Int} (h0 : 0 ≤ w) (h1 : w < gB 140 0) {j : Nat} (hj : (j : Int) < gB 142 w.toNat) : gA (ld + 11 + 2 * w.toNat) j = gB 141 (8 * w.toNat + j) := ((h.2.2.2 w.toNat (by omega)).2.2.2.1 j hj).1
theorem sa_firm (h : sa_w ld gA gB) {w : Int} (h0 : 0 ≤ w) (h1 : w < gB 140 0) : gA (ld + 5) w.toNat = gB 143 w.toNat := (h.2.2.2 w.toNat (by omega)).2.2.2.2
theorem of_w {w : Int} (h0 : 0 ≤ w) (h1 : w < 8) : zF_X10_of (ld + 1) w gA = ld + 10 + 2 * w.toNat := by
  rw [X10_of h0 h1]
theorem len_q {q : Nat} : zF_X0_length q gA = gA q 1 := by unfold zF_X0_length; rw [zf_lq]
theorem wlen (h : sa_w ld gA gB) {w : Int} (h0 : 0 ≤ w) (h1 : w < gB 140 0) : zF_X0_length (zF_X10_of (ld + 1) w gA) gA = gB 142 w.toNat := by
  have := h.2.2.1
  rw [of_w h0 (by omega), len_q, (sa_len h h0 h1).1]
theorem firm_w (h : sa_w ld gA gB) {w : Int} (h0 : 0 ≤ w) (h1 : w < gB 140 0) : zF_X10_firmness (ld + 1) w gA = gB 143 w.toNat := by
  have := h.2.2.1
  unfold zF_X10_firmness
  rw [X11_at (n := 8) h0 (by omega), zf_lq, show ld + 1 + 4 = ld + 5 from rfl, sa_firm h h0 h1]
theorem over_w (h : sa_w ld gA gB) (o : sa_o ld gA gB) {a b : Int} (a0 : 0 ≤ a) (a1 : a < gB 140 0) (b0 : 0 ≤ b) (b1 : b < gB 140 0) : zF_X10_overlapOf (ld + 1) a b gA = zF_X12_overlapOf a b gB := by
  have := h.2.2.1
  unfold zF_X10_overlapOf
  simp only [zf_lq]
  rw [mz_wrap_id (a := a * 8) ⟨by omega, by omega⟩, mz_wrap_id (a := a * 8 + b) ⟨by omega, by omega⟩, X11_at (n := 64) (by omega) (by omega)]
  have e := o a.toNat b.toNat (by omega) (by omega)
  rw [show (a * 8 + b).toNat = 8 * a.toNat + b.toNat by omega, show ld + 1 + 5 = ld + 6 from rfl, e, show ((a.toNat : Nat) : Int) = a by omega, show ((b.toNat : Nat) : Int) = b by omega]
theorem full_A (h : sa_w ld gA gB) {q : Nat} (a0 : 0 ≤ gA q 0) (a1 : gA q 0 < gB 140 0) (b0 : 0 ≤ gA q 1) (b1 : gA q 1 < gB 140 0) : zF_X1_fullOf ld q gA = fu gB (gA q 0) (gA q 1) := by
  unfold zF_X1_fullOf
  simp only [zf_lq]
  rw [wlen h a0 a1, wlen h b0 b1]
  rfl
theorem full_B {t : Int} : zF_X12_fullOf t gB = fu gB (gB 153 t.toNat) (gB 154 t.toNat) := by
  unfold zF_X12_fullOf
  simp only [zf_lq]
  rfl
theorem isFull_A (h : sa_w ld gA gB) {q : Nat} (a0 : 0 ≤ gA q 0) (a1 : gA q 0 < gB 140 0) (b0 : 0 ≤ gA q 1) (b1 : gA q 1 < gB 140 0) : zF_X1_isFull ld q gA = if gA q 3 = fu gB (gA q 0) (gA q 1) then 1 else 0 := by
  unfold zF_X1_isFull
  simp only [zf_lq]
  rw [full_A h a0 a1 b0 b1]
theorem isFull_B {t : Int} : zF_X12_isFull t gB = if gB 152 t.toNat = fu gB (gB 153 t.toNat) (gB 154 t.toNat) then 1 else 0 := by
  unfold zF_X12_isFull
  simp only [zf_lq]
  rw [full_B]
theorem fu_b (h : sa_w ld gA gB) {a b : Int} (a0 : 0 ≤ a) (a1 : a < gB 140 0) (b0 : 0 ≤ b) (b1 : b < gB 140 0) : 1 ≤ fu gB a b ∧ fu gB a b ≤ 8 := by
  have u := sa_len h a0 a1
  have v := sa_len h b0 b1
  unfold fu
  omega
theorem bsize_A (h : sa_w ld gA gB) {q : Nat} (v : vt gB (gA q 0) (gA q 1) (gA q 3)) : zF_X1_blendSize ld q gA = gB 142 (gA q 0).toNat + gB 142 (gA q 1).toNat - gA q 3 := by
  obtain ⟨a0, a1, b0, b1, c0, c1⟩ := v
  have u := sa_len h a0 a1
  have w := sa_len h b0 b1
  unfold zF_X1_blendSize
  simp only [zf_lq]
  rw [wlen h a0 a1, wlen h b0 b1]
  unfold fu at c1
  exact mz_wrap_id ⟨by omega, by omega⟩
theorem bsize_B {t : Int} : zF_X12_blendSize t gB = gB 142 (gB 153 t.toNat).toNat + gB 142 (gB 154 t.toNat).toNat - gB 152 t.toNat := by
  unfold zF_X12_blendSize
  simp only [zf_lq]
/-- HEAT of a day -/
def ht (g : mz_G) (d : Int) : Int := if g 140 2 = 0 then 5 else g 148 (d % g 140 2).toNat
theorem heat_B {d : Int} : zF_X12_heatOf d gB = ht gB d := by
  unfold zF_X12_heatOf ht
  simp only [zf_lq]
theorem heat_A (h : sa_h ld gA gB) {d : Int} (h0 : 0 ≤ d) (h1 : d ≤ 2147483647) : zF_X1_heatOf ld d gA = ht gB d := by
  obtain ⟨e, b0, b1, f⟩ := h
  unfold zF_X1_heatOf ht
  simp only [zf_lq]
  rw [e]
  by_cases z : gB 140 2 = 0
  · rw [if_neg (by omega), if_pos z]
  · have m0 := Int.emod_nonneg d z
    have m1 := Int.emod_lt_of_pos d (by omega : 0 < gB 140 2)
    rw [if_pos (by omega), if_neg z, zf_rem_of ⟨by omega, h1⟩ ⟨by omega, by omega⟩ h0 (by omega), X11_at (n := 8) m0 (by omega), f _ (by omega)]
end ST
/-- what the reference was told is the same -/
def su_e (g g1 : mz_G) : Prop := ∀ a b : Nat, 140 ≤ a → a ≤ 149 → g1 a b = g a b
theorem su_e_r (g : mz_G) : su_e g g := fun _ _ _ _ => rfl
theorem su_e_t {g g1 g2 : mz_G} (h : su_e g g1) (k : su_e g1 g2) : su_e g g2 := fun a b u v => (k a b u v).trans (h a b u v)
section SC
variable {g g1 : mz_G}
theorem su_f (h : su_e g g1) {a : Nat} (u : 140 ≤ a) (v : a ≤ 149) : g1 a = g a := funext fun b => h a b u v
theorem ov28_c (h : su_e g g1) {a1 a2 : Int} : ∀ (k : Nat) (l3 l4 l5 : Int), zL_X12_overlapOf_28 a1 a2 g1 k l3 l4 l5 = zL_X12_overlapOf_28 a1 a2 g k l3 l4 l5 := by
  intro k
  induction k with
  | zero => intros; rfl
  | succ k ih =>
    intro l3 l4 l5
    rw [zL_X12_overlapOf_28_s, zL_X12_overlapOf_28_s]
    unfold zB_X12_overlapOf_28 zJ_X12_overlapOf_70 zF_X12_letterOf
    simp only [zf_lq, su_f h (a := 141) (by decide) (by decide), su_f h (a := 142) (by decide) (by decide), ih]
theorem ov18_c (h : su_e g g1) {a1 a2 : Int} : ∀ (k : Nat) (l3 : Int), zL_X12_overlapOf_18 a1 a2 g1 k l3 = zL_X12_overlapOf_18 a1 a2 g k l3 := by
  intro k
  induction k with
  | zero => intros; rfl
  | succ k ih =>
    intro l3
    rw [zL_X12_overlapOf_18_s, zL_X12_overlapOf_18_s]
    unfold zB_X12_overlapOf_18 zJ_X12_overlapOf_78
    simp only [zf_lq, ov28_c h, ih]
theorem ov_c (h : su_e g g1) {a1 a2 : Int} : zF_X12_overlapOf a1 a2 g1 = zF_X12_overlapOf a1 a2 g := by
  unfold zF_X12_overlapOf
  simp only [zf_lq, su_f h (a := 142) (by decide) (by decide), ov18_c h]
theorem fu_c (h : su_e g g1) {a b : Int} : fu g1 a b = fu g a b := by
  unfold fu
  rw [su_f h (a := 142) (by decide) (by decide)]
theorem vt_c (h : su_e g g1) {a b c : Int} : vt g1 a b c ↔ vt g a b c := by
  unfold vt
  rw [fu_c h, su_f h (a := 140) (by decide) (by decide)]
theorem ht_c (h : su_e g g1) {d : Int} : ht g1 d = ht g d := by
  unfold ht
  rw [su_f h (a := 140) (by decide) (by decide), su_f h (a := 148) (by decide) (by decide)]
end SC
section SU
variable {ld : Nat} {gA gB g : mz_G}
theorem sta_A (S : sta ld gA gB) (f : ∀ a b : Nat, ld ≤ a → a ≤ ld + 37 → g a b = gA a b) : sta ld g gB := by
  obtain ⟨⟨w1, w2, w3, w4⟩, o, ⟨h1, h2, h3, h4⟩, r1, r2, r3, r4, r5⟩ := S
  refine ⟨⟨(f _ _ (by omega) (by omega)).trans w1, w2, w3, fun i hi => ?_⟩, fun i j hi hj => (f _ _ (by omega) (by omega)).trans (o i j hi hj), ⟨(f _ _ (by omega) (by omega)).trans h1, h2, h3, fun i hi => (f _ _ (by omega) (by omega)).trans (h4 i hi)⟩, (f _ _ (by omega) (by omega)).trans r1, r2, r3, fun i hi => ⟨(f _ _ (by omega) (by omega)).trans (r4 i hi).1, (r4 i hi).2⟩, r5⟩
  obtain ⟨u1, u2, u3, u4, u5⟩ := w4 i hi
  exact ⟨(f _ _ (by omega) (by omega)).trans u1, u2, u3, fun j hj => ⟨(f _ _ (by omega) (by omega)).trans (u4 j hj).1, (u4 j hj).2⟩, (f _ _ (by omega) (by omega)).trans u5⟩
theorem sta_B (S : sta ld gA gB) (h : su_e gB g) : sta ld gA g := by
  obtain ⟨w, o, hh, r1, r2, r3, r4, r5⟩ := S
  have e : ∀ a, 140 ≤ a → a ≤ 149 → g a = gB a := fun a u v => su_f h u v
  refine ⟨?_, ?_, ?_, ?_⟩
  · unfold sa_w
    rw [e 140 (by decide) (by decide), e 141 (by decide) (by decide), e 142 (by decide) (by decide), e 143 (by decide) (by decide)]
    exact w
  · intro i j
    rw [e 140 (by decide) (by decide), ov_c h]
    exact o i j
  · unfold sa_h
    rw [e 140 (by decide) (by decide), e 148 (by decide) (by decide)]
    exact hh
  · unfold sa_r
    rw [e 140 (by decide) (by decide), e 149 (by decide) (by decide)]
    exact ⟨r1, r2, r3, r4, mz_pv_fr r5 (fun j => h 149 j (by decide) (by decide)) (h 140 3 (by decide) (by decide))⟩
end SU
