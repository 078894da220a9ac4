/-! LINES: both readers side by side, each over its own heap -/
def ln_k (B : Int → Int) (n : Int) (gA gB : mz_G) : Prop := (mz_cb gA = B ∧ gA 82 2 = n ∧ mz_str gA) ∧ rs_k B n gB ∧ (∃ p, 0 ≤ p ∧ tk_tok B n p (gA 82 5) (gA 82 3) (gA 82 4) (gA 82 6) ∧ tk_tok B n p (gB 137 20) (gB 137 16) (kd_k B gB) (gB 137 19)) ∧ (gA 81 1 = 0 ∧ gA 81 2 = -1) ∧ gB 137 22 = 0
/-- a fault, the same of both -/
def fa_k (gA gB : mz_G) : Prop := gA 81 1 ≠ 0 ∧ gB 137 22 = gA 81 1 ∧ gB 137 23 = gA 81 2
def wA : Nat → Nat → Prop := fun a _ => a ≠ 81 ∧ a ≠ 82 ∧ a ≠ 83 ∧ a < 2000
def wB : Nat → Nat → Prop := fun a _ => a ≠ 137 ∧ a ≠ 151 ∧ a < 2000
section LN
variable {B : Int → Int} {n : Int} {gA gB : mz_G}
theorem ln_eq (h : ln_k B n gA gB) : gB 137 20 = gA 82 5 ∧ gB 137 16 = gA 82 3 ∧ kd_k B gB = gA 82 4 ∧ (gA 82 4 = 2 → gA 82 3 - gA 82 5 ≤ 4 → gB 137 19 = gA 82 6) := by
  obtain ⟨-, -, ⟨p, h0, t1, t2⟩, -, -⟩ := h
  exact tk_tok_u h0 (fun _ _ _ => rfl) t1 t2
theorem ln_len (h : ln_k B n gA gB) : 0 ≤ gA 82 5 ∧ gA 82 5 ≤ gA 82 3 ∧ gA 82 3 ≤ n ∧ (gA 82 4 ≠ 0 → gA 82 5 < gA 82 3) := by
  obtain ⟨-, -, ⟨p, h0, t1, t2⟩, -, -⟩ := h
  have := tk_tok_len t1
  exact ⟨by omega, this.2.2.1, this.2.2.2.1, this.2.2.2.2⟩
theorem ln_step (hn : n ≤ 700) (hB : ∀ a, 0 ≤ B a) (h : ln_k B n gA gB) : ln_k B n (zF_X7_step gA) (zF_X12_stepOn gB) ∧ mz_fr fw_tk gA (zF_X7_step gA) ∧ mz_fr fw_rt gB (zF_X12_stepOn gB) := by
  have e := ln_eq h
  have l := ln_len h
  obtain ⟨⟨a1, a2, a3⟩, r, -, f1, f2⟩ := h
  obtain ⟨s1, s2⟩ := X7_step (g := gA) (by omega) (by omega) (by omega)
  obtain ⟨r1, r2, r3⟩ := rs_step hn hB r
  rw [a1, a2] at s1
  rw [e.2.1] at r2
  exact ⟨⟨⟨(mz_cb_eq (fun j => s2 83 j (by unfold fw_tk; omega))).trans a1, (s2 82 2 (by unfold fw_tk; omega)).trans a2, str_fr a3 s2 (fun a b z => by unfold fw_tk at z; omega)⟩, r1, ⟨gA 82 3, by omega, s1, r2⟩, ⟨(s2 81 1 (by unfold fw_tk; omega)).trans f1.1, (s2 81 2 (by unfold fw_tk; omega)).trans f1.2⟩, (r3 137 22 (by unfold fw_rt; omega)).trans f2⟩, s2, r3⟩
theorem ln_A {g : mz_G} (h : ln_k B n gA gB) (f : mz_fr wA gA g) : ln_k B n g gB := by
  obtain ⟨⟨a1, a2, a3⟩, r, ⟨p, p0, t1, t2⟩, f1, f2⟩ := h
  have e : ∀ b : Nat, g 82 b = gA 82 b := fun b => f 82 b (by unfold wA; omega)
  refine ⟨⟨(mz_cb_eq (fun j => f 83 j (by unfold wA; omega))).trans a1, (e 2).trans a2, str_fr a3 f (fun a b z => z.2.2.2)⟩, r, ⟨p, p0, by rw [e, e, e, e]; exact t1, t2⟩, ⟨(f 81 1 (by unfold wA; omega)).trans f1.1, (f 81 2 (by unfold wA; omega)).trans f1.2⟩, f2⟩
theorem ln_B {g : mz_G} (h : ln_k B n gA gB) (f : mz_fr wB gB g) : ln_k B n gA g := by
  obtain ⟨a, r, ⟨p, p0, t1, t2⟩, f1, f2⟩ := h
  have e : ∀ b : Nat, g 137 b = gB 137 b := fun b => f 137 b (by unfold wB; omega)
  have ek : kd_k B g = kd_k B gB := by unfold kd_k; rw [e, e]
  obtain ⟨h1, h2, h3, ⟨q, q0, h4⟩, h5, h6, h7, h8⟩ := r
  refine ⟨a, ⟨(mz_rb_eq (fun j => f 151 j (by unfold wB; omega))).trans h1, (e 17).trans h2, str_fr h3 f (fun a b z => z.2.2), ⟨q, q0, by rw [e, e, e, e]; exact h4⟩, by rw [e, e]; exact h5, by rw [e]; exact h6, by rw [e]; exact h7, by rw [e, e, e]; exact h8⟩, ⟨p, p0, t1, by rw [e, e, ek, e]; exact t2⟩, f1, (e 22).trans f2⟩
theorem fa_blame {v : Int} (h : ln_k B n gA gB) (hv : v ≠ 0) : fa_k (mz_up (mz_up gA 81 1 v) 81 2 (gA 82 5)) (zF_X12_wrong v gB) := by
  obtain ⟨e1, e2⟩ := wrong_at (v := v) h.2.2.2.2
  have e := ln_eq h
  refine ⟨?_, ?_, ?_⟩
  · rw [up_j (by decide), mz_up_at]; exact hv
  · rw [up_j (by decide), mz_up_at]; exact e1
  · rw [mz_up_at, e2]; exact e.1
/-- a number -/
theorem rn_A {most fab : Int} (h : ln_k B n gA gB) : (gA 82 4 ≠ 2 → zF_X4_readNumber most fab gA = (-1, mz_up (mz_up gA 81 1 1) 81 2 (gA 82 5))) ∧ (gA 82 4 = 2 → 4 < gA 82 3 - gA 82 5 → zF_X4_readNumber most fab gA = (-1, mz_up (mz_up gA 81 1 2) 81 2 (gA 82 5))) ∧ (gA 82 4 = 2 → gA 82 3 - gA 82 5 ≤ 4 → most < gA 82 6 → zF_X4_readNumber most fab gA = (-1, mz_up (mz_up gA 81 1 fab) 81 2 (gA 82 5))) ∧ (gA 82 4 = 2 → gA 82 3 - gA 82 5 ≤ 4 → gA 82 6 ≤ most → zF_X4_readNumber most fab gA = (gA 82 6, zF_X7_step gA)) := by
  unfold zF_X4_readNumber zJ_X4_readNumber_59 zJ_X4_readNumber_79 zF_X7_kind zF_X7_tokenSize zF_X7_number
  simp only [zf_lq, X4_blame, zf_m2]
  refine ⟨fun a => ?_, fun a b => ?_, fun a b c => ?_, fun a b c => ?_⟩
  · rw [if_neg a, if_pos trivial, if_pos trivial]
  · rw [if_pos a, if_pos b, if_pos trivial, if_pos trivial]
  · rw [if_pos a, if_neg (by omega), if_pos c, if_pos trivial, if_pos trivial]
  · rw [if_pos a, if_neg (by omega), if_neg (by omega), if_neg (by decide), if_neg (by decide)]
theorem num_A (h : ln_k B n gA gB) (h2 : gA 82 4 = 2) (hl : gA 82 3 - gA 82 5 ≤ 4) : 0 ≤ gA 82 6 ∧ gA 82 6 ≤ 9999 := by
  obtain ⟨-, -, ⟨p, h0, t1, t2⟩, -, -⟩ := h
  rw [h2] at t1
  have := num_b t1 hl
  exact ⟨this.1, this.2.1⟩
theorem nn_B (h : ln_k B n gA gB) {most : Int} : (gA 82 4 ≠ 2 → zF_X12_numberNow 0 most gB = (0, zF_X12_wrong 1 gB)) ∧ (gA 82 4 = 2 → 4 < gA 82 3 - gA 82 5 → zF_X12_numberNow 0 most gB = (0, zF_X12_wrong 2 gB)) ∧ (gA 82 4 = 2 → gA 82 3 - gA 82 5 ≤ 4 → most < gA 82 6 → zF_X12_numberNow 0 most gB = (0, zF_X12_wrong 2 gB)) ∧ (gA 82 4 = 2 → gA 82 3 - gA 82 5 ≤ 4 → gA 82 6 ≤ most → zF_X12_numberNow 0 most gB = (gA 82 6, gB)) := by
  have e := ln_eq h
  have hb := h.2.2.2.2
  have k2 := (rs_kd h.2.1).2.1
  rw [e.2.2.1] at k2
  have h5 := h.2.1.2.2.2.2.1
  unfold zF_X12_numberNow zJ_X12_numberNow_54 zJ_X12_numberNow_59
  simp only [zf_lq]
  rw [if_pos hb, h5, e.1, e.2.1]
  refine ⟨fun a => ?_, fun a b => ?_, fun a b c => ?_, fun a b c => ?_⟩
  · rw [if_neg (fun z => a (k2.mpr z)), if_neg (by rw [(wrong_at hb).1]; decide)]
  · rw [if_pos (k2.mp a), if_pos b, if_neg (by rw [(wrong_at hb).1]; decide)]
  · have nb := num_A h a b
    rw [if_pos (k2.mp a), if_neg (by omega), e.2.2.2 a b, if_neg (by omega), if_pos c, if_neg (by rw [(wrong_at hb).1]; decide)]
  · have nb := num_A h a b
    rw [if_pos (k2.mp a), if_neg (by omega), e.2.2.2 a b, if_neg (by omega), if_neg (by omega), if_pos hb]
/-- a number of both: told, or a fault -/
theorem rn_k (hn : n ≤ 700) (hB : ∀ a, 0 ≤ B a) {most : Int} (h : ln_k B n gA gB) : (∃ v, zF_X4_readNumber most 2 gA = (v, zF_X7_step gA) ∧ zF_X12_readNumber 0 most gB = (v, zF_X12_stepOn gB) ∧ 0 ≤ v ∧ v ≤ most) ∨ (∃ f a b, f ≠ 0 ∧ zF_X4_readNumber most 2 gA = (-1, a) ∧ zF_X12_readNumber 0 most gB = (0, b) ∧ fa_k a b) := by
  have hb := h.2.2.2.2
  obtain ⟨a1, a2, a3, a4⟩ := rn_A (most := most) (fab := 2) h
  obtain ⟨b1, b2, b3, b4⟩ := nn_B (most := most) h
  have bad : ∀ f : Int, f ≠ 0 → zF_X12_numberNow 0 most gB = (0, zF_X12_wrong f gB) → zF_X12_readNumber 0 most gB = (0, zF_X12_wrong f gB) := by
    intro f hf e
    unfold zF_X12_readNumber zJ_X12_readNumber_18 zf_m2
    simp only [zf_lq]
    rw [e]
    dsimp only
    rw [if_neg (by rw [(wrong_at hb).1]; exact hf)]
  by_cases k2 : gA 82 4 = 2
  · by_cases l4 : 4 < gA 82 3 - gA 82 5
    · exact Or.inr ⟨2, _, _, by decide, a2 k2 l4, bad 2 (by decide) (b2 k2 l4), fa_blame h (by decide)⟩
    · by_cases l : most < gA 82 6
      · exact Or.inr ⟨2, _, _, by decide, a3 k2 (by omega) l, bad 2 (by decide) (b3 k2 (by omega) l), fa_blame h (by decide)⟩
      · refine Or.inl ⟨gA 82 6, a4 k2 (by omega) (by omega), ?_, (num_A h k2 (by omega)).1, by omega⟩
        unfold zF_X12_readNumber zJ_X12_readNumber_18 zf_m2
        simp only [zf_lq]
        rw [b4 k2 (by omega) (by omega)]
        dsimp only
        rw [if_pos hb]
  · exact Or.inr ⟨1, _, _, by decide, a1 k2, bad 1 (by decide) (b1 k2), fa_blame h (by decide)⟩
/-- a WORD's number -/
theorem rw_k (hn : n ≤ 700) (hB : ∀ a, 0 ≤ B a) {m : Int} (hm : gB 140 4 = m) (hm8 : m ≤ 8) (h : ln_k B n gA gB) : (∃ v, zF_X4_readNumber (m - 1) 3 gA = (v, zF_X7_step gA) ∧ zF_X12_readWhich gB = (v, zF_X12_stepOn gB) ∧ 0 ≤ v ∧ v < m) ∨ (∃ v a b, zF_X4_readNumber (m - 1) 3 gA = (-1, a) ∧ zF_X12_readWhich gB = (v, b) ∧ fa_k a b ∧ b 137 22 ≠ 0) := by
  have hb := h.2.2.2.2
  obtain ⟨a1, a2, a3, a4⟩ := rn_A (most := m - 1) (fab := 3) h
  obtain ⟨b1, b2, b3, b4⟩ := nn_B (most := 9999) h
  have bad : ∀ f : Int, f ≠ 0 → zF_X12_numberNow 0 9999 gB = (0, zF_X12_wrong f gB) → zF_X12_readWhich gB = (0, zF_X12_wrong f gB) := by
    intro f hf e
    unfold zF_X12_readWhich zJ_X12_readWhich_31 zJ_X12_readWhich_42 zf_m2
    simp only [zf_lq]
    rw [e]
    dsimp only
    rw [if_neg (by rw [(wrong_at hb).1]; exact hf), if_neg (by rw [(wrong_at hb).1]; exact hf)]
  by_cases k2 : gA 82 4 = 2
  · by_cases l4 : 4 < gA 82 3 - gA 82 5
    · exact Or.inr ⟨0, _, _, a2 k2 l4, bad 2 (by decide) (b2 k2 l4), fa_blame h (by decide), by rw [(wrong_at hb).1]; decide⟩
    · have nb := num_A h k2 (by omega)
      have e9 := b4 k2 (by omega) nb.2
      by_cases l : m - 1 < gA 82 6
      · refine Or.inr ⟨gA 82 6, _, zF_X12_wrong 3 gB, a3 k2 (by omega) l, ?_, fa_blame h (by decide), by rw [(wrong_at hb).1]; decide⟩
        unfold zF_X12_readWhich zJ_X12_readWhich_31 zJ_X12_readWhich_42 zf_m2
        simp only [zf_lq]
        rw [e9]
        dsimp only
        rw [if_pos hb, if_neg (show ¬ gA 82 6 < gB 140 4 by omega), if_neg (by rw [(wrong_at hb).1]; decide)]
      · refine Or.inl ⟨gA 82 6, a4 k2 (by omega) (by omega), ?_, nb.1, by omega⟩
        unfold zF_X12_readWhich zJ_X12_readWhich_31 zJ_X12_readWhich_42 zf_m2
        simp only [zf_lq]
        rw [e9]
        dsimp only
        rw [if_pos hb, if_pos (show gA 82 6 < gB 140 4 by omega), if_pos hb]
  · exact Or.inr ⟨0, _, _, a1 k2, bad 1 (by decide) (b1 k2), fa_blame h (by decide), by rw [(wrong_at hb).1]; decide⟩
end LN
/-- with a fault, no number is read -/
theorem num_bad {g : mz_G} (h : g 137 22 ≠ 0) {a b : Int} : zF_X12_readNumber a b g = (0, g) ∧ zF_X12_readWhich g = (0, g) := by
  have e : ∀ a b, zF_X12_numberNow a b g = (0, g) := by
    intro a b
    unfold zF_X12_numberNow
    simp only [zf_lq]
    rw [if_neg h]
  constructor
  · unfold zF_X12_readNumber zJ_X12_readNumber_18 zf_m2
    simp only [zf_lq]
    rw [e]
    dsimp only
    rw [if_neg h]
  · unfold zF_X12_readWhich zJ_X12_readWhich_31 zJ_X12_readWhich_42 zf_m2
    simp only [zf_lq]
    rw [e]
    dsimp only
    rw [if_neg h, if_neg h]
/-! what has been told so far, by both -/
def wd_r (ld : Nat) (gA gB : mz_G) : Prop := gA (ld + 1) 3 = gB 140 4 ∧ 0 ≤ gB 140 4 ∧ gB 140 4 ≤ 8 ∧ ∀ i : Nat, (i : Int) < gB 140 4 → gA (ld + 10 + 2 * i) 1 = gB 142 (8 + i) ∧ 1 ≤ gB 142 (8 + i) ∧ gB 142 (8 + i) ≤ 8 ∧ (∀ j : Nat, (j : Int) < gB 142 (8 + i) → gA (ld + 11 + 2 * i) j = gB 141 (64 + 8 * i + j) ∧ 1 ≤ gB 141 (64 + 8 * i + j) ∧ gB 141 (64 + 8 * i + j) ≤ 26) ∧ gA (ld + 5) i = gB 143 (8 + i)
def tr_r (ld : Nat) (gA gB : mz_G) : Prop := gA (ld + 26) 2 = gB 140 5 ∧ 0 ≤ gB 140 5 ∧ gB 140 5 ≤ 6 ∧ ∀ i : Nat, (i : Int) < gB 140 5 → gA (ld + 29 + i) 0 = gB 145 (6 + i) ∧ gA (ld + 29 + i) 1 = gB 146 (6 + i) ∧ gA (ld + 29 + i) 2 = gB 147 (6 + i) ∧ gA (ld + 29 + i) 4 = gB 144 (6 + i) ∧ gA (ld + 29 + i) 3 = 0 ∧ (0 ≤ gB 145 (6 + i) ∧ gB 145 (6 + i) < gB 140 4) ∧ (0 ≤ gB 146 (6 + i) ∧ gB 146 (6 + i) < gB 140 4) ∧ (0 ≤ gB 147 (6 + i) ∧ gB 147 (6 + i) ≤ 9) ∧ (gB 144 (6 + i) = 0 ∨ gB 144 (6 + i) = 1)
def ht_r (ld : Nat) (gA gB : mz_G) : Prop := gA ld 3 = gB 140 6 ∧ 0 ≤ gB 140 6 ∧ gB 140 6 ≤ 8 ∧ ∀ i : Nat, (i : Int) < gB 140 6 → gA (ld + 35) i = gB 148 (8 + i) ∧ 0 ≤ gB 148 (8 + i) ∧ gB 148 (8 + i) ≤ 9
def rl_r (ld : Nat) (gA gB : mz_G) : Prop := gA (ld + 36) 1 = gB 140 7 ∧ 0 ≤ gB 140 7 ∧ ∀ i : Nat, (i : Int) < gB 140 7 → gA (ld + 37) i = cm (gB 149 (700 + i))
def td_k (ld : Nat) (gA gB : mz_G) (d : Int) : Prop := wd_r ld gA gB ∧ tr_r ld gA gB ∧ ht_r ld gA gB ∧ rl_r ld gA gB ∧ (0 ≤ d ∧ d ≤ 3) ∧ ((d = 1 ∨ d = 3) ↔ 0 < gB 140 6) ∧ (2 ≤ d ↔ 0 < gB 140 7)
def wTA (ld : Nat) : Nat → Nat → Prop := fun a _ => a < ld ∨ ld + 40 ≤ a
def wTB : Nat → Nat → Prop := fun a _ => a < 140 ∨ 150 ≤ a
theorem td_fr {ld : Nat} {gA gB gA1 gB1 : mz_G} {d : Int} (h : td_k ld gA gB d) (fA : mz_fr (wTA ld) gA gA1) (fB : mz_fr wTB gB gB1) : td_k ld gA1 gB1 d := by
  have eA : ∀ a b : Nat, ld ≤ a → a < ld + 40 → gA1 a b = gA a b := fun a b h1 h2 => fA a b (by unfold wTA; omega)
  have eB : ∀ a b : Nat, 140 ≤ a → a < 150 → gB1 a b = gB a b := fun a b h1 h2 => fB a b (by unfold wTB; omega)
  have e4 := eB 140 4 (by decide) (by decide)
  have e5 := eB 140 5 (by decide) (by decide)
  have e6 := eB 140 6 (by decide) (by decide)
  have e7 := eB 140 7 (by decide) (by decide)
  obtain ⟨⟨w1, w2, w3, w4⟩, ⟨t1, t2, t3, t4⟩, ⟨h1, h2, h3, h4⟩, ⟨r1, r2, r3⟩, d1, d2, d3⟩ := h
  refine ⟨⟨?_, ?_, ?_, fun i hi => ?_⟩, ⟨?_, ?_, ?_, fun i hi => ?_⟩, ⟨?_, ?_, ?_, fun i hi => ?_⟩, ⟨?_, ?_, fun i hi => ?_⟩, d1, ?_, ?_⟩
  · rw [eA _ _ (by omega) (by omega), e4]; exact w1
  · rw [e4]; exact w2
  · rw [e4]; exact w3
  · rw [e4] at hi
    obtain ⟨a, b, c, dd, e⟩ := w4 i hi
    rw [eA _ _ (by omega) (by omega), eB 142 _ (by decide) (by decide), eA (ld + 5) i (by omega) (by omega), eB 143 _ (by decide) (by decide)]
    refine ⟨a, b, c, fun j hj => ?_, e⟩
    rw [eA _ _ (by omega) (by omega), eB 141 _ (by decide) (by decide)]
    exact dd j hj
  · rw [eA _ _ (by omega) (by omega), e5]; exact t1
  · rw [e5]; exact t2
  · rw [e5]; exact t3
  · rw [e5] at hi
    rw [eA _ 0 (by omega) (by omega), eA _ 1 (by omega) (by omega), eA _ 2 (by omega) (by omega), eA _ 3 (by omega) (by omega), eA _ 4 (by omega) (by omega), eB 145 _ (by decide) (by decide), eB 146 _ (by decide) (by decide), eB 147 _ (by decide) (by decide), eB 144 _ (by decide) (by decide), e4]
    exact t4 i hi
  · rw [eA _ _ (by omega) (by omega), e6]; exact h1
  · rw [e6]; exact h2
  · rw [e6]; exact h3
  · rw [e6] at hi
    rw [eA _ _ (by omega) (by omega), eB 148 _ (by decide) (by decide)]
    exact h4 i hi
  · rw [eA _ _ (by omega) (by omega), e7]; exact r1
  · rw [e7]; exact r2
  · rw [e7] at hi
    rw [eA _ _ (by omega) (by omega), eB 149 _ (by decide) (by decide)]
    exact r3 i hi
  · rw [e6]; exact d2
  · rw [e7]; exact d3
