/-! THE REFERENCE'S LEVELS: what its functions do to the run -/
/-- the reference's state of reading: its bytes, its token now -/
def rs_k (B : Int → Int) (n : Int) (g : mz_G) : Prop := mz_rb g = B ∧ g 137 17 = n ∧ mz_str g ∧ (∃ p, 0 ≤ p ∧ tk_tok B n p (g 137 20) (g 137 16) (tk_rk (g 137 18) (B (g 137 20))) (g 137 19)) ∧ g 137 21 = g 137 16 ∧ 0 ≤ g 137 18 ∧ g 137 18 ≤ 4 ∧ (g 137 18 ≠ 0 → g 137 20 < g 137 16)
/-- the token's kind, in the class's words -/
def kd_k (B : Int → Int) (g : mz_G) : Int := tk_rk (g 137 18) (B (g 137 20))
def wr : Nat → Nat → Prop := fun a b => (a = 137 ∧ (b = 22 ∨ b = 23)) ∨ a = 149 ∨ (a = 140 ∧ 4 ≤ b)
def wl : Nat → Nat → Prop := fun a b => (a = 137 ∧ (b = 16 ∨ b = 18 ∨ b = 19 ∨ b = 20 ∨ b = 21 ∨ b = 22 ∨ b = 23)) ∨ a = 149 ∨ (a = 140 ∧ b = 7)
theorem rs_w {B : Int → Int} {n : Int} {g g1 : mz_G} (h : rs_k B n g) (f : mz_fr wr g g1) : rs_k B n g1 := by
  obtain ⟨h1, h2, h3, ⟨p, h0, h4⟩, h5, h6, h7, h8⟩ := h
  have e : ∀ b : Nat, b < 22 → g1 137 b = g 137 b := fun b hb => f 137 b (by unfold wr; omega)
  refine ⟨(mz_rb_eq (fun j => f 151 j (by unfold wr; omega))).trans h1, (e 17 (by decide)).trans h2, str_fr h3 f (fun a b z => by unfold wr at z; omega), ⟨p, h0, ?_⟩, ?_, ?_, ?_, ?_⟩
  · rw [e 20 (by decide), e 16 (by decide), e 18 (by decide), e 19 (by decide)]; exact h4
  · rw [e 21 (by decide), e 16 (by decide)]; exact h5
  · rw [e 18 (by decide)]; exact h6
  · rw [e 18 (by decide)]; exact h7
  · rw [e 18 (by decide), e 20 (by decide), e 16 (by decide)]; exact h8
section RS
variable {B : Int → Int} {n : Int} {g : mz_G}
theorem rs_len (h : rs_k B n g) : 0 ≤ g 137 20 ∧ g 137 20 ≤ g 137 16 ∧ g 137 16 ≤ n := by
  obtain ⟨h1, h2, h3, ⟨p, h0, h4⟩, h5, h6, h7, h8⟩ := h
  have := tk_tok_len h4
  omega
/-- kinds -/
theorem rs_kd (h : rs_k B n g) : (kd_k B g = 1 ↔ g 137 18 = 1) ∧ (kd_k B g = 2 ↔ g 137 18 = 2) ∧ ∀ c, tk_sgn c → (kd_k B g = c ↔ (g 137 18 = 3 ∧ B (g 137 20) = c)) := by
  obtain ⟨h1, h2, h3, ⟨p, h0, h4⟩, h5, h6, h7, h8⟩ := h
  have := rq_k (g := g) ⟨p, by rw [h1, h2]; exact h4⟩ h6 h7
  rw [h1] at this
  exact this
theorem rs_kd0 (h : rs_k B n g) : kd_k B g = 0 ↔ g 137 18 = 0 := by
  obtain ⟨h1, h2, h3, ⟨p, h0, h4⟩, h5, h6, h7, h8⟩ := h
  obtain ⟨a1, a2, a3, a4, a5⟩ := h4
  have l := a1.2.1
  unfold kd_k
  rcases (by omega : g 137 18 = 0 ∨ g 137 18 = 1 ∨ g 137 18 = 2 ∨ g 137 18 = 3 ∨ g 137 18 = 4) with z | z | z | z | z
  · rw [z]; exact ⟨fun _ => rfl, fun _ => rfl⟩
  · rw [z]; exact ⟨fun y => absurd (show _ = (0 : Int) from y) (by first | (rw [tk_rk_1]; decide) | (rw [tk_rk_2]; decide) | (rw [tk_rk_4]; decide)), fun y => absurd y (by decide)⟩
  · rw [z]; exact ⟨fun y => absurd (show _ = (0 : Int) from y) (by first | (rw [tk_rk_1]; decide) | (rw [tk_rk_2]; decide) | (rw [tk_rk_4]; decide)), fun y => absurd y (by decide)⟩
  · rw [z] at a3 a4 a5 h8 ⊢
    rw [tk_rk_3] at a3 a4 a5 ⊢
    refine ⟨fun y => ?_, fun y => absurd y (by decide)⟩
    exfalso
    have lt : g 137 20 < n := by
      have := h8 (by decide)
      by_cases q : g 137 20 = n
      · have := (a2 q).2; omega
      · omega
    rw [y] at a5
    have := a5 lt (by unfold tk_let; omega) (by unfold tk_dig; omega)
    have := this.2.2 (by unfold tk_sgn; omega)
    omega
  · rw [z]; exact ⟨fun y => absurd (show _ = (0 : Int) from y) (by first | (rw [tk_rk_1]; decide) | (rw [tk_rk_2]; decide) | (rw [tk_rk_4]; decide)), fun y => absurd y (by decide)⟩
theorem rs_step (hn : n ≤ 700) (hB : ∀ a, 0 ≤ B a) (h : rs_k B n g) : rs_k B n (zF_X12_stepOn g) ∧ tk_tok B n (g 137 16) (zF_X12_stepOn g 137 20) (zF_X12_stepOn g 137 16) (kd_k B (zF_X12_stepOn g)) (zF_X12_stepOn g 137 19) ∧ mz_fr fw_rt g (zF_X12_stepOn g) := by
  have l := rs_len h
  obtain ⟨h1, h2, h3, -, -, -, -, -⟩ := h
  obtain ⟨⟨i1, i2, i3, i4, i5⟩, f⟩ := X12_stepOn (g := g) (by omega) (by omega) (by omega) (by rw [h1]; exact hB)
  rw [h1, h2] at i1
  refine ⟨⟨(mz_rb_eq (fun j => f 151 j (by unfold fw_rt; omega))).trans h1, (f 137 17 (by unfold fw_rt; omega)).trans h2, str_fr h3 f (fun a b z => by unfold fw_rt at z; omega), ⟨g 137 16, by omega, i1⟩, i2, i3, i4, i5⟩, i1, f⟩
theorem X12_lay {v : Int} : (g 137 22 = 0 → zF_X12_lay v g = mz_up (mz_up g 149 (700 + g 140 7).toNat v) 140 7 (g 140 7 + 1)) ∧ (g 137 22 ≠ 0 → zF_X12_lay v g = g) := by
  unfold zF_X12_lay
  simp only [zf_lq]
  constructor
  · intro h
    rw [if_pos h, show mz_up g 149 (700 + g 140 7).toNat v 140 7 = g 140 7 from up_k (by decide)]
    rfl
  · intro h
    rw [if_neg h]
theorem wrong_fr {v : Int} : mz_fr wr g (zF_X12_wrong v g) := by
  by_cases h : g 137 22 = 0
  · rw [X12_wrong.1 h]
    exact fr_tr (fr_up (Or.inl ⟨rfl, Or.inl rfl⟩)) (fr_up (Or.inl ⟨rfl, Or.inr rfl⟩))
  · rw [X12_wrong.2 h]
    exact fr_rf
theorem lay_fr {v : Int} : mz_fr wr g (zF_X12_lay v g) := by
  by_cases h : g 137 22 = 0
  · rw [X12_lay.1 h]
    exact fr_tr (fr_up (Or.inr (Or.inl rfl))) (fr_up (Or.inr (Or.inr ⟨rfl, by decide⟩)))
  · rw [X12_lay.2 h]
    exact fr_rf
/-- a fault now -/
theorem wrong_at {v : Int} (h : g 137 22 = 0) : zF_X12_wrong v g 137 22 = v ∧ zF_X12_wrong v g 137 23 = g 137 20 := by
  rw [X12_wrong.1 h]
  exact ⟨(up_j (by decide)).trans (mz_up_at ..), mz_up_at ..⟩
end RS
/-- the code of a sign, in the class's words -/
def cm (v : Int) : Int := if v = -20 then -16 else if v = -21 then -17 else if v = -22 then -18 else if v = -23 then -19 else if v = -24 then -14 else if v = -25 then -15 else if v = -26 then -12 else if v = -27 then -11 else if v = -28 then -13 else v
theorem cm_id {v : Int} (h : -20 < v) : cm v = v := by
  unfold cm
  rw [if_neg (by omega), if_neg (by omega), if_neg (by omega), if_neg (by omega), if_neg (by omega), if_neg (by omega), if_neg (by omega), if_neg (by omega), if_neg (by omega)]
/-- what has been laid from g to g1 -/
def ly (g g1 : mz_G) (L : List Int) : Prop := g1 140 7 = g 140 7 + (L.length : Int) ∧ (∀ i : Nat, i < L.length → cm (g1 149 (700 + g 140 7 + (i : Int)).toNat) = L.getD i 0) ∧ ∀ j : Nat, (j : Int) < 700 + g 140 7 → g1 149 j = g 149 j
theorem ly_0 {g g1 : mz_G} (h : g1 140 7 = g 140 7) (f : ∀ j, g1 149 j = g 149 j) : ly g g1 [] := ⟨by rw [h]; exact (Int.add_zero _).symm, fun i hi => absurd hi (Nat.not_lt_zero _), fun j _ => f j⟩
theorem ly_tr {g g1 g2 : mz_G} {L M : List Int} (h0 : 0 ≤ g 140 7) (a : ly g g1 L) (b : ly g1 g2 M) : ly g g2 (L ++ M) := by
  obtain ⟨a1, a2, a3⟩ := a
  obtain ⟨b1, b2, b3⟩ := b
  refine ⟨by rw [b1, a1, List.length_append]; omega, fun i hi => ?_, fun j hj => (b3 j (by omega)).trans (a3 j hj)⟩
  rw [List.length_append] at hi
  by_cases z : i < L.length
  · rw [b3 _ (by omega), a2 i z, List.getD_eq_getElem?_getD, List.getD_eq_getElem?_getD, List.getElem?_append_left z]
  · have := b2 (i - L.length) (by omega)
    rw [a1] at this
    rw [show (700 + g 140 7 + (i : Int)) = 700 + (g 140 7 + (L.length : Int)) + ((i - L.length : Nat) : Int) by omega, this, List.getD_eq_getElem?_getD, List.getD_eq_getElem?_getD, List.getElem?_append_right (by omega)]
theorem ly_lay {g : mz_G} {v : Int} (h : g 137 22 = 0) (h0 : 0 ≤ g 140 7) : ly g (zF_X12_lay v g) [cm v] := by
  rw [X12_lay.1 h]
  refine ⟨mz_up_at .., fun i hi => ?_, fun j hj => (up_k (by decide)).trans (up_j (by omega))⟩
  have hi : i = 0 := by simp at hi; exact hi
  rw [hi, up_k (by decide), show (700 + g 140 7 + ((0 : Nat) : Int)) = 700 + g 140 7 by omega, mz_up_at]
  rfl
theorem ly_up {g g1 g2 : mz_G} {L : List Int} (a : ly g g1 L) (h : g2 140 7 = g1 140 7) (f : ∀ j, g2 149 j = g1 149 j) : ly g g2 L := ⟨h.trans a.1, fun i hi => by rw [f]; exact a.2.1 i hi, fun j hj => (f j).trans (a.2.2 j hj)⟩
theorem ly_dn {g g1 g2 : mz_G} {L : List Int} (h : g1 140 7 = g 140 7) (f : ∀ j, g1 149 j = g 149 j) (a : ly g1 g2 L) : ly g g2 L := by
  obtain ⟨a1, a2, a3⟩ := a
  rw [h] at a1 a2 a3
  exact ⟨a1, a2, fun j hj => (a3 j hj).trans (f j)⟩
/-- a level of the reference: for each state without a fault, the piece of the run -/
def okS (p : Int) (B : Int → Int) (g : mz_G) (S : List Int) (nc k : Int) : Prop := rk (tp S) < p ∧ (5 ≤ p → ¬ (nc = 1 ∧ tk_sp B (kd_k B g) (g 137 20) (g 137 16) 5)) ∧ (p ≤ 3 → nc = 1 ∧ k = 0)
def lvi (B : Int → Int) (n p p1 w : Int) (g g1 : mz_G) : Prop := rs_k B n g1 ∧ mz_fr wl g g1 ∧ g 137 20 ≤ g1 137 20 ∧ ∃ L : List Int, (g1 137 22 = 0 → ly g g1 L ∧ 0 < L.length) ∧ ∀ (S : List Int) (nc k : Int) (O : List Int), okS p B g S nc k → lv_R B n p p1 w (g 137 20) (g 137 16) (kd_k B g) S nc k O (g1 137 20) (g1 137 16) (kd_k B g1) (g1 137 22) (g1 137 23) L
abbrev lvl (B : Int → Int) (n p w : Int) (g g1 : mz_G) : Prop := lvi B n p p w g g1
/-- with a fault nothing moves -/
def stl (f : mz_G → mz_G) : Prop := ∀ g : mz_G, g 137 22 ≠ 0 → f g = g
theorem mark_bad {c : Int} : stl (zF_X12_mark c) := fun g h => by
  unfold zF_X12_mark zJ_X12_mark_20
  simp only [zf_lq]
  rw [if_neg h, if_neg h]
theorem mark_ok {c : Int} {g : mz_G} (h : g 137 22 = 0) : ((g 137 18 = 3 ∧ mz_rb g (g 137 20) = c) → zF_X12_mark c g = zF_X12_stepOn g) ∧ (¬ (g 137 18 = 3 ∧ mz_rb g (g 137 20) = c) → 1 ≠ (0 : Int) → zF_X12_mark c g = zF_X12_wrong 1 g) := by
  unfold zF_X12_mark zJ_X12_mark_20
  simp only [zf_lq]
  rw [if_pos h]
  constructor
  · intro z
    rw [X12_isMarked.1 ⟨h, z⟩, if_neg (by decide), if_pos h]
  · intro z _
    rw [X12_isMarked.2 (fun y => z y.2), if_pos rfl, if_neg (by rw [(wrong_at h).1]; decide)]
theorem lay_bad {v : Int} : stl (zF_X12_lay v) := fun g h => X12_lay.2 h
theorem part_bad {rx : Int → mz_G → mz_G} {a1 : Int} : stl (zF_X12_readPart rx a1) := fun g h => by
  unfold zF_X12_readPart
  simp only [zf_lq]
  rw [if_neg h]
theorem marked_bad {c : Int} {g : mz_G} (h : g 137 22 ≠ 0) : zF_X12_isMarked c g = 0 := X12_isMarked.2 (fun z => h z.1)
theorem is_bad {q : Nat} {g : mz_G} (hq : q < 28) (h : g 137 22 ≠ 0) : zF_X12_is q g = 0 := by
  unfold zF_X12_is zJ_X12_is_35 zJ_X12_is_36
  simp only [zf_lq]
  rw [if_neg h, zL_X12_is_39_s]
  unfold zB_X12_is_39 zJ_X12_is_82
  rw [if_pos rfl]
theorem prodL_bad {rx : Int → mz_G → mz_G} {a1 : Int} {k : Nat} {g : mz_G} (h : g 137 22 ≠ 0) : zL_X12_readProduct_5 rx a1 (k + 1) g = g := by
  rw [zL_X12_readProduct_5_s]
  unfold zB_X12_readProduct_5
  simp only [zf_lq]
  rw [marked_bad h, if_pos rfl, marked_bad h, if_pos rfl]
theorem prod_bad {rx : Int → mz_G → mz_G} {a1 : Int} : stl (zF_X12_readProduct rx a1) := fun g h => by
  unfold zF_X12_readProduct
  simp only [zf_lq]
  rw [part_bad g h]
  exact prodL_bad h
theorem sumL_bad {rx : Int → mz_G → mz_G} {a1 : Int} {k : Nat} {g : mz_G} (h : g 137 22 ≠ 0) : zL_X12_readSum_5 rx a1 (k + 1) g = g := by
  rw [zL_X12_readSum_5_s]
  unfold zB_X12_readSum_5
  simp only [zf_lq]
  rw [marked_bad h, if_pos rfl, marked_bad h, if_pos rfl]
theorem sum_bad {rx : Int → mz_G → mz_G} {a1 : Int} : stl (zF_X12_readSum rx a1) := fun g h => by
  unfold zF_X12_readSum
  simp only [zf_lq]
  rw [prod_bad g h]
  exact sumL_bad h
theorem nots96_bad {rx : Int → mz_G → mz_G} {a1 : Int} : ∀ (m k : Nat) (l2 l3 : Int) {g : mz_G}, (l2 - l3).toNat < m → m ≤ k → g 137 22 ≠ 0 → zL_X12_readNot_96 rx a1 k l2 l3 g = g
  | 0, _, _, _, _, h, _, _ => absurd h (Nat.not_lt_zero _)
  | m + 1, 0, _, _, _, _, h, _ => absurd h (by omega)
  | m + 1, k + 1, l2, l3, g, hm, hk, h => by
    rw [zL_X12_readNot_96_s]
    unfold zB_X12_readNot_96
    simp only [zf_lq]
    by_cases z : l3 < l2
    · rw [if_pos z, lay_bad g h]
      exact nots96_bad m k l2 (l3 + 1) (by omega) (by omega) h
    · rw [if_neg z]
theorem notL_bad {rx : Int → mz_G → mz_G} {a1 : Int} {k : Nat} {l : Int} {g : mz_G} (hl : l ≤ 100) (h : g 137 22 ≠ 0) : zL_X12_readNot_2 rx a1 (k + 1) l g = g := by
  rw [zL_X12_readNot_2_s]
  unfold zB_X12_readNot_2
  simp only [zf_lq]
  rw [is_bad (by decide) h, if_pos rfl, sum_bad g h, marked_bad h, if_pos rfl, marked_bad h, if_pos rfl]
  unfold zJ_X12_readNot_94
  exact nots96_bad 200 3000000000 l 0 (by omega) (by decide) h
theorem not_bad {rx : Int → mz_G → mz_G} {a1 : Int} : stl (zF_X12_readNot rx a1) := fun g h => notL_bad (by decide) h
theorem andL_bad {rx : Int → mz_G → mz_G} {a1 : Int} {k : Nat} {g : mz_G} (h : g 137 22 ≠ 0) : zL_X12_readAnd_5 rx a1 (k + 1) g = g := by
  rw [zL_X12_readAnd_5_s]
  unfold zB_X12_readAnd_5
  simp only [zf_lq]
  rw [is_bad (by decide) h, if_pos rfl]
theorem and_bad {rx : Int → mz_G → mz_G} {a1 : Int} : stl (zF_X12_readAnd rx a1) := fun g h => by
  unfold zF_X12_readAnd
  simp only [zf_lq]
  rw [not_bad g h]
  exact andL_bad h
theorem exprL_bad {rx : Int → mz_G → mz_G} {a1 : Int} {k : Nat} {g : mz_G} (h : g 137 22 ≠ 0) : zL_X12_readExpression_67 rx a1 (k + 1) g = g := by
  rw [zL_X12_readExpression_67_s]
  unfold zB_X12_readExpression_67
  simp only [zf_lq]
  rw [is_bad (by decide) h, if_pos rfl]
theorem expr62_bad {rx : Int → mz_G → mz_G} {a1 : Int} : stl (zJ_X12_readExpression_62 rx a1) := fun g h => by
  unfold zJ_X12_readExpression_62
  simp only [zf_lq]
  rw [and_bad g h]
  exact exprL_bad h
theorem expr_bad {rx : Int → mz_G → mz_G} {a1 : Int} : stl (zF_X12_readExpression rx a1) := fun g h => by
  unfold zF_X12_readExpression
  simp only [zf_lq]
  rw [if_neg h]
