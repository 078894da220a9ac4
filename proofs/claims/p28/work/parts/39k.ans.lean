/-! ANSWERS (11): both, then -/
section WK
variable {x : mm_X} {g g0 g1 gA gB b0 : mz_G} {ld : Nat}
/-- a word's letters -/
def wt (b0 : mz_G) (w : Int) (j : Nat) : Int := b0 141 (8 * w + (j : Int)).toNat
theorem wt_A (W : sa_w ld gA b0) {w : Int} (h0 : 0 ≤ w) (h1 : w < b0 140 0) {j : Nat} (hj : (j : Int) < b0 142 w.toNat) : gA (ld + 10 + 2 * w.toNat + 1) j = wt b0 w j := by
  unfold wt
  rw [show ld + 10 + 2 * w.toNat + 1 = ld + 11 + 2 * w.toNat by omega, sa_let W h0 h1 hj, show (8 * w + (j : Int)).toNat = 8 * w.toNat + j by omega]
theorem ln_w (hld : ld = 1 ∨ ld = 41) {w : Nat} (hw : w < 8) : zf_ln (ld + 10 + 2 * w) = 8 := by
  unfold zf_ln
  rw [if_neg (by omega), if_neg (by omega)]
theorem both_a (hx : mk_x x) (k : ru x gA gB) {a1 a2 a3 : Int} : ka (zF_X11_both x a1 a2 a3 gA) (zF_X12_both a1 a2 a3 gB) := by
  have hld : x.1 = 1 ∨ x.1 = 41 := by unfold mk_x at hx; omega
  have k1 := ru_2 (v := 0) k
  unfold zF_X11_both zF_X12_both zJ_X11_both_29 zJ_X11_both_30 zJ_X12_both_33 zJ_X12_both_87
  simp only [zf_lq]
  rw [isW_A, isW_A, isW_B, isW_B, isI_B]
  generalize hb : mz_up gB 137 2 0 = b1 at *
  have c0 : b1 137 2 = 0 := by rw [← hb, mz_up_at]
  clear k hb
  have W : sa_w x.1 gA b1 := k1.2.1.1
  have O : sa_o x.1 gA b1 := k1.2.1.2.1
  have l8 := W.2.2.1
  rw [W.1, mb_0, mb_1]
  by_cases h1 : 0 ≤ a1 ∧ a1 < b1 140 0
  · rw [if_pos h1, i10, i10]
    by_cases h2 : 0 ≤ a2 ∧ a2 < b1 140 0
    · rw [if_pos h2, i10, i10]
      by_cases h3 : 0 ≤ a3 ∧ a3 ≤ 2
      · rw [if_neg (show ¬ a3 < 0 by omega), if_neg (show ¬ 2 < a3 by omega), if_pos h3, i10]
        by_cases y0 : a3 = 0
        · rw [if_pos y0, if_pos y0]
          exact ka_0 c0 (over_w W O h1.1 h1.2 h2.1 h2.2)
        · rw [if_neg y0, if_neg y0, of_w h1.1 (by omega), of_w h2.1 (by omega)]
          have u := sa_len W h1.1 h1.2
          have v := sa_len W h2.1 h2.2
          have zu := ln_w hld (w := a1.toNat) (by omega)
          have zv := ln_w hld (w := a2.toNat) (by omega)
          obtain ⟨g9, e9, t9, f9⟩ := winto_B (q1 := 157) (nq := 16) (b0 := b1) (by decide) h1.1 u.2.2
          rw [e9]
          unfold zf_m2
          dsimp only
          have o10 : ∀ a b : Nat, a ≠ 157 → ¬ (a = 137 ∧ b = 36) → mz_up g9 137 36 (b1 142 a1.toNat) a b = b1 a b := fun a b z1 z2 => (mz_up_ne z2).trans (f9 a b z1)
          have e36 : mz_up g9 137 36 (b1 142 a1.toNat) 137 36 = b1 142 a1.toNat := mz_up_at ..
          have t10 : ∀ j : Nat, (j : Int) < b1 142 a1.toNat → mz_up g9 137 36 (b1 142 a1.toNat) 157 j = wt b1 a1 j := fun j hj => (up_k (by decide)).trans (t9 j hj)
          generalize mz_up g9 137 36 (b1 142 a1.toNat) = g10 at *
          have v10 : g10 142 a2.toNat = b1 142 a2.toNat := o10 _ _ (by decide) (by omega)
          obtain ⟨g12, e12, t12, f12⟩ := winto_B (q1 := 158) (nq := 16) (b0 := g10) (w := a2) (by decide) h2.1 (by rw [v10]; exact v.2.2)
          rw [v10] at e12 t12
          rw [e12]
          dsimp only
          have o13 : ∀ a b : Nat, a ≠ 158 → ¬ (a = 137 ∧ b = 37) → mz_up g12 137 37 (b1 142 a2.toNat) a b = g10 a b := fun a b z1 z2 => (mz_up_ne z2).trans (f12 a b z1)
          have e37 : mz_up g12 137 37 (b1 142 a2.toNat) 137 37 = b1 142 a2.toNat := mz_up_at ..
          have t13 : ∀ j : Nat, (j : Int) < b1 142 a2.toNat → mz_up g12 137 37 (b1 142 a2.toNat) 158 j = wt b1 a2 j := fun j hj => (up_k (by decide)).trans ((t12 j hj).trans (o10 _ _ (by decide) (by omega)))
          generalize mz_up g12 137 37 (b1 142 a2.toNat) = g13 at *
          have p36 : g13 137 36 = b1 142 a1.toNat := (o13 _ _ (by decide) (by decide)).trans e36
          have s157 : ∀ j : Nat, (j : Int) < b1 142 a1.toNat → g13 157 j = wt b1 a1 j := fun j hj => (o13 _ _ (by decide) (by omega)).trans (t10 j hj)
          have c13 : g13 137 2 = 0 := (o13 _ _ (by decide) (by decide)).trans ((o10 _ _ (by decide) (by decide)).trans c0)
          have C : ∀ a : Int, ∃ h1, zF_X12_compared a g13 = (tb a (wt b1 a1) (wt b1 a2) (b1 142 a1.toNat).toNat (b1 142 a2.toNat).toNat, h1) ∧ h1 137 2 = 0 := fun a => by
            obtain ⟨h1, e, f⟩ := compared_B (g0 := g13) (a1 := a) (by rw [p36]; omega) (by rw [e37]; omega) (by rw [p36]; omega) (by rw [e37]; omega)
            rw [p36, e37] at e
            refine ⟨h1, e.trans ?_, (f _ _ (by decide)).trans c13⟩
            unfold tb
            rw [edr_c (lp := b1 142 a1.toNat) (lq := b1 142 a2.toNat) s157 t13 _ _ (by omega) (by omega), lcr_c (lp := b1 142 a1.toNat) (lq := b1 142 a2.toNat) s157 t13 _ _ (by omega) (by omega)]
          have L1 : gA (x.1 + 10 + 2 * a1.toNat) 1 ≤ (zf_ln (x.1 + 10 + 2 * a1.toNat) : Int) := by rw [zu, u.1]; omega
          have L2 : gA (x.1 + 10 + 2 * a2.toNat) 1 ≤ (zf_ln (x.1 + 10 + 2 * a2.toNat) : Int) := by rw [zv, v.1]; omega
          by_cases y1 : a3 = 1
          · rw [if_pos y1, if_pos y1]
            obtain ⟨g7, e7, -⟩ := changes_A (g0 := gA) (q1 := x.1 + 10 + 2 * a1.toNat) (q2 := x.1 + 10 + 2 * a2.toNat) (by omega) (by omega) L1 L2 (by rw [u.1]; omega) (by rw [v.1]; omega)
            rw [u.1, v.1] at e7
            obtain ⟨h9, e8, c9⟩ := C 1
            rw [e7, e8]
            refine ka_0 c9 ?_
            rw [edr_c (lp := b1 142 a1.toNat) (lq := b1 142 a2.toNat) (fun j hj => wt_A W h1.1 h1.2 hj) (fun j hj => wt_A W h2.1 h2.2 hj) _ _ (by omega) (by omega)]
            rfl
          · rw [if_neg y1, if_neg y1]
            obtain ⟨g7, e7, -⟩ := common_A (g0 := gA) (q1 := x.1 + 10 + 2 * a1.toNat) (q2 := x.1 + 10 + 2 * a2.toNat) (by omega) (by omega) L1 L2 (by rw [u.1]; omega) (by rw [v.1]; omega)
            rw [u.1, v.1] at e7
            obtain ⟨h9, e8, c9⟩ := C 0
            rw [e7, e8]
            refine ka_0 c9 ?_
            rw [lcr_c (lp := b1 142 a1.toNat) (lq := b1 142 a2.toNat) (fun j hj => wt_A W h1.1 h1.2 hj) (fun j hj => wt_A W h2.1 h2.2 hj) _ _ (by omega) (by omega)]
            rfl
      · rw [if_neg h3, i00]
        by_cases y : a3 < 0
        · rw [if_pos y]
          exact ka_fail (c := 1) rfl (by decide)
        · rw [if_neg y, if_pos (show 2 < a3 by omega)]
          exact ka_fail (c := 1) rfl (by decide)
    · rw [if_neg h2, i00, i00]
      exact ka_fail (c := 1) rfl (by decide)
  · rw [if_neg h1, i00, i00]
    exact ka_fail (c := 1) rfl (by decide)
/-- how far a word is from a trunk's text -/
def dw (b0 : mz_G) (p : Nat → Int) (N : Int) (w : Int) : Int := edr p (wt b0 w) N.toNat (b0 142 w.toNat).toNat
theorem near_l (hld : ld = 1 ∨ ld = 41) (hw : 0 < b0 140 0) {n1 : Nat} {p : Nat → Int} {N : Int} (hN : (n1 : Int) = N) (N16 : N ≤ 16) (hl : x.1 = ld) (S : sta ld gA b0) (e133 : gA 133 1 = N) (t133 : ∀ i : Nat, (i : Int) < N → gA 134 i = p i) {h0 : mz_G} (Q : su_e b0 h0) (e36 : h0 137 36 = N) (t157 : ∀ i : Nat, (i : Int) < N → h0 157 i = p i) {a1 a2 : Int} : ∀ (m k1 k2 : Nat) (l1 l2 l3 l4 l5 : Int) (g h : mz_G), (b0 140 0 - l5).toNat = m → m < k1 → m < k2 → 0 ≤ l5 → l5 ≤ b0 140 0 → tA gA g → (∀ a b : Nat, a ≠ 158 → a ≠ 159 → ¬ (a = 137 ∧ b = 37) → h a b = h0 a b) → ((l1 = -1 ∧ l3 = -1 ∧ l4 = 100000 ∧ l5 = 0) ∨ (0 ≤ l1 ∧ l1 < l5 ∧ l3 = l1 ∧ l2 = dw b0 p N l1 ∧ l4 = dw b0 p N l1)) → ∃ r g1 h1, zL_X11_nearestToBlend_6 x k1 l1 l2 l5 g = (r, g1) ∧ zL_X12_nearest_22 a1 a2 k2 l3 l4 l5 h = (if a2 = 0 then dw b0 p N r else r, h1) ∧ (0 ≤ r ∧ r < b0 140 0) ∧ tA gA g1 ∧ ∀ a b : Nat, a ≠ 158 → a ≠ 159 → ¬ (a = 137 ∧ b = 37) → h1 a b = h0 a b := by
  have l8 := S.1.2.2.1
  intro m
  induction m with
  | zero =>
    intro k1 k2 l1 l2 l3 l4 l5 g h hm hk1 hk2 h0' h5 f fh I
    obtain ⟨k1, rfl⟩ : ∃ k, k1 = k + 1 := ⟨k1 - 1, by omega⟩
    obtain ⟨k2, rfl⟩ : ∃ k, k2 = k + 1 := ⟨k2 - 1, by omega⟩
    rw [zL_X11_nearestToBlend_6_s, zL_X12_nearest_22_s]
    unfold zB_X11_nearestToBlend_6 zB_X12_nearest_22 zF_X10_many
    simp only [zf_lq]
    rw [hl, f (ld + 1) 3 (by omega), S.1.1, fh 140 0 (by decide) (by decide) (by decide), Q 140 0 (by decide) (by decide), if_neg (by omega), if_neg (by omega)]
    rcases I with ⟨y1, y2, y3, y4⟩ | ⟨y1, y2, y3, y4, y5⟩
    · omega
    · refine ⟨l1, g, h, rfl, ?_, ⟨y1, by omega⟩, f, fh⟩
      rw [y3, y5]
      by_cases y : a2 = 0
      · rw [if_pos y, if_pos y]
      · rw [if_neg y, if_neg y]
  | succ m ih =>
    intro k1 k2 l1 l2 l3 l4 l5 g h hm hk1 hk2 h0' h5 f fh I
    obtain ⟨k1, rfl⟩ : ∃ k, k1 = k + 1 := ⟨k1 - 1, by omega⟩
    obtain ⟨k2, rfl⟩ : ∃ k, k2 = k + 1 := ⟨k2 - 1, by omega⟩
    have hl5 : l5 < b0 140 0 := by omega
    rw [zL_X11_nearestToBlend_6_s, zL_X12_nearest_22_s]
    unfold zB_X11_nearestToBlend_6 zB_X12_nearest_22 zJ_X11_nearestToBlend_55 zJ_X11_nearestToBlend_60 zJ_X12_nearest_71 zF_X10_many
    simp only [zf_lq]
    have Sg : sta ld g b0 := sta_A S (fun a b u v => f a b (by omega))
    rw [hl, f (ld + 1) 3 (by omega), S.1.1, fh 140 0 (by decide) (by decide) (by decide), Q 140 0 (by decide) (by decide), if_pos hl5, if_pos hl5, of_w h0' (by omega)]
    have v := sa_len Sg.1 h0' hl5
    have zv := ln_w hld (w := l5.toNat) (by omega)
    have e1 : g 133 1 = N := (f _ _ (by decide)).trans e133
    obtain ⟨g4, e4, f4⟩ := changes_A (g0 := g) (q1 := 133) (q2 := ld + 10 + 2 * l5.toNat) (by omega) (by omega) (by rw [e1, show zf_ln 133 = 16 from rfl]; omega) (by rw [zv, v.1]; omega) (by rw [e1]; omega) (by rw [v.1]; omega)
    rw [e1, v.1, edr_c (p := p) (q := wt b0 l5) (lp := N) (lq := b0 142 l5.toNat) (fun i hi => (f _ _ (by decide)).trans (t133 i hi)) (fun j hj => wt_A Sg.1 h0' hl5 hj) _ _ (by omega) (by omega)] at e4
    rw [e4]
    have E5 : edr p (wt b0 l5) N.toNat (b0 142 l5.toNat).toNat = dw b0 p N l5 := rfl
    rw [E5]
    have bd := edr_b (p := p) (q := wt b0 l5) N.toNat (b0 142 l5.toNat).toNat
    rw [E5] at bd
    have h142 : h 142 l5.toNat = b0 142 l5.toNat := (fh _ _ (by decide) (by decide) (by omega)).trans (Q _ _ (by decide) (by decide))
    obtain ⟨h6, e6, t6, f6⟩ := winto_B (q1 := 158) (nq := 16) (b0 := h) (w := l5) (by decide) h0' (by rw [h142]; exact v.2.2)
    rw [h142] at e6 t6
    rw [e6]
    unfold zf_m2
    dsimp only
    have o7 : ∀ a b : Nat, a ≠ 158 → ¬ (a = 137 ∧ b = 37) → mz_up h6 137 37 (b0 142 l5.toNat) a b = h a b := fun a b z1 z2 => (mz_up_ne z2).trans (f6 a b z1)
    have e37 : mz_up h6 137 37 (b0 142 l5.toNat) 137 37 = b0 142 l5.toNat := mz_up_at ..
    have t7 : ∀ j : Nat, (j : Int) < b0 142 l5.toNat → mz_up h6 137 37 (b0 142 l5.toNat) 158 j = wt b0 l5 j := fun j hj => (up_k (by decide)).trans ((t6 j hj).trans ((fh _ _ (by decide) (by decide) (by omega)).trans (Q _ _ (by decide) (by decide))))
    generalize mz_up h6 137 37 (b0 142 l5.toNat) = h7 at *
    have p36 : h7 137 36 = N := (o7 _ _ (by decide) (by decide)).trans ((fh _ _ (by decide) (by decide) (by decide)).trans e36)
    have s157 : ∀ j : Nat, (j : Int) < N → h7 157 j = p j := fun j hj => (o7 _ _ (by decide) (by omega)).trans ((fh _ _ (by decide) (by decide) (by omega)).trans (t157 j hj))
    obtain ⟨h9, e9, f9⟩ := compared_B (g0 := h7) (a1 := 1) (by rw [p36]; omega) (by rw [e37]; omega) (by rw [p36]; omega) (by rw [e37]; omega)
    rw [p36, e37] at e9
    have e9' : zF_X12_compared 1 h7 = (dw b0 p N l5, h9) := by
      rw [e9]
      unfold tb dw
      rw [if_neg (by decide), edr_c (lp := N) (lq := b0 142 l5.toNat) s157 t7 _ _ (by omega) (by omega)]
    rw [e9']
    dsimp only
    have fa : tA gA g4 := fun a b z => (f4 a b z).trans (f a b z)
    have fb : ∀ a b : Nat, a ≠ 158 → a ≠ 159 → ¬ (a = 137 ∧ b = 37) → h9 a b = h0 a b := fun a b z1 z2 z3 => (f9 a b z2).trans ((o7 a b z1 z3).trans (fh a b z1 z2 z3))
    have N1 : ∀ (l1' l2' l3' l4' : Int), (0 ≤ l1' ∧ l1' < l5 + 1 ∧ l3' = l1' ∧ l2' = dw b0 p N l1' ∧ l4' = dw b0 p N l1') → ∃ r g1 h1, zL_X11_nearestToBlend_6 x k1 l1' l2' (l5 + 1) g4 = (r, g1) ∧ zL_X12_nearest_22 a1 a2 k2 l3' l4' (l5 + 1) h9 = (if a2 = 0 then dw b0 p N r else r, h1) ∧ (0 ≤ r ∧ r < b0 140 0) ∧ tA gA g1 ∧ ∀ a b : Nat, a ≠ 158 → a ≠ 159 → ¬ (a = 137 ∧ b = 37) → h1 a b = h0 a b := fun l1' l2' l3' l4' I' => ih k1 k2 l1' l2' l3' l4' (l5 + 1) g4 h9 (by omega) (by omega) (by omega) (by omega) (by omega) fa fb (Or.inr I')
    rcases I with ⟨y1, y2, y3, y4⟩ | ⟨y1, y2, y3, y4, y5⟩
    · rw [if_pos y1, if_pos (by omega)]
      exact N1 l5 _ l5 _ ⟨h0', by omega, rfl, rfl, rfl⟩
    · rw [if_neg (by omega), y4, y5]
      by_cases z : dw b0 p N l5 < dw b0 p N l1
      · rw [if_pos z, if_pos z]
        exact N1 l5 _ l5 _ ⟨h0', by omega, rfl, rfl, rfl⟩
      · rw [if_neg z, if_neg z]
        exact N1 l1 _ l3 _ ⟨y1, by omega, y3, rfl, rfl⟩
theorem then_a (hx : mk_x x) (K : kr gB) (k : ru x gA gB) {a1 a2 a3 : Int} : ka (zF_X11_then x a1 a2 a3 gA) (zF_X12_then a1 a2 a3 gB) := by
  have hld : x.1 = 1 ∨ x.1 = 41 := by unfold mk_x at hx; omega
  have k1 := ru_2 (v := 0) k
  have K1 : kr (mz_up gB 137 2 0) := kr_e (g0 := gB) (fun a b u v => up_k (by omega)) K
  unfold zF_X11_then zF_X12_then zJ_X11_then_21 zJ_X11_then_22 zJ_X12_then_25 zJ_X12_then_101 zJ_X12_then_104
  simp only [zf_lq]
  rw [isT_A, isT_B, isI_B, isI_B]
  generalize hb : mz_up gB 137 2 0 = b1 at *
  have c0 : b1 137 2 = 0 := by rw [← hb, mz_up_at]
  clear k hb
  have n2 : gA 87 2 = b1 140 1 := k1.2.2.2.1.1.1
  rw [n2, mb_0, mb_1]
  by_cases ht : 0 ≤ a1 ∧ a1 < b1 140 1
  · obtain ⟨-, ⟨e0, e1, e2, e3, e4⟩, vv, ss, tt, t6⟩ := now_t k1 ht.1 ht.2
    have e87 : gA 87 3 = b1 137 30 := k1.2.2.2.1.1.2.1
    have dd : 0 ≤ b1 137 30 ∧ b1 137 30 ≤ 999 := k1.2.2.2.1.1.2.2.2.1
    rw [if_pos ht, i10, i10]
    by_cases h3 : 0 ≤ a3 ∧ a3 ≤ 3
    · rw [if_neg (show ¬ a3 < 0 by omega), if_neg (show ¬ 3 < a3 by omega), if_pos h3, i10, isAh_A]
      by_cases h2 : 0 ≤ a2 ∧ a2 ≤ 60
      · rw [if_pos h2, mf_1, i10, get_A ht.1 t6, e2]
        obtain ⟨g7, eg, ⟨w0, w1, w3, w4⟩, wf⟩ := probe_A (s := b1 155 a1.toNat) hld k1.2.1 ht.1 t6 e0 e1 e3 e4 vv tt e87 dd.1 dd.2 h2.1 h2.2
        rw [eg]
        have vg : vt b1 (b1 153 a1.toNat) (b1 154 a1.toNat) (ga b1 a2.toNat a1.toNat) := (gnd_b tt a2.toNat _ (b1 137 30) vv (sp := b1 155 a1.toNat)).1
        have w3' : g7 122 3 = ga b1 a2.toNat a1.toNat := w3
        have S7 := fp_S hld k1.2.1 wf
        have nb := bn_b S7.1 vg
        obtain ⟨s1, s2, s3⟩ := store_B (g := b1) (q := 162) (nq := 25) (p := 0) (by omega) (by decide)
        have q := qk_sto (q := 162) (g := b1) (Or.inl rfl)
        have o : ∀ a b : Nat, a ≠ 162 → zF_X12_store 162 25 0 b1 a b = b1 a b := fun a b z => s3 a b (fun y => z y.1)
        generalize zF_X12_store 162 25 0 b1 = h0 at *
        have Kh := kr_e q.1 K1
        obtain ⟨gg, gd, gf⟩ := goOn_B Kh.1 Kh.2.1 Kh.2.2 h2.1 (by omega)
        have q2 := qk_go K1 (Or.inl rfl) h2.1 (by omega) q
        have c2 : zF_X12_goOn a2 h0 137 2 = 0 := (go_2 Kh h2.1 (by omega)).trans ((o _ _ (by decide)).trans c0)
        have H0 : zF_X12_goOn a2 h0 152 a1.toNat = ga b1 a2.toNat a1.toNat := by
          rw [gg a1.toNat (by rw [o _ _ (by decide)]; omega), gnd_c q.1, o _ _ (by decide), o _ _ (by decide), o _ _ (by decide), o _ _ (by decide), o _ _ (by decide), o _ _ (by decide)]
          rfl
        have H1 : zF_X12_goOn a2 h0 153 a1.toNat = b1 153 a1.toNat := (gf _ _ (by unfold fw_dy; omega)).trans (o _ _ (by decide))
        have H2 : zF_X12_goOn a2 h0 154 a1.toNat = b1 154 a1.toNat := (gf _ _ (by unfold fw_dy; omega)).trans (o _ _ (by decide))
        generalize zF_X12_goOn a2 h0 = h at *
        by_cases y0 : a3 = 0
        · rw [if_pos y0, if_pos y0]
          exact ka_0 ((rec_2 (Or.inl rfl)).trans c2) (w3'.trans H0.symm)
        · rw [if_neg y0, if_neg y0]
          by_cases y1 : a3 = 1
          · rw [if_pos y1, if_pos y1, bsize_n S7.1 w0 w1 w3' vg, bsize_m q2.1 H1 H2 H0]
            exact ka_0 ((rec_2 (Or.inl rfl)).trans c2) rfl
          · rw [if_neg y1, if_neg y1]
            obtain ⟨n1, en, t⟩ := blend_A hld (q := 133) (by decide) rfl S7 (q1 := 122) ⟨by decide, by decide⟩ w0 w1 w3' vg
            generalize zF_X1_blendInto x.1 122 133 g7 = g8 at *
            obtain ⟨g1, e, tb1, f1⟩ := blend_B (q1 := 157) (nq := 16) (by decide) (sta_B k1.2.1 q2.1).1 (vt_of q2.1 vg) H1 H2 H0
            rw [bn_c q2.1] at tb1 e
            obtain ⟨N, hN⟩ : ∃ N, bn b1 (b1 153 a1.toNat) (b1 154 a1.toNat) (ga b1 a2.toNat a1.toNat) = N := ⟨_, rfl⟩
            rw [hN] at tb1 en nb e
            have S8 : sta x.1 g8 b1 := bt_S hld (by decide) S7 t
            have f3 : ∀ a b : Nat, a ≠ 157 → ¬ (a = 137 ∧ b = 36) → mz_up g1 137 36 N a b = h a b := fun a b z1 z2 => (mz_up_ne z2).trans (f1 a b z1)
            have e36 : mz_up g1 137 36 N 137 36 = N := mz_up_at ..
            have t157 : ∀ i : Nat, (i : Int) < N → mz_up g1 137 36 N 157 i = bc b1 (b1 153 a1.toNat) (b1 154 a1.toNat) (ga b1 a2.toNat a1.toNat) i := fun i hi => (up_k (by decide)).trans ((tb1 i hi).trans (bc_c q2.1))
            have M : ∀ c : Int, ∃ r g4 h4, zF_X11_nearestToBlend x g8 = (r, g4) ∧ zF_X12_nearest a1 c h = (if c = 0 then dw b1 (bc b1 (b1 153 a1.toNat) (b1 154 a1.toNat) (ga b1 a2.toNat a1.toNat)) N r else r, h4) ∧ (0 ≤ r ∧ r < b1 140 0) ∧ tA g8 g4 ∧ h4 137 2 = 0 := fun c => by
              unfold zF_X11_nearestToBlend zF_X12_nearest
              rw [e]
              unfold zf_m2
              dsimp only
              simp only [zf_lq]
              generalize mz_up g1 137 36 N = h3 at *
              obtain ⟨r, g4, h4, u1, u2, u3, u4, u5⟩ := near_l (x := x) hld (by have := vv.1; have := vv.2.1; omega) (n1 := n1) (p := bc b1 (b1 153 a1.toNat) (b1 154 a1.toNat) (ga b1 a2.toNat a1.toNat)) en (by omega) rfl S8 (by rw [t.1, en]) (fun i hi => t.2.1 i (by omega)) (h0 := h3) (fun a b z1 z2 => (f3 a b (by omega) (by omega)).trans (q2.1 a b z1 z2)) e36 t157 (a1 := a1) (a2 := c) (b1 140 0 - 0).toNat 3000000000 3000000000 (-1) 0 (-1) 100000 0 g8 h3 rfl (by have := S8.1.2.2.1; omega) (by have := S8.1.2.2.1; omega) (by decide) (by have := vv.1; have := vv.2.1; omega) (fun _ _ _ => rfl) (fun _ _ _ _ _ => rfl) (Or.inl ⟨rfl, rfl, rfl, rfl⟩)
              exact ⟨r, g4, h4, u1, u2, u3, u4, (u5 _ _ (by decide) (by decide) (by decide)).trans ((f3 _ _ (by decide) (by decide)).trans c2)⟩
            by_cases y2 : a3 = 2
            · obtain ⟨r, g4, h4, u1, u2, u3, u4, u5⟩ := M 1
              rw [if_pos y2, u1, u2]
              unfold zf_m2
              dsimp only
              rw [if_pos y2, if_neg (by decide)]
              exact ka_0 ((rec_2 (Or.inl rfl)).trans u5) rfl
            · obtain ⟨r, g4, h4, u1, u2, u3, u4, u5⟩ := M 0
              rw [if_neg y2, u1, u2]
              unfold zf_m2
              dsimp only
              rw [if_neg y2, if_pos rfl, of_w u3.1 (by have := S8.1.2.2.1; omega)]
              have S4 : sta x.1 g4 b1 := sta_A S8 (fun a b u v => u4 a b (by omega))
              have v := sa_len S4.1 u3.1 u3.2
              have zv := ln_w hld (w := r.toNat) (by have := S8.1.2.2.1; omega)
              have e1' : g4 133 1 = N := (u4 _ _ (by decide)).trans (by rw [t.1, en])
              obtain ⟨g5, e5, -⟩ := changes_A (g0 := g4) (q1 := 133) (q2 := x.1 + 10 + 2 * r.toNat) (by omega) (by have := S8.1.2.2.1; omega) (by rw [e1', show zf_ln 133 = 16 from rfl]; omega) (by rw [zv, v.1]; omega) (by rw [e1']; omega) (by rw [v.1]; omega)
              rw [e1', v.1, edr_c (p := bc b1 (b1 153 a1.toNat) (b1 154 a1.toNat) (ga b1 a2.toNat a1.toNat)) (q := wt b1 r) (lp := N) (lq := b1 142 r.toNat) (fun i hi => (u4 _ _ (by decide)).trans (t.2.1 i (by omega))) (fun j hj => wt_A S4.1 u3.1 u3.2 hj) _ _ (by omega) (by omega)] at e5
              rw [e5]
              exact ka_0 ((rec_2 (Or.inl rfl)).trans u5) rfl
      · rw [if_neg h2, mf_0, i00]
        exact ka_fail (c := 2) rfl (by decide)
    · rw [if_neg h3, i00]
      by_cases y : a3 < 0
      · rw [if_pos y]
        exact ka_fail (c := 1) rfl (by decide)
      · rw [if_neg y, if_pos (show 3 < a3 by omega)]
        exact ka_fail (c := 1) rfl (by decide)
  · rw [if_neg ht, i00, i00]
    exact ka_fail (c := 1) rfl (by decide)
end WK
