/-! ANSWERS (19): loose -/
/-- of trunks ahead of one: how many straps -/
noncomputable def tt_ (b0 : mz_G) : Nat → Nat
  | 0 => 0
  | t + 1 => tt_ b0 t + cn (fb b0 t) 10
/-- ahead of a trunk and a strap -/
def bf (t v t1 v1 : Nat) : Prop := t1 < t ∨ (t1 = t ∧ v1 < v)
def fx (b0 : mz_G) (t v t1 v1 : Nat) : Prop := v1 ≤ 9 ∧ fb b0 t1 v1 = true ∧ bf t v t1 v1
/-- the reference's list so far -/
def lf (b0 : mz_G) (t v : Nat) (g : mz_G) : Prop := g 137 50 = ((tt_ b0 t + cn (fb b0 t) v : Nat) : Int) ∧ (∀ i : Nat, (i : Int) < g 137 50 → ∃ t1 v1 : Nat, g 170 i = 10 * (t1 : Int) + v1 ∧ fx b0 t v t1 v1) ∧ (∀ t1 v1 : Nat, fx b0 t v t1 v1 → ∃ i : Nat, (i : Int) < g 137 50 ∧ g 170 i = 10 * (t1 : Int) + v1) ∧ (0 < g 137 50 → ∀ t1 v1 : Nat, fx b0 t v t1 v1 → g 170 0 ≤ 10 * (t1 : Int) + v1)
/-- the first one so far -/
def f1_ (b0 : mz_G) (t : Nat) (w : Int) : Prop := (w = -1 ∧ ∀ t1 v1 : Nat, ¬ fx b0 t 0 t1 v1) ∨ (∃ t1 v1 : Nat, w = 10 * (t1 : Int) + v1 ∧ fx b0 t 0 t1 v1 ∧ ∀ t2 v2 : Nat, fx b0 t 0 t2 v2 → w ≤ 10 * (t2 : Int) + v2)
section WJ2
variable {x : mm_X} {g g0 g1 gA gB b0 h h0 : mz_G} {ld : Nat}
theorem tt_b {t : Nat} : tt_ b0 t ≤ 10 * t := by
  induction t with
  | zero => exact Nat.le_refl _
  | succ t ih =>
    have := cn_b (f := fb b0 t) 10
    unfold tt_
    omega
theorem sb_of (k0 : ru x gA b0) : sb_ b0 := by
  obtain ⟨-, s2, s3⟩ := k0.2.2.2.1.2.2.1
  exact ⟨s2.1, s2.2, fun i hi => (s3 i hi).2.2.2⟩
/-- as the told state, but for one strap -/
def ho (b0 h : mz_G) (t : Nat) : Prop := su_e b0 h ∧ h 137 30 = b0 137 30 ∧ h 137 32 = b0 137 32 ∧ (∀ j : Nat, h 166 j = b0 166 j ∧ h 167 j = b0 167 j ∧ h 168 j = b0 168 j) ∧ ∀ u : Nat, u < 6 → h 152 u = b0 152 u ∧ h 153 u = b0 153 u ∧ h 154 u = b0 154 u ∧ (u ≠ t → h 155 u = b0 155 u)
theorem so_k {t : Nat} (H : ho b0 h t) (B : sb_ b0) (c6 : b0 140 1 ≤ 6) {k w : Nat} (hk : (k : Int) < b0 137 32) (hw : b0 166 k = (w : Int)) : so h k ↔ sk b0 w (h 155 w) k := by
  obtain ⟨H1, H2, H3, H4, H5⟩ := H
  obtain ⟨⟨b1, b2⟩, -, -⟩ := B.2.2 k hk
  have w6 : w < 6 := by omega
  obtain ⟨e2, e3, e4, -⟩ := H5 w w6
  obtain ⟨j1, j2, j3⟩ := H4 k
  unfold so sk ga
  rw [j1, j2, j3, hw, show ((w : Nat) : Int).toNat = w from rfl, gnd_c H1, bn_c H1, H1 144 _ (by decide) (by decide), e2, e3, e4, H2]
theorem isa_h {t v : Nat} (K : kr h) (H : ho b0 h t) (B : sb_ b0) (c6 : b0 140 1 ≤ 6) (ht : (t : Int) < b0 140 1) (hv : h 155 t = (v : Int)) : ((okt b0 t v ∧ ∀ u : Nat, (u : Int) < b0 140 1 → u ≠ t → okt b0 u (b0 155 u)) → (zF_X12_isAsSeen h).1 = 1) ∧ (¬ (okt b0 t v ∧ ∀ u : Nat, (u : Int) < b0 140 1 → u ≠ t → okt b0 u (b0 155 u)) → (zF_X12_isAsSeen h).1 = 0) := by
  have BH : sb_ h := by
    obtain ⟨H1, H2, H3, H4, H5⟩ := H
    refine ⟨by rw [H3]; exact B.1, by rw [H3]; exact B.2.1, fun k hk => ?_⟩
    rw [H3] at hk
    rw [(H4 k).1, (H4 k).2.1, H1 140 1 (by decide) (by decide)]
    exact B.2.2 k hk
  obtain ⟨s1, s2⟩ := svs K BH
  have n := H.2.2.1
  have E : (∀ j : Nat, (j : Int) < h 137 32 → so h j) ↔ (okt b0 t v ∧ ∀ u : Nat, (u : Int) < b0 140 1 → u ≠ t → okt b0 u (b0 155 u)) := by
    rw [n]
    constructor
    · intro z
      refine ⟨fun k hk hw => ?_, fun u hu ut k hk hw => ?_⟩
      · have := (so_k H B c6 hk hw).mp (z k hk)
        rw [hv] at this
        exact this
      · have := (so_k H B c6 hk hw).mp (z k hk)
        rw [(H.2.2.2.2 u (by omega)).2.2.2 ut] at this
        exact this
    · rintro ⟨z1, z2⟩ k hk
      obtain ⟨⟨b1, b2⟩, -, -⟩ := B.2.2 k hk
      obtain ⟨w, hw⟩ : ∃ w : Nat, b0 166 k = (w : Int) := ⟨(b0 166 k).toNat, by omega⟩
      refine (so_k H B c6 hk hw).mpr ?_
      by_cases e : w = t
      · rw [e, hv]
        rw [e] at hw
        exact z1 k hk hw
      · rw [(H.2.2.2.2 w (by omega)).2.2.2 e]
        exact z2 w (by omega) e k hk hw
  exact ⟨fun z => s1 (E.mpr z), fun z => s2 (fun w => z (E.mp w))⟩
theorem lf_add {t v : Nat} (hv : v ≤ 9) (z : fb b0 t v = true) (l : lf b0 t v g) (h0 : 0 ≤ g 137 50) : lf b0 t (v + 1) (mz_up (mz_up g 170 (g 137 50).toNat (10 * (t : Int) + v)) 137 50 (g 137 50 + 1)) := by
  obtain ⟨l1, l2, l3, l4⟩ := l
  have e50 : mz_up (mz_up g 170 (g 137 50).toNat (10 * (t : Int) + v)) 137 50 (g 137 50 + 1) 137 50 = g 137 50 + 1 := mz_up_at ..
  have e170 : ∀ i : Nat, mz_up (mz_up g 170 (g 137 50).toNat (10 * (t : Int) + v)) 137 50 (g 137 50 + 1) 170 i = if i = (g 137 50).toNat then 10 * (t : Int) + v else g 170 i := fun i => by
    rw [up_k (by decide)]
    by_cases y : i = (g 137 50).toNat
    · rw [if_pos y, y, mz_up_at]
    · rw [if_neg y, up_j y]
  unfold lf
  simp only [e50, e170]
  refine ⟨by rw [l1, cn_y z]; omega, fun i hi => ?_, fun t1 v1 f => ?_, fun _ t1 v1 f => ?_⟩
  · by_cases y : i = (g 137 50).toNat
    · rw [if_pos y]
      exact ⟨t, v, rfl, hv, z, Or.inr ⟨rfl, by omega⟩⟩
    · rw [if_neg y]
      obtain ⟨t1, v1, a, b, c, d⟩ := l2 i (by omega)
      refine ⟨t1, v1, a, b, c, ?_⟩
      rcases d with d | d
      · exact Or.inl d
      · exact Or.inr ⟨d.1, by omega⟩
  · obtain ⟨f1, f2, f3⟩ := f
    by_cases y : t1 = t ∧ v1 = v
    · refine ⟨(g 137 50).toNat, by omega, ?_⟩
      rw [if_pos rfl, y.1, y.2]
    · obtain ⟨i, a, b⟩ := l3 t1 v1 ⟨f1, f2, by
        rcases f3 with d | d
        · exact Or.inl d
        · exact Or.inr ⟨d.1, by omega⟩⟩
      refine ⟨i, by omega, ?_⟩
      rw [if_neg (by omega)]
      exact b
  · obtain ⟨f1, f2, f3⟩ := f
    by_cases w : g 137 50 = 0
    · rw [if_pos (by omega)]
      by_cases y : t1 = t ∧ v1 = v
      · rw [y.1, y.2]
        exact Int.le_refl _
      · obtain ⟨i, a, b⟩ := l3 t1 v1 ⟨f1, f2, by
          rcases f3 with d | d
          · exact Or.inl d
          · exact Or.inr ⟨d.1, by omega⟩⟩
        omega
    · rw [if_neg (by omega)]
      by_cases y : t1 = t ∧ v1 = v
      · obtain ⟨t2, v2, a, b, c, d⟩ := l2 0 (by omega)
        rw [a, y.1, y.2]
        rcases d with d | d
        · omega
        · omega
      · exact l4 (by omega) t1 v1 ⟨f1, f2, by
          rcases f3 with d | d
          · exact Or.inl d
          · exact Or.inr ⟨d.1, by omega⟩⟩
theorem lf_no {t v : Nat} (z : ¬ fb b0 t v = true) (l : lf b0 t v g) : lf b0 t (v + 1) g := by
  obtain ⟨l1, l2, l3, l4⟩ := l
  have N : ∀ t1 v1 : Nat, fx b0 t (v + 1) t1 v1 → fx b0 t v t1 v1 := fun t1 v1 f => by
    obtain ⟨f1, f2, f3⟩ := f
    refine ⟨f1, f2, ?_⟩
    rcases f3 with d | d
    · exact Or.inl d
    · refine Or.inr ⟨d.1, ?_⟩
      rcases (by omega : v1 < v ∨ v1 = v) with e | e
      · exact e
      · rw [d.1, e] at f2
        exact absurd f2 z
  refine ⟨by rw [l1, (ms_no z).2], fun i hi => ?_, fun t1 v1 f => l3 t1 v1 (N t1 v1 f), fun w t1 v1 f => l4 w t1 v1 (N t1 v1 f)⟩
  obtain ⟨t1, v1, a, b, c, d⟩ := l2 i hi
  refine ⟨t1, v1, a, b, c, ?_⟩
  rcases d with d | d
  · exact Or.inl d
  · exact Or.inr ⟨d.1, by omega⟩
theorem lf_nx {t : Nat} (l : lf b0 t 10 g) : lf b0 (t + 1) 0 g := by
  obtain ⟨l1, l2, l3, l4⟩ := l
  have N : ∀ t1 v1 : Nat, fx b0 (t + 1) 0 t1 v1 ↔ fx b0 t 10 t1 v1 := fun t1 v1 => by
    constructor
    · rintro ⟨f1, f2, f3⟩
      refine ⟨f1, f2, ?_⟩
      rcases f3 with d | d
      · rcases (by omega : t1 < t ∨ t1 = t) with e | e
        · exact Or.inl e
        · exact Or.inr ⟨e, by omega⟩
      · omega
    · rintro ⟨f1, f2, f3⟩
      refine ⟨f1, f2, Or.inl ?_⟩
      rcases f3 with d | d
      · omega
      · omega
  refine ⟨by rw [l1]; rfl, fun i hi => ?_, fun t1 v1 f => l3 t1 v1 ((N t1 v1).mp f), fun w t1 v1 f => l4 w t1 v1 ((N t1 v1).mp f)⟩
  obtain ⟨t1, v1, a, b⟩ := l2 i hi
  exact ⟨t1, v1, a, (N t1 v1).mpr b⟩
theorem lf_fr {t v : Nat} (l : lf b0 t v g) (e1 : g1 137 50 = g 137 50) (e2 : ∀ i : Nat, g1 170 i = g 170 i) : lf b0 t v g1 := by
  unfold lf at l ⊢
  rw [e1]
  simp only [e2]
  exact l
/-- the reference's search of one trunk -/
theorem tfi_v (K : kr b0) (B : sb_ b0) (S : sn_b b0) {t : Nat} (ht : (t : Int) < b0 140 1) {w2 : Int} : ∀ (m k v : Nat) (g : mz_G), 10 - v = m → m < k → v ≤ 10 → tf t w2 b0 g → lf b0 t v g → w2 = b0 155 t → lf b0 t 10 (zL_X12_tellFits_26 k (t : Int) w2 (v : Int) g) := by
  have c6 := K.2.2
  intro m
  induction m with
  | zero =>
    intro k v g hm hk hv T l e2
    obtain ⟨k, rfl⟩ : ∃ k1, k = k1 + 1 := ⟨k - 1, by omega⟩
    rw [zL_X12_tellFits_26_s]
    unfold zB_X12_tellFits_26
    rw [if_pos (by omega)]
    have e : v = 10 := by omega
    rw [e] at l
    exact l
  | succ m ih =>
    intro k v g hm hk hv T l e2
    obtain ⟨k, rfl⟩ : ∃ k1, k = k1 + 1 := ⟨k - 1, by omega⟩
    rw [zL_X12_tellFits_26_s]
    unfold zB_X12_tellFits_26 zJ_X12_tellFits_79
    simp only [zf_lq]
    rw [if_neg (by omega), show ((t : Nat) : Int).toNat = t from rfl]
    have t4 : tf t w2 b0 (mz_up g 155 t (v : Int)) := ⟨by rw [up_up]; exact T.1, fun a b z1 z2 z3 => (mz_up_ne (by unfold fz at z1; omega)).trans (T.2 a b z1 z2 z3)⟩
    have v4 : mz_up g 155 t (v : Int) 155 t = (v : Int) := mz_up_at ..
    have l4 : lf b0 t v (mz_up g 155 t (v : Int)) := lf_fr l (up_k (by decide)) (fun i => up_k (by decide))
    generalize mz_up g 155 t (v : Int) = g4 at *
    by_cases y : (v : Int) = w2
    · rw [if_pos y]
      have r := ih k (v + 1) g4 (by omega) (by omega) (by omega) t4 (lf_no (fun w => (fb_t.mp w).1 (y.trans e2)) l4) e2
      rw [show ((v + 1 : Nat) : Int) = (v : Int) + 1 by omega] at r
      exact r
    · rw [if_neg y]
      have K4 : kr g4 := kr_e (g0 := b0) (fun a b u z => t4.2 a b (by unfold fz; omega) (by omega) (by omega)) K
      have w4 : sn_b g4 := ⟨by rw [t4.2 _ _ (by unfold fz; omega) (by omega) (by omega)]; exact S.1, fun j => by rw [t4.2 _ _ (by unfold fz; omega) (by omega) (by omega)]; exact S.2 j⟩
      have f4 := t4.2
      have H : ho b0 g4 t := by
        refine ⟨fun a b u z => f4 a b (by unfold fz; omega) (by omega) (by omega), ?_, f4 _ _ (by unfold fz; omega) (by omega) (by omega), fun j => ⟨f4 _ _ (by unfold fz; omega) (by omega) (by omega), f4 _ _ (by unfold fz; omega) (by omega) (by omega), f4 _ _ (by unfold fz; omega) (by omega) (by omega)⟩, fun u hu => ?_⟩
        · have := t4.1.1
          rw [mz_up_ne (by omega)] at this
          exact this
        · obtain ⟨q0, q1, q2, q3⟩ := t4.1.2 u hu
          rw [mz_up_ne (by omega)] at q0 q1 q2
          refine ⟨q0, q1, q2, fun z => ?_⟩
          rw [mz_up_ne (by omega)] at q3
          exact q3
      obtain ⟨i1, i2⟩ := isa_h K4 H B c6 ht v4
      obtain ⟨s1, s2⟩ := seen_s K4 w4
      generalize zF_X12_isAsSeen g4 = p at *
      obtain ⟨v5, g6⟩ := p
      unfold zf_m2
      dsimp only at *
      have t6 : tf t w2 b0 g6 := ⟨sm_tr t4.1 (sm_up s1), fun a b z1 z2 z3 => (s2 a b z1).trans (t4.2 a b z1 z2 z3)⟩
      have l6 : lf b0 t v g6 := lf_fr l4 (s2 _ _ (by unfold fz; omega)) (fun i => s2 _ _ (by unfold fz; omega))
      by_cases z : okt b0 t v ∧ ∀ u : Nat, (u : Int) < b0 140 1 → u ≠ t → okt b0 u (b0 155 u)
      · rw [i1 z, i10]
        have fbt : fb b0 t v = true := fb_t.mpr ⟨fun w => y (w.trans e2.symm), z⟩
        have h0 : 0 ≤ g6 137 50 := by rw [l6.1]; omega
        have e50 : mz_up g6 170 (g6 137 50).toNat (10 * (t : Int) + (v : Int)) 137 50 = g6 137 50 := up_k (by decide)
        rw [e50]
        have r := ih k (v + 1) _ (by omega) (by omega) (by omega) (tf_up (Or.inr ⟨rfl, rfl⟩) (tf_up (Or.inl rfl) t6)) (lf_add (by omega) fbt l6 h0) e2
        rw [show ((v + 1 : Nat) : Int) = (v : Int) + 1 by omega] at r
        exact r
      · rw [i2 z, i00]
        have r := ih k (v + 1) g6 (by omega) (by omega) (by omega) t6 (lf_no (fun w => z (fb_t.mp w).2) l6) e2
        rw [show ((v + 1 : Nat) : Int) = (v : Int) + 1 by omega] at r
        exact r
theorem tfo_v (K : kr b0) (B : sb_ b0) (S : sn_b b0) : ∀ (m k t : Nat) (g : mz_G), (b0 140 1 - (t : Int)).toNat = m → m < k → (t : Int) ≤ b0 140 1 → ff b0 g → lf b0 t 0 g → lf b0 (b0 140 1).toNat 0 (zL_X12_tellFits_7 k (t : Int) g) := by
  have c6 := K.2.2
  intro m
  induction m with
  | zero =>
    intro k t g hm hk ht F l
    obtain ⟨k, rfl⟩ : ∃ k1, k = k1 + 1 := ⟨k - 1, by omega⟩
    rw [zL_X12_tellFits_7_s]
    unfold zB_X12_tellFits_7
    simp only [zf_lq]
    rw [F.2 140 1 (by unfold fz; omega) (by omega) (by omega), if_neg (by omega), show (b0 140 1).toNat = t by omega]
    exact l
  | succ m ih =>
    intro k t g hm hk ht F l
    obtain ⟨k, rfl⟩ : ∃ k1, k = k1 + 1 := ⟨k - 1, by omega⟩
    have htn : (t : Int) < b0 140 1 := by omega
    rw [zL_X12_tellFits_7_s]
    unfold zB_X12_tellFits_7
    simp only [zf_lq]
    rw [F.2 140 1 (by unfold fz; omega) (by omega) (by omega), if_pos htn, show ((t : Nat) : Int).toNat = t from rfl]
    have e5 : g 155 t = b0 155 t := (F.1.2 t (by omega)).2.2.2
    rw [e5]
    have T0 : tf t (b0 155 t) b0 g := ⟨sm_tr F.1 (sm_fr fun a b _ => by
      by_cases y : a = 155 ∧ b = t
      · rw [y.1, y.2, mz_up_at, e5]
      · rw [mz_up_ne y]), F.2⟩
    have T := fits_i (l1 := (t : Int)) (l2 := b0 155 t) (v := b0 155 t) K S (10 - 0 : Int).toNat 3000000000 0 g rfl (by decide) T0
    have L := tfi_v K B S htn (10 - 0) 3000000000 0 g rfl (by decide) (by decide) T0 l rfl
    rw [show ((0 : Nat) : Int) = 0 from rfl] at L
    rw [show ((t : Nat) : Int).toNat = t from rfl] at T
    generalize zL_X12_tellFits_26 3000000000 (t : Int) (b0 155 t) 0 g = g11 at *
    have r := ih k (t + 1) (mz_up g11 155 t (b0 155 t)) (by omega) (by omega) (by omega) ⟨T.1, fun a b z1 z2 z3 => (mz_up_ne (by unfold fz at z1; omega)).trans (T.2 a b z1 z2 z3)⟩ (lf_nx (lf_fr L (up_k (by decide)) (fun i => up_k (by decide))))
    rw [show ((t + 1 : Nat) : Int) = (t : Int) + 1 by omega] at r
    exact r
theorem tf_v (K : kr b0) (B : sb_ b0) (S : sn_b b0) (n0 : 0 ≤ b0 140 1) : lf b0 (b0 140 1).toNat 0 (zF_X12_tellFits b0) := by
  have c6 := K.2.2
  unfold zF_X12_tellFits
  simp only [zf_lq]
  have N : ∀ t1 v1 : Nat, ¬ fx b0 0 0 t1 v1 := fun t1 v1 f => by
    rcases f.2.2 with d | d
    · omega
    · omega
  have r := tfo_v K B S (b0 140 1 - ((0 : Nat) : Int)).toNat 3000000000 0 (mz_up b0 137 50 0) rfl (by omega) (by omega) ⟨sm_fr (fun a b z => mz_up_ne (by omega)), fun a b z1 z2 z3 => mz_up_ne z2⟩ ⟨mz_up_at .., fun i hi => by rw [mz_up_at] at hi; omega, fun t1 v1 f => absurd f (N t1 v1), fun _ t1 v1 f => absurd f (N t1 v1)⟩
  exact r
/-- the class's sum and first one -/
theorem fx_s {t : Nat} (N : cn (fb b0 t) 10 = 0) (t1 v1 : Nat) : fx b0 (t + 1) 0 t1 v1 ↔ fx b0 t 0 t1 v1 := by
  constructor
  · rintro ⟨f1, f2, f3⟩
    refine ⟨f1, f2, ?_⟩
    rcases f3 with d | d
    · rcases (by omega : t1 < t ∨ t1 = t) with e | e
      · exact Or.inl e
      · rw [e] at f2
        have := (cn_p f2 10 (by omega)).1
        omega
    · omega
  · rintro ⟨f1, f2, f3⟩
    refine ⟨f1, f2, Or.inl ?_⟩
    rcases f3 with d | d
    · omega
    · omega
theorem cn_e {f : Nat → Bool} {n : Nat} (h : cn f n ≠ 0) : ∃ r : Nat, r < n ∧ f r = true ∧ ∀ v : Nat, v < r → ¬ f v = true := by
  induction n with
  | zero => exact absurd rfl h
  | succ n ih =>
    by_cases z : cn f n = 0
    · by_cases y : f n = true
      · refine ⟨n, by omega, y, fun v hv w => ?_⟩
        have := (cn_p w n hv).1
        omega
      · rw [(ms_no y).2] at h
        exact absurd z h
    · obtain ⟨r, a, b⟩ := ih z
      exact ⟨r, by omega, b⟩
theorem ms_cn {f : Nat → Bool} {n : Nat} : ms f n = 0 ↔ cn f n = 0 := by
  constructor
  · intro h
    by_cases z : cn f n = 0
    · exact z
    · obtain ⟨r, a, b, -⟩ := cn_e z
      have := (cn_p b n a).2
      omega
  · intro h
    by_cases z : ms f n = 0
    · exact z
    · refine (wi_cn0 n fun v hv => ?_).2
      rw [← Bool.not_eq_true]
      intro w
      have := (cn_p w n hv).1
      omega
theorem loo_l (hx : mk_x x) (k0 : ru x gA b0) {a1 : Int} : ∀ (m k t : Nat) (w : Int) (g : mz_G), (b0 140 1 - (t : Int)).toNat = m → m < k → (t : Int) ≤ b0 140 1 → fp x gA g → f1_ b0 t w → ∃ w1 g1, zL_X11_loose_49 x a1 k (ms (fo b0) (b0 140 1).toNat : Int) (tt_ b0 t : Int) w (t : Int) g = (0, if a1 = 0 then (tt_ b0 (b0 140 1).toNat : Int) else w1, g1) ∧ f1_ b0 (b0 140 1).toNat w1 := by
  have hld : x.1 = 1 ∨ x.1 = 41 := by unfold mk_x at hx; omega
  have c6 : b0 140 1 ≤ 6 := k0.2.2.1.1.2
  have n2 : gA 87 2 = b0 140 1 := k0.2.2.2.1.1.1
  intro m
  induction m with
  | zero =>
    intro k t w g hm hk ht f W
    obtain ⟨k, rfl⟩ : ∃ k1, k = k1 + 1 := ⟨k - 1, by omega⟩
    rw [zL_X11_loose_49_s]
    unfold zB_X11_loose_49 zF_X11_trunkCount
    simp only [zf_lq]
    rw [f 87 2 (by decide) (by omega) (by omega), n2, if_neg (by omega), show (b0 140 1).toNat = t by omega]
    refine ⟨w, g, ?_, W⟩
    by_cases y : a1 = 0
    · rw [if_pos y, if_pos y]
    · rw [if_neg y, if_neg y]
  | succ m ih =>
    intro k t w g hm hk ht f W
    obtain ⟨k, rfl⟩ : ∃ k1, k = k1 + 1 := ⟨k - 1, by omega⟩
    have htn : (t : Int) < b0 140 1 := by omega
    rw [zL_X11_loose_49_s]
    unfold zB_X11_loose_49 zJ_X11_loose_91 zF_X11_trunkCount
    simp only [zf_lq]
    obtain ⟨g8, e8, f8⟩ := lst_A hx k0 (t := (t : Int)) (by omega) htn f
    rw [show ((t : Nat) : Int).toNat = t from rfl] at e8
    rw [f 87 2 (by decide) (by omega) (by omega), n2, if_pos htn, e8]
    unfold zf_m2
    dsimp only
    have c10 := cn_b (f := fb b0 t) 10
    have tb := tt_b (b0 := b0) (t := t)
    rw [ms_bc 10 (by decide), mz_wrap_id ⟨by omega, by omega⟩]
    have N : ∀ w' : Int, f1_ b0 (t + 1) w' → ∃ w1 g1, zL_X11_loose_49 x a1 k (ms (fo b0) (b0 140 1).toNat : Int) ((tt_ b0 t : Int) + (cn (fb b0 t) 10 : Int)) w' ((t : Int) + 1) g8 = (0, if a1 = 0 then (tt_ b0 (b0 140 1).toNat : Int) else w1, g1) ∧ f1_ b0 (b0 140 1).toNat w1 := fun w' W' => by
      have r := ih k (t + 1) w' g8 (by omega) (by omega) (by omega) f8 W'
      rw [show ((t + 1 : Nat) : Int) = (t : Int) + 1 by omega, show ((tt_ b0 (t + 1) : Nat) : Int) = (tt_ b0 t : Int) + (cn (fb b0 t) 10 : Int) by show ((tt_ b0 t + cn (fb b0 t) 10 : Nat) : Int) = _; omega] at r
      exact r
    by_cases z : ms (fb b0 t) 10 = 0
    · rw [if_pos (by omega)]
      have zc := ms_cn.mp z
      refine N w ?_
      rcases W with ⟨w1, w2⟩ | ⟨t1, v1, w1, w2, w3⟩
      · exact Or.inl ⟨w1, fun t1 v1 q => w2 t1 v1 ((fx_s zc t1 v1).mp q)⟩
      · exact Or.inr ⟨t1, v1, w1, (fx_s zc t1 v1).mpr w2, fun t2 v2 q => w3 t2 v2 ((fx_s zc t2 v2).mp q)⟩
    · rw [if_neg (by omega)]
      obtain ⟨r, r1, r2, r3⟩ := cn_e (fun q => z (ms_cn.mpr q))
      by_cases y : w = -1
      · rw [if_pos y]
        have lw : zF_X11_lowestBit (ms (fb b0 t) 10 : Int) g8 = (r : Int) := by
          unfold zF_X11_lowestBit
          exact ms_low r2 r1 r3 (r - 0) 3000000000 0 rfl (by omega) (by omega)
        rw [lw]
        refine N _ (Or.inr ⟨t, r, rfl, ⟨by omega, r2, Or.inl (by omega)⟩, fun t2 v2 q => ?_⟩)
        rcases W with ⟨w1, w2⟩ | ⟨t1, v1, w1, w2, w3⟩
        · obtain ⟨q1, q2, q3⟩ := q
          rcases q3 with d | d
          · rcases (by omega : t2 < t ∨ t2 = t) with e | e
            · exact absurd ⟨q1, q2, Or.inl e⟩ (w2 t2 v2)
            · rw [e] at q2 ⊢
              rcases (by omega : v2 < r ∨ r ≤ v2) with u | u
              · exact absurd q2 (r3 v2 u)
              · omega
          · omega
        · omega
      · rw [if_neg y]
        refine N w ?_
        rcases W with ⟨w1, w2⟩ | ⟨t1, v1, w1, w2, w3⟩
        · exact absurd w1 y
        · obtain ⟨u1, u2, u3⟩ := w2
          have ut : t1 < t := by
            rcases u3 with d | d
            · exact d
            · omega
          refine Or.inr ⟨t1, v1, w1, ⟨u1, u2, Or.inl (by omega)⟩, fun t2 v2 q => ?_⟩
          obtain ⟨q1, q2, q3⟩ := q
          rcases q3 with d | d
          · rcases (by omega : t2 < t ∨ t2 = t) with e | e
            · exact w3 t2 v2 ⟨q1, q2, Or.inl e⟩
            · omega
          · omega
theorem loose_a (hx : mk_x x) (K : kr gB) (S : sn_b gB) (k : ru x gA gB) {a1 : Int} : ka (zF_X11_loose x a1 gA) (zF_X12_loose a1 gB) := by
  have hld : x.1 = 1 ∨ x.1 = 41 := by unfold mk_x at hx; omega
  have k1 := ru_2 (v := 0) k
  have K1 : kr (mz_up gB 137 2 0) := kr_e (g0 := gB) (fun a b u v => up_k (by omega)) K
  have S1 : sn_b (mz_up gB 137 2 0) := ⟨by rw [up_j (by decide)]; exact S.1, fun j => by rw [up_k (by decide)]; exact S.2 j⟩
  unfold zF_X11_loose zF_X12_loose zJ_X11_loose_13 zJ_X11_loose_14
  simp only [zf_lq]
  rw [isI_B, mb_0, mb_1]
  generalize hb : mz_up gB 137 2 0 = b1 at *
  have c0 : b1 137 2 = 0 := by rw [← hb, mz_up_at]
  clear k hb
  have c6 : b1 140 1 ≤ 6 := k1.2.2.1.1.2
  have n0 : 0 ≤ b1 140 1 := k1.2.2.1.1.1
  have n2 : gA 87 2 = b1 140 1 := k1.2.2.2.1.1.1
  by_cases h : 0 ≤ a1 ∧ a1 ≤ 2
  · rw [if_neg (show ¬ a1 < 0 by omega), if_neg (show ¬ 2 < a1 by omega), if_pos h, i10]
    obtain ⟨g4, e4, f4⟩ := fit_A hx k1 (g := gA) (fun _ _ _ _ _ => rfl)
    rw [e4]
    unfold zf_m2
    dsimp only
    by_cases y : a1 = 2
    · rw [if_pos y, if_pos y]
      unfold zF_X11_allTrunks zF_X11_trunkCount
      simp only [zf_lq]
      obtain ⟨n, hn⟩ : ∃ n : Nat, b1 140 1 = n := ⟨(b1 140 1).toNat, by omega⟩
      have l := ms_lt (f := fo b1) n
      have pw := Nat.pow_le_pow_right (n := 2) (by decide) (show n ≤ 6 by omega)
      have A := (al_6 ⟨n, by omega⟩ ⟨ms (fo b1) n, by omega⟩ l).2
      dsimp only at A
      rw [f4 87 2 (by decide) (by omega) (by omega), n2, hn, sh_7 ⟨n, by omega⟩, show ((n : Nat) : Int).toNat = n from rfl]
      obtain ⟨s1, s2⟩ := svs K1 (sb_of k1)
      obtain ⟨q1, q2⟩ := seen_s K1 S1
      generalize zF_X12_isAsSeen b1 = p at *
      obtain ⟨v5, g6⟩ := p
      dsimp only at s1 s2 q1 q2 ⊢
      have c2 : g6 137 2 = 0 := (q2 _ _ (by unfold fz; omega)).trans c0
      have H : ho b1 b1 6 := ⟨su_e_r b1, rfl, rfl, fun _ => ⟨rfl, rfl, rfl⟩, fun _ _ => ⟨rfl, rfl, rfl, fun _ => rfl⟩⟩
      have E : (∀ j : Nat, (j : Int) < b1 137 32 → so b1 j) ↔ ((ms (fo b1) n : Int) = ((2 ^ n : Nat) : Int) - 1) := by
        rw [A]
        constructor
        · intro z u hu
          refine (ms_bit n u.val hu).mpr (fo_t.mpr fun k hk hw => ?_)
          exact (so_k H (sb_of k1) c6 hk hw).mp (z k hk)
        · intro z k hk
          obtain ⟨⟨b1', b2'⟩, -, -⟩ := (sb_of k1).2.2 k hk
          obtain ⟨w, hw⟩ : ∃ w : Nat, b1 166 k = (w : Int) := ⟨(b1 166 k).toNat, by omega⟩
          exact (so_k H (sb_of k1) c6 hk hw).mpr (fo_t.mp ((ms_bit n w (by omega)).mp (z ⟨w, by omega⟩ (by dsimp only; omega))) k hk hw)
      by_cases z : (ms (fo b1) n : Int) = ((2 ^ n : Nat) : Int) - 1
      · rw [if_pos z, s1 (E.mpr z), i10]
        exact ka_0 c2 rfl
      · rw [if_neg z, s2 (fun w => z (E.mp w)), i00]
        exact ka_0 c2 rfl
    · rw [if_neg y, if_neg y]
      obtain ⟨w1, g1, e1, W⟩ := loo_l hx k1 (a1 := a1) (b1 140 1 - ((0 : Nat) : Int)).toNat 3000000000 0 (-1) g4 rfl (by omega) (by omega) f4 (Or.inl ⟨rfl, fun t1 v1 q => by
        rcases q.2.2 with d | d
        · omega
        · omega⟩)
      rw [show ((0 : Nat) : Int) = 0 from rfl, show ((tt_ b1 0 : Nat) : Int) = 0 from rfl] at e1
      rw [e1]
      have l := tf_v K1 (sb_of k1) S1 n0
      have F := fits_s K1 S1
      have c2 : zF_X12_tellFits b1 137 2 = 0 := (F.2 _ _ (by unfold fz; omega) (by omega) (by omega)).trans c0
      generalize zF_X12_tellFits b1 = g7 at *
      obtain ⟨l1, l2, l3, l4⟩ := l
      by_cases z : a1 = 0
      · rw [if_pos z, if_pos z]
        exact ka_0 c2 (by rw [l1]; rfl)
      · rw [if_neg z, if_neg z]
        rcases W with ⟨w2, w3⟩ | ⟨t1, v1, w2, w3, w4⟩
        · have e0 : g7 137 50 = 0 := by
            rcases (by omega : g7 137 50 = 0 ∨ g7 137 50 ≠ 0) with q | q
            · exact q
            · obtain ⟨t1, v1, a, b⟩ := l2 0 (by rw [l1] at q ⊢; omega)
              exact absurd b (w3 t1 v1)
          rw [if_pos e0]
          exact ka_0 c2 w2
        · obtain ⟨i, a, b⟩ := l3 t1 v1 w3
          rw [if_neg (by omega)]
          refine ka_0 c2 ?_
          have u1 := l4 (by omega) t1 v1 w3
          obtain ⟨t2, v2, a2, b2⟩ := l2 0 (by omega)
          have u2 := w4 t2 v2 b2
          omega
  · rw [if_neg h, i00]
    by_cases y : a1 < 0
    · rw [if_pos y]
      exact ka_fail (c := 1) rfl (by decide)
    · rw [if_neg y, if_pos (show 2 < a1 by omega)]
      exact ka_fail (c := 1) rfl (by decide)
end WJ2
