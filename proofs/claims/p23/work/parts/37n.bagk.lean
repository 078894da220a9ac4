/-! A BAGGAGE keeps the state of both -/
section YD
variable {x : mm_X} {g gA gA' gB gB' : mz_G} {ld : Nat} {d : Int}
theorem J77f {a1 : Int} (h : g 81 1 ≠ 0) : zJ_X11_baggage_77 x a1 g = (0, g 81 1, mz_up (mz_up g 0 0 (g 81 2)) 100 0 (mz_wrap (g 100 0 + 1)), x) := by
  unfold zJ_X11_baggage_77 zF_X4_place zF_X4_faultKind
  simp only [zf_lq]
  rw [if_neg (fun z => h ((up_k (by decide)).symm.trans z)), refuse_A (by decide) (by decide)]
  unfold zf_m2
  have e1 : mz_up g 0 0 (g 81 2) 100 0 = g 100 0 := up_k (by decide)
  have e2 : mz_up (mz_up g 0 0 (g 81 2)) 100 0 (mz_wrap (g 100 0 + 1)) 81 1 = g 81 1 := (up_k (by decide)).trans (up_k (by decide))
  show (0, mz_up (mz_up g 0 0 (g 81 2)) 100 0 (mz_wrap (mz_up g 0 0 (g 81 2) 100 0 + 1)) 81 1, mz_up (mz_up g 0 0 (g 81 2)) 100 0 (mz_wrap (mz_up g 0 0 (g 81 2) 100 0 + 1)), x) = _
  rw [e1, e2]
theorem J99f {a1 : Int} (h : g 137 22 ≠ 0) : zJ_X12_baggage_99 a1 g = (g 137 22, mz_up (mz_up g 137 24 (g 137 23)) 150 0 (mz_wrap (g 150 0 + 1))) := by
  unfold zJ_X12_baggage_99
  simp only [zf_lq]
  rw [if_neg h]
  have e1 : mz_up g 137 24 (g 137 23) 150 0 = g 150 0 := up_k (by decide)
  have e2 : mz_up (mz_up g 137 24 (g 137 23)) 150 0 (mz_wrap (g 150 0 + 1)) 137 22 = g 137 22 := (up_k (by decide)).trans (up_j (by decide))
  show (mz_up (mz_up g 137 24 (g 137 23)) 150 0 (mz_wrap (mz_up g 137 24 (g 137 23) 150 0 + 1)) 137 22, mz_up (mz_up g 137 24 (g 137 23)) 150 0 (mz_wrap (mz_up g 137 24 (g 137 23) 150 0 + 1))) = _
  rw [e1, e2]
theorem bag_nf {a1 : Int} (h : ¬ (0 ≤ a1 ∧ a1 ≤ gA 82 1)) (e : gA 82 1 = gB 137 15) : zF_X11_baggage x a1 gA = (2, 0, gA, x) ∧ zF_X12_baggage a1 gB = (0, mz_up (mz_up gB 137 2 0) 137 2 1) := by
  constructor
  · unfold zF_X11_baggage zJ_X11_baggage_22
    simp only [zf_lq]
    have J : zJ_X11_baggage_23 x a1 0 gA = (2, 0, gA, x) := rfl
    rw [J]
    by_cases h0 : a1 < 0
    · rw [if_pos h0]
    · rw [if_neg h0, if_pos (by omega)]
  · unfold zF_X12_baggage zJ_X12_baggage_17 zF_X12_fail zf_m2
    simp only [zf_lq]
    have e1 : mz_up gB 137 2 0 137 15 = gB 137 15 := up_j (by decide)
    by_cases h0 : a1 < 0
    · rw [if_pos h0]
    · rw [if_neg h0, e1, if_pos (by omega)]
/-- a text that is at fault -/
theorem ru_fault (hx : mk_x x) (I : mz_inv gB) (I' : mz_inv gB') (k : ru x gA gB) (fA : mz_fr (ba_ x.2.1) gA gA') (a82 : gA' 82 1 = 0) (aD : gA' (x.2.1 + 26) 3 = gA (x.2.1 + 26) 3) (fB : mz_fr bb_ gB gB') (b15 : gB' 137 15 = 0) (L : lk_k gB gB') (e : gB' 137 23 = gA' 81 2) : ru x (mz_up (mz_up gA' 0 0 (gA' 81 2)) 100 0 (mz_wrap (gA' 100 0 + 1))) (mz_up (mz_up gB' 137 24 (gB' 137 23)) 150 0 (mz_wrap (gB' 150 0 + 1))) := by
  have kx := kn_x hx
  have hx1 := hx
  unfold mk_x at hx1
  obtain ⟨⟨t1, t2, ⟨t3, t4⟩, t5, t6, t7⟩, k2, k3, ⟨s1, s2, s3, s4⟩, k5, k6⟩ := id k
  have n6 := k3.1.2
  have oA : ∀ a b : Nat, ¬ ba_ x.2.1 a b → ¬ (a = 0 ∧ b = 0) → ¬ (a = 100 ∧ b = 0) → mz_up (mz_up gA' 0 0 (gA' 81 2)) 100 0 (mz_wrap (gA' 100 0 + 1)) a b = gA a b := fun a b u v w => by
    rw [mz_up_ne w, mz_up_ne v]; exact fA a b u
  have oB : ∀ a b : Nat, ¬ bb_ a b → ¬ (a = 150 ∧ b = 0) → mz_up (mz_up gB' 137 24 (gB' 137 23)) 150 0 (mz_wrap (gB' 150 0 + 1)) a b = gB a b := fun a b u v => by
    rw [mz_up_ne v, mz_up_ne (by unfold bb_ at u; omega)]; exact fB a b u
  have pB : ∀ a b : Nat, a ≠ 150 → ¬ (a = 137 ∧ b = 24) → mz_up (mz_up gB' 137 24 (gB' 137 23)) 150 0 (mz_wrap (gB' 150 0 + 1)) a b = gB' a b := fun a b u v => by
    rw [up_k u, mz_up_ne v]
  have hs : su_e gB' (mz_up (mz_up gB' 137 24 (gB' 137 23)) 150 0 (mz_wrap (gB' 150 0 + 1))) := fun a b u v => pB a b (by omega) (by omega)
  have S0 := sx_L k2.1.2.2.1 n6 L
  have S1 : sx_e gB (mz_up (mz_up gB' 137 24 (gB' 137 23)) 150 0 (mz_wrap (gB' 150 0 + 1))) := by
    have q := sx_of hs
    refine ⟨q.1.trans S0.1, fun a b c v => q.2.1 a b c (S0.2.1 a b c v), fun t ht => ?_⟩
    rw [q.2.2 t (by rw [S0.1]; exact ht)]
    exact S0.2.2 t ht
  have a0 : gA' 100 0 = gA 100 0 := fA _ _ (by unfold ba_; omega)
  have b0 : gB' 150 0 = gB 150 0 := fB _ _ (by unfold bb_; omega)
  have e7 : mz_up (mz_up gA' 0 0 (gA' 81 2)) 100 0 (mz_wrap (gA' 100 0 + 1)) 0 7 = gA 0 7 := oA _ _ (by unfold ba_; omega) (by omega) (by omega)
  refine ⟨⟨fun q i hq => ?_, fun q i hq => ?_, ⟨?_, fun j => ?_⟩, ?_, ?_, ?_⟩, ?_, ⟨?_, fun t ht => ?_⟩, ⟨?_, ?_, ?_, fun i hi => ?_⟩, ?_, fun z => ⟨?_, ?_, ?_, ?_⟩⟩
  · rw [oA _ _ (by unfold ba_; omega) (by omega) (by omega)]; exact t1 q i hq
  · rw [oB _ _ (by unfold bb_; omega) (by omega)]; exact t2 q i hq
  · rw [up_k (by decide), up_k (by decide), a82, pB _ _ (by decide) (by decide), b15]
  · rw [oA _ _ (by unfold ba_; omega) (by omega) (by omega), oB _ _ (by unfold bb_; omega) (by omega)]; exact t4 j
  · rw [up_k (by decide), mz_up_at, up_k (by decide), mz_up_at, e]
  · rw [up_k (by decide), up_k (by decide)]
    by_cases c : x.2.1 = 1
    · rw [c] at aD; exact aD.trans t6
    · rw [fA _ _ (by unfold ba_; omega)]; exact t6
  · rw [up_k (by decide), up_k (by decide)]
    by_cases c : x.2.1 = 41
    · rw [c] at aD; exact aD.trans t7
    · rw [fA _ _ (by unfold ba_; omega)]; exact t7
  · exact sta_B (sta_L hx I I' L (sta_A k2 (fun a b u v => oA a b (by unfold ba_; omega) (by omega) (by omega)))) hs
  · rw [S1.1]; exact k3.1
  · rw [S1.1] at ht
    rw [S1.2.2 t ht]
    exact k3.2 t ht
  · exact sy_n_c (V := sy_c gB) S1 (oA _ _ (by unfold ba_; omega) (by omega) (by omega)) (oA _ _ (by unfold ba_; omega) (by omega) (by omega)) (fun t j ht _ => oA _ _ (by unfold ba_; omega) (by omega) (by omega)) (oB _ _ (by unfold bb_; omega) (by omega)) (fun t _ => ⟨oB 153 t (by unfold bb_; omega) (by omega), oB 154 t (by unfold bb_; omega) (by omega), oB 155 t (by unfold bb_; omega) (by omega), oB 152 t (by unfold bb_; omega) (by omega)⟩) s1
  · exact sy_a_c S1 n6 (oA _ _ (by unfold ba_; omega) (by omega) (by omega)) (oA _ _ (by unfold ba_; omega) (by omega) (by omega)) (fun j _ => oA _ _ (by unfold ba_; omega) (by omega) (by omega)) (oB _ _ (by unfold bb_; omega) (by omega)) (fun j _ => oB _ _ (by unfold bb_; omega) (by omega)) s2
  · exact sy_s_c S1 (oA _ _ (by unfold ba_; omega) (by omega) (by omega)) (fun j _ => ⟨oA _ _ (by unfold ba_; omega) (by omega) (by omega), oA _ _ (by unfold ba_; omega) (by omega) (by omega), oA _ _ (by unfold ba_; omega) (by omega) (by omega)⟩) (oB _ _ (by unfold bb_; omega) (by omega)) (fun j _ => ⟨oB _ _ (by unfold bb_; omega) (by omega), oB _ _ (by unfold bb_; omega) (by omega), oB _ _ (by unfold bb_; omega) (by omega)⟩) s3
  · by_cases c : i = 0
    · rw [c, mz_up_at, mz_up_at, a0, b0, s4 0 (by decide)]
    · rw [oA _ _ (by unfold ba_; omega) (by omega) (by omega), oB _ _ (by unfold bb_; omega) (by omega)]
      exact s4 i hi
  · rw [e7, oB _ _ (by unfold bb_; omega) (by omega)]; exact k5
  · rw [e7] at z
    exact sy_n_c (V := sy_w gB 173 0) S1 (oA _ _ (by unfold ba_; omega) (by omega) (by omega)) (oA _ _ (by unfold ba_; omega) (by omega) (by omega)) (fun t j ht _ => oA _ _ (by unfold ba_; omega) (by omega) (by omega)) (oB _ _ (by unfold bb_; omega) (by omega)) (fun t _ => ⟨oB 173 _ (by unfold bb_; omega) (by omega), oB 173 _ (by unfold bb_; omega) (by omega), oB 173 _ (by unfold bb_; omega) (by omega), oB 173 _ (by unfold bb_; omega) (by omega)⟩) (k6 z).1
  · rw [e7] at z
    exact sy_a_c S1 n6 (oA _ _ (by unfold ba_; omega) (by omega) (by omega)) (oA _ _ (by unfold ba_; omega) (by omega) (by omega)) (fun j _ => oA _ _ (by unfold ba_; omega) (by omega) (by omega)) (oB _ _ (by unfold bb_; omega) (by omega)) (fun j _ => oB _ _ (by unfold bb_; omega) (by omega)) (k6 z).2.1
  · rw [e7] at z
    exact sy_s_c S1 (oA _ _ (by unfold ba_; omega) (by omega) (by omega)) (fun j _ => ⟨oA _ _ (by unfold ba_; omega) (by omega) (by omega), oA _ _ (by unfold ba_; omega) (by omega) (by omega), oA _ _ (by unfold ba_; omega) (by omega) (by omega)⟩) (oB _ _ (by unfold bb_; omega) (by omega)) (fun j _ => ⟨oB _ _ (by unfold bb_; omega) (by omega), oB _ _ (by unfold bb_; omega) (by omega), oB _ _ (by unfold bb_; omega) (by omega)⟩) (k6 z).2.2.1
  · rw [e7] at z
    exact sy_r_c (fun j _ => oA _ _ (by unfold ba_; omega) (by omega) (by omega)) (fun j _ => oB _ _ (by unfold bb_; omega) (by omega)) (k6 z).2.2.2
/-- a text without a fault -/
theorem ru_fine (hx : mk_x x) (I : mz_inv gA') (I' : mz_inv gB') (k : ru x gA gB) (fA : mz_fr (ba_ x.2.1) gA gA') (a82 : gA' 82 1 = 0) (aD : gA' (x.2.1 + 26) 3 = gA (x.2.1 + 26) 3) (fB : mz_fr bb_ gB gB') (b15 : gB' 137 15 = 0) (b24 : gB' 137 24 = -1) (a2 : gA' 81 2 = -1) (td : td_k x.2.1 gA' gB' d) (ti : mz_TI gB' d) (h22 : gB' 137 22 = 0) : ru ((x.2.1, x.1, x.2.2) : mm_X) (mz_up (zF_X6_beginWith 86 (x.2.1 + 26) (zF_X10_settle (x.2.1 + 1) 85 2048 (mz_up gA' 0 0 (gA' 81 2)))) 0 7 0) (zF_X12_takeOver gB') := by
  have kx := kn_x hx
  have hx1 := hx
  unfold mk_x at hx1
  have hld : x.2.1 = 1 ∨ x.2.1 = 41 := by omega
  obtain ⟨⟨t1, t2, ⟨t3, t4⟩, t5, t6, t7⟩, -, -, ⟨-, -, -, s4⟩, -, -⟩ := id k
  obtain ⟨iB, pv, fT, ⟨v140, v141, v142, v144, v149⟩, v30, vt6, v31, v32, v53⟩ := over_B hx I' ti h22
  generalize zF_X12_takeOver gB' = B2 at *
  obtain ⟨⟨w1, w2, w3, w4⟩, ⟨u1, u2, u3, u4⟩, ⟨h1, h2, h3, h4⟩, ⟨r1, r2, r3⟩, -⟩ := td
  have z0 : B2 140 0 = gB' 140 4 := v140 0 (by decide)
  have z1 : B2 140 1 = gB' 140 5 := v140 1 (by decide)
  have z2 : B2 140 2 = gB' 140 6 := v140 2 (by decide)
  have z3 : B2 140 3 = gB' 140 7 := v140 3 (by decide)
  have iA : mz_inv (mz_up gA' 0 0 (gA' 81 2)) := by
    rw [a2]
    exact mz_inv_up I (q := 0) (k := 0) (v := -1) bd_0_0 (by decide) (by decide)
  have o1 : ∀ a b : Nat, a ≠ 0 → mz_up gA' 0 0 (gA' 81 2) a b = gA' a b := fun a b u => up_k u
  have p00 : mz_up gA' 0 0 (gA' 81 2) 0 0 = -1 := (mz_up_at ..).trans a2
  have p07 : mz_up gA' 0 0 (gA' 81 2) 0 7 = gA' 0 7 := up_j (by decide)
  generalize mz_up gA' 0 0 (gA' 81 2) = A1 at *
  have W : sa_w x.2.1 A1 B2 := by
    refine ⟨by rw [o1 _ _ (by omega), z0]; exact w1, by rw [z0]; exact w2, by rw [z0]; exact w3, fun i hi => ?_⟩
    rw [z0] at hi
    obtain ⟨y1, y2, y3, y4, y5⟩ := w4 i hi
    obtain ⟨q1, q2, -⟩ := v142 i (by omega)
    rw [o1 _ _ (by omega), o1 (x.2.1 + 5) _ (by omega), q1, q2]
    refine ⟨y1, y2, y3, fun j hj => ?_, y5⟩
    rw [o1 _ _ (by omega), v141 _ (by omega), show 64 + (8 * i + j) = 64 + 8 * i + j by omega]
    exact y4 j hj
  have ho : ∀ a b : Int, 0 ≤ a → a ≤ 7 → 0 ≤ b → b ≤ 7 → 0 ≤ mz_ov (B2 141) (B2 142) a b ∧ mz_ov (B2 141) (B2 142) a b ≤ 7 := fun a b a0 a7 b0 b7 => by
    obtain ⟨r, l, u, e, -, -⟩ := q_X12_overlapOf hx iB a0 a7 b0 b7
    rw [← e]
    exact ⟨l, u⟩
  obtain ⟨f2, ov⟩ := settle_A hx hld iA W ho
  generalize zF_X10_settle (x.2.1 + 1) 85 2048 A1 = A2 at *
  have o2 : ∀ a b : Nat, a ≠ 0 → ¬ (x.2.1 + 6 ≤ a ∧ a ≤ x.2.1 + 9) → a ≠ 85 → ¬ (a = x.2.1 + 1 ∧ (b = 8 ∨ b = 9)) → A2 a b = gA' a b := fun a b u v w z => (f2 a b (by omega) (by omega) (by omega) (by omega) w z).trans (o1 a b u)
  have ST : sta x.2.1 A2 B2 := by
    refine ⟨?_, fun i j hi hj => ?_, ⟨?_, ?_, ?_, fun i hi => ?_⟩, ?_, ?_, ?_, fun i hi => ⟨?_, pv_28 pv hi⟩, pv⟩
    · obtain ⟨e1, e2, e3, e4⟩ := W
      refine ⟨by rw [f2 _ _ (by omega) (by omega) (by omega) (by omega) (by omega) (by omega)]; exact e1, e2, e3, fun i hi => ?_⟩
      obtain ⟨y1, y2, y3, y4, y5⟩ := e4 i hi
      rw [f2 _ _ (by omega) (by omega) (by omega) (by omega) (by omega) (by omega), f2 (x.2.1 + 5) _ (by omega) (by omega) (by omega) (by omega) (by omega) (by omega)]
      refine ⟨y1, y2, y3, fun j hj => ?_, y5⟩
      rw [f2 _ _ (by omega) (by omega) (by omega) (by omega) (by omega) (by omega)]
      exact y4 j hj
    · rw [ov i j hi hj, ov_B hx iB (by omega) (by have := W.2.2.1; omega) (by omega) (by have := W.2.2.1; omega)]
    · rw [o2 _ _ (by omega) (by omega) (by omega) (by omega), z2]; exact h1
    · rw [z2]; exact h2
    · rw [z2]; exact h3
    · rw [z2] at hi
      rw [o2 _ _ (by omega) (by omega) (by omega) (by omega), (v142 i (by omega)).2.2]
      exact (h4 i hi).1
    · rw [o2 _ _ (by omega) (by omega) (by omega) (by omega), z3]; exact r1
    · rw [z3]; exact r2
    · have := (mz_rd iB (q := 140) (k := 3) (lo := 0) (hi := 700) rfl).2
      exact this
    · have hi7 : i < 700 := by have := (mz_rd iB (q := 140) (k := 3) (lo := 0) (hi := 700) rfl).2; omega
      rw [z3] at hi
      rw [o2 _ _ (by omega) (by omega) (by omega) (by omega), v149 i hi7]
      exact r3 i hi
  have c2 : A2 (x.2.1 + 26) 2 = gB' 140 5 := (o2 _ _ (by omega) (by omega) (by omega) (by omega)).trans u1
  obtain ⟨c3, c4, c5, c6⟩ := copyAll_A (g := A2) (T := 87) (U := x.2.1 + 26) (by omega) (by rw [c2]; exact u2) (by rw [c2]; exact u3)
  have eb : zF_X6_beginWith 86 (x.2.1 + 26) A2 = mz_up (mz_up (mz_up (zF_X9_copyAll 87 (x.2.1 + 26) A2) 86 2 0) 86 3 0) 86 7 0 := by
    unfold zF_X6_beginWith
    simp only [zf_lq]
  rw [eb]
  clear eb
  generalize zF_X9_copyAll 87 (x.2.1 + 26) A2 = A3 at *
  rw [c2] at c3 c5
  have o4 : ∀ a b : Nat, ¬ (a = 86 ∧ (b = 2 ∨ b = 3 ∨ b = 7)) → ¬ (a = 0 ∧ b = 7) → mz_up (mz_up (mz_up (mz_up A3 86 2 0) 86 3 0) 86 7 0) 0 7 0 a b = A3 a b := fun a b u v => by
    rw [mz_up_ne v, mz_up_ne (by omega), mz_up_ne (by omega), mz_up_ne (by omega)]
  have g862 : mz_up (mz_up (mz_up (mz_up A3 86 2 0) 86 3 0) 86 7 0) 0 7 0 86 2 = 0 := by rw [up_k (by decide), up_j (by decide), up_j (by decide), mz_up_at]
  have g863 : mz_up (mz_up (mz_up (mz_up A3 86 2 0) 86 3 0) 86 7 0) 0 7 0 86 3 = 0 := by rw [up_k (by decide), up_j (by decide), mz_up_at]
  have g867 : mz_up (mz_up (mz_up (mz_up A3 86 2 0) 86 3 0) 86 7 0) 0 7 0 86 7 = 0 := by rw [up_k (by decide), mz_up_at]
  have g07 : mz_up (mz_up (mz_up (mz_up A3 86 2 0) 86 3 0) 86 7 0) 0 7 0 0 7 = 0 := mz_up_at ..
  generalize mz_up (mz_up (mz_up (mz_up A3 86 2 0) 86 3 0) 86 7 0) 0 7 0 = A4 at *
  have o5 : ∀ a b : Nat, ¬ (86 ≤ a ∧ a ≤ 95) → ¬ (a = 0 ∧ b = 7) → A4 a b = A2 a b := fun a b u v => (o4 a b (by omega) v).trans (c6 a b (by omega) (by omega))
  have o6 : ∀ a b : Nat, ¬ (86 ≤ a ∧ a ≤ 95) → a ≠ 0 → ¬ (x.2.1 + 6 ≤ a ∧ a ≤ x.2.1 + 9) → a ≠ 85 → ¬ (a = x.2.1 + 1 ∧ (b = 8 ∨ b = 9)) → A4 a b = gA' a b := fun a b u v w y z => (o5 a b u (by omega)).trans (o2 a b v w y z)
  have oT : ∀ a b : Nat, ¬ (140 ≤ a ∧ a ≤ 149) → ¬ (152 ≤ a ∧ a ≤ 155) → ¬ (a = 137 ∧ (b = 30 ∨ b = 31 ∨ b = 32 ∨ b = 53)) → B2 a b = gB' a b := fun a b u v w => fT a b (by unfold fw_X12_takeOver; omega)
  refine ⟨⟨fun q i hq => ?_, fun q i hq => ?_, ⟨?_, fun j => ?_⟩, ?_, ?_, ?_⟩, ?_, ⟨by rw [z1]; exact ⟨u2, u3⟩, fun t ht => ?_⟩, ⟨⟨?_, ?_, fun t ht => ?_, ?_, fun t ht => ?_⟩, ⟨?_, ?_, ?_, fun i hi => ?_⟩, ⟨?_, ?_, fun i hi => ?_⟩, fun i hi => ?_⟩, ?_, fun z => ?_⟩
  · rw [o6 _ _ (by omega) (by omega) (by omega) (by omega) (by omega), fA _ _ (by unfold ba_; omega)]; exact t1 q i hq
  · rw [oT _ _ (by omega) (by omega) (by omega), fB _ _ (by unfold bb_; omega)]; exact t2 q i hq
  · rw [o6 _ _ (by omega) (by omega) (by omega) (by omega) (by omega), a82, oT _ _ (by omega) (by omega) (by omega), b15]
  · rw [o6 _ _ (by omega) (by omega) (by omega) (by omega) (by omega), fA _ _ (by unfold ba_; omega), oT _ _ (by omega) (by omega) (by omega), fB _ _ (by unfold bb_; omega)]; exact t4 j
  · rw [o5 _ _ (by omega) (by omega), f2 _ _ (by omega) (by omega) (by omega) (by omega) (by omega) (by omega), p00, oT _ _ (by omega) (by omega) (by omega), b24]
  · rw [o6 _ _ (by omega) (by omega) (by omega) (by omega) (by omega)]
    by_cases c : x.2.1 = 1
    · rw [c] at aD; exact aD.trans t6
    · rw [fA _ _ (by unfold ba_; omega)]; exact t6
  · rw [o6 _ _ (by omega) (by omega) (by omega) (by omega) (by omega)]
    by_cases c : x.2.1 = 41
    · rw [c] at aD; exact aD.trans t7
    · rw [fA _ _ (by unfold ba_; omega)]; exact t7
  · exact sta_A (ld := x.2.1) ST (fun a b u v => o5 a b (by omega) (by omega))
  · rw [z1] at ht
    rw [v144 t (by omega)]
    exact (u4 t ht).2.2.2.2.2.2.2.2
  · rw [o4 _ _ (by omega) (by omega), c3, z1]
  · rw [o4 _ _ (by omega) (by omega), c4, o2 _ _ (by omega) (by omega) (by omega) (by omega), aD, v30]
    rcases hld with e | e <;> rw [e]
    · exact t6
    · exact t7
  · rw [z1] at ht
    obtain ⟨y0, y1, y2, y4, y3, -⟩ := u4 t ht
    obtain ⟨m0, m1⟩ := vt6 t (by omega)
    obtain ⟨m3, m4, m5⟩ := m1 ht
    have E : ∀ j : Nat, j < 5 → A4 (87 + 3 + t) j = gA' (x.2.1 + 29 + t) j := fun j hj => by
      rw [o4 _ _ (by omega) (by omega), c5 t j ht hj, show x.2.1 + 26 + 3 + t = x.2.1 + 29 + t by omega]
      exact o2 _ _ (by omega) (by omega) (by omega) (by omega)
    rw [E 0 (by decide), E 1 (by decide), E 2 (by decide), E 3 (by decide), E 4 (by decide), v144 t (by omega)]
    exact ⟨y0.trans m3.symm, y1.trans m4.symm, y2.trans m5.symm, y3.trans m0.symm, y4⟩
  · rw [v30]; decide
  · rw [z1] at ht
    obtain ⟨-, -, -, -, -, ⟨q1, q2⟩, ⟨q3, q4⟩, ⟨q5, q6⟩, -⟩ := u4 t ht
    obtain ⟨m0, m1⟩ := vt6 t (by omega)
    obtain ⟨m3, m4, m5⟩ := m1 ht
    show vt B2 (B2 153 t) (B2 154 t) (B2 152 t) ∧ 0 ≤ B2 155 t ∧ B2 155 t ≤ 9
    rw [m0, m3, m4, m5]
    have fb := fu_b (gB := B2) W (a := gB' 145 (6 + t)) (b := gB' 146 (6 + t)) q1 (by rw [z0]; exact q2) q3 (by rw [z0]; exact q4)
    exact ⟨⟨q1, by rw [z0]; exact q2, q3, by rw [z0]; exact q4, Int.le_refl 0, by omega⟩, q5, q6⟩
  · rw [g863, v31]
  · rw [v31]; decide
  · rw [g862]; decide
  · rw [v31] at hi; omega
  · rw [g867, v32]
  · rw [v32]; decide
  · rw [v32] at hi; omega
  · rw [o6 _ _ (by omega) (by omega) (by omega) (by omega) (by omega), fA _ _ (by unfold ba_; omega), oT _ _ (by omega) (by omega) (by omega), fB _ _ (by unfold bb_; omega)]; exact s4 i hi
  · rw [g07, v53]; exact ⟨rfl, Or.inl rfl⟩
  · rw [g07] at z
    exact absurd z (by decide)
/-- what a baggage's two answers are to each other -/
def kb (p : zf_TX) (q : Int × mz_G) : Prop := ru p.2.2.2 p.2.2.1 q.2 ∧ ((p.1 = 0 ∧ q.2 137 2 = 0 ∧ p.2.1 = q.1) ∨ (p.1 = 2 ∧ q.2 137 2 = 1))
theorem bag_kk (hx : mk_x x) (I : mz_inv gA) (IB : mz_inv gB) (k : ru x gA gB) {a1 : Int} : kb (zF_X11_baggage x a1 gA) (zF_X12_baggage a1 gB) := by
  obtain ⟨⟨t1, t2, ⟨t3, t4⟩, -⟩, -⟩ := id k
  have hR : mz_cb gA = mz_rb gB := funext fun a => by
    unfold mz_cb mz_rb
    exact t4 _
  by_cases hf : 0 ≤ a1 ∧ a1 ≤ gA 82 1
  · obtain ⟨gA', gB', r1, r2, r3, r4, r5, ⟨f1, f2, f3⟩, ⟨f4, f5, f6, f7⟩, L⟩ := bag_2 hx I IB t1 t2 hR hf.1 hf.2 (by rw [← t3]; exact hf.2)
    rw [r1, r2]
    rcases r5 with ⟨d, lk, td, ti⟩ | ff
    · obtain ⟨c1, c2, c3, c4⟩ := J77_fine (x := x) (a1 := a1) lk.2.2.2.1.1
      obtain ⟨d1, d2⟩ := J99_fine (a1 := a1) lk.2.2.2.2
      unfold kb
      rw [c1, c2, c3, c4, d1, d2]
      exact ⟨ru_fine hx r3 r4 k f1 f2 f3 f4 f5 f6 lk.2.2.2.1.2 td ti lk.2.2.2.2, Or.inl ⟨rfl, (takeOver_24 hx r4 ti lk.2.2.2.2).2.trans f7, rfl⟩⟩
    · have hb : gB' 137 22 ≠ 0 := by rw [ff.2.1]; exact ff.1
      unfold kb
      rw [J77f ff.1, J99f hb]
      exact ⟨ru_fault hx IB r4 k f1 f2 f3 f4 f5 L ff.2.2, Or.inl ⟨rfl, by dsimp only; rw [up_k (by decide), up_j (by decide)]; exact f7, ff.2.1.symm⟩⟩
  · obtain ⟨e1, e2⟩ := bag_nf (x := x) hf t3
    unfold kb
    rw [e1, e2]
    exact ⟨ru_2 (ru_2 k), Or.inr ⟨rfl, by dsimp only; rw [mz_up_at]⟩⟩
end YD
