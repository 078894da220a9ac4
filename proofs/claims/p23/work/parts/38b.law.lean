/-! THE LAW'S RELATION: the state of both, in one heap, and what the class keeps of row and chain -/
def RR (x : mm_X) (g : mz_G) : Prop := ru x g g ∧ rwa x.1 g
/-- what a wrapper tells of the class's call -/
def wd (x : mm_X) (p : zf_T) (r : Int) (g1 : mz_G) (x1 : mm_X) : Prop := p.2.2 = g1 ∧ r = (p.1 : Int) ∧ (p.1 = 0 → x1.2.2.2.2.1 179 0 = Int64.ofInt p.2.1) ∧ x1.1 = x.1 ∧ x1.2.1 = x.2.1 ∧ 0 ≤ r ∧ r ≤ 2
def wb (p : zf_TX) (r : Int) (g1 : mz_G) (x1 : mm_X) : Prop := p.2.2.1 = g1 ∧ ((r = 0 ∧ p.1 = 0 ∧ x1.2.2.2.2.1 179 0 = Int64.ofInt p.2.1) ∨ (r = 1 ∧ p.1 = 2)) ∧ x1.1 = p.2.2.2.1 ∧ x1.2.1 = p.2.2.2.2.1
section RWB
variable {x : mm_X} {g gA gA' gB gB' : mz_G} {ld : Nat} {d : Int}
theorem rw_fine (hx : mk_x x) (I : mz_inv gA') (I' : mz_inv gB') (a2 : gA' 81 2 = -1) (td : td_k x.2.1 gA' gB' d) (ti : mz_TI gB' d) (h22 : gB' 137 22 = 0) : rwa x.2.1 (mz_up (zF_X6_beginWith 86 (x.2.1 + 26) (zF_X10_settle (x.2.1 + 1) 85 2048 (mz_up gA' 0 0 (gA' 81 2)))) 0 7 0) := by
  have kx := kn_x hx
  have hx1 := hx
  unfold mk_x at hx1
  have hld : x.2.1 = 1 ∨ x.2.1 = 41 := by omega
  obtain ⟨iB, pv, fT, ⟨v140, v141, v142, v144, v149⟩, v30, vt6, v31, v32, v53⟩ := over_B hx I' ti h22
  generalize zF_X12_takeOver gB' = B2 at *
  obtain ⟨⟨w1, w2, w3, w4⟩, ⟨u1, u2, u3, u4⟩, ⟨h1, h2, h3, h4⟩, ⟨r1, r2, r3⟩, -⟩ := td
  have z0 : B2 140 0 = gB' 140 4 := v140 0 (by decide)
  have z1 : B2 140 1 = gB' 140 5 := v140 1 (by decide)
  have z2 : B2 140 2 = gB' 140 6 := v140 2 (by decide)
  have z3 : B2 140 3 = gB' 140 7 := v140 3 (by decide)
  have iA : mz_inv (mz_up gA' 0 0 (gA' 81 2)) := by
    rw [a2]
    exact mz_inv_up I (q := 0) (k := 0) (v := -1) bd_0_0 (by decide) (by decide)
  have o1 : ∀ a b : Nat, a ≠ 0 → mz_up gA' 0 0 (gA' 81 2) a b = gA' a b := fun a b u => up_k u
  have p00 : mz_up gA' 0 0 (gA' 81 2) 0 0 = -1 := (mz_up_at ..).trans a2
  have p07 : mz_up gA' 0 0 (gA' 81 2) 0 7 = gA' 0 7 := up_j (by decide)
  generalize mz_up gA' 0 0 (gA' 81 2) = A1 at *
  have W : sa_w x.2.1 A1 B2 := by
    refine ⟨by rw [o1 _ _ (by omega), z0]; exact w1, by rw [z0]; exact w2, by rw [z0]; exact w3, fun i hi => ?_⟩
    rw [z0] at hi
    obtain ⟨y1, y2, y3, y4, y5⟩ := w4 i hi
    obtain ⟨q1, q2, -⟩ := v142 i (by omega)
    rw [o1 _ _ (by omega), o1 (x.2.1 + 5) _ (by omega), q1, q2]
    refine ⟨y1, y2, y3, fun j hj => ?_, y5⟩
    rw [o1 _ _ (by omega), v141 _ (by omega), show 64 + (8 * i + j) = 64 + 8 * i + j by omega]
    exact y4 j hj
  have ho : ∀ a b : Int, 0 ≤ a → a ≤ 7 → 0 ≤ b → b ≤ 7 → 0 ≤ mz_ov (B2 141) (B2 142) a b ∧ mz_ov (B2 141) (B2 142) a b ≤ 7 := fun a b a0 a7 b0 b7 => by
    obtain ⟨r, l, u, e, -, -⟩ := q_X12_overlapOf hx iB a0 a7 b0 b7
    rw [← e]
    exact ⟨l, u⟩
  obtain ⟨f2, ov⟩ := settle_A hx hld iA W ho
  have R := settle_R hld W ho
  generalize zF_X10_settle (x.2.1 + 1) 85 2048 A1 = A2 at *
  have o2 : ∀ a b : Nat, a ≠ 0 → ¬ (x.2.1 + 6 ≤ a ∧ a ≤ x.2.1 + 9) → a ≠ 85 → ¬ (a = x.2.1 + 1 ∧ (b = 8 ∨ b = 9)) → A2 a b = gA' a b := fun a b u v w z => (f2 a b (by omega) (by omega) (by omega) (by omega) w z).trans (o1 a b u)
  have c2 : A2 (x.2.1 + 26) 2 = gB' 140 5 := (o2 _ _ (by omega) (by omega) (by omega) (by omega)).trans u1
  obtain ⟨c3, c4, c5, c6⟩ := copyAll_A (g := A2) (T := 87) (U := x.2.1 + 26) (by omega) (by rw [c2]; exact u2) (by rw [c2]; exact u3)
  have eb : zF_X6_beginWith 86 (x.2.1 + 26) A2 = mz_up (mz_up (mz_up (zF_X9_copyAll 87 (x.2.1 + 26) A2) 86 2 0) 86 3 0) 86 7 0 := by
    unfold zF_X6_beginWith
    simp only [zf_lq]
  rw [eb]
  refine rwa_A (fun a b u v => ?_) R
  rw [mz_up_ne (by omega), mz_up_ne (by omega), mz_up_ne (by omega), mz_up_ne (by omega)]
  exact c6 a b (by omega) (by omega)
theorem bag_kw (hx : mk_x x) (I : mz_inv gA) (IB : mz_inv gB) (k : ru x gA gB) (T : rwa x.1 gA) {a1 : Int} : rwa (zF_X11_baggage x a1 gA).2.2.2.1 (zF_X11_baggage x a1 gA).2.2.1 := by
  obtain ⟨⟨t1, t2, ⟨t3, t4⟩, -⟩, -⟩ := id k
  have kx := kn_x hx
  have hx1 := hx
  unfold mk_x at hx1
  have hR : mz_cb gA = mz_rb gB := funext fun a => by
    unfold mz_cb mz_rb
    exact t4 _
  by_cases hf : 0 ≤ a1 ∧ a1 ≤ gA 82 1
  · obtain ⟨gA', gB', r1, r2, r3, r4, r5, ⟨f1, f2, f3⟩, ⟨f4, f5, f6, f7⟩, L⟩ := bag_2 hx I IB t1 t2 hR hf.1 hf.2 (by rw [← t3]; exact hf.2)
    rw [r1]
    rcases r5 with ⟨d, lk, td, ti⟩ | ff
    · obtain ⟨c1, c2, c3, c4⟩ := J77_fine (x := x) (a1 := a1) lk.2.2.2.1.1
      rw [c3, c4]
      exact rw_fine hx r3 r4 lk.2.2.2.1.2 td ti lk.2.2.2.2
    · rw [J77f ff.1]
      refine rwa_A (fun a b u v => ?_) T
      dsimp only at u v ⊢
      rw [mz_up_ne (by omega), mz_up_ne (by omega)]
      exact f1 a b (by unfold ba_; omega)
  · obtain ⟨e1, e2⟩ := bag_nf (x := x) hf t3
    rw [e1]
    exact T
end RWB
section RRs
variable {x x1 : mm_X} {g g1 g2 gA gB gA' gB' : mz_G} {p : zf_T} {q : Int × mz_G} {r r1 r2 r3 v : Int}
theorem lx_at (x : mm_X) (v : Int64) : (mz_lx x v).2.2.2.2.1 179 0 = v := rfl
theorem wdx_0 (e : p = (0, v, g1)) : wd x p 0 g1 (mz_lx x (Int64.ofInt v)) := by
  rw [e]
  exact ⟨rfl, rfl, fun _ => lx_at _ _, rfl, rfl, by decide, by decide⟩
theorem wdx_1 (e : p = (1, 0, g)) : wd x p 1 g (mz_tx x) := by
  rw [e]
  exact ⟨rfl, rfl, fun z => absurd z (Nat.succ_ne_zero _), rfl, rfl, by decide, by decide⟩
theorem wdx_2 (e : p = (2, 0, g)) : wd x p 2 g (mz_tx x) := by
  rw [e]
  exact ⟨rfl, rfl, fun z => absurd z (Nat.succ_ne_zero _), rfl, rfl, by decide, by decide⟩
theorem wb_0 {p : zf_TX} {x2 : mm_X} (e : p = (0, v, g1, x2)) : wb p 0 g1 (mz_lx x2 (Int64.ofInt v)) := by
  rw [e]
  exact ⟨rfl, Or.inl ⟨rfl, rfl, lx_at _ _⟩, rfl, rfl⟩
theorem wb_2 {p : zf_TX} (e : p = (2, 0, g, x)) : wb p 1 g (mz_tx x) := by
  rw [e]
  exact ⟨rfl, Or.inr ⟨rfl, rfl⟩, rfl, rfl⟩
theorem ru_x {x x1 : mm_X} (h : x1.1 = x.1) (k : ru x gA gB) : ru x1 gA gB := by
  unfold ru at *
  rw [h]
  exact k
theorem RR_s (T : RR x g) (S : ∀ k j : Nat, 137 ≤ k → g1 k j = g k j) : ru x g g1 := ru_B (fun a b z => S a b (by unfold nb_ at z; omega)) T.1
theorem rw_M (hx : mk_x x) (T : rwa x.1 g) (M : ∀ a b : Nat, x.1 ≤ a → a ≤ x.1 + 37 → g1 a b = g a b) (F : ∀ a b : Nat, a < 137 ∨ 2000 ≤ a → g2 a b = g1 a b) : rwa x.1 g2 := by
  have kx := kn_x hx
  exact rwa_A (fun a b u v => (F a b (Or.inl (by omega))).trans (M a b u v)) T
theorem rw_F (hx : mk_x x) (T : rwa x.1 g) (F : ∀ a b : Nat, a < 137 ∨ 2000 ≤ a → g1 a b = g a b) : rwa x.1 g1 := rw_M hx T (fun _ _ _ _ => rfl) F
theorem rw_x (h : x1.1 = x.1) (k : rwa x.1 g) : rwa x1.1 g := by
  rw [h]
  exact k
theorem RR_e (hx : mk_x x) (k : ru x g1 g2) (F : ∀ a b : Nat, a < 137 ∨ 2000 ≤ a → g2 a b = g1 a b) : ru x g2 g2 := ru_A hx (fun a b z => F a b (by unfold na_ at z; omega)) k
theorem RR_kp (hx : mk_x x) (W : wd x p r g1 x1) (e : q = (r2, g2)) (K : kp x p q) (F : ∀ a b : Nat, a < 137 ∨ 2000 ≤ a → g2 a b = g1 a b) (T : RR x g) (M : ∀ a b : Nat, x.1 ≤ a → a ≤ x.1 + 37 → g1 a b = g a b) : RR x1 g2 ∧ g2 137 2 = r ∧ (r = 0 → x1.2.2.2.2.1 179 0 = Int64.ofInt r2) ∧ 0 ≤ r ∧ r ≤ 2 := by
  obtain ⟨w1, w2, w3, w4, -, w6⟩ := W
  obtain ⟨k1, k2, k3⟩ := K
  rw [e] at k1 k2 k3
  rw [w1] at k1
  refine ⟨⟨ru_x w4 (RR_e hx k1 F), rw_x w4 (rw_M hx T.2 M F)⟩, k2.trans w2.symm, fun z => ?_, w6.1, w6.2⟩
  have z0 : p.1 = 0 := by omega
  rw [w3 z0, k3 z0]
theorem RR_kq {p : Int × mz_G} (hx : mk_x x) (e1 : p = (r1, g1)) (e2 : q = (r2, g2)) (K : kq x p q) (F : ∀ a b : Nat, a < 137 ∨ 2000 ≤ a → g2 a b = g1 a b) (T : RR x g) (M : ∀ a b : Nat, x.1 ≤ a → a ≤ x.1 + 37 → g1 a b = g a b) : RR x g2 ∧ r1 = r2 := by
  rw [e1, e2] at K
  exact ⟨⟨RR_e hx K.1 F, rw_M hx T.2 M F⟩, K.2⟩
theorem RR_kr {h1 h2 : mz_G} (hx : mk_x x) (e1 : h1 = g1) (e2 : h2 = g2) (K : ru x h1 h2) (F : ∀ a b : Nat, a < 137 ∨ 2000 ≤ a → g2 a b = g1 a b) (T : RR x g) (M : ∀ a b : Nat, x.1 ≤ a → a ≤ x.1 + 37 → g1 a b = g a b) : RR x g2 := by
  rw [e1, e2] at K
  exact ⟨RR_e hx K F, rw_M hx T.2 M F⟩
theorem RR_kb {p : zf_TX} (hx1 : mk_x x1) (W : wb p r g1 x1) (e : q = (r2, g2)) (K : kb p q) (N : rwa p.2.2.2.1 p.2.2.1) (F : ∀ a b : Nat, a < 137 ∨ 2000 ≤ a → g2 a b = g1 a b) : RR x1 g2 ∧ g2 137 2 = r ∧ (r = 0 → x1.2.2.2.2.1 179 0 = Int64.ofInt r2) ∧ 0 ≤ r ∧ r ≤ 2 := by
  obtain ⟨w1, w2, w3, -⟩ := W
  obtain ⟨k1, k2⟩ := K
  rw [e] at k1 k2
  rw [w1] at k1 N
  refine ⟨⟨RR_e hx1 (ru_x w3 k1) F, rw_F hx1 (rw_x w3 N) F⟩, ?_⟩
  rcases k2 with ⟨c0, c1, c2⟩ | ⟨c0, c1⟩
  · rcases w2 with ⟨d0, d1, d2⟩ | ⟨d0, d1⟩
    · exact ⟨c1.trans d0.symm, fun _ => by rw [d2, c2], by omega, by omega⟩
    · exact absurd (c0.symm.trans d1) (by decide)
  · rcases w2 with ⟨d0, d1, d2⟩ | ⟨d0, d1⟩
    · exact absurd (c0.symm.trans d1) (by decide)
    · exact ⟨c1.trans d0.symm, fun z => by rw [d0] at z; exact absurd z (by decide), by omega, by omega⟩
/-- the class is asked -/
theorem RR_q (hx : mk_x x) (T : RR x g) (S : ∀ k j : Nat, 137 ≤ k → g1 k j = g k j) (N : ∀ a b : Nat, ¬ na_ x a b → g1 a b = g a b) (e : x1.1 = x.1) : RR x1 g1 := by
  have kx := kn_x hx
  have hx' := hx
  unfold mk_x at hx'
  exact ⟨ru_x e (ru_A hx N (RR_s T S)), rw_x e (rwa_A (fun a b u v => N a b (by unfold na_; omega)) T.2)⟩
/-- the reference is asked -/
theorem RR_r (hx : mk_x x) (T : RR x g) (F : ∀ a b : Nat, a < 137 ∨ 2000 ≤ a → g1 a b = g a b) (B : ∀ a b : Nat, ¬ nb_ a b → ¬ (a = 137 ∧ b = 30) → ¬ (152 ≤ a ∧ a ≤ 155) → g1 a b = g a b) (s : sm5 g g1) : RR x g1 := by
  refine ⟨RR_e hx (ru_B (fun a b z => ?_) T.1) F, rw_F hx T.2 F⟩
  by_cases h1 : a = 137 ∧ b = 30
  · rw [h1.1, h1.2]; exact s.1
  · by_cases h2 : 152 ≤ a ∧ a ≤ 155
    · have hb : b < 6 := by unfold nb_ at z; omega
      obtain ⟨s0, s1, s2, s3⟩ := s.2 b hb
      rcases (by omega : a = 152 ∨ a = 153 ∨ a = 154 ∨ a = 155) with rfl | rfl | rfl | rfl
      · exact s0
      · exact s1
      · exact s2
      · exact s3
    · exact B a b z h1 h2
theorem RR_b (hx : mk_x x) (T : RR x g) (F : ∀ a b : Nat, a < 137 ∨ 2000 ≤ a → g1 a b = g a b) (B : ∀ a b : Nat, ¬ nb_ a b → g1 a b = g a b) : RR x g1 := ⟨RR_e hx (ru_B B T.1) F, rw_F hx T.2 F⟩
theorem sm_e (e : q = (r2, g2)) (s : sm5 g q.2) : sm5 g g2 := by
  rw [e] at s
  exact s
theorem kr_P (I : mz_inv g) (M : mz_MI g) : kr g := by
  have a := I 140 3
  have b := I 140 1
  rw [show mz_bd 140 3 = (0, 700) from rfl] at a
  rw [show mz_bd 140 1 = (0, 6) from rfl] at b
  exact ⟨M.1, a.2, b.2⟩
theorem w8_P (I : mz_inv g) : g 140 0 ≤ 8 := by
  have a := I 140 0
  rw [show mz_bd 140 0 = (0, 8) from rfl] at a
  exact a.2
theorem sn_P (I : mz_inv g) : sn_b g := by
  have a := I 137 32
  rw [show mz_bd 137 32 = (0, 8) from rfl] at a
  refine ⟨a.2, fun j => ?_⟩
  have b := I 167 j
  rw [show mz_bd 167 j = (0, 20) from rfl] at b
  exact b.2
theorem ru_feed (hx : mk_x x) (k : ru x gA gB) (fA : ∀ a b : Nat, ¬ (a = 83 ∨ (a = 82 ∧ b = 1)) → gA' a b = gA a b) (fB : ∀ a b : Nat, ¬ ((a = 137 ∧ b = 2) ∨ a = 151 ∨ (a = 137 ∧ b = 15)) → gB' a b = gB a b) (t : gA' 82 1 = gB' 137 15 ∧ ∀ j : Nat, mz_andI (gA' 83 j) 255 = gB' 151 j) : ru x gA' gB' := by
  have kx := kn_x hx
  obtain ⟨⟨k1, k2, -, k5, k6, k7⟩, s2, s3, s4, s5, s6⟩ := k
  have h : su_e gB gB' := fun a b u v => fB a b (by omega)
  have e7 : gA' 0 7 = gA 0 7 := fA _ _ (by omega)
  refine ⟨⟨fun q i hq => ?_, fun q i hq => ?_, t, ?_, ?_, ?_⟩, sta_B (sta_A s2 (fun a b u v => fA a b (by omega))) h, ru_n_B h s3, sy_1_B s3.1.2 h ⟨fB _ _ (by omega), fB _ _ (by omega), fB _ _ (by omega)⟩ (fun a b z => fB a b (by omega)) (sy_1_A s3.1.2 (fun a b u v => fA a b (by omega)) s4), ?_, fun z => ?_⟩
  · rw [fA _ _ (by omega)]; exact k1 q i hq
  · rw [fB _ _ (by omega)]; exact k2 q i hq
  · rw [fA _ _ (by omega), fB _ _ (by omega)]; exact k5
  · rw [fA _ _ (by omega)]; exact k6
  · rw [fA _ _ (by omega)]; exact k7
  · rw [e7, fB _ _ (by omega)]; exact s5
  · rw [e7] at z
    exact sy_2_B s3.1.2 h ⟨fB _ _ (by omega), fB _ _ (by omega)⟩ (fun a b y => fB a b (by omega)) (sy_2_A s3.1.2 (fun a b u v => fA a b (by omega)) (s6 z))
theorem RR_feed {a1 a2 a3 a4 a5 : Int} (hx : mk_x x) (T : RR x g) (I : mz_inv g) (e1 : zF_X11_feed x a1 a2 a3 a4 a5 g = (r1, g1)) (S : ∀ k j : Nat, 137 ≤ k → g1 k j = g k j) (fA : ∀ a b : Nat, ¬ (a = 83 ∨ (a = 82 ∧ b = 1)) → g1 a b = g a b) (e2 : zF_X12_feed a1 a2 a3 a4 a5 g1 = (r2, g2)) (fB : ∀ a b : Nat, ¬ ((a = 137 ∧ b = 2) ∨ a = 151 ∨ (a = 137 ∧ b = 15)) → g2 a b = g1 a b) : RR x g2 ∧ r1 = r2 := by
  have k := RR_s T S
  have b := I 82 1
  rw [show mz_bd 82 1 = (0, 700) from rfl] at b
  obtain ⟨c1, ⟨f1, f2, f3⟩, f4⟩ := feed_k (x := x) (a1 := a1) (a2 := a2) (a3 := a3) (a4 := a4) (a5 := a5) (gA := g) (gB := g1) (c := g 82 1) ⟨rfl, k.1.2.2.1.1.symm, k.1.2.2.1.2⟩ b.1 b.2
  rw [e1] at f1 f3 f4
  rw [e2] at f2 f3 f4
  have kx := kn_x hx
  exact ⟨⟨RR_e hx (ru_feed hx k fA fB ⟨f1.trans f2.symm, f3⟩) (fun a b z => fB a b (by omega)), rw_M hx T.2 (fun a b u v => fA a b (by omega)) (fun a b z => fB a b (by omega))⟩, f4⟩
end RRs
