/-! THE LAW'S RELATION: the state of both, in one heap -/
def RR (x : mm_X) (g : mz_G) : Prop := ru x g g
/-- what a wrapper tells of the class's call -/
def wd (x : mm_X) (p : zf_T) (r : Int) (g1 : mz_G) (x1 : mm_X) : Prop := p.2.2 = g1 ∧ r = (p.1 : Int) ∧ (p.1 = 0 → x1.2.2.2.2.1 179 0 = Int64.ofInt p.2.1) ∧ x1.1 = x.1 ∧ x1.2.1 = x.2.1 ∧ 0 ≤ r ∧ r ≤ 2
def wb (p : zf_TX) (r : Int) (g1 : mz_G) (x1 : mm_X) : Prop := p.2.2.1 = g1 ∧ ((r = 0 ∧ p.1 = 0 ∧ x1.2.2.2.2.1 179 0 = Int64.ofInt p.2.1) ∨ (r = 1 ∧ p.1 = 2)) ∧ x1.1 = p.2.2.2.1 ∧ x1.2.1 = p.2.2.2.2.1
section RRs
variable {x x1 : mm_X} {g g1 g2 gA gB gA' gB' : mz_G} {p : zf_T} {q : Int × mz_G} {r r1 r2 r3 v : Int}
theorem lx_at (x : mm_X) (v : Int64) : (mz_lx x v).2.2.2.2.1 179 0 = v := rfl
theorem wdx_0 (e : p = (0, v, g1)) : wd x p 0 g1 (mz_lx x (Int64.ofInt v)) := by
  rw [e]
  exact ⟨rfl, rfl, fun _ => lx_at _ _, rfl, rfl, by decide, by decide⟩
theorem wdx_1 (e : p = (1, 0, g)) : wd x p 1 g (mz_tx x) := by
  rw [e]
  exact ⟨rfl, rfl, fun z => absurd z (Nat.succ_ne_zero _), rfl, rfl, by decide, by decide⟩
theorem wdx_2 (e : p = (2, 0, g)) : wd x p 2 g (mz_tx x) := by
  rw [e]
  exact ⟨rfl, rfl, fun z => absurd z (Nat.succ_ne_zero _), rfl, rfl, by decide, by decide⟩
theorem wb_0 {p : zf_TX} {x2 : mm_X} (e : p = (0, v, g1, x2)) : wb p 0 g1 (mz_lx x2 (Int64.ofInt v)) := by
  rw [e]
  exact ⟨rfl, Or.inl ⟨rfl, rfl, lx_at _ _⟩, rfl, rfl⟩
theorem wb_2 {p : zf_TX} (e : p = (2, 0, g, x)) : wb p 1 g (mz_tx x) := by
  rw [e]
  exact ⟨rfl, Or.inr ⟨rfl, rfl⟩, rfl, rfl⟩
theorem ru_x {x x1 : mm_X} (h : x1.1 = x.1) (k : ru x gA gB) : ru x1 gA gB := by
  unfold ru at *
  rw [h]
  exact k
theorem RR_s (T : RR x g) (S : ∀ k j : Nat, 137 ≤ k → g1 k j = g k j) : ru x g g1 := ru_B (fun a b z => S a b (by unfold nb_ at z; omega)) T
theorem RR_e (hx : mk_x x) (k : ru x g1 g2) (F : ∀ a b : Nat, a < 137 ∨ 2000 ≤ a → g2 a b = g1 a b) : RR x g2 := ru_A hx (fun a b z => F a b (by unfold na_ at z; omega)) k
theorem RR_kp (hx : mk_x x) (W : wd x p r g1 x1) (e : q = (r2, g2)) (K : kp x p q) (F : ∀ a b : Nat, a < 137 ∨ 2000 ≤ a → g2 a b = g1 a b) : RR x1 g2 ∧ g2 137 2 = r ∧ (r = 0 → x1.2.2.2.2.1 179 0 = Int64.ofInt r2) ∧ 0 ≤ r ∧ r ≤ 2 := by
  obtain ⟨w1, w2, w3, w4, -, w6⟩ := W
  obtain ⟨k1, k2, k3⟩ := K
  rw [e] at k1 k2 k3
  rw [w1] at k1
  refine ⟨ru_x w4 (RR_e hx k1 F), k2.trans w2.symm, fun z => ?_, w6.1, w6.2⟩
  have z0 : p.1 = 0 := by omega
  rw [w3 z0, k3 z0]
theorem RR_kq {p : Int × mz_G} (hx : mk_x x) (e1 : p = (r1, g1)) (e2 : q = (r2, g2)) (K : kq x p q) (F : ∀ a b : Nat, a < 137 ∨ 2000 ≤ a → g2 a b = g1 a b) : RR x g2 ∧ r1 = r2 := by
  rw [e1, e2] at K
  exact ⟨RR_e hx K.1 F, K.2⟩
theorem RR_kr {h1 h2 : mz_G} (hx : mk_x x) (e1 : h1 = g1) (e2 : h2 = g2) (K : ru x h1 h2) (F : ∀ a b : Nat, a < 137 ∨ 2000 ≤ a → g2 a b = g1 a b) : RR x g2 := by
  rw [e1, e2] at K
  exact RR_e hx K F
theorem RR_kb {p : zf_TX} (hx1 : mk_x x1) (W : wb p r g1 x1) (e : q = (r2, g2)) (K : kb p q) (F : ∀ a b : Nat, a < 137 ∨ 2000 ≤ a → g2 a b = g1 a b) : RR x1 g2 ∧ g2 137 2 = r ∧ (r = 0 → x1.2.2.2.2.1 179 0 = Int64.ofInt r2) ∧ 0 ≤ r ∧ r ≤ 2 := by
  obtain ⟨w1, w2, w3, -⟩ := W
  obtain ⟨k1, k2⟩ := K
  rw [e] at k1 k2
  rw [w1] at k1
  refine ⟨RR_e hx1 (ru_x w3 k1) F, ?_⟩
  rcases k2 with ⟨c0, c1, c2⟩ | ⟨c0, c1⟩
  · rcases w2 with ⟨d0, d1, d2⟩ | ⟨d0, d1⟩
    · exact ⟨c1.trans d0.symm, fun _ => by rw [d2, c2], by omega, by omega⟩
    · exact absurd (c0.symm.trans d1) (by decide)
  · rcases w2 with ⟨d0, d1, d2⟩ | ⟨d0, d1⟩
    · exact absurd (c0.symm.trans d1) (by decide)
    · exact ⟨c1.trans d0.symm, fun z => by rw [d0] at z; exact absurd z (by decide), by omega, by omega⟩
/-- the class is asked -/
theorem RR_q (hx : mk_x x) (T : RR x g) (S : ∀ k j : Nat, 137 ≤ k → g1 k j = g k j) (N : ∀ a b : Nat, ¬ na_ x a b → g1 a b = g a b) (e : x1.1 = x.1) : RR x1 g1 := ru_x e (ru_A hx N (RR_s T S))
/-- the reference is asked -/
theorem RR_r (hx : mk_x x) (T : RR x g) (F : ∀ a b : Nat, a < 137 ∨ 2000 ≤ a → g1 a b = g a b) (B : ∀ a b : Nat, ¬ nb_ a b → ¬ (a = 137 ∧ b = 30) → ¬ (152 ≤ a ∧ a ≤ 155) → g1 a b = g a b) (s : sm5 g g1) : RR x g1 := by
  refine RR_e hx (ru_B (fun a b z => ?_) T) F
  by_cases h1 : a = 137 ∧ b = 30
  · rw [h1.1, h1.2]; exact s.1
  · by_cases h2 : 152 ≤ a ∧ a ≤ 155
    · have hb : b < 6 := by unfold nb_ at z; omega
      obtain ⟨s0, s1, s2, s3⟩ := s.2 b hb
      rcases (by omega : a = 152 ∨ a = 153 ∨ a = 154 ∨ a = 155) with rfl | rfl | rfl | rfl
      · exact s0
      · exact s1
      · exact s2
      · exact s3
    · exact B a b z h1 h2
theorem RR_b (hx : mk_x x) (T : RR x g) (F : ∀ a b : Nat, a < 137 ∨ 2000 ≤ a → g1 a b = g a b) (B : ∀ a b : Nat, ¬ nb_ a b → g1 a b = g a b) : RR x g1 := RR_e hx (ru_B B T) F
theorem sm_e (e : q = (r2, g2)) (s : sm5 g q.2) : sm5 g g2 := by
  rw [e] at s
  exact s
theorem kr_P (I : mz_inv g) (M : mz_MI g) : kr g := by
  have a := I 140 3
  have b := I 140 1
  rw [show mz_bd 140 3 = (0, 700) from rfl] at a
  rw [show mz_bd 140 1 = (0, 6) from rfl] at b
  exact ⟨M.1, a.2, b.2⟩
theorem w8_P (I : mz_inv g) : g 140 0 ≤ 8 := by
  have a := I 140 0
  rw [show mz_bd 140 0 = (0, 8) from rfl] at a
  exact a.2
theorem sn_P (I : mz_inv g) : sn_b g := by
  have a := I 137 32
  rw [show mz_bd 137 32 = (0, 8) from rfl] at a
  refine ⟨a.2, fun j => ?_⟩
  have b := I 167 j
  rw [show mz_bd 167 j = (0, 20) from rfl] at b
  exact b.2
theorem ru_feed (hx : mk_x x) (k : ru x gA gB) (fA : ∀ a b : Nat, ¬ (a = 83 ∨ (a = 82 ∧ b = 1)) → gA' a b = gA a b) (fB : ∀ a b : Nat, ¬ ((a = 137 ∧ b = 2) ∨ a = 151 ∨ (a = 137 ∧ b = 15)) → gB' a b = gB a b) (t : gA' 82 1 = gB' 137 15 ∧ ∀ j : Nat, mz_andI (gA' 83 j) 255 = gB' 151 j) : ru x gA' gB' := by
  have kx := kn_x hx
  obtain ⟨⟨k1, k2, -, k5, k6, k7⟩, s2, s3, s4, s5, s6⟩ := k
  have h : su_e gB gB' := fun a b u v => fB a b (by omega)
  have e7 : gA' 0 7 = gA 0 7 := fA _ _ (by omega)
  refine ⟨⟨fun q i hq => ?_, fun q i hq => ?_, t, ?_, ?_, ?_⟩, sta_B (sta_A s2 (fun a b u v => fA a b (by omega))) h, ru_n_B h s3, sy_1_B s3.1.2 h ⟨fB _ _ (by omega), fB _ _ (by omega), fB _ _ (by omega)⟩ (fun a b z => fB a b (by omega)) (sy_1_A s3.1.2 (fun a b u v => fA a b (by omega)) s4), ?_, fun z => ?_⟩
  · rw [fA _ _ (by omega)]; exact k1 q i hq
  · rw [fB _ _ (by omega)]; exact k2 q i hq
  · rw [fA _ _ (by omega), fB _ _ (by omega)]; exact k5
  · rw [fA _ _ (by omega)]; exact k6
  · rw [fA _ _ (by omega)]; exact k7
  · rw [e7, fB _ _ (by omega)]; exact s5
  · rw [e7] at z
    exact sy_2_B s3.1.2 h ⟨fB _ _ (by omega), fB _ _ (by omega)⟩ (fun a b y => fB a b (by omega)) (sy_2_A s3.1.2 (fun a b u v => fA a b (by omega)) (s6 z))
theorem RR_feed {a1 a2 a3 a4 a5 : Int} (hx : mk_x x) (T : RR x g) (I : mz_inv g) (e1 : zF_X11_feed x a1 a2 a3 a4 a5 g = (r1, g1)) (S : ∀ k j : Nat, 137 ≤ k → g1 k j = g k j) (fA : ∀ a b : Nat, ¬ (a = 83 ∨ (a = 82 ∧ b = 1)) → g1 a b = g a b) (e2 : zF_X12_feed a1 a2 a3 a4 a5 g1 = (r2, g2)) (fB : ∀ a b : Nat, ¬ ((a = 137 ∧ b = 2) ∨ a = 151 ∨ (a = 137 ∧ b = 15)) → g2 a b = g1 a b) : RR x g2 ∧ r1 = r2 := by
  have k := RR_s T S
  have b := I 82 1
  rw [show mz_bd 82 1 = (0, 700) from rfl] at b
  obtain ⟨c1, ⟨f1, f2, f3⟩, f4⟩ := feed_k (x := x) (a1 := a1) (a2 := a2) (a3 := a3) (a4 := a4) (a5 := a5) (gA := g) (gB := g1) (c := g 82 1) ⟨rfl, k.1.2.2.1.1.symm, k.1.2.2.1.2⟩ b.1 b.2
  rw [e1] at f1 f3 f4
  rw [e2] at f2 f3 f4
  exact ⟨RR_e hx (ru_feed hx k fA fB ⟨f1.trans f2.symm, f3⟩) (fun a b z => fB a b (by omega)), f4⟩
end RRs
