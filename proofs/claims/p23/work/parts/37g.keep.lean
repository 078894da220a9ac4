/-! ACTS are kept; what is refused; what is asked of a call -/
/-- an answer of the class and of the reference, with the state behind it -/
def kp (x : mm_X) (p : zf_T) (q : Int × mz_G) : Prop := ru x p.2.2 q.2 ∧ q.2 137 2 = (p.1 : Int) ∧ (p.1 = 0 → p.2.1 = q.1)
def kq (x : mm_X) (p q : Int × mz_G) : Prop := ru x p.2 q.2 ∧ p.1 = q.1
section KE
variable {x : mm_X} {g gA gA' gB gB' : mz_G}
theorem ru_now (hx : mk_x x) (k : ru x gA gB) (fA : ∀ a b : Nat, (a < 86 ∨ 101 ≤ a) → ¬ na_ x a b → gA' a b = gA a b) (fB : ∀ a b : Nat, ¬ nb_ a b → ¬ (a = 137 ∧ (b = 30 ∨ b = 31 ∨ b = 32)) → ¬ (a = 150 ∨ (152 ≤ a ∧ a ≤ 156) ∨ (166 ≤ a ∧ a ≤ 168)) → gB' a b = gB a b) (s : sy_1 gA' gB') : ru x gA' gB' := by
  have kx := kn_x hx
  unfold mk_x at hx
  obtain ⟨⟨t1, t2, ⟨t3, t4⟩, t5, t6, t7⟩, k2, k3, -, k5, k6⟩ := k
  have h : su_e gB gB' := fun a b u v => fB a b (by unfold nb_; omega) (by omega) (by omega)
  have e7 : gA' 0 7 = gA 0 7 := fA _ _ (by omega) (by unfold na_; omega)
  refine ⟨⟨fun q i hq => ?_, fun q i hq => ?_, ⟨?_, fun j => ?_⟩, ?_, ?_, ?_⟩, sta_B (sta_A k2 (fun a b u v => fA a b (by omega) (by unfold na_; omega))) h, ru_n_B h k3, s, ?_, fun z => ?_⟩
  · rw [fA _ _ (by omega) (by unfold na_; omega)]; exact t1 q i hq
  · rw [fB _ _ (by unfold nb_; omega) (by omega) (by omega)]; exact t2 q i hq
  · rw [fA _ _ (by omega) (by unfold na_; omega), fB _ _ (by unfold nb_; omega) (by omega) (by omega)]; exact t3
  · rw [fA _ _ (by omega) (by unfold na_; omega), fB _ _ (by unfold nb_; omega) (by omega) (by omega)]; exact t4 j
  · rw [fA _ _ (by omega) (by unfold na_; omega), fB _ _ (by unfold nb_; omega) (by omega) (by omega)]; exact t5
  · rw [fA _ _ (by omega) (by unfold na_; omega)]; exact t6
  · rw [fA _ _ (by omega) (by unfold na_; omega)]; exact t7
  · rw [e7, fB _ _ (by unfold nb_; omega) (by omega) (by omega)]; exact k5
  · rw [e7] at z
    exact sy_2_B k3.1.2 h ⟨fB _ _ (by unfold nb_; omega) (by omega) (by omega), fB _ _ (by unfold nb_; omega) (by omega) (by omega)⟩ (fun a b z => fB a b (by unfold nb_; omega) (by omega) (by omega)) (sy_2_A k3.1.2 (fun a b u v => fA a b (by omega) (by unfold na_; omega)) (k6 z))
theorem ru_2 {v : Int} (k : ru x gA gB) : ru x gA (mz_up gB 137 2 v) := ru_B (fun a b z => mz_up_ne (by unfold nb_ at z; omega)) k
theorem kp_fail {c : Nat} {v : Int} (k : ru x gA gB) (e : (c : Int) = v) (hc : c ≠ 0) : kp x (c, 0, gA) (zf_m2 (zF_X12_fail v gB) fun v1 g2 => (v1, g2)) := by
  unfold zf_m2 zF_X12_fail
  simp only [zf_lq]
  exact ⟨ru_2 k, (mz_up_at gB 137 2 v).trans e.symm, fun z => absurd z hc⟩
theorem i10 {α : Type} {A B : α} : (if (1 : Int) = 0 then A else B) = B := if_neg (by decide)
theorem i00 {α : Type} {A B : α} : (if (0 : Int) = 0 then A else B) = A := if_pos rfl
theorem mb_1 {f : Int → mz_G → zf_T} : zf_mx (zF_X11_mustBe 1 g) g f = f 0 g := rfl
theorem mb_0 {f : Int → mz_G → zf_T} : zf_mx (zF_X11_mustBe 0 g) g f = (1, 0, g) := rfl
theorem mf_1 {f : Int → mz_G → zf_T} : zf_mx (zF_X11_mustFit 1 g) g f = f 0 g := rfl
theorem mf_0 {f : Int → mz_G → zf_T} : zf_mx (zF_X11_mustFit 0 g) g f = (2, 0, g) := rfl
theorem isT_A {t : Int} : zF_X11_isTrunk x t g = if 0 ≤ t ∧ t < g 87 2 then 1 else 0 := by
  unfold zF_X11_isTrunk zJ_X11_isTrunk_16 zF_X11_trunkCount
  simp only [zf_lq]
  by_cases h : t < 0
  · rw [if_pos h, if_neg (by omega)]
  · rw [if_neg h]
    by_cases k : t < g 87 2
    · rw [if_pos k, if_pos (by omega)]
    · rw [if_neg k, if_neg (by omega)]
theorem isI_B {a b c : Int} : zF_X12_isIn a b c g = if b ≤ a ∧ a ≤ c then 1 else 0 := by
  unfold zF_X12_isIn zJ_X12_isIn_17
  by_cases h : a < b
  · rw [if_pos h, if_neg (by omega)]
  · rw [if_neg h]
    by_cases k : c < a
    · rw [if_pos k, if_neg (by omega)]
    · rw [if_neg k, if_pos (by omega)]
theorem isT_B {t : Int} : zF_X12_isTrunk t g = if 0 ≤ t ∧ t < g 140 1 then 1 else 0 := by
  unfold zF_X12_isTrunk
  simp only [zf_lq]
  rw [isI_B]
  by_cases h : 0 ≤ t ∧ t < g 140 1
  · rw [if_pos h, if_pos (by omega)]
  · rw [if_neg h, if_neg (by omega)]
theorem isW_A {w : Int} : zF_X11_isWord x w g = if 0 ≤ w ∧ w < g (x.1 + 1) 3 then 1 else 0 := by
  unfold zF_X11_isWord zJ_X11_isWord_22 zF_X10_many
  simp only [zf_lq]
  by_cases h : w < 0
  · rw [if_pos h, if_neg (by omega)]
  · rw [if_neg h]
    by_cases k : w < g (x.1 + 1) 3
    · rw [if_pos k, if_pos (by omega)]
    · rw [if_neg k, if_neg (by omega)]
theorem isW_B {w : Int} : zF_X12_isWord w g = if 0 ≤ w ∧ w < g 140 0 then 1 else 0 := by
  unfold zF_X12_isWord
  simp only [zf_lq]
  rw [isI_B]
  by_cases h : 0 ≤ w ∧ w < g 140 0
  · rw [if_pos h, if_pos (by omega)]
  · rw [if_neg h, if_neg (by omega)]
theorem refuse_A {i : Int} (h0 : 0 ≤ i) (h1 : i < 3) : zF_X6_refuse 86 i g = (-1, mz_up g 100 i.toNat (mz_wrap (g 100 i.toNat + 1))) := by
  unfold zF_X6_refuse
  simp only [zf_lq]
  show ((-1 : Int), zF_X11_put 100 3 i (mz_wrap (zF_X11_at 100 3 i g + 1)) g) = _
  rw [X11_at (n := 3) h0 (by omega), X11_put (n := 3) h0 (by omega)]
theorem refuse_B {i : Int} : zF_X12_refuse i g = (-1, mz_up g 150 i.toNat (mz_wrap (g 150 i.toNat + 1))) := by
  unfold zF_X12_refuse
  simp only [zf_lq]
theorem ru_ref (hx : mk_x x) {i : Nat} (hi : i < 3) (k : ru x gA gB) : ru x (mz_up gA 100 i (mz_wrap (gA 100 i + 1))) (mz_up gB 150 i (mz_wrap (gB 150 i + 1))) := by
  obtain ⟨-, -, k3, ⟨s1, s2, s3, s4⟩, -, -⟩ := id k
  have h : su_e gB (mz_up gB 150 i (mz_wrap (gB 150 i + 1))) := fun a b u v => up_k (by omega)
  refine ru_now hx k (fun a b z _ => up_k (by omega)) (fun a b _ _ z => up_k (by omega)) ⟨?_, ?_, ?_, fun j hj => ?_⟩
  · have n6 := k3.1.2
    have fB : ∀ a b : Nat, a ≠ 150 → mz_up gB 150 i (mz_wrap (gB 150 i + 1)) a b = gB a b := fun a b z => up_k z
    exact sy_n_c (V := sy_c gB) (sx_of h) (up_k (by decide)) (up_k (by decide)) (fun t j ht _ => up_k (by omega)) (up_k (by decide)) (fun t ht => ⟨fB 153 t (by decide), fB 154 t (by decide), fB 155 t (by decide), fB 152 t (by decide)⟩) s1
  · exact sy_a_c (sx_of h) k3.1.2 (up_k (by decide)) (up_k (by decide)) (fun j _ => up_k (by decide)) (up_k (by decide)) (fun j _ => up_k (by decide)) s2
  · exact sy_s_c (sx_of h) (up_k (by decide)) (fun j _ => ⟨up_k (by decide), up_k (by decide), up_k (by decide)⟩) (up_k (by decide)) (fun j _ => ⟨up_k (by decide), up_k (by decide), up_k (by decide)⟩) s3
  · by_cases c : j = i
    · rw [c, mz_up_at, mz_up_at, s4 i hi]
    · rw [up_j c, up_j c]; exact s4 j hj
theorem kp_ref (hx : mk_x x) {i : Int} (h0 : 0 ≤ i) (h1 : i < 3) (c0 : gB 137 2 = 0) (k : ru x gA gB) : kp x (zf_m2 (zF_X6_refuse 86 i gA) fun v g => (0, v, g)) (zf_m2 (zF_X12_refuse i gB) fun v g => (v, g)) := by
  rw [refuse_A h0 h1, refuse_B]
  unfold zf_m2
  exact ⟨ru_ref hx (by omega) k, by dsimp only; rw [up_k (by decide)]; exact c0, fun _ => rfl⟩
theorem kq_ref (hx : mk_x x) {i : Int} (h0 : 0 ≤ i) (h1 : i < 3) (k : ru x gA gB) : kq x (zf_m2 (zF_X6_refuse 86 i gA) fun v g => (v, g)) (zf_m2 (zF_X12_refuse i gB) fun v g => (v, g)) := by
  rw [refuse_A h0 h1, refuse_B]
  unfold zf_m2
  exact ⟨ru_ref hx (by omega) k, rfl⟩
/-- the class keeps how all is -/
theorem keep_A (o0 : 0 ≤ gA 86 2) (o1 : gA 86 2 ≤ 39) (c0 : 0 ≤ gA 86 3) (c1 : gA 86 3 ≤ 40) (n0 : 0 ≤ gA 87 2) (n6 : gA 87 2 ≤ 6) : ∃ p : Nat, (p : Int) = (gA 86 2 + gA 86 3) % 40 ∧ zF_X6_keepAct 86 gA 96 (25 * p) = gA 87 3 ∧ (∀ t : Nat, (t : Int) < gA 87 2 → zF_X6_keepAct 86 gA 96 (25 * p + 1 + 4 * t) = gA (87 + 3 + t) 0 ∧ zF_X6_keepAct 86 gA 96 (25 * p + 2 + 4 * t) = gA (87 + 3 + t) 1 ∧ zF_X6_keepAct 86 gA 96 (25 * p + 3 + 4 * t) = gA (87 + 3 + t) 2 ∧ zF_X6_keepAct 86 gA 96 (25 * p + 4 + 4 * t) = gA (87 + 3 + t) 3) ∧ (gA 86 3 < 40 → zF_X6_keepAct 86 gA 86 3 = gA 86 3 + 1 ∧ zF_X6_keepAct 86 gA 86 2 = gA 86 2) ∧ (gA 86 3 = 40 → zF_X6_keepAct 86 gA 86 3 = 40 ∧ zF_X6_keepAct 86 gA 86 2 = (gA 86 2 + 1) % 40) ∧ (∀ a b : Nat, ¬ (a = 86 ∧ (b = 2 ∨ b = 3)) → ¬ (a = 96 ∧ 25 * p ≤ b ∧ b < 25 * p + 25) → zF_X6_keepAct 86 gA a b = gA a b) := by
  refine ⟨((gA 86 2 + gA 86 3) % 40).toNat, by omega, ?_⟩
  unfold zF_X6_keepAct
  simp only [zf_lq, Nat.reduceAdd]
  obtain ⟨s1, s2, s3⟩ := save_A (g := gA) (T := 87) (q := 96) (p := (gA 86 2 + gA 86 3) % 40 * 25) (by omega) (by omega) (by omega) n0 n6
  generalize zF_X9_saveIn 87 96 1000 ((gA 86 2 + gA 86 3) % 40 * 25) gA = g4 at *
  have ep : ((gA 86 2 + gA 86 3) % 40 * 25).toNat = 25 * ((gA 86 2 + gA 86 3) % 40).toNat := by omega
  rw [ep] at s1 s2 s3
  generalize ((gA 86 2 + gA 86 3) % 40).toNat = p at *
  have e2 : g4 86 2 = gA 86 2 := s3 _ _ (by omega)
  have e3 : g4 86 3 = gA 86 3 := s3 _ _ (by omega)
  rw [e2, e3]
  by_cases c : gA 86 3 < 40
  · rw [if_pos c]
    refine ⟨(up_k (by decide)).trans s1, fun t ht => ?_, fun _ => ⟨mz_up_at .., (up_j (by decide)).trans e2⟩, fun z => by omega, fun a b u v => (mz_up_ne (by omega)).trans (s3 a b v)⟩
    rw [up_k (by decide), up_k (by decide), up_k (by decide), up_k (by decide)]
    exact s2 t ht
  · rw [if_neg c]
    refine ⟨(up_k (by decide)).trans s1, fun t ht => ?_, fun z => absurd z c, fun z => ⟨((up_j (by decide)).trans e3).trans z, mz_up_at ..⟩, fun a b u v => (mz_up_ne (by omega)).trans (s3 a b v)⟩
    rw [up_k (by decide), up_k (by decide), up_k (by decide), up_k (by decide)]
    exact s2 t ht
theorem shf_l {g0 : mz_G} : ∀ (m k : Nat) (l : Int) (g : mz_G), (1000 - l).toNat = m → m < k → 25 ≤ l → l ≤ 1000 → (∀ j : Nat, (j : Int) < l - 25 → g 156 j = g0 156 (j + 25)) → (∀ j : Nat, ¬ (j : Int) < l - 25 → g 156 j = g0 156 j) → (∀ a b : Nat, a ≠ 156 → g a b = g0 a b) → ∃ g1, zL_X12_keep_12 k l g = zJ_X12_keep_52 (mz_up g1 137 31 (g0 137 31 - 1)) ∧ (∀ j : Nat, j < 975 → g1 156 j = g0 156 (j + 25)) ∧ (∀ a b : Nat, a ≠ 156 → g1 a b = g0 a b) := by
  intro m
  induction m with
  | zero =>
    intro k l g hm hk l0 l1 hv hw hf
    obtain ⟨k, rfl⟩ : ∃ k1, k = k1 + 1 := ⟨k - 1, by omega⟩
    rw [zL_X12_keep_12_s]
    unfold zB_X12_keep_12
    simp only [zf_lq]
    rw [if_neg (by omega), hf 137 31 (by decide)]
    exact ⟨g, rfl, fun j hj => hv j (by omega), hf⟩
  | succ m ih =>
    intro k l g hm hk l0 l1 hv hw hf
    obtain ⟨k, rfl⟩ : ∃ k1, k = k1 + 1 := ⟨k - 1, by omega⟩
    rw [zL_X12_keep_12_s]
    unfold zB_X12_keep_12
    simp only [zf_lq]
    rw [if_pos (by omega)]
    refine ih k (l + 1) _ (by omega) (by omega) (by omega) (by omega) (fun j hj => ?_) (fun j hj => ?_) (fun a b z => (up_k z).trans (hf a b z))
    · by_cases c : j = (l - 25).toNat
      · subst c
        rw [mz_up_at, hw _ (by omega)]
        congr 1
        omega
      · rw [up_j c]; exact hv j (by omega)
    · rw [up_j (by omega)]; exact hw j (by omega)
theorem kee_J {c : Int} (h0 : 0 ≤ c) (hc : gB 137 31 = c) : zJ_X12_keep_52 gB 156 (25 * c.toNat) = gB 137 30 ∧ (∀ t : Nat, t < 6 → zJ_X12_keep_52 gB 156 (25 * c.toNat + 1 + t) = gB 152 t ∧ zJ_X12_keep_52 gB 156 (25 * c.toNat + 7 + t) = gB 153 t ∧ zJ_X12_keep_52 gB 156 (25 * c.toNat + 13 + t) = gB 154 t ∧ zJ_X12_keep_52 gB 156 (25 * c.toNat + 19 + t) = gB 155 t) ∧ zJ_X12_keep_52 gB 137 31 = c + 1 ∧ (∀ a b : Nat, ¬ (a = 137 ∧ b = 31) → ¬ (a = 156 ∧ 25 * c.toNat ≤ b ∧ b < 25 * c.toNat + 25) → zJ_X12_keep_52 gB a b = gB a b) := by
  unfold zJ_X12_keep_52
  simp only [zf_lq]
  rw [hc]
  obtain ⟨s1, s2, s3⟩ := store_B (g := gB) (q := 156) (nq := 1000) (p := 25 * c) (by omega) (by omega)
  generalize zF_X12_store 156 1000 (25 * c) gB = g7 at *
  have ep : (25 * c).toNat = 25 * c.toNat := by omega
  rw [ep] at s1 s2 s3
  have e3 : g7 137 31 = c := (s3 _ _ (by omega)).trans hc
  rw [e3]
  refine ⟨(up_k (by decide)).trans s1, fun t ht => ?_, mz_up_at .., fun a b u v => (mz_up_ne u).trans (s3 a b v)⟩
  rw [up_k (by decide), up_k (by decide), up_k (by decide), up_k (by decide)]
  exact s2 t ht
/-- the reference keeps how all is -/
theorem keep_B (c0 : 0 ≤ gB 137 31) (c1 : gB 137 31 ≤ 40) : ∃ c : Nat, (c : Int) ≤ 39 ∧ (gB 137 31 < 40 → (c : Int) = gB 137 31) ∧ (gB 137 31 = 40 → c = 39) ∧ zF_X12_keep gB 137 31 = c + 1 ∧ zF_X12_keep gB 156 (25 * c) = gB 137 30 ∧ (∀ t : Nat, t < 6 → zF_X12_keep gB 156 (25 * c + 1 + t) = gB 152 t ∧ zF_X12_keep gB 156 (25 * c + 7 + t) = gB 153 t ∧ zF_X12_keep gB 156 (25 * c + 13 + t) = gB 154 t ∧ zF_X12_keep gB 156 (25 * c + 19 + t) = gB 155 t) ∧ (gB 137 31 < 40 → ∀ j : Nat, j < 25 * c → zF_X12_keep gB 156 j = gB 156 j) ∧ (gB 137 31 = 40 → ∀ j : Nat, j < 25 * c → zF_X12_keep gB 156 j = gB 156 (j + 25)) ∧ (∀ a b : Nat, ¬ (a = 137 ∧ b = 31) → a ≠ 156 → zF_X12_keep gB a b = gB a b) := by
  unfold zF_X12_keep
  simp only [zf_lq]
  by_cases h : gB 137 31 = 40
  · rw [if_pos h]
    obtain ⟨g1, e, v, f⟩ := shf_l (g0 := gB) (1000 - 25 : Int).toNat 3000000000 25 gB rfl (by decide) (by decide) (by decide) (fun j z => by omega) (fun _ _ => rfl) (fun _ _ _ => rfl)
    rw [e]
    obtain ⟨r1, r2, r3, r4⟩ := kee_J (gB := mz_up g1 137 31 (gB 137 31 - 1)) (c := 39) (by decide) (by rw [mz_up_at, h]; rfl)
    refine ⟨39, by decide, fun z => by omega, fun _ => rfl, r3, ?_, fun t ht => ?_, fun z => by omega, fun _ j hj => ?_, fun a b u v => ?_⟩
    · rw [show (25 * 39 : Nat) = 25 * (39 : Int).toNat from rfl, r1, up_j (by decide), f _ _ (by decide)]
    · obtain ⟨a0, a1, a2, a3⟩ := r2 t ht
      rw [show (25 * 39 : Nat) = 25 * (39 : Int).toNat from rfl, a0, a1, a2, a3, up_k (by decide), up_k (by decide), up_k (by decide), up_k (by decide), f _ _ (by decide), f _ _ (by decide), f _ _ (by decide), f _ _ (by decide)]
      exact ⟨rfl, rfl, rfl, rfl⟩
    · rw [r4 156 j (by omega) (by have : (25 * (39 : Int).toNat : Nat) = 975 := rfl; omega), up_k (by decide)]
      exact v j (by omega)
    · rw [r4 a b u (by omega), mz_up_ne u]
      exact f a b v
  · rw [if_neg h]
    obtain ⟨r1, r2, r3, r4⟩ := kee_J (gB := gB) c0 rfl
    exact ⟨(gB 137 31).toNat, by omega, fun _ => by omega, fun z => absurd z h, by rw [r3]; omega, r1, r2, fun _ j hj => r4 156 j (by omega) (by omega), fun z => absurd z h, fun a b u v => r4 a b u (by omega)⟩
/-- both keep how all is -/
theorem keep_k (k3 : ru_n gB) (s1 : sy_n 87 gA gB (gB 137 30) (sy_c gB)) (s2 : sy_a 86 96 gA gB (gB 137 31) 156) : sy_a 86 96 (zF_X6_keepAct 86 gA) (zF_X12_keep gB) (zF_X12_keep gB 137 31) 156 ∧ (∀ a b : Nat, ¬ (a = 86 ∧ (b = 2 ∨ b = 3)) → a ≠ 96 → zF_X6_keepAct 86 gA a b = gA a b) ∧ (∀ a b : Nat, ¬ (a = 137 ∧ b = 31) → a ≠ 156 → zF_X12_keep gB a b = gB a b) := by
  obtain ⟨⟨n0, n6⟩, -⟩ := k3
  obtain ⟨m1, m2, m3, m4⟩ := s1
  obtain ⟨u1, ⟨u2, u3⟩, ⟨u4, u5⟩, u6⟩ := s2
  obtain ⟨p, hp, a1, a2, a3, a4, a5⟩ := keep_A (gA := gA) u4 u5 (by omega) (by omega) (by omega) (by omega)
  obtain ⟨c, hc, b1, b2, b3, b4, b5, b6, b7, b8⟩ := keep_B (gB := gB) u2 u3
  refine ⟨?_, fun a b u v => a5 a b u (by omega), b8⟩
  generalize zF_X6_keepAct 86 gA = hA at *
  generalize zF_X12_keep gB = hB at *
  have n1 : hB 140 1 = gB 140 1 := b8 _ _ (by decide) (by decide)
  have h : su_e gB hB := fun a b u v => b8 a b (by omega) (by omega)
  -- the row that is new
  have new : ∀ r : Nat, r = 25 * p → sy_p hA 96 r (hB 140 1) (hB 156 (25 * c)) (sy_w hB 156 (25 * c)) ∧ sy_v hB (hB 156 (25 * c)) (sy_w hB 156 (25 * c)) := fun r hr => by
    subst hr
    have w : ∀ t : Nat, (t : Int) < gB 140 1 → sy_w hB 156 (25 * c) 0 t = sy_c gB 0 t ∧ sy_w hB 156 (25 * c) 1 t = sy_c gB 1 t ∧ sy_w hB 156 (25 * c) 2 t = sy_c gB 2 t ∧ sy_w hB 156 (25 * c) 3 t = sy_c gB 3 t := fun t ht => by
      obtain ⟨q0, q1, q2, q3⟩ := b5 t (by omega)
      exact ⟨q1, q2, q3, q0⟩
    refine ⟨⟨by rw [a1, b4, m2], fun t ht => ?_⟩, sy_v_c (sx_of h) b4 w m4⟩
    rw [n1] at ht
    obtain ⟨w0, w1, w2, w3⟩ := w t ht
    obtain ⟨q0, q1, q2, q3⟩ := a2 t (by omega)
    obtain ⟨z0, z1, z2, z3, -⟩ := m3 t ht
    rw [w0, w1, w2, w3, q0, q1, q2, q3]
    exact ⟨z0, z1, z2, z3⟩
  -- a row that was
  have was : ∀ (r kk k0 : Nat), r < 40 → r ≠ p → kk < c → k0 < 40 → (∀ j : Nat, j < 25 → hB 156 (25 * kk + j) = gB 156 (25 * k0 + j)) → sy_p gA 96 (25 * r) (gB 140 1) (gB 156 (25 * k0)) (sy_w gB 156 (25 * k0)) → sy_v gB (gB 156 (25 * k0)) (sy_w gB 156 (25 * k0)) → sy_p hA 96 (25 * r) (hB 140 1) (hB 156 (25 * kk)) (sy_w hB 156 (25 * kk)) ∧ sy_v hB (hB 156 (25 * kk)) (sy_w hB 156 (25 * kk)) := fun r kk k0 r4 rp kc k4 jj o1 o2 => by
    have j0 : hB 156 (25 * kk) = gB 156 (25 * k0) := jj 0 (by decide)
    have w : ∀ t : Nat, (t : Int) < gB 140 1 → sy_w hB 156 (25 * kk) 0 t = sy_w gB 156 (25 * k0) 0 t ∧ sy_w hB 156 (25 * kk) 1 t = sy_w gB 156 (25 * k0) 1 t ∧ sy_w hB 156 (25 * kk) 2 t = sy_w gB 156 (25 * k0) 2 t ∧ sy_w hB 156 (25 * kk) 3 t = sy_w gB 156 (25 * k0) 3 t := fun t ht => by
      have q0 := jj (1 + t) (by omega)
      have q1 := jj (7 + t) (by omega)
      have q2 := jj (13 + t) (by omega)
      have q3 := jj (19 + t) (by omega)
      simp only [← Nat.add_assoc] at q0 q1 q2 q3
      exact ⟨q1, q2, q3, q0⟩
    refine ⟨⟨by rw [a5 _ _ (by omega) (by omega), o1.1, j0], fun t ht => ?_⟩, sy_v_c (sx_of h) j0 w o2⟩
    rw [n1] at ht
    obtain ⟨w0, w1, w2, w3⟩ := w t ht
    rw [a5 _ _ (by omega) (by omega), a5 _ _ (by omega) (by omega), a5 _ _ (by omega) (by omega), a5 _ _ (by omega) (by omega), w0, w1, w2, w3]
    exact o1.2 t ht
  by_cases hf : gB 137 31 < 40
  · obtain ⟨q1, q2⟩ := a3 (by omega)
    have ec := b1 hf
    refine ⟨by rw [q1, b3]; omega, by rw [b3]; omega, by rw [q2]; omega, fun i hi => ?_⟩
    rw [b3] at hi
    rw [q2]
    by_cases ci : i = c
    · rw [ci]
      exact new _ (by omega)
    · obtain ⟨o1, o2⟩ := u6 i (by omega)
      exact was (((gA 86 2).toNat + i) % 40) i i (by omega) (by omega) (by omega) (by omega) (fun j hj => b6 hf _ (by omega)) o1 o2
  · obtain ⟨q1, q2⟩ := a4 (by omega)
    have ec := b2 (by omega)
    refine ⟨by rw [q1, b3]; omega, by rw [b3]; omega, by rw [q2]; omega, fun i hi => ?_⟩
    rw [b3] at hi
    by_cases ci : i = c
    · rw [ci]
      exact new _ (by omega)
    · obtain ⟨o1, o2⟩ := u6 (i + 1) (by omega)
      have er : ((hA 86 2).toNat + i) % 40 = ((gA 86 2).toNat + (i + 1)) % 40 := by omega
      rw [er]
      refine was (((gA 86 2).toNat + (i + 1)) % 40) i (i + 1) (by omega) (by omega) (by omega) (by omega) (fun j hj => ?_) o1 o2
      rw [b7 (by omega) _ (by omega)]
      congr 1
      omega
end KE
