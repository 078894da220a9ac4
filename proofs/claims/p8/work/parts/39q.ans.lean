/-! ANSWERS (17): couples, second half: who is with whom; what couples cost; couples, trunk -/
def tc (b0 : mz_G) (i : Nat) : Nat → Int := bc b0 (b0 153 i) (b0 154 i) (b0 152 i)
def tn (b0 : mz_G) (i : Nat) : Int := bn b0 (b0 153 i) (b0 154 i) (b0 152 i)
def kc (b0 : mz_G) (i j : Nat) : Int := edr (tc b0 i) (tc b0 j) (tn b0 i).toNat (tn b0 j).toNat
/-- what the search changes: of the class, of the reference -/
def fc_ (g0 g : mz_G) : Prop := ∀ a b : Nat, a ≠ 117 → a ≠ 119 → ¬ (133 ≤ a ∧ a ≤ 136) → g a b = g0 a b
def fd_ (h0 h : mz_G) : Prop := ∀ a b : Nat, ¬ (157 ≤ a ∧ a ≤ 159) → a ≠ 164 → ¬ (a = 137 ∧ (b = 36 ∨ b = 37)) → h a b = h0 a b
section WH2
variable {x : mm_X} {g g0 g1 gA gB b0 h h0 : mz_G} {ld : Nat}
theorem has_0 {t : Nat} : cp_has 0 t = false := by
  unfold cp_has
  rw [Nat.zero_div]
  rfl
/-- the choice of all, in both -/
theorem cho_l {n : Nat} (hn : n ≤ 6) (nB : h 140 1 = n) (c : cpk n g0 h) (f : fk (2 ^ n) g0 h) {T : Nat} (hT : T < n) : ∀ (m k1 k2 S l : Nat) (g : mz_G), n - l = m → m < k1 → S < k2 → S < 2 ^ n → l ≤ n → (∀ u : Nat, u < l → cp_has S u = false) → (∀ a b : Nat, a ≠ 121 → g a b = g0 a b) → ∃ g1, zL_X3_choosePartners_5 (((2 ^ n : Nat) : Int) - 1) (n : Int) k1 (S : Int) (l : Int) g = g1 ∧ (cp_has S T = true → zL_X12_coupleOf_15 (T : Int) h k2 (S : Int) = (g1 121 T, h)) ∧ (cp_has S T = false → g1 121 T = g 121 T) ∧ ∀ a b : Nat, a ≠ 121 → g1 a b = g0 a b := by
  have h64 := cp_64 hn
  intro m
  induction m with
  | zero =>
    intro k1 k2 S l g hm hk1 hk2 hS hl I fr
    obtain ⟨k1, rfl⟩ : ∃ k, k1 = k + 1 := ⟨k1 - 1, by omega⟩
    rw [zL_X3_choosePartners_5_s]
    unfold zB_X3_choosePartners_5
    rw [if_neg (by omega)]
    refine ⟨g, rfl, fun z => ?_, fun _ => rfl, fr⟩
    rw [I T (by omega)] at z
    cases z
  | succ m ih =>
    intro k1 k2 S l g hm hk1 hk2 hS hl I fr
    obtain ⟨k1, rfl⟩ : ∃ k, k1 = k + 1 := ⟨k1 - 1, by omega⟩
    have hl' : l < n := by omega
    have S6 : S < 64 := by omega
    rw [zL_X3_choosePartners_5_s]
    unfold zB_X3_choosePartners_5
    simp only [zf_lq]
    rw [if_pos (by omega)]
    by_cases y : cp_has S l = true
    · rw [if_neg ((has_A S6 (by omega)).1 y), re_A S6 (by omega)]
      have s0 : S ≠ 0 := fun z => by
        rw [z, has_0] at y
        cases y
      obtain ⟨l1, l2, l3⟩ := lo_has S6 s0
      have el : cp_lo S = l := by
        rcases Nat.lt_trichotomy (cp_lo S) l with z | z | z
        · rw [I _ z] at l1
          cases l1
        · exact z
        · rw [l3 _ z] at y
          cases y
      have c' : cpk n g h := fun i j hi hj => by
        rw [fr 119 _ (by decide)]
        exact c i j hi hj
      have f' : fk (2 ^ n) g h := fun U hU => by
        rw [fr 120 _ (by decide)]
        exact f U hU
      have r1 := re_lt S6 (show l < 6 by omega) y
      obtain ⟨v, ev, vn, cv⟩ := ch_w hn hS (show l < 6 by omega) y c' f' (n - (l + 1)) 3000000000 (l + 1) rfl (by omega) (by omega) (by omega) (fun u a b => by omega)
      rw [show ((l + 1 : Nat) : Int) = (l : Int) + 1 by omega] at ev
      have cw' := co_w (a1 := (T : Int)) hn nB hS (show l < 6 by omega) y c' f' ((n : Int) - 1 - l).toNat 3000000000 ((n : Int) - 1) (-1) rfl (by omega) (by omega) (by omega) (Or.inl ⟨rfl, fun o a b => by omega⟩)
      have eq := cw_u cw' cv
      rw [ev]
      obtain ⟨k2, rfl⟩ : ∃ k, k2 = k + 1 := ⟨k2 - 1, by omega⟩
      have R : zL_X12_coupleOf_15 (T : Int) h (k2 + 1) (S : Int) = if (l : Int) = T then ((if v < n then (v : Int) else -1), h) else if (if v < n then (v : Int) else -1) = (T : Int) then ((l : Int), h) else if (if v < n then (v : Int) else -1) = -1 then zL_X12_coupleOf_15 (T : Int) h k2 (cp_re S l : Int) else zL_X12_coupleOf_15 (T : Int) h k2 (mz_andI (cp_re S l : Int) (mz_xorI (mz_shlI 1 (if v < n then (v : Int) else -1)) (-1))) := by
        rw [zL_X12_coupleOf_15_s]
        unfold zB_X12_coupleOf_15 zJ_X12_coupleOf_155
        simp only [zf_lq]
        rw [if_neg (by omega), (low_B S6 s0).2, el, re_A S6 (by omega), nB, eq]
      rw [R]
      have reh : ∀ u : Nat, u < 6 → (cp_has (cp_re S l) u = true ↔ cp_has S u = true ∧ u ≠ l) := fun u hu => re_has S6 (by omega) hu
      by_cases vl : v < n
      · have cq' : cq n l (cp_re S l) S g h v := by
          rw [if_pos vl] at cv
          rcases cv with ⟨z, -⟩ | ⟨o, z1, -, -, z4, -⟩
          · omega
          · have : o = v := by omega
            rw [← this]
            exact z4
        have vl2 : l < v := by
          rw [if_pos vl] at cv
          rcases cv with ⟨z, -⟩ | ⟨o, z1, z2, -, -, -⟩
          · omega
          · omega
        have hv := ((reh v (by omega)).mp cq'.1)
        unfold zJ_X3_choosePartners_82 zJ_X3_choosePartners_100 zJ_X3_choosePartners_131 zJ_X3_choosePartners_134
        simp only [zf_lq]
        rw [if_pos (show (v : Int) < n by omega), if_pos (show (v : Int) < n by omega), if_pos vl, X11_put (n := 6) (by omega) (by omega), X11_put (n := 6) (by omega) (by omega), re_A (by omega) (by omega), show ((l : Nat) : Int).toNat = l from rfl, show ((v : Nat) : Int).toNat = v from rfl]
        have r2 := re_lt (show cp_re S l < 64 by omega) (show v < 6 by omega) cq'.1
        have reh2 : ∀ u : Nat, u < 6 → (cp_has (cp_re (cp_re S l) v) u = true ↔ (cp_has S u = true ∧ u ≠ l) ∧ u ≠ v) := fun u hu => (re_has (by omega) (by omega) hu).trans (and_congr_left fun _ => reh u hu)
        obtain ⟨g1, e1, p1, p2, p3⟩ := ih k1 k2 (cp_re (cp_re S l) v) (l + 1) (mz_up (mz_up g 121 l (v : Int)) 121 v (l : Int)) (by omega) (by omega) (by omega) (by omega) (by omega) (fun u hu => by
          rw [← Bool.not_eq_true]
          intro z
          have w := (reh2 u (by omega)).mp z
          rcases (by omega : u < l ∨ u = l) with q | q
          · rw [I u q] at w
            exact absurd w.1.1 (by decide)
          · exact w.1.2 q) (fun a b z => (up_k z).trans ((up_k z).trans (fr a b z)))
        rw [show ((l + 1 : Nat) : Int) = (l : Int) + 1 by omega] at e1
        refine ⟨g1, e1, fun z => ?_, fun z => ?_, p3⟩
        · by_cases q1 : T = l
          · rw [if_pos (by omega), p2 (by
              rw [← Bool.not_eq_true]
              intro w
              exact ((reh2 T (by omega)).mp w).1.2 q1), q1, up_j (by omega), mz_up_at]
          · rw [if_neg (by omega)]
            by_cases q2 : T = v
            · rw [if_pos (by omega), p2 (by
                rw [← Bool.not_eq_true]
                intro w
                exact ((reh2 T (by omega)).mp w).2 q2), q2, mz_up_at]
            · rw [if_neg (by omega), if_neg (by omega)]
              exact p1 ((reh2 T (by omega)).mpr ⟨⟨z, q1⟩, q2⟩)
        · have q1 : T ≠ l := fun w => by
            rw [w, y] at z
            cases z
          have q2 : T ≠ v := fun w => by
            rw [w, hv.1] at z
            cases z
          rw [p2 (by
            rw [← Bool.not_eq_true]
            intro w
            rw [((reh2 T (by omega)).mp w).1.1] at z
            cases z), up_j q2, up_j q1]
      · unfold zJ_X3_choosePartners_82 zJ_X3_choosePartners_100 zJ_X3_choosePartners_131 zJ_X3_choosePartners_134
        simp only [zf_lq]
        rw [if_neg (show ¬ (v : Int) < n by omega), if_neg (show ¬ (v : Int) < n by omega), if_neg vl, X11_put (n := 6) (by omega) (by omega), show ((l : Nat) : Int).toNat = l from rfl]
        obtain ⟨g1, e1, p1, p2, p3⟩ := ih k1 k2 (cp_re S l) (l + 1) (mz_up g 121 l (-1)) (by omega) (by omega) (by omega) (by omega) (by omega) (fun u hu => by
          rw [← Bool.not_eq_true]
          intro z
          have w := (reh u (by omega)).mp z
          rcases (by omega : u < l ∨ u = l) with q | q
          · rw [I u q] at w
            exact absurd w.1 (by decide)
          · exact w.2 q) (fun a b z => (up_k z).trans (fr a b z))
        rw [show ((l + 1 : Nat) : Int) = (l : Int) + 1 by omega] at e1
        refine ⟨g1, e1, fun z => ?_, fun z => ?_, p3⟩
        · by_cases q1 : T = l
          · rw [if_pos (by omega), p2 (by
              rw [← Bool.not_eq_true]
              intro w
              exact ((reh T (by omega)).mp w).2 q1), q1, mz_up_at]
          · rw [if_neg (by omega), if_neg (by omega), if_pos rfl]
            exact p1 ((reh T (by omega)).mpr ⟨z, q1⟩)
        · have q1 : T ≠ l := fun w => by
            rw [w, y] at z
            cases z
          rw [p2 (by
            rw [← Bool.not_eq_true]
            intro w
            rw [((reh T (by omega)).mp w).1] at z
            cases z), up_j q1]
    · rw [Bool.not_eq_true] at y
      rw [if_pos ((has_A S6 (by omega)).2 y)]
      unfold zJ_X3_choosePartners_134
      obtain ⟨g1, e1, p⟩ := ih k1 k2 S (l + 1) g (by omega) (by omega) (by omega) hS (by omega) (fun u hu => by
        rcases (by omega : u < l ∨ u = l) with q | q
        · exact I u q
        · rw [q]; exact y) fr
      rw [show ((l + 1 : Nat) : Int) = (l : Int) + 1 by omega] at e1
      exact ⟨g1, e1, p⟩
theorem kc_b {i j : Nat} (a : 0 ≤ tn b0 i ∧ tn b0 i ≤ 16) (b : 0 ≤ tn b0 j ∧ tn b0 j ≤ 16) : 0 ≤ kc b0 i j ∧ kc b0 i j ≤ 32 := by
  have e := edr_b (p := tc b0 i) (q := tc b0 j) (tn b0 i).toNat (tn b0 j).toNat
  unfold kc
  omega
theorem tn_b (k0 : ru x gA b0) {i : Nat} (hi : (i : Int) < b0 140 1) : 1 ≤ tn b0 i ∧ tn b0 i ≤ 16 := by
  obtain ⟨-, -, vv, -, -, -⟩ := now_t k0 (t := (i : Int)) (by omega) hi
  have n := bn_b k0.2.1.1 vv
  exact ⟨n.1, n.2.1⟩
/-- the class's costs -/
theorem kA_i (hx : mk_x x) (k0 : ru x gA b0) {i : Nat} (hi : (i : Int) < b0 140 1) : ∀ (m k j : Nat) (g : mz_G), (b0 140 1 - (j : Int)).toNat = m → m < k → i < j → fc_ gA g → g 133 1 = tn b0 i → (∀ s : Nat, (s : Int) < tn b0 i → g 134 s = tc b0 i s) → (∀ a b : Nat, a < b → (a < i ∨ (a = i ∧ b < j)) → (b : Int) < b0 140 1 → g 119 (6 * a + b) = kc b0 a b) → ∃ g1, zL_X11_findCouples_38 x k (b0 140 1) (i : Int) (j : Int) g = g1 ∧ fc_ gA g1 ∧ ∀ a b : Nat, a < b → a < i + 1 → (b : Int) < b0 140 1 → g1 119 (6 * a + b) = kc b0 a b := by
  have hld : x.1 = 1 ∨ x.1 = 41 := by unfold mk_x at hx; omega
  have c6 : b0 140 1 ≤ 6 := k0.2.2.1.1.2
  have bi := tn_b k0 hi
  intro m
  induction m with
  | zero =>
    intro k j g hm hk hj f e1 e2 I
    obtain ⟨k, rfl⟩ : ∃ k1, k = k1 + 1 := ⟨k - 1, by omega⟩
    rw [zL_X11_findCouples_38_s]
    unfold zB_X11_findCouples_38
    rw [if_neg (by omega)]
    exact ⟨g, rfl, f, fun a b u v w => I a b u (by omega) w⟩
  | succ m ih =>
    intro k j g hm hk hj f e1 e2 I
    obtain ⟨k, rfl⟩ : ∃ k1, k = k1 + 1 := ⟨k - 1, by omega⟩
    have hjn : (j : Int) < b0 140 1 := by omega
    obtain ⟨-, ⟨q0, q1, q2, q3, q4⟩, vv, ss, tt, t6⟩ := now_t k0 (t := (j : Int)) (by omega) hjn
    rw [show ((j : Nat) : Int).toNat = j from rfl] at q0 q1 q2 q3 q4 vv ss tt
    have bj := tn_b k0 hjn
    have S : sta x.1 g b0 := sta_A k0.2.1 (fun a b u v => f a b (by omega) (by omega) (by omega))
    have ft : ∀ b : Nat, g (87 + 3 + j) b = gA (87 + 3 + j) b := fun b => f _ b (by omega) (by omega) (by omega)
    rw [zL_X11_findCouples_38_s]
    unfold zB_X11_findCouples_38
    simp only [zf_lq]
    rw [if_pos hjn, get_A (by omega) t6, show ((j : Nat) : Int).toNat = j from rfl]
    obtain ⟨n1, en, t⟩ := blend_A hld (q := 135) (by decide) rfl S (q1 := 87 + 3 + j) ⟨by omega, by omega⟩ ((ft 0).trans q0) ((ft 1).trans q1) ((ft 3).trans q3) vv
    generalize zF_X1_blendInto x.1 (87 + 3 + j) 135 g = g5 at *
    have tnj : bn b0 (b0 153 j) (b0 154 j) (b0 152 j) = tn b0 j := rfl
    rw [tnj] at en
    have o5 : ∀ a b : Nat, a ≠ 135 → a ≠ 136 → g5 a b = g a b := fun a b z1 z2 => t.2.2 a b (by omega) z2
    have E1 : g5 133 1 = tn b0 i := (o5 _ _ (by decide) (by decide)).trans e1
    have E2 : g5 135 1 = tn b0 j := by rw [t.1, en]
    obtain ⟨g7, e7, f7⟩ := changes_A (g0 := g5) (q1 := 133) (q2 := 135) (by omega) (by omega) (by rw [E1, show zf_ln 133 = 16 from rfl]; omega) (by rw [E2, show zf_ln 135 = 16 from rfl]; omega) (by rw [E1]; omega) (by rw [E2]; omega)
    rw [E1, E2, edr_c (p := tc b0 i) (q := tc b0 j) (lp := tn b0 i) (lq := tn b0 j) (fun s hs => (o5 _ _ (by decide) (by decide)).trans (e2 s hs)) (fun s hs => t.2.1 s (by omega)) _ _ (by omega) (by omega)] at e7
    rw [e7]
    unfold zf_m2 zF_X3_setCost
    dsimp only
    simp only [zf_lq]
    rw [mz_wrap_id (a := (i : Int) * 6) ⟨by omega, by omega⟩, mz_wrap_id ⟨by omega, by omega⟩, X11_put (n := 36) (by omega) (by omega), show ((i : Int) * 6 + j).toNat = 6 * i + j by omega]
    have ke : edr (tc b0 i) (tc b0 j) (tn b0 i).toNat (tn b0 j).toNat = kc b0 i j := rfl
    rw [ke]
    have o8 : ∀ a b : Nat, a ≠ 119 → a ≠ 117 → mz_up g7 119 (6 * i + j) (kc b0 i j) a b = g5 a b := fun a b z1 z2 => (up_k z1).trans (f7 a b z2)
    have r := ih k (j + 1) (mz_up g7 119 (6 * i + j) (kc b0 i j)) (by omega) (by omega) (by omega) (fun a b z1 z2 z3 => (o8 a b z2 z1).trans ((o5 a b (by omega) (by omega)).trans (f a b z1 z2 z3))) ((o8 _ _ (by decide) (by decide)).trans E1) (fun s hs => (o8 _ _ (by decide) (by decide)).trans ((o5 _ _ (by decide) (by decide)).trans (e2 s hs))) (fun a b u v w => by
      by_cases z : a = i ∧ b = j
      · rw [z.1, z.2, mz_up_at]
      · rw [up_j (by omega), f7 119 _ (by decide), o5 119 _ (by decide) (by decide)]
        exact I a b u (by omega) w)
    rw [show ((j + 1 : Nat) : Int) = (j : Int) + 1 by omega] at r
    exact r
theorem kA_o (hx : mk_x x) (k0 : ru x gA b0) : ∀ (m k i : Nat) (g : mz_G), (b0 140 1 - (i : Int)).toNat = m → m < k → (i : Int) ≤ b0 140 1 → fc_ gA g → (∀ a b : Nat, a < b → a < i → (b : Int) < b0 140 1 → g 119 (6 * a + b) = kc b0 a b) → ∃ g1, zL_X11_findCouples_7 x k (b0 140 1) (i : Int) g = zF_X3_find (b0 140 1) g1 ∧ fc_ gA g1 ∧ ∀ a b : Nat, a < b → (b : Int) < b0 140 1 → g1 119 (6 * a + b) = kc b0 a b := by
  have hld : x.1 = 1 ∨ x.1 = 41 := by unfold mk_x at hx; omega
  have c6 : b0 140 1 ≤ 6 := k0.2.2.1.1.2
  intro m
  induction m with
  | zero =>
    intro k i g hm hk hi f I
    obtain ⟨k, rfl⟩ : ∃ k1, k = k1 + 1 := ⟨k - 1, by omega⟩
    rw [zL_X11_findCouples_7_s]
    unfold zB_X11_findCouples_7
    simp only [zf_lq]
    rw [if_neg (by omega)]
    exact ⟨g, rfl, f, fun a b u w => I a b u (by omega) w⟩
  | succ m ih =>
    intro k i g hm hk hi f I
    obtain ⟨k, rfl⟩ : ∃ k1, k = k1 + 1 := ⟨k - 1, by omega⟩
    have hin : (i : Int) < b0 140 1 := by omega
    obtain ⟨-, ⟨q0, q1, q2, q3, q4⟩, vv, ss, tt, t6⟩ := now_t k0 (t := (i : Int)) (by omega) hin
    rw [show ((i : Nat) : Int).toNat = i from rfl] at q0 q1 q2 q3 q4 vv ss tt
    have bi := tn_b k0 hin
    have S : sta x.1 g b0 := sta_A k0.2.1 (fun a b u v => f a b (by omega) (by omega) (by omega))
    have ft : ∀ b : Nat, g (87 + 3 + i) b = gA (87 + 3 + i) b := fun b => f _ b (by omega) (by omega) (by omega)
    rw [zL_X11_findCouples_7_s]
    unfold zB_X11_findCouples_7
    simp only [zf_lq]
    rw [if_pos hin, get_A (by omega) t6, show ((i : Nat) : Int).toNat = i from rfl]
    obtain ⟨n1, en, t⟩ := blend_A hld (q := 133) (by decide) rfl S (q1 := 87 + 3 + i) ⟨by omega, by omega⟩ ((ft 0).trans q0) ((ft 1).trans q1) ((ft 3).trans q3) vv
    generalize zF_X1_blendInto x.1 (87 + 3 + i) 133 g = g3 at *
    have tni : bn b0 (b0 153 i) (b0 154 i) (b0 152 i) = tn b0 i := rfl
    rw [tni] at en
    have o3 : ∀ a b : Nat, a ≠ 133 → a ≠ 134 → g3 a b = g a b := fun a b z1 z2 => t.2.2 a b (by omega) z2
    obtain ⟨g9, e9, f9, I9⟩ := kA_i hx k0 hin (b0 140 1 - ((i + 1 : Nat) : Int)).toNat 3000000000 (i + 1) g3 rfl (by omega) (by omega) (fun a b z1 z2 z3 => (o3 a b (by omega) (by omega)).trans (f a b z1 z2 z3)) (by rw [t.1, en]) (fun s hs => t.2.1 s (by omega)) (fun a b u v w => by
      rw [o3 119 _ (by decide) (by decide)]
      exact I a b u (by omega) w)
    rw [show ((i + 1 : Nat) : Int) = (i : Int) + 1 by omega] at e9
    rw [e9]
    have r := ih k (i + 1) g9 (by omega) (by omega) (by omega) f9 I9
    rw [show ((i + 1 : Nat) : Int) = (i : Int) + 1 by omega] at r
    exact r
/-- the reference's costs -/
theorem kB_i (k0 : ru x gA b0) {i : Nat} (hi : (i : Int) < b0 140 1) : ∀ (m k j : Nat) (h : mz_G), (b0 140 1 - (j : Int)).toNat = m → m < k → fd_ b0 h → h 137 36 = tn b0 i → (∀ s : Nat, (s : Int) < tn b0 i → h 157 s = tc b0 i s) → (∀ a b : Nat, (a < i ∨ (a = i ∧ b < j)) → (b : Int) < b0 140 1 → h 164 (6 * a + b) = kc b0 a b) → ∃ h1, zL_X12_tellCouples_27 k (i : Int) (j : Int) h = h1 ∧ fd_ b0 h1 ∧ ∀ a b : Nat, a < i + 1 → (b : Int) < b0 140 1 → h1 164 (6 * a + b) = kc b0 a b := by
  have c6 : b0 140 1 ≤ 6 := k0.2.2.1.1.2
  have bi := tn_b k0 hi
  intro m
  induction m with
  | zero =>
    intro k j h hm hk f e1 e2 I
    obtain ⟨k, rfl⟩ : ∃ k1, k = k1 + 1 := ⟨k - 1, by omega⟩
    rw [zL_X12_tellCouples_27_s]
    unfold zB_X12_tellCouples_27
    simp only [zf_lq]
    rw [f 140 1 (by omega) (by omega) (by omega), if_neg (by omega)]
    exact ⟨h, rfl, f, fun a b u w => I a b (by omega) w⟩
  | succ m ih =>
    intro k j h hm hk f e1 e2 I
    obtain ⟨k, rfl⟩ : ∃ k1, k = k1 + 1 := ⟨k - 1, by omega⟩
    have hjn : (j : Int) < b0 140 1 := by omega
    obtain ⟨-, -, vv, ss, tt, t6⟩ := now_t k0 (t := (j : Int)) (by omega) hjn
    rw [show ((j : Nat) : Int).toNat = j from rfl] at vv
    have bj := tn_b k0 hjn
    have Q : su_e b0 h := fun a b u v => f a b (by omega) (by omega) (by omega)
    rw [zL_X12_tellCouples_27_s]
    unfold zB_X12_tellCouples_27
    simp only [zf_lq]
    rw [f 140 1 (by omega) (by omega) (by omega), if_pos hjn]
    obtain ⟨g1, e, tb1, f1⟩ := blend_B (q1 := 158) (nq := 16) (b0 := h) (t := (j : Int)) (by decide) (sta_B k0.2.1 Q).1 (vt_of Q vv) (f 153 j (by omega) (by omega) (by omega)) (f 154 j (by omega) (by omega) (by omega)) (f 152 j (by omega) (by omega) (by omega))
    rw [bn_c Q] at e tb1
    have tnj : bn b0 (b0 153 j) (b0 154 j) (b0 152 j) = tn b0 j := rfl
    rw [tnj] at e tb1
    rw [e]
    unfold zf_m2
    dsimp only
    have o8 : ∀ a b : Nat, a ≠ 158 → ¬ (a = 137 ∧ b = 37) → mz_up g1 137 37 (tn b0 j) a b = h a b := fun a b z1 z2 => (mz_up_ne z2).trans (f1 a b z1)
    have e37 : mz_up g1 137 37 (tn b0 j) 137 37 = tn b0 j := mz_up_at ..
    have t158 : ∀ s : Nat, (s : Int) < tn b0 j → mz_up g1 137 37 (tn b0 j) 158 s = tc b0 j s := fun s hs => (up_k (by decide)).trans ((tb1 s hs).trans (bc_c Q))
    generalize mz_up g1 137 37 (tn b0 j) = g8 at *
    have e36 : g8 137 36 = tn b0 i := (o8 _ _ (by decide) (by decide)).trans e1
    have s157 : ∀ s : Nat, (s : Int) < tn b0 i → g8 157 s = tc b0 i s := fun s hs => (o8 _ _ (by decide) (by omega)).trans (e2 s hs)
    obtain ⟨h9, e9, f9⟩ := compared_B (g0 := g8) (a1 := 1) (by rw [e36]; omega) (by rw [e37]; omega) (by rw [e36]; omega) (by rw [e37]; omega)
    rw [e36, e37] at e9
    have e9' : zF_X12_compared 1 g8 = (kc b0 i j, h9) := by
      rw [e9]
      unfold tb kc
      rw [if_neg (by decide), edr_c (lp := tn b0 i) (lq := tn b0 j) s157 t158 _ _ (by omega) (by omega)]
    rw [e9']
    dsimp only
    rw [show (6 * (i : Int) + (j : Int)).toNat = 6 * i + j by omega]
    have o9 : ∀ a b : Nat, a ≠ 164 → a ≠ 159 → a ≠ 158 → ¬ (a = 137 ∧ b = 37) → mz_up h9 164 (6 * i + j) (kc b0 i j) a b = h a b := fun a b z1 z2 z3 z4 => (up_k z1).trans ((f9 a b z2).trans (o8 a b z3 z4))
    have r := ih k (j + 1) (mz_up h9 164 (6 * i + j) (kc b0 i j)) (by omega) (by omega) (fun a b z1 z2 z3 => (o9 a b z2 (by omega) (by omega) (by omega)).trans (f a b z1 z2 z3)) ((o9 _ _ (by decide) (by decide) (by decide) (by decide)).trans e1) (fun s hs => (o9 _ _ (by decide) (by decide) (by decide) (by omega)).trans (e2 s hs)) (fun a b u w => by
      by_cases z : a = i ∧ b = j
      · rw [z.1, z.2, mz_up_at]
      · rw [up_j (by omega), f9 164 _ (by decide), o8 164 _ (by decide) (by omega)]
        exact I a b (by omega) w)
    rw [show ((j + 1 : Nat) : Int) = (j : Int) + 1 by omega] at r
    exact r
theorem kB_o (k0 : ru x gA b0) : ∀ (m k i : Nat) (h : mz_G), (b0 140 1 - (i : Int)).toNat = m → m < k → (i : Int) ≤ b0 140 1 → fd_ b0 h → (∀ a b : Nat, a < i → (b : Int) < b0 140 1 → h 164 (6 * a + b) = kc b0 a b) → ∃ h1, zL_X12_tellCouples_2 k (i : Int) h = zL_X12_tellCouples_87 3000000000 1 (mz_up h1 165 0 0) ∧ fd_ b0 h1 ∧ ∀ a b : Nat, (a : Int) < b0 140 1 → (b : Int) < b0 140 1 → h1 164 (6 * a + b) = kc b0 a b := by
  have c6 : b0 140 1 ≤ 6 := k0.2.2.1.1.2
  intro m
  induction m with
  | zero =>
    intro k i h hm hk hi f I
    obtain ⟨k, rfl⟩ : ∃ k1, k = k1 + 1 := ⟨k - 1, by omega⟩
    rw [zL_X12_tellCouples_2_s]
    unfold zB_X12_tellCouples_2
    simp only [zf_lq]
    rw [f 140 1 (by omega) (by omega) (by omega), if_neg (by omega)]
    exact ⟨h, rfl, f, fun a b u w => I a b (by omega) w⟩
  | succ m ih =>
    intro k i h hm hk hi f I
    obtain ⟨k, rfl⟩ : ∃ k1, k = k1 + 1 := ⟨k - 1, by omega⟩
    have hin : (i : Int) < b0 140 1 := by omega
    obtain ⟨-, -, vv, ss, tt, t6⟩ := now_t k0 (t := (i : Int)) (by omega) hin
    rw [show ((i : Nat) : Int).toNat = i from rfl] at vv
    have bi := tn_b k0 hin
    have Q : su_e b0 h := fun a b u v => f a b (by omega) (by omega) (by omega)
    rw [zL_X12_tellCouples_2_s]
    unfold zB_X12_tellCouples_2
    simp only [zf_lq]
    rw [f 140 1 (by omega) (by omega) (by omega), if_pos hin]
    obtain ⟨g1, e, tb1, f1⟩ := blend_B (q1 := 157) (nq := 16) (b0 := h) (t := (i : Int)) (by decide) (sta_B k0.2.1 Q).1 (vt_of Q vv) (f 153 i (by omega) (by omega) (by omega)) (f 154 i (by omega) (by omega) (by omega)) (f 152 i (by omega) (by omega) (by omega))
    rw [bn_c Q] at e tb1
    have tni : bn b0 (b0 153 i) (b0 154 i) (b0 152 i) = tn b0 i := rfl
    rw [tni] at e tb1
    rw [e]
    unfold zf_m2
    dsimp only
    have o4 : ∀ a b : Nat, a ≠ 157 → ¬ (a = 137 ∧ b = 36) → mz_up g1 137 36 (tn b0 i) a b = h a b := fun a b z1 z2 => (mz_up_ne z2).trans (f1 a b z1)
    have e36 : mz_up g1 137 36 (tn b0 i) 137 36 = tn b0 i := mz_up_at ..
    have t157 : ∀ s : Nat, (s : Int) < tn b0 i → mz_up g1 137 36 (tn b0 i) 157 s = tc b0 i s := fun s hs => (up_k (by decide)).trans ((tb1 s hs).trans (bc_c Q))
    generalize mz_up g1 137 36 (tn b0 i) = g4 at *
    obtain ⟨g9, e9, f9, I9⟩ := kB_i k0 hin (b0 140 1 - ((0 : Nat) : Int)).toNat 3000000000 0 g4 rfl (by omega) (fun a b z1 z2 z3 => (o4 a b (by omega) (by omega)).trans (f a b z1 z2 z3)) e36 t157 (fun a b u w => by
      rw [o4 164 _ (by decide) (by omega)]
      exact I a b (by omega) w)
    rw [show ((0 : Nat) : Int) = 0 from rfl] at e9
    rw [e9]
    have r := ih k (i + 1) g9 (by omega) (by omega) (by omega) f9 I9
    rw [show ((i + 1 : Nat) : Int) = (i : Int) + 1 by omega] at r
    exact r
/-- both searches -/
theorem coup_k (hx : mk_x x) (k0 : ru x gA b0) : ∃ n : Nat, n ≤ 6 ∧ b0 140 1 = n ∧ ∃ g1 h1, zF_X11_findCouples x gA = zF_X3_choosePartners (((2 ^ n : Nat) : Int) - 1) (n : Int) (mz_up g1 118 3 (g1 120 (2 ^ n - 1))) ∧ zF_X12_tellCouples b0 = h1 ∧ cpk n g1 h1 ∧ fk (2 ^ n) g1 h1 ∧ h1 137 2 = b0 137 2 ∧ h1 140 1 = n := by
  have c6 : b0 140 1 ≤ 6 := k0.2.2.1.1.2
  have n0 : 0 ≤ b0 140 1 := k0.2.2.1.1.1
  have n2 : gA 87 2 = b0 140 1 := k0.2.2.2.1.1.1
  obtain ⟨n, hn⟩ : ∃ n : Nat, b0 140 1 = n := ⟨(b0 140 1).toNat, by omega⟩
  have n6 : n ≤ 6 := by omega
  have h64 := cp_64 n6
  refine ⟨n, n6, hn, ?_⟩
  unfold zF_X11_findCouples zF_X11_trunkCount zF_X12_tellCouples
  simp only [zf_lq]
  rw [n2]
  obtain ⟨g1, e1, f1, I1⟩ := kA_o hx k0 (b0 140 1 - ((0 : Nat) : Int)).toNat 3000000000 0 gA rfl (by omega) (by omega) (fun _ _ _ _ _ => rfl) (fun a b u v w => absurd v (Nat.not_lt_zero _))
  obtain ⟨h1, e2, f2, I2⟩ := kB_o k0 (b0 140 1 - ((0 : Nat) : Int)).toNat 3000000000 0 b0 rfl (by omega) (by omega) (fun _ _ _ _ _ => rfl) (fun a b v w => absurd v (Nat.not_lt_zero _))
  rw [show ((0 : Nat) : Int) = 0 from rfl] at e1 e2
  rw [e1, e2, hn]
  unfold zF_X3_find
  simp only [zf_lq]
  rw [cp_11 ⟨n, by omega⟩, X11_put (n := 64) (by decide) (by decide), show (0 : Int).toNat = 0 from rfl]
  have C : cpk n (mz_up g1 120 0 0) (mz_up h1 165 0 0) := fun i j hi hj => by
    rw [up_k (by decide), up_k (by decide), I1 i j hi (by omega), I2 i j (by omega) (by omega)]
    have a := tn_b k0 (i := i) (by omega)
    have b := tn_b k0 (i := j) (by omega)
    have q := kc_b (b0 := b0) (i := i) (j := j) ⟨by omega, by omega⟩ ⟨by omega, by omega⟩
    exact ⟨rfl, q⟩
  have F : fk 1 (mz_up g1 120 0 0) (mz_up h1 165 0 0) := fun S hS => by
    rw [show S = 0 by omega, mz_up_at, mz_up_at]
    decide
  obtain ⟨g2, h2, u1, u2, u3, u4, u5, u6⟩ := all_l n6 (2 ^ n - 1) 3000000000 3000000000 1 (mz_up g1 120 0 0) (mz_up h1 165 0 0) rfl (by omega) (by omega) (by decide) (by omega) ((up_k (by decide)).trans ((f2 140 1 (by decide) (by decide) (by decide)).trans hn)) C F
  rw [show ((1 : Nat) : Int) = 1 from rfl] at u1 u2
  refine ⟨g2, h2, u1, u2, u3, u4, ?_, ?_⟩
  · exact (u6 _ _ (by decide)).trans ((up_k (by decide)).trans (f2 _ _ (by decide) (by decide) (by decide)))
  · exact (u6 _ _ (by decide)).trans ((up_k (by decide)).trans ((f2 _ _ (by decide) (by decide) (by decide)).trans hn))
/-- the choice leaves all but the partners -/
theorem cho_k {n : Nat} (hn : n ≤ 6) (nB : h 140 1 = n) (c : cpk n g0 h) (f : fk (2 ^ n) g0 h) {T : Nat} (hT : T < n) (hs : cp_has (2 ^ n - 1) T = true) : zF_X3_choosePartners (((2 ^ n : Nat) : Int) - 1) (n : Int) g0 121 T = (zL_X12_coupleOf_15 (T : Int) h 3000000000 (((2 ^ n : Nat) : Int) - 1)).1 ∧ (zL_X12_coupleOf_15 (T : Int) h 3000000000 (((2 ^ n : Nat) : Int) - 1)).2 = h := by
  have h64 := cp_64 hn
  unfold zF_X3_choosePartners
  obtain ⟨g1, e1, p1, -, -⟩ := cho_l hn nB c f hT (n - 0) 3000000000 3000000000 (2 ^ n - 1) 0 g0 rfl (by omega) (by omega) (by omega) (by omega) (fun u hu => absurd hu (Nat.not_lt_zero _)) (fun _ _ _ => rfl)
  rw [show ((2 ^ n - 1 : Nat) : Int) = ((2 ^ n : Nat) : Int) - 1 by omega, show ((0 : Nat) : Int) = 0 from rfl] at e1
  have p := p1 hs
  rw [show ((2 ^ n - 1 : Nat) : Int) = ((2 ^ n : Nat) : Int) - 1 by omega] at p
  rw [e1, p]
  exact ⟨rfl, rfl⟩
theorem cho_3 {n : Nat} (hn : n ≤ 6) : ∀ (m k l : Nat) (S : Int) (g : mz_G), n - l = m → m < k → l ≤ n → zL_X3_choosePartners_5 (((2 ^ n : Nat) : Int) - 1) (n : Int) k S (l : Int) g 118 3 = g 118 3 := by
  intro m
  induction m with
  | zero =>
    intro k l S g hm hk hl
    obtain ⟨k, rfl⟩ : ∃ k1, k = k1 + 1 := ⟨k - 1, by omega⟩
    rw [zL_X3_choosePartners_5_s]
    unfold zB_X3_choosePartners_5
    rw [if_neg (by omega)]
  | succ m ih =>
    intro k l S g hm hk hl
    obtain ⟨k, rfl⟩ : ∃ k1, k = k1 + 1 := ⟨k - 1, by omega⟩
    have I : ∀ (S : Int) (g : mz_G), zL_X3_choosePartners_5 (((2 ^ n : Nat) : Int) - 1) (n : Int) k S ((l : Int) + 1) g 118 3 = g 118 3 := fun S g => by
      have r := ih k (l + 1) S g (by omega) (by omega) (by omega)
      rw [show ((l + 1 : Nat) : Int) = (l : Int) + 1 by omega] at r
      exact r
    have P : ∀ (i v : Int) (g : mz_G), zF_X11_put 121 6 i v g 118 3 = g 118 3 := fun i v g => by
      unfold zF_X11_put
      simp only [zf_lq]
      repeat' split
      all_goals first | rfl | exact up_k (by decide)
    rw [zL_X3_choosePartners_5_s]
    unfold zB_X3_choosePartners_5 zJ_X3_choosePartners_82 zJ_X3_choosePartners_100 zJ_X3_choosePartners_131 zJ_X3_choosePartners_134
    simp only [zf_lq]
    rw [if_pos (by omega)]
    generalize zL_X3_choosePartners_39 (((2 ^ n : Nat) : Int) - 1) (n : Int) g 3000000000 S (l : Int) (mz_andI S (mz_xorI (mz_shlI 1 (l : Int)) (-1))) ((l : Int) + 1) = w
    by_cases y : mz_andI S (mz_shlI 1 (l : Int)) = 0
    · rw [if_pos y]
      exact I S g
    · rw [if_neg y]
      by_cases z : w < n
      · rw [if_pos z, if_pos z, I, P, P]
      · rw [if_neg z, if_neg z, I, P]
theorem couples_e (hx : mk_x x) (k : ru x gA gB) : (zF_X11_couples x gA).1 = (zF_X12_couples gB).1 := by
  have k1 := ru_2 (v := 0) k
  unfold zF_X11_couples zF_X12_couples zF_X3_total
  simp only [zf_lq]
  generalize mz_up gB 137 2 0 = b1 at *
  obtain ⟨n, n6, hn, g1, h1, e1, e2, c, f, -, nB⟩ := coup_k hx k1
  have h64 := cp_64 n6
  rw [e1, e2, nB, cp_11 ⟨n, by omega⟩, show (((2 ^ n : Nat) : Int) - 1).toNat = 2 ^ n - 1 by omega]
  obtain ⟨f1, f2, f3⟩ := f (2 ^ n - 1) (by omega)
  have p := pc_6 (S := 2 ^ n - 1)
  unfold zF_X3_choosePartners
  have r := cho_3 n6 (n - 0) 3000000000 0 (((2 ^ n : Nat) : Int) - 1) (mz_up g1 118 3 (g1 120 (2 ^ n - 1))) rfl (by omega) (by omega)
  rw [show ((0 : Nat) : Int) = 0 from rfl] at r
  rw [r, mz_up_at, f1]
  have q : cp_pc (2 ^ n - 1) % 2 = 0 ∨ cp_pc (2 ^ n - 1) % 2 = 1 := by omega
  generalize g1 120 (2 ^ n - 1) = v at *
  have z : ∀ w : Int, 0 ≤ w → w ≤ 2000 → zf_remI w 1000 = w % 1000 := fun w a b => by
    exact zf_rem_of ⟨by omega, by omega⟩ ⟨by decide, by decide⟩ a (by decide)
  rcases q with q | q
  · rw [q, z _ (by omega) (by omega)]
    omega
  · rw [q, z _ (by omega) (by omega)]
    omega
theorem cp_13 : ∀ n : Fin 7, ∀ t : Fin 6, t.val < n.val → cp_has (2 ^ n.val - 1) t.val = true := by decide +kernel
theorem trunk_a (hx : mk_x x) (k : ru x gA gB) {a1 a2 : Int} : ka (zF_X11_trunk x a1 a2 gA) (zF_X12_trunk a1 a2 gB) := by
  have hld : x.1 = 1 ∨ x.1 = 41 := by unfold mk_x at hx; omega
  have k1 := ru_2 (v := 0) k
  unfold zF_X11_trunk zF_X12_trunk zJ_X11_trunk_22 zJ_X11_trunk_23
  simp only [zf_lq]
  rw [isT_A, isT_B, mb_0, mb_1]
  generalize hb : mz_up gB 137 2 0 = b1 at *
  have c0 : b1 137 2 = 0 := by rw [← hb, mz_up_at]
  clear k hb
  have n2 : gA 87 2 = b1 140 1 := k1.2.2.2.1.1.1
  have W : sa_w x.1 gA b1 := k1.2.1.1
  rw [n2]
  by_cases h1 : 0 ≤ a1 ∧ a1 < b1 140 1
  · obtain ⟨-, ⟨e0, e1, e2, e3, e4⟩, vv, ss, tt, t6⟩ := now_t k1 h1.1 h1.2
    obtain ⟨v0, v1, v2, v3, -, -⟩ := id vv
    rw [if_pos h1, i10, i10, get_A h1.1 t6]
    by_cases y8 : a2 < 0
    · rw [if_pos y8, if_neg (show ¬ a2 = 0 by omega), if_neg (show ¬ a2 = 1 by omega), if_neg (show ¬ a2 = 2 by omega), if_neg (show ¬ a2 = 3 by omega), if_neg (show ¬ a2 = 4 by omega), if_neg (show ¬ a2 = 5 by omega), if_neg (show ¬ a2 = 6 by omega), if_neg (show ¬ a2 = 7 by omega)]
      exact ka_fail (c := 1) rfl (by decide)
    · rw [if_neg y8]
      by_cases y9 : 7 < a2
      · rw [if_pos y9, if_neg (show ¬ a2 = 0 by omega), if_neg (show ¬ a2 = 1 by omega), if_neg (show ¬ a2 = 2 by omega), if_neg (show ¬ a2 = 3 by omega), if_neg (show ¬ a2 = 4 by omega), if_neg (show ¬ a2 = 5 by omega), if_neg (show ¬ a2 = 6 by omega), if_neg (show ¬ a2 = 7 by omega)]
        exact ka_fail (c := 1) rfl (by decide)
      · rw [if_neg y9]
        by_cases z0 : a2 = 0
        · rw [if_pos z0, if_pos z0]
          exact ka_0 c0 e0
        rw [if_neg z0, if_neg z0]
        by_cases z1 : a2 = 1
        · rw [if_pos z1, if_pos z1]
          exact ka_0 c0 e1
        rw [if_neg z1, if_neg z1]
        by_cases z2 : a2 = 2
        · rw [if_pos z2, if_pos z2]
          exact ka_0 c0 e2
        rw [if_neg z2, if_neg z2]
        by_cases z3 : a2 = 3
        · rw [if_pos z3, if_pos z3]
          exact ka_0 c0 e3
        rw [if_neg z3, if_neg z3]
        by_cases z4 : a2 = 4
        · rw [if_pos z4, if_pos z4, full_A W (by rw [e0]; exact v0) (by rw [e0]; exact v1) (by rw [e1]; exact v2) (by rw [e1]; exact v3), full_B, e0, e1]
          exact ka_0 c0 rfl
        rw [if_neg z4, if_neg z4]
        by_cases z5 : a2 = 5
        · rw [if_pos z5, if_pos z5, bsize_n W e0 e1 e3 vv, bsize_m (su_e_r b1) rfl rfl rfl]
          exact ka_0 c0 rfl
        rw [if_neg z5, if_neg z5]
        by_cases z6 : a2 = 6
        · rw [if_pos z6, if_pos z6, e4]
          rcases tt with w | w
          · rw [w, if_pos rfl]
            exact ka_0 c0 rfl
          · rw [w, if_neg (by decide)]
            exact ka_0 c0 rfl
        rw [if_neg z6, if_neg z6, if_pos (show a2 = 7 by omega)]
        unfold zF_X3_partnerOf zF_X12_coupleOf
        simp only [zf_lq]
        obtain ⟨n, n6, hn, g1, g2, u1, u2, c, f, cc, nB⟩ := coup_k hx k1
        have h64 := cp_64 n6
        rw [u1, u2, nB, cp_11 ⟨n, by omega⟩, X11_at (n := 6) h1.1 (by omega)]
        have C : cpk n (mz_up g1 118 3 (g1 120 (2 ^ n - 1))) g2 := fun i j hi hj => by
          rw [up_k (by decide)]
          exact c i j hi hj
        have F : fk (2 ^ n) (mz_up g1 118 3 (g1 120 (2 ^ n - 1))) g2 := fun S hS => by
          rw [up_k (by decide)]
          exact f S hS
        have q := cho_k n6 nB C F (T := a1.toNat) (by omega) (cp_13 ⟨n, by omega⟩ ⟨a1.toNat, by omega⟩ (by dsimp only; omega))
        rw [show ((a1.toNat : Nat) : Int) = a1 by omega] at q
        unfold zf_m2
        refine ka_0 ?_ q.1
        rw [q.2]
        exact cc.trans c0
  · rw [if_neg h1, i00, i00]
    exact ka_fail (c := 1) rfl (by decide)
end WH2
