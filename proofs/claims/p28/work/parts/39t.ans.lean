/-! ANSWERS (20): look -/
/-- how grown a trunk is in six days with a strap -/
def g6_ (b0 : mz_G) (u : Nat) (s : Int) : Int := gnd b0 (b0 144 u) (b0 153 u) (b0 154 u) s 6 (b0 152 u) (b0 137 30)
/-- a mask of nine bits -/
def mp_ (m : Int) (P : Nat → Prop) : Prop := ∃ a : Nat, m = (a : Int) ∧ a < 512 ∧ ∀ j : Nat, j < 9 → (a / 2 ^ j % 2 = 1 ↔ P j)
section WK2
variable {x : mm_X} {g g0 g1 gA gB b0 h h0 : mz_G} {ld : Nat} {m m1 : Int} {P P1 : Nat → Prop}
theorem or_9 : ∀ j : Fin 9, ∀ a : Fin 512, mz_orI (a.val : Int) (mz_shlI 1 (j.val : Int)) = ((a.val ||| 2 ^ j.val : Nat) : Int) ∧ (a.val ||| 2 ^ j.val) < 512 := by decide +kernel
theorem tb_9 {a j : Nat} : a / 2 ^ j % 2 = 1 ↔ a.testBit j = true := by
  rw [Nat.testBit_eq_decide_div_mod_eq, decide_eq_true_eq]
theorem mp_or (h : mp_ m P) {d : Int} (h0 : 0 ≤ d) (h8 : d ≤ 8) : mp_ (mz_orI m (mz_shlI 1 d)) (fun j => P j ∨ (j : Int) = d) := by
  obtain ⟨a, e, l, b⟩ := h
  obtain ⟨o1, o2⟩ := or_9 ⟨d.toNat, by omega⟩ ⟨a, l⟩
  dsimp only at o1 o2
  rw [show ((d.toNat : Nat) : Int) = d by omega] at o1
  refine ⟨a ||| 2 ^ d.toNat, by rw [e, o1], o2, fun j hj => ?_⟩
  rw [tb_9, Nat.testBit_or, Bool.or_eq_true, ← tb_9, b j hj, Nat.testBit_two_pow, decide_eq_true_eq]
  have : d.toNat = j ↔ (j : Int) = d := by omega
  rw [this]
theorem mp_0 : mp_ 0 (fun _ => False) := ⟨0, rfl, by decide, fun j _ => by rw [Nat.zero_div]; exact ⟨fun z => absurd z (by decide), fun z => False.elim z⟩⟩
theorem mp_c (h : mp_ m P) (e : ∀ j : Nat, j < 9 → (P j ↔ P1 j)) : mp_ m P1 := by
  obtain ⟨a, e1, l, b⟩ := h
  exact ⟨a, e1, l, fun j hj => (b j hj).trans (e j hj)⟩
theorem mp_u (h : mp_ m P) (h1 : mp_ m1 P1) (e : ∀ j : Nat, j < 9 → (P j ↔ P1 j)) : m = m1 := by
  obtain ⟨a, e1, l, b⟩ := h
  obtain ⟨a', e1', l', b'⟩ := h1
  rw [e1, e1']
  congr 1
  apply Nat.eq_of_testBit_eq
  intro j
  by_cases hj : j < 9
  · have q := (b j hj).trans ((e j hj).trans (b' j hj).symm)
    rw [tb_9, tb_9] at q
    exact Bool.eq_iff_iff.mpr q
  · have p : 2 ^ 9 ≤ 2 ^ j := Nat.pow_le_pow_right (by decide) (by omega)
    rw [Nat.testBit_lt_two_pow (by omega), Nat.testBit_lt_two_pow (by omega)]
theorem bc_9 : ∀ a : Fin 512, zF_J6_bitCount (a.val : Int) (fun _ _ => 0) = pf 9 (a.val : Int) ∧ pz 9 (a.val : Int) = true := by decide +kernel
theorem mp_bc (h : mp_ m P) : zF_J6_bitCount m g = pf 9 m ∧ zF_X12_bitsOf m g1 = pf 9 m := by
  obtain ⟨a, e, l, -⟩ := h
  obtain ⟨q1, q2⟩ := bc_9 ⟨a, l⟩
  dsimp only at q1 q2
  rw [e]
  refine ⟨q1, ?_⟩
  unfold zF_X12_bitsOf
  rw [bits_l 9 3000000000 0 (a : Int) q2 (by decide) (by decide) (by decide) (a : Int)]
  omega
theorem g6_b (k0 : ru x gA b0) {u : Nat} (hu : (u : Int) < b0 140 1) (s : Int) : 0 ≤ g6_ b0 u s ∧ g6_ b0 u s ≤ 8 := by
  obtain ⟨-, -, vv, ss, tt, t6⟩ := now_t k0 (t := (u : Int)) (by omega) hu
  rw [show ((u : Nat) : Int).toNat = u from rfl] at vv tt
  have vg := (gnd_b tt 6 _ (b0 137 30) vv (sp := s)).1
  have n := bn_b k0.2.1.1 vg
  exact ⟨n.2.2.1, n.2.2.2⟩
/-- the class's numbers of a trunk -/
theorem unl_l (hx : mk_x x) (k0 : ru x gA b0) {t : Nat} (ht : (t : Int) < b0 140 1) {a3 : Int} (h3 : a3 = 0 ∨ a3 = 1) : ∀ (n k v : Nat) (l5 : Int) (g : mz_G), 10 - v = n → n < k → v ≤ 10 → fp x gA g → mp_ l5 (fun j => ∃ w : Nat, w < v ∧ (fb b0 t w = true ∨ (a3 = 1 ∧ (w : Int) = b0 155 t)) ∧ (j : Int) = g6_ b0 t w) → ∃ r g1, zL_X11_unlikeNumbers_22 x (t : Int) (ms (fb b0 t) 10 : Int) a3 k (b0 155 t) l5 (v : Int) g = (r, g1) ∧ fp x gA g1 ∧ mp_ r (fun j => ∃ w : Nat, w < 10 ∧ (fb b0 t w = true ∨ (a3 = 1 ∧ (w : Int) = b0 155 t)) ∧ (j : Int) = g6_ b0 t w) := by
  have hld : x.1 = 1 ∨ x.1 = 41 := by unfold mk_x at hx; omega
  obtain ⟨-, ⟨e0, e1, e2, e3, e4⟩, vv, ss, tt, t6⟩ := now_t k0 (t := (t : Int)) (by omega) ht
  rw [show ((t : Nat) : Int).toNat = t from rfl] at e0 e1 e2 e3 e4 vv ss tt
  have e87 : gA 87 3 = b0 137 30 := k0.2.2.2.1.1.2.1
  have dd : 0 ≤ b0 137 30 ∧ b0 137 30 ≤ 999 := k0.2.2.2.1.1.2.2.2.1
  intro n
  induction n with
  | zero =>
    intro k v l5 g hm hk hv f I
    obtain ⟨k, rfl⟩ : ∃ k1, k = k1 + 1 := ⟨k - 1, by omega⟩
    rw [zL_X11_unlikeNumbers_22_s]
    unfold zB_X11_unlikeNumbers_22
    rw [if_pos (by omega)]
    have e : v = 10 := by omega
    rw [e] at I
    exact ⟨l5, g, rfl, f, I⟩
  | succ n ih =>
    intro k v l5 g hm hk hv f I
    obtain ⟨k, rfl⟩ : ∃ k1, k = k1 + 1 := ⟨k - 1, by omega⟩
    rw [zL_X11_unlikeNumbers_22_s]
    unfold zB_X11_unlikeNumbers_22 zJ_X11_unlikeNumbers_49 zJ_X11_unlikeNumbers_72
    simp only [zf_lq]
    rw [if_neg (by omega)]
    have A := an_10 ⟨ms (fb b0 t) 10, ms_lt 10⟩ ⟨v, by omega⟩
    dsimp only at A
    have A2 : mz_andI (ms (fb b0 t) 10 : Int) (mz_shlI 1 (v : Int)) = 0 ↔ ¬ fb b0 t v = true := by
      rw [← ms_bit (f := fb b0 t) 10 v (by omega)]
      exact decide_eq_decide.mp A
    -- not this strap
    have N : ¬ (fb b0 t v = true ∨ (a3 = 1 ∧ (v : Int) = b0 155 t)) → ∃ r g1, zL_X11_unlikeNumbers_22 x (t : Int) (ms (fb b0 t) 10 : Int) a3 k (b0 155 t) l5 ((v : Int) + 1) g = (r, g1) ∧ fp x gA g1 ∧ mp_ r (fun j => ∃ w : Nat, w < 10 ∧ (fb b0 t w = true ∨ (a3 = 1 ∧ (w : Int) = b0 155 t)) ∧ (j : Int) = g6_ b0 t w) := fun z => by
      have r := ih k (v + 1) l5 g (by omega) (by omega) (by omega) f (mp_c I (fun j _ => by
        constructor
        · rintro ⟨w, a, b⟩
          exact ⟨w, by omega, b⟩
        · rintro ⟨w, a, b, c⟩
          by_cases e : w = v
          · rw [e] at b
            exact absurd b z
          · exact ⟨w, by omega, b, c⟩))
      rw [show ((v + 1 : Nat) : Int) = (v : Int) + 1 by omega] at r
      exact r
    -- this one
    have Y : (fb b0 t v = true ∨ (a3 = 1 ∧ (v : Int) = b0 155 t)) → ∃ r g1, zL_X11_unlikeNumbers_22 x (t : Int) (ms (fb b0 t) 10 : Int) a3 k (b0 155 t) (mz_orI l5 (mz_shlI 1 (zF_X11_growProbe x (t : Int) (v : Int) 6 g 122 3))) ((v : Int) + 1) (zF_X11_growProbe x (t : Int) (v : Int) 6 g) = (r, g1) ∧ fp x gA g1 ∧ mp_ r (fun j => ∃ w : Nat, w < 10 ∧ (fb b0 t w = true ∨ (a3 = 1 ∧ (w : Int) = b0 155 t)) ∧ (j : Int) = g6_ b0 t w) := fun z => by
      have ft : ∀ b : Nat, g (87 + 3 + t) b = gA (87 + 3 + t) b := fun b => f _ b (by omega) (by omega) (by omega)
      obtain ⟨g7, eg, ⟨w0, w1, w3, w4⟩, wf⟩ := probe_A (t := (t : Int)) (s := (v : Int)) hld (fp_S hld k0.2.1 f) (by omega) t6 ((ft 0).trans e0) ((ft 1).trans e1) ((ft 3).trans e3) ((ft 4).trans e4) vv tt ((f 87 3 (by decide) (by omega) (by omega)).trans e87) dd.1 dd.2 (n := 6) (by decide) (by decide)
      rw [eg]
      have w3' : g7 122 3 = g6_ b0 t v := w3
      rw [w3']
      have gb := g6_b k0 ht (v : Int)
      have r := ih k (v + 1) _ g7 (by omega) (by omega) (by omega) (fp_t f wf) (mp_c (mp_or I gb.1 gb.2) (fun j _ => by
        constructor
        · rintro (⟨w, a, b⟩ | a)
          · exact ⟨w, by omega, b⟩
          · exact ⟨v, by omega, z, a⟩
        · rintro ⟨w, a, b, c⟩
          by_cases e : w = v
          · rw [e] at c
            exact Or.inr c
          · exact Or.inl ⟨w, by omega, b, c⟩))
      rw [show ((v + 1 : Nat) : Int) = (v : Int) + 1 by omega] at r
      exact r
    by_cases y : fb b0 t v = true
    · rw [if_neg (fun z => A2.mp z y)]
      exact Y (Or.inl y)
    · rw [if_pos (A2.mpr y)]
      by_cases y3 : a3 = 0
      · rw [if_pos y3]
        exact N (fun z => by
          rcases z with z | z
          · exact y z
          · omega)
      · rw [if_neg y3]
        by_cases y4 : (v : Int) = b0 155 t
        · rw [if_pos y4]
          exact Y (Or.inr ⟨by omega, y4⟩)
        · rw [if_neg y4]
          exact N (fun z => by
            rcases z with z | z
            · exact y z
            · exact y4 z.2)
theorem unl_A (hx : mk_x x) (k0 : ru x gA b0) {t : Nat} (ht : (t : Int) < b0 140 1) {a3 : Int} (h3 : a3 = 0 ∨ a3 = 1) (f : fp x gA g) : ∃ r g1, zF_X11_unlikeNumbers x (t : Int) (ms (fb b0 t) 10 : Int) a3 g = (r, g1) ∧ fp x gA g1 ∧ mp_ r (fun j => ∃ w : Nat, w < 10 ∧ (fb b0 t w = true ∨ (a3 = 1 ∧ (w : Int) = b0 155 t)) ∧ (j : Int) = g6_ b0 t w) := by
  have hld : x.1 = 1 ∨ x.1 = 41 := by unfold mk_x at hx; omega
  obtain ⟨-, ⟨e0, e1, e2, e3, e4⟩, vv, ss, tt, t6⟩ := now_t k0 (t := (t : Int)) (by omega) ht
  rw [show ((t : Nat) : Int).toNat = t from rfl] at e2
  unfold zF_X11_unlikeNumbers
  simp only [zf_lq]
  rw [get_A (by omega) t6, show ((t : Nat) : Int).toNat = t from rfl, f (87 + 3 + t) 2 (by omega) (by omega) (by omega), e2]
  exact unl_l hx k0 ht h3 (10 - 0) 3000000000 0 0 g rfl (by decide) (by decide) f (mp_c mp_0 (fun j _ => ⟨fun z => False.elim z, fun ⟨w, a, _⟩ => by omega⟩))
/-- the mask of a trunk, by all that fit -/
def fg (b0 : mz_G) (u : Nat) (t1 v1 : Nat) : Int := if u = t1 then g6_ b0 u v1 else g6_ b0 u (b0 155 u)
def lm (b0 : mz_G) (u : Nat) (m : Int) : Prop := mp_ m (fun j => ∃ t1 v1 : Nat, fx b0 (b0 140 1).toNat 0 t1 v1 ∧ (j : Int) = fg b0 u t1 v1)
theorem tt_p {n u : Nat} (hu : u < n) : cn (fb b0 u) 10 ≤ tt_ b0 n ∧ (cn (fb b0 u) 10 < tt_ b0 n ↔ ∃ t1 : Nat, t1 < n ∧ t1 ≠ u ∧ cn (fb b0 t1) 10 ≠ 0) := by
  induction n with
  | zero => omega
  | succ n ih =>
    have e : tt_ b0 (n + 1) = tt_ b0 n + cn (fb b0 n) 10 := rfl
    by_cases z : u = n
    · rw [e, z]
      refine ⟨by omega, ?_⟩
      have T : ∀ m : Nat, (0 < tt_ b0 m ↔ ∃ t1 : Nat, t1 < m ∧ cn (fb b0 t1) 10 ≠ 0) := fun m => by
        induction m with
        | zero => exact ⟨fun q => absurd q (Nat.lt_irrefl 0), fun ⟨t1, a, _⟩ => by omega⟩
        | succ m ih2 =>
          have e2 : tt_ b0 (m + 1) = tt_ b0 m + cn (fb b0 m) 10 := rfl
          rw [e2]
          constructor
          · intro q
            by_cases w : cn (fb b0 m) 10 = 0
            · obtain ⟨t1, a, b⟩ := ih2.mp (by omega)
              exact ⟨t1, by omega, b⟩
            · exact ⟨m, by omega, w⟩
          · rintro ⟨t1, a, b⟩
            by_cases w : t1 = m
            · rw [w] at b
              omega
            · have := ih2.mpr ⟨t1, by omega, b⟩
              omega
      constructor
      · intro q
        obtain ⟨t1, a, b⟩ := (T n).mp (by omega)
        exact ⟨t1, by omega, by omega, b⟩
      · rintro ⟨t1, a, b, c⟩
        have := (T n).mpr ⟨t1, by omega, c⟩
        omega
    · obtain ⟨i1, i2⟩ := ih (by omega)
      rw [e]
      refine ⟨by omega, ?_⟩
      constructor
      · intro q
        by_cases w : cn (fb b0 n) 10 = 0
        · obtain ⟨t1, a, b⟩ := i2.mp (by omega)
          exact ⟨t1, by omega, b⟩
        · exact ⟨n, by omega, fun y => z y.symm, w⟩
      · rintro ⟨t1, a, b, c⟩
        by_cases w : t1 = n
        · rw [w] at c
          omega
        · have := i2.mpr ⟨t1, by omega, b, c⟩
          omega
theorem lm_A (k0 : ru x gA b0) {t : Nat} (ht : (t : Int) < b0 140 1) {a3 r : Int} (e3 : a3 = if (cn (fb b0 t) 10 : Int) < (tt_ b0 (b0 140 1).toNat : Int) then 1 else 0) (M : mp_ r (fun j => ∃ w : Nat, w < 10 ∧ (fb b0 t w = true ∨ (a3 = 1 ∧ (w : Int) = b0 155 t)) ∧ (j : Int) = g6_ b0 t w)) : lm b0 t r := by
  obtain ⟨-, -, -, ss, -, -⟩ := now_t k0 (t := (t : Int)) (by omega) ht
  rw [show ((t : Nat) : Int).toNat = t from rfl] at ss
  obtain ⟨i1, i2⟩ := tt_p (b0 := b0) (n := (b0 140 1).toNat) (u := t) (by omega)
  refine mp_c M (fun j _ => ?_)
  constructor
  · rintro ⟨w, a, b | b, c⟩
    · exact ⟨t, w, ⟨by omega, b, Or.inl (by omega)⟩, by unfold fg; rw [if_pos rfl]; exact c⟩
    · have q : (cn (fb b0 t) 10 : Int) < (tt_ b0 (b0 140 1).toNat : Int) := by
        rcases Int.lt_or_le (cn (fb b0 t) 10 : Int) (tt_ b0 (b0 140 1).toNat : Int) with y | y
        · exact y
        · rw [if_neg (by omega)] at e3
          omega
      obtain ⟨t1, u1, u2, u3⟩ := i2.mp (by omega)
      obtain ⟨v1, y1, y2, -⟩ := cn_e u3
      refine ⟨t1, v1, ⟨by omega, y2, Or.inl u1⟩, ?_⟩
      unfold fg
      rw [if_neg (fun y => u2 y.symm), ← b.2]
      exact c
  · rintro ⟨t1, v1, ⟨f1, f2, f3⟩, c⟩
    unfold fg at c
    have t1n : t1 < (b0 140 1).toNat := by
      rcases f3 with d | d
      · exact d
      · omega
    by_cases y : t = t1
    · rw [if_pos y] at c
      rw [← y] at f2
      exact ⟨v1, by omega, Or.inl f2, c⟩
    · rw [if_neg y] at c
      have q := i2.mpr ⟨t1, t1n, fun z => y z.symm, by have := (cn_p f2 10 (by omega)).1; omega⟩
      refine ⟨(b0 155 t).toNat, by omega, Or.inr ⟨?_, by omega⟩, ?_⟩
      · rw [e3, if_pos (by omega)]
      · rw [show (((b0 155 t).toNat : Nat) : Int) = b0 155 t by omega]
        exact c
/-- the reference's masks: of each that fits -/
theorem lki_v (gw : ∀ u : Nat, (u : Int) < g0 140 1 → 0 ≤ g0 152 u ∧ g0 152 u ≤ 8) {M : Nat → Nat → Prop} {a1 l2 : Int} : ∀ (n k u : Nat) (g : mz_G), (g0 140 1 - (u : Int)).toNat = n → n < k → (u : Int) ≤ g0 140 1 → (∀ a b : Nat, a ≠ 171 → g a b = g0 a b) → (∀ w : Nat, (w : Int) < g0 140 1 → mp_ (g 171 w) (fun j => M w j ∨ (w < u ∧ (j : Int) = g0 152 w))) → ∃ g1, zL_X12_look_96 a1 k l2 (u : Int) g = g1 ∧ (∀ a b : Nat, a ≠ 171 → g1 a b = g0 a b) ∧ ∀ w : Nat, (w : Int) < g0 140 1 → mp_ (g1 171 w) (fun j => M w j ∨ (j : Int) = g0 152 w) := by
  intro n
  induction n with
  | zero =>
    intro k u g hm hk hu f J
    obtain ⟨k, rfl⟩ : ∃ k1, k = k1 + 1 := ⟨k - 1, by omega⟩
    rw [zL_X12_look_96_s]
    unfold zB_X12_look_96
    simp only [zf_lq]
    rw [f 140 1 (by decide), if_neg (by omega)]
    refine ⟨g, rfl, f, fun w hw => mp_c (J w hw) (fun j _ => ?_)⟩
    have : w < u := by omega
    constructor
    · rintro (a | a)
      · exact Or.inl a
      · exact Or.inr a.2
    · rintro (a | a)
      · exact Or.inl a
      · exact Or.inr ⟨this, a⟩
  | succ n ih =>
    intro k u g hm hk hu f J
    obtain ⟨k, rfl⟩ : ∃ k1, k = k1 + 1 := ⟨k - 1, by omega⟩
    have hun : (u : Int) < g0 140 1 := by omega
    rw [zL_X12_look_96_s]
    unfold zB_X12_look_96
    simp only [zf_lq]
    rw [f 140 1 (by decide), if_pos hun, show ((u : Nat) : Int).toNat = u from rfl, f 152 u (by decide)]
    have r := ih k (u + 1) (mz_up g 171 u (mz_orI (g 171 u) (mz_shlI 1 (g0 152 u)))) (by omega) (by omega) (by omega) (fun a b z => (up_k z).trans (f a b z)) (fun w hw => by
      by_cases e : w = u
      · rw [e, mz_up_at]
        refine mp_c (mp_or (J u hun) (gw u hun).1 (gw u hun).2) (fun j _ => ?_)
        constructor
        · rintro ((a | a) | a)
          · exact Or.inl a
          · omega
          · exact Or.inr ⟨by omega, a⟩
        · rintro (a | a)
          · exact Or.inl (Or.inl a)
          · exact Or.inr a.2
      · rw [up_j e]
        refine mp_c (J w hw) (fun j _ => ?_)
        constructor
        · rintro (a | a)
          · exact Or.inl a
          · exact Or.inr ⟨by omega, a.2⟩
        · rintro (a | a)
          · exact Or.inl a
          · exact Or.inr ⟨by omega, a.2⟩)
    rw [show ((u + 1 : Nat) : Int) = (u : Int) + 1 by omega] at r
    exact r
theorem lko_v (K : kr b0) (k0 : ru x gA b0) {a1 : Int} {hf : mz_G} (L : lf b0 (b0 140 1).toNat 0 hf) : ∀ (n k i : Nat) (g : mz_G), (hf 137 50 - (i : Int)).toNat = n → n < k → (i : Int) ≤ hf 137 50 → g 137 50 = hf 137 50 → (∀ j : Nat, g 170 j = hf 170 j) → qk 162 b0 g → sm5 b0 g → g 137 2 = 0 → (∀ u : Nat, (u : Int) < b0 140 1 → mp_ (g 171 u) (fun j => ∃ p t1 v1 : Nat, p < i ∧ hf 170 p = 10 * (t1 : Int) + v1 ∧ v1 ≤ 9 ∧ (j : Int) = fg b0 u t1 v1)) → ∃ h1, zL_X12_look_57 a1 k (i : Int) g = zL_X12_look_151 a1 h1 3000000000 (-1) 0 0 ∧ h1 140 1 = b0 140 1 ∧ h1 137 2 = 0 ∧ ∀ u : Nat, (u : Int) < b0 140 1 → mp_ (h1 171 u) (fun j => ∃ p t1 v1 : Nat, (p : Int) < hf 137 50 ∧ hf 170 p = 10 * (t1 : Int) + v1 ∧ v1 ≤ 9 ∧ (j : Int) = fg b0 u t1 v1) := by
  have c6 := K.2.2
  intro n
  induction n with
  | zero =>
    intro k i g hm hk hi e50 e170 q s c0 I
    obtain ⟨k, rfl⟩ : ∃ k1, k = k1 + 1 := ⟨k - 1, by omega⟩
    rw [zL_X12_look_57_s]
    unfold zB_X12_look_57
    simp only [zf_lq]
    rw [e50, if_neg (by omega)]
    refine ⟨g, rfl, q.1 140 1 (by decide) (by decide), c0, fun u hu => mp_c (I u hu) (fun j _ => ?_)⟩
    constructor
    · rintro ⟨p, t1, v1, a, b⟩
      exact ⟨p, t1, v1, by omega, b⟩
    · rintro ⟨p, t1, v1, a, b⟩
      exact ⟨p, t1, v1, by omega, b⟩
  | succ n ih =>
    intro k i g hm hk hi e50 e170 q s c0 I
    obtain ⟨k, rfl⟩ : ∃ k1, k = k1 + 1 := ⟨k - 1, by omega⟩
    obtain ⟨l1, l2, l3, l4⟩ := id L
    have hin : (i : Int) < hf 137 50 := by omega
    obtain ⟨t1, v1, ev, fv⟩ := l2 i hin
    have t1n : (t1 : Int) < b0 140 1 := by
      rcases fv.2.2 with d | d
      · omega
      · omega
    have v9 := fv.1
    rw [zL_X12_look_57_s]
    unfold zB_X12_look_57
    simp only [zf_lq]
    rw [e50, if_pos hin, show ((i : Nat) : Int).toNat = i from rfl, e170 i, ev, show (10 * (t1 : Int) + (v1 : Int)) / 10 = t1 by omega, show (10 * (t1 : Int) + (v1 : Int)) % 10 = v1 by omega, show ((t1 : Nat) : Int).toNat = t1 from rfl]
    have o1 : ∀ a b : Nat, a ≠ 155 → mz_up g 155 t1 (v1 : Int) a b = g a b := fun a b z => up_k z
    have s1 : mz_up g 155 t1 (v1 : Int) 155 t1 = (v1 : Int) := mz_up_at ..
    have s2 : ∀ u : Nat, u ≠ t1 → mz_up g 155 t1 (v1 : Int) 155 u = g 155 u := fun u z => up_j z
    have q1 : qk 162 b0 (mz_up g 155 t1 (v1 : Int)) := qk_fr (fun a b z => up_k (by omega)) q
    generalize mz_up g 155 t1 (v1 : Int) = h1 at *
    have K1 := kr_e q1.1 K
    obtain ⟨gg, gd, gf⟩ := goOn_B K1.1 K1.2.1 K1.2.2 (n := 6) (by decide) (by decide)
    have q2 := qk_go K (Or.inl rfl) (n := 6) (by decide) (by decide) q1
    have n1 : h1 140 1 = b0 140 1 := q1.1 140 1 (by decide) (by decide)
    have G : ∀ u : Nat, (u : Int) < b0 140 1 → zF_X12_goOn 6 h1 152 u = fg b0 u t1 v1 := fun u hu => by
      obtain ⟨m2, m3, m4, m5⟩ := s.2 u (by omega)
      have g2 := gg u (by omega)
      rw [gnd_c q1.1, q1.1 144 _ (by decide) (by decide), o1 153 _ (by decide), o1 154 _ (by decide), o1 152 _ (by decide), o1 137 _ (by decide), m2, m3, m4, s.1] at g2
      rw [g2]
      unfold fg g6_
      by_cases z : u = t1
      · rw [if_pos z, z, s1]
        rfl
      · rw [if_neg z, s2 u z, m5]
        rfl
    have F2 : ∀ b : Nat, zF_X12_goOn 6 h1 171 b = g 171 b := fun b => (gf _ _ (by unfold fw_dy; omega)).trans (o1 _ _ (by decide))
    have F3 : ∀ b : Nat, zF_X12_goOn 6 h1 170 b = hf 170 b := fun b => (gf _ _ (by unfold fw_dy; omega)).trans ((o1 _ _ (by decide)).trans (e170 b))
    have F4 : zF_X12_goOn 6 h1 137 50 = hf 137 50 := (gf _ _ (by unfold fw_dy; omega)).trans ((o1 _ _ (by decide)).trans e50)
    have F5 : zF_X12_goOn 6 h1 137 2 = 0 := (gf _ _ (by unfold fw_dy; omega)).trans ((o1 _ _ (by decide)).trans c0)
    have N2 : zF_X12_goOn 6 h1 140 1 = b0 140 1 := q2.1 140 1 (by decide) (by decide)
    generalize zF_X12_goOn 6 h1 = h2 at *
    obtain ⟨h3, e3, f3, J3⟩ := lki_v (g0 := h2) (M := fun u j => ∃ p t1 v1 : Nat, p < i ∧ hf 170 p = 10 * (t1 : Int) + v1 ∧ v1 ≤ 9 ∧ (j : Int) = fg b0 u t1 v1) (fun u hu => by
      rw [N2] at hu
      rw [G u hu]
      unfold fg
      split
      · exact g6_b k0 hu _
      · exact g6_b k0 hu _) (a1 := a1) (l2 := (i : Int)) (h2 140 1 - ((0 : Nat) : Int)).toNat 3000000000 0 h2 rfl (by omega) (by omega) (fun _ _ _ => rfl) (fun w hw => by
      rw [F2]
      refine mp_c (I w (by omega)) (fun j _ => ?_)
      constructor
      · intro a
        exact Or.inl a
      · rintro (a | a)
        · exact a
        · omega)
    rw [show ((0 : Nat) : Int) = 0 from rfl] at e3
    rw [e3]
    obtain ⟨R1, R2⟩ := qk_rec (Or.inl rfl) (qk_fr (g1 := h3) (fun a b z => f3 a b (by omega)) q2)
    obtain ⟨-, -, rr⟩ := recall_B (g := h3) (q := 162) (nq := 25) (p := 0) (by omega) (by decide)
    have r := ih k (i + 1) (zF_X12_recall 162 25 0 h3) (by omega) (by omega) (by omega) ((rr _ _ (by omega) (by omega)).trans ((f3 _ _ (by decide)).trans F4)) (fun j => (rr _ _ (by omega) (by omega)).trans ((f3 _ _ (by decide)).trans (F3 j))) R2 R1 ((rr _ _ (by omega) (by omega)).trans ((f3 _ _ (by decide)).trans F5)) (fun u hu => by
      rw [rr 171 u (by omega) (by omega)]
      refine mp_c (J3 u (by omega)) (fun j _ => ?_)
      rw [G u hu]
      constructor
      · rintro (⟨p, t2, v2, a, b⟩ | a)
        · exact ⟨p, t2, v2, by omega, b⟩
        · exact ⟨i, t1, v1, by omega, ev, v9, a⟩
      · rintro ⟨p, t2, v2, a, b, c, e⟩
        by_cases z : p = i
        · rw [z, ev] at b
          have : t1 = t2 ∧ v1 = v2 := by omega
          rw [← this.1, ← this.2] at e
          exact Or.inr e
        · exact Or.inl ⟨p, t2, v2, by omega, b, c, e⟩)
    rw [show ((i + 1 : Nat) : Int) = (i : Int) + 1 by omega] at r
    exact r
theorem lkb_v {a1 n : Int} {v : mz_G} : ∀ (m k l : Nat) (g : mz_G), 6 - l = m → m < k → l ≤ 6 → (∀ a b : Nat, a ≠ 171 → g a b = v a b) → (∀ u : Nat, u < l → g 171 u = 0) → ∃ g1, zL_X12_look_36 a1 k (l : Int) g = zL_X12_look_57 a1 3000000000 0 g1 ∧ (∀ a b : Nat, a ≠ 171 → g1 a b = v a b) ∧ ∀ u : Nat, u < 6 → g1 171 u = 0 := by
  intro m
  induction m with
  | zero =>
    intro k l g hm hk hl f I
    obtain ⟨k, rfl⟩ : ∃ k1, k = k1 + 1 := ⟨k - 1, by omega⟩
    rw [zL_X12_look_36_s]
    unfold zB_X12_look_36
    rw [if_neg (by omega)]
    exact ⟨g, rfl, f, fun u hu => I u (by omega)⟩
  | succ m ih =>
    intro k l g hm hk hl f I
    obtain ⟨k, rfl⟩ : ∃ k1, k = k1 + 1 := ⟨k - 1, by omega⟩
    rw [zL_X12_look_36_s]
    unfold zB_X12_look_36
    simp only [zf_lq]
    rw [if_pos (by omega), show ((l : Nat) : Int).toNat = l from rfl]
    have r := ih k (l + 1) (mz_up g 171 l 0) (by omega) (by omega) (by omega) (fun a b z => (up_k z).trans (f a b z)) (fun u hu => by
      by_cases e : u = l
      · rw [e, mz_up_at]
      · rw [up_j e]
        exact I u (by omega))
    rw [show ((l + 1 : Nat) : Int) = (l : Int) + 1 by omega] at r
    exact r
/-- the class's sum -/
theorem lka_s (hx : mk_x x) (k0 : ru x gA b0) {a1 : Int} : ∀ (m k t : Nat) (g : mz_G), (b0 140 1 - (t : Int)).toNat = m → m < k → (t : Int) ≤ b0 140 1 → fp x gA g → ∃ g1, zL_X11_look_27 x a1 k (ms (fo b0) (b0 140 1).toNat : Int) (tt_ b0 t : Int) (t : Int) g = zL_X11_look_64 x a1 3000000000 (ms (fo b0) (b0 140 1).toNat : Int) (tt_ b0 (b0 140 1).toNat : Int) (-1) 0 0 g1 ∧ fp x gA g1 := by
  have hld : x.1 = 1 ∨ x.1 = 41 := by unfold mk_x at hx; omega
  have c6 : b0 140 1 ≤ 6 := k0.2.2.1.1.2
  have n2 : gA 87 2 = b0 140 1 := k0.2.2.2.1.1.1
  intro m
  induction m with
  | zero =>
    intro k t g hm hk ht f
    obtain ⟨k, rfl⟩ : ∃ k1, k = k1 + 1 := ⟨k - 1, by omega⟩
    rw [zL_X11_look_27_s]
    unfold zB_X11_look_27 zF_X11_trunkCount
    simp only [zf_lq]
    rw [f 87 2 (by decide) (by omega) (by omega), n2, if_neg (by omega), show (b0 140 1).toNat = t by omega]
    exact ⟨g, rfl, f⟩
  | succ m ih =>
    intro k t g hm hk ht f
    obtain ⟨k, rfl⟩ : ∃ k1, k = k1 + 1 := ⟨k - 1, by omega⟩
    have htn : (t : Int) < b0 140 1 := by omega
    rw [zL_X11_look_27_s]
    unfold zB_X11_look_27 zF_X11_trunkCount
    simp only [zf_lq]
    obtain ⟨g8, e8, f8⟩ := lst_A hx k0 (t := (t : Int)) (by omega) htn f
    rw [show ((t : Nat) : Int).toNat = t from rfl] at e8
    rw [f 87 2 (by decide) (by omega) (by omega), n2, if_pos htn, e8]
    unfold zf_m2
    dsimp only
    have c10 := cn_b (f := fb b0 t) 10
    have tb := tt_b (b0 := b0) (t := t)
    rw [ms_bc 10 (by decide), mz_wrap_id ⟨by omega, by omega⟩]
    have r := ih k (t + 1) g8 (by omega) (by omega) (by omega) f8
    rw [show ((t + 1 : Nat) : Int) = (t : Int) + 1 by omega, show ((tt_ b0 (t + 1) : Nat) : Int) = (tt_ b0 t : Int) + (cn (fb b0 t) 10 : Int) by show ((tt_ b0 t + cn (fb b0 t) 10 : Nat) : Int) = _; omega] at r
    exact r
/-- the choice, in both -/
theorem lk_e (hx : mk_x x) (k0 : ru x gA b0) {a1 : Int} (n1 : h 140 1 = b0 140 1) (M : ∀ u : Nat, (u : Int) < b0 140 1 → lm b0 u (h 171 u)) : ∀ (m k1 k2 t : Nat) (l2 l3 : Int) (g : mz_G), (b0 140 1 - (t : Int)).toNat = m → m < k1 → m < k2 → (t : Int) ≤ b0 140 1 → fp x gA g → ∃ r g1, zL_X11_look_64 x a1 k1 (ms (fo b0) (b0 140 1).toNat : Int) (tt_ b0 (b0 140 1).toNat : Int) l2 l3 (t : Int) g = (0, r, g1) ∧ zL_X12_look_151 a1 h k2 l2 l3 (t : Int) = (r, h) := by
  have hld : x.1 = 1 ∨ x.1 = 41 := by unfold mk_x at hx; omega
  have c6 : b0 140 1 ≤ 6 := k0.2.2.1.1.2
  have n2 : gA 87 2 = b0 140 1 := k0.2.2.2.1.1.1
  intro m
  induction m with
  | zero =>
    intro k1 k2 t l2 l3 g hm hk1 hk2 ht f
    obtain ⟨k1, rfl⟩ : ∃ k, k1 = k + 1 := ⟨k1 - 1, by omega⟩
    obtain ⟨k2, rfl⟩ : ∃ k, k2 = k + 1 := ⟨k2 - 1, by omega⟩
    rw [zL_X11_look_64_s, zL_X12_look_151_s]
    unfold zB_X11_look_64 zB_X12_look_151 zF_X11_trunkCount
    simp only [zf_lq]
    have zt : ¬ (t : Int) < b0 140 1 := by omega
    rw [f 87 2 (by decide) (by omega) (by omega), n2, n1, if_neg zt, if_neg zt]
    by_cases y : a1 = 0
    · rw [if_pos y, if_pos y]
      exact ⟨l2, g, rfl, rfl⟩
    · rw [if_neg y, if_neg y]
      exact ⟨l3, g, rfl, rfl⟩
  | succ m ih =>
    intro k1 k2 t l2 l3 g hm hk1 hk2 ht f
    obtain ⟨k1, rfl⟩ : ∃ k, k1 = k + 1 := ⟨k1 - 1, by omega⟩
    obtain ⟨k2, rfl⟩ : ∃ k, k2 = k + 1 := ⟨k2 - 1, by omega⟩
    have htn : (t : Int) < b0 140 1 := by omega
    rw [zL_X11_look_64_s, zL_X12_look_151_s]
    unfold zB_X11_look_64 zJ_X11_look_96 zJ_X11_look_128 zB_X12_look_151 zJ_X12_look_193 zF_X11_trunkCount
    simp only [zf_lq]
    obtain ⟨g8, e8, f8⟩ := lst_A hx k0 (t := (t : Int)) (by omega) htn f
    rw [show ((t : Nat) : Int).toNat = t from rfl] at e8
    rw [f 87 2 (by decide) (by omega) (by omega), n2, n1, if_pos htn, if_pos htn, e8, show ((t : Nat) : Int).toNat = t from rfl]
    unfold zf_m2
    dsimp only
    rw [ms_bc 10 (by decide)]
    have E : ∀ a3 : Int, (a3 = if (cn (fb b0 t) 10 : Int) < (tt_ b0 (b0 140 1).toNat : Int) then 1 else 0) → ∃ r g1, (if l3 < zF_J6_bitCount (zF_X11_unlikeNumbers x (t : Int) (ms (fb b0 t) 10 : Int) a3 g8).1 (zF_X11_unlikeNumbers x (t : Int) (ms (fb b0 t) 10 : Int) a3 g8).2 then zL_X11_look_64 x a1 k1 (ms (fo b0) (b0 140 1).toNat : Int) (tt_ b0 (b0 140 1).toNat : Int) (t : Int) (zF_J6_bitCount (zF_X11_unlikeNumbers x (t : Int) (ms (fb b0 t) 10 : Int) a3 g8).1 (zF_X11_unlikeNumbers x (t : Int) (ms (fb b0 t) 10 : Int) a3 g8).2) ((t : Int) + 1) (zF_X11_unlikeNumbers x (t : Int) (ms (fb b0 t) 10 : Int) a3 g8).2 else zL_X11_look_64 x a1 k1 (ms (fo b0) (b0 140 1).toNat : Int) (tt_ b0 (b0 140 1).toNat : Int) l2 l3 ((t : Int) + 1) (zF_X11_unlikeNumbers x (t : Int) (ms (fb b0 t) 10 : Int) a3 g8).2) = (0, r, g1) ∧ (if l3 < zF_X12_bitsOf (h 171 t) h then zL_X12_look_151 a1 h k2 (t : Int) (zF_X12_bitsOf (h 171 t) h) ((t : Int) + 1) else zL_X12_look_151 a1 h k2 l2 l3 ((t : Int) + 1)) = (r, h) := fun a3 e3 => by
      have h3 : a3 = 0 ∨ a3 = 1 := by
        rw [e3]
        split
        · exact Or.inr rfl
        · exact Or.inl rfl
      obtain ⟨r, g9, e9, f9, M9⟩ := unl_A hx k0 htn h3 f8
      rw [e9]
      dsimp only
      have q := mp_u (lm_A k0 htn e3 M9) (M t htn) (fun j _ => Iff.rfl)
      have q1 := (mp_bc (g := g9) (g1 := h) (M t htn)).1
      have q2 := (mp_bc (g := g9) (g1 := h) (M t htn)).2
      rw [q, q1, q2]
      have R : ∀ l2 l3 : Int, ∃ r g1, zL_X11_look_64 x a1 k1 (ms (fo b0) (b0 140 1).toNat : Int) (tt_ b0 (b0 140 1).toNat : Int) l2 l3 ((t : Int) + 1) g9 = (0, r, g1) ∧ zL_X12_look_151 a1 h k2 l2 l3 ((t : Int) + 1) = (r, h) := fun l2 l3 => by
        have r := ih k1 k2 (t + 1) l2 l3 g9 (by omega) (by omega) (by omega) (by omega) f9
        rw [show ((t + 1 : Nat) : Int) = (t : Int) + 1 by omega] at r
        exact r
      by_cases z : l3 < pf 9 (h 171 t)
      · rw [if_pos z, if_pos z]
        exact R _ _
      · rw [if_neg z, if_neg z]
        exact R _ _
    by_cases z : (cn (fb b0 t) 10 : Int) < (tt_ b0 (b0 140 1).toNat : Int)
    · rw [if_pos z]
      exact E 1 (by rw [if_pos z])
    · rw [if_neg z]
      exact E 0 (by rw [if_neg z])
theorem look_a (hx : mk_x x) (K : kr gB) (S : sn_b gB) (k : ru x gA gB) {a1 : Int} : ka (zF_X11_look x a1 gA) (zF_X12_look a1 gB) := by
  have hld : x.1 = 1 ∨ x.1 = 41 := by unfold mk_x at hx; omega
  have k1 := ru_2 (v := 0) k
  have K1 : kr (mz_up gB 137 2 0) := kr_e (g0 := gB) (fun a b u v => up_k (by omega)) K
  have S1 : sn_b (mz_up gB 137 2 0) := ⟨by rw [up_j (by decide)]; exact S.1, fun j => by rw [up_k (by decide)]; exact S.2 j⟩
  unfold zF_X11_look zF_X12_look zJ_X11_look_9 zJ_X11_look_14
  simp only [zf_lq]
  rw [isI_B, mb_0, mb_1]
  generalize hb : mz_up gB 137 2 0 = b1 at *
  have c0 : b1 137 2 = 0 := by rw [← hb, mz_up_at]
  clear k hb
  have c6 : b1 140 1 ≤ 6 := k1.2.2.1.1.2
  have n0 : 0 ≤ b1 140 1 := k1.2.2.1.1.1
  have G : (0 ≤ a1 ∧ a1 ≤ 1) → ka (zf_m2 (zF_X11_fittingTrunks x gA) fun v3 g4 => zL_X11_look_27 x a1 3000000000 v3 0 0 g4) (zL_X12_look_36 a1 3000000000 0 (zF_X12_store 162 25 0 (zF_X12_tellFits b1))) := fun h => by
    obtain ⟨g4, e4, f4⟩ := fit_A hx k1 (g := gA) (fun _ _ _ _ _ => rfl)
    rw [e4]
    unfold zf_m2
    dsimp only
    obtain ⟨g5, e5, f5⟩ := lka_s hx k1 (a1 := a1) (b1 140 1 - ((0 : Nat) : Int)).toNat 3000000000 0 g4 rfl (by omega) (by omega) f4
    rw [show ((0 : Nat) : Int) = 0 from rfl, show ((tt_ b1 0 : Nat) : Int) = 0 from rfl] at e5
    rw [e5]
    have l := tf_v K1 (sb_of k1) S1 n0
    have F := fits_s K1 S1
    have c2 : zF_X12_tellFits b1 137 2 = 0 := (F.2 _ _ (by unfold fz; omega) (by omega) (by omega)).trans c0
    have Q : su_e b1 (zF_X12_tellFits b1) := fun a b u v => F.2 a b (by unfold fz; omega) (by omega) (by omega)
    have s5 := F.1
    generalize zF_X12_tellFits b1 = h7 at *
    obtain ⟨s1, s2, s3⟩ := store_B (g := h7) (q := 162) (nq := 25) (p := 0) (by omega) (by decide)
    have q := qk_sto (q := 162) (g := h7) (Or.inl rfl)
    have o : ∀ a b : Nat, a ≠ 162 → zF_X12_store 162 25 0 h7 a b = h7 a b := fun a b z => s3 a b (fun y => z y.1)
    generalize zF_X12_store 162 25 0 h7 = h8 at *
    obtain ⟨h9, e9, f9, z9⟩ := lkb_v (a1 := a1) (n := 0) (v := h8) (6 - 0) 3000000000 0 h8 rfl (by decide) (by decide) (fun _ _ _ => rfl) (fun u hu => absurd hu (Nat.not_lt_zero _))
    rw [show ((0 : Nat) : Int) = 0 from rfl] at e9
    rw [e9]
    have q9 : qk 162 b1 h9 := by
      refine ⟨fun a b u v => (f9 a b (by omega)).trans ((o a b (by omega)).trans (Q a b u v)), (f9 _ _ (by decide)).trans (q.2.1.trans s5.1), fun t ht => ?_⟩
      obtain ⟨y1, y2, y3, y4⟩ := q.2.2 t ht
      obtain ⟨w1, w2, w3, w4⟩ := s5.2 t ht
      exact ⟨(f9 _ _ (by decide)).trans (y1.trans w1), (f9 _ _ (by decide)).trans (y2.trans w2), (f9 _ _ (by decide)).trans (y3.trans w3), (f9 _ _ (by decide)).trans (y4.trans w4)⟩
    have s9 : sm5 b1 h9 := sm_tr s5 (sm_fr fun a b z => (f9 a b (by omega)).trans (o a b (by omega)))
    obtain ⟨h1, u1, u2, u3, u4⟩ := lko_v K1 k1 (a1 := a1) l (h7 137 50 - ((0 : Nat) : Int)).toNat 3000000000 0 h9 rfl (by have := tt_b (b0 := b1) (t := (b1 140 1).toNat); have := l.1; have e : cn (fb b1 (b1 140 1).toNat) 0 = 0 := rfl; omega) (by rw [l.1]; omega) ((f9 _ _ (by decide)).trans (o _ _ (by decide))) (fun j => (f9 _ _ (by decide)).trans (o _ _ (by decide))) q9 s9 ((f9 _ _ (by decide)).trans ((o _ _ (by decide)).trans c2)) (fun u hu => by
      rw [z9 u (by omega)]
      exact mp_c mp_0 (fun j _ => ⟨fun z => False.elim z, fun ⟨p, t1, v1, a, _⟩ => absurd a (Nat.not_lt_zero _)⟩))
    rw [show ((0 : Nat) : Int) = 0 from rfl] at u1
    rw [u1]
    have M : ∀ u : Nat, (u : Int) < b1 140 1 → lm b1 u (h1 171 u) := fun u hu => mp_c (u4 u hu) (fun j _ => by
      obtain ⟨-, l2, l3, -⟩ := l
      constructor
      · rintro ⟨p, t1, v1, a, b, c, d⟩
        obtain ⟨t2, v2, y1, y2⟩ := l2 p a
        have v9 := y2.1
        have : t1 = t2 ∧ v1 = v2 := by omega
        rw [this.1, this.2] at d
        exact ⟨t2, v2, y2, d⟩
      · rintro ⟨t1, v1, a, b⟩
        obtain ⟨p, y1, y2⟩ := l3 t1 v1 a
        exact ⟨p, t1, v1, y1, y2, a.1, b⟩)
    obtain ⟨r, g6, y1, y2⟩ := lk_e hx k1 (a1 := a1) (h := h1) u2 M (b1 140 1 - ((0 : Nat) : Int)).toNat 3000000000 3000000000 0 (-1) 0 g5 rfl (by omega) (by omega) (by omega) f5
    rw [show ((0 : Nat) : Int) = 0 from rfl] at y1 y2
    rw [y1, y2]
    exact ka_0 u3 rfl
  by_cases h : 0 ≤ a1 ∧ a1 ≤ 1
  · rw [if_pos h, i10]
    by_cases y : a1 = 0
    · rw [if_pos y]
      exact G h
    · rw [if_neg y, if_pos (show a1 = 1 by omega)]
      exact G h
  · rw [if_neg h, i00, if_neg (show ¬ a1 = 0 by omega), if_neg (show ¬ a1 = 1 by omega)]
    exact ka_fail (c := 1) rfl (by decide)
end WK2
