/-! ANSWERS (24): row, chain: the reference's tables and answers -/
/-- the least so far, of the ones that aren't in the set -/
def ac_ (L : Nat → Nat → Int) (c : Nat → Int) (n S w v : Nat) (i0 a : Int) : Prop := ((∀ u : Nat, u < v → b8 S u = true) ∧ a = i0) ∨ ((∃ u : Nat, u < v ∧ b8 S u = false) ∧ a = ltS c S n - mx_ (T_ L n S w) v)
/-- the reference's words -/
def wd_n (n : Nat) (L : Nat → Nat → Int) (c : Nat → Int) (g : mz_G) : Prop := g 140 0 = n ∧ (∀ v : Nat, v < n → g 142 v = c v ∧ 1 ≤ c v ∧ c v ≤ 8) ∧ ∀ w v : Nat, w < n → v < n → zF_X12_overlapOf w v g = L w v
/-- what is told of links by letters -/
def fl_n (n : Nat) (L : Nat → Nat → Int) (g : mz_G) : Prop := ∀ w v : Nat, w < n → v < n → (L w v = 1 ∧ zF_X12_follows w v g = 1) ∨ (L w v = -1 ∧ zF_X12_follows w v g = 0)
section WO2
variable {x : mm_X} {g g0 g1 gA gB b0 h h0 : mz_G} {ld n : Nat} {L : Nat → Nat → Int} {c : Nat → Int}
theorem wd_e (W : wd_n n L c g0) (Q : su_e g0 g) : wd_n n L c g := by
  obtain ⟨w1, w2, w3⟩ := W
  exact ⟨(Q _ _ (by decide) (by decide)).trans w1, fun v hv => ⟨(Q _ _ (by decide) (by decide)).trans (w2 v hv).1, (w2 v hv).2⟩, fun w v hw hv => (ov_c Q).trans (w3 w v hw hv)⟩
theorem fo_c (Q : su_e g0 g) {a b : Int} : zF_X12_follows a b g = zF_X12_follows a b g0 := by
  unfold zF_X12_follows zF_X12_letterOf
  simp only [zf_lq, su_f Q (a := 141) (by decide) (by decide), su_f Q (a := 142) (by decide) (by decide)]
theorem fl_e (W : fl_n n L g0) (Q : su_e g0 g) : fl_n n L g := fun w v hw hv => by
  rw [fo_c Q]
  exact W w v hw hv
theorem su_163 {k : Nat} {v : Int} : su_e g (mz_up g 163 k v) := fun a b u w => up_k (by omega)
theorem su_tr (h : su_e g0 g) (k : su_e g g1) : su_e g0 g1 := fun a b u v => (k a b u v).trans (h a b u v)
theorem mad {S v : Nat} (hS : S < 256) (hv : v < 8) (z : b8 S v = false) : zF_X12_madeOn (v : Int) (S : Int) g = g 163 (256 * v + (S + 2 ^ v)) := by
  unfold zF_X12_madeOn
  simp only [zf_lq]
  have s := (rc_6 ⟨v, hv⟩).2.2.1
  have v0 : 0 < 2 ^ v := Nat.pow_pos (by decide)
  dsimp only at s
  rw [s, or_8 hS hv z, show (256 * (v : Int) + ((S + 2 ^ v : Nat) : Int)).toNat = 256 * v + (S + 2 ^ v) by omega]
theorem LS_n (hn : n ≤ 8) (W : wd_n n L c g) (S : Nat) : 0 ≤ ltS c S n ∧ ltS c S n ≤ 64 := by
  have := ltS_b (c := c) (S := S) n (fun v hv => ⟨by have := (W.2.1 v hv).2.1; omega, (W.2.1 v hv).2.2⟩)
  omega
theorem rt56 (hn : n ≤ 8) (W : wd_n n L c g) (hL : ∀ w v : Nat, w < n → v < n → 0 ≤ L w v ∧ L w v ≤ 8) {S w : Nat} (hS : S < 2 ^ n) (hw : w < n) (eR : ∀ v : Nat, v < n → b8 S v = false → g 163 (256 * v + (S + 2 ^ v)) = ltS c (S + 2 ^ v) n - R_ L n (S + 2 ^ v) v) {i0 l1 : Int} (hi : (∃ v : Nat, v < n ∧ b8 S v = false) → 64 ≤ i0) : ∀ (m k v : Nat) (a : Int), n - v = m → m < k → v ≤ n → ac_ L c n S w v i0 a → ac_ L c n S w n i0 (zL_X12_tellRow_56 g k l1 (S : Int) (w : Int) a (v : Int)) := by
  have p := p2_n hn
  have hC : ∀ w v : Nat, w < n → v < n → L w v ≤ 8 := fun w v a b => (hL w v a b).2
  intro m
  induction m with
  | zero =>
    intro k v a hm hk hv I
    obtain ⟨k, rfl⟩ : ∃ k1, k = k1 + 1 := ⟨k - 1, by omega⟩
    rw [zL_X12_tellRow_56_s]
    unfold zB_X12_tellRow_56
    simp only [zf_lq]
    have e : v = n := by omega
    rw [e] at I
    rw [W.1, if_neg (by omega)]
    exact I
  | succ m ih =>
    intro k v a hm hk hv I
    obtain ⟨k, rfl⟩ : ∃ k1, k = k1 + 1 := ⟨k - 1, by omega⟩
    have hvn : v < n := by omega
    rw [zL_X12_tellRow_56_s]
    unfold zB_X12_tellRow_56 zJ_X12_tellRow_98
    simp only [zf_lq]
    have r := fun a => ih k (v + 1) a (by omega) (by omega) (by omega)
    rw [show ((v + 1 : Nat) : Int) = (v : Int) + 1 by omega] at r
    have hlt : (v : Int) < (n : Int) := by omega
    rw [W.1, if_pos hlt, of_8 (by omega) (by omega)]
    have m1 : mx_ (T_ L n S w) (v + 1) = max (mx_ (T_ L n S w) v) (T_ L n S w v) := rfl
    have m0 := mx_0 (T_ L n S w) v
    by_cases y : b8 S v = true
    · rw [if_pos y, if_neg (by decide)]
      refine r a ?_
      have t : T_ L n S w v = 0 := by unfold T_; rw [if_pos (Or.inl y)]
      rcases I with ⟨i1, i2⟩ | ⟨⟨u, i1, i3⟩, i2⟩
      · refine Or.inl ⟨fun u hu => ?_, i2⟩
        by_cases e : u = v
        · rw [e]; exact y
        · exact i1 u (by omega)
      · refine Or.inr ⟨⟨u, by omega, i3⟩, ?_⟩
        rw [m1, t, i2, show max (mx_ (T_ L n S w) v) 0 = mx_ (T_ L n S w) v by omega]
    · rw [if_neg y, if_pos rfl]
      rw [Bool.not_eq_true] at y
      have y' : ¬ b8 S v = true := by rw [y]; decide
      have pu : zF_X12_pushed (w : Int) (v : Int) g = c v - L w v := by
        unfold zF_X12_pushed
        simp only [zf_lq]
        rw [W.2.2 w v hw hvn, show ((v : Nat) : Int).toNat = v from rfl, (W.2.1 v hvn).1]
      rw [pu, mad (by omega) (by omega) y, eR v hvn y, ltS_a (by omega) y n hn, if_pos hvn]
      have l := hL w v hw hvn
      have t : T_ L n S w v = L w v + R_ L n (S + 2 ^ v) v := by
        unfold T_
        rw [if_neg (fun u => u.elim y' (fun z => by omega))]
      have bS := LS_n hn W S
      have rb := (R_b (L := L) (C := 8) (by decide) hC (S := S + 2 ^ v) hvn).1
      have h64 := hi ⟨v, hvn, y⟩
      refine r _ (Or.inr ⟨⟨v, by omega, y⟩, ?_⟩)
      rw [m1, t]
      rcases I with ⟨i1, i2⟩ | ⟨-, i2⟩
      · have z : mx_ (T_ L n S w) v = 0 := mx_z v (fun u hu => by unfold T_; rw [if_pos (Or.inl (i1 u hu))])
        rw [z, i2]
        omega
      · rw [i2]
        omega
theorem rt19 (hn : n ≤ 8) (W0 : wd_n n L c g0) (hL : ∀ w v : Nat, w < n → v < n → 0 ≤ L w v ∧ L w v ≤ 8) {S : Nat} (s0 : 0 < S) (hS : S < 2 ^ n) : ∀ (m k w : Nat) (g : mz_G), n - w = m → m < k → w ≤ n → (∀ a b : Nat, a ≠ 163 → g a b = g0 a b) → (∀ T v : Nat, S < T → T < 2 ^ n → v < n → b8 T v = true → g 163 (256 * v + T) = ltS c T n - R_ L n T v) → (∀ v : Nat, v < w → b8 S v = true → g 163 (256 * v + S) = ltS c S n - R_ L n S v) → ∃ g1, zL_X12_tellRow_19 k (((2 ^ n : Nat) : Int) - 1) (S : Int) (w : Int) g = g1 ∧ (∀ a b : Nat, a ≠ 163 → g1 a b = g0 a b) ∧ ∀ T v : Nat, S ≤ T → T < 2 ^ n → v < n → b8 T v = true → g1 163 (256 * v + T) = ltS c T n - R_ L n T v := by
  have p := p2_n hn
  intro m
  induction m with
  | zero =>
    intro k w g hm hk hw f I J
    obtain ⟨k, rfl⟩ : ∃ k1, k = k1 + 1 := ⟨k - 1, by omega⟩
    rw [zL_X12_tellRow_19_s]
    unfold zB_X12_tellRow_19
    simp only [zf_lq]
    rw [f 140 0 (by decide), W0.1, if_neg (by omega)]
    refine ⟨g, rfl, f, fun T v hT hT2 hv hb => ?_⟩
    by_cases e : T = S
    · rw [e] at hb ⊢
      exact J v (by omega) hb
    · exact I T v (by omega) hT2 hv hb
  | succ m ih =>
    intro k w g hm hk hw f I J
    obtain ⟨k, rfl⟩ : ∃ k1, k = k1 + 1 := ⟨k - 1, by omega⟩
    have hwn : w < n := by omega
    have hlt : (w : Int) < (n : Int) := by omega
    have W : wd_n n L c g := wd_e W0 (fun a b u v => f a b (by omega))
    rw [zL_X12_tellRow_19_s]
    unfold zB_X12_tellRow_19 zJ_X12_tellRow_117 zJ_X12_tellRow_51
    simp only [zf_lq]
    rw [f 140 0 (by decide), W0.1, if_pos hlt, of_8 (by omega) (by omega)]
    obtain ⟨q1, q2, q3, q4⟩ := rc_5 ⟨n, by omega⟩ ⟨S, by omega⟩ hS
    dsimp only at q1 q2 q3 q4
    by_cases y : b8 S w = true
    · rw [if_pos y, if_neg (by decide)]
      have s6 := (rc_6 ⟨w, by omega⟩).2.2.1
      dsimp only at s6
      have eR : ∀ v : Nat, v < n → b8 S v = false → g 163 (256 * v + (S + 2 ^ v)) = ltS c (S + 2 ^ v) n - R_ L n (S + 2 ^ v) v := fun v hv z => by
        have r4 := (rc_4 ⟨S, by omega⟩ ⟨v, by omega⟩ z).2.2
        have : 0 < 2 ^ v := Nat.pow_pos (by decide)
        have q := q4 ⟨v, by omega⟩ hv z
        dsimp only at r4 q
        exact I (S + 2 ^ v) v (by omega) q hv r4
      have N : ∀ i0 : Int, ((∃ v : Nat, v < n ∧ b8 S v = false) → 64 ≤ i0) → (¬ (∃ v : Nat, v < n ∧ b8 S v = false) → i0 = 0) → ∃ g1, zL_X12_tellRow_19 k (((2 ^ n : Nat) : Int) - 1) (S : Int) ((w : Int) + 1) (mz_up g 163 (mz_shlI (w : Int) 8 + (S : Int)).toNat (zL_X12_tellRow_56 g 3000000000 (((2 ^ n : Nat) : Int) - 1) (S : Int) (w : Int) i0 0)) = g1 ∧ (∀ a b : Nat, a ≠ 163 → g1 a b = g0 a b) ∧ ∀ T v : Nat, S ≤ T → T < 2 ^ n → v < n → b8 T v = true → g1 163 (256 * v + T) = ltS c T n - R_ L n T v := fun i0 h1 h2 => by
        have A := rt56 hn W hL hS hwn eR h1 (l1 := ((2 ^ n : Nat) : Int) - 1) (n - 0) 3000000000 0 i0 rfl (by omega) (by omega) (Or.inl ⟨fun u hu => absurd hu (Nat.not_lt_zero u), rfl⟩)
        rw [show ((0 : Nat) : Int) = 0 from rfl] at A
        have V : zL_X12_tellRow_56 g 3000000000 (((2 ^ n : Nat) : Int) - 1) (S : Int) (w : Int) i0 0 = ltS c S n - R_ L n S w := by
          rw [R_e hn hS]
          rcases A with ⟨a1, a2⟩ | ⟨-, a2⟩
          · have z : ¬ ∃ v : Nat, v < n ∧ b8 S v = false := fun ⟨v, b1, b2⟩ => by
              rw [a1 v b1] at b2
              cases b2
            rw [a2, h2 z, ltS_z n a1, mx_z n (fun u hu => by unfold T_; rw [if_pos (Or.inl (a1 u hu))])]
            rfl
          · exact a2
        clear A h1 h2
        rw [V, s6, show (256 * (w : Int) + (S : Int)).toNat = 256 * w + S by omega]
        have r := ih k (w + 1) (mz_up g 163 (256 * w + S) (ltS c S n - R_ L n S w)) (by omega) (by omega) (by omega) (fun a b z => (up_k z).trans (f a b z)) (fun T v h1 h2 h3 h4 => by
          rw [up_j (by omega)]
          exact I T v h1 h2 h3 h4) (fun v hv hb => by
          by_cases e : v = w
          · rw [e, mz_up_at]
          · rw [up_j (by omega)]
            exact J v (by omega) hb)
        rw [show ((w + 1 : Nat) : Int) = (w : Int) + 1 by omega] at r
        exact r
      by_cases z : (S : Int) = ((2 ^ n : Nat) : Int) - 1
      · rw [if_pos z]
        have full := q2.mp (q3.mpr (by omega))
        exact N 0 (fun ⟨v, b1, b2⟩ => by
          rw [full ⟨v, by omega⟩ b1] at b2
          cases b2) (fun _ => rfl)
      · rw [if_neg z]
        refine N 100000 (fun _ => by decide) (fun u => ?_)
        refine absurd (q3.mp (q2.mpr fun v hv => ?_)) (by omega)
        rw [← Bool.not_eq_false]
        exact fun w => u ⟨v.val, hv, w⟩
    · rw [if_neg y, if_pos rfl]
      have r := ih k (w + 1) g (by omega) (by omega) (by omega) f I (fun v hv hb => by
        by_cases e : v = w
        · rw [e] at hb
          exact absurd hb y
        · exact J v (by omega) hb)
      rw [show ((w + 1 : Nat) : Int) = (w : Int) + 1 by omega] at r
      exact r
theorem rt13 (hn : n ≤ 8) (W0 : wd_n n L c g0) (hL : ∀ w v : Nat, w < n → v < n → 0 ≤ L w v ∧ L w v ≤ 8) : ∀ (m k : Nat) (g : mz_G), m < k → m < 2 ^ n → (∀ a b : Nat, a ≠ 163 → g a b = g0 a b) → (∀ T v : Nat, m < T → T < 2 ^ n → v < n → b8 T v = true → g 163 (256 * v + T) = ltS c T n - R_ L n T v) → ∃ g1, zL_X12_tellRow_13 k (((2 ^ n : Nat) : Int) - 1) (m : Int) g = g1 ∧ (∀ a b : Nat, a ≠ 163 → g1 a b = g0 a b) ∧ ∀ T v : Nat, 0 < T → T < 2 ^ n → v < n → b8 T v = true → g1 163 (256 * v + T) = ltS c T n - R_ L n T v := by
  intro m
  induction m with
  | zero =>
    intro k g hk hm f I
    obtain ⟨k, rfl⟩ : ∃ k1, k = k1 + 1 := ⟨k - 1, by omega⟩
    rw [zL_X12_tellRow_13_s]
    unfold zB_X12_tellRow_13
    rw [if_neg (by omega)]
    exact ⟨g, rfl, f, I⟩
  | succ m ih =>
    intro k g hk hm f I
    obtain ⟨k, rfl⟩ : ∃ k1, k = k1 + 1 := ⟨k - 1, by omega⟩
    rw [zL_X12_tellRow_13_s]
    unfold zB_X12_tellRow_13
    simp only [zf_lq]
    rw [if_pos (by omega)]
    obtain ⟨g1, e1, f1, I1⟩ := rt19 hn W0 hL (S := m + 1) (by omega) hm (n - 0) 3000000000 0 g rfl (by omega) (by omega) f I (fun v hv => absurd hv (Nat.not_lt_zero v))
    rw [show ((0 : Nat) : Int) = 0 from rfl] at e1
    rw [e1, show ((m + 1 : Nat) : Int) + -1 = (m : Int) by omega]
    exact ih k g1 (by omega) (by omega) f1 (fun T v h1 h2 h3 h4 => I1 T v (by omega) h2 h3 h4)
theorem tellRow_B (hn : n ≤ 8) (W0 : wd_n n L c g0) (hL : ∀ w v : Nat, w < n → v < n → 0 ≤ L w v ∧ L w v ≤ 8) : ∃ g1, zF_X12_tellRow g0 = g1 ∧ (∀ a b : Nat, a ≠ 163 → g1 a b = g0 a b) ∧ ∀ T v : Nat, 0 < T → T < 2 ^ n → v < n → b8 T v = true → g1 163 (256 * v + T) = ltS c T n - R_ L n T v := by
  have p := p2_n hn
  unfold zF_X12_tellRow
  simp only [zf_lq]
  rw [W0.1, (rc_7 ⟨n, by omega⟩).1]
  dsimp only
  have r := rt13 hn W0 hL (2 ^ n - 1) 3000000000 g0 (by omega) (by omega) (fun _ _ _ => rfl) (fun T v h1 h2 h3 => by omega)
  rw [show ((2 ^ n - 1 : Nat) : Int) = ((2 ^ n : Nat) : Int) - 1 by omega] at r
  exact r
/-- the least of what is so, searched from above -/
def dn_ (P : Nat → Bool) (n : Nat) (v r : Int) : Prop := (r = -1 ∧ ∀ u : Nat, v < (u : Int) → u < n → P u = false) ∨ (∃ u : Nat, r = (u : Int) ∧ v < (u : Int) ∧ u < n ∧ P u = true ∧ ∀ t : Nat, v < (t : Int) → t < u → P t = false)
theorem dn_ls {P : Nat → Bool} (hn : n ≤ 8) {r : Int} (d : dn_ P n (-1) r) (z : ls P n < 8) : r = (ls P n : Int) := by
  rcases d with ⟨-, d2⟩ | ⟨u, d1, d2, d3, d4, d5⟩
  · have := ((ls_c (p := P) n hn).1 z).1
    have c := ls_8 P n hn
    rw [d2 (ls P n) (by omega) (by omega)] at this
    cases this
  · rw [d1, ls_y hn d3 d4 (fun t ht => d5 t (by omega) ht)]
theorem dn_y {P : Nat → Bool} {v : Int} {j : Nat} (hj : (j : Int) = v) (hn : j < n) (y : P j = true) : dn_ P n (v + -1) (j : Int) := Or.inr ⟨j, rfl, by omega, hn, y, fun t h1 h2 => by omega⟩
theorem dn_n {P : Nat → Bool} {v r : Int} {j : Nat} (hj : (j : Int) = v) (y : P j = false) (d : dn_ P n v r) : dn_ P n (v + -1) r := by
  rcases d with ⟨d1, d2⟩ | ⟨u, d1, d2, d3, d4, d5⟩
  · refine Or.inl ⟨d1, fun u h1 h2 => ?_⟩
    by_cases e : u = j
    · rw [e]; exact y
    · exact d2 u (by omega) h2
  · refine Or.inr ⟨u, d1, by omega, d3, d4, fun t h1 h2 => ?_⟩
    by_cases e : t = j
    · rw [e]; exact y
    · exact d5 t (by omega) h2
theorem rw137 (hn : n ≤ 8) (W : wd_n n L c g) (hL : ∀ w v : Nat, w < n → v < n → 0 ≤ L w v ∧ L w v ≤ 8) (eR : ∀ T v : Nat, 0 < T → T < 2 ^ n → v < n → b8 T v = true → g 163 (256 * v + T) = ltS c T n - R_ L n T v) {S w : Nat} (hS : S < 2 ^ n) (s0 : 0 < S) (hw : w < n) (hb : b8 S w = true) {a1 l5 : Int} : ∀ (m k : Nat) (l6 v : Int), (v + 1).toNat = m → m < k → -1 ≤ v → v < n → dn_ (Pc L n S (L w) (R_ L n S w)) n v l6 → dn_ (Pc L n S (L w) (R_ L n S w)) n (-1) (zL_X12_row_137 a1 g k (w : Int) (S : Int) l5 l6 v) := by
  have p := p2_n hn
  intro m
  induction m with
  | zero =>
    intro k l6 v hm hk h0 hv I
    obtain ⟨k, rfl⟩ : ∃ k1, k = k1 + 1 := ⟨k - 1, by omega⟩
    rw [zL_X12_row_137_s]
    unfold zB_X12_row_137
    rw [if_pos (by omega)]
    have e : v = -1 := by omega
    rw [e] at I
    exact I
  | succ m ih =>
    intro k l6 v hm hk h0 hv I
    obtain ⟨k, rfl⟩ : ∃ k1, k = k1 + 1 := ⟨k - 1, by omega⟩
    obtain ⟨j, hj⟩ : ∃ j : Nat, (j : Int) = v := ⟨v.toNat, by omega⟩
    have hjn : j < n := by omega
    rw [zL_X12_row_137_s]
    unfold zB_X12_row_137 zJ_X12_row_187
    simp only [zf_lq]
    have r := fun l6 => ih k l6 (v + -1) (by omega) (by omega) (by omega) (by omega)
    rw [if_neg (show ¬ v < 0 by omega)]
    rw [← hj] at r I ⊢
    rw [of_8 (by omega) (by omega)]
    by_cases y : b8 S j = true
    · rw [if_pos y, if_neg (by decide)]
      exact r _ (dn_n rfl (decide_eq_false (fun z => by rw [y] at z; exact absurd z.1 (by decide))) I)
    · rw [if_neg y, if_pos rfl]
      rw [Bool.not_eq_true] at y
      have s6 := (rc_6 ⟨w, by omega⟩).2.2.1
      dsimp only at s6
      have pu : zF_X12_pushed (w : Int) (j : Int) g = c j - L w j := by
        unfold zF_X12_pushed
        simp only [zf_lq]
        rw [W.2.2 w j hw hjn, show ((j : Nat) : Int).toNat = j from rfl, (W.2.1 j hjn).1]
      obtain ⟨-, -, -, q4⟩ := rc_5 ⟨n, by omega⟩ ⟨S, by omega⟩ hS
      have q := q4 ⟨j, by omega⟩ hjn y
      have r4 := (rc_4 ⟨S, by omega⟩ ⟨j, by omega⟩ y).2.2
      dsimp only at q r4
      have l := hL w j hw hjn
      have v0 : 0 < 2 ^ j := Nat.pow_pos (by decide)
      rw [pu, mad (by omega) (by omega) y, eR _ j (by omega) q hjn r4, ltS_a (by omega) y n hn, if_pos hjn, s6, show (256 * (w : Int) + (S : Int)).toNat = 256 * w + S by omega, eR S w s0 hS hw hb]
      by_cases z : L w j + R_ L n (S + 2 ^ j) j = R_ L n S w
      · rw [if_pos (by omega)]
        exact r _ (dn_y rfl hjn (decide_eq_true ⟨y, l.1, z⟩))
      · rw [if_neg (by omega)]
        exact r _ (dn_n rfl (decide_eq_false (fun u => z u.2.2)) I)
theorem rw118 (hn : n ≤ 8) (W : wd_n n L c g) (hL : ∀ w v : Nat, w < n → v < n → 0 ≤ L w v ∧ L w v ≤ 8) (eR : ∀ T v : Nat, 0 < T → T < 2 ^ n → v < n → b8 T v = true → g 163 (256 * v + T) = ltS c T n - R_ L n T v) {i : Nat} (hi : i < n) : ∀ (m k j : Nat), i - j = m → m < k → j ≤ i → zL_X12_row_118 (i : Int) g k ((sq L n j).2 : Int) ((sq L n j).1 : Int) (j : Int) = (((sq L n i).2 : Int), g) := by
  have p := p2_n hn
  have st := st_row hn hL
  intro m
  induction m with
  | zero =>
    intro k j hm hk hj
    obtain ⟨k, rfl⟩ : ∃ k1, k = k1 + 1 := ⟨k - 1, by omega⟩
    rw [zL_X12_row_118_s]
    unfold zB_X12_row_118
    rw [if_neg (by omega), show j = i by omega]
  | succ m ih =>
    intro k j hm hk hj
    obtain ⟨k, rfl⟩ : ∃ k1, k = k1 + 1 := ⟨k - 1, by omega⟩
    obtain ⟨v1, v2, v3, v4⟩ := st.2.1 j (by omega)
    obtain ⟨w1, w2, w3, w4⟩ := st.2.1 (j + 1) (by omega)
    have s0 : 0 < (sq L n j).1 := by
      refine Nat.pos_of_ne_zero fun z => ?_
      rw [z] at v3
      exact absurd v3 (by show ¬ 0 = j + 1; omega)
    rw [zL_X12_row_118_s]
    unfold zB_X12_row_118
    simp only [zf_lq]
    rw [if_pos (by omega), W.1]
    have d := rw137 hn W hL eR v2 s0 v1 v4 (a1 := (i : Int)) (l5 := (j : Int)) ((n : Int) - 1 + 1).toNat 3000000000 (-1) ((n : Int) - 1) rfl (by omega) (by omega) (by omega) (Or.inl ⟨rfl, fun u h1 h2 => by omega⟩)
    have nx : ls (Pc L n (sq L n j).1 (L (sq L n j).2) (R_ L n (sq L n j).1 (sq L n j).2)) n = (sq L n (j + 1)).2 := rfl
    have e := dn_ls hn d (by rw [nx]; omega)
    rw [nx] at e
    rw [e]
    have cc := (nx_c (L := L) hn (S := (sq L n j).1) (w := (sq L n j).2) (show (sq L n (j + 1)).2 < 8 by omega)).2.1
    have o := or_8 (S := (sq L n j).1) (v := (sq L n (j + 1)).2) (by omega) (by omega) cc
    rw [o]
    have r := ih k (j + 1) (by omega) (by omega) (by omega)
    rw [show ((j + 1 : Nat) : Int) = (j : Int) + 1 by omega] at r
    exact r
/-- the first of the most, so far -/
def fm_ (f : Nat → Int) (v : Nat) (l : Int) : Prop := (v = 0 ∧ l = -1) ∨ (∃ u : Nat, l = (u : Int) ∧ u < v ∧ f u = mx_ f v ∧ ∀ t : Nat, t < u → f t ≠ mx_ f v)
theorem fm_y {f : Nat → Int} {v : Nat} (y : v = 0 ∨ mx_ f v < f v) (p : 0 ≤ f v) : fm_ f (v + 1) (v : Int) := by
  have e : mx_ f (v + 1) = max (mx_ f v) (f v) := rfl
  refine Or.inr ⟨v, rfl, by omega, ?_, fun t ht w => ?_⟩
  · rw [e]
    rcases y with y | y
    · rw [y] at p ⊢
      show f 0 = max 0 (f 0)
      omega
    · omega
  · have m := mx_le f v ht
    rcases y with y | y
    · omega
    · rw [e] at w
      omega
theorem fm_n {f : Nat → Int} {v : Nat} {l : Int} (y : ¬ mx_ f v < f v) (h : 0 < v) (d : fm_ f v l) : fm_ f (v + 1) l := by
  have e : mx_ f (v + 1) = mx_ f v := by
    show max (mx_ f v) (f v) = _
    omega
  rcases d with ⟨d, -⟩ | ⟨u, d1, d2, d3, d4⟩
  · omega
  · exact Or.inr ⟨u, d1, by omega, by rw [e]; exact d3, fun t ht => by rw [e]; exact d4 t ht⟩
theorem fm_fw (hn : n ≤ 8) (h0 : 0 < n) (hC : ∀ w v : Nat, w < n → v < n → L w v ≤ 8) {l : Int} (d : fm_ (fun v => R_ L n (2 ^ v) v) n l) : l = (fw_ L n : Int) := by
  obtain ⟨a, b, e⟩ := M0_at h0 hn hC
  rcases d with ⟨d, -⟩ | ⟨u, d1, d2, d3, d4⟩
  · omega
  · rcases Nat.lt_trichotomy u (fw_ L n) with z | z | z
    · exact absurd d3 (e u z)
    · rw [d1, z]
    · exact absurd b (d4 _ z)
theorem rw54 (hn : n ≤ 8) (h0 : 0 < n) (W : wd_n n L c g) (hL : ∀ w v : Nat, w < n → v < n → 0 ≤ L w v ∧ L w v ≤ 8) (eR : ∀ T v : Nat, 0 < T → T < 2 ^ n → v < n → b8 T v = true → g 163 (256 * v + T) = ltS c T n - R_ L n T v) {a1 : Int} (ha : a1 = -1 ∨ (0 ≤ a1 ∧ a1 < n)) : ∀ (m k v : Nat) (l2 l3 : Int), n - v = m → m < k → v ≤ n → fm_ (fun v => R_ L n (2 ^ v) v) v l2 → (v = 0 → l3 = 100000) → (0 < v → l3 = ltS c 0 n - mx_ (fun v => R_ L n (2 ^ v) v) v) → zL_X12_row_54 a1 g k l2 l3 (v : Int) = (if a1 = -1 then ltS c 0 n - M0 L n else ((sq L n a1.toNat).2 : Int), g) := by
  have p := p2_n hn
  have hC : ∀ w v : Nat, w < n → v < n → L w v ≤ 8 := fun w v a b => (hL w v a b).2
  intro m
  induction m with
  | zero =>
    intro k v l2 l3 hm hk hv F I0 I1
    obtain ⟨k, rfl⟩ : ∃ k1, k = k1 + 1 := ⟨k - 1, by omega⟩
    have e : v = n := by omega
    rw [zL_X12_row_54_s]
    unfold zB_X12_row_54
    simp only [zf_lq]
    rw [W.1, if_neg (by omega)]
    rw [e] at F I1
    by_cases y : a1 = -1
    · rw [if_pos y, if_pos y, I1 h0]
      rfl
    · rw [if_neg y, if_neg y, fm_fw hn h0 hC F]
      have f := (M0_at h0 hn hC).1
      have s := (rc_7 ⟨fw_ L n, by omega⟩).1
      dsimp only at s
      rw [s]
      have r := rw118 hn W hL eR (i := a1.toNat) (by omega) (a1.toNat - 0) 3000000000 0 rfl (by omega) (by omega)
      rw [show ((a1.toNat : Nat) : Int) = a1 by omega] at r
      exact r
  | succ m ih =>
    intro k v l2 l3 hm hk hv F I0 I1
    obtain ⟨k, rfl⟩ : ∃ k1, k = k1 + 1 := ⟨k - 1, by omega⟩
    have hvn : v < n := by omega
    rw [zL_X12_row_54_s]
    unfold zB_X12_row_54 zJ_X12_row_97
    simp only [zf_lq]
    obtain ⟨c1, c2, c3⟩ := W.2.1 v hvn
    obtain ⟨y1, y2, -, y4, y5⟩ := rc_6 ⟨v, by omega⟩
    have y6 := (rc_7 ⟨n, by omega⟩).2.2.2 ⟨v, by omega⟩ hvn
    have v0 : 0 < 2 ^ v := Nat.pow_pos (by decide)
    dsimp only at y1 y2 y4 y5 y6
    have md : zF_X12_madeOn (v : Int) 0 g = ltS c (2 ^ v) n - R_ L n (2 ^ v) v := by
      have q := mad (g := g) (S := 0) (v := v) (by decide) (by omega) y4
      rw [show ((0 : Nat) : Int) = 0 from rfl, Nat.zero_add] at q
      rw [q, eR _ v v0 y6 hvn y2]
    have la := ltS_a (c := c) (S := 0) (v := v) (by decide) y4 n hn
    rw [Nat.zero_add, if_pos hvn] at la
    have hlt : (v : Int) < (n : Int) := by omega
    rw [W.1, if_pos hlt, show ((v : Nat) : Int).toNat = v from rfl, c1, md, la]
    have rb := (R_b (L := L) (C := 8) (by decide) hC (S := 2 ^ v) hvn)
    have bS := LS_n hn W 0
    have m1 : mx_ (fun v => R_ L n (2 ^ v) v) (v + 1) = max (mx_ (fun v => R_ L n (2 ^ v) v) v) (R_ L n (2 ^ v) v) := rfl
    have m0 := mx_0 (fun v => R_ L n (2 ^ v) v) v
    have r := fun l2 l3 => ih k (v + 1) l2 l3 (by omega) (by omega) (by omega)
    rw [show ((v + 1 : Nat) : Int) = (v : Int) + 1 by omega] at r
    by_cases z : v = 0 ∨ mx_ (fun v => R_ L n (2 ^ v) v) v < R_ L n (2 ^ v) v
    · have lt : c v + (ltS c 0 n - c v - R_ L n (2 ^ v) v) < l3 := by
        rcases (by omega : v = 0 ∨ 0 < v) with w | w
        · rw [I0 w]
          omega
        · rw [I1 w]
          rcases z with z | z
          · omega
          · omega
      rw [if_pos lt]
      refine r _ _ (fm_y z rb.1) (fun w => by omega) (fun _ => ?_)
      rw [m1]
      rcases z with z | z
      · rw [z]
        show _ = _ - max (mx_ _ 0) _
        have : mx_ (fun v => R_ L n (2 ^ v) v) 0 = 0 := rfl
        rw [z] at rb
        rw [this]
        omega
      · omega
    · have vp : 0 < v := by omega
      have nz : ¬ mx_ (fun v => R_ L n (2 ^ v) v) v < R_ L n (2 ^ v) v := fun w => z (Or.inr w)
      rw [if_neg (show ¬ c v + (ltS c 0 n - c v - R_ L n (2 ^ v) v) < l3 by rw [I1 vp]; omega)]
      refine r _ _ (fm_n nz vp F) (fun w => by omega) (fun _ => ?_)
      rw [m1, I1 vp]
      omega
/-- of links by letters -/
theorem ct43 (hn : n ≤ 8) (W : g 140 0 = n) (Fl : fl_n n L g) {S w : Nat} (hS : S < 2 ^ n) (hw : w < n) (eR : ∀ v : Nat, v < n → b8 S v = false → g 163 (256 * v + (S + 2 ^ v)) = R_ L n (S + 2 ^ v) v) : ∀ (m k v : Nat), n - v = m → m < k → v ≤ n → zL_X12_tellChain_43 g k (S : Int) (w : Int) (mx_ (T_ L n S w) v) (v : Int) = mx_ (T_ L n S w) n := by
  have p := p2_n hn
  intro m
  induction m with
  | zero =>
    intro k v hm hk hv
    obtain ⟨k, rfl⟩ : ∃ k1, k = k1 + 1 := ⟨k - 1, by omega⟩
    rw [zL_X12_tellChain_43_s]
    unfold zB_X12_tellChain_43
    simp only [zf_lq]
    rw [W, if_neg (by omega), show v = n by omega]
  | succ m ih =>
    intro k v hm hk hv
    obtain ⟨k, rfl⟩ : ∃ k1, k = k1 + 1 := ⟨k - 1, by omega⟩
    have hvn : v < n := by omega
    have hlt : (v : Int) < (n : Int) := by omega
    have r := ih k (v + 1) (by omega) (by omega) (by omega)
    rw [show ((v + 1 : Nat) : Int) = (v : Int) + 1 by omega, show mx_ (T_ L n S w) (v + 1) = max (mx_ (T_ L n S w) v) (T_ L n S w v) from rfl] at r
    have m0 := mx_0 (T_ L n S w) v
    rw [zL_X12_tellChain_43_s]
    unfold zB_X12_tellChain_43 zJ_X12_tellChain_87
    simp only [zf_lq]
    rw [W, if_pos hlt, of_8 (by omega) (by omega)]
    by_cases y : b8 S v = true
    · rw [if_pos y, if_neg (by decide)]
      have t : T_ L n S w v = 0 := by unfold T_; rw [if_pos (Or.inl y)]
      rw [t, show max (mx_ (T_ L n S w) v) 0 = mx_ (T_ L n S w) v by omega] at r
      exact r
    · rw [if_neg y, if_pos rfl]
      rcases Fl w v hw hvn with ⟨l1, l2⟩ | ⟨l1, l2⟩
      · rw [l2, if_neg (by decide)]
        have y' := y
        rw [Bool.not_eq_true] at y
        rw [mad (by omega) (by omega) y, eR v hvn y]
        have t : T_ L n S w v = 1 + R_ L n (S + 2 ^ v) v := by
          unfold T_
          rw [if_neg (fun u => u.elim y' (fun z => by omega)), l1]
        rw [t] at r
        exact r
      · rw [l2, if_pos rfl]
        have t : T_ L n S w v = 0 := by unfold T_; rw [if_pos (Or.inr (by omega))]
        rw [t, show max (mx_ (T_ L n S w) v) 0 = mx_ (T_ L n S w) v by omega] at r
        exact r
theorem ct17 (hn : n ≤ 8) (W0 : g0 140 0 = n) (F0 : fl_n n L g0) {S : Nat} (s0 : 0 < S) (hS : S < 2 ^ n) : ∀ (m k w : Nat) (g : mz_G), n - w = m → m < k → w ≤ n → (∀ a b : Nat, a ≠ 163 → g a b = g0 a b) → (∀ T v : Nat, S < T → T < 2 ^ n → v < n → b8 T v = true → g 163 (256 * v + T) = R_ L n T v) → (∀ v : Nat, v < w → b8 S v = true → g 163 (256 * v + S) = R_ L n S v) → ∃ g1, zL_X12_tellChain_17 k (S : Int) (w : Int) g = g1 ∧ (∀ a b : Nat, a ≠ 163 → g1 a b = g0 a b) ∧ ∀ T v : Nat, S ≤ T → T < 2 ^ n → v < n → b8 T v = true → g1 163 (256 * v + T) = R_ L n T v := by
  have p := p2_n hn
  intro m
  induction m with
  | zero =>
    intro k w g hm hk hw f I J
    obtain ⟨k, rfl⟩ : ∃ k1, k = k1 + 1 := ⟨k - 1, by omega⟩
    rw [zL_X12_tellChain_17_s]
    unfold zB_X12_tellChain_17
    simp only [zf_lq]
    rw [f 140 0 (by decide), W0, if_neg (by omega)]
    refine ⟨g, rfl, f, fun T v hT hT2 hv hb => ?_⟩
    by_cases e : T = S
    · rw [e] at hb ⊢
      exact J v (by omega) hb
    · exact I T v (by omega) hT2 hv hb
  | succ m ih =>
    intro k w g hm hk hw f I J
    obtain ⟨k, rfl⟩ : ∃ k1, k = k1 + 1 := ⟨k - 1, by omega⟩
    have hwn : w < n := by omega
    have hlt : (w : Int) < (n : Int) := by omega
    rw [zL_X12_tellChain_17_s]
    unfold zB_X12_tellChain_17 zJ_X12_tellChain_105
    simp only [zf_lq]
    rw [f 140 0 (by decide), W0, if_pos hlt, of_8 (by omega) (by omega)]
    obtain ⟨q1, q2, q3, q4⟩ := rc_5 ⟨n, by omega⟩ ⟨S, by omega⟩ hS
    dsimp only at q1 q2 q3 q4
    by_cases y : b8 S w = true
    · rw [if_pos y, if_neg (by decide)]
      have s6 := (rc_6 ⟨w, by omega⟩).2.2.1
      dsimp only at s6
      have A := ct43 hn ((f 140 0 (by decide)).trans W0) (fl_e F0 (fun a b u v => f a b (by omega))) hS hwn (fun v hv z => by
        have r4 := (rc_4 ⟨S, by omega⟩ ⟨v, by omega⟩ z).2.2
        have : 0 < 2 ^ v := Nat.pow_pos (by decide)
        have q := q4 ⟨v, by omega⟩ hv z
        dsimp only at r4 q
        exact I (S + 2 ^ v) v (by omega) q hv r4) (n - 0) 3000000000 0 rfl (by omega) (by omega)
      rw [show ((0 : Nat) : Int) = 0 from rfl, show mx_ (T_ L n S w) 0 = 0 from rfl] at A
      rw [A, ← R_e hn hS, s6, show (256 * (w : Int) + (S : Int)).toNat = 256 * w + S by omega]
      have r := ih k (w + 1) (mz_up g 163 (256 * w + S) (R_ L n S w)) (by omega) (by omega) (by omega) (fun a b z => (up_k z).trans (f a b z)) (fun T v h1 h2 h3 h4 => by
        rw [up_j (by omega)]
        exact I T v h1 h2 h3 h4) (fun v hv hb => by
        by_cases e : v = w
        · rw [e, mz_up_at]
        · rw [up_j (by omega)]
          exact J v (by omega) hb)
      rw [show ((w + 1 : Nat) : Int) = (w : Int) + 1 by omega] at r
      exact r
    · rw [if_neg y, if_pos rfl]
      have r := ih k (w + 1) g (by omega) (by omega) (by omega) f I (fun v hv hb => by
        by_cases e : v = w
        · rw [e] at hb
          exact absurd hb y
        · exact J v (by omega) hb)
      rw [show ((w + 1 : Nat) : Int) = (w : Int) + 1 by omega] at r
      exact r
theorem ct11 (hn : n ≤ 8) (W0 : g0 140 0 = n) (F0 : fl_n n L g0) : ∀ (m k : Nat) (g : mz_G), m < k → m < 2 ^ n → (∀ a b : Nat, a ≠ 163 → g a b = g0 a b) → (∀ T v : Nat, m < T → T < 2 ^ n → v < n → b8 T v = true → g 163 (256 * v + T) = R_ L n T v) → ∃ g1, zL_X12_tellChain_11 k (m : Int) g = g1 ∧ (∀ a b : Nat, a ≠ 163 → g1 a b = g0 a b) ∧ ∀ T v : Nat, 0 < T → T < 2 ^ n → v < n → b8 T v = true → g1 163 (256 * v + T) = R_ L n T v := by
  intro m
  induction m with
  | zero =>
    intro k g hk hm f I
    obtain ⟨k, rfl⟩ : ∃ k1, k = k1 + 1 := ⟨k - 1, by omega⟩
    rw [zL_X12_tellChain_11_s]
    unfold zB_X12_tellChain_11
    rw [if_neg (by omega)]
    exact ⟨g, rfl, f, I⟩
  | succ m ih =>
    intro k g hk hm f I
    obtain ⟨k, rfl⟩ : ∃ k1, k = k1 + 1 := ⟨k - 1, by omega⟩
    rw [zL_X12_tellChain_11_s]
    unfold zB_X12_tellChain_11
    simp only [zf_lq]
    rw [if_pos (by omega)]
    obtain ⟨g1, e1, f1, I1⟩ := ct17 hn W0 F0 (S := m + 1) (by omega) hm (n - 0) 3000000000 0 g rfl (by omega) (by omega) f I (fun v hv => absurd hv (Nat.not_lt_zero v))
    rw [show ((0 : Nat) : Int) = 0 from rfl] at e1
    rw [e1, show ((m + 1 : Nat) : Int) + -1 = (m : Int) by omega]
    exact ih k g1 (by omega) (by omega) f1 (fun T v h1 h2 h3 h4 => I1 T v (by omega) h2 h3 h4)
theorem tellChain_B (hn : n ≤ 8) (W0 : g0 140 0 = n) (F0 : fl_n n L g0) : ∃ g1, zF_X12_tellChain g0 = g1 ∧ (∀ a b : Nat, a ≠ 163 → g1 a b = g0 a b) ∧ ∀ T v : Nat, 0 < T → T < 2 ^ n → v < n → b8 T v = true → g1 163 (256 * v + T) = R_ L n T v := by
  have p := p2_n hn
  unfold zF_X12_tellChain
  simp only [zf_lq]
  rw [W0, (rc_7 ⟨n, by omega⟩).1]
  dsimp only
  have r := ct11 hn W0 F0 (2 ^ n - 1) 3000000000 g0 (by omega) (by omega) (fun _ _ _ => rfl) (fun T v h1 h2 h3 => by omega)
  rw [show ((2 ^ n - 1 : Nat) : Int) = ((2 ^ n : Nat) : Int) - 1 by omega] at r
  exact r
theorem ch114 (hn : n ≤ 8) (Fl : fl_n n L g) (eR : ∀ T v : Nat, 0 < T → T < 2 ^ n → v < n → b8 T v = true → g 163 (256 * v + T) = R_ L n T v) {S w : Nat} (hS : S < 2 ^ n) (s0 : 0 < S) (hw : w < n) (hb : b8 S w = true) {a1 l5 : Int} : ∀ (m k : Nat) (l6 v : Int), (v + 1).toNat = m → m < k → -1 ≤ v → v < n → dn_ (Pc L n S (L w) (R_ L n S w)) n v l6 → dn_ (Pc L n S (L w) (R_ L n S w)) n (-1) (zL_X12_chain_114 a1 g k (w : Int) (S : Int) l5 l6 v) := by
  have p := p2_n hn
  intro m
  induction m with
  | zero =>
    intro k l6 v hm hk h0 hv I
    obtain ⟨k, rfl⟩ : ∃ k1, k = k1 + 1 := ⟨k - 1, by omega⟩
    rw [zL_X12_chain_114_s]
    unfold zB_X12_chain_114
    rw [if_pos (by omega)]
    have e : v = -1 := by omega
    rw [e] at I
    exact I
  | succ m ih =>
    intro k l6 v hm hk h0 hv I
    obtain ⟨k, rfl⟩ : ∃ k1, k = k1 + 1 := ⟨k - 1, by omega⟩
    obtain ⟨j, hj⟩ : ∃ j : Nat, (j : Int) = v := ⟨v.toNat, by omega⟩
    have hjn : j < n := by omega
    rw [zL_X12_chain_114_s]
    unfold zB_X12_chain_114 zJ_X12_chain_168
    simp only [zf_lq]
    have r := fun l6 => ih k l6 (v + -1) (by omega) (by omega) (by omega) (by omega)
    rw [if_neg (show ¬ v < 0 by omega)]
    rw [← hj] at r I ⊢
    rw [of_8 (by omega) (by omega)]
    by_cases y : b8 S j = true
    · rw [if_pos y, if_neg (by decide)]
      exact r _ (dn_n rfl (decide_eq_false (fun z => by rw [y] at z; exact absurd z.1 (by decide))) I)
    · rw [if_neg y, if_pos rfl]
      rw [Bool.not_eq_true] at y
      rcases Fl w j hw hjn with ⟨l1, l2⟩ | ⟨l1, l2⟩
      · rw [l2, if_neg (by decide)]
        have s6 := (rc_6 ⟨w, by omega⟩).2.2.1
        dsimp only at s6
        obtain ⟨-, -, -, q4⟩ := rc_5 ⟨n, by omega⟩ ⟨S, by omega⟩ hS
        have q := q4 ⟨j, by omega⟩ hjn y
        have r4 := (rc_4 ⟨S, by omega⟩ ⟨j, by omega⟩ y).2.2
        dsimp only at q r4
        have v0 : 0 < 2 ^ j := Nat.pow_pos (by decide)
        rw [mad (by omega) (by omega) y, eR _ j (by omega) q hjn r4, s6, show (256 * (w : Int) + (S : Int)).toNat = 256 * w + S by omega, eR S w s0 hS hw hb]
        by_cases z : 1 + R_ L n (S + 2 ^ j) j = R_ L n S w
        · rw [if_pos z]
          exact r _ (dn_y rfl hjn (decide_eq_true ⟨y, by omega, by omega⟩))
        · rw [if_neg z]
          exact r _ (dn_n rfl (decide_eq_false (fun u => z (by have := u.2.2; omega))) I)
      · rw [l2, if_pos rfl]
        exact r _ (dn_n rfl (decide_eq_false (fun u => by have := u.2.1; omega)) I)
theorem ch95 (hn : n ≤ 8) (W : g 140 0 = n) (Fl : fl_n n L g) (hL : ∀ w v : Nat, w < n → v < n → L w v = 1 ∨ L w v = -1) (eR : ∀ T v : Nat, 0 < T → T < 2 ^ n → v < n → b8 T v = true → g 163 (256 * v + T) = R_ L n T v) {i : Nat} (hi : i < cs_ L n) : ∀ (m k j : Nat), i - j = m → m < k → j ≤ i → zL_X12_chain_95 (i : Int) g k ((sq L n j).2 : Int) ((sq L n j).1 : Int) (j : Int) = (((sq L n i).2 : Int), g) := by
  have p := p2_n hn
  have st := st_ch hn hL
  intro m
  induction m with
  | zero =>
    intro k j hm hk hj
    obtain ⟨k, rfl⟩ : ∃ k1, k = k1 + 1 := ⟨k - 1, by omega⟩
    rw [zL_X12_chain_95_s]
    unfold zB_X12_chain_95
    rw [if_neg (by omega), show j = i by omega]
  | succ m ih =>
    intro k j hm hk hj
    obtain ⟨k, rfl⟩ : ∃ k1, k = k1 + 1 := ⟨k - 1, by omega⟩
    obtain ⟨v1, v2, v3, v4⟩ := st.2.1 j (by omega)
    obtain ⟨w1, w2, w3, w4⟩ := st.2.1 (j + 1) (by omega)
    have s0 : 0 < (sq L n j).1 := by
      refine Nat.pos_of_ne_zero fun z => ?_
      rw [z] at v3
      exact absurd v3 (by show ¬ 0 = j + 1; omega)
    rw [zL_X12_chain_95_s]
    unfold zB_X12_chain_95
    simp only [zf_lq]
    rw [if_pos (by omega), W]
    have d := ch114 hn Fl eR v2 s0 v1 v4 (a1 := (i : Int)) (l5 := (j : Int)) ((n : Int) - 1 + 1).toNat 3000000000 (-1) ((n : Int) - 1) rfl (by omega) (by omega) (by omega) (Or.inl ⟨rfl, fun u h1 h2 => by omega⟩)
    have nx : ls (Pc L n (sq L n j).1 (L (sq L n j).2) (R_ L n (sq L n j).1 (sq L n j).2)) n = (sq L n (j + 1)).2 := rfl
    have e := dn_ls hn d (by rw [nx]; omega)
    rw [nx] at e
    rw [e]
    have cc := (nx_c (L := L) hn (S := (sq L n j).1) (w := (sq L n j).2) (show (sq L n (j + 1)).2 < 8 by omega)).2.1
    have o := or_8 (S := (sq L n j).1) (v := (sq L n (j + 1)).2) (by omega) (by omega) cc
    rw [o]
    have r := ih k (j + 1) (by omega) (by omega) (by omega)
    rw [show ((j + 1 : Nat) : Int) = (j : Int) + 1 by omega] at r
    exact r
theorem ch16 (hn : n ≤ 8) (W : g 140 0 = n) (Fl : fl_n n L g) (hL : ∀ w v : Nat, w < n → v < n → L w v = 1 ∨ L w v = -1) (eR : ∀ T v : Nat, 0 < T → T < 2 ^ n → v < n → b8 T v = true → g 163 (256 * v + T) = R_ L n T v) {a1 : Int} : ∀ (m k v : Nat) (l2 l3 : Int), n - v = m → m < k → v ≤ n → fm_ (fun v => R_ L n (2 ^ v) v) v l2 → (v = 0 → l3 = 0) → (0 < v → l3 = 1 + mx_ (fun v => R_ L n (2 ^ v) v) v) → zL_X12_chain_16 a1 g k l2 l3 (v : Int) = if -1 ≤ a1 ∧ a1 ≤ (cs_ L n : Int) - 1 then (if a1 = -1 then (cs_ L n : Int) else ((sq L n a1.toNat).2 : Int), g) else zf_m2 (zF_X12_fail 1 g) fun v6 g7 => (v6, g7) := by
  have p := p2_n hn
  have hC : ∀ w v : Nat, w < n → v < n → L w v ≤ 8 := fun w v a b => by rcases hL w v a b with e | e <;> omega
  intro m
  induction m with
  | zero =>
    intro k v l2 l3 hm hk hv F I0 I1
    obtain ⟨k, rfl⟩ : ∃ k1, k = k1 + 1 := ⟨k - 1, by omega⟩
    have e : v = n := by omega
    rw [zL_X12_chain_16_s]
    unfold zB_X12_chain_16
    simp only [zf_lq]
    rw [W, if_neg (by omega), isI_B]
    have el : l3 = (cs_ L n : Int) := by
      unfold cs_
      by_cases z : n = 0
      · rw [if_pos z, I0 (by omega)]
        rfl
      · rw [if_neg z, I1 (by omega), e]
        have := mx_0 (fun v => R_ L n (2 ^ v) v) n
        unfold M0
        omega
    rw [el]
    by_cases y : -1 ≤ a1 ∧ a1 ≤ (cs_ L n : Int) - 1
    · rw [if_pos y, if_pos y, if_neg (by decide)]
      by_cases z : a1 = -1
      · rw [if_pos z, if_pos z]
      · rw [if_neg z, if_neg z]
        have h0 : 0 < n := by
          refine Nat.pos_of_ne_zero fun w => ?_
          unfold cs_ at y
          rw [if_pos w] at y
          omega
        rw [e] at F
        rw [fm_fw hn h0 hC F]
        have f := (M0_at h0 hn hC).1
        have s := (rc_7 ⟨fw_ L n, by omega⟩).1
        dsimp only at s
        rw [s]
        have r := ch95 hn W Fl hL eR (i := a1.toNat) (by omega) (a1.toNat - 0) 3000000000 0 rfl (by have : cs_ L n ≤ n := (st_ch hn hL).1; omega) (by omega)
        rw [show ((a1.toNat : Nat) : Int) = a1 by omega] at r
        exact r
    · rw [if_neg y, if_neg y, if_pos rfl]
  | succ m ih =>
    intro k v l2 l3 hm hk hv F I0 I1
    obtain ⟨k, rfl⟩ : ∃ k1, k = k1 + 1 := ⟨k - 1, by omega⟩
    have hvn : v < n := by omega
    rw [zL_X12_chain_16_s]
    unfold zB_X12_chain_16 zJ_X12_chain_53
    simp only [zf_lq]
    obtain ⟨y1, y2, -, y4, y5⟩ := rc_6 ⟨v, by omega⟩
    have y6 := (rc_7 ⟨n, by omega⟩).2.2.2 ⟨v, by omega⟩ hvn
    have v0 : 0 < 2 ^ v := Nat.pow_pos (by decide)
    dsimp only at y1 y2 y4 y5 y6
    have md : zF_X12_madeOn (v : Int) 0 g = R_ L n (2 ^ v) v := by
      have q := mad (g := g) (S := 0) (v := v) (by decide) (by omega) y4
      rw [show ((0 : Nat) : Int) = 0 from rfl, Nat.zero_add] at q
      rw [q, eR _ v v0 y6 hvn y2]
    have hlt : (v : Int) < (n : Int) := by omega
    rw [W, if_pos hlt, md]
    have rb := (R_1 hn hL (S := 2 ^ v) hvn).1
    have m1 : mx_ (fun v => R_ L n (2 ^ v) v) (v + 1) = max (mx_ (fun v => R_ L n (2 ^ v) v) v) (R_ L n (2 ^ v) v) := rfl
    have r := fun l2 l3 => ih k (v + 1) l2 l3 (by omega) (by omega) (by omega)
    rw [show ((v + 1 : Nat) : Int) = (v : Int) + 1 by omega] at r
    by_cases z : v = 0 ∨ mx_ (fun v => R_ L n (2 ^ v) v) v < R_ L n (2 ^ v) v
    · have lt : l3 < 1 + R_ L n (2 ^ v) v := by
        rcases (by omega : v = 0 ∨ 0 < v) with w | w
        · rw [I0 w]
          omega
        · rw [I1 w]
          rcases z with z | z
          · omega
          · omega
      rw [if_pos lt]
      refine r _ _ (fm_y z rb) (fun w => by omega) (fun _ => ?_)
      rw [m1]
      rcases z with z | z
      · rw [z]
        have : mx_ (fun v => R_ L n (2 ^ v) v) 0 = 0 := rfl
        rw [z] at rb
        rw [this]
        omega
      · omega
    · have vp : 0 < v := by omega
      have nz : ¬ mx_ (fun v => R_ L n (2 ^ v) v) v < R_ L n (2 ^ v) v := fun w => z (Or.inr w)
      rw [if_neg (show ¬ l3 < 1 + R_ L n (2 ^ v) v by rw [I1 vp]; omega)]
      refine r _ _ (fm_n nz vp F) (fun w => by omega) (fun _ => ?_)
      rw [m1, I1 vp]
      omega
theorem w_l (k0 : ru x gA b0) {n : Nat} (hn : b0 140 0 = n) : wd_n n (l1_ x.1 gA n) (lc_ x.1 gA) b0 := by
  obtain ⟨w1, w2, w3, w4⟩ := k0.2.1.1
  have o := k0.2.1.2.1
  refine ⟨hn, fun v hv => ?_, fun w v hw hv => ?_⟩
  · obtain ⟨q1, q2, q3, -⟩ := w4 v (by omega)
    unfold lc_
    rw [q1]
    exact ⟨rfl, q2, q3⟩
  · unfold l1_
    rw [if_pos ⟨hw, hv⟩]
    exact (o w v (by omega) (by omega)).symm
theorem f_l (k0 : ru x gA b0) {n : Nat} (hn : b0 140 0 = n) : fl_n n (l2_ x.1 gA n) b0 := fun w v hw hv => by
  obtain ⟨w1, w2, w3, w4⟩ := k0.2.1.1
  obtain ⟨p1, p2, p3, p4, -⟩ := w4 w (by omega)
  obtain ⟨q1, q2, q3, q4, -⟩ := w4 v (by omega)
  have e1 := (p4 (b0 142 w - 1).toNat (by omega)).1
  have e2 := (q4 0 (by omega)).1
  unfold l2_ zF_X12_follows zF_X12_letterOf
  simp only [zf_lq]
  rw [if_pos ⟨hw, hv⟩, p1, e1, e2, show ((w : Nat) : Int).toNat = w from rfl, show (8 * (w : Int) + (b0 142 w - 1)).toNat = 8 * w + (b0 142 w - 1).toNat by omega, show (8 * (v : Int) + 0).toNat = 8 * v + 0 by omega]
  by_cases z : b0 141 (8 * w + (b0 142 w - 1).toNat) = b0 141 (8 * v + 0)
  · rw [if_pos z, if_pos z]
    exact Or.inl ⟨rfl, rfl⟩
  · rw [if_neg z, if_neg z]
    exact Or.inr ⟨rfl, rfl⟩
theorem l1_b (hx : mk_x x) (I : mz_inv b0) (k0 : ru x gA b0) {n : Nat} (hn : b0 140 0 = n) : ∀ w v : Nat, w < n → v < n → 0 ≤ l1_ x.1 gA n w v ∧ l1_ x.1 gA n w v ≤ 8 := fun w v hw hv => by
  have W := w_l k0 hn
  have c8 := k0.2.1.1.2.2.1
  obtain ⟨r, l, u, e, -, -⟩ := q_X12_overlapOf hx I (a1 := (w : Int)) (a2 := (v : Int)) (by omega) (by omega) (by omega) (by omega)
  have q := W.2.2 w v hw hv
  have b := ov_B hx I (a := (w : Int)) (b := (v : Int)) (by omega) (by omega) (by omega) (by omega)
  rw [← q, b, ← e]
  omega
theorem row_a (hx : mk_x x) (w : rwa x.1 gA) (I : mz_inv gB) (k : ru x gA gB) {a1 : Int} : ka (zF_X11_row x a1 gA) (zF_X12_row a1 gB) := by
  have hld : x.1 = 1 ∨ x.1 = 41 := by unfold mk_x at hx; omega
  have k1 := ru_2 (v := 0) k
  have I1 : mz_inv (mz_up gB 137 2 0) := inv_2 I (by decide) (by decide)
  unfold zF_X11_row zF_X12_row zJ_X11_row_38 zJ_X11_row_39
  simp only [zf_lq]
  rw [isI_B, mb_0, mb_1]
  generalize hb : mz_up gB 137 2 0 = b1 at *
  have c0 : b1 137 2 = 0 := by rw [← hb, mz_up_at]
  clear k hb I
  obtain ⟨n, hn⟩ : ∃ n : Nat, b1 140 0 = n := ⟨(b1 140 0).toNat, by have := k1.2.1.1.2.1; omega⟩
  have c8 := k1.2.1.1.2.2.1
  have n8 : n ≤ 8 := by omega
  have gn : gA (x.1 + 1) 3 = n := k1.2.1.1.1.trans hn
  obtain ⟨⟨r1, r2⟩, -, -⟩ := w n gn n8
  have W := w_l k1 hn
  have hL := l1_b hx I1 k1 hn
  have many : zF_X10_many (x.1 + 1) gA = n := by
    unfold zF_X10_many
    rw [zf_lq]
    exact gn
  have rl : zF_X10_rowLetters (x.1 + 1) gA = ltS (lc_ x.1 gA) 0 n - M0 (l1_ x.1 gA n) n := by
    unfold zF_X10_rowLetters
    rw [zf_lq]
    exact r1
  rw [hn, many, rl]
  have Z : n = 0 → ltS (lc_ x.1 gA) 0 n - M0 (l1_ x.1 gA n) n = 0 := fun z => by
    rw [z]
    rfl
  -- the reference, when it is there
  have G : (-1 ≤ a1 ∧ a1 ≤ (n : Int) - 1) → 0 < n → ∃ g9, (zL_X12_row_54 a1 (zF_X12_tellRow b1) 3000000000 (-1) 100000 0) = (if a1 = -1 then ltS (lc_ x.1 gA) 0 n - M0 (l1_ x.1 gA n) n else ((sq (l1_ x.1 gA n) n a1.toNat).2 : Int), g9) ∧ g9 137 2 = 0 := fun h h0 => by
    obtain ⟨g9, e9, f9, R9⟩ := tellRow_B n8 W hL
    rw [e9]
    have r := rw54 n8 h0 (wd_e W (fun a b u v => f9 a b (by omega))) hL R9 (a1 := a1) (by omega) (n - 0) 3000000000 0 (-1) 100000 rfl (by omega) (by omega) (Or.inl ⟨rfl, rfl⟩) (fun _ => rfl) (fun z => absurd z (Nat.lt_irrefl 0))
    rw [show ((0 : Nat) : Int) = 0 from rfl] at r
    exact ⟨g9, r, (f9 _ _ (by decide)).trans c0⟩
  by_cases h : -1 ≤ a1 ∧ a1 ≤ (n : Int) - 1
  · rw [if_pos h, if_neg (show ¬ (1 : Int) = 0 by decide)]
    by_cases y : a1 = -1
    · rw [if_pos y]
      by_cases z : n = 0
      · rw [if_pos (by omega)]
        exact ka_0 c0 (Z z)
      · rw [if_neg (by omega)]
        obtain ⟨g9, e9, q9⟩ := G h (by omega)
        rw [e9, if_pos y]
        exact ka_0 q9 rfl
    · rw [if_neg y, if_neg (show ¬ a1 < 0 by omega), if_pos (show a1 < (n : Int) by omega), if_neg (by omega)]
      obtain ⟨g9, e9, q9⟩ := G h (by omega)
      rw [e9, if_neg y]
      refine ka_0 q9 ?_
      unfold zF_X10_inRow
      simp only [zf_lq]
      rw [X11_at (n := 8) (by omega) (by omega), show x.1 + 1 + 7 = x.1 + 8 from rfl, r2 a1.toNat (by omega)]
  · rw [if_neg h, if_pos rfl, if_neg (show ¬ a1 = -1 by omega)]
    by_cases y : a1 < 0
    · rw [if_pos y]
      exact ka_fail (c := 1) rfl (by decide)
    · rw [if_neg y, if_neg (show ¬ a1 < (n : Int) by omega)]
      exact ka_fail (c := 1) rfl (by decide)
theorem chain_a (hx : mk_x x) (w : rwa x.1 gA) (k : ru x gA gB) {a1 : Int} : ka (zF_X11_chain x a1 gA) (zF_X12_chain a1 gB) := by
  have hld : x.1 = 1 ∨ x.1 = 41 := by unfold mk_x at hx; omega
  have k1 := ru_2 (v := 0) k
  unfold zF_X11_chain zF_X12_chain zJ_X11_chain_38 zJ_X11_chain_39
  simp only [zf_lq]
  rw [mb_0, mb_1]
  generalize hb : mz_up gB 137 2 0 = b1 at *
  have c0 : b1 137 2 = 0 := by rw [← hb, mz_up_at]
  clear k hb
  obtain ⟨n, hn⟩ : ∃ n : Nat, b1 140 0 = n := ⟨(b1 140 0).toNat, by have := k1.2.1.1.2.1; omega⟩
  have c8 := k1.2.1.1.2.2.1
  have n8 : n ≤ 8 := by omega
  have gn : gA (x.1 + 1) 3 = n := k1.2.1.1.1.trans hn
  obtain ⟨-, r1, r2⟩ := w n gn n8
  have F := f_l k1 hn
  have hL : ∀ w v : Nat, w < n → v < n → l2_ x.1 gA n w v = 1 ∨ l2_ x.1 gA n w v = -1 := fun w v hw hv => by
    rcases F w v hw hv with z | z
    · exact Or.inl z.1
    · exact Or.inr z.1
  have cs : zF_X10_chainSize (x.1 + 1) gA = cs_ (l2_ x.1 gA n) n := by
    unfold zF_X10_chainSize
    rw [zf_lq]
    exact r1
  have c9 := (st_ch n8 hL).1
  obtain ⟨g9, e9, f9, R9⟩ := tellChain_B n8 hn F
  have r := ch16 n8 ((f9 _ _ (by decide)).trans hn) (fl_e F (fun a b u v => f9 a b (by omega))) hL R9 (a1 := a1) (n - 0) 3000000000 0 (-1) 0 rfl (by omega) (by omega) (Or.inl ⟨rfl, rfl⟩) (fun _ => rfl) (fun z => absurd z (Nat.lt_irrefl 0))
  rw [show ((0 : Nat) : Int) = 0 from rfl] at r
  have q9 : g9 137 2 = 0 := (f9 _ _ (by decide)).trans c0
  rw [cs, e9, r]
  by_cases h : -1 ≤ a1 ∧ a1 ≤ (cs_ (l2_ x.1 gA n) n : Int) - 1
  · rw [if_pos h]
    by_cases y : a1 = -1
    · rw [if_pos y, if_pos y]
      exact ka_0 q9 rfl
    · rw [if_neg y, if_neg y, if_neg (show ¬ a1 < 0 by omega), if_pos (show a1 < (cs_ (l2_ x.1 gA n) n : Int) by omega)]
      refine ka_0 q9 ?_
      unfold zF_X10_inChain
      simp only [zf_lq]
      rw [X11_at (n := 8) (by omega) (by omega), show x.1 + 1 + 8 = x.1 + 9 from rfl, r2 a1.toNat (by omega)]
  · rw [if_neg h, if_neg (show ¬ a1 = -1 by omega)]
    by_cases y : a1 < 0
    · rw [if_pos y]
      exact ka_fail (c := 1) rfl (by decide)
    · rw [if_neg y, if_neg (show ¬ a1 < (cs_ (l2_ x.1 gA n) n : Int) by omega)]
      exact ka_fail (c := 1) rfl (by decide)
end WO2
