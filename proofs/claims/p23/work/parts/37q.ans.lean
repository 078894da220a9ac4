/-! ANSWERS (22): the order that the class finds; its row and chain -/
/-- so many stand in it -/
def st_ (L : Nat → Nat → Int) (n s : Nat) : Prop := s ≤ n ∧ (∀ k : Nat, k < s → V_ L n k) ∧ (s < n → (s = 0 → ls (Pc L n 0 (fun _ => 0) (M0 L n)) n = 8) ∧ (0 < s → nx_ L n (sq L n (s - 1)).1 (sq L n (s - 1)).2 = 8))
section WM2
variable {x : mm_X} {g g0 g1 gA gB b0 h h0 : mz_G} {ld : Nat} {L : Nat → Nat → Int} {n : Nat}
theorem M0_at (hn : 0 < n) (n8 : n ≤ 8) (hC : ∀ w v : Nat, w < n → v < n → L w v ≤ 8) : fw_ L n < n ∧ R_ L n (2 ^ fw_ L n) (fw_ L n) = M0 L n ∧ ∀ u : Nat, u < fw_ L n → ¬ R_ L n (2 ^ u) u = M0 L n := by
  have E : ∀ v : Nat, v < n → (Pc L n 0 (fun _ => 0) (M0 L n) v = true ↔ R_ L n (2 ^ v) v = M0 L n) := fun v hv => by
    unfold Pc
    have c := (rc_6 ⟨v, by omega⟩).2.2.2.1
    dsimp only at c
    rw [decide_eq_true_eq, Nat.zero_add, Int.zero_add]
    exact ⟨fun z => z.2.2, fun z => ⟨c, Int.le_refl 0, z⟩⟩
  have X : ∃ v : Nat, v < n ∧ R_ L n (2 ^ v) v = M0 L n := by
    rcases mx_at (fun v => R_ L n (2 ^ v) v) n with a | a
    · refine ⟨0, hn, ?_⟩
      have b := mx_le (fun v => R_ L n (2 ^ v) v) n hn
      have c := (R_b (L := L) (C := 8) (by decide) hC (S := 2 ^ 0) hn).1
      unfold M0
      omega
    · exact a
  obtain ⟨a, b⟩ := ls_c (p := Pc L n 0 (fun _ => 0) (M0 L n)) n n8
  have c := ls_8 (Pc L n 0 (fun _ => 0) (M0 L n)) n n8
  have z : ls (Pc L n 0 (fun _ => 0) (M0 L n)) n < 8 := by
    refine Classical.byContradiction fun z => ?_
    obtain ⟨v, x1, x2⟩ := X
    have := b z v x1
    rw [(E v x1).mpr x2] at this
    cases this
  have z2 : fw_ L n < n := by unfold fw_; omega
  refine ⟨z2, (E _ z2).mp (a z).1, fun u hu w => ?_⟩
  have := (a z).2 u hu
  rw [(E u (by omega)).mpr w] at this
  cases this
theorem sq_e {k : Nat} : (sq L n (k + 1)).1 = (sq L n k).1 + 2 ^ (sq L n (k + 1)).2 := rfl
theorem V_0 (hn : 0 < n) (n8 : n ≤ 8) (hC : ∀ w v : Nat, w < n → v < n → L w v ≤ 8) : V_ L n 0 := by
  have f := (M0_at hn n8 hC).1
  obtain ⟨a, b, -⟩ := rc_6 ⟨fw_ L n, by omega⟩
  have c := (rc_7 ⟨n, by omega⟩).2.2.2 ⟨fw_ L n, by omega⟩ f
  exact ⟨f, c, a, b⟩
/-- what a next one is -/
theorem nx_c (n8 : n ≤ 8) {S w : Nat} (z : nx_ L n S w < 8) : nx_ L n S w < n ∧ b8 S (nx_ L n S w) = false ∧ 0 ≤ L w (nx_ L n S w) ∧ L w (nx_ L n S w) + R_ L n (S + 2 ^ nx_ L n S w) (nx_ L n S w) = R_ L n S w := by
  obtain ⟨a, -⟩ := ls_c (p := Pc L n S (L w) (R_ L n S w)) n n8
  have c := ls_8 (Pc L n S (L w) (R_ L n S w)) n n8
  have y := of_decide_eq_true (a z).1
  refine ⟨?_, y.1, y.2.1, y.2.2⟩
  rcases c with c | c
  · exact c
  · unfold nx_ at z
    omega
theorem V_s (n8 : n ≤ 8) {k : Nat} (v : V_ L n k) (z : nx_ L n (sq L n k).1 (sq L n k).2 < 8) : V_ L n (k + 1) := by
  obtain ⟨v1, v2, v3, v4⟩ := v
  have p := p2_n n8
  obtain ⟨a, b, -, -⟩ := nx_c n8 z
  obtain ⟨-, -, -, q4⟩ := rc_5 ⟨n, by omega⟩ ⟨(sq L n k).1, by omega⟩ v2
  have q := q4 ⟨nx_ L n (sq L n k).1 (sq L n k).2, by omega⟩ a b
  obtain ⟨r1, -, r3⟩ := rc_4 ⟨(sq L n k).1, by omega⟩ ⟨nx_ L n (sq L n k).1 (sq L n k).2, by omega⟩ b
  dsimp only at r1 r3 q
  exact ⟨a, q, by show pc8 ((sq L n k).1 + 2 ^ nx_ L n (sq L n k).1 (sq L n k).2) = _; rw [r1, v3], r3⟩
/-- a next one that is worth it -/
theorem nx_y (n8 : n ≤ 8) {S w v : Nat} (hv : v < n) (c : b8 S v = false) (l : 0 ≤ L w v) (e : L w v + R_ L n (S + 2 ^ v) v = R_ L n S w) : nx_ L n S w < 8 := by
  refine Classical.byContradiction fun z => ?_
  have b := (ls_c (p := Pc L n S (L w) (R_ L n S w)) n n8).2 z v hv
  have : Pc L n S (L w) (R_ L n S w) v = true := decide_eq_true ⟨c, l, e⟩
  rw [this] at b
  cases b
/-- where no link is below 0 all stand in it -/
theorem st_row (n8 : n ≤ 8) (hL : ∀ w v : Nat, w < n → v < n → 0 ≤ L w v ∧ L w v ≤ 8) : st_ L n n := by
  have hC : ∀ w v : Nat, w < n → v < n → L w v ≤ 8 := fun w v a b => (hL w v a b).2
  have p := p2_n n8
  have A : ∀ k : Nat, k < n → V_ L n k := by
    intro k
    induction k with
    | zero => intro hk; exact V_0 hk n8 hC
    | succ k ih =>
      intro hk
      have v := ih (by omega)
      refine V_s n8 v ?_
      obtain ⟨v1, v2, v3, v4⟩ := v
      obtain ⟨-, q2, -, -⟩ := rc_5 ⟨n, by omega⟩ ⟨(sq L n k).1, by omega⟩ v2
      dsimp only at q2
      have X : ∃ v : Nat, v < n ∧ b8 (sq L n k).1 v = false := by
        refine Classical.byContradiction fun z => ?_
        have : pc8 (sq L n k).1 = n := q2.mpr fun v hv => by
          rw [← Bool.not_eq_false]
          intro w
          exact z ⟨v.val, hv, w⟩
        omega
      have e := R_e (L := L) n8 (w := (sq L n k).2) v2
      have T : ∀ v : Nat, v < n → b8 (sq L n k).1 v = false → T_ L n (sq L n k).1 (sq L n k).2 v = L (sq L n k).2 v + R_ L n ((sq L n k).1 + 2 ^ v) v := fun v hv c => by
        unfold T_
        rw [if_neg (fun u => u.elim (fun u => by rw [c] at u; cases u) (fun u => by have := (hL (sq L n k).2 v v1 hv).1; omega))]
      rcases mx_at (T_ L n (sq L n k).1 (sq L n k).2) n with a | ⟨v, a, b⟩
      · obtain ⟨v, c1, c2⟩ := X
        have m := mx_le (T_ L n (sq L n k).1 (sq L n k).2) n c1
        have l := hL (sq L n k).2 v v1 c1
        have r := (R_b (L := L) (C := 8) (by decide) hC (S := (sq L n k).1 + 2 ^ v) c1).1
        rw [T v c1 c2] at m
        exact nx_y n8 c1 c2 l.1 (by omega)
      · by_cases c : b8 (sq L n k).1 v = false
        · rw [T v a c] at b
          exact nx_y n8 a c (hL _ v v1 a).1 (by omega)
        · have z : T_ L n (sq L n k).1 (sq L n k).2 v = 0 := by
            unfold T_
            rw [if_pos (Or.inl (by rw [← Bool.not_eq_false]; exact c))]
          obtain ⟨u, c1, c2⟩ := X
          have m := mx_le (T_ L n (sq L n k).1 (sq L n k).2) n c1
          have l := hL (sq L n k).2 u v1 c1
          have r := (R_b (L := L) (C := 8) (by decide) hC (S := (sq L n k).1 + 2 ^ u) c1).1
          rw [T u c1 c2] at m
          exact nx_y n8 c1 c2 l.1 (by omega)
  exact ⟨Nat.le_refl n, A, fun z => absurd z (Nat.lt_irrefl n)⟩
/-- where a link is 1 or none -/
theorem ch_k (n8 : n ≤ 8) (hn : 0 < n) (hL : ∀ w v : Nat, w < n → v < n → L w v = 1 ∨ L w v = -1) : ∀ k : Nat, (k : Int) ≤ M0 L n → V_ L n k ∧ R_ L n (sq L n k).1 (sq L n k).2 = M0 L n - k := by
  have hC : ∀ w v : Nat, w < n → v < n → L w v ≤ 8 := fun w v a b => by rcases hL w v a b with e | e <;> omega
  intro k
  induction k with
  | zero =>
    intro _
    refine ⟨V_0 hn n8 hC, ?_⟩
    have := (M0_at hn n8 hC).2.1
    show R_ L n (2 ^ fw_ L n) (fw_ L n) = _
    omega
  | succ k ih =>
    intro hk
    obtain ⟨v, r⟩ := ih (by omega)
    obtain ⟨v1, v2, v3, v4⟩ := id v
    have e := R_e (L := L) n8 (w := (sq L n k).2) v2
    have z : nx_ L n (sq L n k).1 (sq L n k).2 < 8 := by
      rcases mx_at (T_ L n (sq L n k).1 (sq L n k).2) n with a | ⟨u, a, b⟩
      · omega
      · have b := b.trans e.symm
        unfold T_ at b
        by_cases y : b8 (sq L n k).1 u = true ∨ L (sq L n k).2 u < 0
        · rw [if_pos y] at b
          omega
        · rw [if_neg y] at b
          exact nx_y n8 a (by rw [← Bool.not_eq_true]; exact fun w => y (Or.inl w)) (by omega) (by omega)
    refine ⟨V_s n8 v z, ?_⟩
    obtain ⟨a, b, c, d⟩ := nx_c n8 z
    have l := hL (sq L n k).2 _ v1 a
    show R_ L n ((sq L n k).1 + 2 ^ nx_ L n (sq L n k).1 (sq L n k).2) (nx_ L n (sq L n k).1 (sq L n k).2) = _
    omega
theorem R_1 (hn : n ≤ 8) (hL : ∀ w v : Nat, w < n → v < n → L w v = 1 ∨ L w v = -1) {S w : Nat} (hw : w < n) : 0 ≤ R_ L n S w ∧ R_ L n S w ≤ ((n - pc8 S : Nat) : Int) := by
  have r := R_b (L := L) (C := 1) (by decide) (fun w v a b => by rcases hL w v a b with e | e <;> omega) (S := S) hw
  rw [Int.one_mul] at r
  exact r
/-- how many stand in a chain -/
def cs_ (L : Nat → Nat → Int) (n : Nat) : Nat := if n = 0 then 0 else (M0 L n).toNat + 1
theorem st_ch (n8 : n ≤ 8) (hL : ∀ w v : Nat, w < n → v < n → L w v = 1 ∨ L w v = -1) : st_ L n (cs_ L n) := by
  unfold cs_
  by_cases hn : n = 0
  · rw [if_pos hn]
    exact ⟨by omega, fun k hk => absurd hk (Nat.not_lt_zero k), fun z => by omega⟩
  · rw [if_neg hn]
    have hC : ∀ w v : Nat, w < n → v < n → L w v ≤ 8 := fun w v a b => by rcases hL w v a b with e | e <;> omega
    have m0 := mx_0 (fun v => R_ L n (2 ^ v) v) n
    have A := ch_k n8 (by omega) hL
    have m0' : 0 ≤ M0 L n := m0
    obtain ⟨v, r⟩ := A (M0 L n).toNat (by omega)
    obtain ⟨v1, v2, v3, v4⟩ := id v
    have p := p2_n n8
    have q1 := (rc_5 ⟨n, by omega⟩ ⟨(sq L n (M0 L n).toNat).1, by omega⟩ v2).1
    dsimp only at q1
    refine ⟨by omega, fun k hk => (A k (by omega)).1, fun _ => ⟨fun z => by omega, fun _ => ?_⟩⟩
    rw [show (M0 L n).toNat + 1 - 1 = (M0 L n).toNat by omega]
    rcases ls_8 (Pc L n (sq L n (M0 L n).toNat).1 (L (sq L n (M0 L n).toNat).2) (R_ L n (sq L n (M0 L n).toNat).1 (sq L n (M0 L n).toNat).2)) n n8 with a | a
    · obtain ⟨c1, c2, c3, c4⟩ := nx_c (L := L) n8 (S := (sq L n (M0 L n).toNat).1) (w := (sq L n (M0 L n).toNat).2) (by unfold nx_; omega)
      have l := hL (sq L n (M0 L n).toNat).2 _ v1 c1
      have rr := (R_1 n8 hL (S := (sq L n (M0 L n).toNat).1 + 2 ^ nx_ L n (sq L n (M0 L n).toNat).1 (sq L n (M0 L n).toNat).2) c1).1
      omega
    · exact a
/-- the class lays it down -/
theorem fo57 {q0 q1 q2 s : Nat} (hq : q0 ≠ 85 ∧ q1 ≠ 85 ∧ q2 ≠ 85 ∧ q2 ≠ q0 ∧ q2 ≠ q1) (n8 : n ≤ 8) (hL : ∀ w v : Nat, w < n → v < n → -1 ≤ L w v ∧ L w v ≤ 8) (st : st_ L n s) : ∀ (m k i : Nat) (r u l : Int) (g : mz_G), s - i = m → m < k → i ≤ s → g q0 3 = n → lk g q1 n L → (∀ T v : Nat, 0 < T → T < 2 ^ n → v < n → g 85 (8 * T + v) = R_ L n T v) → (i = 0 → r = M0 L n ∧ u = 0 ∧ l = -1) → (0 < i → r = R_ L n (sq L n (i - 1)).1 (sq L n (i - 1)).2 ∧ u = ((sq L n (i - 1)).1 : Int) ∧ l = ((sq L n (i - 1)).2 : Int)) → (∀ j : Nat, j < i → g q2 j = ((sq L n j).2 : Int)) → ∃ g1, zL_X10_findOrder_57 q0 q1 64 q2 8 85 2048 k r u l (i : Int) g = ((s : Int), g1) ∧ (∀ a b : Nat, a ≠ q2 → g1 a b = g a b) ∧ ∀ j : Nat, j < s → g1 q2 j = ((sq L n j).2 : Int) := by
  have p := p2_n n8
  obtain ⟨s1, s2, s3⟩ := st
  intro m
  induction m with
  | zero =>
    intro k i r u l g hm hk hi e3 eL eR I0 I1 J
    obtain ⟨k, rfl⟩ : ∃ k1, k = k1 + 1 := ⟨k - 1, by omega⟩
    have e : i = s := by omega
    rw [zL_X10_findOrder_57_s]
    unfold zB_X10_findOrder_57
    simp only [zf_lq]
    rw [e3]
    by_cases z : i < n
    · rw [if_pos (by omega)]
      have F : zF_X10_firstNext q0 q1 64 85 2048 u l r g = -1 := by
        unfold zF_X10_firstNext
        by_cases y : i = 0
        · obtain ⟨y1, y2, y3⟩ := I0 y
          rw [y1, y2, y3]
          have q := fn3 (L := L) (q0 := q0) (q1 := q1) (g := g) (a4 := -1) (r := M0 L n) (l := fun _ => 0) n8 e3 hL eR (S := 0) (by omega) (Or.inl ⟨rfl, fun _ => rfl⟩) (n - 0) 3000000000 0 rfl (by omega) (by omega) (fun u hu => absurd hu (Nat.not_lt_zero u))
          have w := (s3 (by omega)).1 (by omega)
          rw [w, if_neg (by decide)] at q
          exact q
        · obtain ⟨y1, y2, y3⟩ := I1 (by omega)
          obtain ⟨v1, v2, v3, v4⟩ := s2 (i - 1) (by omega)
          rw [y1, y2, y3]
          have q := fn3 (L := L) (q0 := q0) (q1 := q1) (g := g) (a4 := ((sq L n (i - 1)).2 : Int)) (r := R_ L n (sq L n (i - 1)).1 (sq L n (i - 1)).2) (l := L (sq L n (i - 1)).2) n8 e3 hL eR (S := (sq L n (i - 1)).1) v2 (Or.inr ⟨(sq L n (i - 1)).2, rfl, v1, eL, fun _ => rfl⟩) (n - 0) 3000000000 0 rfl (by omega) (by omega) (fun u hu => absurd hu (Nat.not_lt_zero u))
          have w := (s3 (by omega)).2 (by omega)
          rw [← e] at w
          have w' : ls (Pc L n (sq L n (i - 1)).1 (L (sq L n (i - 1)).2) (R_ L n (sq L n (i - 1)).1 (sq L n (i - 1)).2)) n = 8 := w
          rw [w', if_neg (by decide)] at q
          exact q
      rw [F, if_pos rfl, e]
      exact ⟨g, rfl, fun _ _ _ => rfl, fun j hj => J j (by omega)⟩
    · rw [if_neg (by omega), e]
      exact ⟨g, rfl, fun _ _ _ => rfl, fun j hj => J j (by omega)⟩
  | succ m ih =>
    intro k i r u l g hm hk hi e3 eL eR I0 I1 J
    obtain ⟨k, rfl⟩ : ∃ k1, k = k1 + 1 := ⟨k - 1, by omega⟩
    have his : i < s := by omega
    obtain ⟨v1, v2, v3, v4⟩ := s2 i his
    have v0 : 0 < 2 ^ (sq L n i).2 := Nat.pow_pos (by decide)
    rw [zL_X10_findOrder_57_s]
    unfold zB_X10_findOrder_57
    simp only [zf_lq]
    rw [e3, if_pos (by omega)]
    have F : zF_X10_firstNext q0 q1 64 85 2048 u l r g = ((sq L n i).2 : Int) ∧ mz_orI u (mz_shlI 1 ((sq L n i).2 : Int)) = ((sq L n i).1 : Int) := by
      unfold zF_X10_firstNext
      by_cases y : i = 0
      · obtain ⟨y1, y2, y3⟩ := I0 y
        rw [y1, y2, y3]
        have q := fn3 (L := L) (q0 := q0) (q1 := q1) (g := g) (a4 := -1) (r := M0 L n) (l := fun _ => 0) n8 e3 hL eR (S := 0) (by omega) (Or.inl ⟨rfl, fun _ => rfl⟩) (n - 0) 3000000000 0 rfl (by omega) (by omega) (fun u hu => absurd hu (Nat.not_lt_zero u))
        have w : ls (Pc L n 0 (fun _ => 0) (M0 L n)) n = (sq L n i).2 := by rw [y]; rfl
        rw [w, if_pos (by omega)] at q
        refine ⟨q, ?_⟩
        have o := or_8 (S := 0) (v := (sq L n i).2) (by decide) (by omega) (rc_6 ⟨(sq L n i).2, by omega⟩).2.2.2.1
        rw [Nat.zero_add] at o
        have e1 : (sq L n i).1 = 2 ^ (sq L n i).2 := by rw [y]; rfl
        rw [e1]
        exact o
      · obtain ⟨y1, y2, y3⟩ := I1 (by omega)
        obtain ⟨w1, w2, w3, w4⟩ := s2 (i - 1) (by omega)
        rw [y1, y2, y3]
        have q := fn3 (L := L) (q0 := q0) (q1 := q1) (g := g) (a4 := ((sq L n (i - 1)).2 : Int)) (r := R_ L n (sq L n (i - 1)).1 (sq L n (i - 1)).2) (l := L (sq L n (i - 1)).2) n8 e3 hL eR (S := (sq L n (i - 1)).1) w2 (Or.inr ⟨(sq L n (i - 1)).2, rfl, w1, eL, fun _ => rfl⟩) (n - 0) 3000000000 0 rfl (by omega) (by omega) (fun u hu => absurd hu (Nat.not_lt_zero u))
        have E : i - 1 + 1 = i := by omega
        have w : nx_ L n (sq L n (i - 1)).1 (sq L n (i - 1)).2 = (sq L n i).2 := by
          rw [show (sq L n i).2 = (sq L n (i - 1 + 1)).2 by rw [E]]
          rfl
        have f := sq_e (L := L) (n := n) (k := i - 1)
        rw [E] at f
        have w' : ls (Pc L n (sq L n (i - 1)).1 (L (sq L n (i - 1)).2) (R_ L n (sq L n (i - 1)).1 (sq L n (i - 1)).2)) n = (sq L n i).2 := w
        rw [w', if_pos (by omega)] at q
        refine ⟨q, ?_⟩
        have c := (nx_c (L := L) n8 (S := (sq L n (i - 1)).1) (w := (sq L n (i - 1)).2) (by rw [w]; omega)).2.1
        rw [w] at c
        rw [f]
        exact or_8 (S := (sq L n (i - 1)).1) (v := (sq L n i).2) (by omega) (by omega) c
    rw [F.1, if_neg (by omega), F.2, X11_at (n := 2048) (by omega) (by omega), show (((sq L n i).1 : Int) * 8 + ((sq L n i).2 : Int)).toNat = 8 * (sq L n i).1 + (sq L n i).2 by omega, eR _ _ (by
      refine Nat.pos_of_ne_zero fun z => ?_
      rw [z] at v3
      exact absurd v3 (by show ¬ 0 = i + 1; omega)) v2 v1, X11_put (n := 8) (by omega) (by omega), show ((i : Nat) : Int).toNat = i from rfl]
    obtain ⟨g1, e1, f1, j1⟩ := ih k (i + 1) (R_ L n (sq L n i).1 (sq L n i).2) ((sq L n i).1 : Int) ((sq L n i).2 : Int) (mz_up g q2 i ((sq L n i).2 : Int)) (by omega) (by omega) (by omega) ((up_k (fun z => hq.2.2.2.1 z.symm)).trans e3) (fun a b ha hb => (up_k (fun z => hq.2.2.2.2 z.symm)).trans (eL a b ha hb)) (fun T v a b c => (up_k (fun z => hq.2.2.1 z.symm)).trans (eR T v a b c)) (fun z => by omega) (fun _ => by rw [Nat.add_sub_cancel]; exact ⟨rfl, rfl, rfl⟩) (fun j hj => by
      by_cases e : j = i
      · rw [e, mz_up_at]
      · rw [up_j e]
        exact J j (by omega))
    rw [show ((i + 1 : Nat) : Int) = (i : Int) + 1 by omega] at e1
    exact ⟨g1, e1, fun a b z => (f1 a b z).trans (up_k z), j1⟩
theorem fo12 {q0 q1 q2 : Nat} (n8 : n ≤ 8) (e3 : g q0 3 = n) (eR : ∀ T v : Nat, 0 < T → T < 2 ^ n → v < n → g 85 (8 * T + v) = R_ L n T v) : ∀ (m k w : Nat), n - w = m → m < k → w ≤ n → zL_X10_findOrder_12 q0 q1 64 q2 8 85 2048 g k (mx_ (fun v => R_ L n (2 ^ v) v) w) (w : Int) = zL_X10_findOrder_57 q0 q1 64 q2 8 85 2048 3000000000 (M0 L n) 0 (-1) 0 g := by
  have p := p2_n n8
  intro m
  induction m with
  | zero =>
    intro k w hm hk hw
    obtain ⟨k, rfl⟩ : ∃ k1, k = k1 + 1 := ⟨k - 1, by omega⟩
    rw [zL_X10_findOrder_12_s]
    unfold zB_X10_findOrder_12
    simp only [zf_lq]
    rw [e3, if_neg (by omega), show w = n by omega]
    rfl
  | succ m ih =>
    intro k w hm hk hw
    obtain ⟨k, rfl⟩ : ∃ k1, k = k1 + 1 := ⟨k - 1, by omega⟩
    have hwn : w < n := by omega
    have r7 := (rc_7 ⟨n, by omega⟩).2.2.2 ⟨w, by omega⟩ hwn
    have r6 := (rc_7 ⟨w, by omega⟩).1
    have w0 : 0 < 2 ^ w := Nat.pow_pos (by decide)
    dsimp only at r7 r6
    have r := ih k (w + 1) (by omega) (by omega) (by omega)
    rw [show ((w + 1 : Nat) : Int) = (w : Int) + 1 by omega, show mx_ (fun v => R_ L n (2 ^ v) v) (w + 1) = max (mx_ (fun v => R_ L n (2 ^ v) v) w) (R_ L n (2 ^ w) w) from rfl] at r
    rw [zL_X10_findOrder_12_s]
    unfold zB_X10_findOrder_12
    simp only [zf_lq]
    rw [e3, if_pos (by omega), r6, X11_at (n := 2048) (by omega) (by omega), show (((2 ^ w : Nat) : Int) * 8 + (w : Int)).toNat = 8 * 2 ^ w + w by omega, eR (2 ^ w) w w0 r7 hwn]
    exact r
theorem find_A {q0 q1 q2 s : Nat} (hq : q0 ≠ 85 ∧ q1 ≠ 85 ∧ q2 ≠ 85 ∧ q2 ≠ q0 ∧ q2 ≠ q1) (n8 : n ≤ 8) (hL : ∀ w v : Nat, w < n → v < n → -1 ≤ L w v ∧ L w v ≤ 8) (st : st_ L n s) (e3 : g q0 3 = n) (eL : lk g q1 n L) : ∃ g1, zF_X10_findOrder q0 q1 64 q2 8 85 2048 g = ((s : Int), g1) ∧ (∀ a b : Nat, a ≠ q2 → a ≠ 85 → g1 a b = g a b) ∧ ∀ j : Nat, j < s → g1 q2 j = ((sq L n j).2 : Int) := by
  unfold zF_X10_findOrder
  simp only [zf_lq]
  obtain ⟨g1, e1, f1, r1⟩ := fill_A ⟨hq.1, hq.2.1⟩ n8 (fun w v a b => (hL w v a b).2) e3 eL
  rw [e1]
  have q := fo12 (q0 := q0) (q1 := q1) (q2 := q2) n8 ((f1 _ _ hq.1).trans e3) r1 (n - 0) 3000000000 0 rfl (by omega) (by omega)
  rw [show ((0 : Nat) : Int) = 0 from rfl, show mx_ (fun v => R_ L n (2 ^ v) v) 0 = 0 from rfl] at q
  rw [q]
  have w := st.1
  obtain ⟨g2, e2, f2, j2⟩ := fo57 hq n8 hL st (s - 0) 3000000000 0 (M0 L n) 0 (-1) g1 rfl (by omega) (by omega) ((f1 _ _ hq.1).trans e3) (fun a b ha hb => (f1 _ _ hq.2.1).trans (eL a b ha hb)) r1 (fun _ => ⟨rfl, rfl, rfl⟩) (fun z => absurd z (Nat.lt_irrefl 0)) (fun j hj => absurd hj (Nat.not_lt_zero j))
  rw [show ((0 : Nat) : Int) = 0 from rfl] at e2
  exact ⟨g2, e2, fun a b z z1 => (f2 a b z).trans (f1 a b z1), j2⟩
/-- the letters of what isn't in a set yet -/
def ltS (c : Nat → Int) (S : Nat) : Nat → Int
  | 0 => 0
  | n + 1 => ltS c S n + (if b8 S n = true then 0 else c n)
theorem ltS_a {c : Nat → Int} {S v : Nat} (hS : S < 256) (z : b8 S v = false) : ∀ n : Nat, n ≤ 8 → ltS c (S + 2 ^ v) n = ltS c S n - (if v < n then c v else 0) := by
  intro n
  induction n with
  | zero =>
    intro _
    rw [if_neg (Nat.not_lt_zero v)]
    rfl
  | succ n ih =>
    intro hn
    have i := ih (by omega)
    show ltS c (S + 2 ^ v) n + (if b8 (S + 2 ^ v) n = true then 0 else c n) = ltS c S n + (if b8 S n = true then 0 else c n) - (if v < n + 1 then c v else 0)
    rw [i]
    by_cases hv : v < 8
    · have r := rc_8 ⟨S, hS⟩ ⟨v, hv⟩ ⟨n, by omega⟩ z
      dsimp only at r
      by_cases e : n = v
      · have b1 : b8 (S + 2 ^ v) n = true := by rw [r, decide_eq_true e, Bool.or_true]
        have b2 : b8 S n = false := by rw [e]; exact z
        have b3 : c n = c v := by rw [e]
        rw [if_pos b1, if_neg (show ¬ b8 S n = true by rw [b2]; decide), if_neg (show ¬ v < n by omega), if_pos (show v < n + 1 by omega)]
        omega
      · have b3 : b8 (S + 2 ^ v) n = b8 S n := by rw [r, decide_eq_false e, Bool.or_false]
        rw [b3]
        generalize (if b8 S n = true then (0 : Int) else c n) = t
        by_cases y : v < n
        · rw [if_pos y, if_pos (show v < n + 1 by omega)]
          omega
        · rw [if_neg y, if_neg (show ¬ v < n + 1 by omega)]
          omega
    · have e : b8 (S + 2 ^ v) n = b8 S n := by
        unfold b8
        have q : 2 ^ v = 2 ^ n * (2 * 2 ^ (v - n - 1)) := by
          rw [← Nat.pow_succ', ← Nat.pow_add]
          congr 1
          omega
        rw [q, Nat.add_mul_div_left _ _ (Nat.pow_pos (by decide)), Nat.add_mul_mod_self_left]
      rw [if_neg (show ¬ v < n by omega), if_neg (show ¬ v < n + 1 by omega), e]
      generalize (if b8 S n = true then (0 : Int) else c n) = t
      omega
theorem ltS_z {c : Nat → Int} {S : Nat} : ∀ n : Nat, (∀ v : Nat, v < n → b8 S v = true) → ltS c S n = 0 := by
  intro n
  induction n with
  | zero => intro _; rfl
  | succ n ih =>
    intro h
    show ltS c S n + _ = 0
    rw [ih (fun v hv => h v (by omega)), if_pos (h n (by omega))]
    rfl
theorem ltS_b {c : Nat → Int} {S : Nat} : ∀ n : Nat, (∀ v : Nat, v < n → 0 ≤ c v ∧ c v ≤ 8) → 0 ≤ ltS c S n ∧ ltS c S n ≤ 8 * n := by
  intro n
  induction n with
  | zero => intro _; exact ⟨Int.le_refl 0, Int.le_refl 0⟩
  | succ n ih =>
    intro h
    have i := ih (fun v hv => h v (by omega))
    have q := h n (by omega)
    show 0 ≤ ltS c S n + _ ∧ ltS c S n + _ ≤ _
    split <;> omega
/-- what has been laid so far, in letters -/
theorem sum_k (n8 : n ≤ 8) {c : Nat → Int} (A : ∀ k : Nat, k < n → V_ L n k) : ∀ k : Nat, k + 1 < n → ltS c (sq L n (k + 1)).1 n = ltS c (sq L n k).1 n - c (sq L n (k + 1)).2 ∧ R_ L n (sq L n k).1 (sq L n k).2 = L (sq L n k).2 (sq L n (k + 1)).2 + R_ L n (sq L n (k + 1)).1 (sq L n (k + 1)).2 := by
  intro k hk
  have p := p2_n n8
  obtain ⟨v1, v2, v3, v4⟩ := A k (by omega)
  obtain ⟨w1, w2, w3, w4⟩ := A (k + 1) hk
  obtain ⟨a, b, d, e⟩ := nx_c (L := L) n8 (S := (sq L n k).1) (w := (sq L n k).2) (show (sq L n (k + 1)).2 < 8 by omega)
  have q := ltS_a (c := c) (S := (sq L n k).1) (v := (sq L n (k + 1)).2) (by omega) b n n8
  rw [if_pos w1] at q
  exact ⟨q, e.symm⟩
end WM2
