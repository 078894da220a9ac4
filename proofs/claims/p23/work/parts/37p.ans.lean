/-! ANSWERS (21): one row, the longest chain: what is worth most behind a word, by links (below 0: none) -/
/-- the most of some, at least 0 -/
def mx_ (f : Nat → Int) : Nat → Int
  | 0 => 0
  | n + 1 => max (mx_ f n) (f n)
def b8 (S v : Nat) : Bool := decide (S / 2 ^ v % 2 = 1)
def pc8 (S : Nat) : Nat := S % 2 + S / 2 % 2 + S / 4 % 2 + S / 8 % 2 + S / 16 % 2 + S / 32 % 2 + S / 64 % 2 + S / 128 % 2
def rr_ (L : Nat → Nat → Int) (n : Nat) : Nat → Nat → Nat → Int
  | 0, _, _ => 0
  | k + 1, S, w => mx_ (fun v => if b8 S v = true ∨ L w v < 0 then 0 else L w v + rr_ L n k (S + 2 ^ v) v) n
def R_ (L : Nat → Nat → Int) (n S w : Nat) : Int := rr_ L n (n - pc8 S) S w
def T_ (L : Nat → Nat → Int) (n S w v : Nat) : Int := if b8 S v = true ∨ L w v < 0 then 0 else L w v + R_ L n (S + 2 ^ v) v
def M0 (L : Nat → Nat → Int) (n : Nat) : Int := mx_ (fun v => R_ L n (2 ^ v) v) n
/-- the least that is so (8: none) -/
def ls (p : Nat → Bool) : Nat → Nat
  | 0 => 8
  | n + 1 => if ls p n < 8 then ls p n else if p n = true then n else 8
/-- the next one, where a link is worth so much and so much is to be had -/
def Pc (L : Nat → Nat → Int) (n S : Nat) (l : Nat → Int) (r : Int) (v : Nat) : Bool := decide (b8 S v = false ∧ 0 ≤ l v ∧ l v + R_ L n (S + 2 ^ v) v = r)
def nx_ (L : Nat → Nat → Int) (n S w : Nat) : Nat := ls (Pc L n S (L w) (R_ L n S w)) n
def fw_ (L : Nat → Nat → Int) (n : Nat) : Nat := ls (Pc L n 0 (fun _ => 0) (M0 L n)) n
def sq (L : Nat → Nat → Int) (n : Nat) : Nat → Nat × Nat
  | 0 => (2 ^ fw_ L n, fw_ L n)
  | k + 1 => ((sq L n k).1 + 2 ^ nx_ L n (sq L n k).1 (sq L n k).2, nx_ L n (sq L n k).1 (sq L n k).2)
/-- a step is well -/
def V_ (L : Nat → Nat → Int) (n k : Nat) : Prop := (sq L n k).2 < n ∧ (sq L n k).1 < 2 ^ n ∧ pc8 (sq L n k).1 = k + 1 ∧ b8 (sq L n k).1 (sq L n k).2 = true
theorem m2_r {α β γ : Type} (a : α) (b : β) (f : α → β → γ) : zf_m2 (a, b) f = f a b := rfl
section WL2
variable {x : mm_X} {g g0 g1 gA gB b0 h h0 : mz_G} {ld : Nat} {L : Nat → Nat → Int} {n : Nat}
theorem rc_1 : ∀ S : Fin 256, ∀ v : Fin 8, decide (mz_andI (S.val : Int) (mz_shlI 1 (v.val : Int)) = 0) = !b8 S.val v.val := by decide +kernel
theorem rc_2 : ∀ S : Fin 256, ∀ v : Fin 8, mz_orI (S.val : Int) (mz_shlI 1 (v.val : Int)) = ((if b8 S.val v.val = true then S.val else S.val + 2 ^ v.val : Nat) : Int) := by decide +kernel
theorem rc_3 : ∀ S : Fin 256, ∀ v : Fin 8, decide (mz_andI (mz_shrI (S.val : Int) (v.val : Int)) 1 = 1) = b8 S.val v.val := by decide +kernel
theorem rc_4 : ∀ S : Fin 256, ∀ v : Fin 8, b8 S.val v.val = false → pc8 (S.val + 2 ^ v.val) = pc8 S.val + 1 ∧ S.val + 2 ^ v.val < 256 ∧ b8 (S.val + 2 ^ v.val) v.val = true := by decide +kernel
theorem rc_5 : ∀ n : Fin 9, ∀ S : Fin 256, S.val < 2 ^ n.val → pc8 S.val ≤ n.val ∧ (pc8 S.val = n.val ↔ ∀ v : Fin 8, v.val < n.val → b8 S.val v.val = true) ∧ (pc8 S.val = n.val ↔ S.val + 1 = 2 ^ n.val) ∧ ∀ v : Fin 8, v.val < n.val → b8 S.val v.val = false → S.val + 2 ^ v.val < 2 ^ n.val := by decide +kernel
theorem rc_6 : ∀ v : Fin 8, pc8 (2 ^ v.val) = 1 ∧ b8 (2 ^ v.val) v.val = true ∧ mz_shlI (v.val : Int) 8 = 256 * (v.val : Int) ∧ b8 0 v.val = false ∧ 2 ^ v.val < 256 := by decide +kernel
theorem rc_7 : ∀ n : Fin 9, mz_shlI 1 (n.val : Int) = ((2 ^ n.val : Nat) : Int) ∧ 1 ≤ 2 ^ n.val ∧ 2 ^ n.val ≤ 256 ∧ ∀ v : Fin 8, v.val < n.val → 2 ^ v.val < 2 ^ n.val := by decide +kernel
theorem rc_8 : ∀ S : Fin 256, ∀ v u : Fin 8, b8 S.val v.val = false → b8 (S.val + 2 ^ v.val) u.val = (b8 S.val u.val || decide (u.val = v.val)) := by decide +kernel
theorem p2_n (hn : n ≤ 8) : 1 ≤ 2 ^ n ∧ 2 ^ n ≤ 256 := ⟨(rc_7 ⟨n, by omega⟩).2.1, (rc_7 ⟨n, by omega⟩).2.2.1⟩
theorem an_8 {S v : Nat} (hS : S < 256) (hv : v < 8) : (b8 S v = true → mz_andI (S : Int) (mz_shlI 1 (v : Int)) ≠ 0) ∧ (b8 S v = false → mz_andI (S : Int) (mz_shlI 1 (v : Int)) = 0) := by
  have c := rc_1 ⟨S, hS⟩ ⟨v, hv⟩
  dsimp only at c
  constructor
  · intro k
    rw [k] at c
    exact of_decide_eq_false c
  · intro k
    rw [k] at c
    exact of_decide_eq_true c
theorem or_8 {S v : Nat} (hS : S < 256) (hv : v < 8) (k : b8 S v = false) : mz_orI (S : Int) (mz_shlI 1 (v : Int)) = ((S + 2 ^ v : Nat) : Int) := by
  have c := rc_2 ⟨S, hS⟩ ⟨v, hv⟩
  dsimp only at c
  rw [if_neg (by rw [k]; decide)] at c
  exact c
theorem of_8 {S v : Nat} (hS : S < 256) (hv : v < 8) : zF_X12_isOf (S : Int) (v : Int) g = if b8 S v = true then 1 else 0 := by
  have c := rc_3 ⟨S, hS⟩ ⟨v, hv⟩
  dsimp only at c
  unfold zF_X12_isOf
  simp only [zf_lq]
  by_cases k : b8 S v = true
  · rw [if_pos k]
    rw [k] at c
    rw [if_pos (of_decide_eq_true c)]
  · rw [if_neg k]
    rw [Bool.not_eq_true] at k
    rw [k] at c
    rw [if_neg (of_decide_eq_false c)]
theorem mx_0 (f : Nat → Int) : ∀ n : Nat, 0 ≤ mx_ f n := by
  intro n
  induction n with
  | zero => exact Int.le_refl 0
  | succ n ih =>
    show 0 ≤ max (mx_ f n) (f n)
    omega
theorem mx_le (f : Nat → Int) {v : Nat} : ∀ n : Nat, v < n → f v ≤ mx_ f n := by
  intro n
  induction n with
  | zero => intro h; omega
  | succ n ih =>
    intro h
    show f v ≤ max (mx_ f n) (f n)
    by_cases e : v = n
    · rw [e]; omega
    · have := ih (by omega)
      omega
theorem mx_at (f : Nat → Int) : ∀ n : Nat, mx_ f n = 0 ∨ ∃ v : Nat, v < n ∧ f v = mx_ f n := by
  intro n
  induction n with
  | zero => exact Or.inl rfl
  | succ n ih =>
    have e : mx_ f (n + 1) = max (mx_ f n) (f n) := rfl
    rw [e]
    by_cases y : mx_ f n ≤ f n
    · exact Or.inr ⟨n, by omega, by omega⟩
    · rcases ih with i | ⟨v, a, b⟩
      · exact Or.inl (by omega)
      · exact Or.inr ⟨v, by omega, by omega⟩
theorem mx_c {f f' : Nat → Int} : ∀ n : Nat, (∀ v : Nat, v < n → f v = f' v) → mx_ f n = mx_ f' n := by
  intro n
  induction n with
  | zero => intro _; rfl
  | succ n ih =>
    intro h
    show max (mx_ f n) (f n) = max (mx_ f' n) (f' n)
    rw [ih (fun v hv => h v (by omega)), h n (by omega)]
theorem mx_b {f : Nat → Int} {B : Int} (hB : 0 ≤ B) : ∀ n : Nat, (∀ v : Nat, v < n → f v ≤ B) → mx_ f n ≤ B := by
  intro n
  induction n with
  | zero => intro _; exact hB
  | succ n ih =>
    intro h
    show max (mx_ f n) (f n) ≤ B
    have := ih (fun v hv => h v (by omega))
    have := h n (by omega)
    omega
theorem mx_z {f : Nat → Int} : ∀ n : Nat, (∀ v : Nat, v < n → f v = 0) → mx_ f n = 0 := by
  intro n h
  have a := mx_0 f n
  have b := mx_b (B := 0) (Int.le_refl 0) n (fun v hv => Int.le_of_eq (h v hv))
  omega
theorem rr_b {C : Int} (hC : 0 ≤ C) (hL : ∀ w v : Nat, w < n → v < n → L w v ≤ C) : ∀ k S w : Nat, w < n → 0 ≤ rr_ L n k S w ∧ rr_ L n k S w ≤ C * k := by
  intro k
  induction k with
  | zero =>
    intro S w _
    exact ⟨Int.le_refl 0, by show (0 : Int) ≤ _; omega⟩
  | succ k ih =>
    intro S w hw
    have P : 0 ≤ C * (k : Int) := Int.mul_nonneg hC (by omega)
    have E : C * ((k + 1 : Nat) : Int) = C * (k : Int) + C := by
      rw [Int.natCast_succ, Int.mul_add, Int.mul_one]
    refine ⟨mx_0 _ n, ?_⟩
    rw [E]
    refine mx_b (by omega) n (fun v hv => ?_)
    split
    · omega
    · have a := hL w v hw hv
      have b := (ih (S + 2 ^ v) v hv).2
      omega
theorem R_b {C : Int} (hC : 0 ≤ C) (hL : ∀ w v : Nat, w < n → v < n → L w v ≤ C) {S w : Nat} (hw : w < n) : 0 ≤ R_ L n S w ∧ R_ L n S w ≤ C * ((n - pc8 S : Nat) : Int) := rr_b hC hL _ S w hw
/-- one step of it -/
theorem R_e (hn : n ≤ 8) {S w : Nat} (hS : S < 2 ^ n) : R_ L n S w = mx_ (T_ L n S w) n := by
  have p := p2_n hn
  obtain ⟨q1, q2, q3, q4⟩ := rc_5 ⟨n, by omega⟩ ⟨S, by omega⟩ hS
  dsimp only at q1 q2 q3 q4
  unfold R_
  by_cases z : pc8 S = n
  · rw [z, Nat.sub_self]
    refine (mx_z n fun v hv => ?_).symm
    unfold T_
    rw [if_pos (Or.inl (q2.mp z ⟨v, by omega⟩ hv))]
  · obtain ⟨k, hk⟩ : ∃ k, n - pc8 S = k + 1 := ⟨n - pc8 S - 1, by omega⟩
    rw [hk]
    show mx_ _ n = _
    refine mx_c n fun v hv => ?_
    unfold T_ R_
    by_cases y : b8 S v = true ∨ L w v < 0
    · rw [if_pos y, if_pos y]
    · rw [if_neg y, if_neg y]
      have c : b8 S v = false := by
        rw [← Bool.not_eq_true]
        exact fun u => y (Or.inl u)
      have r := (rc_4 ⟨S, by omega⟩ ⟨v, by omega⟩ c).1
      dsimp only at r
      rw [r, show n - (pc8 S + 1) = k by omega]
theorem ls_8 (p : Nat → Bool) : ∀ n : Nat, n ≤ 8 → ls p n < n ∨ ls p n = 8 := by
  intro n
  induction n with
  | zero => intro _; exact Or.inr rfl
  | succ n ih =>
    intro hn
    unfold ls
    rcases ih (by omega) with a | a
    · rw [if_pos (by omega)]
      exact Or.inl (by omega)
    · rw [if_neg (by omega)]
      split
      · exact Or.inl (by omega)
      · exact Or.inr rfl
theorem ls_c {p : Nat → Bool} : ∀ n : Nat, n ≤ 8 → (ls p n < 8 → p (ls p n) = true ∧ ∀ u : Nat, u < ls p n → p u = false) ∧ (¬ ls p n < 8 → ∀ u : Nat, u < n → p u = false) := by
  intro n
  induction n with
  | zero => intro _; exact ⟨fun z => absurd z (Nat.lt_irrefl 8), fun _ u hu => absurd hu (Nat.not_lt_zero u)⟩
  | succ n ih =>
    intro hn
    obtain ⟨i1, i2⟩ := ih (by omega)
    unfold ls
    by_cases z : ls p n < 8
    · rw [if_pos z]
      exact ⟨fun _ => i1 z, fun y => absurd z y⟩
    · rw [if_neg z]
      by_cases y : p n = true
      · rw [if_pos y]
        exact ⟨fun _ => ⟨y, i2 z⟩, fun w => absurd (by omega) w⟩
      · rw [if_neg y]
        refine ⟨fun w => absurd w (by decide), fun _ u hu => ?_⟩
        by_cases e : u = n
        · rw [e]
          exact Bool.not_eq_true _ ▸ y
        · exact i2 z u (by omega)
theorem ls_y {p : Nat → Bool} (hn : n ≤ 8) {v : Nat} (hv : v < n) (y : p v = true) (I : ∀ u : Nat, u < v → p u = false) : ls p n = v := by
  obtain ⟨a, b⟩ := ls_c (p := p) n hn
  have c := ls_8 p n hn
  by_cases z : ls p n < 8
  · obtain ⟨a1, a2⟩ := a z
    rcases Nat.lt_trichotomy (ls p n) v with w | w | w
    · rw [I _ w] at a1
      cases a1
    · exact w
    · rw [a2 _ w] at y
      cases y
  · rw [b z v hv] at y
    cases y
theorem ls_n {p : Nat → Bool} (hn : n ≤ 8) (I : ∀ u : Nat, u < n → p u = false) : ls p n = 8 := by
  rcases ls_8 p n hn with a | a
  · obtain ⟨b, -⟩ := ls_c (p := p) n hn
    have := (b (by omega)).1
    rw [I _ a] at this
    cases this
  · exact a
/-- the class's table -/
def lk (g : mz_G) (q1 n : Nat) (L : Nat → Nat → Int) : Prop := ∀ w v : Nat, w < n → v < n → g q1 (8 * w + v) = L w v
theorem fr31 {q0 q1 : Nat} (hn : n ≤ 8) (e3 : g q0 3 = n) (eL : lk g q1 n L) (hL : ∀ w v : Nat, w < n → v < n → L w v ≤ 8) {S w : Nat} (hS : S < 2 ^ n) (hw : w < n) (eR : ∀ v : Nat, v < n → b8 S v = false → g 85 (8 * (S + 2 ^ v) + v) = R_ L n (S + 2 ^ v) v) : ∀ (m k v : Nat), n - v = m → m < k → v ≤ n → zL_X10_fillRoom_31 q0 q1 64 85 2048 g k (S : Int) (w : Int) (mx_ (T_ L n S w) v) (v : Int) = mx_ (T_ L n S w) n := by
  have p := p2_n hn
  intro m
  induction m with
  | zero =>
    intro k v hm hk hv
    obtain ⟨k, rfl⟩ : ∃ k1, k = k1 + 1 := ⟨k - 1, by omega⟩
    rw [zL_X10_fillRoom_31_s]
    unfold zB_X10_fillRoom_31
    simp only [zf_lq]
    rw [e3, if_neg (by omega), show v = n by omega]
  | succ m ih =>
    intro k v hm hk hv
    obtain ⟨k, rfl⟩ : ∃ k1, k = k1 + 1 := ⟨k - 1, by omega⟩
    have hvn : v < n := by omega
    have r := ih k (v + 1) (by omega) (by omega) (by omega)
    rw [show ((v + 1 : Nat) : Int) = (v : Int) + 1 by omega, show mx_ (T_ L n S w) (v + 1) = max (mx_ (T_ L n S w) v) (T_ L n S w v) from rfl] at r
    have m0 := mx_0 (T_ L n S w) v
    rw [zL_X10_fillRoom_31_s]
    unfold zB_X10_fillRoom_31 zJ_X10_fillRoom_94
    simp only [zf_lq]
    rw [e3, if_pos (by omega), X11_at (n := 64) (by omega) (by omega), show ((w : Int) * 8 + (v : Int)).toNat = 8 * w + v by omega, eL w v hw hvn]
    by_cases y : b8 S v = true
    · rw [if_neg ((an_8 (by omega) (by omega)).1 y)]
      have t : T_ L n S w v = 0 := by unfold T_; rw [if_pos (Or.inl y)]
      rw [t, show max (mx_ (T_ L n S w) v) 0 = mx_ (T_ L n S w) v by omega] at r
      exact r
    · rw [Bool.not_eq_true] at y
      have y' : ¬ b8 S v = true := by rw [y]; decide
      rw [if_pos ((an_8 (by omega) (by omega)).2 y)]
      by_cases z : L w v < 0
      · rw [if_pos z]
        have t : T_ L n S w v = 0 := by unfold T_; rw [if_pos (Or.inr z)]
        rw [t, show max (mx_ (T_ L n S w) v) 0 = mx_ (T_ L n S w) v by omega] at r
        exact r
      · rw [if_neg z, or_8 (by omega) (by omega) y]
        obtain ⟨-, -, -, q4⟩ := rc_5 ⟨n, by omega⟩ ⟨S, by omega⟩ hS
        have q := q4 ⟨v, by omega⟩ hvn y
        dsimp only at q
        have q0' : 0 < 2 ^ v := Nat.pow_pos (by decide)
        have bb := R_b (L := L) (C := 8) (by decide) hL (S := S + 2 ^ v) hvn
        have lb := hL w v hw hvn
        rw [X11_at (n := 2048) (by omega) (by omega), show (((S + 2 ^ v : Nat) : Int) * 8 + (v : Int)).toNat = 8 * (S + 2 ^ v) + v by omega, eR v hvn y, mz_wrap_id ⟨by omega, by omega⟩]
        have t : T_ L n S w v = L w v + R_ L n (S + 2 ^ v) v := by
          unfold T_
          rw [if_neg (fun u => u.elim y' z)]
        rw [t] at r
        exact r
theorem fr16 {q0 q1 : Nat} (hq : q0 ≠ 85 ∧ q1 ≠ 85) (hn : n ≤ 8) (hL : ∀ w v : Nat, w < n → v < n → L w v ≤ 8) {S : Nat} (s0 : 0 < S) (hS : S < 2 ^ n) : ∀ (m k w : Nat) (g : mz_G), n - w = m → m < k → w ≤ n → g q0 3 = n → lk g q1 n L → (∀ T v : Nat, S < T → T < 2 ^ n → v < n → g 85 (8 * T + v) = R_ L n T v) → (∀ v : Nat, v < w → g 85 (8 * S + v) = R_ L n S v) → ∃ g1, zL_X10_fillRoom_16 q0 q1 64 85 2048 k (S : Int) (w : Int) g = g1 ∧ (∀ a b : Nat, a ≠ 85 → g1 a b = g a b) ∧ ∀ T v : Nat, S ≤ T → T < 2 ^ n → v < n → g1 85 (8 * T + v) = R_ L n T v := by
  have p := p2_n hn
  intro m
  induction m with
  | zero =>
    intro k w g hm hk hw e3 eL I J
    obtain ⟨k, rfl⟩ : ∃ k1, k = k1 + 1 := ⟨k - 1, by omega⟩
    rw [zL_X10_fillRoom_16_s]
    unfold zB_X10_fillRoom_16
    simp only [zf_lq]
    rw [e3, if_neg (by omega)]
    refine ⟨g, rfl, fun _ _ _ => rfl, fun T v hT hT2 hv => ?_⟩
    by_cases e : T = S
    · rw [e]
      exact J v (by omega)
    · exact I T v (by omega) hT2 hv
  | succ m ih =>
    intro k w g hm hk hw e3 eL I J
    obtain ⟨k, rfl⟩ : ∃ k1, k = k1 + 1 := ⟨k - 1, by omega⟩
    have hwn : w < n := by omega
    rw [zL_X10_fillRoom_16_s]
    unfold zB_X10_fillRoom_16
    simp only [zf_lq]
    obtain ⟨-, -, -, q4⟩ := rc_5 ⟨n, by omega⟩ ⟨S, by omega⟩ hS
    have f := fr31 hn e3 eL hL hS hwn (fun v hv y => by
      have q := q4 ⟨v, by omega⟩ hv y
      dsimp only at q
      have : 0 < 2 ^ v := Nat.pow_pos (by decide)
      exact I (S + 2 ^ v) v (by omega) q hv) (n - 0) 3000000000 0 rfl (by omega) (by omega)
    rw [show ((0 : Nat) : Int) = 0 from rfl, show mx_ (T_ L n S w) 0 = 0 from rfl] at f
    rw [e3, if_pos (by omega), f, ← R_e hn hS, X11_put (n := 2048) (by omega) (by omega), show ((S : Int) * 8 + (w : Int)).toNat = 8 * S + w by omega]
    have r := ih k (w + 1) (mz_up g 85 (8 * S + w) (R_ L n S w)) (by omega) (by omega) (by omega) ((up_k hq.1).trans e3) (fun a b ha hb => (up_k hq.2).trans (eL a b ha hb)) (fun T v h1 h2 h3 => by
      rw [up_j (by omega)]
      exact I T v h1 h2 h3) (fun v hv => by
      by_cases e : v = w
      · rw [e, mz_up_at]
      · rw [up_j (by omega)]
        exact J v (by omega))
    rw [show ((w + 1 : Nat) : Int) = (w : Int) + 1 by omega] at r
    obtain ⟨g1, r1, r2, r3⟩ := r
    exact ⟨g1, r1, fun a b z => (r2 a b z).trans (up_k z), r3⟩
theorem fr9 {q0 q1 : Nat} (hq : q0 ≠ 85 ∧ q1 ≠ 85) (hn : n ≤ 8) (hL : ∀ w v : Nat, w < n → v < n → L w v ≤ 8) : ∀ (m k : Nat) (g : mz_G), m < k → m < 2 ^ n → g q0 3 = n → lk g q1 n L → (∀ T v : Nat, m < T → T < 2 ^ n → v < n → g 85 (8 * T + v) = R_ L n T v) → ∃ g1, zL_X10_fillRoom_9 q0 q1 64 85 2048 k (m : Int) g = g1 ∧ (∀ a b : Nat, a ≠ 85 → g1 a b = g a b) ∧ ∀ T v : Nat, 0 < T → T < 2 ^ n → v < n → g1 85 (8 * T + v) = R_ L n T v := by
  intro m
  induction m with
  | zero =>
    intro k g hk hm e3 eL I
    obtain ⟨k, rfl⟩ : ∃ k1, k = k1 + 1 := ⟨k - 1, by omega⟩
    rw [zL_X10_fillRoom_9_s]
    unfold zB_X10_fillRoom_9
    rw [if_neg (by omega)]
    exact ⟨g, rfl, fun _ _ _ => rfl, I⟩
  | succ m ih =>
    intro k g hk hm e3 eL I
    obtain ⟨k, rfl⟩ : ∃ k1, k = k1 + 1 := ⟨k - 1, by omega⟩
    rw [zL_X10_fillRoom_9_s]
    unfold zB_X10_fillRoom_9
    simp only [zf_lq]
    rw [if_pos (by omega)]
    obtain ⟨g1, e1, f1, I1⟩ := fr16 hq hn hL (S := m + 1) (by omega) hm (n - 0) 3000000000 0 g rfl (by omega) (by omega) e3 eL I (fun v hv => absurd hv (Nat.not_lt_zero v))
    rw [show ((0 : Nat) : Int) = 0 from rfl] at e1
    rw [e1, show ((m + 1 : Nat) : Int) + -1 = (m : Int) by omega]
    obtain ⟨g2, e2, f2, I2⟩ := ih k g1 (by omega) (by omega) ((f1 _ _ hq.1).trans e3) (fun a b ha hb => (f1 _ _ hq.2).trans (eL a b ha hb)) (fun T v h1 h2 h3 => I1 T v (by omega) h2 h3)
    exact ⟨g2, e2, fun a b z => (f2 a b z).trans (f1 a b z), I2⟩
theorem fill_A {q0 q1 : Nat} (hq : q0 ≠ 85 ∧ q1 ≠ 85) (hn : n ≤ 8) (hL : ∀ w v : Nat, w < n → v < n → L w v ≤ 8) (e3 : g q0 3 = n) (eL : lk g q1 n L) : ∃ g1, zF_X10_fillRoom q0 q1 64 85 2048 g = g1 ∧ (∀ a b : Nat, a ≠ 85 → g1 a b = g a b) ∧ ∀ T v : Nat, 0 < T → T < 2 ^ n → v < n → g1 85 (8 * T + v) = R_ L n T v := by
  have p := p2_n hn
  unfold zF_X10_fillRoom
  simp only [zf_lq]
  rw [e3, (rc_7 ⟨n, by omega⟩).1]
  dsimp only
  have r := fr9 hq hn hL (2 ^ n - 1) 3000000000 g (by omega) (by omega) e3 eL (fun T v h1 h2 h3 => by omega)
  rw [show ((2 ^ n - 1 : Nat) : Int) = ((2 ^ n : Nat) : Int) - 1 by omega] at r
  exact r
/-- the first next one, of the class -/
theorem fn3 {q0 q1 : Nat} (hn : n ≤ 8) (e3 : g q0 3 = n) (hL : ∀ w v : Nat, w < n → v < n → -1 ≤ L w v ∧ L w v ≤ 8) (eR : ∀ T v : Nat, 0 < T → T < 2 ^ n → v < n → g 85 (8 * T + v) = R_ L n T v) {S : Nat} (hS : S < 2 ^ n) {a4 r : Int} {l : Nat → Int} (hl : (a4 = -1 ∧ ∀ v : Nat, l v = 0) ∨ (∃ w : Nat, a4 = (w : Int) ∧ w < n ∧ lk g q1 n L ∧ ∀ v : Nat, l v = L w v)) : ∀ (m k v : Nat), n - v = m → m < k → v ≤ n → (∀ u : Nat, u < v → Pc L n S l r u = false) → zL_X10_firstNext_3 q0 q1 64 85 2048 (S : Int) a4 r g k (v : Int) = if ls (Pc L n S l r) n < 8 then (ls (Pc L n S l r) n : Int) else -1 := by
  have p := p2_n hn
  have hC : ∀ w v : Nat, w < n → v < n → L w v ≤ 8 := fun w v a b => (hL w v a b).2
  intro m
  induction m with
  | zero =>
    intro k v hm hk hv I
    obtain ⟨k, rfl⟩ : ∃ k1, k = k1 + 1 := ⟨k - 1, by omega⟩
    rw [zL_X10_firstNext_3_s]
    unfold zB_X10_firstNext_3
    simp only [zf_lq]
    rw [e3, if_neg (by omega), ls_n hn (fun u hu => I u (by omega)), if_neg (by decide)]
  | succ m ih =>
    intro k v hm hk hv I
    obtain ⟨k, rfl⟩ : ∃ k1, k = k1 + 1 := ⟨k - 1, by omega⟩
    have hvn : v < n := by omega
    have N : Pc L n S l r v = false → zL_X10_firstNext_3 q0 q1 64 85 2048 (S : Int) a4 r g k ((v : Int) + 1) = if ls (Pc L n S l r) n < 8 then (ls (Pc L n S l r) n : Int) else -1 := fun z => by
      have q := ih k (v + 1) (by omega) (by omega) (by omega) (fun u hu => by
        by_cases e : u = v
        · rw [e]; exact z
        · exact I u (by omega))
      rw [show ((v + 1 : Nat) : Int) = (v : Int) + 1 by omega] at q
      exact q
    -- with its link
    have J : ∀ s : Int, s = l v → (-1 ≤ s ∧ s ≤ 8) → zJ_X10_firstNext_34 q0 q1 64 85 2048 (S : Int) a4 r (zL_X10_firstNext_3 q0 q1 64 85 2048 (S : Int) a4 r g k) s (v : Int) g = if ls (Pc L n S l r) n < 8 then (ls (Pc L n S l r) n : Int) else -1 := fun s hs bs => by
      unfold zJ_X10_firstNext_34 zJ_X10_firstNext_54 zJ_X10_firstNext_55 zJ_X10_firstNext_89
      simp only [zf_lq]
      by_cases y : b8 S v = true
      · rw [if_neg ((an_8 (by omega) (by omega)).1 y), if_pos trivial]
        exact N (decide_eq_false (fun w => by rw [y] at w; exact absurd w.1 (by decide)))
      · rw [Bool.not_eq_true] at y
        rw [if_pos ((an_8 (by omega) (by omega)).2 y)]
        by_cases z : s < 0
        · rw [if_pos z, if_pos trivial]
          exact N (decide_eq_false (fun w => by omega))
        · rw [if_neg z, if_neg (by decide), or_8 (by omega) (by omega) y]
          obtain ⟨-, -, -, q4⟩ := rc_5 ⟨n, by omega⟩ ⟨S, by omega⟩ hS
          have q := q4 ⟨v, by omega⟩ hvn y
          dsimp only at q
          have q0' : 0 < 2 ^ v := Nat.pow_pos (by decide)
          have bb := R_b (L := L) (C := 8) (by decide) hC (S := S + 2 ^ v) hvn
          rw [mz_wrap_id (a := ((S + 2 ^ v : Nat) : Int) * 8) ⟨by omega, by omega⟩, mz_wrap_id (a := ((S + 2 ^ v : Nat) : Int) * 8 + (v : Int)) ⟨by omega, by omega⟩, X11_at (n := 2048) (by omega) (by omega), show (((S + 2 ^ v : Nat) : Int) * 8 + (v : Int)).toNat = 8 * (S + 2 ^ v) + v by omega, eR _ v (by omega) q hvn, mz_wrap_id ⟨by omega, by omega⟩]
          by_cases u : s + R_ L n (S + 2 ^ v) v = r
          · rw [if_pos u]
            have e : ls (Pc L n S l r) n = v := ls_y hn hvn (decide_eq_true ⟨y, by omega, by rw [← hs]; exact u⟩) I
            rw [e, if_pos (by omega)]
          · rw [if_neg u]
            exact N (decide_eq_false (fun w => u (by rw [hs]; exact w.2.2)))
    rw [zL_X10_firstNext_3_s]
    unfold zB_X10_firstNext_3
    simp only [zf_lq]
    rw [e3, if_pos (by omega)]
    rcases hl with ⟨h1, h2⟩ | ⟨w, h1, h2, h3, h4⟩
    · rw [if_pos h1]
      exact J 0 (h2 v).symm ⟨by decide, by decide⟩
    · rw [if_neg (by omega), h1, mz_wrap_id (a := (w : Int) * 8) ⟨by omega, by omega⟩, mz_wrap_id ⟨by omega, by omega⟩, X11_at (n := 64) (by omega) (by omega), show ((w : Int) * 8 + (v : Int)).toNat = 8 * w + v by omega, h3 w v h2 hvn]
      rw [← h1]
      exact J (L w v) (h4 v).symm (hL w v h2 hvn)
end WL2
