/-! tokens, spelling, words: definitions -/
/-! TOKENS: what lies in a text at a place, the same for the class and the reference -/
def tk_blank (c : Int) : Prop := c = 32 ∨ c = 10
def tk_let (c : Int) : Prop := 97 ≤ c ∧ c ≤ 122
def tk_dig (c : Int) : Prop := 48 ≤ c ∧ c ≤ 57
def tk_sgn (c : Int) : Prop := c = 59 ∨ c = 40 ∨ c = 41 ∨ c = 43 ∨ c = 45 ∨ c = 42 ∨ c = 47 ∨ c = 60 ∨ c = 61
def tk_all (P : Int → Prop) (B : Int → Int) (p e : Int) : Prop := ∀ k, p ≤ k → k < e → P (B k)
def tk_run (P : Int → Prop) (B : Int → Int) (n p e : Int) : Prop := p ≤ e ∧ e ≤ n ∧ tk_all P B p e ∧ (e < n → ¬ P (B e))
def tk_nv (B : Int → Int) (b : Int) : Nat → Int
  | 0 => 0
  | k + 1 => 10 * tk_nv B b k + B (b + (k : Int)) - 48
/-- the token from the place p on, of a text of n: it begins at b, ends ahead of e; its kind: 0 the end, 1 a word, 2 a number, 3 none, else its sign; its number -/
def tk_tok (B : Int → Int) (n p b e kd nu : Int) : Prop := tk_run tk_blank B n p b ∧ (b = n → kd = 0 ∧ e = n) ∧ (b < n → tk_let (B b) → kd = 1 ∧ tk_run tk_let B n b e) ∧ (b < n → tk_dig (B b) → kd = 2 ∧ tk_run tk_dig B n b e ∧ (e - b ≤ 4 → nu = tk_nv B b (e - b).toNat)) ∧ (b < n → ¬ tk_let (B b) → ¬ tk_dig (B b) → e = b + 1 ∧ (tk_sgn (B b) → kd = B b) ∧ (¬ tk_sgn (B b) → kd = 3))
theorem tk_all_0 {P : Int → Prop} {B : Int → Int} {p e : Int} (h : e ≤ p) : tk_all P B p e := fun k h1 h2 => absurd h1 (by omega)
theorem tk_all_up {P : Int → Prop} {B : Int → Int} {p e : Int} (h : tk_all P B p e) (hp : P (B e)) : tk_all P B p (e + 1) := fun k h1 h2 => by
  rcases (by omega : k < e ∨ k = e) with z | z
  · exact h k h1 z
  · rw [z]; exact hp
theorem tk_run_u {P : Int → Prop} {B : Int → Int} {n p e f : Int} (h1 : tk_run P B n p e) (h2 : tk_run P B n p f) : e = f := by
  obtain ⟨a1, a2, a3, a4⟩ := h1
  obtain ⟨b1, b2, b3, b4⟩ := h2
  rcases (by omega : e < f ∨ e = f ∨ f < e) with z | z | z
  · exact absurd (b3 e a1 z) (a4 (by omega))
  · exact z
  · exact absurd (a3 f b1 z) (b4 (by omega))
theorem tk_run_eq {P : Int → Prop} {B C : Int → Int} {n p e : Int} (h0 : 0 ≤ p) (h : tk_run P B n p e) (hb : ∀ k, 0 ≤ k → k < n → C k = B k) : tk_run P C n p e := by
  obtain ⟨a1, a2, a3, a4⟩ := h
  exact ⟨a1, a2, fun k h1 h2 => by rw [hb k (by omega) (by omega)]; exact a3 k h1 h2, fun h1 => by rw [hb e (by omega) h1]; exact a4 h1⟩
theorem tk_nv_eq {B C : Int → Int} {b n : Int} (h0 : 0 ≤ b) (hb : ∀ k, 0 ≤ k → k < n → C k = B k) : ∀ k : Nat, b + (k : Int) ≤ n → tk_nv C b k = tk_nv B b k
  | 0, _ => rfl
  | k + 1, h => by
    simp only [tk_nv]
    rw [tk_nv_eq h0 hb k (by omega), hb (b + (k : Int)) (by omega) (by omega)]
/-- one text, one token -/
theorem tk_tok_u {B C : Int → Int} {n p b e kd nu b1 e1 kd1 nu1 : Int} (h0 : 0 ≤ p) (hb : ∀ k, 0 ≤ k → k < n → C k = B k) (h1 : tk_tok B n p b e kd nu) (h2 : tk_tok C n p b1 e1 kd1 nu1) : b1 = b ∧ e1 = e ∧ kd1 = kd ∧ (kd = 2 → e - b ≤ 4 → nu1 = nu) := by
  obtain ⟨a0, a1, a2, a3, a4⟩ := h1
  obtain ⟨c0, c1, c2, c3, c4⟩ := h2
  have eb : b1 = b := tk_run_u c0 (tk_run_eq h0 a0 hb)
  subst eb
  have q1 := a0.1
  have q2 := a0.2.1
  rcases (by omega : b1 = n ∨ b1 < n) with z | z
  · have u := a1 z
    have v := c1 z
    exact ⟨rfl, by omega, by omega, fun w => by omega⟩
  · have ec := hb b1 (by omega) z
    rw [ec] at c2 c3 c4
    by_cases hl : tk_let (B b1)
    · have u := a2 z hl
      have v := c2 z hl
      have := tk_run_u v.2 (tk_run_eq (by omega) u.2 hb)
      exact ⟨rfl, this, by omega, fun w => by omega⟩
    · by_cases hd : tk_dig (B b1)
      · have u := a3 z hd
        have v := c3 z hd
        have ee := tk_run_u v.2.1 (tk_run_eq (by omega) u.2.1 hb)
        refine ⟨rfl, ee, by omega, fun _ w => ?_⟩
        have w1 := u.2.1.1
        have w2 := u.2.1.2.1
        rw [v.2.2 (by omega), u.2.2 w, ee, tk_nv_eq (by omega) hb _ (by omega)]
      · have u := a4 z hl hd
        have v := c4 z hl hd
        by_cases hs : tk_sgn (B b1)
        · have := u.2.1 hs
          have := v.2.1 hs
          have hh : B b1 = 59 ∨ B b1 = 40 ∨ B b1 = 41 ∨ B b1 = 43 ∨ B b1 = 45 ∨ B b1 = 42 ∨ B b1 = 47 ∨ B b1 = 60 ∨ B b1 = 61 := hs
          exact ⟨rfl, by omega, by omega, fun w => by omega⟩
        · have := u.2.2 hs
          have := v.2.2 hs
          exact ⟨rfl, by omega, by omega, fun w => by omega⟩
def mz_cb (g : mz_G) (a : Int) : Int := mz_andI (g 83 a.toNat) 255
def mz_rb (g : mz_G) (a : Int) : Int := g 151 a.toNat
theorem mz_cb_eq {g g1 : mz_G} (h : ∀ j : Nat, g1 83 j = g 83 j) : mz_cb g1 = mz_cb g := funext fun a => by
  unfold mz_cb
  rw [h]
theorem mz_rb_eq {g g1 : mz_G} (h : ∀ j : Nat, g1 151 j = g 151 j) : mz_rb g1 = mz_rb g := funext fun a => by
  unfold mz_rb
  rw [h]
/-- the reference's kinds in the class's words -/
def tk_rk (t c : Int) : Int := if t = 3 then c else if t = 4 then 3 else t
/-! SPELLING: a word of the text against a constant -/
def mz_sy (q i : Nat) : Int := ((((mm_at mm_strs q).getD []).getD i 0 : Nat) : Int)
def mz_str (g : mz_G) : Prop := ∀ q i : Nat, q < 28 → g ((1000 + q) + 1000) i = mz_sy q i
theorem mz_sy_k : ∀ q : Fin 28, ∀ i : Fin 8, mz_andI (mz_sy q.val i.val) 255 = mz_sy q.val i.val := by decide +kernel
theorem mz_sl_k : ∀ q : Fin 28, mz_sl q.val ≤ 7 := by decide +kernel
theorem mz_sy_a {q i : Nat} (hq : q < 28) (hi : i < mz_sl q) : mz_andI (mz_sy q i) 255 = mz_sy q i := by
  have h := mz_sl_k ⟨q, hq⟩
  dsimp only at h
  exact mz_sy_k ⟨q, hq⟩ ⟨i, by omega⟩
theorem mz_str_fr {g g1 : mz_G} (h : mz_str g) (hf : ∀ k j : Nat, 2000 ≤ k → g1 k j = g k j) : mz_str g1 := fun q i hq => (hf _ _ (by omega)).trans (h q i hq)
def tk_ma (B : Int → Int) (b : Int) (q : Nat) (k : Int) : Prop := ∀ i : Nat, (i : Int) < k → B (b + (i : Int)) = mz_sy q i
def tk_sp (B : Int → Int) (kd b e : Int) (q : Nat) : Prop := kd = 1 ∧ e - b = (mz_sl q : Int) ∧ tk_ma B b q (mz_sl q)
theorem tk_ma_0 {B : Int → Int} {b : Int} {q : Nat} : tk_ma B b q 0 := fun i h => absurd h (by omega)
theorem tk_ma_up {B : Int → Int} {b k : Int} {q : Nat} (h : tk_ma B b q k) (h0 : 0 ≤ k) (e : B (b + k) = mz_sy q k.toNat) : tk_ma B b q (k + 1) := fun i hi => by
  rcases (by omega : (i : Int) < k ∨ (i : Int) = k) with z | z
  · exact h i z
  · rw [z, e, show k.toNat = i by omega]
theorem tk_ma_le {B : Int → Int} {b k j : Int} {q : Nat} (h : tk_ma B b q k) (hj : j ≤ k) : tk_ma B b q j := fun i hi => h i (by omega)
theorem tk_ma_at {B : Int → Int} {b k : Int} {q : Nat} (h : tk_ma B b q (mz_sl q)) (h0 : 0 ≤ k) (h1 : k < (mz_sl q : Int)) : B (b + k) = mz_sy q k.toNat := by
  have := h k.toNat (by omega)
  rw [show ((k.toNat : Nat) : Int) = k by omega] at this
  exact this
def tk_iq (g : mz_G) (q : Nat) : Prop := g 137 22 = 0 ∧ tk_sp (mz_rb g) (g 137 18) (g 137 20) (g 137 21) q
/-- one word, one constant's letters -/
theorem tk_sp_eq {B C : Int → Int} {n kd b e : Int} {q r : Nat} (h0 : 0 ≤ b) (he : e ≤ n) (hb : ∀ k, 0 ≤ k → k < n → C k = B k) (hl : mz_sl r = mz_sl q) (hs : ∀ i, i < mz_sl q → mz_sy r i = mz_sy q i) (h : tk_sp B kd b e q) : tk_sp C kd b e r := by
  obtain ⟨h1, h2, h3⟩ := h
  refine ⟨h1, by rw [hl]; exact h2, fun i hi => ?_⟩
  rw [hb _ (by omega) (by omega), hs i (by omega)]
  exact h3 i (by omega)
theorem tk_nv_b {B : Int → Int} {b : Int} : ∀ {k : Nat}, tk_all tk_dig B b (b + (k : Int)) → k ≤ 4 → 0 ≤ tk_nv B b k ∧ (k ≤ 0 → tk_nv B b k ≤ 0) ∧ (k ≤ 1 → tk_nv B b k ≤ 9) ∧ (k ≤ 2 → tk_nv B b k ≤ 99) ∧ (k ≤ 3 → tk_nv B b k ≤ 999) ∧ tk_nv B b k ≤ 9999
  | 0, _, _ => by
    show (0 : Int) ≤ 0 ∧ (_ → (0 : Int) ≤ 0) ∧ (_ → (0 : Int) ≤ 9) ∧ (_ → (0 : Int) ≤ 99) ∧ (_ → (0 : Int) ≤ 999) ∧ (0 : Int) ≤ 9999
    omega
  | k + 1, h, hk => by
    have h1 := tk_nv_b (k := k) (fun i a c => h i a (by omega)) (by omega)
    have h2 : tk_dig (B (b + (k : Int))) := h _ (by omega) (by omega)
    unfold tk_dig at h2
    simp only [tk_nv]
    omega
/-- the reference's token now is a token -/
def rq_t (g : mz_G) : Prop := ∃ p, tk_tok (mz_rb g) (g 137 17) p (g 137 20) (g 137 16) (tk_rk (g 137 18) (mz_rb g (g 137 20))) (g 137 19)
/-- tokens are told by their place alone -/
theorem tk_tok_v {B : Int → Int} {n p b e kd nu b1 e1 kd1 nu1 : Int} (h : tk_tok B n p b e kd nu) (h1 : tk_tok B n p b1 e1 kd1 nu1) : b1 = b ∧ e1 = e ∧ kd1 = kd := by
  obtain ⟨a1, a2, a3, a4, a5⟩ := h
  obtain ⟨c1, c2, c3, c4, c5⟩ := h1
  have eb : b1 = b := tk_run_u c1 a1
  rw [eb] at c2 c3 c4 c5
  have hb := a1.2.1
  refine ⟨eb, ?_⟩
  by_cases z : b = n
  · have u := a2 z
    have v := c2 z
    omega
  · have z : b < n := by omega
    by_cases z1 : tk_let (B b)
    · exact ⟨tk_run_u (c3 z z1).2 (a3 z z1).2, (c3 z z1).1.trans (a3 z z1).1.symm⟩
    · by_cases z2 : tk_dig (B b)
      · exact ⟨tk_run_u (c4 z z2).2.1 (a4 z z2).2.1, (c4 z z2).1.trans (a4 z z2).1.symm⟩
      · have u := a5 z z1 z2
        have v := c5 z z1 z2
        refine ⟨v.1.trans u.1.symm, ?_⟩
        by_cases z3 : tk_sgn (B b)
        · exact (v.2.1 z3).trans (u.2.1 z3).symm
        · exact (v.2.2 z3).trans (u.2.2 z3).symm
/-- a token that is not the end has a byte at the least -/
theorem tk_tok_len {B : Int → Int} {n p b e kd nu : Int} (h : tk_tok B n p b e kd nu) : p ≤ b ∧ b ≤ n ∧ b ≤ e ∧ e ≤ n ∧ (kd ≠ 0 → b < e) := by
  obtain ⟨a1, a2, a3, a4, a5⟩ := h
  refine ⟨a1.1, a1.2.1, ?_⟩
  have hb := a1.2.1
  by_cases z : b = n
  · have u := a2 z
    omega
  · have z : b < n := by omega
    by_cases z1 : tk_let (B b)
    · obtain ⟨u, v, w1, w2, w3⟩ := a3 z z1
      have : e ≠ b := fun y => by rw [y] at w3; exact w3 z z1
      omega
    · by_cases z2 : tk_dig (B b)
      · obtain ⟨u, ⟨v, w1, w2, w3⟩, _⟩ := a4 z z2
        have : e ≠ b := fun y => by rw [y] at w3; exact w3 z z2
        omega
      · have u := a5 z z1 z2
        omega
theorem zf_lq {α β : Type} (a : α) (f : α → β) : zf_l a f = f a := zf_le rfl
