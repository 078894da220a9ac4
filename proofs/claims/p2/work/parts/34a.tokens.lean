/-! TOKENS: what lies in a text at a place, the same for the class and the reference -/
def tk_blank (c : Int) : Prop := c = 32 ∨ c = 10
def tk_let (c : Int) : Prop := 97 ≤ c ∧ c ≤ 122
def tk_dig (c : Int) : Prop := 48 ≤ c ∧ c ≤ 57
def tk_sgn (c : Int) : Prop := c = 59 ∨ c = 40 ∨ c = 41 ∨ c = 43 ∨ c = 45 ∨ c = 42 ∨ c = 47 ∨ c = 60 ∨ c = 61
def tk_all (P : Int → Prop) (B : Int → Int) (p e : Int) : Prop := ∀ k, p ≤ k → k < e → P (B k)
def tk_run (P : Int → Prop) (B : Int → Int) (n p e : Int) : Prop := p ≤ e ∧ e ≤ n ∧ tk_all P B p e ∧ (e < n → ¬ P (B e))
def tk_nv (B : Int → Int) (b : Int) : Nat → Int
  | 0 => 0
  | k + 1 => 10 * tk_nv B b k + B (b + (k : Int)) - 48
/-- the token from the place p on, of a text of n: it begins at b, ends ahead of e; its kind: 0 the end, 1 a word, 2 a number, 3 none, else its sign; its number -/
def tk_tok (B : Int → Int) (n p b e kd nu : Int) : Prop := tk_run tk_blank B n p b ∧ (b = n → kd = 0 ∧ e = n) ∧ (b < n → tk_let (B b) → kd = 1 ∧ tk_run tk_let B n b e) ∧ (b < n → tk_dig (B b) → kd = 2 ∧ tk_run tk_dig B n b e ∧ (e - b ≤ 4 → nu = tk_nv B b (e - b).toNat)) ∧ (b < n → ¬ tk_let (B b) → ¬ tk_dig (B b) → e = b + 1 ∧ (tk_sgn (B b) → kd = B b) ∧ (¬ tk_sgn (B b) → kd = 3))
theorem tk_all_0 {P : Int → Prop} {B : Int → Int} {p e : Int} (h : e ≤ p) : tk_all P B p e := fun k h1 h2 => absurd h1 (by omega)
theorem tk_all_up {P : Int → Prop} {B : Int → Int} {p e : Int} (h : tk_all P B p e) (hp : P (B e)) : tk_all P B p (e + 1) := fun k h1 h2 => by
  rcases (by omega : k < e ∨ k = e) with z | z
  · exact h k h1 z
  · rw [z]; exact hp
theorem tk_run_u {P : Int → Prop} {B : Int → Int} {n p e f : Int} (h1 : tk_run P B n p e) (h2 : tk_run P B n p f) : e = f := by
  obtain ⟨a1, a2, a3, a4⟩ := h1
  obtain ⟨b1, b2, b3, b4⟩ := h2
  rcases (by omega : e < f ∨ e = f ∨ f < e) with z | z | z
  · exact absurd (b3 e a1 z) (a4 (by omega))
  · exact z
  · exact absurd (a3 f b1 z) (b4 (by omega))
theorem tk_run_eq {P : Int → Prop} {B C : Int → Int} {n p e : Int} (h0 : 0 ≤ p) (h : tk_run P B n p e) (hb : ∀ k, 0 ≤ k → k < n → C k = B k) : tk_run P C n p e := by
  obtain ⟨a1, a2, a3, a4⟩ := h
  exact ⟨a1, a2, fun k h1 h2 => by rw [hb k (by omega) (by omega)]; exact a3 k h1 h2, fun h1 => by rw [hb e (by omega) h1]; exact a4 h1⟩
theorem tk_nv_eq {B C : Int → Int} {b n : Int} (h0 : 0 ≤ b) (hb : ∀ k, 0 ≤ k → k < n → C k = B k) : ∀ k : Nat, b + (k : Int) ≤ n → tk_nv C b k = tk_nv B b k
  | 0, _ => rfl
  | k + 1, h => by
    simp only [tk_nv]
    rw [tk_nv_eq h0 hb k (by omega), hb (b + (k : Int)) (by omega) (by omega)]
/-- one text, one token -/
theorem tk_tok_u {B C : Int → Int} {n p b e kd nu b1 e1 kd1 nu1 : Int} (h0 : 0 ≤ p) (hb : ∀ k, 0 ≤ k → k < n → C k = B k) (h1 : tk_tok B n p b e kd nu) (h2 : tk_tok C n p b1 e1 kd1 nu1) : b1 = b ∧ e1 = e ∧ kd1 = kd ∧ (kd = 2 → e - b ≤ 4 → nu1 = nu) := by
  obtain ⟨a0, a1, a2, a3, a4⟩ := h1
  obtain ⟨c0, c1, c2, c3, c4⟩ := h2
  have eb : b1 = b := tk_run_u c0 (tk_run_eq h0 a0 hb)
  subst eb
  have q1 := a0.1
  have q2 := a0.2.1
  rcases (by omega : b1 = n ∨ b1 < n) with z | z
  · have u := a1 z
    have v := c1 z
    exact ⟨rfl, by omega, by omega, fun w => by omega⟩
  · have ec := hb b1 (by omega) z
    rw [ec] at c2 c3 c4
    by_cases hl : tk_let (B b1)
    · have u := a2 z hl
      have v := c2 z hl
      have := tk_run_u v.2 (tk_run_eq (by omega) u.2 hb)
      exact ⟨rfl, this, by omega, fun w => by omega⟩
    · by_cases hd : tk_dig (B b1)
      · have u := a3 z hd
        have v := c3 z hd
        have ee := tk_run_u v.2.1 (tk_run_eq (by omega) u.2.1 hb)
        refine ⟨rfl, ee, by omega, fun _ w => ?_⟩
        have w1 := u.2.1.1
        have w2 := u.2.1.2.1
        rw [v.2.2 (by omega), u.2.2 w, ee, tk_nv_eq (by omega) hb _ (by omega)]
      · have u := a4 z hl hd
        have v := c4 z hl hd
        by_cases hs : tk_sgn (B b1)
        · have := u.2.1 hs
          have := v.2.1 hs
          have hh : B b1 = 59 ∨ B b1 = 40 ∨ B b1 = 41 ∨ B b1 = 43 ∨ B b1 = 45 ∨ B b1 = 42 ∨ B b1 = 47 ∨ B b1 = 60 ∨ B b1 = 61 := hs
          exact ⟨rfl, by omega, by omega, fun w => by omega⟩
        · have := u.2.2 hs
          have := v.2.2 hs
          exact ⟨rfl, by omega, by omega, fun w => by omega⟩
def mz_cb (g : mz_G) (a : Int) : Int := mz_andI (g 83 a.toNat) 255
def mz_rb (g : mz_G) (a : Int) : Int := g 151 a.toNat
theorem mz_cb_eq {g g1 : mz_G} (h : ∀ j : Nat, g1 83 j = g 83 j) : mz_cb g1 = mz_cb g := funext fun a => by
  unfold mz_cb
  rw [h]
theorem mz_rb_eq {g g1 : mz_G} (h : ∀ j : Nat, g1 151 j = g 151 j) : mz_rb g1 = mz_rb g := funext fun a => by
  unfold mz_rb
  rw [h]
/-- the reference's kinds in the class's words -/
def tk_rk (t c : Int) : Int := if t = 3 then c else if t = 4 then 3 else t
/-! CONTRACTS of the tokens, exact (wip/p2/tools/gen40.py) -/
theorem e_X7_byteAt {d : Nat} (hd : 1 ≤ d) {x : mm_X} (hx : mk_x x) {g : mz_G} (hI : mz_inv g) {a1 : Int} (l_a1 : (-2147483648) ≤ a1) (u_a1 : a1 ≤ 2147483647) {Q : (Option Value ⊕ Nat) → mm_H → Prop} (hQ : ∀ (r : Int), 0 ≤ r → r ≤ 255 → (0 ≤ a1 → a1 < 700 → r = mz_cb g a1) → Q (.inl (some (.int (Int32.ofInt r)))) (mz_mk g x)) : mm_C d 84 [.ref 82, .int (Int32.ofInt a1)] (mz_mk g x) Q := by
  refine ⟨mmX7_byteAt, [some (.ref 82), some (.int (Int32.ofInt a1))], rfl, rfl, ?_⟩
  refine mm_g 1 (pc1 := 1) (lo1 := [some (.ref 82), some (.int (Int32.ofInt a1))]) (st1 := [.int (Int32.ofInt a1)]) (H1 := mz_mk g x) rfl ?_
  refine mz_if_lt (tgt := 26) rfl rfl (mz_rg l_a1 u_a1) (fun c1_0 => ?_) (fun c1_0 => ?_)
  · skip
    refine mm_g 1 (pc1 := 27) (lo1 := [some (.ref 82), some (.int (Int32.ofInt a1))]) (st1 := [.int (Int32.ofInt 0)]) (H1 := mz_mk g x) rfl ?_
    exact mm_rt rfl rfl (hQ _ (by decide) (by decide) (fun h0 h1 => by omega))
  · skip
    refine mm_g 2 (pc1 := 6) (lo1 := [some (.ref 82), some (.int (Int32.ofInt a1))]) (st1 := [.ref 82, .int (Int32.ofInt a1)]) (H1 := mz_mk g x) rfl ?_
    refine mz_fgR (v := 83) rfl fd_7_9 (by decide) (sc_82 _) (rf_82_0 _ _ _) ?_
    refine mz_al rfl (sh_83 _) (by decide) ?_
    refine mz_ic_ge (tgt := 26) rfl rfl (mz_rg l_a1 u_a1) ⟨by omega, by omega⟩ (fun c10_0 => ?_) (fun c10_0 => ?_)
    · skip
      refine mm_g 1 (pc1 := 27) (lo1 := [some (.ref 82), some (.int (Int32.ofInt a1))]) (st1 := [.int (Int32.ofInt 0)]) (H1 := mz_mk g x) rfl ?_
      exact mm_rt rfl rfl (hQ _ (by decide) (by decide) (fun h0 h1 => by omega))
    · skip
      refine mm_g 1 (pc1 := 14) (lo1 := [some (.ref 82), some (.int (Int32.ofInt a1))]) (st1 := [.ref 82]) (H1 := mz_mk g x) rfl ?_
      refine mz_fgR (v := 83) rfl fd_7_9 (by decide) (sc_82 _) (rf_82_0 _ _ _) ?_
      refine mm_g 1 (pc1 := 18) (lo1 := [some (.ref 82), some (.int (Int32.ofInt a1))]) (st1 := [.int (Int32.ofInt a1), .ref 83]) (H1 := mz_mk g x) rfl ?_
      refine mz_bI rfl (sh_83 _) (Or.inl rfl) (by omega) (by omega) (by decide) hI (ba_83 _) (fun v1 e_v1 l_v1 u_v1 => ?_)
      refine mz_sip rfl sip_255 ?_
      refine mz_iand rfl (fun v2 e_v2 hwv2 => ?_)
      have b_v2 : 0 ≤ v2 ∧ v2 ≤ 255 := by rw [e_v2]; exact mz_and_r (by omega) (by omega) (mz_rg l_v1 u_v1)
      have l_v2 := b_v2.1
      have u_v2 := b_v2.2
      refine mz_gt (tgt := 27) rfl rfl ?_
      exact mm_rt rfl rfl (hQ _ (by omega) (by omega) (fun h0 h1 => by unfold mz_cb; rw [e_v1]; exact e_v2))
theorem e_X7_isLetter {d : Nat} (hd : 1 ≤ d) {x : mm_X} (hx : mk_x x) {g : mz_G} (hI : mz_inv g) {a1 : Int} (l_a1 : (-2147483648) ≤ a1) (u_a1 : a1 ≤ 2147483647) {Q : (Option Value ⊕ Nat) → mm_H → Prop} (hQ : ∀ (r : Int), 0 ≤ r → r ≤ 1 → (r = 1 ↔ tk_let a1) → Q (.inl (some (.int (Int32.ofInt r)))) (mz_mk g x)) : mm_C d 85 [.int (Int32.ofInt a1)] (mz_mk g x) Q := by
  refine ⟨mmX7_isLetter, [some (.int (Int32.ofInt a1))], rfl, rfl, ?_⟩
  refine mm_g 1 (pc1 := 1) (lo1 := [some (.int (Int32.ofInt a1))]) (st1 := [.int (Int32.ofInt a1)]) (H1 := mz_mk g x) rfl ?_
  refine mz_bip rfl bip_97 ?_
  refine mz_ic_lt (tgt := 16) rfl rfl (mz_rg l_a1 u_a1) ⟨by decide, by decide⟩ (fun c3_0 => ?_) (fun c3_0 => ?_)
  · skip
    refine mm_g 1 (pc1 := 17) (lo1 := [some (.int (Int32.ofInt a1))]) (st1 := [.int (Int32.ofInt 0)]) (H1 := mz_mk g x) rfl ?_
    exact mz_rtZ rfl (by decide) (by omega) (hQ _ (by decide) (by decide) (by unfold tk_let; omega))
  · skip
    refine mm_g 1 (pc1 := 7) (lo1 := [some (.int (Int32.ofInt a1))]) (st1 := [.int (Int32.ofInt a1)]) (H1 := mz_mk g x) rfl ?_
    refine mz_bip rfl bip_122 ?_
    refine mz_ic_gt (tgt := 16) rfl rfl (mz_rg l_a1 u_a1) ⟨by decide, by decide⟩ (fun c9_0 => ?_) (fun c9_0 => ?_)
    · skip
      refine mm_g 1 (pc1 := 17) (lo1 := [some (.int (Int32.ofInt a1))]) (st1 := [.int (Int32.ofInt 0)]) (H1 := mz_mk g x) rfl ?_
      exact mz_rtZ rfl (by decide) (by omega) (hQ _ (by decide) (by decide) (by unfold tk_let; omega))
    · skip
      refine mm_g 1 (pc1 := 13) (lo1 := [some (.int (Int32.ofInt a1))]) (st1 := [.int (Int32.ofInt 1)]) (H1 := mz_mk g x) rfl ?_
      refine mz_gt (tgt := 17) rfl rfl ?_
      exact mz_rtZ rfl (by decide) (by omega) (hQ _ (by decide) (by decide) (by unfold tk_let; omega))
theorem e_X7_isDigit {d : Nat} (hd : 1 ≤ d) {x : mm_X} (hx : mk_x x) {g : mz_G} (hI : mz_inv g) {a1 : Int} (l_a1 : (-2147483648) ≤ a1) (u_a1 : a1 ≤ 2147483647) {Q : (Option Value ⊕ Nat) → mm_H → Prop} (hQ : ∀ (r : Int), 0 ≤ r → r ≤ 1 → (r = 1 ↔ tk_dig a1) → Q (.inl (some (.int (Int32.ofInt r)))) (mz_mk g x)) : mm_C d 86 [.int (Int32.ofInt a1)] (mz_mk g x) Q := by
  refine ⟨mmX7_isDigit, [some (.int (Int32.ofInt a1))], rfl, rfl, ?_⟩
  refine mm_g 1 (pc1 := 1) (lo1 := [some (.int (Int32.ofInt a1))]) (st1 := [.int (Int32.ofInt a1)]) (H1 := mz_mk g x) rfl ?_
  refine mz_bip rfl bip_48 ?_
  refine mz_ic_lt (tgt := 16) rfl rfl (mz_rg l_a1 u_a1) ⟨by decide, by decide⟩ (fun c3_0 => ?_) (fun c3_0 => ?_)
  · skip
    refine mm_g 1 (pc1 := 17) (lo1 := [some (.int (Int32.ofInt a1))]) (st1 := [.int (Int32.ofInt 0)]) (H1 := mz_mk g x) rfl ?_
    exact mz_rtZ rfl (by decide) (by omega) (hQ _ (by decide) (by decide) (by unfold tk_dig; omega))
  · skip
    refine mm_g 1 (pc1 := 7) (lo1 := [some (.int (Int32.ofInt a1))]) (st1 := [.int (Int32.ofInt a1)]) (H1 := mz_mk g x) rfl ?_
    refine mz_bip rfl bip_57 ?_
    refine mz_ic_gt (tgt := 16) rfl rfl (mz_rg l_a1 u_a1) ⟨by decide, by decide⟩ (fun c9_0 => ?_) (fun c9_0 => ?_)
    · skip
      refine mm_g 1 (pc1 := 17) (lo1 := [some (.int (Int32.ofInt a1))]) (st1 := [.int (Int32.ofInt 0)]) (H1 := mz_mk g x) rfl ?_
      exact mz_rtZ rfl (by decide) (by omega) (hQ _ (by decide) (by decide) (by unfold tk_dig; omega))
    · skip
      refine mm_g 1 (pc1 := 13) (lo1 := [some (.int (Int32.ofInt a1))]) (st1 := [.int (Int32.ofInt 1)]) (H1 := mz_mk g x) rfl ?_
      refine mz_gt (tgt := 17) rfl rfl ?_
      exact mz_rtZ rfl (by decide) (by omega) (hQ _ (by decide) (by decide) (by unfold tk_dig; omega))
theorem e_X7_isSign {d : Nat} (hd : 1 ≤ d) {x : mm_X} (hx : mk_x x) {g : mz_G} (hI : mz_inv g) {a1 : Int} (l_a1 : (-2147483648) ≤ a1) (u_a1 : a1 ≤ 2147483647) {Q : (Option Value ⊕ Nat) → mm_H → Prop} (hQ : ∀ (r : Int), 0 ≤ r → r ≤ 1 → (r = 1 ↔ tk_sgn a1) → Q (.inl (some (.int (Int32.ofInt r)))) (mz_mk g x)) : mm_C d 87 [.int (Int32.ofInt a1)] (mz_mk g x) Q := by
  refine ⟨mmX7_isSign, [some (.int (Int32.ofInt a1)), none], rfl, rfl, ?_⟩
  refine mm_g 1 (pc1 := 1) (lo1 := [some (.int (Int32.ofInt a1)), none]) (st1 := [.int (Int32.ofInt a1)]) (H1 := mz_mk g x) rfl ?_
  refine mz_bip rfl bip_59 ?_
  refine mz_ic_eq (tgt := 30) rfl rfl (mz_rg l_a1 u_a1) ⟨by decide, by decide⟩ (fun c3_0 => ?_) (fun c3_0 => ?_)
  · skip
    refine mm_g 1 (pc1 := 31) (lo1 := [some (.int (Int32.ofInt a1)), none]) (st1 := [.int (Int32.ofInt 1)]) (H1 := mz_mk g x) rfl ?_
    refine mz_gt (tgt := 35) rfl rfl ?_
    refine mm_g 2 (pc1 := 37) (lo1 := [some (.int (Int32.ofInt a1)), some (.int (Int32.ofInt 1))]) (st1 := [.int (Int32.ofInt 1)]) (H1 := mz_mk g x) rfl ?_
    refine mz_if_ne (tgt := 64) rfl rfl ⟨by decide, by decide⟩ (fun c37_0 => ?_) (fun c37_0 => ?_)
    · skip
      refine mm_g 1 (pc1 := 65) (lo1 := [some (.int (Int32.ofInt a1)), some (.int (Int32.ofInt 1))]) (st1 := [.int (Int32.ofInt 1)]) (H1 := mz_mk g x) rfl ?_
      refine mz_gt (tgt := 69) rfl rfl ?_
      exact mz_rtZ rfl (by decide) (by omega) (hQ _ (by decide) (by decide) (by unfold tk_sgn; omega))
    · exfalso; omega
  · skip
    refine mm_g 1 (pc1 := 7) (lo1 := [some (.int (Int32.ofInt a1)), none]) (st1 := [.int (Int32.ofInt a1)]) (H1 := mz_mk g x) rfl ?_
    refine mz_bip rfl bip_40 ?_
    refine mz_ic_eq (tgt := 30) rfl rfl (mz_rg l_a1 u_a1) ⟨by decide, by decide⟩ (fun c9_0 => ?_) (fun c9_0 => ?_)
    · skip
      refine mm_g 1 (pc1 := 31) (lo1 := [some (.int (Int32.ofInt a1)), none]) (st1 := [.int (Int32.ofInt 1)]) (H1 := mz_mk g x) rfl ?_
      refine mz_gt (tgt := 35) rfl rfl ?_
      refine mm_g 2 (pc1 := 37) (lo1 := [some (.int (Int32.ofInt a1)), some (.int (Int32.ofInt 1))]) (st1 := [.int (Int32.ofInt 1)]) (H1 := mz_mk g x) rfl ?_
      refine mz_if_ne (tgt := 64) rfl rfl ⟨by decide, by decide⟩ (fun c37_0 => ?_) (fun c37_0 => ?_)
      · skip
        refine mm_g 1 (pc1 := 65) (lo1 := [some (.int (Int32.ofInt a1)), some (.int (Int32.ofInt 1))]) (st1 := [.int (Int32.ofInt 1)]) (H1 := mz_mk g x) rfl ?_
        refine mz_gt (tgt := 69) rfl rfl ?_
        exact mz_rtZ rfl (by decide) (by omega) (hQ _ (by decide) (by decide) (by unfold tk_sgn; omega))
      · exfalso; omega
    · skip
      refine mm_g 1 (pc1 := 13) (lo1 := [some (.int (Int32.ofInt a1)), none]) (st1 := [.int (Int32.ofInt a1)]) (H1 := mz_mk g x) rfl ?_
      refine mz_bip rfl bip_41 ?_
      refine mz_ic_eq (tgt := 30) rfl rfl (mz_rg l_a1 u_a1) ⟨by decide, by decide⟩ (fun c15_0 => ?_) (fun c15_0 => ?_)
      · skip
        refine mm_g 1 (pc1 := 31) (lo1 := [some (.int (Int32.ofInt a1)), none]) (st1 := [.int (Int32.ofInt 1)]) (H1 := mz_mk g x) rfl ?_
        refine mz_gt (tgt := 35) rfl rfl ?_
        refine mm_g 2 (pc1 := 37) (lo1 := [some (.int (Int32.ofInt a1)), some (.int (Int32.ofInt 1))]) (st1 := [.int (Int32.ofInt 1)]) (H1 := mz_mk g x) rfl ?_
        refine mz_if_ne (tgt := 64) rfl rfl ⟨by decide, by decide⟩ (fun c37_0 => ?_) (fun c37_0 => ?_)
        · skip
          refine mm_g 1 (pc1 := 65) (lo1 := [some (.int (Int32.ofInt a1)), some (.int (Int32.ofInt 1))]) (st1 := [.int (Int32.ofInt 1)]) (H1 := mz_mk g x) rfl ?_
          refine mz_gt (tgt := 69) rfl rfl ?_
          exact mz_rtZ rfl (by decide) (by omega) (hQ _ (by decide) (by decide) (by unfold tk_sgn; omega))
        · exfalso; omega
      · skip
        refine mm_g 1 (pc1 := 19) (lo1 := [some (.int (Int32.ofInt a1)), none]) (st1 := [.int (Int32.ofInt a1)]) (H1 := mz_mk g x) rfl ?_
        refine mz_bip rfl bip_60 ?_
        refine mz_ic_eq (tgt := 30) rfl rfl (mz_rg l_a1 u_a1) ⟨by decide, by decide⟩ (fun c21_0 => ?_) (fun c21_0 => ?_)
        · skip
          refine mm_g 1 (pc1 := 31) (lo1 := [some (.int (Int32.ofInt a1)), none]) (st1 := [.int (Int32.ofInt 1)]) (H1 := mz_mk g x) rfl ?_
          refine mz_gt (tgt := 35) rfl rfl ?_
          refine mm_g 2 (pc1 := 37) (lo1 := [some (.int (Int32.ofInt a1)), some (.int (Int32.ofInt 1))]) (st1 := [.int (Int32.ofInt 1)]) (H1 := mz_mk g x) rfl ?_
          refine mz_if_ne (tgt := 64) rfl rfl ⟨by decide, by decide⟩ (fun c37_0 => ?_) (fun c37_0 => ?_)
          · skip
            refine mm_g 1 (pc1 := 65) (lo1 := [some (.int (Int32.ofInt a1)), some (.int (Int32.ofInt 1))]) (st1 := [.int (Int32.ofInt 1)]) (H1 := mz_mk g x) rfl ?_
            refine mz_gt (tgt := 69) rfl rfl ?_
            exact mz_rtZ rfl (by decide) (by omega) (hQ _ (by decide) (by decide) (by unfold tk_sgn; omega))
          · exfalso; omega
        · skip
          refine mm_g 1 (pc1 := 25) (lo1 := [some (.int (Int32.ofInt a1)), none]) (st1 := [.int (Int32.ofInt a1)]) (H1 := mz_mk g x) rfl ?_
          refine mz_bip rfl bip_61 ?_
          refine mz_ic_ne (tgt := 34) rfl rfl (mz_rg l_a1 u_a1) ⟨by decide, by decide⟩ (fun c27_0 => ?_) (fun c27_0 => ?_)
          · skip
            refine mm_g 3 (pc1 := 37) (lo1 := [some (.int (Int32.ofInt a1)), some (.int (Int32.ofInt 0))]) (st1 := [.int (Int32.ofInt 0)]) (H1 := mz_mk g x) rfl ?_
            refine mz_if_ne (tgt := 64) rfl rfl ⟨by decide, by decide⟩ (fun c37_0 => ?_) (fun c37_0 => ?_)
            · exfalso; omega
            · skip
              refine mm_g 1 (pc1 := 41) (lo1 := [some (.int (Int32.ofInt a1)), some (.int (Int32.ofInt 0))]) (st1 := [.int (Int32.ofInt a1)]) (H1 := mz_mk g x) rfl ?_
              refine mz_bip rfl bip_43 ?_
              refine mz_ic_eq (tgt := 64) rfl rfl (mz_rg l_a1 u_a1) ⟨by decide, by decide⟩ (fun c43_0 => ?_) (fun c43_0 => ?_)
              · skip
                refine mm_g 1 (pc1 := 65) (lo1 := [some (.int (Int32.ofInt a1)), some (.int (Int32.ofInt 0))]) (st1 := [.int (Int32.ofInt 1)]) (H1 := mz_mk g x) rfl ?_
                refine mz_gt (tgt := 69) rfl rfl ?_
                exact mz_rtZ rfl (by decide) (by omega) (hQ _ (by decide) (by decide) (by unfold tk_sgn; omega))
              · skip
                refine mm_g 1 (pc1 := 47) (lo1 := [some (.int (Int32.ofInt a1)), some (.int (Int32.ofInt 0))]) (st1 := [.int (Int32.ofInt a1)]) (H1 := mz_mk g x) rfl ?_
                refine mz_bip rfl bip_45 ?_
                refine mz_ic_eq (tgt := 64) rfl rfl (mz_rg l_a1 u_a1) ⟨by decide, by decide⟩ (fun c49_0 => ?_) (fun c49_0 => ?_)
                · skip
                  refine mm_g 1 (pc1 := 65) (lo1 := [some (.int (Int32.ofInt a1)), some (.int (Int32.ofInt 0))]) (st1 := [.int (Int32.ofInt 1)]) (H1 := mz_mk g x) rfl ?_
                  refine mz_gt (tgt := 69) rfl rfl ?_
                  exact mz_rtZ rfl (by decide) (by omega) (hQ _ (by decide) (by decide) (by unfold tk_sgn; omega))
                · skip
                  refine mm_g 1 (pc1 := 53) (lo1 := [some (.int (Int32.ofInt a1)), some (.int (Int32.ofInt 0))]) (st1 := [.int (Int32.ofInt a1)]) (H1 := mz_mk g x) rfl ?_
                  refine mz_bip rfl bip_42 ?_
                  refine mz_ic_eq (tgt := 64) rfl rfl (mz_rg l_a1 u_a1) ⟨by decide, by decide⟩ (fun c55_0 => ?_) (fun c55_0 => ?_)
                  · skip
                    refine mm_g 1 (pc1 := 65) (lo1 := [some (.int (Int32.ofInt a1)), some (.int (Int32.ofInt 0))]) (st1 := [.int (Int32.ofInt 1)]) (H1 := mz_mk g x) rfl ?_
                    refine mz_gt (tgt := 69) rfl rfl ?_
                    exact mz_rtZ rfl (by decide) (by omega) (hQ _ (by decide) (by decide) (by unfold tk_sgn; omega))
                  · skip
                    refine mm_g 1 (pc1 := 59) (lo1 := [some (.int (Int32.ofInt a1)), some (.int (Int32.ofInt 0))]) (st1 := [.int (Int32.ofInt a1)]) (H1 := mz_mk g x) rfl ?_
                    refine mz_bip rfl bip_47 ?_
                    refine mz_ic_ne (tgt := 68) rfl rfl (mz_rg l_a1 u_a1) ⟨by decide, by decide⟩ (fun c61_0 => ?_) (fun c61_0 => ?_)
                    · skip
                      refine mm_g 1 (pc1 := 69) (lo1 := [some (.int (Int32.ofInt a1)), some (.int (Int32.ofInt 0))]) (st1 := [.int (Int32.ofInt 0)]) (H1 := mz_mk g x) rfl ?_
                      exact mz_rtZ rfl (by decide) (by omega) (hQ _ (by decide) (by decide) (by unfold tk_sgn; omega))
                    · skip
                      refine mm_g 1 (pc1 := 65) (lo1 := [some (.int (Int32.ofInt a1)), some (.int (Int32.ofInt 0))]) (st1 := [.int (Int32.ofInt 1)]) (H1 := mz_mk g x) rfl ?_
                      refine mz_gt (tgt := 69) rfl rfl ?_
                      exact mz_rtZ rfl (by decide) (by omega) (hQ _ (by decide) (by decide) (by unfold tk_sgn; omega))
          · skip
            refine mm_g 1 (pc1 := 31) (lo1 := [some (.int (Int32.ofInt a1)), none]) (st1 := [.int (Int32.ofInt 1)]) (H1 := mz_mk g x) rfl ?_
            refine mz_gt (tgt := 35) rfl rfl ?_
            refine mm_g 2 (pc1 := 37) (lo1 := [some (.int (Int32.ofInt a1)), some (.int (Int32.ofInt 1))]) (st1 := [.int (Int32.ofInt 1)]) (H1 := mz_mk g x) rfl ?_
            refine mz_if_ne (tgt := 64) rfl rfl ⟨by decide, by decide⟩ (fun c37_0 => ?_) (fun c37_0 => ?_)
            · skip
              refine mm_g 1 (pc1 := 65) (lo1 := [some (.int (Int32.ofInt a1)), some (.int (Int32.ofInt 1))]) (st1 := [.int (Int32.ofInt 1)]) (H1 := mz_mk g x) rfl ?_
              refine mz_gt (tgt := 69) rfl rfl ?_
              exact mz_rtZ rfl (by decide) (by omega) (hQ _ (by decide) (by decide) (by unfold tk_sgn; omega))
            · exfalso; omega
theorem e_X7_stepWord {d : Nat} (hd : 2 ≤ d) {x : mm_X} (hx : mk_x x) {g : mz_G} (hI : mz_inv g) (p1 : g 82 3 ≤ g 82 2) {Q : (Option Value ⊕ Nat) → mm_H → Prop} (hQ : ∀ (g1 : mz_G), mz_inv g1 → mz_fr (fw_X7_stepWord x) g g1 → (g1 82 4 = 1) → (tk_run tk_let (mz_cb g) (g 82 2) (g 82 3) (g1 82 3)) → Q (.inl none) (mz_mk g1 x)) : mm_C d 82 [.ref 82] (mz_mk g x) Q := by
  refine ⟨mmX7_stepWord, [some (.ref 82)], rfl, rfl, ?_⟩
  have bz0 := mz_rd hI bd_82_2
  have bz1 := mz_rd hI bd_82_3
  have bz2 := mz_rd hI bd_82_4
  have bz3 := mz_rd hI bd_82_5
  have bz4 := mz_rd hI bd_82_6
  refine mm_g 2 (pc1 := 2) (lo1 := [some (.ref 82)]) (st1 := [.int (Int32.ofInt 1), .ref 82]) (H1 := mz_mk g x) rfl ?_
  refine mz_pI rfl fd_7_25 (sc_82 _) hI bd_82_4 (by omega) (by omega) (fun g1 hIg1 hug1 => ?_)
  have L5 : ∀ n4 : Nat, ∀ (g2 : mz_G), (701 - g2 82 3).toNat = n4 → mz_inv g2 → mz_fr (fl_X7_stepWord_5 x) g1 g2 → (g 82 3 ≤ g2 82 3) → (g2 82 3 ≤ g 82 2) → (tk_all tk_let (mz_cb g) (g 82 3) (g2 82 3)) → mm_W d mmX7_stepWord 5 [some (.ref 82)] [] (mz_mk g2 x) Q := by
    intro n4
    induction n4 using Nat.strongRecOn with
    | ind n4 ih3 =>
    intro g2 hmn4 hIg2 hfg2 hv6 hv7 hv8
    have bz_g2_3 := mz_rd hIg2 bd_82_3
    refine mm_g 1 (pc1 := 6) (lo1 := [some (.ref 82)]) (st1 := [.ref 82]) (H1 := mz_mk g2 x) rfl ?_
    refine mz_fgI (v := (g2 82 3)) rfl fd_7_22 (by decide) (sc_82 _) (show g2 82 3 = (g2 82 3) from rfl) ?_
    refine mm_g 1 (pc1 := 10) (lo1 := [some (.ref 82)]) (st1 := [.ref 82, .int (Int32.ofInt (g2 82 3))]) (H1 := mz_mk g2 x) rfl ?_
    refine mz_fgI (v := (g 82 2)) rfl fd_7_19 (by decide) (sc_82 _) (show g2 82 2 = (g 82 2) from ((hfg2 82 2 (fun h => (absurd (show (82 = 82 ∧ 2 = 3) from h) (by decide)))).trans ((hug1.2 82 2 (fun h => absurd h.2 (by decide))).trans rfl))) ?_
    refine mz_ic_ge (tgt := 43) rfl rfl ⟨by omega, by omega⟩ ⟨by omega, by omega⟩ (fun c13_8 => ?_) (fun c13_8 => ?_)
    · skip
      exact mm_rt rfl rfl (hQ _ hIg2 (fun k j hk => ((hfg2 k j (fun h => hk (Or.inr h))).trans (hug1.2 k j (fun h => hk (Or.inl h))))) (by have h90 := (show g2 82 4 = 1 from ((hfg2 82 4 (fun h => (absurd (show (82 = 82 ∧ 4 = 3) from h) (by decide)))).trans hug1.1)); omega) ⟨by have h90 := (show g2 82 3 = (g2 82 3) from rfl); omega, by have h90 := (show g2 82 3 = (g2 82 3) from rfl); omega, by rw [(show g2 82 3 = (g2 82 3) from rfl)]; exact hv8, (fun z => by exfalso; have h90 := (show g2 82 3 = (g2 82 3) from rfl); omega)⟩)
    · skip
      refine mm_g 2 (pc1 := 18) (lo1 := [some (.ref 82)]) (st1 := [.ref 82, .ref 82]) (H1 := mz_mk g2 x) rfl ?_
      refine mz_fgI (v := (g2 82 3)) rfl fd_7_22 (by decide) (sc_82 _) (show g2 82 3 = (g2 82 3) from rfl) ?_
      refine mz_cv rfl mt_7_37 (by decide) (sc_82 _) rfl (Nat.le_of_ble_eq_true rfl) (by omega) (e_X7_byteAt (by omega) hx hIg2 (by omega) (by omega) (fun v9 l_v9 u_v9 hp10 => ⟨_, rfl, ?_⟩))
      show mm_W d mmX7_stepWord 24 [some (.ref 82)] [.int (Int32.ofInt v9)] (mz_mk g2 x) Q
      have by10 : 0 ≤ (g2 82 3) → (g2 82 3) < 700 → v9 = mz_cb g (g2 82 3) := fun h0 h1 => (hp10 h0 h1).trans (congrFun (mz_cb_eq (fun j => ((hfg2 83 j (fun h => (absurd (show 83 = 82 from (h).1) (by decide)))).trans (hug1.2 83 j (fun h => absurd h.1 (by decide)))))) _)
      refine mz_cs rfl mt_7_41 (by decide) rfl (Nat.le_of_ble_eq_true rfl) (by omega) (e_X7_isLetter (by omega) hx hIg2 (by omega) (by omega) (fun v11 l_v11 u_v11 hp12 => ⟨_, rfl, ?_⟩))
      show mm_W d mmX7_stepWord 27 [some (.ref 82)] [.int (Int32.ofInt v11)] (mz_mk g2 x) Q
      refine mz_if_eq (tgt := 43) rfl rfl (mz_rg l_v11 u_v11) (fun c27_12 => ?_) (fun c27_12 => ?_)
      · skip
        exact mm_rt rfl rfl (hQ _ hIg2 (fun k j hk => ((hfg2 k j (fun h => hk (Or.inr h))).trans (hug1.2 k j (fun h => hk (Or.inl h))))) (by have h90 := (show g2 82 4 = 1 from ((hfg2 82 4 (fun h => (absurd (show (82 = 82 ∧ 4 = 3) from h) (by decide)))).trans hug1.1)); omega) ⟨by have h90 := (show g2 82 3 = (g2 82 3) from rfl); omega, by have h90 := (show g2 82 3 = (g2 82 3) from rfl); omega, by rw [(show g2 82 3 = (g2 82 3) from rfl)]; exact hv8, (fun _ z => by rw [(show g2 82 3 = (g2 82 3) from rfl), ← by10 (by omega) (by omega)] at z; have z2 := hp12.mpr z; omega)⟩)
      · skip
        refine mm_g 2 (pc1 := 32) (lo1 := [some (.ref 82)]) (st1 := [.ref 82, .ref 82]) (H1 := mz_mk g2 x) rfl ?_
        refine mz_fgI (v := (g2 82 3)) rfl fd_7_22 (by decide) (sc_82 _) (show g2 82 3 = (g2 82 3) from rfl) ?_
        refine mm_g 1 (pc1 := 36) (lo1 := [some (.ref 82)]) (st1 := [.int (Int32.ofInt 1), .int (Int32.ofInt (g2 82 3)), .ref 82]) (H1 := mz_mk g2 x) rfl ?_
        refine mz_iadd rfl ?_
        refine mz_pI rfl fd_7_22 (sc_82 _) hIg2 bd_82_3 (by omega) (by omega) (fun g13 hIg13 hug13 => ?_)
        refine mz_gt (tgt := 5) rfl rfl ?_
        exact ih3 ((701 - g13 82 3).toNat) (by have h90 := (show g13 82 3 = ((g2 82 3) + 1) from hug13.1); omega) g13 rfl hIg13 (fun k j hk => ((hug13.2 k j (fun h => hk h)).trans (hfg2 k j (fun h => hk h)))) (by have h90 := (show g13 82 3 = ((g2 82 3) + 1) from hug13.1); omega) (by have h90 := (show g13 82 3 = ((g2 82 3) + 1) from hug13.1); omega) (by rw [(show g13 82 3 = ((g2 82 3) + 1) from hug13.1)]; exact tk_all_up hv8 (by rw [← by10 (by omega) (by omega)]; exact hp12.mp (by omega)))
  exact L5 _ g1 rfl hIg1 (fun _ _ _ => rfl) (by have h90 := (show g1 82 3 = (g 82 3) from ((hug1.2 82 3 (fun h => absurd h.2 (by decide))).trans rfl)); omega) (by have h90 := (show g1 82 3 = (g 82 3) from ((hug1.2 82 3 (fun h => absurd h.2 (by decide))).trans rfl)); omega) (tk_all_0 (by have h90 := (show g1 82 3 = (g 82 3) from ((hug1.2 82 3 (fun h => absurd h.2 (by decide))).trans rfl)); omega))
theorem e_X7_stepNumber {d : Nat} (hd : 2 ≤ d) {x : mm_X} (hx : mk_x x) {g : mz_G} (hI : mz_inv g) (p1 : g 82 3 ≤ g 82 2) (p2 : g 82 5 = g 82 3) (p3 : g 82 6 = 0) {Q : (Option Value ⊕ Nat) → mm_H → Prop} (hQ : ∀ (g1 : mz_G), mz_inv g1 → mz_fr (fw_X7_stepNumber x) g g1 → (g1 82 4 = 2) → (tk_run tk_dig (mz_cb g) (g 82 2) (g 82 3) (g1 82 3)) → (g1 82 6 = tk_nv (mz_cb g) (g 82 3) (min (g1 82 3 - g 82 3) 4).toNat) → Q (.inl none) (mz_mk g1 x)) : mm_C d 83 [.ref 82] (mz_mk g x) Q := by
  refine ⟨mmX7_stepNumber, [some (.ref 82)], rfl, rfl, ?_⟩
  have bz0 := mz_rd hI bd_82_2
  have bz1 := mz_rd hI bd_82_3
  have bz2 := mz_rd hI bd_82_4
  have bz3 := mz_rd hI bd_82_5
  have bz4 := mz_rd hI bd_82_6
  refine mm_g 2 (pc1 := 2) (lo1 := [some (.ref 82)]) (st1 := [.int (Int32.ofInt 2), .ref 82]) (H1 := mz_mk g x) rfl ?_
  refine mz_pI rfl fd_7_25 (sc_82 _) hI bd_82_4 (by omega) (by omega) (fun g1 hIg1 hug1 => ?_)
  have L5 : ∀ n4 : Nat, ∀ (g2 : mz_G), (701 - g2 82 3).toNat = n4 → mz_inv g2 → mz_fr (fl_X7_stepNumber_5 x) g1 g2 → (g 82 3 ≤ g2 82 3) → (g2 82 3 ≤ g 82 2) → (tk_all tk_dig (mz_cb g) (g 82 3) (g2 82 3)) → (g2 82 6 = tk_nv (mz_cb g) (g 82 3) (min (g2 82 3 - g 82 3) 4).toNat) → ((g2 82 3 - g 82 3 = 0 → g2 82 6 = 0) ∧ (g2 82 3 - g 82 3 = 1 → g2 82 6 ≤ 9) ∧ (g2 82 3 - g 82 3 = 2 → g2 82 6 ≤ 99) ∧ (g2 82 3 - g 82 3 = 3 → g2 82 6 ≤ 999) ∧ 0 ≤ g2 82 6 ∧ g2 82 6 ≤ 9999) → mm_W d mmX7_stepNumber 5 [some (.ref 82)] [] (mz_mk g2 x) Q := by
    intro n4
    induction n4 using Nat.strongRecOn with
    | ind n4 ih3 =>
    intro g2 hmn4 hIg2 hfg2 hv6 hv7 hv8 hv9 hv10
    have bz_g2_3 := mz_rd hIg2 bd_82_3
    have bz_g2_6 := mz_rd hIg2 bd_82_6
    refine mm_g 1 (pc1 := 6) (lo1 := [some (.ref 82)]) (st1 := [.ref 82]) (H1 := mz_mk g2 x) rfl ?_
    refine mz_fgI (v := (g2 82 3)) rfl fd_7_22 (by decide) (sc_82 _) (show g2 82 3 = (g2 82 3) from rfl) ?_
    refine mm_g 1 (pc1 := 10) (lo1 := [some (.ref 82)]) (st1 := [.ref 82, .int (Int32.ofInt (g2 82 3))]) (H1 := mz_mk g2 x) rfl ?_
    refine mz_fgI (v := (g 82 2)) rfl fd_7_19 (by decide) (sc_82 _) (show g2 82 2 = (g 82 2) from ((hfg2 82 2 (fun h => (Or.elim h (fun h => (absurd (show (82 = 82 ∧ 2 = 6) from h) (by decide))) (fun h => (absurd (show (82 = 82 ∧ 2 = 3) from h) (by decide)))))).trans ((hug1.2 82 2 (fun h => absurd h.2 (by decide))).trans rfl))) ?_
    refine mz_ic_ge (tgt := 86) rfl rfl ⟨by omega, by omega⟩ ⟨by omega, by omega⟩ (fun c13_10 => ?_) (fun c13_10 => ?_)
    · skip
      exact mm_rt rfl rfl (hQ _ hIg2 (fun k j hk => ((hfg2 k j (fun h => hk (Or.elim h (fun h => (Or.inr (Or.inl h))) (fun h => (Or.inr (Or.inr h)))))).trans (hug1.2 k j (fun h => hk (Or.inl h))))) (by have h90 := (show g2 82 4 = 2 from ((hfg2 82 4 (fun h => (Or.elim h (fun h => (absurd (show (82 = 82 ∧ 4 = 6) from h) (by decide))) (fun h => (absurd (show (82 = 82 ∧ 4 = 3) from h) (by decide)))))).trans hug1.1)); omega) ⟨by have h90 := (show g2 82 3 = (g2 82 3) from rfl); omega, by have h90 := (show g2 82 3 = (g2 82 3) from rfl); omega, by rw [(show g2 82 3 = (g2 82 3) from rfl)]; exact hv8, (fun z => by exfalso; have h90 := (show g2 82 3 = (g2 82 3) from rfl); omega)⟩ (by rw [(show g2 82 6 = (g2 82 6) from rfl), (show g2 82 3 = (g2 82 3) from rfl)]; exact hv9))
    · skip
      refine mm_g 2 (pc1 := 18) (lo1 := [some (.ref 82)]) (st1 := [.ref 82, .ref 82]) (H1 := mz_mk g2 x) rfl ?_
      refine mz_fgI (v := (g2 82 3)) rfl fd_7_22 (by decide) (sc_82 _) (show g2 82 3 = (g2 82 3) from rfl) ?_
      refine mz_cv rfl mt_7_37 (by decide) (sc_82 _) rfl (Nat.le_of_ble_eq_true rfl) (by omega) (e_X7_byteAt (by omega) hx hIg2 (by omega) (by omega) (fun v11 l_v11 u_v11 hp12 => ⟨_, rfl, ?_⟩))
      show mm_W d mmX7_stepNumber 24 [some (.ref 82)] [.int (Int32.ofInt v11)] (mz_mk g2 x) Q
      have by12 : 0 ≤ (g2 82 3) → (g2 82 3) < 700 → v11 = mz_cb g (g2 82 3) := fun h0 h1 => (hp12 h0 h1).trans (congrFun (mz_cb_eq (fun j => ((hfg2 83 j (fun h => (Or.elim h (fun h => (absurd (show 83 = 82 from (h).1) (by decide))) (fun h => (absurd (show 83 = 82 from (h).1) (by decide)))))).trans (hug1.2 83 j (fun h => absurd h.1 (by decide)))))) _)
      refine mz_cs rfl mt_7_48 (by decide) rfl (Nat.le_of_ble_eq_true rfl) (by omega) (e_X7_isDigit (by omega) hx hIg2 (by omega) (by omega) (fun v13 l_v13 u_v13 hp14 => ⟨_, rfl, ?_⟩))
      show mm_W d mmX7_stepNumber 27 [some (.ref 82)] [.int (Int32.ofInt v13)] (mz_mk g2 x) Q
      refine mz_if_eq (tgt := 86) rfl rfl (mz_rg l_v13 u_v13) (fun c27_14 => ?_) (fun c27_14 => ?_)
      · skip
        exact mm_rt rfl rfl (hQ _ hIg2 (fun k j hk => ((hfg2 k j (fun h => hk (Or.elim h (fun h => (Or.inr (Or.inl h))) (fun h => (Or.inr (Or.inr h)))))).trans (hug1.2 k j (fun h => hk (Or.inl h))))) (by have h90 := (show g2 82 4 = 2 from ((hfg2 82 4 (fun h => (Or.elim h (fun h => (absurd (show (82 = 82 ∧ 4 = 6) from h) (by decide))) (fun h => (absurd (show (82 = 82 ∧ 4 = 3) from h) (by decide)))))).trans hug1.1)); omega) ⟨by have h90 := (show g2 82 3 = (g2 82 3) from rfl); omega, by have h90 := (show g2 82 3 = (g2 82 3) from rfl); omega, by rw [(show g2 82 3 = (g2 82 3) from rfl)]; exact hv8, (fun _ z => by rw [(show g2 82 3 = (g2 82 3) from rfl), ← by12 (by omega) (by omega)] at z; have z2 := hp14.mpr z; omega)⟩ (by rw [(show g2 82 6 = (g2 82 6) from rfl), (show g2 82 3 = (g2 82 3) from rfl)]; exact hv9))
      · skip
        refine mm_g 2 (pc1 := 32) (lo1 := [some (.ref 82)]) (st1 := [.ref 82, .ref 82]) (H1 := mz_mk g2 x) rfl ?_
        refine mz_fgI (v := (g2 82 3)) rfl fd_7_22 (by decide) (sc_82 _) (show g2 82 3 = (g2 82 3) from rfl) ?_
        refine mm_g 1 (pc1 := 36) (lo1 := [some (.ref 82)]) (st1 := [.ref 82, .int (Int32.ofInt (g2 82 3)), .ref 82]) (H1 := mz_mk g2 x) rfl ?_
        refine mz_fgI (v := (g 82 5)) rfl fd_7_28 (by decide) (sc_82 _) (show g2 82 5 = (g 82 5) from ((hfg2 82 5 (fun h => (Or.elim h (fun h => (absurd (show (82 = 82 ∧ 5 = 6) from h) (by decide))) (fun h => (absurd (show (82 = 82 ∧ 5 = 3) from h) (by decide)))))).trans ((hug1.2 82 5 (fun h => absurd h.2 (by decide))).trans rfl))) ?_
        refine mz_isub rfl ?_
        refine mm_g 1 (pc1 := 41) (lo1 := [some (.ref 82)]) (st1 := [.int (Int32.ofInt 4), .int (Int32.ofInt ((g2 82 3) - (g 82 5))), .ref 82]) (H1 := mz_mk g2 x) rfl ?_
        refine mz_ic_ge (tgt := 66) rfl rfl ⟨by omega, by omega⟩ ⟨by decide, by decide⟩ (fun c41_14 => ?_) (fun c41_14 => ?_)
        · skip
          refine mm_g 1 (pc1 := 67) (lo1 := [some (.ref 82)]) (st1 := [.ref 82, .ref 82]) (H1 := mz_mk g2 x) rfl ?_
          refine mz_fgI (v := (g2 82 6)) rfl fd_7_31 (by decide) (sc_82 _) (show g2 82 6 = (g2 82 6) from rfl) ?_
          refine mz_pI rfl fd_7_31 (sc_82 _) hIg2 bd_82_6 (by omega) (by omega) (fun g15 hIg15 hug15 => ?_)
          refine mm_g 2 (pc1 := 75) (lo1 := [some (.ref 82)]) (st1 := [.ref 82, .ref 82]) (H1 := mz_mk g15 x) rfl ?_
          refine mz_fgI (v := (g2 82 3)) rfl fd_7_22 (by decide) (sc_82 _) (show g15 82 3 = (g2 82 3) from ((hug15.2 82 3 (fun h => absurd h.2 (by decide))).trans rfl)) ?_
          refine mm_g 1 (pc1 := 79) (lo1 := [some (.ref 82)]) (st1 := [.int (Int32.ofInt 1), .int (Int32.ofInt (g2 82 3)), .ref 82]) (H1 := mz_mk g15 x) rfl ?_
          refine mz_iadd rfl ?_
          refine mz_pI rfl fd_7_22 (sc_82 _) hIg15 bd_82_3 (by omega) (by omega) (fun g16 hIg16 hug16 => ?_)
          refine mz_gt (tgt := 5) rfl rfl ?_
          exact ih3 ((701 - g16 82 3).toNat) (by have h90 := (show g16 82 3 = ((g2 82 3) + 1) from hug16.1); omega) g16 rfl hIg16 (fun k j hk => ((hug16.2 k j (fun h => hk (Or.inr h))).trans ((hug15.2 k j (fun h => hk (Or.inl h))).trans (hfg2 k j (fun h => hk (Or.elim h (fun h => (Or.inl h)) (fun h => (Or.inr h)))))))) (by have h90 := (show g16 82 3 = ((g2 82 3) + 1) from hug16.1); omega) (by have h90 := (show g16 82 3 = ((g2 82 3) + 1) from hug16.1); omega) (by rw [(show g16 82 3 = ((g2 82 3) + 1) from hug16.1)]; exact tk_all_up hv8 (by rw [← by12 (by omega) (by omega)]; exact hp14.mp (by omega))) (by rw [(show g16 82 6 = (g2 82 6) from ((hug16.2 82 6 (fun h => absurd h.2 (by decide))).trans hug15.1)), (show g16 82 3 = ((g2 82 3) + 1) from hug16.1), hv9, show (min (((g2 82 3) + 1) - g 82 3) 4).toNat = (min ((g2 82 3) - g 82 3) 4).toNat by omega]) (by have hd : 48 ≤ v11 ∧ v11 ≤ 57 := (hp14.mp (by omega)); have hb0 := by12 (by omega) (by omega); have h90 := (show g16 82 3 = ((g2 82 3) + 1) from hug16.1); have h91 := (show g16 82 6 = (g2 82 6) from ((hug16.2 82 6 (fun h => absurd h.2 (by decide))).trans hug15.1)); omega)
        · skip
          refine mz_bip rfl bip_10 ?_
          refine mm_g 1 (pc1 := 47) (lo1 := [some (.ref 82)]) (st1 := [.ref 82, .int (Int32.ofInt 10), .ref 82]) (H1 := mz_mk g2 x) rfl ?_
          refine mz_fgI (v := (g2 82 6)) rfl fd_7_31 (by decide) (sc_82 _) (show g2 82 6 = (g2 82 6) from rfl) ?_
          refine mz_imul rfl ?_
          refine mm_g 2 (pc1 := 53) (lo1 := [some (.ref 82)]) (st1 := [.ref 82, .ref 82, .int (Int32.ofInt (10 * (g2 82 6))), .ref 82]) (H1 := mz_mk g2 x) rfl ?_
          refine mz_fgI (v := (g2 82 3)) rfl fd_7_22 (by decide) (sc_82 _) (show g2 82 3 = (g2 82 3) from rfl) ?_
          refine mz_cv rfl mt_7_37 (by decide) (sc_82 _) rfl (Nat.le_of_ble_eq_true rfl) (by omega) (e_X7_byteAt (by omega) hx hIg2 (by omega) (by omega) (fun v17 l_v17 u_v17 hp18 => ⟨_, rfl, ?_⟩))
          show mm_W d mmX7_stepNumber 59 [some (.ref 82)] [.int (Int32.ofInt v17), .int (Int32.ofInt (10 * (g2 82 6))), .ref 82] (mz_mk g2 x) Q
          have by18 : 0 ≤ (g2 82 3) → (g2 82 3) < 700 → v17 = mz_cb g (g2 82 3) := fun h0 h1 => (hp18 h0 h1).trans (congrFun (mz_cb_eq (fun j => ((hfg2 83 j (fun h => (Or.elim h (fun h => (absurd (show 83 = 82 from (h).1) (by decide))) (fun h => (absurd (show 83 = 82 from (h).1) (by decide)))))).trans (hug1.2 83 j (fun h => absurd h.1 (by decide)))))) _)
          refine mz_iadd rfl ?_
          refine mz_bip rfl bip_48 ?_
          refine mz_isub rfl ?_
          refine mz_gt (tgt := 70) rfl rfl ?_
          refine mz_pI rfl fd_7_31 (sc_82 _) hIg2 bd_82_6 (by omega) (by omega) (fun g19 hIg19 hug19 => ?_)
          refine mm_g 2 (pc1 := 75) (lo1 := [some (.ref 82)]) (st1 := [.ref 82, .ref 82]) (H1 := mz_mk g19 x) rfl ?_
          refine mz_fgI (v := (g2 82 3)) rfl fd_7_22 (by decide) (sc_82 _) (show g19 82 3 = (g2 82 3) from ((hug19.2 82 3 (fun h => absurd h.2 (by decide))).trans rfl)) ?_
          refine mm_g 1 (pc1 := 79) (lo1 := [some (.ref 82)]) (st1 := [.int (Int32.ofInt 1), .int (Int32.ofInt (g2 82 3)), .ref 82]) (H1 := mz_mk g19 x) rfl ?_
          refine mz_iadd rfl ?_
          refine mz_pI rfl fd_7_22 (sc_82 _) hIg19 bd_82_3 (by omega) (by omega) (fun g20 hIg20 hug20 => ?_)
          refine mz_gt (tgt := 5) rfl rfl ?_
          exact ih3 ((701 - g20 82 3).toNat) (by have h90 := (show g20 82 3 = ((g2 82 3) + 1) from hug20.1); omega) g20 rfl hIg20 (fun k j hk => ((hug20.2 k j (fun h => hk (Or.inr h))).trans ((hug19.2 k j (fun h => hk (Or.inl h))).trans (hfg2 k j (fun h => hk (Or.elim h (fun h => (Or.inl h)) (fun h => (Or.inr h)))))))) (by have h90 := (show g20 82 3 = ((g2 82 3) + 1) from hug20.1); omega) (by have h90 := (show g20 82 3 = ((g2 82 3) + 1) from hug20.1); omega) (by rw [(show g20 82 3 = ((g2 82 3) + 1) from hug20.1)]; exact tk_all_up hv8 (by rw [← by12 (by omega) (by omega)]; exact hp14.mp (by omega))) (by rw [(show g20 82 6 = (((10 * (g2 82 6)) + v17) - 48) from ((hug20.2 82 6 (fun h => absurd h.2 (by decide))).trans hug19.1)), (show g20 82 3 = ((g2 82 3) + 1) from hug20.1), show (min (((g2 82 3) + 1) - g 82 3) 4).toNat = (min ((g2 82 3) - g 82 3) 4).toNat + 1 by omega]; simp only [tk_nv]; rw [← hv9, show g 82 3 + (((min ((g2 82 3) - g 82 3) 4).toNat : Nat) : Int) = (g2 82 3) by omega, ← by18 (by omega) (by omega)]) (by have hd : 48 ≤ v11 ∧ v11 ≤ 57 := (hp14.mp (by omega)); have hb0 := by12 (by omega) (by omega); have hb1 := by18 (by omega) (by omega); have h90 := (show g20 82 3 = ((g2 82 3) + 1) from hug20.1); have h91 := (show g20 82 6 = (((10 * (g2 82 6)) + v17) - 48) from ((hug20.2 82 6 (fun h => absurd h.2 (by decide))).trans hug19.1)); omega)
  exact L5 _ g1 rfl hIg1 (fun _ _ _ => rfl) (by have h90 := (show g1 82 3 = (g 82 3) from ((hug1.2 82 3 (fun h => absurd h.2 (by decide))).trans rfl)); omega) (by have h90 := (show g1 82 3 = (g 82 3) from ((hug1.2 82 3 (fun h => absurd h.2 (by decide))).trans rfl)); omega) (tk_all_0 (by have h90 := (show g1 82 3 = (g 82 3) from ((hug1.2 82 3 (fun h => absurd h.2 (by decide))).trans rfl)); omega)) (by rw [(show g1 82 6 = (g 82 6) from ((hug1.2 82 6 (fun h => absurd h.2 (by decide))).trans rfl)), (show g1 82 3 = (g 82 3) from ((hug1.2 82 3 (fun h => absurd h.2 (by decide))).trans rfl)), p3, show (g 82 3 - g 82 3) = 0 by omega]; rfl) (by have h90 := (show g1 82 3 = (g 82 3) from ((hug1.2 82 3 (fun h => absurd h.2 (by decide))).trans rfl)); have h91 := (show g1 82 6 = (g 82 6) from ((hug1.2 82 6 (fun h => absurd h.2 (by decide))).trans rfl)); omega)
theorem e_X7_step {d : Nat} (hd : 3 ≤ d) {x : mm_X} (hx : mk_x x) {g : mz_G} (hI : mz_inv g) (p1 : g 82 3 ≤ g 82 2) {Q : (Option Value ⊕ Nat) → mm_H → Prop} (hQ : ∀ (g1 : mz_G), mz_inv g1 → mz_fr (fw_X7_step x) g g1 → (tk_tok (mz_cb g) (g 82 2) (g 82 3) (g1 82 5) (g1 82 3) (g1 82 4) (g1 82 6)) → Q (.inl none) (mz_mk g1 x)) : mm_C d 81 [.ref 82] (mz_mk g x) Q := by
  refine ⟨mmX7_step, [some (.ref 82), none], rfl, rfl, ?_⟩
  have bz0 := mz_rd hI bd_82_2
  have bz1 := mz_rd hI bd_82_3
  have bz2 := mz_rd hI bd_82_4
  have bz3 := mz_rd hI bd_82_5
  have bz4 := mz_rd hI bd_82_6
  have L4 : ∀ n3 : Nat, ∀ (g1 : mz_G), (701 - g1 82 3).toNat = n3 → mz_inv g1 → mz_fr (fl_X7_step_0 x) g g1 → (g 82 3 ≤ g1 82 3) → (g1 82 3 ≤ g 82 2) → (tk_all tk_blank (mz_cb g) (g 82 3) (g1 82 3)) → mm_W d mmX7_step 0 [some (.ref 82), none] [] (mz_mk g1 x) Q := by
    intro n3
    induction n3 using Nat.strongRecOn with
    | ind n3 ih2 =>
    intro g1 hmn3 hIg1 hfg1 hv5 hv6 hv7
    have bz_g1_3 := mz_rd hIg1 bd_82_3
    refine mm_g 1 (pc1 := 1) (lo1 := [some (.ref 82), none]) (st1 := [.ref 82]) (H1 := mz_mk g1 x) rfl ?_
    refine mz_fgI (v := (g1 82 3)) rfl fd_7_22 (by decide) (sc_82 _) (show g1 82 3 = (g1 82 3) from rfl) ?_
    refine mm_g 1 (pc1 := 5) (lo1 := [some (.ref 82), none]) (st1 := [.ref 82, .int (Int32.ofInt (g1 82 3))]) (H1 := mz_mk g1 x) rfl ?_
    refine mz_fgI (v := (g 82 2)) rfl fd_7_19 (by decide) (sc_82 _) (show g1 82 2 = (g 82 2) from ((hfg1 82 2 (fun h => (absurd (show (82 = 82 ∧ 2 = 3) from h) (by decide)))).trans rfl)) ?_
    refine mz_ic_ge (tgt := 50) rfl rfl ⟨by omega, by omega⟩ ⟨by omega, by omega⟩ (fun c8_7 => ?_) (fun c8_7 => ?_)
    · skip
      have rb : tk_run tk_blank (mz_cb g) (g 82 2) (g 82 3) (g1 82 3) := ⟨by omega, by omega, hv7, (fun z => absurd z (by omega))⟩
      refine mm_g 2 (pc1 := 52) (lo1 := [some (.ref 82), none]) (st1 := [.ref 82, .ref 82]) (H1 := mz_mk g1 x) rfl ?_
      refine mz_fgI (v := (g1 82 3)) rfl fd_7_22 (by decide) (sc_82 _) (show g1 82 3 = (g1 82 3) from rfl) ?_
      refine mz_pI rfl fd_7_28 (sc_82 _) hIg1 bd_82_5 (by omega) (by omega) (fun g8 hIg8 hug8 => ?_)
      refine mm_g 2 (pc1 := 60) (lo1 := [some (.ref 82), none]) (st1 := [.int (Int32.ofInt 0), .ref 82]) (H1 := mz_mk g8 x) rfl ?_
      refine mz_pI rfl fd_7_31 (sc_82 _) hIg8 bd_82_6 (by omega) (by omega) (fun g9 hIg9 hug9 => ?_)
      refine mm_g 1 (pc1 := 64) (lo1 := [some (.ref 82), none]) (st1 := [.ref 82]) (H1 := mz_mk g9 x) rfl ?_
      refine mz_fgI (v := (g1 82 3)) rfl fd_7_22 (by decide) (sc_82 _) (show g9 82 3 = (g1 82 3) from ((hug9.2 82 3 (fun h => absurd h.2 (by decide))).trans ((hug8.2 82 3 (fun h => absurd h.2 (by decide))).trans rfl))) ?_
      refine mm_g 1 (pc1 := 68) (lo1 := [some (.ref 82), none]) (st1 := [.ref 82, .int (Int32.ofInt (g1 82 3))]) (H1 := mz_mk g9 x) rfl ?_
      refine mz_fgI (v := (g 82 2)) rfl fd_7_19 (by decide) (sc_82 _) (show g9 82 2 = (g 82 2) from ((hug9.2 82 2 (fun h => absurd h.2 (by decide))).trans ((hug8.2 82 2 (fun h => absurd h.2 (by decide))).trans ((hfg1 82 2 (fun h => (absurd (show (82 = 82 ∧ 2 = 3) from h) (by decide)))).trans rfl)))) ?_
      refine mz_ic_lt (tgt := 82) rfl rfl ⟨by omega, by omega⟩ ⟨by omega, by omega⟩ (fun c71_9 => ?_) (fun c71_9 => ?_)
      · exfalso; omega
      · skip
        refine mm_g 2 (pc1 := 76) (lo1 := [some (.ref 82), none]) (st1 := [.int (Int32.ofInt 0), .ref 82]) (H1 := mz_mk g9 x) rfl ?_
        refine mz_pI rfl fd_7_25 (sc_82 _) hIg9 bd_82_4 (by omega) (by omega) (fun g10 hIg10 hug10 => ?_)
        refine mz_gt (tgt := 159) rfl rfl ?_
        exact mm_rt rfl rfl (hQ _ hIg10 (fun k j hk => ((hug10.2 k j (fun h => hk (Or.inr (Or.inr (Or.inr h))))).trans ((hug9.2 k j (fun h => hk (Or.inr (Or.inr (Or.inl h))))).trans ((hug8.2 k j (fun h => hk (Or.inr (Or.inl h)))).trans (hfg1 k j (fun h => hk (Or.inl h))))))) (by rw [(show g10 82 5 = (g1 82 3) from ((hug10.2 82 5 (fun h => absurd h.2 (by decide))).trans ((hug9.2 82 5 (fun h => absurd h.2 (by decide))).trans hug8.1))), (show g10 82 3 = (g1 82 3) from ((hug10.2 82 3 (fun h => absurd h.2 (by decide))).trans ((hug9.2 82 3 (fun h => absurd h.2 (by decide))).trans ((hug8.2 82 3 (fun h => absurd h.2 (by decide))).trans rfl)))), (show g10 82 4 = 0 from hug10.1), (show g10 82 6 = 0 from ((hug10.2 82 6 (fun h => absurd h.2 (by decide))).trans hug9.1))]; exact ⟨rb, fun _ => ⟨rfl, by omega⟩, fun z => absurd z (by omega), fun z => absurd z (by omega), fun z => absurd z (by omega)⟩))
    · skip
      refine mm_g 2 (pc1 := 13) (lo1 := [some (.ref 82), none]) (st1 := [.ref 82, .ref 82]) (H1 := mz_mk g1 x) rfl ?_
      refine mz_fgI (v := (g1 82 3)) rfl fd_7_22 (by decide) (sc_82 _) (show g1 82 3 = (g1 82 3) from rfl) ?_
      refine mz_cv rfl mt_7_37 (by decide) (sc_82 _) rfl (Nat.le_of_ble_eq_true rfl) (by omega) (e_X7_byteAt (by omega) hx hIg1 (by omega) (by omega) (fun v11 l_v11 u_v11 hp12 => ⟨_, rfl, ?_⟩))
      show mm_W d mmX7_step 19 [some (.ref 82), none] [.int (Int32.ofInt v11)] (mz_mk g1 x) Q
      have by12 : 0 ≤ (g1 82 3) → (g1 82 3) < 700 → v11 = mz_cb g (g1 82 3) := fun h0 h1 => (hp12 h0 h1).trans (congrFun (mz_cb_eq (fun j => (hfg1 83 j (fun h => (absurd (show 83 = 82 from (h).1) (by decide)))))) _)
      refine mz_bip rfl bip_32 ?_
      refine mz_ic_eq (tgt := 37) rfl rfl (mz_rg l_v11 u_v11) ⟨by decide, by decide⟩ (fun c21_12 => ?_) (fun c21_12 => ?_)
      · skip
        refine mm_g 2 (pc1 := 39) (lo1 := [some (.ref 82), none]) (st1 := [.ref 82, .ref 82]) (H1 := mz_mk g1 x) rfl ?_
        refine mz_fgI (v := (g1 82 3)) rfl fd_7_22 (by decide) (sc_82 _) (show g1 82 3 = (g1 82 3) from rfl) ?_
        refine mm_g 1 (pc1 := 43) (lo1 := [some (.ref 82), none]) (st1 := [.int (Int32.ofInt 1), .int (Int32.ofInt (g1 82 3)), .ref 82]) (H1 := mz_mk g1 x) rfl ?_
        refine mz_iadd rfl ?_
        refine mz_pI rfl fd_7_22 (sc_82 _) hIg1 bd_82_3 (by omega) (by omega) (fun g13 hIg13 hug13 => ?_)
        refine mz_gt (tgt := 0) rfl rfl ?_
        exact ih2 ((701 - g13 82 3).toNat) (by have h90 := (show g13 82 3 = ((g1 82 3) + 1) from hug13.1); omega) g13 rfl hIg13 (fun k j hk => ((hug13.2 k j (fun h => hk h)).trans (hfg1 k j (fun h => hk h)))) (by have h90 := (show g13 82 3 = ((g1 82 3) + 1) from hug13.1); omega) (by have h90 := (show g13 82 3 = ((g1 82 3) + 1) from hug13.1); omega) (by rw [(show g13 82 3 = ((g1 82 3) + 1) from hug13.1)]; exact tk_all_up hv7 (by unfold tk_blank; have hb0 := by12 (by omega) (by omega); omega))
      · skip
        refine mm_g 2 (pc1 := 26) (lo1 := [some (.ref 82), none]) (st1 := [.ref 82, .ref 82]) (H1 := mz_mk g1 x) rfl ?_
        refine mz_fgI (v := (g1 82 3)) rfl fd_7_22 (by decide) (sc_82 _) (show g1 82 3 = (g1 82 3) from rfl) ?_
        refine mz_cv rfl mt_7_37 (by decide) (sc_82 _) rfl (Nat.le_of_ble_eq_true rfl) (by omega) (e_X7_byteAt (by omega) hx hIg1 (by omega) (by omega) (fun v14 l_v14 u_v14 hp15 => ⟨_, rfl, ?_⟩))
        show mm_W d mmX7_step 32 [some (.ref 82), none] [.int (Int32.ofInt v14)] (mz_mk g1 x) Q
        have by15 : 0 ≤ (g1 82 3) → (g1 82 3) < 700 → v14 = mz_cb g (g1 82 3) := fun h0 h1 => (hp15 h0 h1).trans (congrFun (mz_cb_eq (fun j => (hfg1 83 j (fun h => (absurd (show 83 = 82 from (h).1) (by decide)))))) _)
        refine mz_bip rfl bip_10 ?_
        refine mz_ic_ne (tgt := 50) rfl rfl (mz_rg l_v14 u_v14) ⟨by decide, by decide⟩ (fun c34_15 => ?_) (fun c34_15 => ?_)
        · skip
          have rb : tk_run tk_blank (mz_cb g) (g 82 2) (g 82 3) (g1 82 3) := ⟨by omega, by omega, hv7, (fun _ z => by have hb0 := by12 (by omega) (by omega); have hb1 := by15 (by omega) (by omega); unfold tk_blank at z; omega)⟩
          refine mm_g 2 (pc1 := 52) (lo1 := [some (.ref 82), none]) (st1 := [.ref 82, .ref 82]) (H1 := mz_mk g1 x) rfl ?_
          refine mz_fgI (v := (g1 82 3)) rfl fd_7_22 (by decide) (sc_82 _) (show g1 82 3 = (g1 82 3) from rfl) ?_
          refine mz_pI rfl fd_7_28 (sc_82 _) hIg1 bd_82_5 (by omega) (by omega) (fun g16 hIg16 hug16 => ?_)
          refine mm_g 2 (pc1 := 60) (lo1 := [some (.ref 82), none]) (st1 := [.int (Int32.ofInt 0), .ref 82]) (H1 := mz_mk g16 x) rfl ?_
          refine mz_pI rfl fd_7_31 (sc_82 _) hIg16 bd_82_6 (by omega) (by omega) (fun g17 hIg17 hug17 => ?_)
          refine mm_g 1 (pc1 := 64) (lo1 := [some (.ref 82), none]) (st1 := [.ref 82]) (H1 := mz_mk g17 x) rfl ?_
          refine mz_fgI (v := (g1 82 3)) rfl fd_7_22 (by decide) (sc_82 _) (show g17 82 3 = (g1 82 3) from ((hug17.2 82 3 (fun h => absurd h.2 (by decide))).trans ((hug16.2 82 3 (fun h => absurd h.2 (by decide))).trans rfl))) ?_
          refine mm_g 1 (pc1 := 68) (lo1 := [some (.ref 82), none]) (st1 := [.ref 82, .int (Int32.ofInt (g1 82 3))]) (H1 := mz_mk g17 x) rfl ?_
          refine mz_fgI (v := (g 82 2)) rfl fd_7_19 (by decide) (sc_82 _) (show g17 82 2 = (g 82 2) from ((hug17.2 82 2 (fun h => absurd h.2 (by decide))).trans ((hug16.2 82 2 (fun h => absurd h.2 (by decide))).trans ((hfg1 82 2 (fun h => (absurd (show (82 = 82 ∧ 2 = 3) from h) (by decide)))).trans rfl)))) ?_
          refine mz_ic_lt (tgt := 82) rfl rfl ⟨by omega, by omega⟩ ⟨by omega, by omega⟩ (fun c71_17 => ?_) (fun c71_17 => ?_)
          · skip
            refine mm_g 2 (pc1 := 84) (lo1 := [some (.ref 82), none]) (st1 := [.ref 82, .ref 82]) (H1 := mz_mk g17 x) rfl ?_
            refine mz_fgI (v := (g1 82 3)) rfl fd_7_22 (by decide) (sc_82 _) (show g17 82 3 = (g1 82 3) from ((hug17.2 82 3 (fun h => absurd h.2 (by decide))).trans ((hug16.2 82 3 (fun h => absurd h.2 (by decide))).trans rfl))) ?_
            refine mz_cv rfl mt_7_37 (by decide) (sc_82 _) rfl (Nat.le_of_ble_eq_true rfl) (by omega) (e_X7_byteAt (by omega) hx hIg17 (by omega) (by omega) (fun v18 l_v18 u_v18 hp19 => ⟨_, rfl, ?_⟩))
            show mm_W d mmX7_step 90 [some (.ref 82), none] [.int (Int32.ofInt v18)] (mz_mk g17 x) Q
            have by19 : 0 ≤ (g1 82 3) → (g1 82 3) < 700 → v18 = mz_cb g (g1 82 3) := fun h0 h1 => (hp19 h0 h1).trans (congrFun (mz_cb_eq (fun j => ((hug17.2 83 j (fun h => absurd h.1 (by decide))).trans ((hug16.2 83 j (fun h => absurd h.1 (by decide))).trans (hfg1 83 j (fun h => (absurd (show 83 = 82 from (h).1) (by decide)))))))) _)
            refine mz_cs rfl mt_7_41 (by decide) rfl (Nat.le_of_ble_eq_true rfl) (by omega) (e_X7_isLetter (by omega) hx hIg17 (by omega) (by omega) (fun v20 l_v20 u_v20 hp21 => ⟨_, rfl, ?_⟩))
            show mm_W d mmX7_step 93 [some (.ref 82), none] [.int (Int32.ofInt v20)] (mz_mk g17 x) Q
            refine mz_if_eq (tgt := 103) rfl rfl (mz_rg l_v20 u_v20) (fun c93_21 => ?_) (fun c93_21 => ?_)
            · skip
              refine mm_g 2 (pc1 := 105) (lo1 := [some (.ref 82), none]) (st1 := [.ref 82, .ref 82]) (H1 := mz_mk g17 x) rfl ?_
              refine mz_fgI (v := (g1 82 3)) rfl fd_7_22 (by decide) (sc_82 _) (show g17 82 3 = (g1 82 3) from ((hug17.2 82 3 (fun h => absurd h.2 (by decide))).trans ((hug16.2 82 3 (fun h => absurd h.2 (by decide))).trans rfl))) ?_
              refine mz_cv rfl mt_7_37 (by decide) (sc_82 _) rfl (Nat.le_of_ble_eq_true rfl) (by omega) (e_X7_byteAt (by omega) hx hIg17 (by omega) (by omega) (fun v22 l_v22 u_v22 hp23 => ⟨_, rfl, ?_⟩))
              show mm_W d mmX7_step 111 [some (.ref 82), none] [.int (Int32.ofInt v22)] (mz_mk g17 x) Q
              have by23 : 0 ≤ (g1 82 3) → (g1 82 3) < 700 → v22 = mz_cb g (g1 82 3) := fun h0 h1 => (hp23 h0 h1).trans (congrFun (mz_cb_eq (fun j => ((hug17.2 83 j (fun h => absurd h.1 (by decide))).trans ((hug16.2 83 j (fun h => absurd h.1 (by decide))).trans (hfg1 83 j (fun h => (absurd (show 83 = 82 from (h).1) (by decide)))))))) _)
              refine mz_cs rfl mt_7_48 (by decide) rfl (Nat.le_of_ble_eq_true rfl) (by omega) (e_X7_isDigit (by omega) hx hIg17 (by omega) (by omega) (fun v24 l_v24 u_v24 hp25 => ⟨_, rfl, ?_⟩))
              show mm_W d mmX7_step 114 [some (.ref 82), none] [.int (Int32.ofInt v24)] (mz_mk g17 x) Q
              refine mz_if_eq (tgt := 124) rfl rfl (mz_rg l_v24 u_v24) (fun c114_25 => ?_) (fun c114_25 => ?_)
              · skip
                refine mm_g 2 (pc1 := 126) (lo1 := [some (.ref 82), none]) (st1 := [.ref 82, .ref 82]) (H1 := mz_mk g17 x) rfl ?_
                refine mz_fgI (v := (g1 82 3)) rfl fd_7_22 (by decide) (sc_82 _) (show g17 82 3 = (g1 82 3) from ((hug17.2 82 3 (fun h => absurd h.2 (by decide))).trans ((hug16.2 82 3 (fun h => absurd h.2 (by decide))).trans rfl))) ?_
                refine mz_cv rfl mt_7_37 (by decide) (sc_82 _) rfl (Nat.le_of_ble_eq_true rfl) (by omega) (e_X7_byteAt (by omega) hx hIg17 (by omega) (by omega) (fun v26 l_v26 u_v26 hp27 => ⟨_, rfl, ?_⟩))
                show mm_W d mmX7_step 132 [some (.ref 82), none] [.int (Int32.ofInt v26)] (mz_mk g17 x) Q
                have by27 : 0 ≤ (g1 82 3) → (g1 82 3) < 700 → v26 = mz_cb g (g1 82 3) := fun h0 h1 => (hp27 h0 h1).trans (congrFun (mz_cb_eq (fun j => ((hug17.2 83 j (fun h => absurd h.1 (by decide))).trans ((hug16.2 83 j (fun h => absurd h.1 (by decide))).trans (hfg1 83 j (fun h => (absurd (show 83 = 82 from (h).1) (by decide)))))))) _)
                refine mm_g 3 (pc1 := 135) (lo1 := [some (.ref 82), some (.int (Int32.ofInt v26))]) (st1 := [.int (Int32.ofInt v26), .ref 82]) (H1 := mz_mk g17 x) rfl ?_
                refine mz_cs rfl mt_7_54 (by decide) rfl (Nat.le_of_ble_eq_true rfl) (by omega) (e_X7_isSign (by omega) hx hIg17 (by omega) (by omega) (fun v28 l_v28 u_v28 hp29 => ⟨_, rfl, ?_⟩))
                show mm_W d mmX7_step 138 [some (.ref 82), some (.int (Int32.ofInt v26))] [.int (Int32.ofInt v28), .ref 82] (mz_mk g17 x) Q
                refine mz_if_eq (tgt := 145) rfl rfl (mz_rg l_v28 u_v28) (fun c138_29 => ?_) (fun c138_29 => ?_)
                · skip
                  refine mm_g 1 (pc1 := 146) (lo1 := [some (.ref 82), some (.int (Int32.ofInt v26))]) (st1 := [.int (Int32.ofInt 3), .ref 82]) (H1 := mz_mk g17 x) rfl ?_
                  refine mz_pI rfl fd_7_25 (sc_82 _) hIg17 bd_82_4 (by omega) (by omega) (fun g30 hIg30 hug30 => ?_)
                  refine mm_g 2 (pc1 := 151) (lo1 := [some (.ref 82), some (.int (Int32.ofInt v26))]) (st1 := [.ref 82, .ref 82]) (H1 := mz_mk g30 x) rfl ?_
                  refine mz_fgI (v := (g1 82 3)) rfl fd_7_22 (by decide) (sc_82 _) (show g30 82 3 = (g1 82 3) from ((hug30.2 82 3 (fun h => absurd h.2 (by decide))).trans ((hug17.2 82 3 (fun h => absurd h.2 (by decide))).trans ((hug16.2 82 3 (fun h => absurd h.2 (by decide))).trans rfl)))) ?_
                  refine mm_g 1 (pc1 := 155) (lo1 := [some (.ref 82), some (.int (Int32.ofInt v26))]) (st1 := [.int (Int32.ofInt 1), .int (Int32.ofInt (g1 82 3)), .ref 82]) (H1 := mz_mk g30 x) rfl ?_
                  refine mz_iadd rfl ?_
                  refine mz_pI rfl fd_7_22 (sc_82 _) hIg30 bd_82_3 (by omega) (by omega) (fun g31 hIg31 hug31 => ?_)
                  exact mm_rt rfl rfl (hQ _ hIg31 (fun k j hk => ((hug31.2 k j (fun h => hk (Or.inl h))).trans ((hug30.2 k j (fun h => hk (Or.inr (Or.inr (Or.inr h))))).trans ((hug17.2 k j (fun h => hk (Or.inr (Or.inr (Or.inl h))))).trans ((hug16.2 k j (fun h => hk (Or.inr (Or.inl h)))).trans (hfg1 k j (fun h => hk (Or.inl h)))))))) (by rw [(show g31 82 5 = (g1 82 3) from ((hug31.2 82 5 (fun h => absurd h.2 (by decide))).trans ((hug30.2 82 5 (fun h => absurd h.2 (by decide))).trans ((hug17.2 82 5 (fun h => absurd h.2 (by decide))).trans hug16.1)))), (show g31 82 3 = ((g1 82 3) + 1) from hug31.1), (show g31 82 4 = 3 from ((hug31.2 82 4 (fun h => absurd h.2 (by decide))).trans hug30.1)), (show g31 82 6 = 0 from ((hug31.2 82 6 (fun h => absurd h.2 (by decide))).trans ((hug30.2 82 6 (fun h => absurd h.2 (by decide))).trans hug17.1)))]; have hl := hp21; rw [by19 (by omega) (by omega)] at hl; have hd := hp25; rw [by23 (by omega) (by omega)] at hd; have hs := hp29; rw [by27 (by omega) (by omega)] at hs; exact ⟨rb, fun z => absurd z (by omega), fun _ z => absurd (hl.mpr z) (by omega), fun _ z => absurd (hd.mpr z) (by omega), fun _ _ _ => ⟨by omega, fun z => by have hz := hs.mpr z; have hb0 := by19 (by omega) (by omega); have hb1 := by23 (by omega) (by omega); have hb2 := by27 (by omega) (by omega); first | omega | (exfalso; omega), fun z => by first | rfl | exact absurd (hs.mp (by omega)) z⟩⟩))
                · skip
                  refine mm_g 1 (pc1 := 142) (lo1 := [some (.ref 82), some (.int (Int32.ofInt v26))]) (st1 := [.int (Int32.ofInt v26), .ref 82]) (H1 := mz_mk g17 x) rfl ?_
                  refine mz_gt (tgt := 146) rfl rfl ?_
                  refine mz_pI rfl fd_7_25 (sc_82 _) hIg17 bd_82_4 (by omega) (by omega) (fun g32 hIg32 hug32 => ?_)
                  refine mm_g 2 (pc1 := 151) (lo1 := [some (.ref 82), some (.int (Int32.ofInt v26))]) (st1 := [.ref 82, .ref 82]) (H1 := mz_mk g32 x) rfl ?_
                  refine mz_fgI (v := (g1 82 3)) rfl fd_7_22 (by decide) (sc_82 _) (show g32 82 3 = (g1 82 3) from ((hug32.2 82 3 (fun h => absurd h.2 (by decide))).trans ((hug17.2 82 3 (fun h => absurd h.2 (by decide))).trans ((hug16.2 82 3 (fun h => absurd h.2 (by decide))).trans rfl)))) ?_
                  refine mm_g 1 (pc1 := 155) (lo1 := [some (.ref 82), some (.int (Int32.ofInt v26))]) (st1 := [.int (Int32.ofInt 1), .int (Int32.ofInt (g1 82 3)), .ref 82]) (H1 := mz_mk g32 x) rfl ?_
                  refine mz_iadd rfl ?_
                  refine mz_pI rfl fd_7_22 (sc_82 _) hIg32 bd_82_3 (by omega) (by omega) (fun g33 hIg33 hug33 => ?_)
                  exact mm_rt rfl rfl (hQ _ hIg33 (fun k j hk => ((hug33.2 k j (fun h => hk (Or.inl h))).trans ((hug32.2 k j (fun h => hk (Or.inr (Or.inr (Or.inr h))))).trans ((hug17.2 k j (fun h => hk (Or.inr (Or.inr (Or.inl h))))).trans ((hug16.2 k j (fun h => hk (Or.inr (Or.inl h)))).trans (hfg1 k j (fun h => hk (Or.inl h)))))))) (by rw [(show g33 82 5 = (g1 82 3) from ((hug33.2 82 5 (fun h => absurd h.2 (by decide))).trans ((hug32.2 82 5 (fun h => absurd h.2 (by decide))).trans ((hug17.2 82 5 (fun h => absurd h.2 (by decide))).trans hug16.1)))), (show g33 82 3 = ((g1 82 3) + 1) from hug33.1), (show g33 82 4 = v26 from ((hug33.2 82 4 (fun h => absurd h.2 (by decide))).trans hug32.1)), (show g33 82 6 = 0 from ((hug33.2 82 6 (fun h => absurd h.2 (by decide))).trans ((hug32.2 82 6 (fun h => absurd h.2 (by decide))).trans hug17.1)))]; have hl := hp21; rw [by19 (by omega) (by omega)] at hl; have hd := hp25; rw [by23 (by omega) (by omega)] at hd; have hs := hp29; rw [by27 (by omega) (by omega)] at hs; exact ⟨rb, fun z => absurd z (by omega), fun _ z => absurd (hl.mpr z) (by omega), fun _ z => absurd (hd.mpr z) (by omega), fun _ _ _ => ⟨by omega, fun z => by have hz := hs.mpr z; have hb0 := by19 (by omega) (by omega); have hb1 := by23 (by omega) (by omega); have hb2 := by27 (by omega) (by omega); first | omega | (exfalso; omega), fun z => by first | rfl | exact absurd (hs.mp (by omega)) z⟩⟩))
              · skip
                refine mm_g 1 (pc1 := 118) (lo1 := [some (.ref 82), none]) (st1 := [.ref 82]) (H1 := mz_mk g17 x) rfl ?_
                have hq34 : g17 82 2 = (g 82 2) := (show g17 82 2 = (g 82 2) from ((hug17.2 82 2 (fun h => absurd h.2 (by decide))).trans ((hug16.2 82 2 (fun h => absurd h.2 (by decide))).trans ((hfg1 82 2 (fun h => (absurd (show (82 = 82 ∧ 2 = 3) from h) (by decide)))).trans rfl))))
                have hq35 : g17 82 3 = (g1 82 3) := (show g17 82 3 = (g1 82 3) from ((hug17.2 82 3 (fun h => absurd h.2 (by decide))).trans ((hug16.2 82 3 (fun h => absurd h.2 (by decide))).trans rfl)))
                have hq36 : g17 82 4 = (g 82 4) := (show g17 82 4 = (g 82 4) from ((hug17.2 82 4 (fun h => absurd h.2 (by decide))).trans ((hug16.2 82 4 (fun h => absurd h.2 (by decide))).trans ((hfg1 82 4 (fun h => (absurd (show (82 = 82 ∧ 4 = 3) from h) (by decide)))).trans rfl))))
                have hq37 : g17 82 5 = (g1 82 3) := (show g17 82 5 = (g1 82 3) from ((hug17.2 82 5 (fun h => absurd h.2 (by decide))).trans hug16.1))
                have hq38 : g17 82 6 = 0 := (show g17 82 6 = 0 from hug17.1)
                refine mz_cv rfl mt_7_51 (by decide) (sc_82 _) rfl (Nat.le_of_ble_eq_true rfl) (by omega) (e_X7_stepNumber (by omega) hx hIg17 (by omega) (by omega) (by omega) (fun g39 hIg39 hfg39 hp40 hp41 hp42 => ⟨_, rfl, ?_⟩))
                show mm_W d mmX7_step 121 [some (.ref 82), none] [] (mz_mk g39 x) Q
                have bz_g39_3 := mz_rd hIg39 bd_82_3
                have bz_g39_4 := mz_rd hIg39 bd_82_4
                have bz_g39_6 := mz_rd hIg39 bd_82_6
                have rr42 : tk_run tk_dig (mz_cb g) (g 82 2) (g1 82 3) (g39 82 3) := by have h := hp41; rw [show mz_cb g17 = mz_cb g from mz_cb_eq (fun j => ((hug17.2 83 j (fun h => absurd h.1 (by decide))).trans ((hug16.2 83 j (fun h => absurd h.1 (by decide))).trans (hfg1 83 j (fun h => (absurd (show 83 = 82 from (h).1) (by decide))))))), hq34, hq35] at h; exact h
                have nv42 : g39 82 6 = tk_nv (mz_cb g) (g1 82 3) (min (g39 82 3 - (g1 82 3)) 4).toNat := by have h := hp42; rw [show mz_cb g17 = mz_cb g from mz_cb_eq (fun j => ((hug17.2 83 j (fun h => absurd h.1 (by decide))).trans ((hug16.2 83 j (fun h => absurd h.1 (by decide))).trans (hfg1 83 j (fun h => (absurd (show 83 = 82 from (h).1) (by decide))))))), hq35] at h; exact h
                refine mz_gt (tgt := 159) rfl rfl ?_
                exact mm_rt rfl rfl (hQ _ hIg39 (fun k j hk => ((hfg39 k j (fun h => hk (Or.elim h (fun h => (Or.inr (Or.inr (Or.inr h)))) (fun h => (Or.elim h (fun h => (Or.inr (Or.inr (Or.inl h)))) (fun h => (Or.inl h))))))).trans ((hug17.2 k j (fun h => hk (Or.inr (Or.inr (Or.inl h))))).trans ((hug16.2 k j (fun h => hk (Or.inr (Or.inl h)))).trans (hfg1 k j (fun h => hk (Or.inl h))))))) (by rw [(show g39 82 5 = (g1 82 3) from ((hfg39 82 5 (fun h => (Or.elim h (fun h => (absurd (show (82 = 82 ∧ 5 = 4) from h) (by decide))) (fun h => (Or.elim h (fun h => (absurd (show (82 = 82 ∧ 5 = 6) from h) (by decide))) (fun h => (absurd (show (82 = 82 ∧ 5 = 3) from h) (by decide)))))))).trans ((hug17.2 82 5 (fun h => absurd h.2 (by decide))).trans hug16.1))), (show g39 82 3 = (g39 82 3) from rfl), (show g39 82 4 = (g39 82 4) from rfl), (show g39 82 6 = (g39 82 6) from rfl)]; have hl := hp21; rw [by19 (by omega) (by omega)] at hl; have hd := hp25; rw [by23 (by omega) (by omega)] at hd; exact ⟨rb, fun z => absurd z (by omega), fun _ z => absurd (hd.mp (by omega)) (by unfold tk_let at z; unfold tk_dig; omega), fun _ _ => ⟨hp40, rr42, fun z => by rw [nv42, show (min ((g39 82 3) - (g1 82 3)) 4) = (g39 82 3) - (g1 82 3) by omega]⟩, fun _ _ z => absurd (hd.mp (by omega)) z⟩))
            · skip
              refine mm_g 1 (pc1 := 97) (lo1 := [some (.ref 82), none]) (st1 := [.ref 82]) (H1 := mz_mk g17 x) rfl ?_
              have hq43 : g17 82 2 = (g 82 2) := (show g17 82 2 = (g 82 2) from ((hug17.2 82 2 (fun h => absurd h.2 (by decide))).trans ((hug16.2 82 2 (fun h => absurd h.2 (by decide))).trans ((hfg1 82 2 (fun h => (absurd (show (82 = 82 ∧ 2 = 3) from h) (by decide)))).trans rfl))))
              have hq44 : g17 82 3 = (g1 82 3) := (show g17 82 3 = (g1 82 3) from ((hug17.2 82 3 (fun h => absurd h.2 (by decide))).trans ((hug16.2 82 3 (fun h => absurd h.2 (by decide))).trans rfl)))
              have hq45 : g17 82 4 = (g 82 4) := (show g17 82 4 = (g 82 4) from ((hug17.2 82 4 (fun h => absurd h.2 (by decide))).trans ((hug16.2 82 4 (fun h => absurd h.2 (by decide))).trans ((hfg1 82 4 (fun h => (absurd (show (82 = 82 ∧ 4 = 3) from h) (by decide)))).trans rfl))))
              have hq46 : g17 82 5 = (g1 82 3) := (show g17 82 5 = (g1 82 3) from ((hug17.2 82 5 (fun h => absurd h.2 (by decide))).trans hug16.1))
              have hq47 : g17 82 6 = 0 := (show g17 82 6 = 0 from hug17.1)
              refine mz_cv rfl mt_7_45 (by decide) (sc_82 _) rfl (Nat.le_of_ble_eq_true rfl) (by omega) (e_X7_stepWord (by omega) hx hIg17 (by omega) (fun g48 hIg48 hfg48 hp49 hp50 => ⟨_, rfl, ?_⟩))
              show mm_W d mmX7_step 100 [some (.ref 82), none] [] (mz_mk g48 x) Q
              have bz_g48_3 := mz_rd hIg48 bd_82_3
              have bz_g48_4 := mz_rd hIg48 bd_82_4
              have rr50 : tk_run tk_let (mz_cb g) (g 82 2) (g1 82 3) (g48 82 3) := by have h := hp50; rw [show mz_cb g17 = mz_cb g from mz_cb_eq (fun j => ((hug17.2 83 j (fun h => absurd h.1 (by decide))).trans ((hug16.2 83 j (fun h => absurd h.1 (by decide))).trans (hfg1 83 j (fun h => (absurd (show 83 = 82 from (h).1) (by decide))))))), hq43, hq44] at h; exact h
              refine mz_gt (tgt := 159) rfl rfl ?_
              exact mm_rt rfl rfl (hQ _ hIg48 (fun k j hk => ((hfg48 k j (fun h => hk (Or.elim h (fun h => (Or.inr (Or.inr (Or.inr h)))) (fun h => (Or.inl h))))).trans ((hug17.2 k j (fun h => hk (Or.inr (Or.inr (Or.inl h))))).trans ((hug16.2 k j (fun h => hk (Or.inr (Or.inl h)))).trans (hfg1 k j (fun h => hk (Or.inl h))))))) (by rw [(show g48 82 5 = (g1 82 3) from ((hfg48 82 5 (fun h => (Or.elim h (fun h => (absurd (show (82 = 82 ∧ 5 = 4) from h) (by decide))) (fun h => (absurd (show (82 = 82 ∧ 5 = 3) from h) (by decide)))))).trans ((hug17.2 82 5 (fun h => absurd h.2 (by decide))).trans hug16.1))), (show g48 82 3 = (g48 82 3) from rfl), (show g48 82 4 = (g48 82 4) from rfl), (show g48 82 6 = 0 from ((hfg48 82 6 (fun h => (Or.elim h (fun h => (absurd (show (82 = 82 ∧ 6 = 4) from h) (by decide))) (fun h => (absurd (show (82 = 82 ∧ 6 = 3) from h) (by decide)))))).trans hug17.1))]; have hl := hp21; rw [by19 (by omega) (by omega)] at hl; exact ⟨rb, fun z => absurd z (by omega), fun _ _ => ⟨hp49, rr50⟩, fun _ z => absurd (hl.mp (by omega)) (by unfold tk_dig at z; unfold tk_let; omega), fun _ z => absurd (hl.mp (by omega)) z⟩))
          · exfalso; omega
        · skip
          refine mm_g 2 (pc1 := 39) (lo1 := [some (.ref 82), none]) (st1 := [.ref 82, .ref 82]) (H1 := mz_mk g1 x) rfl ?_
          refine mz_fgI (v := (g1 82 3)) rfl fd_7_22 (by decide) (sc_82 _) (show g1 82 3 = (g1 82 3) from rfl) ?_
          refine mm_g 1 (pc1 := 43) (lo1 := [some (.ref 82), none]) (st1 := [.int (Int32.ofInt 1), .int (Int32.ofInt (g1 82 3)), .ref 82]) (H1 := mz_mk g1 x) rfl ?_
          refine mz_iadd rfl ?_
          refine mz_pI rfl fd_7_22 (sc_82 _) hIg1 bd_82_3 (by omega) (by omega) (fun g51 hIg51 hug51 => ?_)
          refine mz_gt (tgt := 0) rfl rfl ?_
          exact ih2 ((701 - g51 82 3).toNat) (by have h90 := (show g51 82 3 = ((g1 82 3) + 1) from hug51.1); omega) g51 rfl hIg51 (fun k j hk => ((hug51.2 k j (fun h => hk h)).trans (hfg1 k j (fun h => hk h)))) (by have h90 := (show g51 82 3 = ((g1 82 3) + 1) from hug51.1); omega) (by have h90 := (show g51 82 3 = ((g1 82 3) + 1) from hug51.1); omega) (by rw [(show g51 82 3 = ((g1 82 3) + 1) from hug51.1)]; exact tk_all_up hv7 (by unfold tk_blank; have hb0 := by12 (by omega) (by omega); have hb1 := by15 (by omega) (by omega); omega))
  exact L4 _ g rfl hI (fun _ _ _ => rfl) (by have h90 := (show g 82 3 = (g 82 3) from rfl); omega) (by have h90 := (show g 82 3 = (g 82 3) from rfl); omega) (tk_all_0 (by have h90 := (show g 82 3 = (g 82 3) from rfl); omega))
