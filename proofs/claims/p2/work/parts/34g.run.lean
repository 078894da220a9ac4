/-! A RUN of the class's reading of a rule: config by config, as far as its end or its fault; what a stack looks like on the way -/
def nn : List Int → Int
  | [] => 0
  | a :: S => if a = -13 then nn S + 1 else 0
def sh : List Int → Int → Prop
  | [], w => w = 0
  | a :: S, w => (a = -20 → 0 < w ∧ sh S (w - 1)) ∧ (a ≠ -20 → 0 < rk a ∧ sh S w ∧ (rk (tp S) < rk a ∨ (a = -13 ∧ tp S = -13)) ∧ (a = -13 → nn S + 1 ≤ 6))
theorem rk_b (a : Int) : 0 ≤ rk a ∧ rk a ≤ 6 ∧ (rk a = 3 ↔ a = -13) := by
  unfold rk
  refine ⟨?_, ?_, ?_⟩
  · repeat' split
    all_goals omega
  · repeat' split
    all_goals omega
  · repeat' split
    all_goals omega
theorem rk_20 : rk (-20) = 0 := rfl
theorem nn_0 {S : List Int} (h : tp S ≠ -13) : nn S = 0 := by
  cases S with
  | nil => rfl
  | cons a T => exact if_neg h
theorem nn_b : ∀ (S : List Int), 0 ≤ nn S
  | [] => Int.le_refl _
  | a :: S => by
    have := nn_b S
    simp only [nn]
    split <;> omega
theorem sh_nn {S : List Int} {w : Int} (h : sh S w) : nn S ≤ 6 := by
  cases S with
  | nil => exact (by decide)
  | cons a T =>
    by_cases z : a = -13
    · have := (h.2 (by omega)).2.2.2 z
      simp only [nn]
      rw [if_pos z]
      exact this
    · simp only [nn]
      rw [if_neg z]
      decide
def ql (r n : Int) : Int := if r = 0 then 0 else if r = 1 then 1 else if r = 2 then 2 else if r = 3 then 2 + n else if r = 4 then 9 else if r = 5 then 10 else 11
theorem ql_b {r n : Int} (h0 : 0 ≤ n) (h : n ≤ 6) : 0 ≤ ql r n ∧ ql r n ≤ 11 := by
  unfold ql
  repeat' split
  all_goals omega
theorem ql_lt {r s n m : Int} (h0 : 0 ≤ n) (h : n ≤ 6) (hm : 0 ≤ m) (h1 : 0 ≤ r) (h2 : r < s) (h3 : s ≤ 6) (h4 : s = 3 → m = n + 1) : ql r n + 1 ≤ ql s m := by
  unfold ql
  repeat' split
  all_goals omega
theorem sh_len : ∀ (S : List Int) (w : Int), sh S w → 0 ≤ w ∧ (S.length : Int) ≤ 12 * w + ql (rk (tp S)) (nn S)
  | [], w, h => by
    have h : w = 0 := h
    refine ⟨by omega, ?_⟩
    rw [h]
    exact (by decide)
  | a :: S, w, h => by
    by_cases z : a = -20
    · obtain ⟨h1, h2⟩ := h.1 z
      obtain ⟨i1, i2⟩ := sh_len S _ h2
      have i3 := ql_b (r := rk (tp S)) (nn_b S) (sh_nn h2)
      have i4 := ql_b (r := rk (tp (a :: S))) (nn_b (a :: S)) (sh_nn (S := a :: S) (w := w) h)
      refine ⟨by omega, ?_⟩
      simp only [List.length_cons]
      omega
    · obtain ⟨h1, h2, h3, h4⟩ := h.2 z
      obtain ⟨i1, i2⟩ := sh_len S _ h2
      refine ⟨i1, ?_⟩
      have hb := rk_b a
      have hs := rk_b (tp S)
      have hn := nn_b S
      have hn6 := sh_nn h2
      have e : tp (a :: S) = a := rfl
      have hm : a = -13 → nn (a :: S) = nn S + 1 := fun y => if_pos y
      have hq : ql (rk (tp S)) (nn S) + 1 ≤ ql (rk (tp (a :: S))) (nn (a :: S)) := by
        rw [e]
        rcases h3 with h3 | ⟨h3, h5⟩
        · exact ql_lt hn hn6 (nn_b _) hs.1 h3 hb.2.1 (fun y => hm (hb.2.2.mp y))
        · rw [hm h3, h5, h3, show rk (-13) = 3 from rfl]
          show (2 : Int) + nn S + 1 ≤ 2 + (nn S + 1)
          omega
      simp only [List.length_cons]
      omega
theorem sh_l84 {S : List Int} {w : Int} (h : sh S w) (hw : w ≤ 6) : S.length < 84 := by
  have h1 := sh_len S w h
  have h2 := ql_b (r := rk (tp S)) (nn_b S) (sh_nn h)
  omega
theorem sh_cl : ∀ (S : List Int) (w r : Int), 1 ≤ r → sh S w → sh (cl S r) w ∧ rk (tp (cl S r)) < r
  | [], w, r, hr, h => ⟨h, by show rk 0 < r; exact (by show (0 : Int) < r; omega)⟩
  | a :: S, w, r, hr, h => by
    by_cases z : r ≤ rk a
    · have e : cl (a :: S) r = cl S r := if_pos z
      rw [e]
      have y : a ≠ -20 := fun y => by
        rw [y, rk_20] at z
        omega
      exact sh_cl S w r hr (h.2 y).2.1
    · have e : cl (a :: S) r = a :: S := if_neg z
      rw [e]
      exact ⟨h, by show rk a < r; omega⟩
theorem sh_ne {S : List Int} {w : Int} (h : sh S w) (hw : 0 < w) : S ≠ [] := fun y => by
  rw [y] at h
  have h : w = 0 := h
  omega
theorem sh_tail {S : List Int} {w : Int} (h : sh S w) (hw : 0 < w) (hr : rk (tp S) < 1) : sh S.tail (w - 1) := by
  cases S with
  | nil => exact absurd (show w = 0 from h) (by omega)
  | cons a T =>
    have hr : rk a < 1 := hr
    by_cases z : a = -20
    · exact (h.1 z).2
    · have := (h.2 z).1
      omega
theorem tk_so_ex (B : Int → Int) (kd b e : Int) : ∃ r, tk_so B kd b e r := by
  unfold tk_so
  by_cases z1 : kd = 60
  · exact ⟨-14, by omega, by omega, by omega, by omega, by omega, by omega, fun h => absurd z1 h⟩
  by_cases z2 : kd = 61
  · exact ⟨-15, by omega, by omega, by omega, by omega, by omega, by omega, fun _ h => absurd z2 h⟩
  by_cases z3 : kd = 43
  · exact ⟨-16, by omega, by omega, by omega, by omega, by omega, by omega, fun _ _ h => absurd z3 h⟩
  by_cases z4 : kd = 45
  · exact ⟨-17, by omega, by omega, by omega, by omega, by omega, by omega, fun _ _ _ h => absurd z4 h⟩
  by_cases z5 : kd = 42
  · exact ⟨-18, by omega, by omega, by omega, by omega, by omega, by omega, fun _ _ _ _ h => absurd z5 h⟩
  by_cases z6 : kd = 47
  · exact ⟨-19, by omega, by omega, by omega, by omega, by omega, by omega, fun _ _ _ _ _ h => absurd z6 h⟩
  by_cases y1 : tk_sp B kd b e 12
  · exact ⟨-11, by omega, by omega, by omega, by omega, by omega, by omega, fun _ _ _ _ _ _ => ⟨fun _ => rfl, fun h => absurd y1 h, fun h => absurd y1 h⟩⟩
  by_cases y2 : tk_sp B kd b e 13
  · exact ⟨-12, by omega, by omega, by omega, by omega, by omega, by omega, fun _ _ _ _ _ _ => ⟨fun h => absurd h y1, fun _ _ => rfl, fun _ h => absurd y2 h⟩⟩
  · exact ⟨0, by omega, by omega, by omega, by omega, by omega, by omega, fun _ _ _ _ _ _ => ⟨fun h => absurd h y1, fun _ h => absurd h y2, fun _ _ => rfl⟩⟩
theorem tk_so_b {B : Int → Int} {kd b e r : Int} (h : tk_so B kd b e r) : (rk r ≠ 0 → kd ≠ 0) ∧ r ≠ -13 ∧ r ≠ -20 := by
  obtain ⟨s, hs⟩ := tk_so_ex B kd b e
  obtain ⟨a1, a2, a3, a4, a5, a6, a7⟩ := h
  by_cases z1 : kd = 60
  · have := a1 z1; omega
  by_cases z2 : kd = 61
  · have := a2 z2; omega
  by_cases z3 : kd = 43
  · have := a3 z3; omega
  by_cases z4 : kd = 45
  · have := a4 z4; omega
  by_cases z5 : kd = 42
  · have := a5 z5; omega
  by_cases z6 : kd = 47
  · have := a6 z6; omega
  have u := a7 z1 z2 z3 z4 z5 z6
  by_cases y1 : tk_sp B kd b e 12
  · have := u.1 y1; have := y1.1; omega
  by_cases y2 : tk_sp B kd b e 13
  · have := u.2.1 y1 y2; have := y2.1; omega
  · have := u.2.2 y1 y2
    rw [this]
    exact ⟨fun h => absurd rfl h, by omega, by omega⟩
/-- what stands of a config on the way -/
def okc (d w : Int) (S : List Int) (nc k : Int) : Prop := (d = 0 ∨ d = 1) ∧ 0 ≤ w ∧ w ≤ 6 ∧ sh S w ∧ (d = 1 → nc = 1 → k = nn S ∧ rk (tp S) ≤ 3)
theorem okc_0 : okc 1 0 [] 1 0 := ⟨Or.inr rfl, by omega, by omega, rfl, fun _ _ => ⟨rfl, by decide⟩⟩
theorem cp_part_x (B : Int → Int) (b e kd : Int) {w : Int} {S : List Int} {nc k : Int} (h : okc 1 w S nc k) : (∃ x y : Int, ∀ F N, cp_part B b e kd w S nc k F N ↔ F x y) ∨ (kd ≠ 0 ∧ ∃ (d w1 : Int) (S1 : List Int) (nc1 k1 : Int), okc d w1 S1 nc1 k1 ∧ ∀ F N, cp_part B b e kd w S nc k F N ↔ N d w1 S1 nc1 k1) := by
  obtain ⟨_, o1, o2, o3, o4⟩ := h
  have o4 := o4 rfl
  unfold cp_part
  by_cases h0 : kd = 2 ∨ kd = 1 ∨ kd = 40
  · by_cases h1 : 6 ≤ w
    · exact Or.inl ⟨2, b, fun F N => ⟨fun h => (h.2 h0).1 h1, fun h => ⟨fun a1 a2 a3 => by omega, fun _ => ⟨fun _ => h, fun a => absurd h1 (by omega)⟩⟩⟩⟩
    · have h1 : w < 6 := by omega
      by_cases h2 : kd = 40
      · refine Or.inr ⟨by omega, 1, w + 1, -20 :: S, 1, 0, ⟨Or.inr rfl, by omega, by omega, ⟨fun _ => ⟨by omega, by rw [show w + 1 - 1 = w by omega]; exact o3⟩, fun a => absurd rfl a⟩, fun _ _ => ⟨rfl, by show (0 : Int) ≤ 3; omega⟩⟩, fun F N => ⟨fun h => ((h.2 h0).2 h1).1 h2, fun h => ⟨fun a1 a2 a3 => by omega, fun _ => ⟨fun a => by omega, fun _ => ⟨fun _ => h, fun a => absurd h2 a⟩⟩⟩⟩⟩
      · by_cases h3 : nc = 1 ∧ tk_sp B kd b e 5
        · obtain ⟨n1, n2⟩ := o4 h3.1
          by_cases h4 : 6 ≤ k
          · exact Or.inl ⟨2, b, fun F N => ⟨fun h => (((h.2 h0).2 h1).2 h2).1 h3 |>.1 h4, fun h => ⟨fun a1 a2 a3 => by omega, fun _ => ⟨fun a => by omega, fun _ => ⟨fun a => absurd a h2, fun _ => ⟨fun _ => ⟨fun _ => h, fun a => by omega⟩, fun a => absurd h3 a⟩⟩⟩⟩⟩⟩
          · have h4 : k < 6 := by omega
            have hr := rk_b (tp S)
            refine Or.inr ⟨by omega, 1, w, -13 :: S, nc, k + 1, ⟨Or.inr rfl, o1, o2, ⟨fun a => absurd a (by decide), fun _ => ⟨by decide, o3, ?_, fun _ => by omega⟩⟩, fun _ _ => ⟨by show k + 1 = nn S + 1; omega, by show (3 : Int) ≤ 3; omega⟩⟩, fun F N => ⟨fun h => (((h.2 h0).2 h1).2 h2).1 h3 |>.2 h4, fun h => ⟨fun a1 a2 a3 => by omega, fun _ => ⟨fun a => by omega, fun _ => ⟨fun a => absurd a h2, fun _ => ⟨fun _ => ⟨fun a => by omega, fun _ => h⟩, fun a => absurd h3 a⟩⟩⟩⟩⟩⟩
            rcases (by omega : rk (tp S) < 3 ∨ rk (tp S) = 3) with y | y
            · exact Or.inl y
            · exact Or.inr ⟨rfl, hr.2.2.mp y⟩
        · by_cases h5 : kd = 2 ∧ 4 < e - b
          · exact Or.inl ⟨2, b, fun F N => ⟨fun h => (((h.2 h0).2 h1).2 h2).2 h3 |>.1 h5, fun h => ⟨fun a1 a2 a3 => by omega, fun _ => ⟨fun a => by omega, fun _ => ⟨fun a => absurd a h2, fun _ => ⟨fun a => absurd a h3, fun _ => ⟨fun _ => h, fun a => by omega, fun a => absurd h5 a⟩⟩⟩⟩⟩⟩⟩
          · by_cases h6 : kd = 1 ∧ ¬ tk_val B kd b e
            · exact Or.inl ⟨3, b, fun F N => ⟨fun h => (((h.2 h0).2 h1).2 h2).2 h3 |>.2.1 h6, fun h => ⟨fun a1 a2 a3 => by omega, fun _ => ⟨fun a => by omega, fun _ => ⟨fun a => absurd a h2, fun _ => ⟨fun a => absurd a h3, fun _ => ⟨fun a => absurd a h5, fun _ => h, fun _ a => absurd h6 a⟩⟩⟩⟩⟩⟩⟩
            · exact Or.inr ⟨by omega, 0, w, S, nc, k, ⟨Or.inl rfl, o1, o2, o3, fun a => absurd a (by decide)⟩, fun F N => ⟨fun h => (((h.2 h0).2 h1).2 h2).2 h3 |>.2.2 h5 h6, fun h => ⟨fun a1 a2 a3 => by omega, fun _ => ⟨fun a => by omega, fun _ => ⟨fun a => absurd a h2, fun _ => ⟨fun a => absurd a h3, fun _ => ⟨fun a => absurd a h5, fun a => absurd a h6, fun _ _ => h⟩⟩⟩⟩⟩⟩⟩
  · exact Or.inl ⟨1, b, fun F N => ⟨fun h => h.1 (by omega) (by omega) (by omega), fun h => ⟨fun _ _ _ => h, fun a => absurd a h0⟩⟩⟩
theorem cp_sign_x (B : Int → Int) (b e kd : Int) {w : Int} {S : List Int} {nc k : Int} (h : okc 0 w S nc k) : (∃ x y : Int, ∀ F N, cp_sign B b e kd w S nc k F N ↔ F x y) ∨ (kd ≠ 0 ∧ ∃ (d w1 : Int) (S1 : List Int) (nc1 k1 : Int), okc d w1 S1 nc1 k1 ∧ ∀ F N, cp_sign B b e kd w S nc k F N ↔ N d w1 S1 nc1 k1) := by
  obtain ⟨_, o1, o2, o3, _⟩ := h
  unfold cp_sign
  by_cases h0 : kd = 41 ∧ 0 < w
  · obtain ⟨c1, c2⟩ := sh_cl S w 1 (by omega) o3
    exact Or.inr ⟨by omega, 0, w - 1, (cl S 1).tail, nc, k, ⟨Or.inl rfl, by omega, by omega, sh_tail c1 h0.2 c2, fun a => absurd a (by decide)⟩, fun F N => ⟨fun h => h.1 h0, fun h => ⟨fun _ => h, fun a => absurd h0 a⟩⟩⟩
  · obtain ⟨sg, hs⟩ := tk_so_ex B kd b e
    obtain ⟨t1, t2, t3⟩ := tk_so_b hs
    have hr := rk_b sg
    by_cases h1 : rk sg = 0
    · refine Or.inl ⟨1, b, fun F N => ⟨fun h => (h.2 h0 sg hs).1 h1, fun h => ⟨fun a => absurd a h0, fun _ s hs2 => ?_⟩⟩⟩
      rw [tk_so_u hs2 hs]
      exact ⟨fun _ => h, fun a => absurd h1 a⟩
    · by_cases h2 : rk sg = 4 ∧ rk (tp (cl S 5)) = 4
      · refine Or.inl ⟨1, b, fun F N => ⟨fun h => ((h.2 h0 sg hs).2 h1).1 h2, fun h => ⟨fun a => absurd a h0, fun _ s hs2 => ?_⟩⟩⟩
        rw [tk_so_u hs2 hs]
        exact ⟨fun a => absurd a h1, fun _ => ⟨fun _ => h, fun a => absurd h2 a⟩⟩
      · have hc : sh (cl S (if rk sg = 4 then 5 else rk sg)) w ∧ rk (tp (cl S (if rk sg = 4 then 5 else rk sg))) < rk sg := by
          by_cases y : rk sg = 4
          · rw [if_pos y]
            obtain ⟨c1, c2⟩ := sh_cl S w 5 (by omega) o3
            have c3 := rk_b (tp (cl S 5))
            exact ⟨c1, by omega⟩
          · rw [if_neg y]
            exact sh_cl S w (rk sg) (by omega) o3
        refine Or.inr ⟨t1 h1, 1, w, sg :: cl S (if rk sg = 4 then 5 else rk sg), if rk sg ≤ 2 then 1 else 0, 0, ⟨Or.inr rfl, o1, o2, ⟨fun a => absurd a t3, fun _ => ⟨by omega, hc.1, Or.inl hc.2, fun a => absurd a t2⟩⟩, fun _ a => ⟨(if_neg t2).symm, ?_⟩⟩, fun F N => ⟨fun h => ((h.2 h0 sg hs).2 h1).2 h2, fun h => ⟨fun a => absurd a h0, fun _ s hs2 => ?_⟩⟩⟩
        · show rk sg ≤ 3
          by_cases y : rk sg ≤ 2
          · omega
          · rw [if_neg y] at a
            exact absurd a (by decide)
        · rw [tk_so_u hs2 hs]
          exact ⟨fun a => absurd a h1, fun _ => ⟨fun a => absurd a h2, fun _ => h⟩⟩
/-- tokens are told by their place alone -/
theorem tk_tok_v {B : Int → Int} {n p b e kd nu b1 e1 kd1 nu1 : Int} (h : tk_tok B n p b e kd nu) (h1 : tk_tok B n p b1 e1 kd1 nu1) : b1 = b ∧ e1 = e ∧ kd1 = kd := by
  obtain ⟨a1, a2, a3, a4, a5⟩ := h
  obtain ⟨c1, c2, c3, c4, c5⟩ := h1
  have eb : b1 = b := tk_run_u c1 a1
  rw [eb] at c2 c3 c4 c5
  have hb := a1.2.1
  refine ⟨eb, ?_⟩
  by_cases z : b = n
  · have u := a2 z
    have v := c2 z
    omega
  · have z : b < n := by omega
    by_cases z1 : tk_let (B b)
    · exact ⟨tk_run_u (c3 z z1).2 (a3 z z1).2, (c3 z z1).1.trans (a3 z z1).1.symm⟩
    · by_cases z2 : tk_dig (B b)
      · exact ⟨tk_run_u (c4 z z2).2.1 (a4 z z2).2.1, (c4 z z2).1.trans (a4 z z2).1.symm⟩
      · have u := a5 z z1 z2
        have v := c5 z z1 z2
        refine ⟨v.1.trans u.1.symm, ?_⟩
        by_cases z3 : tk_sgn (B b)
        · exact (v.2.1 z3).trans (u.2.1 z3).symm
        · exact (v.2.2 z3).trans (u.2.2 z3).symm
/-- a token that is not the end has a byte at the least -/
theorem tk_tok_len {B : Int → Int} {n p b e kd nu : Int} (h : tk_tok B n p b e kd nu) : p ≤ b ∧ b ≤ n ∧ b ≤ e ∧ e ≤ n ∧ (kd ≠ 0 → b < e) := by
  obtain ⟨a1, a2, a3, a4, a5⟩ := h
  refine ⟨a1.1, a1.2.1, ?_⟩
  have hb := a1.2.1
  by_cases z : b = n
  · have u := a2 z
    omega
  · have z : b < n := by omega
    by_cases z1 : tk_let (B b)
    · obtain ⟨u, v, w1, w2, w3⟩ := a3 z z1
      have : e ≠ b := fun y => by rw [y] at w3; exact w3 z z1
      omega
    · by_cases z2 : tk_dig (B b)
      · obtain ⟨u, ⟨v, w1, w2, w3⟩, _⟩ := a4 z z2
        have : e ≠ b := fun y => by rw [y] at w3; exact w3 z z2
        omega
      · have u := a5 z z1 z2
        omega
/-- the run: F what place at a fault, Z begin end at a whole EXPR -/
def ev (B : Int → Int) (n : Int) (F Z : Int → Int → Prop) : Nat → Int → Int → Int → Int → Int → List Int → Int → Int → Prop
  | 0, _, _, _, _, _, _, _, _ => False
  | m + 1, b, e, kd, d, w, S, nc, k =>
    (d = 1 → cp_part B b e kd w S nc k F (fun d1 w1 S1 nc1 k1 => ∃ b1 e1 kd1 nu : Int, tk_tok B n e b1 e1 kd1 nu ∧ ev B n F Z m b1 e1 kd1 d1 w1 S1 nc1 k1))
    ∧ (d = 0 → (w = 0 ∧ kd = 59 → Z b e) ∧ (¬ (w = 0 ∧ kd = 59) → cp_sign B b e kd w S nc k F (fun d1 w1 S1 nc1 k1 => ∃ b1 e1 kd1 nu : Int, tk_tok B n e b1 e1 kd1 nu ∧ ev B n F Z m b1 e1 kd1 d1 w1 S1 nc1 k1)))
def EV (B : Int → Int) (n b e kd d w : Int) (S : List Int) (nc k : Int) (F Z : Int → Int → Prop) : Prop := ∃ m, ev B n F Z m b e kd d w S nc k
/-- the run of a config tells one thing -/
theorem ev_det {B : Int → Int} {n : Int} {F Z F1 Z1 : Int → Int → Prop} : ∀ (m m1 : Nat) {b e kd d w : Int} {S : List Int} {nc k : Int}, okc d w S nc k → ev B n F Z m b e kd d w S nc k → ev B n F1 Z1 m1 b e kd d w S nc k → (∃ x y, F x y ∧ F1 x y) ∨ (∃ x y, Z x y ∧ Z1 x y)
  | 0, _, _, _, _, _, _, _, _, _, _, h, _ => False.elim h
  | _ + 1, 0, _, _, _, _, _, _, _, _, _, _, h => False.elim h
  | m + 1, m1 + 1, b, e, kd, d, w, S, nc, k, ho, h, h1 => by
    have go : ∀ {c : (Int → Int → Prop) → (Int → Int → List Int → Int → Int → Prop) → Prop}, ((∃ x y : Int, ∀ F N, c F N ↔ F x y) ∨ (kd ≠ 0 ∧ ∃ (d w1 : Int) (S1 : List Int) (nc1 k1 : Int), okc d w1 S1 nc1 k1 ∧ ∀ F N, c F N ↔ N d w1 S1 nc1 k1)) → c F (fun d1 w1 S1 nc1 k1 => ∃ b1 e1 kd1 nu : Int, tk_tok B n e b1 e1 kd1 nu ∧ ev B n F Z m b1 e1 kd1 d1 w1 S1 nc1 k1) → c F1 (fun d1 w1 S1 nc1 k1 => ∃ b1 e1 kd1 nu : Int, tk_tok B n e b1 e1 kd1 nu ∧ ev B n F1 Z1 m1 b1 e1 kd1 d1 w1 S1 nc1 k1) → (∃ x y, F x y ∧ F1 x y) ∨ (∃ x y, Z x y ∧ Z1 x y) := by
      intro c hc a1 a2
      rcases hc with ⟨x, y, hc⟩ | ⟨_, d1, w1, S1, nc1, k1, hok, hc⟩
      · exact Or.inl ⟨x, y, (hc _ _).mp a1, (hc _ _).mp a2⟩
      · obtain ⟨b1, e1, kd1, nu, t1, r1⟩ := (hc _ _).mp a1
        obtain ⟨b2, e2, kd2, nu2, t2, r2⟩ := (hc _ _).mp a2
        obtain ⟨u1, u2, u3⟩ := tk_tok_v t1 t2
        rw [u1, u2, u3] at r2
        exact ev_det m m1 hok r1 r2
    rcases ho.1 with z | z
    · by_cases y : w = 0 ∧ kd = 59
      · exact Or.inr ⟨b, e, (h.2 z).1 y, (h1.2 z).1 y⟩
      · exact go (cp_sign_x B b e kd (z ▸ ho)) ((h.2 z).2 y) ((h1.2 z).2 y)
    · exact go (cp_part_x B b e kd (z ▸ ho)) (h.1 z) (h1.1 z)
theorem EV_det {B : Int → Int} {n b e kd d w : Int} {S : List Int} {nc k : Int} {F Z F1 Z1 : Int → Int → Prop} (ho : okc d w S nc k) (h : EV B n b e kd d w S nc k F Z) (h1 : EV B n b e kd d w S nc k F1 Z1) : (∃ x y, F x y ∧ F1 x y) ∨ (∃ x y, Z x y ∧ Z1 x y) := by
  obtain ⟨m, h⟩ := h
  obtain ⟨m1, h1⟩ := h1
  exact ev_det m m1 ho h h1
