/-! THE REFERENCE'S LEVELS (7 a part, 6 product, 5 sum, 3 not and test, 2 and, 1 expression) as pieces of the run -/
/-- what is known of the token behind a level -/
def rx (p : Int) (B : Int → Int) (b e kd : Int) (T : List Int) : Prop := (p ≤ 6 → kd ≠ 42 ∧ kd ≠ 47) ∧ (p ≤ 5 → kd ≠ 43 ∧ kd ≠ 45) ∧ (p ≤ 3 → kd = 60 ∨ kd = 61 → rk (tp (cl T 5)) = 4) ∧ (p ≤ 2 → ¬ tk_sp B kd b e 13) ∧ (p ≤ 1 → ¬ tk_sp B kd b e 12)
/-- a level's piece: from the token b with the stack S as far as the token b1, what is above S on the stack binds p and more; or to its fault -/
def lv_R (B : Int → Int) (n p p1 w b e kd : Int) (S : List Int) (nc k b1 e1 kd1 bad pl : Int) : Prop := (bad = 0 → ∃ T, cl T p = S ∧ rx p1 B b1 e1 kd1 T ∧ ∀ F Z, EV B n b1 e1 kd1 0 w T 1 0 F Z → EV B n b e kd 1 w S nc k F Z) ∧ (bad ≠ 0 → ∀ F Z : Int → Int → Prop, F bad pl → EV B n b e kd 1 w S nc k F Z)
theorem lv_bad {B : Int → Int} {n p p1 w b e kd nc k b1 e1 kd1 bad pl : Int} {S : List Int} (h0 : bad ≠ 0) (h : ∀ F Z : Int → Int → Prop, F bad pl → EV B n b e kd 1 w S nc k F Z) : lv_R B n p p1 w b e kd S nc k b1 e1 kd1 bad pl := ⟨fun z => absurd z h0, fun _ => h⟩
theorem lv_w {B : Int → Int} {n p q p1 w b e kd nc k b1 e1 kd1 bad pl : Int} {S : List Int} (h : lv_R B n p p1 w b e kd S nc k b1 e1 kd1 bad pl) (hq : q ≤ p) (hS : rk (tp S) < q) : lv_R B n q p1 w b e kd S nc k b1 e1 kd1 bad pl := by
  refine ⟨fun z => ?_, h.2⟩
  obtain ⟨T, h1, h2, h3⟩ := h.1 z
  exact ⟨T, by rw [← cl_cl T p q hq, h1, cl_self hS], h2, h3⟩
theorem lv_x {B : Int → Int} {n p p1 p2 w b e kd nc k b1 e1 kd1 bad pl : Int} {S : List Int} (h : lv_R B n p p1 w b e kd S nc k b1 e1 kd1 bad pl) (hx : bad = 0 → ∀ T, cl T p = S → rx p1 B b1 e1 kd1 T → rx p2 B b1 e1 kd1 T) : lv_R B n p p2 w b e kd S nc k b1 e1 kd1 bad pl := by
  refine ⟨fun z => ?_, h.2⟩
  obtain ⟨T, h1, h2, h3⟩ := h.1 z
  exact ⟨T, h1, hx z T h1 h2, h3⟩
theorem cl_7 (S : List Int) : cl S 7 = S := cl_self (by have := (rk_b (tp S)).2.1; omega)
/-- a sign of the level itself, and what is right of it -/
theorem lv_go {B : Int → Int} {n p p1 q q1 w b e kd nc k b1 e1 kd1 bad pl pl1 sg b2 e2 kd2 nu b3 e3 kd3 bad1 nc1 : Int} {S : List Int} (h : lv_R B n p p1 w b e kd S nc k b1 e1 kd1 bad pl) (hb : bad = 0) (h41 : kd1 ≠ 41) (h59 : kd1 ≠ 59) (hs : tk_so B kd1 b1 e1 sg) (h0 : rk sg = p) (hp : 1 ≤ p) (h4 : p ≠ 4) (hn : nc1 = if p ≤ 2 then 1 else 0) (ht : tk_tok B n e1 b2 e2 kd2 nu) (h2 : lv_R B n q q1 w b2 e2 kd2 (sg :: S) nc1 0 b3 e3 kd3 bad1 pl1) (hq : p ≤ q) : lv_R B n p q1 w b e kd S nc k b3 e3 kd3 bad1 pl1 := by
  obtain ⟨T, i1, _, i3⟩ := h.1 hb
  have go : ∀ F Z, EV B n b2 e2 kd2 1 w (sg :: S) nc1 0 F Z → EV B n b e kd 1 w S nc k F Z := fun F Z y => i3 F Z (EV_sg h41 h59 hs (by omega) (fun z => by omega) ht (by
    rw [if_neg (by omega), h0, i1, ← hn]
    exact y))
  refine ⟨fun z => ?_, fun z F Z y => go F Z (h2.2 z F Z y)⟩
  obtain ⟨T1, j1, j2, j3⟩ := h2.1 z
  refine ⟨T1, ?_, j2, fun F Z y => go F Z (j3 F Z y)⟩
  rw [← cl_cl T1 q p hq, j1, cl_top (by omega), ← i1, cl_cl T p p (Int.le_refl _)]
/-- a test -/
theorem lv_test {B : Int → Int} {n w b e kd nc k b1 e1 kd1 bad pl pl1 sg b2 e2 kd2 nu b3 e3 kd3 bad1 : Int} {S : List Int} (h : lv_R B n 5 5 w b e kd S nc k b1 e1 kd1 bad pl) (hb : bad = 0) (h41 : kd1 ≠ 41) (h59 : kd1 ≠ 59) (hs : tk_so B kd1 b1 e1 sg) (h0 : rk sg = 4) (hS : rk (tp S) ≤ 3) (ht : tk_tok B n e1 b2 e2 kd2 nu) (h2 : lv_R B n 5 5 w b2 e2 kd2 (sg :: S) 0 0 b3 e3 kd3 bad1 pl1) : (bad1 = 0 → ∃ T, cl T 3 = cl S 3 ∧ rx 3 B b3 e3 kd3 T ∧ ∀ F Z, EV B n b3 e3 kd3 0 w T 1 0 F Z → EV B n b e kd 1 w S nc k F Z) ∧ (bad1 ≠ 0 → ∀ F Z : Int → Int → Prop, F bad1 pl1 → EV B n b e kd 1 w S nc k F Z) := by
  obtain ⟨T, i1, _, i3⟩ := h.1 hb
  have go : ∀ F Z, EV B n b2 e2 kd2 1 w (sg :: S) 0 0 F Z → EV B n b e kd 1 w S nc k F Z := fun F Z y => i3 F Z (EV_sg h41 h59 hs (by omega) (fun z => by rw [i1]; omega) ht (by
    rw [if_pos h0, i1, if_neg (by omega)]
    exact y))
  refine ⟨fun z => ?_, fun z F Z y => go F Z (h2.2 z F Z y)⟩
  obtain ⟨T1, j1, j2, j3⟩ := h2.1 z
  refine ⟨T1, ?_, ⟨fun _ => j2.1 (by decide), fun _ => j2.2.1 (by decide), fun _ _ => ?_, fun y => absurd y (by decide), fun y => absurd y (by decide)⟩, fun F Z y => go F Z (j3 F Z y)⟩
  · rw [← cl_cl T1 5 3 (by decide), j1, cl_top (by omega)]
  · rw [j1]
    exact h0
theorem lv_notest {B : Int → Int} {n w b e kd nc k b1 e1 kd1 bad pl : Int} {S : List Int} (h : lv_R B n 5 5 w b e kd S nc k b1 e1 kd1 bad pl) (hn : bad = 0 → kd1 ≠ 60 ∧ kd1 ≠ 61) : (bad = 0 → ∃ T, cl T 3 = cl S 3 ∧ rx 3 B b1 e1 kd1 T ∧ ∀ F Z, EV B n b1 e1 kd1 0 w T 1 0 F Z → EV B n b e kd 1 w S nc k F Z) ∧ (bad ≠ 0 → ∀ F Z : Int → Int → Prop, F bad pl → EV B n b e kd 1 w S nc k F Z) := by
  refine ⟨fun z => ?_, h.2⟩
  obtain ⟨T, h1, h2, h3⟩ := h.1 z
  have hn := hn z
  exact ⟨T, by rw [← cl_cl T 5 3 (by decide), h1], ⟨fun _ => h2.1 (by decide), fun _ => h2.2.1 (by decide), fun _ y => by omega, fun y => absurd y (by decide), fun y => absurd y (by decide)⟩, h3⟩
/-- so many nots -/
def nt : Nat → List Int → List Int
  | 0, S => S
  | k + 1, S => -13 :: nt k S
theorem nt_cl : ∀ (k : Nat) {S : List Int}, rk (tp S) < 3 → cl (nt k S) 3 = S
  | 0, _, h => cl_self h
  | k + 1, S, h => (cl_top (a := -13) (by decide)).trans (nt_cl k h)
theorem nt_rk (k : Nat) {S : List Int} (h : rk (tp S) < 3) : rk (tp (nt k S)) ≤ 3 := by
  cases k with
  | zero => exact Int.le_of_lt h
  | succ k => exact Int.le_refl _
/-- on the way through nots -/
def ln_R (B : Int → Int) (n w b e kd : Int) (S : List Int) (b1 e1 kd1 k bad pl : Int) : Prop := (bad = 0 → ∀ F Z, EV B n b1 e1 kd1 1 w (nt k.toNat S) 1 k F Z → EV B n b e kd 1 w S 1 0 F Z) ∧ (bad ≠ 0 → ∀ F Z : Int → Int → Prop, F bad pl → EV B n b e kd 1 w S 1 0 F Z)
theorem ln_0 {B : Int → Int} {n w b e kd pl : Int} {S : List Int} : ln_R B n w b e kd S b e kd 0 0 pl := ⟨fun _ _ _ h => h, fun h => absurd rfl h⟩
theorem ln_up {B : Int → Int} {n w b e kd b1 e1 kd1 k bad pl bad1 pl1 b2 e2 kd2 nu : Int} {S : List Int} (h : ln_R B n w b e kd S b1 e1 kd1 k bad pl) (hb : bad = 0) (hw : w < 6) (hq : tk_sp B kd1 b1 e1 5) (h0 : 0 ≤ k) (hk : k < 6) (hb1 : bad1 = 0) (ht : tk_tok B n e1 b2 e2 kd2 nu) : ln_R B n w b e kd S b2 e2 kd2 (k + 1) bad1 pl1 := by
  refine ⟨fun _ F Z y => h.1 hb F Z (EV_not hw rfl hq hk ht ?_), fun z => absurd hb1 z⟩
  rw [show (k + 1).toNat = k.toNat + 1 by omega] at y
  exact y
theorem ln_6 {B : Int → Int} {n w b e kd b1 e1 kd1 k bad pl b2 e2 kd2 k2 : Int} {S : List Int} (h : ln_R B n w b e kd S b1 e1 kd1 k bad pl) (hb : bad = 0) (hq : tk_sp B kd1 b1 e1 5) (hk : 6 ≤ k) : ln_R B n w b e kd S b2 e2 kd2 k2 2 b1 :=
  ⟨fun z => absurd z (by decide), fun _ F Z y => h.1 hb F Z (EV_not6 rfl hq hk y)⟩
/-- the level of nots, of what is behind them -/
theorem lv_nots {B : Int → Int} {n w b e kd b1 e1 kd1 k bad pl b3 e3 kd3 bad1 pl1 : Int} {S : List Int} (h : ln_R B n w b e kd S b1 e1 kd1 k bad pl) (hS : rk (tp S) < 3) (hb : bad = 0) (h2 : (bad1 = 0 → ∃ T, cl T 3 = cl (nt k.toNat S) 3 ∧ rx 3 B b3 e3 kd3 T ∧ ∀ F Z, EV B n b3 e3 kd3 0 w T 1 0 F Z → EV B n b1 e1 kd1 1 w (nt k.toNat S) 1 k F Z) ∧ (bad1 ≠ 0 → ∀ F Z : Int → Int → Prop, F bad1 pl1 → EV B n b1 e1 kd1 1 w (nt k.toNat S) 1 k F Z)) : lv_R B n 3 3 w b e kd S 1 0 b3 e3 kd3 bad1 pl1 := by
  refine ⟨fun z => ?_, fun z F Z y => h.1 hb F Z (h2.2 z F Z y)⟩
  obtain ⟨T, j1, j2, j3⟩ := h2.1 z
  exact ⟨T, by rw [j1, nt_cl _ hS], j2, fun F Z y => h.1 hb F Z (j3 F Z y)⟩
theorem lv_nbad {B : Int → Int} {n p p1 w b e kd b1 e1 kd1 k bad pl b3 e3 kd3 : Int} {S : List Int} (h : ln_R B n w b e kd S b1 e1 kd1 k bad pl) (hb : bad ≠ 0) : lv_R B n p p1 w b e kd S 1 0 b3 e3 kd3 bad pl := lv_bad hb (h.2 hb)
/-- behind an expression no sign goes on -/
theorem rx_no {B : Int → Int} {b e kd sg : Int} {T : List Int} (h : rx 1 B b e kd T) (hs : tk_so B kd b e sg) : rk sg = 0 ∨ (rk sg = 4 ∧ rk (tp (cl T 5)) = 4) := by
  obtain ⟨x1, x2, x3, x4, x5⟩ := h
  have x1 := x1 (by decide)
  have x2 := x2 (by decide)
  have x3 := x3 (by decide)
  have x4 := x4 (by decide)
  have x5 := x5 (by decide)
  obtain ⟨a1, a2, a3, a4, a5, a6, a7⟩ := hs
  by_cases z1 : kd = 60
  · rw [a1 z1]
    exact Or.inr ⟨rfl, x3 (Or.inl z1)⟩
  by_cases z2 : kd = 61
  · rw [a2 z2]
    exact Or.inr ⟨rfl, x3 (Or.inr z2)⟩
  · rw [(a7 z1 z2 x2.1 x2.2 x1.1 x1.2).2.2 x5 x4]
    exact Or.inl rfl
/-- a parenthesis -/
theorem lv_paren {B : Int → Int} {n w b e kd nc k b1 e1 kd1 nu b2 e2 kd2 bad pl b3 e3 kd3 nu3 : Int} {S : List Int} (hk : kd = 40) (hw : w < 6) (h0 : 0 ≤ w) (ht : tk_tok B n e b1 e1 kd1 nu) (h : lv_R B n 1 1 (w + 1) b1 e1 kd1 (-20 :: S) 1 0 b2 e2 kd2 bad pl) (hb : bad = 0) (h41 : kd2 = 41) (ht3 : tk_tok B n e2 b3 e3 kd3 nu3) {bad1 pl1 : Int} (hb1 : bad1 = 0) : lv_R B n 7 7 w b e kd S nc k b3 e3 kd3 bad1 pl1 := by
  obtain ⟨T, i1, i2, i3⟩ := h.1 hb
  refine ⟨fun _ => ⟨S, cl_7 S, ⟨fun y => absurd y (by decide), fun y => absurd y (by decide), fun y => absurd y (by decide), fun y => absurd y (by decide), fun y => absurd y (by decide)⟩, fun F Z y => EV_open hk hw ht (i3 F Z (EV_par h41 (by omega) ht3 ?_))⟩, fun z => absurd hb1 z⟩
  rw [i1, show w + 1 - 1 = w by omega]
  exact y
theorem lv_paren1 {B : Int → Int} {n p p1 w b e kd nc k b1 e1 kd1 nu b2 e2 kd2 bad pl b3 e3 kd3 : Int} {S : List Int} (hk : kd = 40) (hw : w < 6) (h0 : 0 ≤ w) (ht : tk_tok B n e b1 e1 kd1 nu) (h : lv_R B n 1 1 (w + 1) b1 e1 kd1 (-20 :: S) 1 0 b2 e2 kd2 bad pl) (hb : bad = 0) (h41 : kd2 ≠ 41) : lv_R B n p p1 w b e kd S nc k b3 e3 kd3 1 b2 := by
  obtain ⟨T, i1, i2, i3⟩ := h.1 hb
  exact lv_bad (by decide) (fun F Z y => EV_open hk hw ht (i3 F Z (EV_no (fun z => h41 z.1) (fun z => by omega) (fun sg hs => rx_no i2 hs) y)))
theorem lv_paren2 {B : Int → Int} {n p p1 w b e kd nc k b1 e1 kd1 nu b2 e2 kd2 bad pl b3 e3 kd3 : Int} {S : List Int} (hk : kd = 40) (hw : w < 6) (ht : tk_tok B n e b1 e1 kd1 nu) (h : lv_R B n 1 1 (w + 1) b1 e1 kd1 (-20 :: S) 1 0 b2 e2 kd2 bad pl) (hb : bad ≠ 0) : lv_R B n p p1 w b e kd S nc k b3 e3 kd3 bad pl := lv_bad hb (fun F Z y => EV_open hk hw ht (h.2 hb F Z y))
/-- a value -/
theorem lv_val {B : Int → Int} {n w b e kd nc k b1 e1 kd1 nu bad pl : Int} {S : List Int} (hw : w < 6) (hk : (kd = 2 ∧ e - b ≤ 4) ∨ (kd = 1 ∧ tk_val B kd b e)) (hn : ¬ (nc = 1 ∧ tk_sp B kd b e 5)) (ht : tk_tok B n e b1 e1 kd1 nu) (hb : bad = 0) : lv_R B n 7 7 w b e kd S nc k b1 e1 kd1 bad pl :=
  ⟨fun _ => ⟨S, cl_7 S, ⟨fun y => absurd y (by decide), fun y => absurd y (by decide), fun y => absurd y (by decide), fun y => absurd y (by decide), fun y => absurd y (by decide)⟩, fun F Z y => EV_val hw hk hn ht (EV_nc y)⟩, fun z => absurd hb z⟩
/-- a rule as a whole, of both: one fault, or one end -/
theorem lv_end {B : Int → Int} {n b e kd b1 e1 kd1 bad pl : Int} (h : lv_R B n 1 1 0 b e kd [] 1 0 b1 e1 kd1 bad pl) : (bad ≠ 0 → EV B n b e kd 1 0 [] 1 0 (fun x y => x = bad ∧ y = pl) (fun _ _ => False)) ∧ (bad = 0 → kd1 = 59 → EV B n b e kd 1 0 [] 1 0 (fun _ _ => False) (fun x y => x = b1 ∧ y = e1)) ∧ (bad = 0 → kd1 ≠ 59 → EV B n b e kd 1 0 [] 1 0 (fun x y => x = 1 ∧ y = b1) (fun _ _ => False)) := by
  refine ⟨fun z => h.2 z _ _ ⟨rfl, rfl⟩, fun z y => ?_, fun z y => ?_⟩
  · obtain ⟨T, i1, i2, i3⟩ := h.1 z
    exact i3 _ _ (EV_z rfl rfl y ⟨rfl, rfl⟩)
  · obtain ⟨T, i1, i2, i3⟩ := h.1 z
    exact i3 _ _ (EV_no (fun u => by omega) (fun u => y u.2) (fun sg hs => rx_no i2 hs) ⟨rfl, rfl⟩)
