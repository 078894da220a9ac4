/-! THE CLASS'S STACK of signs, as a list (its top first) -/
def rk (a : Int) : Int := if a = -11 then 1 else if a = -12 then 2 else if a = -13 then 3 else if a = -14 ∨ a = -15 then 4 else if a = -16 ∨ a = -17 then 5 else if a = -18 ∨ a = -19 then 6 else 0
def tp (S : List Int) : Int := match S with
  | [] => 0
  | a :: _ => a
def cl : List Int → Int → List Int
  | [], _ => []
  | a :: S, r => if r ≤ rk a then cl S r else a :: S
def sk_at : List Int → Nat → Int
  | [], _ => 0
  | a :: S, n => if n = S.length then a else sk_at S n
/-- the list S lies in the row 84, its count in the reader -/
def st_k (g : mz_G) (S : List Int) : Prop := g 81 4 = (S.length : Int) ∧ S.length ≤ 84 ∧ ∀ n : Nat, n < S.length → g 84 n = sk_at S n
theorem st_k_top {g : mz_G} {a : Int} {S : List Int} (h : st_k g (a :: S)) : g 84 S.length = a := by
  rw [h.2.2 S.length (by simp)]
  simp [sk_at]
theorem st_k_pop {g g1 : mz_G} {a : Int} {S : List Int} (h : st_k g (a :: S)) (e : g1 81 4 = g 81 4 - 1) (f : ∀ j : Nat, g1 84 j = g 84 j) : st_k g1 S := by
  obtain ⟨h1, h2, h3⟩ := h
  simp only [List.length_cons] at h1 h2 h3
  refine ⟨by omega, by omega, fun n hn => ?_⟩
  rw [f, h3 n (by omega)]
  simp only [sk_at]
  rw [if_neg (by omega)]
theorem st_k_push {g g1 : mz_G} {a : Int} {S : List Int} (h : st_k g S) (hl : S.length < 84) (e : g1 81 4 = g 81 4 + 1) (e1 : g1 84 S.length = a) (f : ∀ j : Nat, j ≠ S.length → g1 84 j = g 84 j) : st_k g1 (a :: S) := by
  obtain ⟨h1, h2, h3⟩ := h
  refine ⟨by simp only [List.length_cons]; omega, by simp only [List.length_cons]; omega, fun n hn => ?_⟩
  simp only [List.length_cons] at hn
  simp only [sk_at]
  by_cases hz : n = S.length
  · rw [if_pos hz, hz, e1]
  · rw [if_neg hz, f n hz, h3 n (by omega)]
theorem st_k_fr {g g1 : mz_G} {S : List Int} (h : st_k g S) (e : g1 81 4 = g 81 4) (f : ∀ j : Nat, g1 84 j = g 84 j) : st_k g1 S := ⟨e.trans h.1, h.2.1, fun n hn => (f n).trans (h.2.2 n hn)⟩
/-- a stack on the way of a closing -/
def st_c (g : mz_G) (S : List Int) (r : Int) : Prop := ∃ T : List Int, st_k g T ∧ cl T r = cl S r
theorem st_c_0 {g : mz_G} {S : List Int} {r : Int} (h : st_k g S) : st_c g S r := ⟨S, h, rfl⟩
theorem st_k_b {g : mz_G} {S : List Int} (h : st_k g S) : 0 ≤ g 81 4 ∧ g 81 4 ≤ 84 := ⟨by have h1 := h.1; omega, by have h1 := h.1; have h2 := h.2.1; omega⟩
theorem st_c_pop {g g1 : mz_G} {S T : List Int} {r : Int} (h1 : st_k g T) (h2 : cl T r = cl S r) (hr : r ≤ rk (tp T)) (hc : 0 < g 81 4) (e : g1 81 4 = g 81 4 - 1) (f : ∀ j : Nat, g1 84 j = g 84 j) : st_c g1 S r := by
  cases T with
  | nil =>
    exfalso
    have h := h1.1
    simp only [List.length_nil] at h
    omega
  | cons a T1 =>
    refine ⟨T1, st_k_pop h1 e f, ?_⟩
    rw [← h2]
    exact (if_pos hr).symm
theorem st_c_end {g : mz_G} {S T : List Int} {r : Int} (h1 : st_k g T) (h2 : cl T r = cl S r) (h : g 81 4 ≤ 0 ∨ rk (tp T) < r) : st_k g (cl S r) := by
  rw [← h2]
  cases T with
  | nil => exact h1
  | cons a T1 =>
    have hn : ¬ r ≤ rk a := by
      rcases h with h | h
      · exfalso
        have h3 := h1.1
        simp only [List.length_cons] at h3
        omega
      · have h3 : rk a < r := h
        omega
    have e : cl (a :: T1) r = a :: T1 := if_neg hn
    rw [e]
    exact h1
/-! A STEP of the class's reading of a rule, as what it does to the stack (a fault's kind and place | part due, within, the stack, may a not stand, nots) -/
def tk_val (B : Int → Int) (kd b e : Int) : Prop := tk_sp B kd b e 6 ∨ tk_sp B kd b e 3 ∨ tk_sp B kd b e 7 ∨ tk_sp B kd b e 8 ∨ tk_sp B kd b e 9 ∨ tk_sp B kd b e 10 ∨ tk_sp B kd b e 11
def tk_so (B : Int → Int) (kd b e r : Int) : Prop := (kd = 60 → r = -14) ∧ (kd = 61 → r = -15) ∧ (kd = 43 → r = -16) ∧ (kd = 45 → r = -17) ∧ (kd = 42 → r = -18) ∧ (kd = 47 → r = -19) ∧ (kd ≠ 60 → kd ≠ 61 → kd ≠ 43 → kd ≠ 45 → kd ≠ 42 → kd ≠ 47 → (tk_sp B kd b e 12 → r = -11) ∧ (¬ tk_sp B kd b e 12 → tk_sp B kd b e 13 → r = -12) ∧ (¬ tk_sp B kd b e 12 → ¬ tk_sp B kd b e 13 → r = 0))
theorem cl_len : ∀ (S : List Int) (r : Int), (cl S r).length ≤ S.length
  | [], _ => Nat.le_refl _
  | a :: S, r => by
    unfold cl
    split
    · exact Nat.le_trans (cl_len S r) (Nat.le_succ _)
    · exact Nat.le_refl _
theorem st_k_tail {g g1 : mz_G} {T : List Int} (h : st_k g T) (hne : T ≠ []) (e : g1 81 4 = g 81 4 - 1) (f : ∀ j : Nat, g1 84 j = g 84 j) : st_k g1 T.tail := by
  cases T with
  | nil => exact absurd rfl hne
  | cons a T => exact st_k_pop h e f
theorem tk_so_u {B : Int → Int} {kd b e r s : Int} (h1 : tk_so B kd b e r) (h2 : tk_so B kd b e s) : r = s := by
  obtain ⟨a1, a2, a3, a4, a5, a6, a7⟩ := h1
  obtain ⟨c1, c2, c3, c4, c5, c6, c7⟩ := h2
  by_cases z1 : kd = 60
  · rw [a1 z1, c1 z1]
  · by_cases z2 : kd = 61
    · rw [a2 z2, c2 z2]
    · by_cases z3 : kd = 43
      · rw [a3 z3, c3 z3]
      · by_cases z4 : kd = 45
        · rw [a4 z4, c4 z4]
        · by_cases z5 : kd = 42
          · rw [a5 z5, c5 z5]
          · by_cases z6 : kd = 47
            · rw [a6 z6, c6 z6]
            · have u := a7 z1 z2 z3 z4 z5 z6
              have v := c7 z1 z2 z3 z4 z5 z6
              by_cases y1 : tk_sp B kd b e 12
              · rw [u.1 y1, v.1 y1]
              · by_cases y2 : tk_sp B kd b e 13
                · rw [u.2.1 y1 y2, v.2.1 y1 y2]
                · rw [u.2.2 y1 y2, v.2.2 y1 y2]
/-! what a stack looks like on the way -/
def nn : List Int → Int
  | [] => 0
  | a :: S => if a = -13 then nn S + 1 else 0
def sh : List Int → Int → Prop
  | [], w => w = 0
  | a :: S, w => (a = -20 → 0 < w ∧ sh S (w - 1)) ∧ (a ≠ -20 → 0 < rk a ∧ sh S w ∧ (rk (tp S) < rk a ∨ (a = -13 ∧ tp S = -13)) ∧ (a = -13 → nn S + 1 ≤ 6))
theorem rk_b (a : Int) : 0 ≤ rk a ∧ rk a ≤ 6 ∧ (rk a = 3 ↔ a = -13) := by
  unfold rk
  refine ⟨?_, ?_, ?_⟩
  · repeat' split
    all_goals omega
  · repeat' split
    all_goals omega
  · repeat' split
    all_goals omega
theorem rk_20 : rk (-20) = 0 := rfl
theorem nn_0 {S : List Int} (h : tp S ≠ -13) : nn S = 0 := by
  cases S with
  | nil => rfl
  | cons a T => exact if_neg h
theorem nn_b : ∀ (S : List Int), 0 ≤ nn S
  | [] => Int.le_refl _
  | a :: S => by
    have := nn_b S
    simp only [nn]
    split <;> omega
theorem sh_nn {S : List Int} {w : Int} (h : sh S w) : nn S ≤ 6 := by
  cases S with
  | nil => exact (by decide)
  | cons a T =>
    by_cases z : a = -13
    · have := (h.2 (by omega)).2.2.2 z
      simp only [nn]
      rw [if_pos z]
      exact this
    · simp only [nn]
      rw [if_neg z]
      decide
def ql (r n : Int) : Int := if r = 0 then 0 else if r = 1 then 1 else if r = 2 then 2 else if r = 3 then 2 + n else if r = 4 then 9 else if r = 5 then 10 else 11
theorem ql_b {r n : Int} (h0 : 0 ≤ n) (h : n ≤ 6) : 0 ≤ ql r n ∧ ql r n ≤ 11 := by
  unfold ql
  repeat' split
  all_goals omega
theorem ql_lt {r s n m : Int} (h0 : 0 ≤ n) (h : n ≤ 6) (hm : 0 ≤ m) (h1 : 0 ≤ r) (h2 : r < s) (h3 : s ≤ 6) (h4 : s = 3 → m = n + 1) : ql r n + 1 ≤ ql s m := by
  unfold ql
  repeat' split
  all_goals omega
theorem sh_len : ∀ (S : List Int) (w : Int), sh S w → 0 ≤ w ∧ (S.length : Int) ≤ 12 * w + ql (rk (tp S)) (nn S)
  | [], w, h => by
    have h : w = 0 := h
    refine ⟨by omega, ?_⟩
    rw [h]
    exact (by decide)
  | a :: S, w, h => by
    by_cases z : a = -20
    · obtain ⟨h1, h2⟩ := h.1 z
      obtain ⟨i1, i2⟩ := sh_len S _ h2
      have i3 := ql_b (r := rk (tp S)) (nn_b S) (sh_nn h2)
      have i4 := ql_b (r := rk (tp (a :: S))) (nn_b (a :: S)) (sh_nn (S := a :: S) (w := w) h)
      refine ⟨by omega, ?_⟩
      simp only [List.length_cons]
      omega
    · obtain ⟨h1, h2, h3, h4⟩ := h.2 z
      obtain ⟨i1, i2⟩ := sh_len S _ h2
      refine ⟨i1, ?_⟩
      have hb := rk_b a
      have hs := rk_b (tp S)
      have hn := nn_b S
      have hn6 := sh_nn h2
      have e : tp (a :: S) = a := rfl
      have hm : a = -13 → nn (a :: S) = nn S + 1 := fun y => if_pos y
      have hq : ql (rk (tp S)) (nn S) + 1 ≤ ql (rk (tp (a :: S))) (nn (a :: S)) := by
        rw [e]
        rcases h3 with h3 | ⟨h3, h5⟩
        · exact ql_lt hn hn6 (nn_b _) hs.1 h3 hb.2.1 (fun y => hm (hb.2.2.mp y))
        · rw [hm h3, h5, h3, show rk (-13) = 3 from rfl]
          show (2 : Int) + nn S + 1 ≤ 2 + (nn S + 1)
          omega
      simp only [List.length_cons]
      omega
theorem sh_l84 {S : List Int} {w : Int} (h : sh S w) (hw : w ≤ 6) : S.length < 84 := by
  have h1 := sh_len S w h
  have h2 := ql_b (r := rk (tp S)) (nn_b S) (sh_nn h)
  omega
theorem sh_cl : ∀ (S : List Int) (w r : Int), 1 ≤ r → sh S w → sh (cl S r) w ∧ rk (tp (cl S r)) < r
  | [], w, r, hr, h => ⟨h, by show rk 0 < r; exact (by show (0 : Int) < r; omega)⟩
  | a :: S, w, r, hr, h => by
    by_cases z : r ≤ rk a
    · have e : cl (a :: S) r = cl S r := if_pos z
      rw [e]
      have y : a ≠ -20 := fun y => by
        rw [y, rk_20] at z
        omega
      exact sh_cl S w r hr (h.2 y).2.1
    · have e : cl (a :: S) r = a :: S := if_neg z
      rw [e]
      exact ⟨h, by show rk a < r; omega⟩
theorem sh_ne {S : List Int} {w : Int} (h : sh S w) (hw : 0 < w) : S ≠ [] := fun y => by
  rw [y] at h
  have h : w = 0 := h
  omega
theorem sh_tail {S : List Int} {w : Int} (h : sh S w) (hw : 0 < w) (hr : rk (tp S) < 1) : sh S.tail (w - 1) := by
  cases S with
  | nil => exact absurd (show w = 0 from h) (by omega)
  | cons a T =>
    have hr : rk a < 1 := hr
    by_cases z : a = -20
    · exact (h.1 z).2
    · have := (h.2 z).1
      omega
theorem tk_so_ex (B : Int → Int) (kd b e : Int) : ∃ r, tk_so B kd b e r := by
  unfold tk_so
  by_cases z1 : kd = 60
  · exact ⟨-14, by omega, by omega, by omega, by omega, by omega, by omega, fun h => absurd z1 h⟩
  by_cases z2 : kd = 61
  · exact ⟨-15, by omega, by omega, by omega, by omega, by omega, by omega, fun _ h => absurd z2 h⟩
  by_cases z3 : kd = 43
  · exact ⟨-16, by omega, by omega, by omega, by omega, by omega, by omega, fun _ _ h => absurd z3 h⟩
  by_cases z4 : kd = 45
  · exact ⟨-17, by omega, by omega, by omega, by omega, by omega, by omega, fun _ _ _ h => absurd z4 h⟩
  by_cases z5 : kd = 42
  · exact ⟨-18, by omega, by omega, by omega, by omega, by omega, by omega, fun _ _ _ _ h => absurd z5 h⟩
  by_cases z6 : kd = 47
  · exact ⟨-19, by omega, by omega, by omega, by omega, by omega, by omega, fun _ _ _ _ _ h => absurd z6 h⟩
  by_cases y1 : tk_sp B kd b e 12
  · exact ⟨-11, by omega, by omega, by omega, by omega, by omega, by omega, fun _ _ _ _ _ _ => ⟨fun _ => rfl, fun h => absurd y1 h, fun h => absurd y1 h⟩⟩
  by_cases y2 : tk_sp B kd b e 13
  · exact ⟨-12, by omega, by omega, by omega, by omega, by omega, by omega, fun _ _ _ _ _ _ => ⟨fun h => absurd h y1, fun _ _ => rfl, fun _ h => absurd y2 h⟩⟩
  · exact ⟨0, by omega, by omega, by omega, by omega, by omega, by omega, fun _ _ _ _ _ _ => ⟨fun h => absurd h y1, fun _ h => absurd h y2, fun _ _ => rfl⟩⟩
theorem tk_so_b {B : Int → Int} {kd b e r : Int} (h : tk_so B kd b e r) : (rk r ≠ 0 → kd ≠ 0) ∧ r ≠ -13 ∧ r ≠ -20 := by
  obtain ⟨s, hs⟩ := tk_so_ex B kd b e
  obtain ⟨a1, a2, a3, a4, a5, a6, a7⟩ := h
  by_cases z1 : kd = 60
  · have := a1 z1; omega
  by_cases z2 : kd = 61
  · have := a2 z2; omega
  by_cases z3 : kd = 43
  · have := a3 z3; omega
  by_cases z4 : kd = 45
  · have := a4 z4; omega
  by_cases z5 : kd = 42
  · have := a5 z5; omega
  by_cases z6 : kd = 47
  · have := a6 z6; omega
  have u := a7 z1 z2 z3 z4 z5 z6
  by_cases y1 : tk_sp B kd b e 12
  · have := u.1 y1; have := y1.1; omega
  by_cases y2 : tk_sp B kd b e 13
  · have := u.2.1 y1 y2; have := y2.1; omega
  · have := u.2.2 y1 y2
    rw [this]
    exact ⟨fun h => absurd rfl h, by omega, by omega⟩
/-- what stands of a config on the way -/
def okc (d w : Int) (S : List Int) (nc k : Int) : Prop := (d = 0 ∨ d = 1) ∧ 0 ≤ w ∧ w ≤ 6 ∧ sh S w ∧ (d = 1 → nc = 1 → k = nn S ∧ rk (tp S) ≤ 3)
theorem okc_0 : okc 1 0 [] 1 0 := ⟨Or.inr rfl, by omega, by omega, rfl, fun _ _ => ⟨rfl, by decide⟩⟩
/-! THE SAME WORD by two constants; the reference's kinds of tokens -/
theorem tk_sp_c {B : Int → Int} {kd b e : Int} {q r : Nat} (hl : mz_sl r = mz_sl q) (hs : ∀ i : Nat, i < mz_sl q → mz_sy r i = mz_sy q i) : tk_sp B kd b e q ↔ tk_sp B kd b e r := by
  unfold tk_sp tk_ma
  rw [hl]
  refine ⟨fun h => ⟨h.1, h.2.1, fun i hi => ?_⟩, fun h => ⟨h.1, h.2.1, fun i hi => ?_⟩⟩
  · rw [hs i (by omega)]; exact h.2.2 i hi
  · rw [← hs i (by omega)]; exact h.2.2 i hi
theorem sp_not {B : Int → Int} {kd b e : Int} : tk_sp B kd b e 5 ↔ tk_sp B kd b e 24 := tk_sp_c (by decide +kernel) (by decide +kernel)
theorem sp_and {B : Int → Int} {kd b e : Int} : tk_sp B kd b e 13 ↔ tk_sp B kd b e 25 := tk_sp_c (by decide +kernel) (by decide +kernel)
theorem sp_or {B : Int → Int} {kd b e : Int} : tk_sp B kd b e 12 ↔ tk_sp B kd b e 26 := tk_sp_c (by decide +kernel) (by decide +kernel)
theorem sp_word {B : Int → Int} {kd b e : Int} : tk_sp B kd b e 0 ↔ tk_sp B kd b e 27 := tk_sp_c (by decide +kernel) (by decide +kernel)
theorem sp_trunk {B : Int → Int} {kd b e : Int} : tk_sp B kd b e 1 ↔ tk_sp B kd b e 14 := tk_sp_c (by decide +kernel) (by decide +kernel)
theorem sp_treaty {B : Int → Int} {kd b e : Int} : tk_sp B kd b e 2 ↔ tk_sp B kd b e 15 := tk_sp_c (by decide +kernel) (by decide +kernel)
theorem sp_heat {B : Int → Int} {kd b e : Int} : tk_sp B kd b e 3 ↔ tk_sp B kd b e 17 := tk_sp_c (by decide +kernel) (by decide +kernel)
theorem sp_grows {B : Int → Int} {kd b e : Int} : tk_sp B kd b e 4 ↔ tk_sp B kd b e 23 := tk_sp_c (by decide +kernel) (by decide +kernel)
theorem sp_strap {B : Int → Int} {kd b e : Int} : tk_sp B kd b e 6 ↔ tk_sp B kd b e 16 := tk_sp_c (by decide +kernel) (by decide +kernel)
theorem sp_grown {B : Int → Int} {kd b e : Int} : tk_sp B kd b e 7 ↔ tk_sp B kd b e 18 := tk_sp_c (by decide +kernel) (by decide +kernel)
theorem sp_said {B : Int → Int} {kd b e : Int} : tk_sp B kd b e 8 ↔ tk_sp B kd b e 19 := tk_sp_c (by decide +kernel) (by decide +kernel)
theorem sp_meant {B : Int → Int} {kd b e : Int} : tk_sp B kd b e 9 ↔ tk_sp B kd b e 20 := tk_sp_c (by decide +kernel) (by decide +kernel)
theorem sp_overlap {B : Int → Int} {kd b e : Int} : tk_sp B kd b e 10 ↔ tk_sp B kd b e 21 := tk_sp_c (by decide +kernel) (by decide +kernel)
theorem sp_day {B : Int → Int} {kd b e : Int} : tk_sp B kd b e 11 ↔ tk_sp B kd b e 22 := tk_sp_c (by decide +kernel) (by decide +kernel)
theorem tk_val_i {B : Int → Int} {kd b e : Int} {j : Nat} (hj : j < 7) (h : tk_sp B kd b e (sa_i 139 + j)) : tk_val B kd b e := by
  unfold tk_val
  have e0 : sa_i 139 = 16 := rfl
  rw [e0] at h
  have hm : j = 0 ∨ j = 1 ∨ j = 2 ∨ j = 3 ∨ j = 4 ∨ j = 5 ∨ j = 6 := by omega
  rcases hm with rfl | rfl | rfl | rfl | rfl | rfl | rfl
  · exact Or.inl (sp_strap.mpr h)
  · exact Or.inr (Or.inl (sp_heat.mpr h))
  · exact Or.inr (Or.inr (Or.inl (sp_grown.mpr h)))
  · exact Or.inr (Or.inr (Or.inr (Or.inl (sp_said.mpr h))))
  · exact Or.inr (Or.inr (Or.inr (Or.inr (Or.inl (sp_meant.mpr h)))))
  · exact Or.inr (Or.inr (Or.inr (Or.inr (Or.inr (Or.inl (sp_overlap.mpr h))))))
  · exact Or.inr (Or.inr (Or.inr (Or.inr (Or.inr (Or.inr (sp_day.mpr h))))))
theorem tk_val_n {B : Int → Int} {kd b e : Int} (h : ∀ j : Nat, j < 7 → ¬ tk_sp B kd b e (sa_i 139 + j)) : ¬ tk_val B kd b e := fun z => by
  rcases z with z | z | z | z | z | z | z
  · exact h 0 (by decide) (sp_strap.mp z)
  · exact h 1 (by decide) (sp_heat.mp z)
  · exact h 2 (by decide) (sp_grown.mp z)
  · exact h 3 (by decide) (sp_said.mp z)
  · exact h 4 (by decide) (sp_meant.mp z)
  · exact h 5 (by decide) (sp_overlap.mp z)
  · exact h 6 (by decide) (sp_day.mp z)
/-- kinds: the class's of the reference's token -/
theorem rq_k {g : mz_G} (h : rq_t g) (h0 : 0 ≤ g 137 18) (h4 : g 137 18 ≤ 4) : (tk_rk (g 137 18) (mz_rb g (g 137 20)) = 1 ↔ g 137 18 = 1) ∧ (tk_rk (g 137 18) (mz_rb g (g 137 20)) = 2 ↔ g 137 18 = 2) ∧ ∀ c, tk_sgn c → (tk_rk (g 137 18) (mz_rb g (g 137 20)) = c ↔ (g 137 18 = 3 ∧ mz_rb g (g 137 20) = c)) := by
  obtain ⟨p, a1, a2, a3, a4, a5⟩ := h
  generalize hc : mz_rb g (g 137 20) = c0 at *
  by_cases z : g 137 18 = 3
  · have e : tk_rk (g 137 18) c0 = c0 := if_pos z
    rw [e] at a2 a3 a4 a5 ⊢
    have hne : c0 ≠ 1 ∧ c0 ≠ 2 := by
      have hb := a1.2.1
      by_cases y : g 137 20 = g 137 17
      · have := a2 y; omega
      · have y : g 137 20 < g 137 17 := by omega
        by_cases y1 : tk_let c0
        · have u := (a3 y y1).1
          unfold tk_let at y1
          omega
        · by_cases y2 : tk_dig c0
          · have u := (a4 y y2).1
            unfold tk_dig at y2
            omega
          · have u := a5 y y1 y2
            by_cases y3 : tk_sgn c0
            · unfold tk_sgn at y3
              omega
            · have v := u.2.2 y3
              omega
    refine ⟨by omega, by omega, fun c hcs => ?_⟩
    constructor
    · intro w; exact ⟨z, w⟩
    · intro w; exact w.2
  · by_cases z4 : g 137 18 = 4
    · have e : tk_rk (g 137 18) c0 = 3 := (if_neg z).trans (if_pos z4)
      rw [e]
      refine ⟨by omega, by omega, fun c hcs => ?_⟩
      unfold tk_sgn at hcs
      omega
    · have e : tk_rk (g 137 18) c0 = g 137 18 := (if_neg z).trans (if_neg z4)
      rw [e]
      refine ⟨by omega, by omega, fun c hcs => ?_⟩
      unfold tk_sgn at hcs
      omega
