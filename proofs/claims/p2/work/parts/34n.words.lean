/-! THE SAME WORD by two constants; the reference's kinds of tokens -/
theorem tk_sp_c {B : Int → Int} {kd b e : Int} {q r : Nat} (hl : mz_sl r = mz_sl q) (hs : ∀ i : Nat, i < mz_sl q → mz_sy r i = mz_sy q i) : tk_sp B kd b e q ↔ tk_sp B kd b e r := by
  unfold tk_sp tk_ma
  rw [hl]
  refine ⟨fun h => ⟨h.1, h.2.1, fun i hi => ?_⟩, fun h => ⟨h.1, h.2.1, fun i hi => ?_⟩⟩
  · rw [hs i (by omega)]; exact h.2.2 i hi
  · rw [← hs i (by omega)]; exact h.2.2 i hi
theorem sp_not {B : Int → Int} {kd b e : Int} : tk_sp B kd b e 5 ↔ tk_sp B kd b e 24 := tk_sp_c (by decide +kernel) (by decide +kernel)
theorem sp_and {B : Int → Int} {kd b e : Int} : tk_sp B kd b e 13 ↔ tk_sp B kd b e 25 := tk_sp_c (by decide +kernel) (by decide +kernel)
theorem sp_or {B : Int → Int} {kd b e : Int} : tk_sp B kd b e 12 ↔ tk_sp B kd b e 26 := tk_sp_c (by decide +kernel) (by decide +kernel)
theorem sp_word {B : Int → Int} {kd b e : Int} : tk_sp B kd b e 0 ↔ tk_sp B kd b e 27 := tk_sp_c (by decide +kernel) (by decide +kernel)
theorem sp_trunk {B : Int → Int} {kd b e : Int} : tk_sp B kd b e 1 ↔ tk_sp B kd b e 14 := tk_sp_c (by decide +kernel) (by decide +kernel)
theorem sp_treaty {B : Int → Int} {kd b e : Int} : tk_sp B kd b e 2 ↔ tk_sp B kd b e 15 := tk_sp_c (by decide +kernel) (by decide +kernel)
theorem sp_heat {B : Int → Int} {kd b e : Int} : tk_sp B kd b e 3 ↔ tk_sp B kd b e 17 := tk_sp_c (by decide +kernel) (by decide +kernel)
theorem sp_grows {B : Int → Int} {kd b e : Int} : tk_sp B kd b e 4 ↔ tk_sp B kd b e 23 := tk_sp_c (by decide +kernel) (by decide +kernel)
theorem sp_strap {B : Int → Int} {kd b e : Int} : tk_sp B kd b e 6 ↔ tk_sp B kd b e 16 := tk_sp_c (by decide +kernel) (by decide +kernel)
theorem sp_grown {B : Int → Int} {kd b e : Int} : tk_sp B kd b e 7 ↔ tk_sp B kd b e 18 := tk_sp_c (by decide +kernel) (by decide +kernel)
theorem sp_said {B : Int → Int} {kd b e : Int} : tk_sp B kd b e 8 ↔ tk_sp B kd b e 19 := tk_sp_c (by decide +kernel) (by decide +kernel)
theorem sp_meant {B : Int → Int} {kd b e : Int} : tk_sp B kd b e 9 ↔ tk_sp B kd b e 20 := tk_sp_c (by decide +kernel) (by decide +kernel)
theorem sp_overlap {B : Int → Int} {kd b e : Int} : tk_sp B kd b e 10 ↔ tk_sp B kd b e 21 := tk_sp_c (by decide +kernel) (by decide +kernel)
theorem sp_day {B : Int → Int} {kd b e : Int} : tk_sp B kd b e 11 ↔ tk_sp B kd b e 22 := tk_sp_c (by decide +kernel) (by decide +kernel)
theorem tk_val_i {B : Int → Int} {kd b e : Int} {j : Nat} (hj : j < 7) (h : tk_sp B kd b e (sa_i 139 + j)) : tk_val B kd b e := by
  unfold tk_val
  have e0 : sa_i 139 = 16 := rfl
  rw [e0] at h
  have hm : j = 0 ∨ j = 1 ∨ j = 2 ∨ j = 3 ∨ j = 4 ∨ j = 5 ∨ j = 6 := by omega
  rcases hm with rfl | rfl | rfl | rfl | rfl | rfl | rfl
  · exact Or.inl (sp_strap.mpr h)
  · exact Or.inr (Or.inl (sp_heat.mpr h))
  · exact Or.inr (Or.inr (Or.inl (sp_grown.mpr h)))
  · exact Or.inr (Or.inr (Or.inr (Or.inl (sp_said.mpr h))))
  · exact Or.inr (Or.inr (Or.inr (Or.inr (Or.inl (sp_meant.mpr h)))))
  · exact Or.inr (Or.inr (Or.inr (Or.inr (Or.inr (Or.inl (sp_overlap.mpr h))))))
  · exact Or.inr (Or.inr (Or.inr (Or.inr (Or.inr (Or.inr (sp_day.mpr h))))))
theorem tk_val_n {B : Int → Int} {kd b e : Int} (h : ∀ j : Nat, j < 7 → ¬ tk_sp B kd b e (sa_i 139 + j)) : ¬ tk_val B kd b e := fun z => by
  rcases z with z | z | z | z | z | z | z
  · exact h 0 (by decide) (sp_strap.mp z)
  · exact h 1 (by decide) (sp_heat.mp z)
  · exact h 2 (by decide) (sp_grown.mp z)
  · exact h 3 (by decide) (sp_said.mp z)
  · exact h 4 (by decide) (sp_meant.mp z)
  · exact h 5 (by decide) (sp_overlap.mp z)
  · exact h 6 (by decide) (sp_day.mp z)
/-- kinds: the class's of the reference's token -/
theorem rq_k {g : mz_G} (h : rq_t g) (h0 : 0 ≤ g 137 18) (h4 : g 137 18 ≤ 4) : (tk_rk (g 137 18) (mz_rb g (g 137 20)) = 1 ↔ g 137 18 = 1) ∧ (tk_rk (g 137 18) (mz_rb g (g 137 20)) = 2 ↔ g 137 18 = 2) ∧ ∀ c, tk_sgn c → (tk_rk (g 137 18) (mz_rb g (g 137 20)) = c ↔ (g 137 18 = 3 ∧ mz_rb g (g 137 20) = c)) := by
  obtain ⟨p, a1, a2, a3, a4, a5⟩ := h
  generalize hc : mz_rb g (g 137 20) = c0 at *
  by_cases z : g 137 18 = 3
  · have e : tk_rk (g 137 18) c0 = c0 := if_pos z
    rw [e] at a2 a3 a4 a5 ⊢
    have hne : c0 ≠ 1 ∧ c0 ≠ 2 := by
      have hb := a1.2.1
      by_cases y : g 137 20 = g 137 17
      · have := a2 y; omega
      · have y : g 137 20 < g 137 17 := by omega
        by_cases y1 : tk_let c0
        · have u := (a3 y y1).1
          unfold tk_let at y1
          omega
        · by_cases y2 : tk_dig c0
          · have u := (a4 y y2).1
            unfold tk_dig at y2
            omega
          · have u := a5 y y1 y2
            by_cases y3 : tk_sgn c0
            · unfold tk_sgn at y3
              omega
            · have v := u.2.2 y3
              omega
    refine ⟨by omega, by omega, fun c hcs => ?_⟩
    constructor
    · intro w; exact ⟨z, w⟩
    · intro w; exact w.2
  · by_cases z4 : g 137 18 = 4
    · have e : tk_rk (g 137 18) c0 = 3 := (if_neg z).trans (if_pos z4)
      rw [e]
      refine ⟨by omega, by omega, fun c hcs => ?_⟩
      unfold tk_sgn at hcs
      omega
    · have e : tk_rk (g 137 18) c0 = g 137 18 := (if_neg z).trans (if_neg z4)
      rw [e]
      refine ⟨by omega, by omega, fun c hcs => ?_⟩
      unfold tk_sgn at hcs
      omega
