/-! WHAT IS ASKED of the reference leaves it as it was (8): seasons, years -/
section YF
variable {x : mm_X} {g g0 g1 g2 gA gB : mz_G} {q : Nat}
theorem shl_32 {a : Int} (h : 1 ≤ a ∧ a ≤ 5) : mz_shlI 1 a ≤ 32 := by
  rcases (by omega : a = 1 ∨ a = 2 ∨ a = 3 ∨ a = 4 ∨ a = 5) with rfl | rfl | rfl | rfl | rfl <;> decide
theorem sea_i (K : kr g0) {a1 a2 a3 : Int} : ∀ (m k : Nat) (l4 l5 l6 l7 : Int) (g : mz_G), (a2 - l7).toNat = m → m < k → qk 162 g0 g → qk 162 g0 (zL_X12_seasons_78 a1 a2 a3 k l4 l5 l6 l7 g).2 := by
  intro m
  induction m with
  | zero =>
    intro k l4 l5 l6 l7 g hm hk q
    obtain ⟨k, rfl⟩ : ∃ k1, k = k1 + 1 := ⟨k - 1, by omega⟩
    rw [zL_X12_seasons_78_s]
    unfold zB_X12_seasons_78
    rw [if_neg (by omega)]
    exact q
  | succ m ih =>
    intro k l4 l5 l6 l7 g hm hk q
    obtain ⟨k, rfl⟩ : ∃ k1, k = k1 + 1 := ⟨k - 1, by omega⟩
    rw [zL_X12_seasons_78_s]
    unfold zB_X12_seasons_78
    split
    · have N : ∀ s1 l6 : Int, qk 162 g0 (zJ_X12_seasons_124 a1 a2 a3 (zL_X12_seasons_78 a1 a2 a3 k) s1 l4 l5 l6 l7 g).2 := fun s1 l6 => by
        unfold zJ_X12_seasons_124
        simp only [zf_lq]
        exact ih k l4 l5 l6 (l7 + 1) _ (by omega) (by omega) (qk_day K (Or.inl rfl) q)
      have M : ∀ s0 s1 : Int, qk 162 g0 (zJ_X12_seasons_104 a1 a2 a3 (zL_X12_seasons_78 a1 a2 a3 k) s0 s1 l4 l5 l7 g).2 := fun s0 s1 => by
        unfold zJ_X12_seasons_104
        simp only [zf_lq]
        split
        · exact N _ _
        · exact N _ _
      simp only [zf_lq]
      split
      · exact M _ _
      · exact M _ _
    · exact q
theorem sea_o (K : kr g0) {a1 a2 a3 : Int} (h : 1 ≤ a2 ∧ a2 ≤ 5) : ∀ (m k : Nat) (l4 l5 : Int) (g : mz_G), (32 - l5).toNat = m → m < k → qk 162 g0 g → sm5 g0 g → sm5 g0 (zL_X12_seasons_64 a1 a2 a3 k l4 l5 g).2 := by
  have h32 := shl_32 h
  intro m
  induction m with
  | zero =>
    intro k l4 l5 g hm hk q s
    obtain ⟨k, rfl⟩ : ∃ k1, k = k1 + 1 := ⟨k - 1, by omega⟩
    rw [zL_X12_seasons_64_s]
    unfold zB_X12_seasons_64
    simp only [zf_lq]
    rw [if_neg (by omega)]
    exact s
  | succ m ih =>
    intro k l4 l5 g hm hk q s
    obtain ⟨k, rfl⟩ : ∃ k1, k = k1 + 1 := ⟨k - 1, by omega⟩
    rw [zL_X12_seasons_64_s]
    unfold zB_X12_seasons_64 zJ_X12_seasons_149
    simp only [zf_lq]
    split
    · have S := sea_i K (a1 := a1) (a2 := a2) (a3 := a3) (a2 - 0).toNat 3000000000 l4 l5 1 0 g rfl (by omega) q
      generalize zL_X12_seasons_78 a1 a2 a3 3000000000 l4 l5 1 0 g = p at *
      obtain ⟨v15, g16⟩ := p
      unfold zf_m2
      dsimp only at *
      obtain ⟨R1, R2⟩ := qk_rec (Or.inl rfl) S
      split
      · exact ih k _ (l5 + 1) _ (by omega) (by omega) R2 R1
      · exact ih k _ (l5 + 1) _ (by omega) (by omega) R2 R1
    · exact s
theorem seasons_s (K : kr g) {a1 a2 a3 : Int} : sm5 g (zF_X12_seasons a1 a2 a3 g).2 := by
  refine sm_tr (sm_2 (v := 0)) ?_
  have K1 : kr (mz_up g 137 2 0) := kr_e (g0 := g) (fun a b u v => up_k (by omega)) K
  unfold zF_X12_seasons zJ_X12_seasons_43
  simp only [zf_lq]
  rw [isT_B, isI_B, isI_B]
  generalize mz_up g 137 2 0 = b1 at *
  by_cases h1 : 0 ≤ a1 ∧ a1 < b1 140 1
  · rw [if_pos h1, i10]
    by_cases h : 1 ≤ a2 ∧ a2 ≤ 5
    · rw [if_pos h, i10]
      by_cases h3 : 0 ≤ a3 ∧ a3 ≤ 10
      · rw [if_pos h3, i10]
        exact sea_o K1 h (32 - 0 : Int).toNat 3000000000 0 0 _ rfl (by decide) (qk_sto (Or.inl rfl)) (sto_s (Or.inl rfl))
      · rw [if_neg h3, i00]; exact fail_s
    · rw [if_neg h, i00]; exact fail_s
  · rw [if_neg h1, i00]; exact fail_s
/-- years -/
def fy : Nat → Nat → Prop := fun a b => (a = 137 ∧ b = 52) ∨ (152 ≤ a ∧ a ≤ 155)
theorem drw_B {a1 : Int} : ∃ r v : Int, zF_X12_drawOf a1 g = (r, mz_up g 137 52 v) := by
  unfold zF_X12_drawOf
  simp only [zf_lq]
  exact ⟨_, _, rfl⟩
theorem fy_up (f : ∀ a b : Nat, ¬ fy a b → g a b = g0 a b) {q k : Nat} {v : Int} (h : fy q k) : ∀ a b : Nat, ¬ fy a b → mz_up g q k v a b = g0 a b := fun a b z => (mz_up_ne (fun y => z (by rw [y.1, y.2]; exact h))).trans (f a b z)
theorem some_f : ∀ a b : Nat, ¬ fy a b → zF_X12_something g a b = g a b := by
  have S : ∀ (l1 l2 : Int) (g1 : mz_G), (∀ a b : Nat, ¬ fy a b → g1 a b = g a b) → ∀ a b : Nat, ¬ fy a b → zJ_X12_something_59 l1 l2 g1 a b = g a b := fun l1 l2 g1 f => by
    unfold zJ_X12_something_59
    simp only [zf_lq]
    split
    · obtain ⟨r, v, e⟩ := drw_B (g := g1) (a1 := g1 140 0)
      rw [e]
      unfold zf_m2
      dsimp only
      have f1 := fy_up (v := v) f (q := 137) (k := 52) (by unfold fy; omega)
      generalize mz_up g1 137 52 v = g2 at *
      obtain ⟨r2, v2, e2⟩ := drw_B (g := g2) (a1 := 2)
      rw [e2]
      dsimp only
      have f2 := fy_up (v := v2) f1 (q := 137) (k := 52) (by unfold fy; omega)
      generalize mz_up g2 137 52 v2 = g3 at *
      unfold zF_X12_packIn zJ_X12_packIn_21
      simp only [zf_lq]
      split
      · exact fy_up (fy_up f2 (by unfold fy; omega)) (by unfold fy; omega)
      · exact fy_up (fy_up f2 (by unfold fy; omega)) (by unfold fy; omega)
    · exact f
  have T : ∀ (l1 l2 : Int) (g1 : mz_G), (∀ a b : Nat, ¬ fy a b → g1 a b = g a b) → ∀ a b : Nat, ¬ fy a b → zJ_X12_something_42 l1 l2 g1 a b = g a b := fun l1 l2 g1 f => by
    unfold zJ_X12_something_42
    simp only [zf_lq]
    split
    · obtain ⟨r, v, e⟩ := drw_B (g := g1) (a1 := 10)
      rw [e]
      unfold zf_m2
      dsimp only
      exact S _ _ _ (fy_up (fy_up f (by unfold fy; omega)) (by unfold fy; omega))
    · exact S _ _ _ f
  unfold zF_X12_something
  obtain ⟨r, v, e⟩ := drw_B (g := g) (a1 := 6)
  rw [e]
  have f1 := fy_up (g0 := g) (v := v) (fun _ _ _ => rfl) (q := 137) (k := 52) (by unfold fy; omega)
  generalize mz_up g 137 52 v = g2 at *
  unfold zf_m2
  dsimp only
  simp only [zf_lq]
  split
  · exact f1
  · split
    · exact f1
    · obtain ⟨r2, v2, e2⟩ := drw_B (g := g2) (a1 := g2 140 1)
      rw [e2]
      dsimp only
      have f2 := fy_up (v := v2) f1 (q := 137) (k := 52) (by unfold fy; omega)
      generalize mz_up g2 137 52 v2 = g3 at *
      split
      · refine T _ _ _ ?_
        unfold zF_X12_turnRound
        simp only [zf_lq]
        exact fy_up (fy_up (fy_up f2 (by unfold fy; omega)) (by unfold fy; omega)) (by unfold fy; omega)
      · exact T _ _ _ f2
theorem years_l (K : kr g0) {a1 a2 a3 : Int} (h : a2 ≤ 60) : ∀ (m k : Nat) (l4 l5 : Int) (g : mz_G), (60 - l5).toNat = m → m < k → qk 162 g0 g → sm5 g0 (zL_X12_years_61 a1 a2 a3 k l4 l5 g).2 := by
  intro m
  induction m with
  | zero =>
    intro k l4 l5 g hm hk q
    obtain ⟨k, rfl⟩ : ∃ k1, k = k1 + 1 := ⟨k - 1, by omega⟩
    rw [zL_X12_years_61_s]
    unfold zB_X12_years_61 zJ_X12_years_133
    simp only [zf_lq]
    rw [if_neg (by omega)]
    have R := (qk_rec (Or.inl rfl) q).1
    split
    · exact snd_s R
    · split
      · exact snd_s R
      · exact snd_s R
  | succ m ih =>
    intro k l4 l5 g hm hk q
    obtain ⟨k, rfl⟩ : ∃ k1, k = k1 + 1 := ⟨k - 1, by omega⟩
    rw [zL_X12_years_61_s]
    unfold zB_X12_years_61 zJ_X12_years_133
    simp only [zf_lq]
    split
    · have S := some_f (g := g)
      generalize zF_X12_something g = g10 at *
      have q1 := qk_go K (Or.inl rfl) (n := 1) (by decide) (by decide) (qk_fr (fun a b z => S a b (by unfold fy; omega)) q)
      exact ih k _ (l5 + 1) _ (by omega) (by omega) q1
    · have R := (qk_rec (Or.inl rfl) q).1
      split
      · exact snd_s R
      · split
        · exact snd_s R
        · exact snd_s R
theorem years_s (K : kr g) {a1 a2 a3 : Int} : sm5 g (zF_X12_years a1 a2 a3 g).2 := by
  refine sm_tr (sm_2 (v := 0)) ?_
  have K1 : kr (mz_up g 137 2 0) := kr_e (g0 := g) (fun a b u v => up_k (by omega)) K
  unfold zF_X12_years
  simp only [zf_lq]
  rw [isI_B, isI_B]
  generalize mz_up g 137 2 0 = b1 at *
  by_cases h3 : 0 ≤ a3 ∧ a3 ≤ 2
  · rw [if_pos h3, i10]
    by_cases h : 0 ≤ a2 ∧ a2 ≤ 60
    · rw [if_pos h, i10]
      exact years_l K1 h.2 (60 - 0 : Int).toNat 3000000000 0 0 _ rfl (by decide) (qk_fr (fun a b z => mz_up_ne (by omega)) (qk_sto (Or.inl rfl)))
    · rw [if_neg h, i00]; exact fail_s
  · rw [if_neg h3, i00]; exact fail_s
end YF
