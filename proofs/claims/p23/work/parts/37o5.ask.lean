/-! WHAT IS ASKED of the reference leaves it as it was (5) -/
section YE
variable {x : mm_X} {g g0 g1 gA gB : mz_G} {q : Nat}
theorem draw_l (K : kr g0) {a1 a2 : Int} (h0 : 0 ≤ a2) (h6 : a2 ≤ 60) : ∀ (m k : Nat) (l3 l4 : Int) (g : mz_G), (l4 + 1).toNat = m → m < k → qk 162 g0 g → sm5 g0 g → sm5 g0 (zL_X12_toDraw_52 a1 a2 k l3 l4 g).2 := by
  intro m
  induction m with
  | zero =>
    intro k l3 l4 g hm hk q s
    obtain ⟨k, rfl⟩ : ∃ k1, k = k1 + 1 := ⟨k - 1, by omega⟩
    rw [zL_X12_toDraw_52_s]
    unfold zB_X12_toDraw_52 zJ_X12_toDraw_101
    rw [if_pos (by omega)]
    exact snd_s s
  | succ m ih =>
    intro k l3 l4 g hm hk q s
    obtain ⟨k, rfl⟩ : ∃ k1, k = k1 + 1 := ⟨k - 1, by omega⟩
    rw [zL_X12_toDraw_52_s]
    unfold zB_X12_toDraw_52 zJ_X12_toDraw_101 zJ_X12_toDraw_86
    simp only [zf_lq]
    rw [if_neg (by omega)]
    have q1 : qk 162 g0 (mz_up g 155 a1.toNat l4) := qk_fr (fun a b z => up_k (by omega)) q
    obtain ⟨R1, R2⟩ := qk_rec (Or.inl rfl) (qk_go K (Or.inl rfl) h0 (by omega) q1)
    split
    · split
      · exact ih k _ (l4 + -1) _ (by omega) (by omega) R2 R1
      · exact ih k _ (l4 + -1) _ (by omega) (by omega) R2 R1
    · exact snd_s s
theorem toDraw_s (K : kr g) {a1 a2 : Int} : sm5 g (zF_X12_toDraw a1 a2 g).2 := by
  refine sm_tr (sm_2 (v := 0)) ?_
  have K1 : kr (mz_up g 137 2 0) := kr_e (g0 := g) (fun a b u v => up_k (by omega)) K
  unfold zF_X12_toDraw
  simp only [zf_lq]
  rw [isI_B]
  generalize mz_up g 137 2 0 = b1 at *
  split
  · exact fail_s
  · by_cases h : 0 ≤ a2 ∧ a2 ≤ 60
    · rw [if_pos h, i10]
      exact draw_l K1 h.1 h.2 (9 + 1 : Int).toNat 3000000000 (-1) 9 _ rfl (by decide) (qk_sto (Or.inl rfl)) (sto_s (Or.inl rfl))
    · rw [if_neg h, i00]; exact fail_s
end YE
