/-! WHAT IS ASKED of the reference leaves it as it was (2) -/
section YE
variable {x : mm_X} {g g0 g1 gA gB : mz_G} {q : Nat}
theorem later_s (K : kr g) {a1 a2 : Int} : sm5 g (zF_X12_later a1 a2 g).2 := by
  refine sm_tr (sm_2 (v := 0)) ?_
  have K1 : kr (mz_up g 137 2 0) := kr_e (g0 := g) (fun a b u v => up_k (by omega)) K
  unfold zF_X12_later zJ_X12_later_89
  simp only [zf_lq]
  rw [isI_B, isI_B]
  generalize mz_up g 137 2 0 = b1 at *
  by_cases h2 : 0 ≤ a2 ∧ a2 ≤ 2
  · rw [if_pos h2, i10]
    by_cases h1 : 0 ≤ a1 ∧ a1 ≤ 60
    · rw [if_pos h1, i10]
      have R := (qk_rec (Or.inl rfl) (qk_go K1 (Or.inl rfl) h1.1 (by omega) (qk_sto (g := b1) (Or.inl rfl)))).1
      split
      · exact snd_s R
      · split
        · exact snd_s R
        · exact snd_s R
    · rw [if_neg h1, i00]; exact fail_s
  · rw [if_neg h2, i00]; exact fail_s
theorem full_l (K : kr g0) {a1 : Int} : ∀ (m k : Nat) (l2 l3 : Int) (g : mz_G), (61 - l3).toNat = m → m < k → qk 162 g0 g → sm5 g0 (zL_X12_full_32 a1 k l2 l3 g).2 := by
  intro m
  induction m with
  | zero =>
    intro k l2 l3 g hm hk q
    obtain ⟨k, rfl⟩ : ∃ k1, k = k1 + 1 := ⟨k - 1, by omega⟩
    rw [zL_X12_full_32_s]
    unfold zB_X12_full_32 zJ_X12_full_64
    simp only [zf_lq]
    rw [if_pos (by omega)]
    exact snd_s (qk_rec (Or.inl rfl) q).1
  | succ m ih =>
    intro k l2 l3 g hm hk q
    obtain ⟨k, rfl⟩ : ∃ k1, k = k1 + 1 := ⟨k - 1, by omega⟩
    rw [zL_X12_full_32_s]
    unfold zB_X12_full_32 zJ_X12_full_64 zJ_X12_full_53
    simp only [zf_lq]
    rw [if_neg (by omega)]
    have G := qk_go K (Or.inl rfl) (n := 1) (by decide) (by decide) q
    split
    · split
      · exact ih k _ (l3 + 1) _ (by omega) (by omega) G
      · exact ih k _ (l3 + 1) _ (by omega) (by omega) G
    · exact snd_s (qk_rec (Or.inl rfl) q).1
theorem full_s (K : kr g) {a1 : Int} : sm5 g (zF_X12_full a1 g).2 := by
  refine sm_tr (sm_2 (v := 0)) ?_
  have K1 : kr (mz_up g 137 2 0) := kr_e (g0 := g) (fun a b u v => up_k (by omega)) K
  unfold zF_X12_full
  simp only [zf_lq]
  generalize mz_up g 137 2 0 = b1 at *
  split
  · exact fail_s
  · exact full_l K1 (61 - 0 : Int).toNat 3000000000 (-1) 0 _ rfl (by decide) (qk_sto (Or.inl rfl))
end YE
