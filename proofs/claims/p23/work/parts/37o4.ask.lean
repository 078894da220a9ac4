/-! WHAT IS ASKED of the reference leaves it as it was (4) -/
section YE
variable {x : mm_X} {g g0 g1 gA gB : mz_G} {q : Nat}
theorem alike_l (hx : mk_x x) (K : kr g0) (d9 : g0 137 30 ≤ 999) {a1 a2 : Int} (h0 : 0 ≤ a1) (h5 : a1 ≤ 5) (h2 : 0 ≤ a2) (h6 : a2 ≤ 5) : ∀ (m k : Nat) (l3 l4 : Int) (g : mz_G), (61 - l4).toNat = m → m < k → 0 ≤ l4 → qk 162 g0 g → mz_inv g → g 137 30 = g0 137 30 + l4 → sm5 g0 (zL_X12_alike_41 a1 a2 k l3 l4 g).2 := by
  intro m
  induction m with
  | zero =>
    intro k l3 l4 g hm hk l0 q I hd
    obtain ⟨k, rfl⟩ : ∃ k1, k = k1 + 1 := ⟨k - 1, by omega⟩
    rw [zL_X12_alike_41_s]
    unfold zB_X12_alike_41 zJ_X12_alike_105
    simp only [zf_lq]
    rw [if_pos (by omega)]
    exact snd_s (qk_rec (Or.inl rfl) q).1
  | succ m ih =>
    intro k l3 l4 g hm hk l0 q I hd
    obtain ⟨k, rfl⟩ : ∃ k1, k = k1 + 1 := ⟨k - 1, by omega⟩
    rw [zL_X12_alike_41_s]
    unfold zB_X12_alike_41 zJ_X12_alike_105 zJ_X12_alike_94
    simp only [zf_lq]
    rw [if_neg (by omega)]
    split
    · split
      · exact snd_s (qk_rec (Or.inl rfl) q).1
      · obtain ⟨r, g4, i4, f4, r0, r1, e4⟩ := q_X12_blendInto hx I (q1 := 157) (n_q1 := 16) rfl (by decide) (fun _ => rfl) h0 h5 (by decide)
        rw [e4]
        unfold zf_m2
        dsimp only
        have i5 := (up36 i4 r0 r1).1
        have q5 : qk 162 g0 (mz_up g4 137 36 r) := qk_fr (fun a b z => (mz_up_ne (by omega)).trans (f4 a b (by unfold fw_X12_blendInto; omega))) q
        have d5 : mz_up g4 137 36 r 137 30 = g0 137 30 + l4 := by rw [up_j (by decide), f4 137 30 (by unfold fw_X12_blendInto; omega)]; exact hd
        generalize mz_up g4 137 36 r = g5 at *
        obtain ⟨r', g7, i7, f7, r0', r1', e7⟩ := q_X12_blendInto hx i5 (q1 := 158) (n_q1 := 16) rfl (by decide) (fun _ => rfl) h2 h6 (by decide)
        rw [e7]
        dsimp only
        have i8 := (up36 i7 r0' r1').2
        have q8 : qk 162 g0 (mz_up g7 137 37 r') := qk_fr (fun a b z => (mz_up_ne (by omega)).trans (f7 a b (by unfold fw_X12_blendInto; omega))) q5
        have d8 : mz_up g7 137 37 r' 137 30 = g0 137 30 + l4 := by rw [up_j (by decide), f7 137 30 (by unfold fw_X12_blendInto; omega)]; exact d5
        generalize mz_up g7 137 37 r' = g8 at *
        have G := qk_go K (Or.inl rfl) (n := 1) (by decide) (by decide) q8
        obtain ⟨g6, i6, f6, d6, e6⟩ := q_X12_goOn hx i8 (a1 := 1) (by decide) (by decide) (kr_e q8.1 K).1 (by omega)
        rw [e6] at G ⊢
        split
        · exact ih k _ (l4 + 1) _ (by omega) (by omega) (by omega) G i6 (by omega)
        · exact ih k _ (l4 + 1) _ (by omega) (by omega) (by omega) G i6 (by omega)
    · exact snd_s (qk_rec (Or.inl rfl) q).1
theorem alike_s (hx : mk_x x) (I : mz_inv g) (K : kr g) (d9 : g 137 30 ≤ 999) {a1 a2 : Int} : sm5 g (zF_X12_alike a1 a2 g).2 := by
  refine sm_tr (sm_2 (v := 0)) ?_
  have I1 := inv_2 I (v := 0) (by decide) (by decide)
  have K1 : kr (mz_up g 137 2 0) := kr_e (g0 := g) (fun a b u v => up_k (by omega)) K
  have d1 : mz_up g 137 2 0 137 30 ≤ 999 := by rw [up_j (by decide)]; exact d9
  unfold zF_X12_alike zJ_X12_alike_21
  simp only [zf_lq]
  rw [isT_B, isT_B]
  generalize mz_up g 137 2 0 = b1 at *
  by_cases ht : 0 ≤ a1 ∧ a1 < b1 140 1
  · rw [if_pos ht, i10]
    by_cases hw : 0 ≤ a2 ∧ a2 < b1 140 1
    · rw [if_pos hw, i10]
      obtain ⟨i4, d4⟩ := sto_i hx I1 d1
      exact alike_l hx K1 d1 ht.1 (by have := K1.2.2; omega) hw.1 (by have := K1.2.2; omega) (61 - 0 : Int).toNat 3000000000 (-1) 0 _ rfl (by decide) (by decide) (qk_sto (Or.inl rfl)) i4 (by omega)
    · rw [if_neg hw, i00]; exact fail_s
  · rw [if_neg ht, i00]; exact fail_s
end YE
