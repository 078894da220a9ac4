/-! WHAT IS ASKED of the reference leaves it as it was (3) -/
section YE
variable {x : mm_X} {g g0 g1 gA gB : mz_G} {q : Nat}
theorem read_l (hx : mk_x x) (K : kr g0) (d9 : g0 137 30 ≤ 999) {a1 a2 : Int} (h0 : 0 ≤ a1) (h5 : a1 ≤ 5) : ∀ (m k : Nat) (l3 l4 : Int) (g : mz_G), (61 - l4).toNat = m → m < k → 0 ≤ l4 → qk 162 g0 g → mz_inv g → g 137 30 = g0 137 30 + l4 → sm5 g0 (zL_X12_read_54 a1 a2 k l3 l4 g).2 := by
  intro m
  induction m with
  | zero =>
    intro k l3 l4 g hm hk l0 q I hd
    obtain ⟨k, rfl⟩ : ∃ k1, k = k1 + 1 := ⟨k - 1, by omega⟩
    rw [zL_X12_read_54_s]
    unfold zB_X12_read_54 zJ_X12_read_100
    simp only [zf_lq]
    rw [if_pos (by omega)]
    exact snd_s (qk_rec (Or.inl rfl) q).1
  | succ m ih =>
    intro k l3 l4 g hm hk l0 q I hd
    obtain ⟨k, rfl⟩ : ∃ k1, k = k1 + 1 := ⟨k - 1, by omega⟩
    rw [zL_X12_read_54_s]
    unfold zB_X12_read_54 zJ_X12_read_100 zJ_X12_read_89
    simp only [zf_lq]
    rw [if_neg (by omega)]
    split
    · obtain ⟨r, g4, i4, f4, r0, r1, e4⟩ := q_X12_blendInto hx I (q1 := 157) (n_q1 := 16) rfl (by decide) (fun _ => rfl) h0 h5 (by decide)
      rw [e4]
      unfold zf_m2
      dsimp only
      have i5 := (up36 i4 r0 r1).1
      have q5 : qk 162 g0 (mz_up g4 137 36 r) := qk_fr (fun a b z => (mz_up_ne (by omega)).trans (f4 a b (by unfold fw_X12_blendInto; omega))) q
      have d5 : mz_up g4 137 36 r 137 30 = g0 137 30 + l4 := by rw [up_j (by decide), f4 137 30 (by unfold fw_X12_blendInto; omega)]; exact hd
      generalize mz_up g4 137 36 r = g5 at *
      have G := qk_go K (Or.inl rfl) (n := 1) (by decide) (by decide) q5
      obtain ⟨g6, i6, f6, d6, e6⟩ := q_X12_goOn hx i5 (a1 := 1) (by decide) (by decide) (kr_e q5.1 K).1 (by omega)
      rw [e6] at G ⊢
      split
      · exact ih k _ (l4 + 1) _ (by omega) (by omega) (by omega) G i6 (by omega)
      · exact ih k _ (l4 + 1) _ (by omega) (by omega) (by omega) G i6 (by omega)
    · exact snd_s (qk_rec (Or.inl rfl) q).1
theorem sto_i (hx : mk_x x) (I : mz_inv g) (d9 : g 137 30 ≤ 999) : mz_inv (zF_X12_store 162 25 0 g) ∧ zF_X12_store 162 25 0 g 137 30 = g 137 30 := by
  obtain ⟨g2, i2, f2, e2⟩ := q_X12_store hx I (q1 := 162) (n_q1 := 25) (by unfold mk_rw; decide) (a2 := 0) (by decide) (by decide) (by decide) (by decide) d9
  rw [e2]
  exact ⟨i2, f2 _ _ (by unfold fw_X12_store; omega)⟩
theorem read_s (hx : mk_x x) (I : mz_inv g) (K : kr g) (w8 : g 140 0 ≤ 8) (d9 : g 137 30 ≤ 999) {a1 a2 : Int} : sm5 g (zF_X12_read a1 a2 g).2 := by
  refine sm_tr (sm_2 (v := 0)) ?_
  have I1 := inv_2 I (v := 0) (by decide) (by decide)
  have K1 : kr (mz_up g 137 2 0) := kr_e (g0 := g) (fun a b u v => up_k (by omega)) K
  have d1 : mz_up g 137 2 0 137 30 ≤ 999 := by rw [up_j (by decide)]; exact d9
  have w1 : mz_up g 137 2 0 140 0 ≤ 8 := by rw [up_k (by decide)]; exact w8
  unfold zF_X12_read zJ_X12_read_21
  simp only [zf_lq]
  rw [isT_B, isW_B]
  generalize mz_up g 137 2 0 = b1 at *
  by_cases ht : 0 ≤ a1 ∧ a1 < b1 140 1
  · rw [if_pos ht, i10]
    by_cases hw : 0 ≤ a2 ∧ a2 < b1 140 0
    · rw [if_pos hw, i10]
      obtain ⟨r, g2, i2, f2, r0, r1, e2⟩ := q_X12_wordInto hx I1 (q1 := 158) (n_q1 := 16) rfl (by decide) (fun _ => rfl) hw.1 (by omega) (by decide)
      rw [e2]
      unfold zf_m2
      dsimp only
      have i3 := (up36 i2 r0 (by omega)).2
      have o3 : ∀ a b : Nat, a ≠ 158 → ¬ (a = 137 ∧ b = 37) → mz_up g2 137 37 r a b = b1 a b := fun a b u v => (mz_up_ne v).trans (f2 a b (by unfold fw_X12_wordInto; omega))
      generalize mz_up g2 137 37 r = g3 at *
      have s3 : sm5 b1 g3 := sm_fr (fun a b z => o3 a b (by omega) (by omega))
      have K3 : kr g3 := kr_e (g0 := b1) (fun a b u v => o3 a b (by omega) (by omega)) K1
      have d3 : g3 137 30 ≤ 999 := by rw [o3 _ _ (by decide) (by decide)]; exact d1
      obtain ⟨i4, d4⟩ := sto_i hx i3 d3
      exact sm_tr s3 (read_l hx K3 d3 ht.1 (by have := K1.2.2; omega) (61 - 0 : Int).toNat 3000000000 (-1) 0 _ rfl (by decide) (by decide) (qk_sto (Or.inl rfl)) i4 (by omega))
    · rw [if_neg hw, i00]; exact fail_s
  · rw [if_neg ht, i00]; exact fail_s
end YE
