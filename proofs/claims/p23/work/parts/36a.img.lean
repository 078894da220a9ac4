/-! WHETHER THERE IS AN IMAGE, behind a baggage that fits, of both -/
theorem L77_53 : ∀ (m k : Nat) (l : Int) (g : mz_G), (6 - l).toNat < m → m ≤ k → zL_X12_takeOver_77 k l g 137 53 = 0 := by
  intro m
  induction m with
  | zero => intro k l g h; exact absurd h (Nat.not_lt_zero _)
  | succ m ih =>
    intro k l g hm hk
    obtain ⟨k, rfl⟩ : ∃ k1, k = k1 + 1 := ⟨k - 1, by omega⟩
    rw [zL_X12_takeOver_77_s]
    unfold zB_X12_takeOver_77
    by_cases h : l < 6
    · rw [if_pos h]
      unfold zJ_X12_takeOver_98 zJ_X12_takeOver_125 zJ_X12_takeOver_145 zJ_X12_takeOver_165
      simp only [zf_lq]
      (repeat' split) <;> exact ih k (l + 1) _ (by omega) (by omega)
    · rw [if_neg h]
      simp only [zf_lq]
      exact mz_up_at ..
theorem takeOver_53 {g : mz_G} : zF_X12_takeOver g 137 53 = 0 := by
  unfold zF_X12_takeOver
  simp only [zf_lq]
  exact L77_53 10 3000000000 0 _ (by decide) (by decide)
theorem J99_fault53 {a1 : Int} {g : mz_G} (h : g 137 22 ≠ 0) : (zJ_X12_baggage_99 a1 g).2 137 53 = g 137 53 := by
  obtain ⟨V, e⟩ : ∃ V, zJ_X12_baggage_99 a1 g = (mz_up (mz_up g 137 24 (g 137 23)) 150 0 V 137 22, mz_up (mz_up g 137 24 (g 137 23)) 150 0 V) := by
    unfold zJ_X12_baggage_99
    simp only [zf_lq]
    rw [if_neg h]
    exact ⟨_, rfl⟩
  rw [e]
  have e1 : mz_up (mz_up g 137 24 (g 137 23)) 150 0 V 137 53 = g 137 53 := (up_k (by decide)).trans (up_j (by decide))
  exact e1
theorem J77_fault7 {x : mm_X} {a1 : Int} {g : mz_G} (h : g 81 1 ≠ 0) : (zJ_X11_baggage_77 x a1 g).2.2.1 0 7 = g 0 7 := by
  obtain ⟨V, e⟩ : ∃ V, zJ_X11_baggage_77 x a1 g = (0, mz_up (mz_up g 0 0 (g 81 2)) 100 0 V 81 1, mz_up (mz_up g 0 0 (g 81 2)) 100 0 V, x) := by
    unfold zJ_X11_baggage_77 zF_X4_place zF_X4_faultKind zF_X6_refuse zf_m2
    simp only [zf_lq]
    rw [if_neg (fun z => h ((up_k (by decide)).symm.trans z)), X11_put (by decide) (by decide)]
    exact ⟨_, rfl⟩
  rw [e]
  have e1 : mz_up (mz_up g 0 0 (g 81 2)) 100 0 V 0 7 = g 0 7 := (up_k (by decide)).trans (up_j (by decide))
  exact e1
theorem bag_img {x : mm_X} (hx : mk_x x) {a1 : Int} {g gB : mz_G} (I : mz_inv g) (IB : mz_inv gB) (hs : mz_str g) (hsB : mz_str gB) (hR : mz_cb g = mz_rb gB) (h0 : 0 ≤ a1) (hl : a1 ≤ g 82 1) (hlB : a1 ≤ gB 137 15) : ((zF_X11_baggage x a1 g).2.2.1 0 7 = 0 ∧ (zF_X12_baggage a1 gB).2 137 53 = 0) ∨ ((zF_X11_baggage x a1 g).2.2.1 0 7 = g 0 7 ∧ (zF_X12_baggage a1 gB).2 137 53 = gB 137 53) := by
  obtain ⟨gA', gB', r1, r2, r3, r4, r5, r6⟩ := bag_full hx (a1 := a1) I IB hs hsB hR h0 hl hlB
  rw [r1, r2]
  rcases r5 with ⟨d, lk, -, t1⟩ | hf
  · obtain ⟨c1, c2, c3, -⟩ := J77_fine (x := x) (a1 := a1) lk.2.2.2.1.1
    obtain ⟨d1, d2⟩ := J99_fine (a1 := a1) lk.2.2.2.2
    rw [c3, d2]
    exact Or.inl ⟨mz_up_at .., takeOver_53⟩
  · exact Or.inr ⟨(J77_fault7 hf.1).trans r6.2.2.1, (J99_fault53 (by rw [hf.2.1]; exact hf.1)).trans r6.2.2.2⟩
