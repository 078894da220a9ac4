/-! TOKENS of the reference's functions -/
def fw_rt : Nat → Nat → Prop := fun a b => a = 137 ∧ (b = 16 ∨ b = 18 ∨ b = 19 ∨ b = 20 ∨ b = 21)
theorem J12_212 {g : mz_G} : zJ_X12_stepOn_212 g = mz_up g 137 21 (g 137 16) := rfl
theorem L12_word : ∀ (m k : Nat) (g : mz_G), (g 137 17 - g 137 16).toNat < m → m ≤ k → 0 ≤ g 137 16 → g 137 16 ≤ g 137 17 → tk_run tk_let (mz_rb g) (g 137 17) (g 137 16) (zL_X12_stepOn_76 k g 137 16) ∧ zL_X12_stepOn_76 k g 137 18 = 1 ∧ zL_X12_stepOn_76 k g 137 21 = zL_X12_stepOn_76 k g 137 16 ∧ mz_fr (fun a b => a = 137 ∧ (b = 16 ∨ b = 18 ∨ b = 21)) g (zL_X12_stepOn_76 k g)
  | 0, _, _, h, _, _, _ => absurd h (by omega)
  | m + 1, 0, _, _, h, _, _ => absurd h (by omega)
  | m + 1, k + 1, g, hm, hk, h0, h1 => by
    rw [zL_X12_stepOn_76_s]
    unfold zB_X12_stepOn_76
    simp only [zf_lq]
    have stop : (g 137 16 < g 137 17 → ¬ tk_let (mz_rb g (g 137 16))) → tk_run tk_let (mz_rb g) (g 137 17) (g 137 16) (zJ_X12_stepOn_212 (mz_up g 137 18 1) 137 16) ∧ zJ_X12_stepOn_212 (mz_up g 137 18 1) 137 18 = 1 ∧ zJ_X12_stepOn_212 (mz_up g 137 18 1) 137 21 = zJ_X12_stepOn_212 (mz_up g 137 18 1) 137 16 ∧ mz_fr (fun a b => a = 137 ∧ (b = 16 ∨ b = 18 ∨ b = 21)) g (zJ_X12_stepOn_212 (mz_up g 137 18 1)) := by
      intro hl
      rw [J12_212]
      have w16 : mz_up (mz_up g 137 18 1) 137 21 (mz_up g 137 18 1 137 16) 137 16 = g 137 16 := (up_j (by decide)).trans (up_j (by decide))
      have w18 : mz_up (mz_up g 137 18 1) 137 21 (mz_up g 137 18 1 137 16) 137 18 = 1 := (up_j (by decide)).trans (mz_up_at ..)
      have w21 : mz_up (mz_up g 137 18 1) 137 21 (mz_up g 137 18 1 137 16) 137 21 = g 137 16 := (mz_up_at ..).trans (up_j (by decide))
      rw [w16, w18, w21]
      exact ⟨tk_run_0 h1 hl, rfl, rfl, fr_tr (fr_up ⟨rfl, by decide⟩) (fr_up ⟨rfl, by decide⟩)⟩
    by_cases h : g 137 16 < g 137 17
    · rw [X12_byteAt h]
      by_cases hl : tk_let (mz_rb g (g 137 16))
      · rw [if_neg (fun z => X12_isLetter.mp z hl)]
        have e2 : mz_up g 137 16 (g 137 16 + 1) 137 17 = g 137 17 := up_j (by decide)
        have e3 : mz_up g 137 16 (g 137 16 + 1) 137 16 = g 137 16 + 1 := mz_up_at ..
        obtain ⟨i1, i3, i4, i2⟩ := L12_word m k (mz_up g 137 16 (g 137 16 + 1)) (by rw [e2, e3]; omega) (by omega) (by rw [e3]; omega) (by rw [e2, e3]; omega)
        rw [rb_up (by decide), e2, e3] at i1
        exact ⟨tk_run_s hl i1, i3, i4, fr_tr (fr_up ⟨rfl, by decide⟩) i2⟩
      · rw [if_pos (X12_isLetter.mpr hl)]
        exact stop (fun _ => hl)
    · rw [X12_byteAt_n h, if_pos (X12_isLetter.mpr (by unfold tk_let; omega))]
      exact stop (fun z => absurd z h)
theorem L12_number : ∀ (m k : Nat) (g : mz_G) (b : Int), (g 137 17 - g 137 16).toNat < m → m ≤ k → 0 ≤ b → b ≤ g 137 16 → g 137 16 ≤ g 137 17 → 0 ≤ g 137 19 → g 137 19 ≤ 100000 → tk_all tk_dig (mz_rb g) b (g 137 16) → (g 137 16 - b ≤ 4 → g 137 19 = tk_nv (mz_rb g) b (g 137 16 - b).toNat) → ∃ e nu : Int, zL_X12_stepOn_123 k g 137 16 = e ∧ zL_X12_stepOn_123 k g 137 19 = nu ∧ tk_run tk_dig (mz_rb g) (g 137 17) (g 137 16) e ∧ zL_X12_stepOn_123 k g 137 18 = 2 ∧ zL_X12_stepOn_123 k g 137 21 = e ∧ (e - b ≤ 4 → nu = tk_nv (mz_rb g) b (e - b).toNat) ∧ mz_fr (fun a b => a = 137 ∧ (b = 16 ∨ b = 18 ∨ b = 19 ∨ b = 21)) g (zL_X12_stepOn_123 k g) := by
  intro m
  induction m with
  | zero => intro k g b h; exact absurd h (by omega)
  | succ m ih =>
    intro k g b hm hk hb h0 h1 n0 n1 ha hn
    obtain ⟨k, rfl⟩ : ∃ k1, k = k1 + 1 := ⟨k - 1, by omega⟩
    rw [zL_X12_stepOn_123_s]
    unfold zB_X12_stepOn_123
    simp only [zf_lq]
    have stop : (g 137 16 < g 137 17 → ¬ tk_dig (mz_rb g (g 137 16))) → ∃ e nu : Int, zJ_X12_stepOn_212 (mz_up g 137 18 2) 137 16 = e ∧ zJ_X12_stepOn_212 (mz_up g 137 18 2) 137 19 = nu ∧ tk_run tk_dig (mz_rb g) (g 137 17) (g 137 16) e ∧ zJ_X12_stepOn_212 (mz_up g 137 18 2) 137 18 = 2 ∧ zJ_X12_stepOn_212 (mz_up g 137 18 2) 137 21 = e ∧ (e - b ≤ 4 → nu = tk_nv (mz_rb g) b (e - b).toNat) ∧ mz_fr (fun a b => a = 137 ∧ (b = 16 ∨ b = 18 ∨ b = 19 ∨ b = 21)) g (zJ_X12_stepOn_212 (mz_up g 137 18 2)) := by
      intro hl
      rw [J12_212]
      have w16 : mz_up (mz_up g 137 18 2) 137 21 (mz_up g 137 18 2 137 16) 137 16 = g 137 16 := (up_j (by decide)).trans (up_j (by decide))
      have w19 : mz_up (mz_up g 137 18 2) 137 21 (mz_up g 137 18 2 137 16) 137 19 = g 137 19 := (up_j (by decide)).trans (up_j (by decide))
      have w18 : mz_up (mz_up g 137 18 2) 137 21 (mz_up g 137 18 2 137 16) 137 18 = 2 := (up_j (by decide)).trans (mz_up_at ..)
      have w21 : mz_up (mz_up g 137 18 2) 137 21 (mz_up g 137 18 2 137 16) 137 21 = g 137 16 := (mz_up_at ..).trans (up_j (by decide))
      exact ⟨_, _, w16, w19, tk_run_0 h1 hl, w18, w21, hn, fr_tr (fr_up ⟨rfl, by decide⟩) (fr_up ⟨rfl, by decide⟩)⟩
    by_cases h : g 137 16 < g 137 17
    · rw [X12_byteAt h]
      by_cases hl : tk_dig (mz_rb g (g 137 16))
      · rw [if_neg (fun z => X12_isDigit.mp z hl)]
        clear stop
        have hl2 : 48 ≤ mz_rb g (g 137 16) ∧ mz_rb g (g 137 16) ≤ 57 := hl
        rw [mz_wrap_id (a := 10 * g 137 19) ⟨by omega, by omega⟩, mz_wrap_id (a := 10 * g 137 19 + mz_rb g (g 137 16)) ⟨by omega, by omega⟩, mz_wrap_id (a := 10 * g 137 19 + mz_rb g (g 137 16) - 48) ⟨by omega, by omega⟩]
        generalize hv : min 100000 (10 * g 137 19 + mz_rb g (g 137 16) - 48) = v
        rw [show mz_up g 137 19 v 137 16 = g 137 16 from up_j (by decide)]
        have e2 : mz_up (mz_up g 137 19 v) 137 16 (g 137 16 + 1) 137 17 = g 137 17 := (up_j (by decide)).trans (up_j (by decide))
        have e3 : mz_up (mz_up g 137 19 v) 137 16 (g 137 16 + 1) 137 16 = g 137 16 + 1 := mz_up_at ..
        have e9 : mz_up (mz_up g 137 19 v) 137 16 (g 137 16 + 1) 137 19 = v := (up_j (by decide)).trans (mz_up_at ..)
        have ec : mz_rb (mz_up (mz_up g 137 19 v) 137 16 (g 137 16 + 1)) = mz_rb g := (rb_up (by decide)).trans (rb_up (by decide))
        have hv2 : g 137 16 + 1 - b ≤ 4 → v = tk_nv (mz_rb g) b (g 137 16 + 1 - b).toNat := by
          intro z
          rw [nv_s h0, ← hn (by omega), ← hv]
          have nb := tk_nv_b (B := mz_rb g) (b := b) (k := (g 137 16 - b).toNat) (by rw [show b + (((g 137 16 - b).toNat : Nat) : Int) = g 137 16 by omega]; exact ha) (by omega)
          rw [← hn (by omega)] at nb
          have b3 : g 137 19 ≤ 999 := nb.2.2.2.2.1 (by omega)
          omega
        obtain ⟨e, nu, j1, j2, i1, i3, i4, i5, i2⟩ := ih k (mz_up (mz_up g 137 19 v) 137 16 (g 137 16 + 1)) b (by rw [e2, e3]; omega) (by omega) hb (by rw [e3]; omega) (by rw [e2, e3]; omega) (by rw [e9]; omega) (by rw [e9]; omega) (by rw [ec, e3]; exact tk_all_up ha hl) (by rw [ec, e3, e9]; exact hv2)
        rw [ec, e2, e3] at i1
        rw [ec] at i5
        exact ⟨e, nu, j1, j2, tk_run_s hl i1, i3, i4, i5, fr_tr (fr_tr (fr_up ⟨rfl, by decide⟩) (fr_up ⟨rfl, by decide⟩)) i2⟩
      · rw [if_pos (X12_isDigit.mpr hl)]
        exact stop (fun _ => hl)
    · rw [X12_byteAt_n h, if_pos (X12_isDigit.mpr (by unfold tk_dig; omega))]
      exact stop (fun z => absurd z h)
theorem tk_rk_1 (c : Int) : tk_rk 1 c = 1 := rfl
theorem tk_rk_2 (c : Int) : tk_rk 2 c = 2 := rfl
theorem tk_rk_0 (c : Int) : tk_rk 0 c = 0 := rfl
theorem tk_rk_3 (c : Int) : tk_rk 3 c = c := rfl
theorem tk_rk_4 (c : Int) : tk_rk 4 c = 3 := rfl
/-- the token now, of the reference, behind the place p -/
def rt_k (B : Int → Int) (n p : Int) (g : mz_G) : Prop := tk_tok B n p (g 137 20) (g 137 16) (tk_rk (g 137 18) (B (g 137 20))) (g 137 19) ∧ g 137 21 = g 137 16 ∧ 0 ≤ g 137 18 ∧ g 137 18 ≤ 4 ∧ (g 137 18 ≠ 0 → g 137 20 < g 137 16)
theorem L12_step : ∀ (m k : Nat) (g : mz_G), (g 137 17 - g 137 16).toNat < m → m ≤ k → 0 ≤ g 137 16 → g 137 16 ≤ g 137 17 → g 137 17 ≤ 700 → (∀ a, 0 ≤ mz_rb g a) → ∀ p : Int, 0 ≤ p → p ≤ g 137 16 → tk_all tk_blank (mz_rb g) p (g 137 16) → rt_k (mz_rb g) (g 137 17) p (zL_X12_stepOn_0 k g) ∧ mz_fr fw_rt g (zL_X12_stepOn_0 k g)
  | 0, _, _, h, _, _, _, _, _, _, _, _, _ => absurd h (by omega)
  | m + 1, 0, _, _, h, _, _, _, _, _, _, _, _ => absurd h (by omega)
  | m + 1, k + 1, g, hm, hk, h0, h1, h2, hB, p, hp, hpp, ha => by
    rw [zL_X12_stepOn_0_s]
    unfold zB_X12_stepOn_0
    simp only [zf_lq]
    have go : g 137 16 < g 137 17 → tk_blank (mz_rb g (g 137 16)) → rt_k (mz_rb g) (g 137 17) p (zJ_X12_stepOn_26 (zL_X12_stepOn_0 k) g) ∧ mz_fr fw_rt g (zJ_X12_stepOn_26 (zL_X12_stepOn_0 k) g) := by
      intro h hb
      unfold zJ_X12_stepOn_26
      simp only [zf_lq]
      have e2 : mz_up g 137 16 (g 137 16 + 1) 137 17 = g 137 17 := up_j (by decide)
      have e3 : mz_up g 137 16 (g 137 16 + 1) 137 16 = g 137 16 + 1 := mz_up_at ..
      have ec : mz_rb (mz_up g 137 16 (g 137 16 + 1)) = mz_rb g := rb_up (by decide)
      obtain ⟨i1, i2⟩ := L12_step m k (mz_up g 137 16 (g 137 16 + 1)) (by rw [e2, e3]; omega) (by omega) (by rw [e3]; omega) (by rw [e2, e3]; omega) (by rw [e2]; omega) (by rw [ec]; exact hB) p hp (by rw [e3]; omega) (by rw [ec, e3]; exact tk_all_up ha hb)
      rw [ec, e2] at i1
      exact ⟨i1, fr_tr (fr_up ⟨rfl, by decide⟩) i2⟩
    have beh : (g 137 16 < g 137 17 → ¬ tk_blank (mz_rb g (g 137 16))) → ∀ g8 : mz_G, mz_up g 137 20 (g 137 16) = g8 → rt_k (mz_rb g) (g 137 17) p (if zF_X12_byteAt (g8 137 16) g8 = (-1) then zJ_X12_stepOn_212 (mz_up g8 137 18 0) else if zF_X12_isLetter (zF_X12_byteAt (g8 137 16) g8) g8 = 0 then (if zF_X12_isDigit (zF_X12_byteAt (g8 137 16) g8) g8 = 0 then (if zF_X12_isMark (zF_X12_byteAt (g8 137 16) g8) (mz_up g8 137 16 (g8 137 16 + 1)) = 0 then zJ_X12_stepOn_209 4 (mz_up g8 137 16 (g8 137 16 + 1)) else zJ_X12_stepOn_209 3 (mz_up g8 137 16 (g8 137 16 + 1))) else zL_X12_stepOn_123 3000000000 (mz_up g8 137 19 0)) else zL_X12_stepOn_76 3000000000 g8) ∧ mz_fr fw_rt g (if zF_X12_byteAt (g8 137 16) g8 = (-1) then zJ_X12_stepOn_212 (mz_up g8 137 18 0) else if zF_X12_isLetter (zF_X12_byteAt (g8 137 16) g8) g8 = 0 then (if zF_X12_isDigit (zF_X12_byteAt (g8 137 16) g8) g8 = 0 then (if zF_X12_isMark (zF_X12_byteAt (g8 137 16) g8) (mz_up g8 137 16 (g8 137 16 + 1)) = 0 then zJ_X12_stepOn_209 4 (mz_up g8 137 16 (g8 137 16 + 1)) else zJ_X12_stepOn_209 3 (mz_up g8 137 16 (g8 137 16 + 1))) else zL_X12_stepOn_123 3000000000 (mz_up g8 137 19 0)) else zL_X12_stepOn_76 3000000000 g8) := by
      intro hb g8 hg
      have r : tk_run tk_blank (mz_rb g) (g 137 17) p (g 137 16) := ⟨hpp, h1, ha, hb⟩
      have e2 : g8 137 17 = g 137 17 := by rw [← hg]; exact up_j (by decide)
      have e3 : g8 137 16 = g 137 16 := by rw [← hg]; exact up_j (by decide)
      have e0 : g8 137 20 = g 137 16 := by rw [← hg]; exact mz_up_at ..
      have ec : mz_rb g8 = mz_rb g := by rw [← hg]; exact rb_up (by decide)
      have f1 : mz_fr fw_rt g g8 := by rw [← hg]; exact fr_up ⟨rfl, by decide⟩
      rw [e3]
      by_cases h : g 137 16 < g 137 17
      · rw [X12_byteAt (by rw [e2]; exact h), ec, if_neg (by have := hB (g 137 16); omega)]
        by_cases hl : tk_let (mz_rb g (g 137 16))
        · rw [if_neg (fun z => X12_isLetter.mp z hl)]
          obtain ⟨i1, i3, i4, i2⟩ := L12_word 800 3000000000 g8 (by rw [e2, e3]; omega) (by decide) (by rw [e3]; omega) (by rw [e2, e3]; omega)
          rw [ec, e2, e3] at i1
          have w20 : zL_X12_stepOn_76 3000000000 g8 137 20 = g 137 16 := (i2 137 20 (by decide)).trans e0
          have tk := tok_w (kd := 1) (nu := zL_X12_stepOn_76 3000000000 g8 137 19) r h hl rfl i1
          refine ⟨⟨?_, i4, by rw [i3]; decide, by rw [i3]; decide, fun _ => by rw [w20]; exact (tk_tok_len tk).2.2.2.2 (by decide)⟩, fr_tr f1 (fr_le i2 (fun a b z => ⟨z.1, by omega⟩))⟩
          rw [w20, i3, tk_rk_1]
          exact tk
        · rw [if_pos (X12_isLetter.mpr hl)]
          by_cases hd : tk_dig (mz_rb g (g 137 16))
          · rw [if_neg (fun z => X12_isDigit.mp z hd)]
            have q3 : mz_up g8 137 19 0 137 16 = g 137 16 := (up_j (by decide)).trans e3
            have q2 : mz_up g8 137 19 0 137 17 = g 137 17 := (up_j (by decide)).trans e2
            have q9 : mz_up g8 137 19 0 137 19 = 0 := mz_up_at ..
            have qc : mz_rb (mz_up g8 137 19 0) = mz_rb g := (rb_up (by decide)).trans ec
            obtain ⟨e, nu, j1, j2, i1, i3, i4, i5, i2⟩ := L12_number 800 3000000000 (mz_up g8 137 19 0) (g 137 16) (by rw [q2, q3]; omega) (by decide) h0 (by rw [q3]; omega) (by rw [q2, q3]; omega) (by rw [q9]; decide) (by rw [q9]; decide) (by rw [q3]; exact tk_all_0 (Int.le_refl _)) (by rw [q3, q9]; intro _; rw [show (g 137 16 - g 137 16).toNat = 0 by omega]; rfl)
            rw [qc, q2, q3] at i1
            rw [qc] at i5
            have w20 : zL_X12_stepOn_123 3000000000 (mz_up g8 137 19 0) 137 20 = g 137 16 := ((i2 137 20 (by decide)).trans (up_j (by decide))).trans e0
            have tk := tok_n (kd := 2) r h hd rfl i1 i5
            refine ⟨⟨?_, i4.trans j1.symm, by rw [i3]; decide, by rw [i3]; decide, fun _ => by rw [w20, j1]; exact (tk_tok_len tk).2.2.2.2 (by decide)⟩, fr_tr f1 (fr_tr (fr_up ⟨rfl, by decide⟩) (fr_le i2 (fun a b z => ⟨z.1, by omega⟩)))⟩
            rw [w20, i3, j1, j2, tk_rk_2]
            exact tk
          · rw [if_pos (X12_isDigit.mpr hd)]
            have go2 : ∀ s : Int, 3 ≤ s → s ≤ 4 → (tk_sgn (mz_rb g (g 137 16)) → tk_rk s (mz_rb g (g 137 16)) = mz_rb g (g 137 16)) → (¬ tk_sgn (mz_rb g (g 137 16)) → tk_rk s (mz_rb g (g 137 16)) = 3) → rt_k (mz_rb g) (g 137 17) p (zJ_X12_stepOn_209 s (mz_up g8 137 16 (g 137 16 + 1))) ∧ mz_fr fw_rt g (zJ_X12_stepOn_209 s (mz_up g8 137 16 (g 137 16 + 1))) := by
              intro s s3 s4 a1 a2
              unfold zJ_X12_stepOn_209
              simp only [zf_lq]
              rw [J12_212]
              generalize hw : mz_up g8 137 16 (g 137 16 + 1) = g9
              have w16 : g9 137 16 = g 137 16 + 1 := by rw [← hw]; exact mz_up_at ..
              have w20 : g9 137 20 = g 137 16 := by rw [← hw]; exact (up_j (by decide)).trans e0
              have f2 : mz_fr fw_rt g g9 := by rw [← hw]; exact fr_tr f1 (fr_up ⟨rfl, by decide⟩)
              have v16 : mz_up (mz_up g9 137 18 s) 137 21 (mz_up g9 137 18 s 137 16) 137 16 = g 137 16 + 1 := ((up_j (by decide)).trans (up_j (by decide))).trans w16
              have v21 : mz_up (mz_up g9 137 18 s) 137 21 (mz_up g9 137 18 s 137 16) 137 21 = g 137 16 + 1 := ((mz_up_at ..).trans (up_j (by decide))).trans w16
              have v20 : mz_up (mz_up g9 137 18 s) 137 21 (mz_up g9 137 18 s 137 16) 137 20 = g 137 16 := ((up_j (by decide)).trans (up_j (by decide))).trans w20
              have v18 : mz_up (mz_up g9 137 18 s) 137 21 (mz_up g9 137 18 s 137 16) 137 18 = s := (up_j (by decide)).trans (mz_up_at ..)
              refine ⟨⟨?_, by rw [v21, v16], by rw [v18]; omega, by rw [v18]; omega, fun _ => by rw [v20, v16]; omega⟩, fr_tr f2 (fr_tr (fr_up ⟨rfl, by decide⟩) (fr_up ⟨rfl, by decide⟩))⟩
              rw [v16, v18, v20]
              exact tok_s r h hl hd rfl a1 a2
            by_cases hs : tk_sgn (mz_rb g (g 137 16))
            · rw [if_neg (fun z => X12_isMark.mp z hs)]
              exact go2 3 (by decide) (by decide) (fun _ => rfl) (fun z => absurd hs z)
            · rw [if_pos (X12_isMark.mpr hs)]
              exact go2 4 (by decide) (by decide) (fun z => absurd z hs) (fun _ => rfl)
      · rw [X12_byteAt_n (by rw [e2]; exact h), if_pos rfl, J12_212]
        have v16 : mz_up (mz_up g8 137 18 0) 137 21 (mz_up g8 137 18 0 137 16) 137 16 = g 137 16 := ((up_j (by decide)).trans (up_j (by decide))).trans e3
        have v21 : mz_up (mz_up g8 137 18 0) 137 21 (mz_up g8 137 18 0 137 16) 137 21 = g 137 16 := ((mz_up_at ..).trans (up_j (by decide))).trans e3
        have v20 : mz_up (mz_up g8 137 18 0) 137 21 (mz_up g8 137 18 0 137 16) 137 20 = g 137 16 := ((up_j (by decide)).trans (up_j (by decide))).trans e0
        have v18 : mz_up (mz_up g8 137 18 0) 137 21 (mz_up g8 137 18 0 137 16) 137 18 = 0 := (up_j (by decide)).trans (mz_up_at ..)
        refine ⟨⟨?_, by rw [v21, v16], by rw [v18]; decide, by rw [v18]; decide, fun z => absurd v18 z⟩, fr_tr f1 (fr_tr (fr_up ⟨rfl, by decide⟩) (fr_up ⟨rfl, by decide⟩))⟩
        rw [v16, v18, v20, tk_rk_0]
        exact tok_0 r (by omega) rfl (by omega)
    by_cases h : g 137 16 < g 137 17
    · rw [X12_byteAt h]
      by_cases b1 : mz_rb g (g 137 16) = 32
      · rw [if_pos b1]
        exact go h (Or.inl b1)
      · rw [if_neg b1]
        by_cases b2 : mz_rb g (g 137 16) = 10
        · rw [if_pos b2]
          exact go h (Or.inr b2)
        · rw [if_neg b2]
          exact beh (fun _ z => by unfold tk_blank at z; omega) _ rfl
    · rw [X12_byteAt_n h, if_neg (by decide), if_neg (by decide)]
      exact beh (fun z => absurd z h) _ rfl
/-- the reference's step -/
theorem X12_stepOn {g : mz_G} (h0 : 0 ≤ g 137 16) (h1 : g 137 16 ≤ g 137 17) (h2 : g 137 17 ≤ 700) (hB : ∀ a, 0 ≤ mz_rb g a) : rt_k (mz_rb g) (g 137 17) (g 137 16) (zF_X12_stepOn g) ∧ mz_fr fw_rt g (zF_X12_stepOn g) :=
  L12_step 800 3000000000 g (by omega) (by decide) h0 h1 h2 hB (g 137 16) h0 (Int.le_refl _) (tk_all_0 (Int.le_refl _))
