/-! TOKENS of the functions: the class's step and the reference's find the token that is there -/
theorem fr_tr {W : Nat → Nat → Prop} {g g1 g2 : mz_G} (a : mz_fr W g g1) (b : mz_fr W g1 g2) : mz_fr W g g2 := fun k j h => (b k j h).trans (a k j h)
theorem fr_rf {W : Nat → Nat → Prop} {g : mz_G} : mz_fr W g g := fun _ _ _ => rfl
theorem fr_up {W : Nat → Nat → Prop} {g : mz_G} {k j : Nat} {v : Int} (h : W k j) : mz_fr W g (mz_up g k j v) := fun a b hn => mz_up_ne (fun z => hn (z.1 ▸ z.2 ▸ h))
theorem fr_le {W V : Nat → Nat → Prop} {g g1 : mz_G} (a : mz_fr W g g1) (h : ∀ k j, W k j → V k j) : mz_fr V g g1 := fun k j hn => a k j (fun z => hn (h k j z))
theorem up_j {g : mz_G} {k j b : Nat} {v : Int} (h : b ≠ j) : mz_up g k j v k b = g k b := mz_up_ne (fun z => h z.2)
theorem up_k {g : mz_G} {k j a b : Nat} {v : Int} (h : a ≠ k) : mz_up g k j v a b = g a b := mz_up_ne (fun z => h z.1)
theorem cb_up {g : mz_G} {k j : Nat} {v : Int} (h : 83 ≠ k) : mz_cb (mz_up g k j v) = mz_cb g := mz_cb_eq (fun _ => up_k h)
theorem rb_up {g : mz_G} {k j : Nat} {v : Int} (h : 151 ≠ k) : mz_rb (mz_up g k j v) = mz_rb g := mz_rb_eq (fun _ => up_k h)
theorem tk_run_s {P : Int → Prop} {B : Int → Int} {n p e : Int} (h : P (B p)) (r : tk_run P B n (p + 1) e) : tk_run P B n p e := by
  obtain ⟨a1, a2, a3, a4⟩ := r
  refine ⟨by omega, a2, fun k h0 h1 => ?_, a4⟩
  rcases (by omega : k = p ∨ p + 1 ≤ k) with z | z
  · rw [z]; exact h
  · exact a3 k z h1
theorem tk_run_0 {P : Int → Prop} {B : Int → Int} {n p : Int} (h0 : p ≤ n) (h : p < n → ¬ P (B p)) : tk_run P B n p p := ⟨Int.le_refl _, h0, tk_all_0 (Int.le_refl _), h⟩
theorem X7_byteAt {g : mz_G} {a : Int} (h0 : 0 ≤ a) (h1 : a < 700) : zF_X7_byteAt a g = mz_cb g a := by
  unfold zF_X7_byteAt zf_l
  rw [if_neg (by omega), if_pos (by omega)]
  rfl
theorem X7_isLetter {g : mz_G} {c : Int} : zF_X7_isLetter c g = 0 ↔ ¬ tk_let c := by
  unfold zF_X7_isLetter zJ_X7_isLetter_16 tk_let
  split
  · omega
  · split <;> omega
theorem X7_isDigit {g : mz_G} {c : Int} : zF_X7_isDigit c g = 0 ↔ ¬ tk_dig c := by
  unfold zF_X7_isDigit zJ_X7_isDigit_16 tk_dig
  split
  · omega
  · split <;> omega
theorem X7_isSign {g : mz_G} {c : Int} : zF_X7_isSign c g = 0 ↔ ¬ tk_sgn c := by
  unfold zF_X7_isSign zJ_X7_isSign_30 zJ_X7_isSign_35 zJ_X7_isSign_64 tk_sgn
  (repeat' split) <;> omega
theorem X12_byteAt {g : mz_G} {a : Int} (h1 : a < g 137 17) : zF_X12_byteAt a g = mz_rb g a := by
  unfold zF_X12_byteAt
  simp only [zf_lq]
  rw [if_pos h1]
  rfl
theorem X12_byteAt_n {g : mz_G} {a : Int} (h1 : ¬ a < g 137 17) : zF_X12_byteAt a g = -1 := by
  unfold zF_X12_byteAt
  simp only [zf_lq]
  rw [if_neg h1]
theorem X12_isLetter {g : mz_G} {c : Int} : zF_X12_isLetter c g = 0 ↔ ¬ tk_let c := by
  unfold zF_X12_isLetter zJ_X12_isLetter_16 tk_let
  split
  · omega
  · split <;> omega
theorem X12_isDigit {g : mz_G} {c : Int} : zF_X12_isDigit c g = 0 ↔ ¬ tk_dig c := by
  unfold zF_X12_isDigit zJ_X12_isDigit_16 tk_dig
  split
  · omega
  · split <;> omega
theorem X12_isMark {g : mz_G} {c : Int} : zF_X12_isMark c g = 0 ↔ ¬ tk_sgn c := by
  unfold zF_X12_isMark zJ_X12_isMark_54 tk_sgn
  (repeat' split) <;> omega
/-- the class's run over letters -/
theorem L7_word : ∀ (m k : Nat) (g : mz_G), (g 82 2 - g 82 3).toNat < m → m ≤ k → 0 ≤ g 82 3 → g 82 3 ≤ g 82 2 → g 82 2 ≤ 700 → tk_run tk_let (mz_cb g) (g 82 2) (g 82 3) (zL_X7_stepWord_5 k g 82 3) ∧ mz_fr (fun a b => a = 82 ∧ b = 3) g (zL_X7_stepWord_5 k g)
  | 0, _, _, h, _, _, _, _ => absurd h (by omega)
  | m + 1, 0, _, _, h, _, _, _ => absurd h (by omega)
  | m + 1, k + 1, g, hm, hk, h0, h1, h2 => by
    rw [zL_X7_stepWord_5_s]
    unfold zB_X7_stepWord_5
    simp only [zf_lq]
    by_cases h : g 82 3 < g 82 2
    · rw [if_pos h, X7_byteAt h0 (by omega)]
      by_cases hl : tk_let (mz_cb g (g 82 3))
      · rw [if_neg (fun z => X7_isLetter.mp z hl)]
        have e2 : mz_up g 82 3 (g 82 3 + 1) 82 2 = g 82 2 := up_j (by decide)
        have e3 : mz_up g 82 3 (g 82 3 + 1) 82 3 = g 82 3 + 1 := mz_up_at ..
        obtain ⟨i1, i2⟩ := L7_word m k (mz_up g 82 3 (g 82 3 + 1)) (by rw [e2, e3]; omega) (by omega) (by rw [e3]; omega) (by rw [e2, e3]; omega) (by rw [e2]; omega)
        rw [cb_up (by decide), e2, e3] at i1
        exact ⟨tk_run_s hl i1, fr_tr (fr_up ⟨rfl, rfl⟩) i2⟩
      · rw [if_pos (X7_isLetter.mpr hl)]
        exact ⟨tk_run_0 h1 (fun _ => hl), fr_rf⟩
    · rw [if_neg h]
      exact ⟨tk_run_0 h1 (fun z => absurd z h), fr_rf⟩
theorem nv_s {B : Int → Int} {b p : Int} (h0 : b ≤ p) : tk_nv B b ((p + 1 - b).toNat) = 10 * tk_nv B b ((p - b).toNat) + B p - 48 := by
  rw [show (p + 1 - b).toNat = (p - b).toNat + 1 by omega]
  simp only [tk_nv]
  rw [show b + (((p - b).toNat : Nat) : Int) = p by omega]
/-- over digits: the number counts as long as there are four at the most -/
theorem L7_number : ∀ (m k : Nat) (g : mz_G), (g 82 2 - g 82 3).toNat < m → m ≤ k → 0 ≤ g 82 5 → g 82 5 ≤ g 82 3 → g 82 3 ≤ g 82 2 → g 82 2 ≤ 700 → tk_all tk_dig (mz_cb g) (g 82 5) (g 82 3) → (g 82 3 - g 82 5 ≤ 4 → g 82 6 = tk_nv (mz_cb g) (g 82 5) (g 82 3 - g 82 5).toNat) → ∃ e nu : Int, zL_X7_stepNumber_5 k g 82 3 = e ∧ zL_X7_stepNumber_5 k g 82 6 = nu ∧ tk_run tk_dig (mz_cb g) (g 82 2) (g 82 3) e ∧ (e - g 82 5 ≤ 4 → nu = tk_nv (mz_cb g) (g 82 5) (e - g 82 5).toNat) ∧ mz_fr (fun a b => a = 82 ∧ (b = 3 ∨ b = 6)) g (zL_X7_stepNumber_5 k g) := by
  intro m
  induction m with
  | zero => intro k g h; exact absurd h (by omega)
  | succ m ih =>
    intro k g hm hk hb h0 h1 h2 ha hn
    obtain ⟨k, rfl⟩ : ∃ k1, k = k1 + 1 := ⟨k - 1, by omega⟩
    rw [zL_X7_stepNumber_5_s]
    unfold zB_X7_stepNumber_5
    simp only [zf_lq]
    by_cases h : g 82 3 < g 82 2
    · rw [if_pos h, X7_byteAt (by omega) (by omega)]
      by_cases hl : tk_dig (mz_cb g (g 82 3))
      · rw [if_neg (fun z => X7_isDigit.mp z hl)]
        -- the further turn from any number
        have go : ∀ v : Int, (g 82 3 + 1 - g 82 5 ≤ 4 → v = tk_nv (mz_cb g) (g 82 5) (g 82 3 + 1 - g 82 5).toNat) → ∃ e nu : Int, zJ_X7_stepNumber_70 (zL_X7_stepNumber_5 k) v g 82 3 = e ∧ zJ_X7_stepNumber_70 (zL_X7_stepNumber_5 k) v g 82 6 = nu ∧ tk_run tk_dig (mz_cb g) (g 82 2) (g 82 3) e ∧ (e - g 82 5 ≤ 4 → nu = tk_nv (mz_cb g) (g 82 5) (e - g 82 5).toNat) ∧ mz_fr (fun a b => a = 82 ∧ (b = 3 ∨ b = 6)) g (zJ_X7_stepNumber_70 (zL_X7_stepNumber_5 k) v g) := by
          intro v hv
          unfold zJ_X7_stepNumber_70
          simp only [zf_lq]
          rw [show mz_up g 82 6 v 82 3 = g 82 3 from up_j (by decide)]
          have e2 : mz_up (mz_up g 82 6 v) 82 3 (g 82 3 + 1) 82 2 = g 82 2 := (up_j (by decide)).trans (up_j (by decide))
          have e3 : mz_up (mz_up g 82 6 v) 82 3 (g 82 3 + 1) 82 3 = g 82 3 + 1 := mz_up_at ..
          have e5 : mz_up (mz_up g 82 6 v) 82 3 (g 82 3 + 1) 82 5 = g 82 5 := (up_j (by decide)).trans (up_j (by decide))
          have e6 : mz_up (mz_up g 82 6 v) 82 3 (g 82 3 + 1) 82 6 = v := (up_j (by decide)).trans (mz_up_at ..)
          have ec : mz_cb (mz_up (mz_up g 82 6 v) 82 3 (g 82 3 + 1)) = mz_cb g := (cb_up (by decide)).trans (cb_up (by decide))
          obtain ⟨e, nu, j1, j2, i1, i2, i3⟩ := ih k (mz_up (mz_up g 82 6 v) 82 3 (g 82 3 + 1)) (by rw [e2, e3]; omega) (by omega) (by rw [e5]; omega) (by rw [e3, e5]; omega) (by rw [e2, e3]; omega) (by rw [e2]; omega) (by rw [ec, e5, e3]; exact tk_all_up ha hl) (by rw [ec, e5, e3, e6]; exact hv)
          rw [ec, e2, e3] at i1
          rw [ec, e5] at i2
          exact ⟨e, nu, j1, j2, tk_run_s hl i1, i2, fr_tr (fr_tr (fr_up ⟨rfl, Or.inr rfl⟩) (fr_up ⟨rfl, Or.inl rfl⟩)) i3⟩
        by_cases h4 : g 82 3 - g 82 5 < 4
        · rw [if_pos h4]
          have nb := tk_nv_b (B := mz_cb g) (b := g 82 5) (k := (g 82 3 - g 82 5).toNat) (by rw [show g 82 5 + (((g 82 3 - g 82 5).toNat : Nat) : Int) = g 82 3 by omega]; exact ha) (by omega)
          have hn := hn (by omega)
          rw [← hn] at nb
          have hl2 : 48 ≤ mz_cb g (g 82 3) ∧ mz_cb g (g 82 3) ≤ 57 := hl
          have b3 : g 82 6 ≤ 999 := nb.2.2.2.2.1 (by omega)
          have b0 := nb.1
          rw [mz_wrap_id (a := 10 * g 82 6) ⟨by omega, by omega⟩, mz_wrap_id (a := 10 * g 82 6 + mz_cb g (g 82 3)) ⟨by omega, by omega⟩, mz_wrap_id (a := 10 * g 82 6 + mz_cb g (g 82 3) - 48) ⟨by omega, by omega⟩]
          exact go _ (fun _ => by rw [nv_s h0, ← hn])
        · rw [if_neg h4]
          exact go _ (fun z => by omega)
      · rw [if_pos (X7_isDigit.mpr hl)]
        exact ⟨_, _, rfl, rfl, tk_run_0 h1 (fun _ => hl), hn, fr_rf⟩
    · rw [if_neg h]
      exact ⟨_, _, rfl, rfl, tk_run_0 h1 (fun z => absurd z h), hn, fr_rf⟩
/-- what a token is, of its first byte's class -/
theorem tok_0 {B : Int → Int} {n p b e kd nu : Int} (r : tk_run tk_blank B n p b) (hb : b = n) (e1 : kd = 0) (e2 : e = n) : tk_tok B n p b e kd nu := ⟨r, fun _ => ⟨e1, e2⟩, fun z => by omega, fun z => by omega, fun z => by omega⟩
theorem tok_w {B : Int → Int} {n p b e kd nu : Int} (r : tk_run tk_blank B n p b) (hb : b < n) (hl : tk_let (B b)) (e1 : kd = 1) (e2 : tk_run tk_let B n b e) : tk_tok B n p b e kd nu := ⟨r, fun z => by omega, fun _ _ => ⟨e1, e2⟩, fun _ z => by unfold tk_let at hl; unfold tk_dig at z; omega, fun _ z => absurd hl z⟩
theorem tok_n {B : Int → Int} {n p b e kd nu : Int} (r : tk_run tk_blank B n p b) (hb : b < n) (hl : tk_dig (B b)) (e1 : kd = 2) (e2 : tk_run tk_dig B n b e) (e3 : e - b ≤ 4 → nu = tk_nv B b (e - b).toNat) : tk_tok B n p b e kd nu := ⟨r, fun z => by omega, fun _ z => by unfold tk_dig at hl; unfold tk_let at z; omega, fun _ _ => ⟨e1, e2, e3⟩, fun _ _ z => absurd hl z⟩
theorem tok_s {B : Int → Int} {n p b e kd nu : Int} (r : tk_run tk_blank B n p b) (hb : b < n) (h1 : ¬ tk_let (B b)) (h2 : ¬ tk_dig (B b)) (he : e = b + 1) (e1 : tk_sgn (B b) → kd = B b) (e2 : ¬ tk_sgn (B b) → kd = 3) : tk_tok B n p b e kd nu := ⟨r, fun z => by omega, fun _ z => absurd z h1, fun _ z => absurd z h2, fun _ _ _ => ⟨he, e1, e2⟩⟩
def fw_tk : Nat → Nat → Prop := fun a b => a = 82 ∧ (b = 3 ∨ b = 4 ∨ b = 5 ∨ b = 6)
/-- behind the blanks -/
theorem J7_50 {g : mz_G} {p : Int} (r : tk_run tk_blank (mz_cb g) (g 82 2) p (g 82 3)) (hp : 0 ≤ p) (h2 : g 82 2 ≤ 700) : tk_tok (mz_cb g) (g 82 2) p (zJ_X7_step_50 g 82 5) (zJ_X7_step_50 g 82 3) (zJ_X7_step_50 g 82 4) (zJ_X7_step_50 g 82 6) ∧ mz_fr fw_tk g (zJ_X7_step_50 g) := by
  have h0 := r.1
  have h1 := r.2.1
  unfold zJ_X7_step_50
  simp only [zf_lq]
  generalize hg : mz_up (mz_up g 82 5 (g 82 3)) 82 6 0 = g1
  have e2 : g1 82 2 = g 82 2 := by rw [← hg]; exact (up_j (by decide)).trans (up_j (by decide))
  have e3 : g1 82 3 = g 82 3 := by rw [← hg]; exact (up_j (by decide)).trans (up_j (by decide))
  have e5 : g1 82 5 = g 82 3 := by rw [← hg]; exact (up_j (by decide)).trans (mz_up_at ..)
  have e6 : g1 82 6 = 0 := by rw [← hg]; exact mz_up_at ..
  have ec : mz_cb g1 = mz_cb g := by rw [← hg]; exact (cb_up (by decide)).trans (cb_up (by decide))
  have f1 : mz_fr fw_tk g g1 := by rw [← hg]; exact fr_tr (fr_up ⟨rfl, by decide⟩) (fr_up ⟨rfl, by decide⟩)
  rw [e2, e3]
  by_cases h : g 82 3 < g 82 2
  · rw [if_pos h, X7_byteAt (by omega) (by omega), ec]
    by_cases hl : tk_let (mz_cb g (g 82 3))
    · rw [if_neg (fun z => X7_isLetter.mp z hl)]
      unfold zF_X7_stepWord
      simp only [zf_lq]
      have q3 : mz_up g1 82 4 1 82 3 = g 82 3 := (up_j (by decide)).trans e3
      have q2 : mz_up g1 82 4 1 82 2 = g 82 2 := (up_j (by decide)).trans e2
      have qc : mz_cb (mz_up g1 82 4 1) = mz_cb g := (cb_up (by decide)).trans ec
      obtain ⟨i1, i2⟩ := L7_word 800 3000000000 (mz_up g1 82 4 1) (by rw [q2, q3]; omega) (by decide) (by rw [q3]; omega) (by rw [q2, q3]; omega) (by rw [q2]; omega)
      rw [qc, q2, q3] at i1
      have w4 : zL_X7_stepWord_5 3000000000 (mz_up g1 82 4 1) 82 4 = 1 := (i2 82 4 (by decide)).trans (mz_up_at ..)
      have w5 : zL_X7_stepWord_5 3000000000 (mz_up g1 82 4 1) 82 5 = g 82 3 := ((i2 82 5 (by decide)).trans (up_j (by decide))).trans e5
      rw [w5]
      exact ⟨tok_w r h hl w4 i1, fr_tr f1 (fr_tr (fr_up ⟨rfl, by decide⟩) (fr_le i2 (fun a b z => ⟨z.1, Or.inl z.2⟩)))⟩
    · rw [if_pos (X7_isLetter.mpr hl)]
      by_cases hd : tk_dig (mz_cb g (g 82 3))
      · rw [if_neg (fun z => X7_isDigit.mp z hd)]
        unfold zF_X7_stepNumber
        simp only [zf_lq]
        have q3 : mz_up g1 82 4 2 82 3 = g 82 3 := (up_j (by decide)).trans e3
        have q2 : mz_up g1 82 4 2 82 2 = g 82 2 := (up_j (by decide)).trans e2
        have q5 : mz_up g1 82 4 2 82 5 = g 82 3 := (up_j (by decide)).trans e5
        have q6 : mz_up g1 82 4 2 82 6 = 0 := (up_j (by decide)).trans e6
        have qc : mz_cb (mz_up g1 82 4 2) = mz_cb g := (cb_up (by decide)).trans ec
        obtain ⟨e, nu, j1, j2, i1, i3, i2⟩ := L7_number 800 3000000000 (mz_up g1 82 4 2) (by rw [q2, q3]; omega) (by decide) (by rw [q5]; omega) (by rw [q5, q3]; omega) (by rw [q2, q3]; omega) (by rw [q2]; omega) (by rw [q5, q3]; exact tk_all_0 (Int.le_refl _)) (by rw [q5, q3, q6, qc]; intro _; rw [show (g 82 3 - g 82 3).toNat = 0 by omega]; rfl)
        rw [qc, q2, q3] at i1
        rw [qc, q5] at i3
        have w4 : zL_X7_stepNumber_5 3000000000 (mz_up g1 82 4 2) 82 4 = 2 := (i2 82 4 (by decide)).trans (mz_up_at ..)
        have w5 : zL_X7_stepNumber_5 3000000000 (mz_up g1 82 4 2) 82 5 = g 82 3 := ((i2 82 5 (by decide)).trans (up_j (by decide))).trans e5
        rw [w5, j1, j2]
        exact ⟨tok_n r h hd w4 i1 i3, fr_tr f1 (fr_tr (fr_up ⟨rfl, by decide⟩) (fr_le i2 (fun a b z => ⟨z.1, by omega⟩)))⟩
      · rw [if_pos (X7_isDigit.mpr hd)]
        have go : ∀ s : Int, (tk_sgn (mz_cb g (g 82 3)) → s = mz_cb g (g 82 3)) → (¬ tk_sgn (mz_cb g (g 82 3)) → s = 3) → tk_tok (mz_cb g) (g 82 2) p (zJ_X7_step_146 s g1 82 5) (zJ_X7_step_146 s g1 82 3) (zJ_X7_step_146 s g1 82 4) (zJ_X7_step_146 s g1 82 6) ∧ mz_fr fw_tk g (zJ_X7_step_146 s g1) := by
          intro s a1 a2
          unfold zJ_X7_step_146
          simp only [zf_lq]
          have w5 : mz_up (mz_up g1 82 4 s) 82 3 (mz_up g1 82 4 s 82 3 + 1) 82 5 = g 82 3 := ((up_j (by decide)).trans (up_j (by decide))).trans e5
          have w4 : mz_up (mz_up g1 82 4 s) 82 3 (mz_up g1 82 4 s 82 3 + 1) 82 4 = s := (up_j (by decide)).trans (mz_up_at ..)
          have w3 : mz_up (mz_up g1 82 4 s) 82 3 (mz_up g1 82 4 s 82 3 + 1) 82 3 = g 82 3 + 1 := (mz_up_at ..).trans (congrArg (· + 1) ((up_j (by decide)).trans e3))
          rw [w5, w4, w3]
          exact ⟨tok_s r h hl hd rfl a1 a2, fr_tr f1 (fr_tr (fr_up ⟨rfl, by decide⟩) (fr_up ⟨rfl, by decide⟩))⟩
        by_cases hs : tk_sgn (mz_cb g (g 82 3))
        · rw [if_neg (fun z => X7_isSign.mp z hs)]
          exact go _ (fun _ => rfl) (fun z => absurd hs z)
        · rw [if_pos (X7_isSign.mpr hs)]
          exact go _ (fun z => absurd z hs) (fun _ => rfl)
  · rw [if_neg h]
    have w5 : mz_up g1 82 4 0 82 5 = g 82 3 := (up_j (by decide)).trans e5
    have w4 : mz_up g1 82 4 0 82 4 = 0 := mz_up_at ..
    have w3 : mz_up g1 82 4 0 82 3 = g 82 3 := (up_j (by decide)).trans e3
    rw [w5, w4, w3]
    exact ⟨tok_0 r (by omega) rfl (by omega), fr_tr f1 (fr_up ⟨rfl, by decide⟩)⟩
theorem L7_step : ∀ (m k : Nat) (g : mz_G), (g 82 2 - g 82 3).toNat < m → m ≤ k → 0 ≤ g 82 3 → g 82 3 ≤ g 82 2 → g 82 2 ≤ 700 → ∀ p : Int, 0 ≤ p → p ≤ g 82 3 → tk_all tk_blank (mz_cb g) p (g 82 3) → tk_tok (mz_cb g) (g 82 2) p (zL_X7_step_0 k g 82 5) (zL_X7_step_0 k g 82 3) (zL_X7_step_0 k g 82 4) (zL_X7_step_0 k g 82 6) ∧ mz_fr fw_tk g (zL_X7_step_0 k g)
  | 0, _, _, h, _, _, _, _, _, _, _, _ => absurd h (by omega)
  | m + 1, 0, _, _, h, _, _, _, _, _, _, _ => absurd h (by omega)
  | m + 1, k + 1, g, hm, hk, h0, h1, h2, p, hp, hpp, ha => by
    rw [zL_X7_step_0_s]
    unfold zB_X7_step_0
    simp only [zf_lq]
    have go : g 82 3 < g 82 2 → tk_blank (mz_cb g (g 82 3)) → tk_tok (mz_cb g) (g 82 2) p (zJ_X7_step_37 (zL_X7_step_0 k) g 82 5) (zJ_X7_step_37 (zL_X7_step_0 k) g 82 3) (zJ_X7_step_37 (zL_X7_step_0 k) g 82 4) (zJ_X7_step_37 (zL_X7_step_0 k) g 82 6) ∧ mz_fr fw_tk g (zJ_X7_step_37 (zL_X7_step_0 k) g) := by
      intro h hb
      unfold zJ_X7_step_37
      simp only [zf_lq]
      have e2 : mz_up g 82 3 (g 82 3 + 1) 82 2 = g 82 2 := up_j (by decide)
      have e3 : mz_up g 82 3 (g 82 3 + 1) 82 3 = g 82 3 + 1 := mz_up_at ..
      have ec : mz_cb (mz_up g 82 3 (g 82 3 + 1)) = mz_cb g := cb_up (by decide)
      obtain ⟨i1, i2⟩ := L7_step m k (mz_up g 82 3 (g 82 3 + 1)) (by rw [e2, e3]; omega) (by omega) (by rw [e3]; omega) (by rw [e2, e3]; omega) (by rw [e2]; omega) p hp (by rw [e3]; omega) (by rw [ec, e3]; exact tk_all_up ha hb)
      rw [ec, e2] at i1
      exact ⟨i1, fr_tr (fr_up ⟨rfl, by decide⟩) i2⟩
    by_cases h : g 82 3 < g 82 2
    · rw [if_pos h, X7_byteAt h0 (by omega)]
      by_cases b1 : mz_cb g (g 82 3) = 32
      · rw [if_pos b1]
        exact go h (Or.inl b1)
      · rw [if_neg b1]
        by_cases b2 : mz_cb g (g 82 3) = 10
        · rw [if_pos b2]
          exact go h (Or.inr b2)
        · rw [if_neg b2]
          exact J7_50 ⟨hpp, h1, ha, fun _ z => by unfold tk_blank at z; omega⟩ hp h2
    · rw [if_neg h]
      exact J7_50 ⟨hpp, h1, ha, fun z => absurd z h⟩ hp h2
/-- the class's step -/
theorem X7_step {g : mz_G} (h0 : 0 ≤ g 82 3) (h1 : g 82 3 ≤ g 82 2) (h2 : g 82 2 ≤ 700) : tk_tok (mz_cb g) (g 82 2) (g 82 3) (zF_X7_step g 82 5) (zF_X7_step g 82 3) (zF_X7_step g 82 4) (zF_X7_step g 82 6) ∧ mz_fr fw_tk g (zF_X7_step g) :=
  L7_step 800 3000000000 g (by omega) (by decide) h0 h1 h2 (g 82 3) h0 (Int.le_refl _) (tk_all_0 (Int.le_refl _))
