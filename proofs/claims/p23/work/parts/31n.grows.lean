/-! THE END of a line, of both; a line of grows -/
def lx_k (B : Int → Int) (n : Int) (ld : Nat) (d : Int) (gA gB : mz_G) : Prop := (ln_k B n gA gB ∧ td_k ld gA gB d) ∨ fa_k gA gB
section LI
variable {B : Int → Int} {n : Int} {ld : Nat} {d : Int} {gA gB : mz_G}
theorem J117_bad {g : mz_G} : zJ_X4_readLine_117 ld 0 g = g := by
  unfold zJ_X4_readLine_117 zJ_X4_readLine_142
  rw [if_pos rfl, if_pos rfl]
theorem line_end (hn : n ≤ 700) (hB : ∀ a, 0 ≤ B a) (hld : ld = 1 ∨ ld = 41) {q : Int × mz_G} (h : lo_k B n ld d q gB) : lx_k B n ld d (zJ_X4_readLine_117 ld q.1 q.2) (zF_X12_mark 59 gB) := by
  rcases h with ⟨q1, h, t⟩ | ⟨q1, h⟩
  · have hb := h.2.2.2.2
    have e := ln_eq h
    have kd := (rs_kd h.2.1).2.2 59 (by unfold tk_sgn; omega)
    rw [e.2.2.1] at kd
    rw [q1]
    unfold zJ_X4_readLine_117 zJ_X4_readLine_142 zF_X7_kind
    simp only [zf_lq]
    rw [if_neg (show ¬ (1 : Int) = 0 by decide), if_neg (show ¬ (1 : Int) = 0 by decide)]
    by_cases k : q.2 82 4 = 59
    · rw [if_pos k, (mark_ok (c := 59) hb).1 (by rw [h.2.1.1]; exact kd.mp k)]
      obtain ⟨h1, fA, fB⟩ := ln_step hn hB h
      exact Or.inl ⟨h1, td_fr t (tkA hld fA) (rtB fB)⟩
    · rw [if_neg k, (mark_ok (c := 59) hb).2 (by rw [h.2.1.1]; exact fun z => k (kd.mpr z)) (by decide), X4_blame]
      exact Or.inr (fa_blame h (by decide))
  · rw [q1, J117_bad, mark_bad gB (by rw [h.2.1]; exact h.1)]
    exact Or.inr h
theorem td_grows {d' : Int} {a2 b2 a' b' : mz_G} (hld : ld = 1 ∨ ld = 41) (t : td_k ld a2 b2 d) (hd : 0 ≤ d' ∧ d' ≤ 3 ∧ ((d' = 1 ∨ d' = 3) ↔ (d = 1 ∨ d = 3))) (h7 : 2 ≤ d' ↔ 0 < b' 140 7)
    (cA : ∀ a b : Nat, a ≠ 81 → a ≠ 82 → a ≠ 84 → a ≠ ld + 36 → a ≠ ld + 37 → a' a b = a2 a b)
    (cB : ∀ a b : Nat, a ≠ 137 → a ≠ 149 → ¬ (a = 140 ∧ b = 7) → b' a b = b2 a b) (hr : rl_r ld a' b') : td_k ld a' b' d' := by
  obtain ⟨⟨w1, w2, w3, w4⟩, ⟨p1, p2, p3, p4⟩, ⟨y1, y2, y3, y4⟩, -, d1, d2, d3⟩ := t
  have b4 : b' 140 4 = b2 140 4 := cB _ _ (by decide) (by decide) (by decide)
  have b5 : b' 140 5 = b2 140 5 := cB _ _ (by decide) (by decide) (by decide)
  have b6 : b' 140 6 = b2 140 6 := cB _ _ (by decide) (by decide) (by decide)
  have bx : ∀ a j : Nat, 141 ≤ a → a < 149 → b' a j = b2 a j := fun a j h1 h2 => cB a j (by omega) (by omega) (by omega)
  have ax : ∀ a j : Nat, ld ≤ a → a < ld + 36 → a' a j = a2 a j := fun a j h1 h2 => cA a j (by omega) (by omega) (by omega) (by omega) (by omega)
  refine ⟨⟨?_, ?_, ?_, fun i hi => ?_⟩, ⟨?_, ?_, ?_, fun i hi => ?_⟩, ⟨?_, ?_, ?_, fun i hi => ?_⟩, hr, ⟨hd.1, hd.2.1⟩, ?_, h7⟩
  · rw [b4, ax _ _ (by omega) (by omega)]; exact w1
  · rw [b4]; exact w2
  · rw [b4]; exact w3
  · rw [b4] at hi
    obtain ⟨u1, u2, u3, u4, u5⟩ := w4 i hi
    rw [ax _ _ (by omega) (by omega), bx 142 _ (by decide) (by decide), ax (ld + 5) _ (by omega) (by omega), bx 143 _ (by decide) (by decide)]
    refine ⟨u1, u2, u3, fun j hj => ?_, u5⟩
    rw [ax _ _ (by omega) (by omega), bx 141 _ (by decide) (by decide)]
    exact u4 j hj
  · rw [b5, ax _ _ (by omega) (by omega)]; exact p1
  · rw [b5]; exact p2
  · rw [b5]; exact p3
  · rw [b5] at hi
    have r1 : ∀ j : Nat, a' (ld + 29 + i) j = a2 (ld + 29 + i) j := fun j => ax _ _ (by omega) (by omega)
    rw [r1, r1, r1, r1, r1, bx 145 _ (by decide) (by decide), bx 146 _ (by decide) (by decide), bx 147 _ (by decide) (by decide), bx 144 _ (by decide) (by decide), b4]
    exact p4 i hi
  · rw [b6, ax _ _ (by omega) (by omega)]; exact y1
  · rw [b6]; exact y2
  · rw [b6]; exact y3
  · rw [b6] at hi
    rw [ax _ _ (by omega) (by omega), bx 148 _ (by decide) (by decide)]
    exact y4 i hi
  · rw [b6]
    exact hd.2.2.trans d2
theorem tk_tok_nu {p b e kd nu nu1 : Int} (h : tk_tok B n p b e kd nu) (hk : kd ≠ 2) : tk_tok B n p b e kd nu1 :=
  ⟨h.1, h.2.1, h.2.2.1, fun a b => absurd (h.2.2.2.1 a b).1 hk, h.2.2.2.2⟩
theorem ck_start {a1 : mz_G} {ru : Nat} (hr : ru = 37 ∨ ru = 77) (h1 : mz_cb a1 = B) (h2 : a1 82 2 = n) (h3 : mz_str a1) (h4 : a1 81 1 = 0) (h5 : a1 ru 1 = 0) : ck B n ru a1 (zF_X4_notsAnew 1 (mz_up (mz_up (mz_up a1 81 4 0) 81 5 0) 81 7 1)) 0 (a1 81 2) 1 0 [] 1 0 [] := by
  refine ck_anew hr (ck_7 hr (ck_5 (w := a1 81 5) (d := a1 81 7) (nc := a1 81 8) (k := a1 81 6) hr ?_))
  refine ⟨(cb_up (by decide)).trans h1, (up_k (by decide)).trans h2, str_up h3 (by decide), fr_up (Or.inl rfl), ⟨(up_j (by decide)).trans h4, up_j (by decide)⟩, ⟨up_j (by decide), up_j (by decide), up_j (by decide), up_j (by decide)⟩, ⟨mz_up_at .., Nat.zero_le _, fun i hi => absurd hi (Nat.not_lt_zero _)⟩, ⟨(up_k (by omega)).trans h5, fun i hi => absurd hi (Nat.not_lt_zero _)⟩⟩
theorem anew_82 {a1 : mz_G} {j : Nat} : zF_X4_notsAnew 1 (mz_up (mz_up (mz_up a1 81 4 0) 81 5 0) 81 7 1) 82 j = a1 82 j := by
  unfold zF_X4_notsAnew
  simp only [zf_lq]
  exact (up_k (by decide)).trans ((up_k (by decide)).trans ((up_k (by decide)).trans ((up_k (by decide)).trans (up_k (by decide)))))
theorem line_grows (hn : n ≤ 700) (hB : ∀ a, 0 ≤ B a) (hld : ld = 1 ∨ ld = 41) (hd : d = 0 ∨ d = 1) (h : ln_k B n gA gB) (t : td_k ld gA gB d) : lx_k B n ld (d + 2) (zJ_X4_readLine_117 ld (zF_X4_readGrows (ld + 36) gA).1 (zF_X4_readGrows (ld + 36) gA).2) (zF_X12_mark 59 (zR_expr 8 0 (zF_X12_stepOn gB))) := by
  have e7 : gB 140 7 = 0 := by
    have := t.2.2.2.2.2.2
    have := t.2.2.2.1.2.1
    omega
  have eq : zF_X4_readGrows (ld + 36) gA = zL_X4_readGrows_44 (ld + 36) 3000000000 1 0 (zF_X4_notsAnew 1 (mz_up (mz_up (mz_up (zF_X7_step gA) 81 4 0) 81 5 0) 81 7 1)) := by
    unfold zF_X4_readGrows zF_X5_isTold
    simp only [zf_lq]
    rw [t.2.2.2.1.1, e7, if_neg (show ¬ (0 : Int) < 0 by decide), if_pos rfl]
  rw [eq]
  obtain ⟨h1, fA, fB⟩ := ln_step hn hB h
  have t1 := td_fr t (tkA hld fA) (rtB fB)
  have e71 : zF_X12_stepOn gB 140 7 = 0 := (fB 140 7 (by unfold fw_rt; omega)).trans e7
  generalize zF_X7_step gA = a1 at *
  generalize zF_X12_stepOn gB = b1 at *
  have e := ln_eq h1
  have l := ln_len h1
  have hr : ld + 36 = 37 ∨ ld + 36 = 77 := by omega
  have er : a1 (ld + 36) 1 = 0 := by rw [t1.2.2.2.1.1]; exact e71
  obtain ⟨p, p0, tA, -⟩ := h1.2.2.1
  have run := L44_run (B := B) (b0 := a1 82 5) (e0 := a1 82 3) (kd0 := a1 82 4) hr hn 800 3000000000 _ 1 0 [] 1 0 [] 0 p (by rw [anew_82]; omega) (by decide) okc_0 (Or.inr rfl) (ck_start hr h1.1.1 h1.1.2.1 h1.1.2.2 h1.2.2.2.1.1 er) p0 (by rw [anew_82, anew_82, anew_82, anew_82]; exact tA) (by rw [anew_82]; simp; omega) (by rw [anew_82]; omega) (by rw [anew_82, anew_82, anew_82]; exact fun _ _ y => y)
  generalize zL_X4_readGrows_44 (ld + 36) 3000000000 1 0 (zF_X4_notsAnew 1 (mz_up (mz_up (mz_up a1 81 4 0) 81 5 0) 81 7 1)) = q at *
  obtain ⟨r1, r2, r3, L, r4, r5⟩ := zR_lvl hn hB 6 0 (by decide) (by decide) (by decide) b1 h1.2.1 h1.2.2.2.2 (by omega)
  have v := lv_end (r5 [] 1 0 [] ⟨by decide, fun z => absurd z (by decide), fun _ => ⟨rfl, rfl⟩⟩)
  rw [e.1, e.2.1, e.2.2.1] at v
  obtain ⟨v1, v2, v3⟩ := v
  have e8 : zR_expr (6 + 2) 0 b1 = zR_expr 8 0 b1 := rfl
  rw [e8] at r1 r2 r3 r4 v1 v2 v3
  generalize zR_expr 8 0 b1 = b2 at *
  have fault : q.1 = 0 → ∀ (x y : Int), EV B n (a1 82 5) (a1 82 3) (a1 82 4) 1 0 [] 1 0 [] (fun u w => u = x ∧ w = y) (fun _ _ _ => False) → (∀ (F : pw_F) (Z : pw_Z), F (q.2 81 1) (q.2 81 2) → EV B n (a1 82 5) (a1 82 3) (a1 82 4) 1 0 [] 1 0 [] F Z) → q.2 81 1 = x ∧ q.2 81 2 = y := by
    intro _ x y hx hf
    have hy := hf (fun u w => u = q.2 81 1 ∧ w = q.2 81 2) (fun _ _ _ => False) ⟨rfl, rfl⟩
    rcases EV_det okc_0 hx hy with ⟨u, w, ⟨a, b⟩, c, d⟩ | ⟨u, w, o, z, _⟩
    · exact ⟨c.symm.trans a, d.symm.trans b⟩
    · exact absurd z id
  rcases run with ⟨q1, S, nc, k, O, p2, ckk, p20, tok, k59, hZ⟩ | ⟨q1, hF⟩
  · have hy := hZ (fun _ _ => False) (fun u w o => u = q.2 82 5 ∧ w = q.2 82 3 ∧ o = O) ⟨rfl, rfl, rfl⟩
    by_cases hb : b2 137 22 = 0
    · by_cases kd : kd_k B b2 = 59
      · rcases EV_det okc_0 (v2 hb kd) hy with ⟨u, w, z, _⟩ | ⟨u, w, o, ⟨x1, x2, x3⟩, x4, x5, x6⟩
        · exact absurd z id
        · have i1 : b2 137 20 = q.2 82 5 := x1.symm.trans x4
          have i2 : b2 137 16 = q.2 82 3 := x2.symm.trans x5
          have i3 : O = L := x6.symm.trans x3
          obtain ⟨c1, c2, c3, c4, ⟨c5, c6⟩, c7, c8, c9⟩ := ckk
          have lk : ln_k B n q.2 b2 := ⟨⟨c1, c2, c3⟩, r1, ⟨p2, p20, tok, by rw [i1, i2, kd, ← k59]; exact tk_tok_nu tok (by rw [k59]; decide)⟩, ⟨c5, c6.trans h1.2.2.2.1.2⟩, hb⟩
          obtain ⟨⟨y1, y2, y3⟩, y4⟩ := r4 hb
          rw [e71] at y1 y2
          have hr2 : rl_r ld q.2 b2 := by
            refine ⟨?_, by rw [y1]; omega, fun i hi => ?_⟩
            · rw [c9.1, i3, y1]; omega
            · have hi2 : i < L.length := by rw [y1] at hi; omega
              have := y2 i hi2
              rw [show (700 + 0 + (i : Int)).toNat = 700 + i by omega] at this
              rw [this, ← i3]
              exact c9.2 i (by rw [i3]; exact hi2)
          have td : td_k ld q.2 b2 (d + 2) := by
            refine td_grows hld t1 ⟨by omega, by omega, by omega⟩ ⟨fun _ => by rw [y1]; omega, fun _ => by omega⟩ (fun a b z1 z2 z3 z4 z5 => c4 a b (by unfold wk; omega)) (fun a b z1 z2 z3 => r2 a b (by unfold wl; omega)) hr2
          exact line_end hn hB hld (Or.inl ⟨q1, lk, td⟩)
      · rcases EV_det okc_0 (v3 hb kd) hy with ⟨u, w, _, z⟩ | ⟨u, w, o, z, _⟩
        · exact absurd z id
        · exact absurd z id
    · rcases EV_det okc_0 (v1 hb) hy with ⟨u, w, _, z⟩ | ⟨u, w, o, z, _⟩
      · exact absurd z id
      · exact absurd z id
  · rw [q1, J117_bad]
    by_cases hb : b2 137 22 = 0
    · by_cases kd : kd_k B b2 = 59
      · have hy := hF (fun u w => u = q.2 81 1 ∧ w = q.2 81 2) (fun _ _ _ => False) ⟨rfl, rfl⟩
        rcases EV_det okc_0 (v2 hb kd) hy with ⟨u, w, z, _⟩ | ⟨u, w, o, _, z⟩
        · exact absurd z id
        · exact absurd z id
      · obtain ⟨z1, z2⟩ := fault q1 _ _ (v3 hb kd) hF
        have k9 := (rs_kd r1).2.2 59 (by unfold tk_sgn; omega)
        rw [(mark_ok (c := 59) hb).2 (by rw [r1.1]; exact fun z => kd (k9.mpr z)) (by decide)]
        exact Or.inr ⟨by rw [z1]; decide, by rw [z1, (wrong_at hb).1], by rw [z2, (wrong_at hb).2]⟩
    · obtain ⟨z1, z2⟩ := fault q1 _ _ (v1 hb) hF
      rw [mark_bad b2 hb]
      exact Or.inr ⟨by rw [z1]; exact hb, z1.symm, z2.symm⟩
end LI
