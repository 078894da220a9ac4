/-! A BAGGAGE, of both -/
section BG
variable {B : Int → Int} {n : Int} {ld : Nat} {TI : mz_G → Int → Prop}
/-- what is known of the lines from the machine's side -/
def hl_A (ld : Nat) : Prop := ∀ g, mz_inv g → mz_inv (zF_X4_readLine ld g) ∧ zF_X4_readLine ld g 0 7 = g 0 7
def hl_B (TI : mz_G → Int → Prop) : Prop := ∀ (g : mz_G) (d : Int), mz_inv g → 0 ≤ d → d ≤ 3 → (g 137 20 ≤ g 137 16 ∧ g 137 21 = g 137 16 ∧ g 137 16 ≤ g 137 17 ∧ (g 137 18 ≠ 0 → g 137 20 < g 137 16)) → TI g d → mz_inv (zF_X12_readLine d g).2 ∧ TI (zF_X12_readLine d g).2 (zF_X12_readLine d g).1 ∧ ((zF_X12_readLine d g).2 137 22 = 0 → g 137 20 < (zF_X12_readLine d g).2 137 20) ∧ (zF_X12_readLine d g).2 137 24 = g 137 24 ∧ (zF_X12_readLine d g).2 137 2 = g 137 2 ∧ (zF_X12_readLine d g).2 137 53 = g 137 53
def be_k (B : Int → Int) (n : Int) (ld : Nat) (TI : mz_G → Int → Prop) (gA gB : mz_G) : Prop := (∃ d, ln_k B n gA gB ∧ td_k ld gA gB d ∧ TI gB d) ∨ fa_k gA gB
theorem L43_bad {x : mm_X} {a1 l : Int} {k : Nat} {g : mz_G} (h : g 81 1 ≠ 0) : zL_X11_baggage_43 x a1 (k + 1) l g = zJ_X11_baggage_77 x a1 g := by
  rw [zL_X11_baggage_43_s]
  unfold zB_X11_baggage_43 zF_X4_goesOn zJ_X4_goesOn_21
  simp only [zf_lq]
  rw [if_neg h, if_pos rfl, ite_self]
theorem L76_bad {a1 d : Int} {k : Nat} {g : mz_G} (h : g 137 22 ≠ 0) : zL_X12_baggage_76 a1 (k + 1) d g = zJ_X12_baggage_99 a1 g := by
  rw [zL_X12_baggage_76_s]
  unfold zB_X12_baggage_76
  simp only [zf_lq]
  rw [if_neg h]
theorem L_bag (hn : n ≤ 700) (hB : ∀ a, 0 ≤ B a) (hld : ld = 1 ∨ ld = 41) (hA : hl_A ld) (hBB : hl_B TI) {x : mm_X} (hx : x.2.1 = ld) {a1 : Int} : ∀ (m kA kB : Nat) (gA gB : mz_G) (l d : Int), (n - gA 82 5).toNat < m → m + 1 ≤ kA → m + 1 ≤ kB → mz_inv gA → mz_inv gB → TI gB d → l ≤ gA 82 5 → ln_k B n gA gB → td_k ld gA gB d → ∃ gA' gB', zL_X11_baggage_43 x a1 kA l gA = zJ_X11_baggage_77 x a1 gA' ∧ zL_X12_baggage_76 a1 kB d gB = zJ_X12_baggage_99 a1 gB' ∧ mz_inv gA' ∧ mz_inv gB' ∧ be_k B n ld TI gA' gB' ∧ gB' 137 24 = gB 137 24 ∧ gB' 137 2 = gB 137 2 ∧ gA' 0 7 = gA 0 7 ∧ gB' 137 53 = gB 137 53 := by
  intro m
  induction m with
  | zero => intro kA kB gA gB l d h; exact absurd h (Nat.not_lt_zero _)
  | succ m ih =>
    intro kA kB gA gB l d hm hkA hkB iA iB ti hl h t
    obtain ⟨kA, rfl⟩ : ∃ k1, kA = k1 + 1 + 1 := ⟨kA - 2, by omega⟩
    obtain ⟨kB, rfl⟩ : ∃ k1, kB = k1 + 1 + 1 := ⟨kB - 2, by omega⟩
    have e := ln_eq h
    have len := ln_len h
    have k0 := rs_kd0 h.2.1
    rw [e.2.2.1] at k0
    rw [zL_X11_baggage_43_s, zL_X12_baggage_76_s]
    unfold zB_X11_baggage_43 zB_X12_baggage_76 zF_X4_goesOn zJ_X4_goesOn_21 zF_X7_kind
    simp only [zf_lq]
    rw [if_pos h.2.2.2.1.1, if_pos h.2.2.2.2]
    by_cases kd : gA 82 4 = 0
    · rw [if_pos kd, if_pos (k0.mp kd), if_pos rfl, ite_self]
      exact ⟨gA, gB, rfl, rfl, iA, iB, Or.inl ⟨d, h, t, ti⟩, rfl, rfl, rfl, rfl⟩
    · have lt := len.2.2.2 kd
      rw [if_neg kd, if_neg (fun z => kd (k0.mpr z)), if_neg (show ¬ (1 : Int) = 0 by decide), if_pos (show l < 700 by omega), hx]
      unfold zf_m2
      obtain ⟨b1, b2, b3, b4, b5, b6⟩ := hBB gB d iB t.2.2.2.2.1.1 t.2.2.2.2.1.2 ⟨by rw [e.1, e.2.1]; exact len.2.1, h.2.1.2.2.2.2.1, by rw [h.2.1.2.1, e.2.1]; exact len.2.2.1, h.2.1.2.2.2.2.2.2.2⟩ ti
      obtain ⟨a1', a2'⟩ := hA gA iA
      have lk := line_k hn hB hld h t
      generalize zF_X4_readLine ld gA = gA1 at *
      generalize zF_X12_readLine d gB = p at *
      rcases lk with ⟨h1, t1⟩ | hf
      · have e1 := ln_eq h1
        have p1 := b3 h1.2.2.2.2
        obtain ⟨gA', gB', r1, r2, r3, r4, r5, r6⟩ := ih (kA + 1) (kB + 1) gA1 p.2 (l + 1) p.1 (by omega) (by omega) (by omega) a1' b1 b2 (by omega) h1 t1
        exact ⟨gA', gB', r1, r2, r3, r4, r5, r6.1.trans b4, r6.2.1.trans b5, r6.2.2.1.trans a2', r6.2.2.2.trans b6⟩
      · dsimp only
        rw [L43_bad hf.1, L76_bad (g := p.2) (by rw [hf.2.1]; exact hf.1)]
        exact ⟨gA1, p.2, rfl, rfl, a1', b1, Or.inr hf, b4, b5, a2', b6⟩
/-- the reference's start of a baggage -/
def rb_s (a1 : Int) (g : mz_G) : mz_G := mz_up (mz_up (mz_up (mz_up (mz_up (mz_up (mz_up (mz_up (mz_up (mz_up g 137 2 0) 137 15 0) 137 17 a1) 137 16 0) 137 22 0) 137 24 (-1)) 140 4 0) 140 5 0) 140 6 0) 140 7 0
theorem bag_B {a1 : Int} {g : mz_G} (h0 : 0 ≤ a1) (h1 : a1 ≤ g 137 15) : zF_X12_baggage a1 g = zL_X12_baggage_76 a1 3000000000 0 (zF_X12_stepOn (rb_s a1 g)) := by
  unfold zF_X12_baggage
  rw [zf_lq, if_neg (show ¬ a1 < 0 by omega), zf_lq, if_neg (show ¬ mz_up g 137 2 0 137 15 < a1 by rw [up_j (by decide)]; omega), zf_lq, zf_lq, zf_lq, zf_lq, zf_lq]
  have s4 : ∀ (k : Nat) (g : mz_G), zL_X12_baggage_50 a1 (k + 1) 4 g = zL_X12_baggage_76 a1 3000000000 0 (zF_X12_stepOn g) := fun k g => by
    rw [zL_X12_baggage_50_s]
    unfold zB_X12_baggage_50
    rw [if_neg (by decide), zf_lq]
  have s3 : ∀ (k : Nat) (g : mz_G), zL_X12_baggage_50 a1 (k + 1 + 1) 3 g = zL_X12_baggage_76 a1 3000000000 0 (zF_X12_stepOn (mz_up g 140 7 0)) := fun k g => by
    rw [zL_X12_baggage_50_s]
    unfold zB_X12_baggage_50
    rw [if_pos (by decide), zf_lq]
    exact s4 k _
  have s2 : ∀ (k : Nat) (g : mz_G), zL_X12_baggage_50 a1 (k + 1 + 1 + 1) 2 g = zL_X12_baggage_76 a1 3000000000 0 (zF_X12_stepOn (mz_up (mz_up g 140 6 0) 140 7 0)) := fun k g => by
    rw [zL_X12_baggage_50_s]
    unfold zB_X12_baggage_50
    rw [if_pos (by decide), zf_lq]
    exact s3 k _
  have s1 : ∀ (k : Nat) (g : mz_G), zL_X12_baggage_50 a1 (k + 1 + 1 + 1 + 1) 1 g = zL_X12_baggage_76 a1 3000000000 0 (zF_X12_stepOn (mz_up (mz_up (mz_up g 140 5 0) 140 6 0) 140 7 0)) := fun k g => by
    rw [zL_X12_baggage_50_s]
    unfold zB_X12_baggage_50
    rw [if_pos (by decide), zf_lq]
    exact s2 k _
  rw [show (3000000000 : Nat) = 2999999995 + 1 + 1 + 1 + 1 + 1 from rfl, zL_X12_baggage_50_s]
  unfold zB_X12_baggage_50
  rw [if_pos (by decide), zf_lq]
  exact s1 2999999995 _
/-- the class's start of a baggage -/
def cb_s (ld : Nat) (a1 : Int) (g : mz_G) : mz_G := mz_up (mz_up (mz_up (mz_up (mz_up (zF_X1_forgetAll ld g) 81 1 0) 81 2 (-1)) 82 1 0) 82 2 a1) 82 3 0
theorem bag_A {x : mm_X} {a1 : Int} {g : mz_G} (hx : x.2.1 = ld) (h0 : 0 ≤ a1) (h1 : a1 ≤ g 82 1) : zF_X11_baggage x a1 g = zL_X11_baggage_43 x a1 3000000000 0 (zF_X4_begin a1 (zF_X1_forgetAll ld g)) := by
  unfold zF_X11_baggage
  rw [if_neg (show ¬ a1 < 0 by omega), zf_lq, if_neg (show ¬ g 82 1 < a1 by omega)]
  unfold zJ_X11_baggage_23 zF_X11_mustFit zf_my
  rw [if_neg (show ¬ (1 : Int) = 0 by decide), hx]
  dsimp only
  rw [if_pos rfl, zf_lq, zf_lq]
theorem begin_eq {a1 : Int} {g : mz_G} : zF_X4_begin a1 (zF_X1_forgetAll ld g) = zF_X7_step (cb_s ld a1 g) := by
  unfold zF_X4_begin zF_X7_open cb_s
  simp only [zf_lq]
theorem forget_eq {g : mz_G} : zF_X1_forgetAll ld g = mz_up (mz_up (mz_up (mz_up g (ld + 1) 3 0) (ld + 26) 2 0) ld 3 0) (ld + 36) 1 0 := by
  unfold zF_X1_forgetAll zF_X10_startAnew zF_X5_clear
  simp only [zf_lq]
theorem cb_s_o {a1 : Int} {g : mz_G} (hld : ld = 1 ∨ ld = 41) : cb_s ld a1 g 81 1 = 0 ∧ cb_s ld a1 g 81 2 = -1 ∧ cb_s ld a1 g 82 2 = a1 ∧ cb_s ld a1 g 82 3 = 0 ∧ (cb_s ld a1 g (ld + 1) 3 = 0 ∧ cb_s ld a1 g (ld + 26) 2 = 0 ∧ cb_s ld a1 g ld 3 = 0 ∧ cb_s ld a1 g (ld + 36) 1 = 0) ∧ ∀ k j : Nat, 83 ≤ k → cb_s ld a1 g k j = g k j := by
  unfold cb_s
  rw [forget_eq]
  refine ⟨?_, ?_, ?_, mz_up_at .., ⟨?_, ?_, ?_, ?_⟩, fun k j hk => ?_⟩
  · exact (up_k (by decide)).trans ((up_k (by decide)).trans ((up_k (by decide)).trans ((up_j (by decide)).trans (mz_up_at ..))))
  · exact (up_k (by decide)).trans ((up_k (by decide)).trans ((up_k (by decide)).trans (mz_up_at ..)))
  · exact (up_j (by decide)).trans (mz_up_at ..)
  · exact (up_k (by omega)).trans ((up_k (by omega)).trans ((up_k (by omega)).trans ((up_k (by omega)).trans ((up_k (by omega)).trans ((up_k (by omega)).trans ((up_k (by omega)).trans ((up_k (by omega)).trans (mz_up_at ..))))))))
  · exact (up_k (by omega)).trans ((up_k (by omega)).trans ((up_k (by omega)).trans ((up_k (by omega)).trans ((up_k (by omega)).trans ((up_k (by omega)).trans ((up_k (by omega)).trans (mz_up_at ..)))))))
  · exact (up_k (by omega)).trans ((up_k (by omega)).trans ((up_k (by omega)).trans ((up_k (by omega)).trans ((up_k (by omega)).trans ((up_k (by omega)).trans (mz_up_at ..))))))
  · exact (up_k (by omega)).trans ((up_k (by omega)).trans ((up_k (by omega)).trans ((up_k (by omega)).trans ((up_k (by omega)).trans (mz_up_at ..)))))
  · exact (up_k (by omega)).trans ((up_k (by omega)).trans ((up_k (by omega)).trans ((up_k (by omega)).trans ((up_k (by omega)).trans ((up_k (by omega)).trans ((up_k (by omega)).trans ((up_k (by omega)).trans (up_k (by omega)))))))))
theorem rb_s_53 {a1 : Int} {g : mz_G} : rb_s a1 g 137 53 = g 137 53 := by
  unfold rb_s
  exact (up_k (by decide)).trans ((up_k (by decide)).trans ((up_k (by decide)).trans ((up_k (by decide)).trans ((up_j (by decide)).trans ((up_j (by decide)).trans ((up_j (by decide)).trans ((up_j (by decide)).trans ((up_j (by decide)).trans (up_j (by decide))))))))))
theorem cb_s_7 {a1 : Int} {g : mz_G} (hld : ld = 1 ∨ ld = 41) : cb_s ld a1 g 0 7 = g 0 7 := by
  unfold cb_s
  rw [forget_eq]
  exact (up_k (by decide)).trans ((up_k (by decide)).trans ((up_k (by decide)).trans ((up_k (by decide)).trans ((up_k (by decide)).trans ((up_k (by omega)).trans ((up_k (by omega)).trans ((up_k (by omega)).trans (up_k (by omega)))))))))
theorem rb_s_2 {a1 : Int} {g : mz_G} : rb_s a1 g 137 2 = 0 := by
  unfold rb_s
  exact (up_k (by decide)).trans ((up_k (by decide)).trans ((up_k (by decide)).trans ((up_k (by decide)).trans ((up_j (by decide)).trans ((up_j (by decide)).trans ((up_j (by decide)).trans ((up_j (by decide)).trans ((up_j (by decide)).trans (mz_up_at ..)))))))))
theorem rb_s_o {a1 : Int} {g : mz_G} : rb_s a1 g 137 15 = 0 ∧ rb_s a1 g 137 17 = a1 ∧ rb_s a1 g 137 16 = 0 ∧ rb_s a1 g 137 22 = 0 ∧ rb_s a1 g 137 24 = -1 ∧ (rb_s a1 g 140 4 = 0 ∧ rb_s a1 g 140 5 = 0 ∧ rb_s a1 g 140 6 = 0 ∧ rb_s a1 g 140 7 = 0) ∧ ∀ k j : Nat, k ≠ 137 → k ≠ 140 → rb_s a1 g k j = g k j := by
  unfold rb_s
  refine ⟨?_, ?_, ?_, ?_, ?_, ⟨?_, ?_, ?_, mz_up_at ..⟩, fun k j h1 h2 => ?_⟩
  · exact (up_k (by decide)).trans ((up_k (by decide)).trans ((up_k (by decide)).trans ((up_k (by decide)).trans ((up_j (by decide)).trans ((up_j (by decide)).trans ((up_j (by decide)).trans ((up_j (by decide)).trans (mz_up_at ..))))))))
  · exact (up_k (by decide)).trans ((up_k (by decide)).trans ((up_k (by decide)).trans ((up_k (by decide)).trans ((up_j (by decide)).trans ((up_j (by decide)).trans ((up_j (by decide)).trans (mz_up_at ..)))))))
  · exact (up_k (by decide)).trans ((up_k (by decide)).trans ((up_k (by decide)).trans ((up_k (by decide)).trans ((up_j (by decide)).trans ((up_j (by decide)).trans (mz_up_at ..))))))
  · exact (up_k (by decide)).trans ((up_k (by decide)).trans ((up_k (by decide)).trans ((up_k (by decide)).trans ((up_j (by decide)).trans (mz_up_at ..)))))
  · exact (up_k (by decide)).trans ((up_k (by decide)).trans ((up_k (by decide)).trans ((up_k (by decide)).trans (mz_up_at ..))))
  · exact (up_j (by decide)).trans ((up_j (by decide)).trans ((up_j (by decide)).trans (mz_up_at ..)))
  · exact (up_j (by decide)).trans ((up_j (by decide)).trans (mz_up_at ..))
  · exact (up_j (by decide)).trans (mz_up_at ..)
  · exact (up_k h2).trans ((up_k h2).trans ((up_k h2).trans ((up_k h2).trans ((up_k h1).trans ((up_k h1).trans ((up_k h1).trans ((up_k h1).trans ((up_k h1).trans (up_k h1)))))))))
/-- both stand at the first token, with nothing told -/
theorem bag_start {a1 : Int} {g gB : mz_G} (hld : ld = 1 ∨ ld = 41) (hs : mz_str g) (hsB : mz_str gB) (hR : mz_cb g = mz_rb gB) (hp : ∀ a, 0 ≤ mz_rb gB a) (h0 : 0 ≤ a1) (h7 : a1 ≤ 700) : ln_k (mz_rb gB) a1 (zF_X7_step (cb_s ld a1 g)) (zF_X12_stepOn (rb_s a1 gB)) ∧ td_k ld (zF_X7_step (cb_s ld a1 g)) (zF_X12_stepOn (rb_s a1 gB)) 0 ∧ zF_X12_stepOn (rb_s a1 gB) 137 24 = -1 ∧ zF_X12_stepOn (rb_s a1 gB) 137 2 = 0 ∧ zF_X7_step (cb_s ld a1 g) 0 7 = g 0 7 ∧ zF_X12_stepOn (rb_s a1 gB) 137 53 = gB 137 53 := by
  obtain ⟨c1, c2, c3, c4, ⟨c5, c6, c7, c8⟩, c9⟩ := cb_s_o (ld := ld) (a1 := a1) (g := g) hld
  obtain ⟨r1, r2, r3, r4, r5, ⟨r6, r7, r8, r9⟩, ra⟩ := rb_s_o (a1 := a1) (g := gB)
  have eB : mz_rb (rb_s a1 gB) = mz_rb gB := mz_rb_eq (fun j => ra 151 j (by decide) (by decide))
  have eA : mz_cb (cb_s ld a1 g) = mz_rb gB := (mz_cb_eq (fun j => c9 83 j (by decide))).trans hR
  obtain ⟨s1, s2⟩ := X7_step (g := cb_s ld a1 g) (by rw [c4]; decide) (by rw [c4, c3]; exact h0) (by rw [c3]; exact h7)
  obtain ⟨⟨t1, t2, t3, t4, t5⟩, u2⟩ := X12_stepOn (g := rb_s a1 gB) (by rw [r3]; decide) (by rw [r3, r2]; exact h0) (by rw [r2]; exact h7) (by rw [eB]; exact hp)
  rw [eA, c3, c4] at s1
  rw [eB, r2, r3] at t1
  generalize zF_X7_step (cb_s ld a1 g) = gA0 at *
  generalize zF_X12_stepOn (rb_s a1 gB) = gB0 at *
  have sA : ∀ k j : Nat, k ≠ 82 → gA0 k j = cb_s ld a1 g k j := fun k j h => s2 k j (by unfold fw_tk; omega)
  have sB : ∀ k j : Nat, k ≠ 137 → gB0 k j = rb_s a1 gB k j := fun k j h => u2 k j (by unfold fw_rt; omega)
  have b140 : ∀ j : Nat, gB0 140 j = rb_s a1 gB 140 j := fun j => sB 140 j (by decide)
  have q22 : gB0 137 22 = 0 := (u2 137 22 (by unfold fw_rt; omega)).trans r4
  refine ⟨⟨⟨(mz_cb_eq (fun j => sA 83 j (by decide))).trans eA, (s2 82 2 (by unfold fw_tk; omega)).trans c3, ?_⟩, ⟨(mz_rb_eq (fun j => sB 151 j (by decide))).trans eB, (u2 137 17 (by unfold fw_rt; omega)).trans r2, ?_, ⟨0, Int.le_refl _, t1⟩, t2, t3, t4, t5⟩, ⟨0, Int.le_refl _, s1, t1⟩, ⟨(sA 81 1 (by decide)).trans c1, (sA 81 2 (by decide)).trans c2⟩, q22⟩, ⟨⟨?_, ?_, ?_, fun i hi => ?_⟩, ⟨?_, ?_, ?_, fun i hi => ?_⟩, ⟨?_, ?_, ?_, fun i hi => ?_⟩, ⟨?_, ?_, fun i hi => ?_⟩, by omega, ?_, ?_⟩, (u2 137 24 (by unfold fw_rt; omega)).trans r5, (u2 137 2 (by unfold fw_rt; omega)).trans rb_s_2, (sA 0 7 (by decide)).trans (cb_s_7 hld), (u2 137 53 (by unfold fw_rt; omega)).trans rb_s_53⟩
  · exact fun q i hq => ((sA _ i (by omega)).trans (c9 _ i (by omega))).trans (hs q i hq)
  · exact fun q i hq => ((sB _ i (by omega)).trans (ra _ i (by omega) (by omega))).trans (hsB q i hq)
  · rw [sA _ _ (by omega), b140, c5, r6]
  · rw [b140, r6]; decide
  · rw [b140, r6]; decide
  · rw [b140, r6] at hi; omega
  · rw [sA _ _ (by omega), b140, c6, r7]
  · rw [b140, r7]; decide
  · rw [b140, r7]; decide
  · rw [b140, r7] at hi; omega
  · rw [sA _ _ (by omega), b140, c7, r8]
  · rw [b140, r8]; decide
  · rw [b140, r8]; decide
  · rw [b140, r8] at hi; omega
  · rw [sA _ _ (by omega), b140, c8, r9]
  · rw [b140, r9]; decide
  · rw [b140, r9] at hi; omega
  · rw [b140, r8]; omega
  · rw [b140, r9]; omega
/-- a baggage that fits, of both: what they stand at when all lines are read -/
theorem bag_k {x : mm_X} {a1 : Int} {g gB : mz_G} (hld : ld = 1 ∨ ld = 41) (hA : hl_A ld) (hBB : hl_B TI) (hx : x.2.1 = ld) (hs : mz_str g) (hsB : mz_str gB) (hR : mz_cb g = mz_rb gB) (hp : ∀ a, 0 ≤ mz_rb gB a) (h0 : 0 ≤ a1) (h7 : a1 ≤ 700) (hl : a1 ≤ g 82 1) (hlB : a1 ≤ gB 137 15) (iA : mz_inv (zF_X4_begin a1 (zF_X1_forgetAll ld g))) (iB : mz_inv (zF_X12_stepOn (rb_s a1 gB))) (ti : TI (zF_X12_stepOn (rb_s a1 gB)) 0) : ∃ gA' gB', zF_X11_baggage x a1 g = zJ_X11_baggage_77 x a1 gA' ∧ zF_X12_baggage a1 gB = zJ_X12_baggage_99 a1 gB' ∧ mz_inv gA' ∧ mz_inv gB' ∧ be_k (mz_rb gB) a1 ld TI gA' gB' ∧ gB' 137 24 = -1 ∧ gB' 137 2 = 0 ∧ gA' 0 7 = g 0 7 ∧ gB' 137 53 = gB 137 53 := by
  obtain ⟨s1, s2, s3⟩ := bag_start (a1 := a1) hld hs hsB hR hp h0 h7
  rw [bag_A hx h0 hl, bag_B h0 hlB]
  rw [begin_eq] at iA ⊢
  have len := ln_len s1
  obtain ⟨gA', gB', r1, r2, r3, r4, r5, r6⟩ := L_bag h7 hp hld hA hBB hx (a1 := a1) 800 3000000000 3000000000 _ _ 0 0 (by omega) (by decide) (by decide) iA iB ti len.1 s1 s2
  exact ⟨gA', gB', r1, r2, r3, r4, r5, r6.1.trans s3.1, r6.2.1.trans s3.2.1, r6.2.2.1.trans s3.2.2.1, r6.2.2.2.trans s3.2.2.2⟩
end BG
