/-! A BAGGAGE, of both: what stays while it is read -/
section YA
variable {B : Int → Int} {n : Int} {ld : Nat} {d : Int} {gA gB : mz_G}
theorem sh_rs (hn : n ≤ 700) (hB : ∀ a, 0 ≤ B a) (rs : rs_k B n gB) : sh_k gB := by
  obtain ⟨r1, r2, r3, ⟨p, p0, t⟩, -⟩ := rs
  have l := tk_tok_len t
  refine ⟨⟨by omega, by rw [r2]; exact l.2.2.2.1, by rw [r2]; exact hn⟩, fun j => ?_⟩
  have := hB (j : Int)
  rw [← r1] at this
  exact this
theorem rl92 {l2 l3 : Int} {g : mz_G} (s : sh_k g) (h4 : 0 ≤ g 140 4) (h5 : 0 ≤ g 140 5) : ls_ g (zJ_X12_readLine_92 d l2 l3 g).2 := by
  unfold zJ_X12_readLine_92
  simp only [zf_lq]
  split
  · split
    · exact ls_tr (ls_p wrong_p) (rl127 (wrong_p.2 s))
    · have w := sw_l s h4
      exact ls_tr w (rl127 (w.2 s))
  · have w := sk_l (v := l2) s h5
    exact ls_tr w (rl127 (w.2 s))
theorem rl49 {l2 l3 : Int} {g : mz_G} (s : sh_k g) (h4 : 0 ≤ g 140 4) (h5 : 0 ≤ g 140 5) (h6 : 0 ≤ g 140 6 ∧ g 140 6 ≤ 8) (hx : l3 = 2 → g 137 22 = 0 → ls_ g (zR_expr 8 0 (zF_X12_stepOn g))) : ls_ g (zJ_X12_readLine_49 d l2 l3 g).2 := by
  have J68 : ls_ g (zJ_X12_readLine_68 d l2 l3 g).2 := by
    unfold zJ_X12_readLine_68
    simp only [zf_lq]
    by_cases c : l3 = 2
    · rw [if_pos c]
      by_cases b : g 137 22 = 0
      · rw [if_pos b]
        have w := hx c b
        exact ls_tr w (rl127 (w.2 s))
      · rw [if_neg b]; exact rl92 s h4 h5
    · rw [if_neg c]; exact rl92 s h4 h5
  unfold zJ_X12_readLine_49
  simp only [zf_lq]
  split
  · split
    · have w := sl_l s h6.1 h6.2
      exact ls_tr w (rl127 (w.2 s))
    · exact J68
  · exact J68
theorem rl_low (hn : n ≤ 700) (hB : ∀ a, 0 ≤ B a) (h : ln_k B n gA gB) (t : td_k ld gA gB d) : ls_ gB (zF_X12_readLine d gB).2 := by
  have rs := h.2.1
  have s := sh_rs hn hB rs
  have d0 := t.2.2.2.2.1
  have b4 : 0 ≤ gB 140 4 := t.1.2.1
  have b5 : 0 ≤ gB 140 5 := t.2.1.2.1
  have b6 : 0 ≤ gB 140 6 ∧ gB 140 6 ≤ 8 := ⟨t.2.2.1.2.1, t.2.2.1.2.2.1⟩
  have J37 : ∀ s0 l2 : Int, ls_ gB (zJ_X12_readLine_37 d s0 l2 gB).2 := fun s0 l2 => by
    unfold zJ_X12_readLine_37
    simp only [zf_lq]
    by_cases c : mz_andI s0 d = 0
    · rw [if_pos c]
      refine rl49 s b4 b5 b6 (fun z _ => ?_)
      rw [z, and_2 d0] at c
      have e7 : gB 140 7 = 0 := by
        have := t.2.2.2.2.2.2
        have := t.2.2.2.1.2.1
        by_cases y : 2 ≤ d
        · rw [if_pos y] at c; omega
        · omega
      obtain ⟨h1, fA, fB⟩ := ln_step hn hB h
      have p := step_p s
      obtain ⟨r1, r2, -⟩ := zR_lvl hn hB 6 0 (by decide) (by decide) (by decide) (zF_X12_stepOn gB) h1.2.1 h1.2.2.2.2 (by
        have : zF_X12_stepOn gB 140 7 = 0 := (fB 140 7 (by unfold fw_rt; omega)).trans e7
        omega)
      exact ls_tr (ls_p p) ⟨lw_o (fun a b z => r2 a b (by unfold wl; omega)), fun _ => sh_rs hn hB r1⟩
    · rw [if_neg c]
      have e : ∀ j : Nat, zF_X12_wrong 5 gB 140 j = gB 140 j := fun j => wrong_p.1 _ _ (by decide)
      refine ls_tr (ls_p wrong_p) (rl49 (wrong_p.2 s) (by rw [e]; exact b4) (by rw [e]; exact b5) (by rw [e]; exact b6) (fun _ z => ?_))
      rw [(wrong_at h.2.2.2.2).1] at z
      exact absurd z (by decide)
  unfold zF_X12_readLine
  simp only [zf_lq]
  split
  · split
    · exact J37 _ _
    · exact J37 _ _
  · exact J37 _ _
theorem d117 {x : mm_X} (hx : mk_x x) (hld : ld = 1 ∨ ld = 41) {l : Int} {g : mz_G} (I : mz_inv g) : zJ_X4_readLine_117 ld l g (ld + 26) 3 = g (ld + 26) 3 := by
  have J : zJ_X4_readLine_142 ld l g (ld + 26) 3 = g (ld + 26) 3 := by
    unfold zJ_X4_readLine_142
    simp only [zf_lq]
    split
    · rfl
    · obtain ⟨g1, -, f, e⟩ := q_X7_step hx I
      rw [e]
      exact f _ _ (by unfold fw_X7_step; omega)
  unfold zJ_X4_readLine_117 zf_m2
  simp only [zf_lq]
  split
  · exact J
  · split
    · exact J
    · obtain ⟨r, g1, -, f, -, -, e⟩ := q_X4_blame hx I (a1 := 1) (by decide) (by decide)
      rw [e]
      exact f _ _ (by unfold fw_X4_blame; omega)
theorem dadd {q : Nat} {a1 a2 a3 a4 : Int} {g : mz_G} (h0 : 0 ≤ g q 2) : zF_X9_addTrunk q a1 a2 a3 a4 g q 3 = g q 3 := by
  unfold zF_X9_addTrunk
  simp only [zf_lq]
  split
  · rw [X9_get h0 (by omega)]
    rw [up_j (by decide), up_k (by omega), up_k (by omega), up_k (by omega), up_k (by omega), up_k (by omega)]
  · rfl
/-- the day that is told with the trunks stays -/
theorem dtrunk {x : mm_X} (hx : mk_x x) (hld : ld = 1 ∨ ld = 41) {v : Int} {g : mz_G} (I : mz_inv g) : (zF_X4_readTrunk ld v g).2 (ld + 26) 3 = g (ld + 26) 3 := by
  have num : ∀ (a b : Int) (g : mz_G), mz_inv g → -2147483648 ≤ a → a ≤ 2147483647 → -2147483648 ≤ b → b ≤ 2147483647 → mz_inv (zF_X4_readNumber a b g).2 ∧ (zF_X4_readNumber a b g).2 (ld + 26) 3 = g (ld + 26) 3 := fun a b g I l u l2 u2 => by
    obtain ⟨r, g1, i, f, -, -, e⟩ := q_X4_readNumber hx I l u l2 u2
    rw [e]
    exact ⟨i, f _ _ (by unfold fw_X4_readNumber; omega)⟩
  have c100 : ∀ (l : Int) (g : mz_G), (zJ_X4_readTrunk_100 ld v l g).2 = g := fun l g => by
    unfold zJ_X4_readTrunk_100
    split <;> rfl
  have c78 : ∀ (s a b : Int) (g : mz_G), mz_inv g → (zJ_X4_readTrunk_78 ld v s a b g).2 (ld + 26) 3 = g (ld + 26) 3 := fun s a b g I => by
    unfold zJ_X4_readTrunk_78
    simp only [zf_lq]
    split
    · rw [c100]
    · rw [c100, dadd (mz_rd I (q := ld + 26) (k := 2) (lo := 0) (hi := 6) (by rcases hld with rfl | rfl <;> rfl)).1]
  have c59 : ∀ (s a : Int) (g : mz_G), mz_inv g → (zJ_X4_readTrunk_59 ld v s a g).2 (ld + 26) 3 = g (ld + 26) 3 := fun s a g I => by
    unfold zJ_X4_readTrunk_59 zf_m2
    split
    · exact c78 _ _ _ _ I
    · obtain ⟨i, f⟩ := num 9 2 g I (by decide) (by decide) (by decide) (by decide)
      exact (c78 _ _ _ _ i).trans f
  unfold zF_X4_readTrunk zf_m2
  simp only [zf_lq]
  split
  · obtain ⟨g2, i2, f2, e2⟩ := q_X7_step hx I
    rw [e2]
    have m := mz_rd i2 (q := ld + 1) (k := 3) (lo := 0) (hi := 8) (by rcases hld with rfl | rfl <;> rfl)
    have em : zF_X10_many (ld + 1) g2 = g2 (ld + 1) 3 := by
      unfold zF_X10_many
      rw [zf_lq]
    rw [em]
    obtain ⟨i5, f5⟩ := num (g2 (ld + 1) 3 - 1) 3 g2 i2 (by omega) (by omega) (by decide) (by decide)
    generalize zF_X4_readNumber (g2 (ld + 1) 3 - 1) 3 g2 = q5 at *
    have f0 : g2 (ld + 26) 3 = g (ld + 26) 3 := f2 _ _ (by unfold fw_X7_step; omega)
    split
    · exact (c59 _ _ _ i5).trans (f5.trans f0)
    · obtain ⟨i9, f9⟩ := num (g2 (ld + 1) 3 - 1) 3 q5.2 i5 (by omega) (by omega) (by decide) (by decide)
      exact (c59 _ _ _ i9).trans (f9.trans (f5.trans f0))
  · obtain ⟨r, g1, -, f, -, -, e⟩ := q_X4_blame hx I (a1 := 2) (by decide) (by decide)
    rw [e]
    exact f _ _ (by unfold fw_X4_blame; omega)
theorem dline {x : mm_X} (hx : mk_x x) (hld : ld = 1 ∨ ld = 41) {g : mz_G} (I : mz_inv g) : zF_X4_readLine ld g (ld + 26) 3 = g (ld + 26) 3 := by
  have c48 : zJ_X4_readLine_48 ld g (ld + 26) 3 = g (ld + 26) 3 := by
    unfold zJ_X4_readLine_48 zf_m2
    simp only [zf_lq]
    have hv : 0 ≤ zF_X7_spells 2 g ∧ zF_X7_spells 2 g ≤ 1 := by
      obtain ⟨r, a, b, e⟩ := q_X7_spells hx I (q1 := 2) (by decide)
      rw [e]
      exact ⟨a, b⟩
    obtain ⟨r, g1, i, -, -, -, e⟩ := q_X4_readTrunk hx I (q1 := ld) hld hv.1 hv.2
    have d := dtrunk hx hld (v := zF_X7_spells 2 g) I
    rw [e] at d ⊢
    exact (d117 hx hld i).trans d
  unfold zF_X4_readLine zf_m2
  simp only [zf_lq]
  split
  · split
    · split
      · split
        · split
          · obtain ⟨r, g1, i, f, -, -, e⟩ := q_X4_blame hx I (a1 := 1) (by decide) (by decide)
            rw [e]
            exact (d117 hx hld i).trans (f _ _ (by unfold fw_X4_blame; omega))
          · obtain ⟨r, g1, i, f, -, -, e⟩ := q_X4_readGrows hx I (q1 := ld + 36) (by unfold kd_rule; omega)
            rw [e]
            exact (d117 hx hld i).trans (f _ _ (by unfold fw_X4_readGrows; omega))
        · obtain ⟨r, g1, i, f, -, -, e⟩ := q_X4_readHeat hx I (q1 := ld) hld
          rw [e]
          exact (d117 hx hld i).trans (f _ _ (by unfold fw_X4_readHeat; omega))
      · exact c48
    · exact c48
  · obtain ⟨r, g1, i, f, -, -, e⟩ := q_X4_readWord hx I (q1 := ld + 1) (by unfold kd_words; omega)
    rw [e]
    exact (d117 hx hld i).trans (f _ _ (by unfold fw_X4_readWord; omega))
/-- what a baggage may touch before it is taken over -/
def ba_ (ld : Nat) : Nat → Nat → Prop := fun a b => a = 81 ∨ a = 82 ∨ a = 84 ∨ (ld ≤ a ∧ a ≤ ld + 39)
def bb_ : Nat → Nat → Prop := fun a b => (a = 137 ∧ (b = 2 ∨ (15 ≤ b ∧ b ≤ 24))) ∨ (140 ≤ a ∧ a ≤ 149)
def lk_k (g g1 : mz_G) : Prop := mz_K1 g g1 ∧ lw_k g g1
theorem lk_tr {g g1 g2 : mz_G} (h : lk_k g g1) (k : lk_k g1 g2) : lk_k g g2 := ⟨mz_K1_tr h.1 k.1, lw_tr h.2 k.2⟩
def bg_k (ld : Nat) (gA gB gA1 gB1 : mz_G) : Prop := (mz_fr (ba_ ld) gA gA1 ∧ gA1 82 1 = gA 82 1 ∧ gA1 (ld + 26) 3 = gA (ld + 26) 3) ∧ (mz_fr bb_ gB gB1 ∧ gB1 137 15 = gB 137 15 ∧ gB1 137 24 = gB 137 24 ∧ gB1 137 2 = gB 137 2) ∧ lk_k gB gB1
theorem bg_tr {gA1 gB1 gA2 gB2 : mz_G} (h : bg_k ld gA gB gA1 gB1) (k : bg_k ld gA1 gB1 gA2 gB2) : bg_k ld gA gB gA2 gB2 := ⟨⟨fr_tr h.1.1 k.1.1, k.1.2.1.trans h.1.2.1, k.1.2.2.trans h.1.2.2⟩, ⟨fr_tr h.2.1.1 k.2.1.1, k.2.1.2.1.trans h.2.1.2.1, k.2.1.2.2.1.trans h.2.1.2.2.1, k.2.1.2.2.2.trans h.2.1.2.2.2⟩, lk_tr h.2.2 k.2.2⟩
theorem bag_l {x : mm_X} (hx : mk_x x) (hld : x.2.1 = ld) (hn : n ≤ 700) (hB : ∀ a, 0 ≤ B a) {a1 : Int} : ∀ (m kA kB : Nat) (gA gB : mz_G) (l d : Int), (n - gA 82 5).toNat < m → m + 1 ≤ kA → m + 1 ≤ kB → mz_inv gA → mz_inv gB → mz_TI gB d → l ≤ gA 82 5 → ln_k B n gA gB → td_k ld gA gB d → ∃ gA' gB', zL_X11_baggage_43 x a1 kA l gA = zJ_X11_baggage_77 x a1 gA' ∧ zL_X12_baggage_76 a1 kB d gB = zJ_X12_baggage_99 a1 gB' ∧ mz_inv gA' ∧ mz_inv gB' ∧ be_k B n ld mz_TI gA' gB' ∧ bg_k ld gA gB gA' gB' := by
  have hl2 : ld = 1 ∨ ld = 41 := by unfold mk_x at hx; omega
  intro m
  induction m with
  | zero => intro kA kB gA gB l d h; exact absurd h (Nat.not_lt_zero _)
  | succ m ih =>
    intro kA kB gA gB l d hm hkA hkB iA iB ti hl h t
    obtain ⟨kA, rfl⟩ : ∃ k1, kA = k1 + 1 + 1 := ⟨kA - 2, by omega⟩
    obtain ⟨kB, rfl⟩ : ∃ k1, kB = k1 + 1 + 1 := ⟨kB - 2, by omega⟩
    have e := ln_eq h
    have len := ln_len h
    have k0 := rs_kd0 h.2.1
    rw [e.2.2.1] at k0
    rw [zL_X11_baggage_43_s, zL_X12_baggage_76_s]
    unfold zB_X11_baggage_43 zB_X12_baggage_76 zF_X4_goesOn zJ_X4_goesOn_21 zF_X7_kind
    simp only [zf_lq]
    rw [if_pos h.2.2.2.1.1, if_pos h.2.2.2.2]
    by_cases kd : gA 82 4 = 0
    · rw [if_pos kd, if_pos (k0.mp kd), if_pos rfl, ite_self]
      exact ⟨gA, gB, rfl, rfl, iA, iB, Or.inl ⟨d, h, t, ti⟩, ⟨fr_rf, rfl, rfl⟩, ⟨fr_rf, rfl, rfl, rfl⟩, mz_K1_rf _, lw_rf⟩
    · have lt := len.2.2.2 kd
      rw [if_neg kd, if_neg (fun z => kd (k0.mpr z)), if_neg (show ¬ (1 : Int) = 0 by decide), if_pos (show l < 700 by omega), hld]
      unfold zf_m2
      obtain ⟨r, g1, b1, bf, -, -, -, -, -, b3, b2, bK, be⟩ := q_X12_readLine hx iB t.2.2.2.2.1.1 t.2.2.2.2.1.2 ⟨by rw [e.1, e.2.1]; exact len.2.1, h.2.1.2.2.2.2.1, by rw [h.2.1.2.1, e.2.1]; exact len.2.2.1, h.2.1.2.2.2.2.2.2.2⟩ ti
      obtain ⟨gA1, a1', af, ae⟩ := q_X4_readLine hx iA (q1 := ld) hl2
      have lo := rl_low hn hB h t
      have dl := dline hx hl2 iA
      rw [ae] at dl
      have lk := line_k hn hB hl2 h t
      rw [be] at lk lo ⊢
      rw [ae] at lk ⊢
      dsimp only at lk lo ⊢
      have K : bg_k ld gA gB gA1 g1 := ⟨⟨fun a b z => af a b (by unfold fw_X4_readLine; unfold ba_ at z; omega), af 82 1 (by unfold fw_X4_readLine; omega), dl⟩, ⟨fun a b z => bf a b (by unfold fw_X12_readLine; unfold bb_ at z; omega), bf 137 15 (by unfold fw_X12_readLine; omega), bf 137 24 (by unfold fw_X12_readLine; omega), bf 137 2 (by unfold fw_X12_readLine; omega)⟩, bK, lo.1⟩
      rcases lk with ⟨h1, t1⟩ | hf
      · have e1 := ln_eq h1
        have p1 := b3 h1.2.2.2.2
        obtain ⟨gA', gB', r1, r2, r3, r4, r5, r6⟩ := ih (kA + 1) (kB + 1) gA1 g1 (l + 1) r (by omega) (by omega) (by omega) a1' b1 b2 (by omega) h1 t1
        exact ⟨gA', gB', r1, r2, r3, r4, r5, bg_tr K r6⟩
      · rw [L43_bad hf.1, L76_bad (g := g1) (by rw [hf.2.1]; exact hf.1)]
        exact ⟨gA1, g1, rfl, rfl, a1', b1, Or.inr hf, K⟩
/-- a baggage that fits: what both stand at when all lines are read, and what stayed -/
theorem bag_2 {x : mm_X} (hx : mk_x x) {a1 : Int} {g gB : mz_G} (I : mz_inv g) (IB : mz_inv gB) (hs : mz_str g) (hsB : mz_str gB) (hR : mz_cb g = mz_rb gB) (h0 : 0 ≤ a1) (hl : a1 ≤ g 82 1) (hlB : a1 ≤ gB 137 15) : ∃ gA' gB', zF_X11_baggage x a1 g = zJ_X11_baggage_77 x a1 gA' ∧ zF_X12_baggage a1 gB = zJ_X12_baggage_99 a1 gB' ∧ mz_inv gA' ∧ mz_inv gB' ∧ be_k (mz_rb gB) a1 x.2.1 mz_TI gA' gB' ∧ (mz_fr (ba_ x.2.1) g gA' ∧ gA' 82 1 = 0 ∧ gA' (x.2.1 + 26) 3 = g (x.2.1 + 26) 3) ∧ (mz_fr bb_ gB gB' ∧ gB' 137 15 = 0 ∧ gB' 137 24 = -1 ∧ gB' 137 2 = 0) ∧ lk_k gB gB' := by
  have hld : x.2.1 = 1 ∨ x.2.1 = 41 := by unfold mk_x at hx; omega
  have h7 : a1 ≤ 700 := by have := (mz_rd I bd_82_1).2; omega
  have iA : mz_inv (zF_X4_begin a1 (zF_X1_forgetAll x.2.1 g)) ∧ mz_fr (ba_ x.2.1) g (zF_X4_begin a1 (zF_X1_forgetAll x.2.1 g)) ∧ zF_X4_begin a1 (zF_X1_forgetAll x.2.1 g) 82 1 = 0 ∧ zF_X4_begin a1 (zF_X1_forgetAll x.2.1 g) (x.2.1 + 26) 3 = g (x.2.1 + 26) 3 := by
    obtain ⟨g1, i1, f1, e1⟩ := q_X1_forgetAll hx I (q0 := x.2.1) hld
    obtain ⟨g2, i2, f2, z2, e2⟩ := q_X4_begin hx i1 h0 h7
    rw [e1, e2]
    exact ⟨i2, fun a b z => (f2 a b (by unfold fw_X4_begin; unfold ba_ at z; omega)).trans (f1 a b (by unfold fw_X1_forgetAll; unfold ba_ at z; omega)), z2, (f2 _ _ (by unfold fw_X4_begin; omega)).trans (by
      rw [← e1, forget_eq, mz_up_ne (by omega), mz_up_ne (by omega), mz_up_ne (by omega), mz_up_ne (by omega)])⟩
  have iS : mz_inv (rb_s a1 gB) := by
    unfold rb_s
    refine mz_inv_up (mz_inv_up (mz_inv_up (mz_inv_up (mz_inv_up (mz_inv_up (mz_inv_up (mz_inv_up (mz_inv_up (mz_inv_up IB (Prod.eta _).symm ?_ ?_) (Prod.eta _).symm ?_ ?_) (Prod.eta _).symm ?_ ?_) (Prod.eta _).symm ?_ ?_) (Prod.eta _).symm ?_ ?_) (Prod.eta _).symm ?_ ?_) (Prod.eta _).symm ?_ ?_) (Prod.eta _).symm ?_ ?_) (Prod.eta _).symm ?_ ?_) (Prod.eta _).symm ?_ ?_
    · decide
    · decide
    · decide
    · decide
    · exact Int.le_trans (by decide) h0
    · exact Int.le_trans h7 (by decide)
    all_goals decide
  have ro := rb_s_o (a1 := a1) (g := gB)
  have hp : ∀ a, 0 ≤ mz_rb gB a := fun a => (mz_rd IB (q := 151) (k := a.toNat) (lo := 0) (hi := 255) rfl).1
  obtain ⟨iB, ti, fB⟩ : mz_inv (zF_X12_stepOn (rb_s a1 gB)) ∧ mz_TI (zF_X12_stepOn (rb_s a1 gB)) 0 ∧ mz_fr (fw_X12_stepOn x) (rb_s a1 gB) (zF_X12_stepOn (rb_s a1 gB)) := by
    obtain ⟨g1, i1, f, -, -, e⟩ := q_X12_stepOn hx iS (by rw [ro.2.2.1, ro.2.1]; exact h0)
    rw [e]
    exact ⟨i1, mz_TI_0 ((f 140 4 (by unfold fw_X12_stepOn; omega)).trans ro.2.2.2.2.2.1.1) ((f 140 5 (by unfold fw_X12_stepOn; omega)).trans ro.2.2.2.2.2.1.2.1) ((f 140 7 (by unfold fw_X12_stepOn; omega)).trans ro.2.2.2.2.2.1.2.2.2), f⟩
  have oB : ∀ a b : Nat, ¬ (a = 137 ∧ (b = 2 ∨ (15 ≤ b ∧ b ≤ 24))) → ¬ (a = 140 ∧ 4 ≤ b) → rb_s a1 gB a b = gB a b := fun a b u v => by
    unfold rb_s
    rw [mz_up_ne (by omega), mz_up_ne (by omega), mz_up_ne (by omega), mz_up_ne (by omega), mz_up_ne (by omega), mz_up_ne (by omega), mz_up_ne (by omega), mz_up_ne (by omega), mz_up_ne (by omega), mz_up_ne (by omega)]
  obtain ⟨s1, s2, s3⟩ := bag_start (ld := x.2.1) (a1 := a1) hld hs hsB hR hp h0 h7
  rw [bag_A rfl h0 hl, bag_B h0 hlB]
  rw [begin_eq] at iA ⊢
  have len := ln_len s1
  obtain ⟨gA', gB', r1, r2, r3, r4, r5, ⟨⟨r6, r7, re⟩, ⟨r8, r9, ra, rc⟩, rd⟩⟩ := bag_l hx rfl h7 hp (a1 := a1) 800 3000000000 3000000000 _ _ 0 0 (by omega) (by decide) (by decide) iA.1 iB ti len.1 s1 s2
  have e0 : ∀ a b : Nat, a ≠ 137 → ¬ (a = 140 ∧ 4 ≤ b) → zF_X12_stepOn (rb_s a1 gB) a b = gB a b := fun a b u v => (fB a b (by unfold fw_X12_stepOn; omega)).trans (oB a b (by omega) v)
  refine ⟨gA', gB', r1, r2, r3, r4, r5, ⟨fr_tr iA.2.1 r6, r7.trans iA.2.2.1, re.trans iA.2.2.2⟩, ⟨fun a b z => ?_, r9.trans ((fB 137 15 (by unfold fw_X12_stepOn; omega)).trans ro.1), ra.trans s3.1, rc.trans s3.2.1⟩, lk_tr ⟨⟨fun j hj => e0 _ _ (by decide) (by omega), fun j hj => e0 _ _ (by decide) (by omega), fun j hj => e0 _ _ (by decide) (by omega)⟩, ⟨fun j hj => e0 _ _ (by decide) (by omega), fun j hj => e0 _ _ (by decide) (by omega), fun j hj => e0 _ _ (by decide) (by omega), fun j hj => e0 _ _ (by decide) (by omega)⟩⟩ rd⟩
  rw [r8 a b z]
  unfold bb_ at z
  exact (fB a b (by unfold fw_X12_stepOn; omega)).trans (oB a b (by omega) (by omega))
end YA
