/-! WHILE A TEXT IS READ, the reference's lower halves stay -/
def lw_k (g g1 : mz_G) : Prop := (∀ j : Nat, j < 64 → g1 141 j = g 141 j) ∧ (∀ j : Nat, j < 8 → g1 143 j = g 143 j) ∧ (∀ j : Nat, j < 6 → g1 144 j = g 144 j) ∧ (∀ j : Nat, j < 8 → g1 148 j = g 148 j)
def sh_k (g : mz_G) : Prop := (0 ≤ g 137 16 ∧ g 137 16 ≤ g 137 17 ∧ g 137 17 ≤ 700) ∧ ∀ j : Nat, 0 ≤ g 151 j
def p7_ (g g1 : mz_G) : Prop := (∀ a b : Nat, a ≠ 137 → g1 a b = g a b) ∧ (sh_k g → sh_k g1)
section LW
variable {g g1 g2 : mz_G}
theorem lw_rf : lw_k g g := ⟨fun _ _ => rfl, fun _ _ => rfl, fun _ _ => rfl, fun _ _ => rfl⟩
theorem lw_tr (h : lw_k g g1) (k : lw_k g1 g2) : lw_k g g2 := ⟨fun j z => (k.1 j z).trans (h.1 j z), fun j z => (k.2.1 j z).trans (h.2.1 j z), fun j z => (k.2.2.1 j z).trans (h.2.2.1 j z), fun j z => (k.2.2.2 j z).trans (h.2.2.2 j z)⟩
theorem lw_o (h : ∀ a b : Nat, a = 141 ∨ a = 143 ∨ a = 144 ∨ a = 148 → g1 a b = g a b) : lw_k g g1 := ⟨fun j _ => h _ _ (by omega), fun j _ => h _ _ (by omega), fun j _ => h _ _ (by omega), fun j _ => h _ _ (by omega)⟩
theorem lw_p (h : p7_ g g1) : lw_k g g1 := lw_o (fun a b z => h.1 a b (by omega))
theorem lw_up {q i : Nat} {v : Int} (h : ¬ ((q = 141 ∧ i < 64) ∨ (q = 143 ∧ i < 8) ∨ (q = 144 ∧ i < 6) ∨ (q = 148 ∧ i < 8))) : lw_k g (mz_up g q i v) := ⟨fun j z => mz_up_ne (by omega), fun j z => mz_up_ne (by omega), fun j z => mz_up_ne (by omega), fun j z => mz_up_ne (by omega)⟩
theorem p7_rf : p7_ g g := ⟨fun _ _ _ => rfl, id⟩
theorem p7_tr (h : p7_ g g1) (k : p7_ g1 g2) : p7_ g g2 := ⟨fun a b z => (k.1 a b z).trans (h.1 a b z), fun z => k.2 (h.2 z)⟩
theorem sh_up {q i : Nat} {v : Int} (h : q ≠ 137) (h1 : q ≠ 151) (k : sh_k g) : sh_k (mz_up g q i v) := by
  unfold sh_k
  rw [up_k (Ne.symm h), up_k (Ne.symm h)]
  exact ⟨k.1, fun j => by rw [up_k (Ne.symm h1)]; exact k.2 j⟩
theorem step_p (h : sh_k g) : p7_ g (zF_X12_stepOn g) := by
  obtain ⟨⟨h0, h1, h2⟩, hb⟩ := h
  obtain ⟨⟨t1, -⟩, f⟩ := X12_stepOn h0 h1 h2 (fun a => hb a.toNat)
  have l := tk_tok_len t1
  refine ⟨fun a b z => f a b (by unfold fw_rt; omega), fun _ => ⟨⟨by omega, ?_, ?_⟩, fun j => ?_⟩⟩
  · rw [f 137 17 (by unfold fw_rt; omega)]; exact l.2.2.2.1
  · rw [f 137 17 (by unfold fw_rt; omega)]; exact h2
  · rw [f 151 j (by unfold fw_rt; omega)]; exact hb j
theorem wrong_p {v : Int} : p7_ g (zF_X12_wrong v g) := by
  unfold zF_X12_wrong
  simp only [zf_lq]
  split
  · refine ⟨fun a b z => (up_k z).trans (up_k z), fun ⟨h, k⟩ => ?_⟩
    unfold sh_k
    rw [up_j (by decide), up_j (by decide), up_j (by decide), up_j (by decide)]
    exact ⟨h, fun j => by rw [up_k (by decide), up_k (by decide)]; exact k j⟩
  · exact p7_rf
theorem nn59 {a b : Int} : (zJ_X12_numberNow_59 a b g).2 = g := by
  unfold zJ_X12_numberNow_59
  simp only [zf_lq]
  split <;> rfl
theorem nn_p {a b : Int} : p7_ g (zF_X12_numberNow a b g).2 := by
  unfold zF_X12_numberNow zJ_X12_numberNow_54
  simp only [zf_lq]
  split
  · split
    · split
      · rw [nn59]; exact wrong_p
      · split
        · rw [nn59]; exact wrong_p
        · split
          · rw [nn59]; exact wrong_p
          · rw [nn59]; exact p7_rf
    · rw [nn59]; exact wrong_p
  · exact p7_rf
theorem rn_p {a b : Int} (h : sh_k g) : p7_ g (zF_X12_readNumber a b g).2 := by
  unfold zF_X12_readNumber zJ_X12_readNumber_18 zf_m2
  simp only [zf_lq]
  have n := nn_p (g := g) (a := a) (b := b)
  generalize zF_X12_numberNow a b g = q at *
  split
  · exact p7_tr n (step_p (n.2 h))
  · exact n
theorem rw31 {l : Int} (h : sh_k g) : p7_ g (zJ_X12_readWhich_31 l g).2 := by
  unfold zJ_X12_readWhich_31 zJ_X12_readWhich_42
  simp only [zf_lq]
  split
  · exact step_p h
  · exact p7_rf
theorem rw_p (h : sh_k g) : p7_ g (zF_X12_readWhich g).2 := by
  unfold zF_X12_readWhich zf_m2
  simp only [zf_lq]
  have n := nn_p (g := g) (a := 0) (b := 9999)
  generalize zF_X12_numberNow 0 9999 g = q at *
  split
  · split
    · exact p7_tr n (rw31 (n.2 h))
    · exact p7_tr n (p7_tr wrong_p (rw31 (wrong_p.2 (n.2 h))))
  · exact p7_tr n (rw31 (n.2 h))
theorem an_p {k m : Int} (h : sh_k g) : p7_ g (zF_X12_another k m g).2 := by
  have J : ∀ g : mz_G, sh_k g → p7_ g (zJ_X12_another_17 k m g).2 := fun g h => by
    unfold zJ_X12_another_17
    simp only [zf_lq]
    split
    · exact step_p h
    · exact p7_rf
  unfold zF_X12_another
  simp only [zf_lq]
  split
  · exact p7_tr wrong_p (J _ (wrong_p.2 h))
  · exact J g h
theorem mark_p {c : Int} (h : sh_k g) : p7_ g (zF_X12_mark c g) := by
  have J : ∀ g : mz_G, sh_k g → p7_ g (zJ_X12_mark_20 c g) := fun g h => by
    unfold zJ_X12_mark_20
    simp only [zf_lq]
    split
    · exact step_p h
    · exact p7_rf
  unfold zF_X12_mark
  simp only [zf_lq]
  split
  · split
    · exact p7_tr wrong_p (J _ (wrong_p.2 h))
    · exact J g h
  · exact J g h
/-- the lower halves stay, and it may be gone on reading -/
def ls_ (g g1 : mz_G) : Prop := lw_k g g1 ∧ (sh_k g → sh_k g1)
theorem ls_rf : ls_ g g := ⟨lw_rf, id⟩
theorem ls_tr (h : ls_ g g1) (k : ls_ g1 g2) : ls_ g g2 := ⟨lw_tr h.1 k.1, fun z => k.2 (h.2 z)⟩
theorem ls_p (h : p7_ g g1) : ls_ g g1 := ⟨lw_p h, h.2⟩
theorem ls_up {q i : Nat} {v : Int} (h : ¬ ((q = 141 ∧ i < 64) ∨ (q = 143 ∧ i < 8) ∨ (q = 144 ∧ i < 6) ∨ (q = 148 ∧ i < 8))) (h1 : q ≠ 137 := by decide) (h2 : q ≠ 151 := by decide) : ls_ g (mz_up g q i v) := ⟨lw_up h, sh_up h1 h2⟩
theorem wc_l {l1 l2 : Int} (h1 : 8 ≤ l1) (h : sh_k g) : ls_ g (wc_k l1 l2 g) := by
  unfold wc_k zf_m2
  simp only [zf_lq]
  have s1 : sh_k (mz_up g 142 l1.toNat l2) := sh_up (by decide) (by decide) h
  have p1 := step_p s1
  have p2 := rn_p (a := 0) (b := 9) (p1.2 s1)
  generalize zF_X12_stepOn (mz_up g 142 l1.toNat l2) = g13 at *
  generalize zF_X12_readNumber 0 9 g13 = q at *
  exact ls_tr (ls_tr (ls_tr (ls_tr (ls_up (by omega)) (ls_p p1)) (ls_p p2)) (ls_up (by omega))) (ls_up (by omega))
theorem sw_l (h : sh_k g) (h4 : 0 ≤ g 140 4) : ls_ g (zF_X12_sayWord g) := by
  have J : ∀ (g : mz_G) (l1 l2 : Int), 8 ≤ l1 → sh_k g → ls_ g (zJ_X12_sayWord_74 l1 l2 g) := fun g l1 l2 h1 h => by
    unfold zJ_X12_sayWord_74
    simp only [zf_lq]
    split
    · obtain ⟨g1, e, f, -, lo⟩ := L12_word84 (g0 := g) (l1 := l1) (l2 := l2) (by omega) 9 3000000000 0 g (by decide) (by decide) (by decide) (by decide) fr_rf (fun j z => by omega) (fun _ _ => rfl)
      rw [e]
      have s1 : sh_k g1 := by
        unfold sh_k
        rw [f 137 16 (by decide), f 137 17 (by decide)]
        exact ⟨h.1, fun j => by rw [f 151 j (show ¬ (151 : Nat) = 141 by decide)]; exact h.2 j⟩
      refine ls_tr ⟨⟨fun j hj => lo j (by omega), fun j _ => f _ _ (show ¬ (143 : Nat) = 141 by decide), fun j _ => f _ _ (show ¬ (144 : Nat) = 141 by decide), fun j _ => f _ _ (show ¬ (148 : Nat) = 141 by decide)⟩, fun _ => s1⟩ (wc_l h1 s1)
    · exact ls_rf
  unfold zF_X12_sayWord zf_m2
  simp only [zf_lq]
  have n := an_p (k := 0) (m := 8) h
  generalize zF_X12_another 0 8 g = q at *
  have e4 : q.2 140 4 = g 140 4 := n.1 _ _ (by decide)
  have s := n.2 h
  split
  · exact ls_p n
  · rw [e4]
    split
    · split
      · exact ls_tr (ls_p n) (ls_tr (ls_p wrong_p) (J _ _ _ (by omega) (wrong_p.2 s)))
      · split
        · exact ls_tr (ls_p n) (J _ _ _ (by omega) s)
        · exact ls_tr (ls_p n) (ls_tr (ls_p wrong_p) (J _ _ _ (by omega) (wrong_p.2 s)))
    · exact ls_tr (ls_p n) (ls_tr (ls_p wrong_p) (J _ _ _ (by omega) (wrong_p.2 s)))
theorem sk_l {v : Int} (h : sh_k g) (h5 : 0 ≤ g 140 5) : ls_ g (zF_X12_sayTrunk v g) := by
  unfold zF_X12_sayTrunk zf_m2
  simp only [zf_lq]
  have n := an_p (k := 1) (m := 6) h
  generalize zF_X12_another 1 6 g = q at *
  have e5 : q.2 140 5 = g 140 5 := n.1 _ _ (by decide)
  have s := n.2 h
  split
  · exact ls_p n
  · rw [e5]
    have s1 : sh_k (mz_up q.2 144 (6 + g 140 5).toNat v) := sh_up (by decide) (by decide) s
    have w1 := rw_p s1
    have l1 : ls_ g (mz_up q.2 144 (6 + g 140 5).toNat v) := ls_tr (ls_p n) (ls_up (by omega))
    generalize mz_up q.2 144 (6 + g 140 5).toNat v = g4 at *
    generalize zF_X12_readWhich g4 = q5 at *
    have s2 : sh_k (mz_up q5.2 145 (6 + g 140 5).toNat q5.1) := sh_up (by decide) (by decide) (w1.2 s1)
    have w2 := rw_p s2
    have l2 : ls_ g (mz_up q5.2 145 (6 + g 140 5).toNat q5.1) := ls_tr l1 (ls_tr (ls_p w1) (ls_up (by omega)))
    generalize mz_up q5.2 145 (6 + g 140 5).toNat q5.1 = g7 at *
    generalize zF_X12_readWhich g7 = q8 at *
    have s3 : sh_k (mz_up q8.2 146 (6 + g 140 5).toNat q8.1) := sh_up (by decide) (by decide) (w2.2 s2)
    have w3 := rn_p (a := 0) (b := 9) s3
    have l3 : ls_ g (mz_up q8.2 146 (6 + g 140 5).toNat q8.1) := ls_tr l2 (ls_tr (ls_p w2) (ls_up (by omega)))
    generalize mz_up q8.2 146 (6 + g 140 5).toNat q8.1 = g10 at *
    generalize zF_X12_readNumber 0 9 g10 = q11 at *
    exact ls_tr l3 (ls_tr (ls_p w3) (ls_tr (ls_up (by omega)) (ls_up (by omega))))
theorem ht17_l : ∀ (m k : Nat) (g : mz_G), (g 137 22 = 0 → 9 - (g 140 6).toNat ≤ m) → m < k → sh_k g → 0 ≤ g 140 6 → g 140 6 ≤ 8 → ls_ g (zL_X12_sayHeat_17 k g) := by
  intro m
  induction m with
  | zero =>
    intro k g hm hk s t0 t8
    obtain ⟨k, rfl⟩ : ∃ k1, k = k1 + 1 := ⟨k - 1, by omega⟩
    rw [zL_X12_sayHeat_17_s]
    unfold zB_X12_sayHeat_17
    simp only [zf_lq]
    rw [if_neg (fun z => by have := hm z; omega)]
    exact ls_rf
  | succ m ih =>
    intro k g hm hk s t0 t8
    obtain ⟨k, rfl⟩ : ∃ k1, k = k1 + 1 := ⟨k - 1, by omega⟩
    rw [zL_X12_sayHeat_17_s]
    unfold zB_X12_sayHeat_17
    simp only [zf_lq]
    by_cases hb : g 137 22 = 0
    · rw [if_pos hb]
      have m1 := hm hb
      by_cases h2 : g 137 18 = 2
      · rw [if_pos h2]
        have J : ∀ g' : mz_G, sh_k g' → g' 140 6 = g 140 6 → (g 140 6 = 8 → g' 137 22 ≠ 0) → ls_ g' (zJ_X12_sayHeat_49 (zL_X12_sayHeat_17 k) g') := fun g' s' e6 h8 => by
          unfold zJ_X12_sayHeat_49 zf_m2
          simp only [zf_lq]
          have n := rn_p (a := 0) (b := 9) s'
          have bad : g' 137 22 ≠ 0 → (zF_X12_readNumber 0 9 g').2 137 22 ≠ 0 := fun z => by rw [(num_bad z).1]; exact z
          generalize zF_X12_readNumber 0 9 g' = q at *
          have E6 : q.2 140 6 = g 140 6 := (n.1 _ _ (by decide)).trans e6
          have K : ∀ h : mz_G, sh_k h → h 140 6 = g 140 6 → (g 140 6 = 8 → h 137 22 ≠ 0) → ls_ h (zJ_X12_sayHeat_80 (zL_X12_sayHeat_17 k) h) := fun h sh h6 h8' => by
            unfold zJ_X12_sayHeat_80 zJ_X12_sayHeat_100
            simp only [zf_lq]
            by_cases hz : h 137 22 = 0
            · rw [if_pos hz]
              refine ls_tr (ls_up (by omega)) (ih k _ (fun _ => ?_) (by omega) (sh_up (by decide) (by decide) sh) ?_ ?_)
              · rw [show ((6 : Int).toNat) = 6 from rfl, mz_up_at]; omega
              · rw [show ((6 : Int).toNat) = 6 from rfl, mz_up_at]; omega
              · rw [show ((6 : Int).toNat) = 6 from rfl, mz_up_at]
                have := fun z => h8' z hz
                omega
            · rw [if_neg hz]
              refine ls_tr (ls_up (by omega)) (ih k _ (fun z => absurd ((up_k (by decide)).symm.trans z) hz) (by omega) (sh_up (by decide) (by decide) sh) ?_ ?_)
              · rw [show ((6 : Int).toNat) = 6 from rfl, mz_up_at]; omega
              · rw [show ((6 : Int).toNat) = 6 from rfl, mz_up_at]; omega
          split
          · rw [E6]
            refine ls_tr (ls_tr (ls_p n) (ls_up (by omega))) (K _ (sh_up (by decide) (by decide) (n.2 s')) ((up_k (by decide)).trans E6) (fun z => ?_))
            rw [up_k (by decide)]
            exact bad (h8 z)
          · exact ls_tr (ls_p n) (K _ (n.2 s') E6 (fun z => bad (h8 z)))
        by_cases h8 : g 140 6 = 8
        · rw [if_pos h8]
          exact ls_tr (ls_p wrong_p) (J _ (wrong_p.2 s) (wrong_p.1 _ _ (by decide)) (fun _ => by rw [(wrong_at hb).1]; decide))
        · rw [if_neg h8]
          exact J g s rfl (fun z => absurd z h8)
      · rw [if_neg h2]; exact ls_rf
    · rw [if_neg hb]; exact ls_rf
theorem sl_l (h : sh_k g) (h6 : 0 ≤ g 140 6) (h8 : g 140 6 ≤ 8) : ls_ g (zF_X12_sayHeat g) := by
  unfold zF_X12_sayHeat
  simp only [zf_lq]
  have p := step_p h
  have e : zF_X12_stepOn g 140 6 = g 140 6 := p.1 _ _ (by decide)
  generalize zF_X12_stepOn g = g1 at *
  split
  · exact ls_tr (ls_p p) (ht17_l 9 3000000000 g1 (fun _ => by omega) (by decide) (p.2 h) (by omega) (by omega))
  · have e2 : zF_X12_wrong 1 g1 140 6 = g1 140 6 := wrong_p.1 _ _ (by decide)
    exact ls_tr (ls_p p) (ls_tr (ls_p wrong_p) (ht17_l 9 3000000000 _ (fun _ => by omega) (by decide) (wrong_p.2 (p.2 h)) (by omega) (by omega)))
theorem rl127 {d s : Int} (h : sh_k g) : ls_ g (zJ_X12_readLine_127 d s g).2 := by
  unfold zJ_X12_readLine_127
  simp only [zf_lq]
  exact ls_p (mark_p h)
end LW
