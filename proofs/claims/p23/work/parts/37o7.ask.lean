/-! WHAT IS ASKED of the reference leaves it as it was (7): look, game -/
section YF
variable {x : mm_X} {g g0 g1 g2 gA gB : mz_G} {q : Nat}
theorem look_i {a1 l2 : Int} (c6 : g0 140 1 ≤ 6) : ∀ (m k : Nat) (l3 : Int) (g : mz_G), (6 - l3).toNat = m → m < k → (∀ a b : Nat, a ≠ 171 → g a b = g0 a b) → ∀ a b : Nat, a ≠ 171 → zL_X12_look_96 a1 k l2 l3 g a b = g0 a b := by
  intro m
  induction m with
  | zero =>
    intro k l3 g hm hk f
    obtain ⟨k, rfl⟩ : ∃ k1, k = k1 + 1 := ⟨k - 1, by omega⟩
    rw [zL_X12_look_96_s]
    unfold zB_X12_look_96
    simp only [zf_lq]
    rw [if_neg (by rw [f 140 1 (by decide)]; omega)]
    exact f
  | succ m ih =>
    intro k l3 g hm hk f
    obtain ⟨k, rfl⟩ : ∃ k1, k = k1 + 1 := ⟨k - 1, by omega⟩
    rw [zL_X12_look_96_s]
    unfold zB_X12_look_96
    simp only [zf_lq]
    split
    · exact ih k (l3 + 1) _ (by omega) (by omega) (fun a b z => (up_k z).trans (f a b z))
    · exact f
theorem look_e {a1 : Int} : ∀ (m k : Nat) (l2 l3 l4 : Int), (6 - l4).toNat = m → m < k → g 140 1 ≤ 6 → (zL_X12_look_151 a1 g k l2 l3 l4).2 = g := by
  intro m
  induction m with
  | zero =>
    intro k l2 l3 l4 hm hk c
    obtain ⟨k, rfl⟩ : ∃ k1, k = k1 + 1 := ⟨k - 1, by omega⟩
    rw [zL_X12_look_151_s]
    unfold zB_X12_look_151
    simp only [zf_lq]
    rw [if_neg (by omega)]
    split <;> rfl
  | succ m ih =>
    intro k l2 l3 l4 hm hk c
    obtain ⟨k, rfl⟩ : ∃ k1, k = k1 + 1 := ⟨k - 1, by omega⟩
    rw [zL_X12_look_151_s]
    unfold zB_X12_look_151 zJ_X12_look_193
    simp only [zf_lq]
    split
    · split
      · exact ih k _ _ _ (by omega) (by omega) c
      · exact ih k _ _ _ (by omega) (by omega) c
    · split <;> rfl
theorem look_o (K : kr g0) {a1 n : Int} : ∀ (m k : Nat) (l2 : Int) (g : mz_G), (n - l2).toNat = m → m < k → g 137 50 = n → qk 162 g0 g → sm5 g0 g → sm5 g0 (zL_X12_look_57 a1 k l2 g).2 := by
  intro m
  induction m with
  | zero =>
    intro k l2 g hm hk e q s
    obtain ⟨k, rfl⟩ : ∃ k1, k = k1 + 1 := ⟨k - 1, by omega⟩
    rw [zL_X12_look_57_s]
    unfold zB_X12_look_57
    simp only [zf_lq]
    rw [if_neg (by omega), look_e (6 - 0 : Int).toNat 3000000000 (-1) 0 0 rfl (by decide) (kr_e q.1 K).2.2]
    exact s
  | succ m ih =>
    intro k l2 g hm hk e q s
    obtain ⟨k, rfl⟩ : ∃ k1, k = k1 + 1 := ⟨k - 1, by omega⟩
    rw [zL_X12_look_57_s]
    unfold zB_X12_look_57
    simp only [zf_lq]
    split
    · generalize (g 170 l2.toNat / 10).toNat = v10
      generalize g 170 l2.toNat % 10 = v12
      have q1 : qk 162 g0 (mz_up g 155 v10 v12) := qk_fr (fun a b z => up_k (by omega)) q
      have e1 : mz_up g 155 v10 v12 137 50 = n := (up_k (by decide)).trans e
      generalize mz_up g 155 v10 v12 = g2 at *
      have K2 := kr_e q1.1 K
      have q2 := qk_go K (Or.inl rfl) (n := 6) (by decide) (by decide) q1
      have e2 : zF_X12_goOn 6 g2 137 50 = n := (go_f K2 (by decide) (by decide) (by unfold fz; omega)).trans e1
      generalize zF_X12_goOn 6 g2 = g3 at *
      have L := look_i (a1 := a1) (l2 := l2) (g0 := g3) (kr_e q2.1 K).2.2 (6 - 0 : Int).toNat 3000000000 0 g3 rfl (by decide) (fun _ _ _ => rfl)
      generalize zL_X12_look_96 a1 3000000000 l2 0 g3 = g4 at *
      obtain ⟨R1, R2⟩ := qk_rec (Or.inl rfl) (qk_fr (fun a b z => L a b (by omega)) q2)
      obtain ⟨-, -, r3⟩ := recall_B (g := g4) (q := 162) (nq := 25) (p := 0) (by omega) (by decide)
      have e5 : zF_X12_recall 162 25 0 g4 137 50 = n := (r3 137 50 (by omega) (by omega)).trans ((L 137 50 (by decide)).trans e2)
      generalize zF_X12_recall 162 25 0 g4 = g5 at *
      exact ih k (l2 + 1) g5 (by omega) (by omega) e5 R2 R1
    · rw [look_e (6 - 0 : Int).toNat 3000000000 (-1) 0 0 rfl (by decide) (kr_e q.1 K).2.2]
      exact s
theorem look_b (K : kr g0) {a1 n : Int} (hn : n ≤ 60) : ∀ (m k : Nat) (l2 : Int) (g : mz_G), (6 - l2).toNat = m → m < k → g 137 50 = n → qk 162 g0 g → sm5 g0 g → sm5 g0 (zL_X12_look_36 a1 k l2 g).2 := by
  intro m
  induction m with
  | zero =>
    intro k l2 g hm hk e q s
    obtain ⟨k, rfl⟩ : ∃ k1, k = k1 + 1 := ⟨k - 1, by omega⟩
    rw [zL_X12_look_36_s]
    unfold zB_X12_look_36
    simp only [zf_lq]
    rw [if_neg (by omega)]
    exact look_o K (n - 0).toNat 3000000000 0 g rfl (by omega) e q s
  | succ m ih =>
    intro k l2 g hm hk e q s
    obtain ⟨k, rfl⟩ : ∃ k1, k = k1 + 1 := ⟨k - 1, by omega⟩
    rw [zL_X12_look_36_s]
    unfold zB_X12_look_36
    simp only [zf_lq]
    split
    · exact ih k (l2 + 1) _ (by omega) (by omega) ((up_k (by decide)).trans e) (qk_fr (fun a b z => up_k (by omega)) q) (sm_tr s (sm_fr fun a b z => up_k (by omega)))
    · exact look_o K (n - 0).toNat 3000000000 0 g rfl (by omega) e q s
theorem look_s (hx : mk_x x) (I : mz_inv g) (K : kr g) (w : sn_b g) (d9 : g 137 30 ≤ 999) {a1 : Int} : sm5 g (zF_X12_look a1 g).2 := by
  refine sm_tr (sm_2 (v := 0)) ?_
  have I1 := inv_2 I (v := 0) (by decide) (by decide)
  have K1 : kr (mz_up g 137 2 0) := kr_e (g0 := g) (fun a b u v => up_k (by omega)) K
  have w1 : sn_b (mz_up g 137 2 0) := ⟨by rw [up_j (by decide)]; exact w.1, fun j => by rw [up_k (by decide)]; exact w.2 j⟩
  have d1 : mz_up g 137 2 0 137 30 ≤ 999 := by rw [up_j (by decide)]; exact d9
  unfold zF_X12_look
  simp only [zf_lq]
  rw [isI_B]
  generalize mz_up g 137 2 0 = b1 at *
  by_cases h : 0 ≤ a1 ∧ a1 ≤ 1
  · rw [if_pos h, i10]
    have f := fits_s K1 w1
    obtain ⟨g5, i5, -, -, e5⟩ := q_X12_tellFits hx I1 K1.1 d1
    rw [e5] at f ⊢
    have s6 := sto_s (q := 162) (g := g5) (Or.inl rfl)
    have q6 := qk_sto (q := 162) (g := g5) (Or.inl rfl)
    obtain ⟨-, -, s3⟩ := store_B (g := g5) (q := 162) (nq := 25) (p := 0) (by omega) (by decide)
    have e6 : zF_X12_store 162 25 0 g5 137 50 = g5 137 50 := s3 137 50 (by omega)
    generalize zF_X12_store 162 25 0 g5 = g6 at *
    have K5 := ff_kr K1 f
    have n60 := i5 137 50
    rw [show mz_bd 137 50 = (0, 60) from rfl] at n60
    exact sm_tr f.1 (look_b K5 (n := g5 137 50) n60.2 (6 - 0 : Int).toNat 3000000000 0 g6 rfl (by decide) e6 q6 s6)
  · rw [if_neg h, i00]; exact fail_s
/-- game -/
theorem gain_l (K : kr g0) {a1 a2 : Int} : ∀ (m k : Nat) (l3 : Int) (g : mz_G), (4 - l3).toNat = m → m < k → qk 162 g0 g → sm5 g0 g → sm5 g0 (zL_X12_tellGains_11 a1 a2 k l3 g) ∧ qk 162 g0 (zL_X12_tellGains_11 a1 a2 k l3 g) := by
  intro m
  induction m with
  | zero =>
    intro k l3 g hm hk q s
    obtain ⟨k, rfl⟩ : ∃ k1, k = k1 + 1 := ⟨k - 1, by omega⟩
    rw [zL_X12_tellGains_11_s]
    unfold zB_X12_tellGains_11
    rw [if_neg (by omega)]
    exact ⟨s, q⟩
  | succ m ih =>
    intro k l3 g hm hk q s
    obtain ⟨k, rfl⟩ : ∃ k1, k = k1 + 1 := ⟨k - 1, by omega⟩
    rw [zL_X12_tellGains_11_s]
    unfold zB_X12_tellGains_11
    split
    · have N : ∀ g : mz_G, qk 162 g0 g → sm5 g0 (zJ_X12_tellGains_46 a1 a2 (zL_X12_tellGains_11 a1 a2 k) l3 g) ∧ qk 162 g0 (zJ_X12_tellGains_46 a1 a2 (zL_X12_tellGains_11 a1 a2 k) l3 g) := fun g q => by
        unfold zJ_X12_tellGains_46
        simp only [zf_lq]
        have q2 := qk_go K (Or.inl rfl) (n := 4) (by decide) (by decide) q
        generalize zF_X12_goOn 4 g = g6 at *
        generalize zF_X12_blendSize a1 g6 = v7
        generalize zF_X12_blendSize a2 g6 = v8
        obtain ⟨R1, R2⟩ := qk_rec (Or.inl rfl) (qk_fr (g1 := mz_up (mz_up g6 172 (2 * l3).toNat ((v7 - v8) - l3 / 2)) 172 (2 * l3 + 1).toNat ((-(v7 - v8)) - l3 % 2)) (fun a b z => (up_k (by omega)).trans (up_k (by omega))) q2)
        exact ih k (l3 + 1) _ (by omega) (by omega) R2 R1
      have M : ∀ g : mz_G, qk 162 g0 g → sm5 g0 (zJ_X12_tellGains_31 a1 a2 (zL_X12_tellGains_11 a1 a2 k) l3 g) ∧ qk 162 g0 (zJ_X12_tellGains_31 a1 a2 (zL_X12_tellGains_11 a1 a2 k) l3 g) := fun g q => by
        unfold zJ_X12_tellGains_31
        simp only [zf_lq]
        split
        · exact N _ (qk_fr (fun a b z => up_k (by omega)) q)
        · exact N _ q
      simp only [zf_lq]
      split
      · exact M _ (qk_fr (fun a b z => up_k (by omega)) q)
      · exact M _ q
    · exact ⟨s, q⟩
theorem game_l {a1 a2 a3 : Int} : ∀ (m k : Nat) (l4 l5 l6 : Int), (4 - l6).toNat = m → m < k → (zL_X12_game_63 a1 a2 a3 g k l4 l5 l6).2 = g := by
  intro m
  induction m with
  | zero =>
    intro k l4 l5 l6 hm hk
    obtain ⟨k, rfl⟩ : ∃ k1, k = k1 + 1 := ⟨k - 1, by omega⟩
    rw [zL_X12_game_63_s]
    unfold zB_X12_game_63
    rw [if_neg (by omega)]
    split <;> rfl
  | succ m ih =>
    intro k l4 l5 l6 hm hk
    obtain ⟨k, rfl⟩ : ∃ k1, k = k1 + 1 := ⟨k - 1, by omega⟩
    rw [zL_X12_game_63_s]
    unfold zB_X12_game_63 zJ_X12_game_148 zJ_X12_game_150
    simp only [zf_lq]
    split
    · split
      · exact ih k _ _ _ (by omega) (by omega)
      · split
        · exact ih k _ _ _ (by omega) (by omega)
        · split
          · exact ih k _ _ _ (by omega) (by omega)
          · exact ih k _ _ _ (by omega) (by omega)
    · split <;> rfl
theorem game_s (K : kr g) {a1 a2 a3 : Int} : sm5 g (zF_X12_game a1 a2 a3 g).2 := by
  refine sm_tr (sm_2 (v := 0)) ?_
  have K1 : kr (mz_up g 137 2 0) := kr_e (g0 := g) (fun a b u v => up_k (by omega)) K
  unfold zF_X12_game zJ_X12_game_31
  simp only [zf_lq]
  rw [isT_B, isT_B, isI_B]
  generalize mz_up g 137 2 0 = b1 at *
  by_cases h1 : 0 ≤ a1 ∧ a1 < b1 140 1
  · rw [if_pos h1, i10]
    by_cases h2 : 0 ≤ a2 ∧ a2 < b1 140 1
    · rw [if_pos h2, i10]
      by_cases h3 : 0 ≤ a3 ∧ a3 ≤ 1
      · rw [if_pos h3, i10]
        by_cases h4 : a1 = a2
        · rw [if_pos h4]; exact fail_s
        · rw [if_neg h4]
          have s : sm5 b1 (zF_X12_tellGains a1 a2 b1) := by
            unfold zF_X12_tellGains
            simp only [zf_lq]
            exact (gain_l K1 (4 - 0 : Int).toNat 3000000000 0 _ rfl (by decide) (qk_sto (Or.inl rfl)) (sto_s (Or.inl rfl))).1
          generalize zF_X12_tellGains a1 a2 b1 = g9 at *
          rw [game_l (4 - 0 : Int).toNat 3000000000 0 (-1) 0 rfl (by decide)]
          exact s
      · rw [if_neg h3, i00]; exact fail_s
    · rw [if_neg h2, i00]; exact fail_s
  · rw [if_neg h1, i00]; exact fail_s
end YF
