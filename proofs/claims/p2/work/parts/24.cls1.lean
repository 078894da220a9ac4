/-! CONTRACTS OF THE CLASS, by program (wip/p2/tools/gen23.py) -/
theorem c_J0_charAt {d : Nat} (hd : 4 ≤ d) {x : mm_X} (hx : mk_x x) {g : mz_G} (hI : mz_inv g) {q0 : Nat} (h_q0 : q0 < 28) {a1 : Int} (l_a1 : (-2147483648) ≤ a1) (u_a1 : a1 ≤ 2147483647) (p1 : 0 ≤ a1 ∧ a1 < (mz_sl q0 : Int)) {Q : (Option Value ⊕ Nat) → mm_H → Prop} (hQ : ∀ (r : Int), 0 ≤ r → r ≤ 255 → Q (.inl (some (.int (Int32.ofInt r)))) (mz_mk g x)) : mm_C d 294 [.ref (1000 + q0), .int (Int32.ofInt a1)] (mz_mk g x) Q := by
  refine ⟨mmJ0_charAt, [some (.ref (1000 + q0)), some (.int (Int32.ofInt a1))], rfl, rfl, ?_⟩
  refine mm_g 1 (pc1 := 1) (lo1 := [some (.ref (1000 + q0)), some (.int (Int32.ofInt a1))]) (st1 := [.ref (1000 + q0)]) (H1 := mz_mk g x) rfl ?_
  refine mz_cv rfl mt_16_492 (by decide) (kc_str h_q0 _) rfl (Nat.le_of_ble_eq_true rfl) (by omega) (c_J0_isLatin1 (by omega) hx hI h_q0 (fun v1 l_v1 u_v1 hp2 => ⟨_, rfl, ?_⟩))
  show mm_W d mmJ0_charAt 4 [some (.ref (1000 + q0)), some (.int (Int32.ofInt a1))] [.int (Int32.ofInt v1)] (mz_mk g x) Q
  refine mz_if_eq (tgt := 16) rfl rfl (mz_rg l_v1 u_v1) (fun c4_2 => ?_) (fun c4_2 => ?_)
  · exfalso; omega
  · skip
    refine mm_g 1 (pc1 := 8) (lo1 := [some (.ref (1000 + q0)), some (.int (Int32.ofInt a1))]) (st1 := [.ref (1000 + q0)]) (H1 := mz_mk g x) rfl ?_
    refine mz_sfv rfl rfl rfl (kc_str h_q0 _) ?_
    refine mm_g 1 (pc1 := 12) (lo1 := [some (.ref (1000 + q0)), some (.int (Int32.ofInt a1))]) (st1 := [.int (Int32.ofInt a1), .ref ((1000 + q0) + 1000)]) (H1 := mz_mk g x) rfl ?_
    refine mz_cs rfl mt_16_495 (by decide) rfl (Nat.le_of_ble_eq_true rfl) (by omega) (c_J1_charAt (by omega) hx hI h_q0 l_a1 u_a1 (by omega) (fun v3 l_v3 u_v3 => ⟨_, rfl, ?_⟩))
    show mm_W d mmJ0_charAt 15 [some (.ref (1000 + q0)), some (.int (Int32.ofInt a1))] [.int (Int32.ofInt v3)] (mz_mk g x) Q
    exact mz_rtC rfl rfl (by omega) (by omega) (hQ _ (by omega) (by omega))
theorem c_X7_spells {d : Nat} (hd : 5 ≤ d) {x : mm_X} (hx : mk_x x) {g : mz_G} (hI : mz_inv g) {q1 : Nat} (h_q1 : q1 < 28) {Q : (Option Value ⊕ Nat) → mm_H → Prop} (hQ : ∀ (r : Int), 0 ≤ r → r ≤ 1 → Q (.inl (some (.int (Int32.ofInt r)))) (mz_mk g x)) : mm_C d 92 [.ref 82, .ref (1000 + q1)] (mz_mk g x) Q := by
  refine ⟨mmX7_spells, [some (.ref 82), some (.ref (1000 + q1)), none], rfl, rfl, ?_⟩
  refine mm_g 1 (pc1 := 1) (lo1 := [some (.ref 82), some (.ref (1000 + q1)), none]) (st1 := [.ref 82]) (H1 := mz_mk g x) rfl ?_
  refine mz_gI rfl fd_7_25 (by decide) (sc_82 _) hI bd_82_4 (fun v1 e_v1 l_v1 u_v1 => ?_)
  refine mm_g 1 (pc1 := 5) (lo1 := [some (.ref 82), some (.ref (1000 + q1)), none]) (st1 := [.int (Int32.ofInt 1), .int (Int32.ofInt v1)]) (H1 := mz_mk g x) rfl ?_
  refine mz_ic_ne (tgt := 19) rfl rfl (mz_rg l_v1 u_v1) ⟨by decide, by decide⟩ (fun c5_1 => ?_) (fun c5_1 => ?_)
  · skip
    refine mm_g 1 (pc1 := 20) (lo1 := [some (.ref 82), some (.ref (1000 + q1)), none]) (st1 := [.int (Int32.ofInt 0)]) (H1 := mz_mk g x) rfl ?_
    exact mz_rtZ rfl (by decide) (by omega) (hQ _ (by decide) (by decide))
  · skip
    refine mm_g 1 (pc1 := 9) (lo1 := [some (.ref 82), some (.ref (1000 + q1)), none]) (st1 := [.ref 82]) (H1 := mz_mk g x) rfl ?_
    refine mz_cv rfl mt_7_57 (by decide) (sc_82 _) rfl (Nat.le_of_ble_eq_true rfl) (by omega) (c_X7_tokenSize (by omega) hx hI (fun v2 l_v2 u_v2 => ⟨_, rfl, ?_⟩))
    show mm_W d mmX7_spells 12 [some (.ref 82), some (.ref (1000 + q1)), none] [.int (Int32.ofInt v2)] (mz_mk g x) Q
    refine mm_g 1 (pc1 := 13) (lo1 := [some (.ref 82), some (.ref (1000 + q1)), none]) (st1 := [.ref (1000 + q1), .int (Int32.ofInt v2)]) (H1 := mz_mk g x) rfl ?_
    refine mz_cv rfl mt_7_61 (by decide) (kc_str h_q1 _) rfl (Nat.le_of_ble_eq_true rfl) (by omega) (c_J0_length (by omega) hx hI h_q1 (fun v3 l_v3 u_v3 hp4 => ⟨_, rfl, ?_⟩))
    show mm_W d mmX7_spells 16 [some (.ref 82), some (.ref (1000 + q1)), none] [.int (Int32.ofInt v3), .int (Int32.ofInt v2)] (mz_mk g x) Q
    refine mz_ic_eq (tgt := 21) rfl rfl (mz_rg l_v2 u_v2) (mz_rg l_v3 u_v3) (fun c16_4 => ?_) (fun c16_4 => ?_)
    · skip
      refine mm_g 2 (pc1 := 23) (lo1 := [some (.ref 82), some (.ref (1000 + q1)), some (.int (Int32.ofInt 0))]) (st1 := []) (H1 := mz_mk g x) rfl ?_
      have L9 : ∀ n8 : Nat, ∀ (v5 : Int), (100 - v5).toNat = n8 → 0 ≤ v5 → v5 ≤ 100 → mm_W d mmX7_spells 23 [some (.ref 82), some (.ref (1000 + q1)), some (.int (Int32.ofInt v5))] [] (mz_mk g x) Q := by
        intro n8
        induction n8 using Nat.strongRecOn with
        | ind n8 ih7 =>
        intro v5 hmn8 l_v5 u_v5
        refine mm_g 2 (pc1 := 25) (lo1 := [some (.ref 82), some (.ref (1000 + q1)), some (.int (Int32.ofInt v5))]) (st1 := [.ref (1000 + q1), .int (Int32.ofInt v5)]) (H1 := mz_mk g x) rfl ?_
        refine mz_cv rfl mt_7_61 (by decide) (kc_str h_q1 _) rfl (Nat.le_of_ble_eq_true rfl) (by omega) (c_J0_length (by omega) hx hI h_q1 (fun v10 l_v10 u_v10 hp11 => ⟨_, rfl, ?_⟩))
        show mm_W d mmX7_spells 28 [some (.ref 82), some (.ref (1000 + q1)), some (.int (Int32.ofInt v5))] [.int (Int32.ofInt v10), .int (Int32.ofInt v5)] (mz_mk g x) Q
        refine mz_ic_ge (tgt := 57) rfl rfl (mz_rg l_v5 u_v5) (mz_rg l_v10 u_v10) (fun c28_11 => ?_) (fun c28_11 => ?_)
        · skip
          refine mm_g 1 (pc1 := 58) (lo1 := [some (.ref 82), some (.ref (1000 + q1)), some (.int (Int32.ofInt v5))]) (st1 := [.int (Int32.ofInt 1)]) (H1 := mz_mk g x) rfl ?_
          exact mz_rtZ rfl (by decide) (by omega) (hQ _ (by decide) (by decide))
        · skip
          refine mm_g 2 (pc1 := 33) (lo1 := [some (.ref 82), some (.ref (1000 + q1)), some (.int (Int32.ofInt v5))]) (st1 := [.ref 82, .ref 82]) (H1 := mz_mk g x) rfl ?_
          refine mz_gI rfl fd_7_28 (by decide) (sc_82 _) hI bd_82_5 (fun v12 e_v12 l_v12 u_v12 => ?_)
          refine mm_g 1 (pc1 := 37) (lo1 := [some (.ref 82), some (.ref (1000 + q1)), some (.int (Int32.ofInt v5))]) (st1 := [.int (Int32.ofInt v5), .int (Int32.ofInt v12), .ref 82]) (H1 := mz_mk g x) rfl ?_
          refine mz_iadd rfl ?_
          refine mz_cv rfl mt_7_37 (by decide) (sc_82 _) rfl (Nat.le_of_ble_eq_true rfl) (by omega) (c_X7_byteAt (by omega) hx hI (by omega) (by omega) (fun v13 l_v13 u_v13 => ⟨_, rfl, ?_⟩))
          show mm_W d mmX7_spells 41 [some (.ref 82), some (.ref (1000 + q1)), some (.int (Int32.ofInt v5))] [.int (Int32.ofInt v13)] (mz_mk g x) Q
          refine mm_g 2 (pc1 := 43) (lo1 := [some (.ref 82), some (.ref (1000 + q1)), some (.int (Int32.ofInt v5))]) (st1 := [.int (Int32.ofInt v5), .ref (1000 + q1), .int (Int32.ofInt v13)]) (H1 := mz_mk g x) rfl ?_
          refine mz_cv rfl mt_7_65 (by decide) (kc_str h_q1 _) rfl (Nat.le_of_ble_eq_true rfl) (by omega) (c_J0_charAt (by omega) hx hI h_q1 (by omega) (by omega) (by omega) (fun v14 l_v14 u_v14 => ⟨_, rfl, ?_⟩))
          show mm_W d mmX7_spells 46 [some (.ref 82), some (.ref (1000 + q1)), some (.int (Int32.ofInt v5))] [.int (Int32.ofInt v14), .int (Int32.ofInt v13)] (mz_mk g x) Q
          refine mz_ic_eq (tgt := 51) rfl rfl (mz_rg l_v13 u_v13) (mz_rg l_v14 u_v14) (fun c46_14 => ?_) (fun c46_14 => ?_)
          · skip
            refine mz_iincR (v := v5) (lo2 := [some (.ref 82), some (.ref (1000 + q1)), some (.int (Int32.ofInt (v5 + 1)))]) rfl rfl rfl (Nat.le_of_ble_eq_true rfl) rfl ?_
            refine mz_gt (tgt := 23) rfl rfl ?_
            exact ih7 ((100 - (v5 + 1)).toNat) (by omega) (v5 + 1) rfl (by omega) (by omega)
          · skip
            refine mm_g 1 (pc1 := 50) (lo1 := [some (.ref 82), some (.ref (1000 + q1)), some (.int (Int32.ofInt v5))]) (st1 := [.int (Int32.ofInt 0)]) (H1 := mz_mk g x) rfl ?_
            exact mz_rtZ rfl (by decide) (by omega) (hQ _ (by decide) (by decide))
      exact L9 _ 0 rfl (by decide) (by decide)
    · skip
      refine mm_g 1 (pc1 := 20) (lo1 := [some (.ref 82), some (.ref (1000 + q1)), none]) (st1 := [.int (Int32.ofInt 0)]) (H1 := mz_mk g x) rfl ?_
      exact mz_rtZ rfl (by decide) (by omega) (hQ _ (by decide) (by decide))
theorem c_X10_many {d : Nat} (hd : 1 ≤ d) {x : mm_X} (hx : mk_x x) {g : mz_G} (hI : mz_inv g) {q0 : Nat} (h_q0 : kd_words q0) {Q : (Option Value ⊕ Nat) → mm_H → Prop} (hQ : ∀ (r : Int), 0 ≤ r → r ≤ 8 → Q (.inl (some (.int (Int32.ofInt r)))) (mz_mk g x)) : mm_C d 106 [.ref q0] (mz_mk g x) Q := by
  have kn_q0 := kn_words h_q0
  refine ⟨mmX10_many, [some (.ref q0)], rfl, rfl, ?_⟩
  refine mm_g 1 (pc1 := 1) (lo1 := [some (.ref q0)]) (st1 := [.ref q0]) (H1 := mz_mk g x) rfl ?_
  refine mz_gI rfl fd_10_28 (by decide) (kc_words h_q0 _) hI (kb_words_3 h_q0) (fun v1 e_v1 l_v1 u_v1 => ?_)
  exact mm_rt rfl rfl (hQ _ (by omega) (by omega))
theorem c_X7_start {d : Nat} (hd : 1 ≤ d) {x : mm_X} (hx : mk_x x) {g : mz_G} (hI : mz_inv g) {Q : (Option Value ⊕ Nat) → mm_H → Prop} (hQ : ∀ (r : Int), 0 ≤ r → r ≤ 700 → Q (.inl (some (.int (Int32.ofInt r)))) (mz_mk g x)) : mm_C d 89 [.ref 82] (mz_mk g x) Q := by
  refine ⟨mmX7_start, [some (.ref 82)], rfl, rfl, ?_⟩
  refine mm_g 1 (pc1 := 1) (lo1 := [some (.ref 82)]) (st1 := [.ref 82]) (H1 := mz_mk g x) rfl ?_
  refine mz_gI rfl fd_7_28 (by decide) (sc_82 _) hI bd_82_5 (fun v1 e_v1 l_v1 u_v1 => ?_)
  exact mm_rt rfl rfl (hQ _ (by omega) (by omega))
def fw_X4_blame (x : mm_X) (a1 : Int) : Nat → Nat → Prop := fun k j => (k = 81 ∧ j = 1) ∨ (k = 81 ∧ j = 2)
theorem c_X4_blame {d : Nat} (hd : 2 ≤ d) {x : mm_X} (hx : mk_x x) {g : mz_G} (hI : mz_inv g) {a1 : Int} (l_a1 : (-2147483648) ≤ a1) (u_a1 : a1 ≤ 2147483647) {Q : (Option Value ⊕ Nat) → mm_H → Prop} (hQ : ∀ (r : Int) (g1 : mz_G), mz_inv g1 → mz_fr (fw_X4_blame x a1) g g1 → 0 ≤ r → r ≤ 0 → Q (.inl (some (.int (Int32.ofInt r)))) (mz_mk g1 x)) : mm_C d 40 [.ref 81, .int (Int32.ofInt a1)] (mz_mk g x) Q := by
  refine ⟨mmX4_blame, [some (.ref 81), some (.int (Int32.ofInt a1))], rfl, rfl, ?_⟩
  refine mm_g 2 (pc1 := 2) (lo1 := [some (.ref 81), some (.int (Int32.ofInt a1))]) (st1 := [.int (Int32.ofInt a1), .ref 81]) (H1 := mz_mk g x) rfl ?_
  refine mz_pI rfl fd_4_18 (sc_81 _) hI bd_81_1 (by omega) (by omega) (fun g1 hIg1 hug1 => ?_)
  refine mm_g 2 (pc1 := 7) (lo1 := [some (.ref 81), some (.int (Int32.ofInt a1))]) (st1 := [.ref 81, .ref 81]) (H1 := mz_mk g1 x) rfl ?_
  refine mz_fgR (v := 82) rfl fd_4_12 (by decide) (sc_81 _) (rf_81_0 _ _ _) ?_
  refine mz_cv rfl mt_4_52 (by decide) (sc_82 _) rfl (Nat.le_of_ble_eq_true rfl) (by omega) (c_X7_start (by omega) hx hIg1 (fun v2 l_v2 u_v2 => ⟨_, rfl, ?_⟩))
  show mm_W d mmX4_blame 13 [some (.ref 81), some (.int (Int32.ofInt a1))] [.int (Int32.ofInt v2), .ref 81] (mz_mk g1 x) Q
  refine mz_pI rfl fd_4_22 (sc_81 _) hIg1 bd_81_2 (by omega) (by omega) (fun g3 hIg3 hug3 => ?_)
  refine mm_g 1 (pc1 := 17) (lo1 := [some (.ref 81), some (.int (Int32.ofInt a1))]) (st1 := [.int (Int32.ofInt 0)]) (H1 := mz_mk g3 x) rfl ?_
  exact mz_rtZ rfl (by decide) (by omega) (hQ _ _ hIg3 (fun k j hk => ((hug3.2 k j (fun h => hk (Or.inr h))).trans (hug1.2 k j (fun h => hk (Or.inl h))))) (by decide) (by decide))
theorem c_X10_of {d : Nat} (hd : 1 ≤ d) {x : mm_X} (hx : mk_x x) {g : mz_G} (hI : mz_inv g) {q0 : Nat} (h_q0 : kd_words q0) {a1 : Int} (l_a1 : (-2147483648) ≤ a1) (u_a1 : a1 ≤ 2147483647) {Q : (Option Value ⊕ Nat) → mm_H → Prop} (hQ : ∀ (r : Nat), kd_let r → (q0 + 2 ≤ r ∧ r ≤ q0 + 23) → Q (.inl (some (.ref r))) (mz_mk g x)) : mm_C d 107 [.ref q0, .int (Int32.ofInt a1)] (mz_mk g x) Q := by
  have kn_q0 := kn_words h_q0
  refine ⟨mmX10_of, [some (.ref q0), some (.int (Int32.ofInt a1))], rfl, rfl, ?_⟩
  refine mm_g 1 (pc1 := 1) (lo1 := [some (.ref q0), some (.int (Int32.ofInt a1))]) (st1 := [.int (Int32.ofInt a1)]) (H1 := mz_mk g x) rfl ?_
  refine mz_if_lt (tgt := 22) rfl rfl (mz_rg l_a1 u_a1) (fun c1_0 => ?_) (fun c1_0 => ?_)
  · skip
    refine mm_g 1 (pc1 := 23) (lo1 := [some (.ref q0), some (.int (Int32.ofInt a1))]) (st1 := [.ref q0]) (H1 := mz_mk g x) rfl ?_
    refine mz_fgR (v := (q0 + 2)) rfl fd_10_20 (by decide) (kc_words h_q0 _) (kr_words_1 h_q0 _ _ _) ?_
    exact mm_rt rfl rfl (hQ _ (ks_words_1 h_q0) (by omega))
  · skip
    refine mm_g 2 (pc1 := 6) (lo1 := [some (.ref q0), some (.int (Int32.ofInt a1))]) (st1 := [.ref q0, .int (Int32.ofInt a1)]) (H1 := mz_mk g x) rfl ?_
    refine mz_fgR (v := (q0 + 1)) rfl fd_10_11 (by decide) (kc_words h_q0 _) (kr_words_0 h_q0 _ _ _) ?_
    refine mz_al rfl (ka_words_0 h_q0 _) (by decide) ?_
    refine mz_ic_ge (tgt := 22) rfl rfl (mz_rg l_a1 u_a1) ⟨by omega, by omega⟩ (fun c10_0 => ?_) (fun c10_0 => ?_)
    · skip
      refine mm_g 1 (pc1 := 23) (lo1 := [some (.ref q0), some (.int (Int32.ofInt a1))]) (st1 := [.ref q0]) (H1 := mz_mk g x) rfl ?_
      refine mz_fgR (v := (q0 + 2)) rfl fd_10_20 (by decide) (kc_words h_q0 _) (kr_words_1 h_q0 _ _ _) ?_
      exact mm_rt rfl rfl (hQ _ (ks_words_1 h_q0) (by omega))
    · skip
      refine mm_g 1 (pc1 := 14) (lo1 := [some (.ref q0), some (.int (Int32.ofInt a1))]) (st1 := [.ref q0]) (H1 := mz_mk g x) rfl ?_
      refine mz_fgR (v := (q0 + 1)) rfl fd_10_11 (by decide) (kc_words h_q0 _) (kr_words_0 h_q0 _ _ _) ?_
      refine mm_g 1 (pc1 := 18) (lo1 := [some (.ref q0), some (.int (Int32.ofInt a1))]) (st1 := [.int (Int32.ofInt a1), .ref (q0 + 1)]) (H1 := mz_mk g x) rfl ?_
      obtain ⟨u1, e_u1, k_u1, r1_u1, r2_u1⟩ := kw_words x h_q0 (a := a1) (by omega) (by omega)
      refine mz_aa rfl (ka_words_0 h_q0 _) (by decide) (by omega) (by omega) (by decide) e_u1 ?_
      refine mz_nn (tgt := 27) rfl rfl ?_
      refine mm_g 1 (pc1 := 28) (lo1 := [some (.ref q0), some (.int (Int32.ofInt a1))]) (st1 := [.ref q0]) (H1 := mz_mk g x) rfl ?_
      refine mz_fgR (v := (q0 + 1)) rfl fd_10_11 (by decide) (kc_words h_q0 _) (kr_words_0 h_q0 _ _ _) ?_
      refine mm_g 1 (pc1 := 32) (lo1 := [some (.ref q0), some (.int (Int32.ofInt a1))]) (st1 := [.int (Int32.ofInt a1), .ref (q0 + 1)]) (H1 := mz_mk g x) rfl ?_
      obtain ⟨u2, e_u2, k_u2, r1_u2, r2_u2⟩ := kw_words x h_q0 (a := a1) (by omega) (by omega)
      refine mz_aa rfl (ka_words_0 h_q0 _) (by decide) (by omega) (by omega) (by decide) e_u2 ?_
      exact mm_rt rfl rfl (hQ _ k_u2 (by omega))
def fw_X0_empty (x : mm_X) (q0 : Nat) : Nat → Nat → Prop := fun k j => k = q0
theorem c_X0_empty {d : Nat} (hd : 1 ≤ d) {x : mm_X} (hx : mk_x x) {g : mz_G} (hI : mz_inv g) {q0 : Nat} (h_q0 : kd_let q0) {Q : (Option Value ⊕ Nat) → mm_H → Prop} (hQ : ∀ (g1 : mz_G), mz_inv g1 → mz_fr (fw_X0_empty x q0) g g1 → Q (.inl none) (mz_mk g1 x)) : mm_C d 1 [.ref q0] (mz_mk g x) Q := by
  have kn_q0 := kn_let h_q0
  refine ⟨mmX0_empty, [some (.ref q0)], rfl, rfl, ?_⟩
  refine mm_g 2 (pc1 := 2) (lo1 := [some (.ref q0)]) (st1 := [.int (Int32.ofInt 0), .ref q0]) (H1 := mz_mk g x) rfl ?_
  refine mz_pI rfl fd_0_7 (kc_let h_q0 _) hI (kb_let_1 h_q0) (by omega) (by omega) (fun g1 hIg1 hug1 => ?_)
  exact mm_rt rfl rfl (hQ _ hIg1 (fun k j hk => (hug1.2 k j (fun h => hk h.1))))
def fw_X11_put (x : mm_X) (q1 : Nat) (a2 : Int) (a3 : Int) : Nat → Nat → Prop := fun k j => k = q1
theorem c_X11_put {d : Nat} (hd : 1 ≤ d) {x : mm_X} (hx : mk_x x) {g : mz_G} (hI : mz_inv g) {q1 n_q1 : Nat} {lb_q1 ub_q1 : Int} (h_q1 : mm_SH x.2.2.2.1 q1 = (100, n_q1)) (m_q1 : n_q1 ≤ 2048) (b_q1 : ∀ j, mz_bd q1 j = (lb_q1, ub_q1)) (y_q1 : lb_q1 ≤ 0) (z_q1 : 0 ≤ ub_q1) {a2 : Int} (l_a2 : (-2147483648) ≤ a2) (u_a2 : a2 ≤ 2147483647) {a3 : Int} (l_a3 : (-2147483648) ≤ a3) (u_a3 : a3 ≤ 2147483647) (p1 : lb_q1 ≤ a3) (p2 : a3 ≤ ub_q1) {Q : (Option Value ⊕ Nat) → mm_H → Prop} (hQ : ∀ (g1 : mz_G), mz_inv g1 → mz_fr (fw_X11_put x q1 a2 a3) g g1 → Q (.inl none) (mz_mk g1 x)) : mm_C d 177 [.ref q1, .int (Int32.ofInt a2), .int (Int32.ofInt a3)] (mz_mk g x) Q := by
  have kx := kn_x hx
  refine ⟨mmX11_put, [some (.ref q1), some (.int (Int32.ofInt a2)), some (.int (Int32.ofInt a3))], rfl, rfl, ?_⟩
  refine mm_g 1 (pc1 := 1) (lo1 := [some (.ref q1), some (.int (Int32.ofInt a2)), some (.int (Int32.ofInt a3))]) (st1 := [.ref q1]) (H1 := mz_mk g x) rfl ?_
  refine mz_nu rfl ?_
  refine mm_g 1 (pc1 := 5) (lo1 := [some (.ref q1), some (.int (Int32.ofInt a2)), some (.int (Int32.ofInt a3))]) (st1 := [.int (Int32.ofInt a2)]) (H1 := mz_mk g x) rfl ?_
  refine mz_if_lt (tgt := 18) rfl rfl (mz_rg l_a2 u_a2) (fun c5_0 => ?_) (fun c5_0 => ?_)
  · skip
    exact mm_rt rfl rfl (hQ _ hI (fun _ _ _ => rfl))
  · skip
    refine mm_g 2 (pc1 := 10) (lo1 := [some (.ref q1), some (.int (Int32.ofInt a2)), some (.int (Int32.ofInt a3))]) (st1 := [.ref q1, .int (Int32.ofInt a2)]) (H1 := mz_mk g x) rfl ?_
    refine mz_al rfl h_q1 (by decide) ?_
    refine mz_ic_ge (tgt := 18) rfl rfl (mz_rg l_a2 u_a2) ⟨by omega, by omega⟩ (fun c11_0 => ?_) (fun c11_0 => ?_)
    · skip
      exact mm_rt rfl rfl (hQ _ hI (fun _ _ _ => rfl))
    · skip
      refine mm_g 3 (pc1 := 17) (lo1 := [some (.ref q1), some (.int (Int32.ofInt a2)), some (.int (Int32.ofInt a3))]) (st1 := [.int (Int32.ofInt a3), .int (Int32.ofInt a2), .ref q1]) (H1 := mz_mk g x) rfl ?_
      refine mz_sI rfl h_q1 (by omega) (by omega) (by omega) hI (b_q1 _) (by omega) (by omega) (fun g1 hIg1 hug1 => ?_)
      exact mm_rt rfl rfl (hQ _ hIg1 (fun k j hk => (hug1.2 k j (fun h => hk h.1))))
def fw_X0_addLetter (x : mm_X) (q0 : Nat) (a1 : Int) : Nat → Nat → Prop := fun k j => k = (q0 + 1) ∨ k = q0
theorem c_X0_addLetter {d : Nat} (hd : 2 ≤ d) {x : mm_X} (hx : mk_x x) {g : mz_G} (hI : mz_inv g) {q0 : Nat} (h_q0 : kd_let q0) {a1 : Int} (l_a1 : (-2147483648) ≤ a1) (u_a1 : a1 ≤ 2147483647) {Q : (Option Value ⊕ Nat) → mm_H → Prop} (hQ : ∀ (g1 : mz_G), mz_inv g1 → mz_fr (fw_X0_addLetter x q0 a1) g g1 → Q (.inl none) (mz_mk g1 x)) : mm_C d 2 [.ref q0, .int (Int32.ofInt a1)] (mz_mk g x) Q := by
  have kn_q0 := kn_let h_q0
  refine ⟨mmX0_addLetter, [some (.ref q0), some (.int (Int32.ofInt a1))], rfl, rfl, ?_⟩
  refine mm_g 1 (pc1 := 1) (lo1 := [some (.ref q0), some (.int (Int32.ofInt a1))]) (st1 := [.ref q0]) (H1 := mz_mk g x) rfl ?_
  refine mz_gI rfl fd_0_7 (by decide) (kc_let h_q0 _) hI (kb_let_1 h_q0) (fun v1 e_v1 l_v1 u_v1 => ?_)
  refine mm_g 1 (pc1 := 5) (lo1 := [some (.ref q0), some (.int (Int32.ofInt a1))]) (st1 := [.ref q0, .int (Int32.ofInt v1)]) (H1 := mz_mk g x) rfl ?_
  refine mz_fgR (v := (q0 + 1)) rfl fd_0_13 (by decide) (kc_let h_q0 _) (kr_let_0 h_q0 _ _ _) ?_
  obtain ⟨n2, hn_n2, m_n2⟩ := kl_let h_q0 x.2.2.2.1
  have mm_n2 : n2 ≤ 100000 := by omega
  refine mz_al rfl hn_n2 (by decide) ?_
  refine mz_ic_ge (tgt := 34) rfl rfl (mz_rg l_v1 u_v1) ⟨by omega, by omega⟩ (fun c9_2 => ?_) (fun c9_2 => ?_)
  · skip
    exact mm_rt rfl rfl (hQ _ hI (fun _ _ _ => rfl))
  · skip
    refine mm_g 1 (pc1 := 13) (lo1 := [some (.ref q0), some (.int (Int32.ofInt a1))]) (st1 := [.ref q0]) (H1 := mz_mk g x) rfl ?_
    refine mz_fgR (v := (q0 + 1)) rfl fd_0_13 (by decide) (kc_let h_q0 _) (kr_let_0 h_q0 _ _ _) ?_
    obtain ⟨n3, hn_n3, m_n3⟩ := kl_let h_q0 x.2.2.2.1
    have mm_n3 : n3 ≤ 100000 := by omega
    refine mm_g 1 (pc1 := 17) (lo1 := [some (.ref q0), some (.int (Int32.ofInt a1))]) (st1 := [.ref q0, .ref (q0 + 1)]) (H1 := mz_mk g x) rfl ?_
    refine mz_fgI (v := v1) rfl fd_0_7 (by decide) (kc_let h_q0 _) e_v1 ?_
    refine mm_g 1 (pc1 := 21) (lo1 := [some (.ref q0), some (.int (Int32.ofInt a1))]) (st1 := [.int (Int32.ofInt a1), .int (Int32.ofInt v1), .ref (q0 + 1)]) (H1 := mz_mk g x) rfl ?_
    refine mz_cs rfl mt_0_17 (by decide) rfl (Nat.le_of_ble_eq_true rfl) (by omega) (c_X11_put (by omega) hx hI hn_n3 (by omega) (kba_let_0 h_q0) (by omega) (by omega) (by omega) (by omega) l_a1 u_a1 (by omega) (by omega) (fun g4 hIg4 hfg4 => ⟨_, rfl, ?_⟩))
    show mm_W d mmX0_addLetter 24 [some (.ref q0), some (.int (Int32.ofInt a1))] [] (mz_mk g4 x) Q
    refine mm_g 2 (pc1 := 26) (lo1 := [some (.ref q0), some (.int (Int32.ofInt a1))]) (st1 := [.ref q0, .ref q0]) (H1 := mz_mk g4 x) rfl ?_
    refine mz_fgI (v := v1) rfl fd_0_7 (by decide) (kc_let h_q0 _) (show g4 q0 1 = v1 from ((hfg4 q0 1 (fun h => (by have h9 : q0 = (q0 + 1) := h; omega))).trans e_v1)) ?_
    refine mm_g 1 (pc1 := 30) (lo1 := [some (.ref q0), some (.int (Int32.ofInt a1))]) (st1 := [.int (Int32.ofInt 1), .int (Int32.ofInt v1), .ref q0]) (H1 := mz_mk g4 x) rfl ?_
    refine mz_iadd rfl ?_
    refine mz_pI rfl fd_0_7 (kc_let h_q0 _) hIg4 (kb_let_1 h_q0) (by omega) (by omega) (fun g5 hIg5 hug5 => ?_)
    exact mm_rt rfl rfl (hQ _ hIg5 (fun k j hk => ((hug5.2 k j (fun h => hk (Or.inr h.1))).trans (hfg4 k j (fun h => hk (Or.inl h))))))
def fl_X7_spellInto_9 (x : mm_X) (q1 : Nat) : Nat → Nat → Prop := fun k j => k = (q1 + 1) ∨ k = q1
def fw_X7_spellInto (x : mm_X) (q1 : Nat) : Nat → Nat → Prop := fun k j => k = q1 ∨ k = (q1 + 1)
theorem c_X7_spellInto {d : Nat} (hd : 3 ≤ d) {x : mm_X} (hx : mk_x x) {g : mz_G} (hI : mz_inv g) {q1 : Nat} (h_q1 : kd_let q1) {Q : (Option Value ⊕ Nat) → mm_H → Prop} (hQ : ∀ (g1 : mz_G), mz_inv g1 → mz_fr (fw_X7_spellInto x q1) g g1 → Q (.inl none) (mz_mk g1 x)) : mm_C d 93 [.ref 82, .ref q1] (mz_mk g x) Q := by
  have kn_q1 := kn_let h_q1
  refine ⟨mmX7_spellInto, [some (.ref 82), some (.ref q1), none], rfl, rfl, ?_⟩
  refine mm_g 1 (pc1 := 1) (lo1 := [some (.ref 82), some (.ref q1), none]) (st1 := [.ref q1]) (H1 := mz_mk g x) rfl ?_
  refine mz_cv rfl mt_7_69 (by decide) (kc_let h_q1 _) rfl (Nat.le_of_ble_eq_true rfl) (by omega) (c_X0_empty (by omega) hx hI h_q1 (fun g1 hIg1 hfg1 => ⟨_, rfl, ?_⟩))
  show mm_W d mmX7_spellInto 4 [some (.ref 82), some (.ref q1), none] [] (mz_mk g1 x) Q
  refine mm_g 1 (pc1 := 5) (lo1 := [some (.ref 82), some (.ref q1), none]) (st1 := [.ref 82]) (H1 := mz_mk g1 x) rfl ?_
  refine mz_gI rfl fd_7_28 (by decide) (sc_82 _) hIg1 bd_82_5 (fun v2 e_v2 l_v2 u_v2 => ?_)
  refine mm_g 1 (pc1 := 9) (lo1 := [some (.ref 82), some (.ref q1), some (.int (Int32.ofInt v2))]) (st1 := []) (H1 := mz_mk g1 x) rfl ?_
  have L7 : ∀ n6 : Nat, ∀ (v3 : Int) (g4 : mz_G), (700 - v3).toNat = n6 → 0 ≤ v3 → v3 ≤ 700 → mz_inv g4 → mz_fr (fl_X7_spellInto_9 x q1) g1 g4 → mm_W d mmX7_spellInto 9 [some (.ref 82), some (.ref q1), some (.int (Int32.ofInt v3))] [] (mz_mk g4 x) Q := by
    intro n6
    induction n6 using Nat.strongRecOn with
    | ind n6 ih5 =>
    intro v3 g4 hmn6 l_v3 u_v3 hIg4 hfg4
    refine mm_g 2 (pc1 := 11) (lo1 := [some (.ref 82), some (.ref q1), some (.int (Int32.ofInt v3))]) (st1 := [.ref 82, .int (Int32.ofInt v3)]) (H1 := mz_mk g4 x) rfl ?_
    refine mz_gI rfl fd_7_22 (by decide) (sc_82 _) hIg4 bd_82_3 (fun v8 e_v8 l_v8 u_v8 => ?_)
    refine mz_ic_ge (tgt := 37) rfl rfl (mz_rg l_v3 u_v3) (mz_rg l_v8 u_v8) (fun c14_8 => ?_) (fun c14_8 => ?_)
    · skip
      exact mm_rt rfl rfl (hQ _ hIg4 (fun k j hk => ((hfg4 k j (fun h => hk (Or.elim h (fun h => (Or.inr h)) (fun h => (Or.inl h))))).trans (hfg1 k j (fun h => hk (Or.inl h))))))
    · skip
      refine mm_g 3 (pc1 := 20) (lo1 := [some (.ref 82), some (.ref q1), some (.int (Int32.ofInt v3))]) (st1 := [.int (Int32.ofInt v3), .ref 82, .ref q1]) (H1 := mz_mk g4 x) rfl ?_
      refine mz_cv rfl mt_7_37 (by decide) (sc_82 _) rfl (Nat.le_of_ble_eq_true rfl) (by omega) (c_X7_byteAt (by omega) hx hIg4 (by omega) (by omega) (fun v9 l_v9 u_v9 => ⟨_, rfl, ?_⟩))
      show mm_W d mmX7_spellInto 23 [some (.ref 82), some (.ref q1), some (.int (Int32.ofInt v3))] [.int (Int32.ofInt v9), .ref q1] (mz_mk g4 x) Q
      refine mz_bip rfl bip_97 ?_
      refine mz_isub rfl ?_
      refine mm_g 1 (pc1 := 27) (lo1 := [some (.ref 82), some (.ref q1), some (.int (Int32.ofInt v3))]) (st1 := [.int (Int32.ofInt 1), .int (Int32.ofInt (v9 - 97)), .ref q1]) (H1 := mz_mk g4 x) rfl ?_
      refine mz_iadd rfl ?_
      refine mz_cv rfl mt_7_74 (by decide) (kc_let h_q1 _) rfl (Nat.le_of_ble_eq_true rfl) (by omega) (c_X0_addLetter (by omega) hx hIg4 h_q1 (by omega) (by omega) (fun g10 hIg10 hfg10 => ⟨_, rfl, ?_⟩))
      show mm_W d mmX7_spellInto 31 [some (.ref 82), some (.ref q1), some (.int (Int32.ofInt v3))] [] (mz_mk g10 x) Q
      refine mz_iincR (v := v3) (lo2 := [some (.ref 82), some (.ref q1), some (.int (Int32.ofInt (v3 + 1)))]) rfl rfl rfl (Nat.le_of_ble_eq_true rfl) rfl ?_
      refine mz_gt (tgt := 9) rfl rfl ?_
      exact ih5 ((700 - (v3 + 1)).toNat) (by omega) (v3 + 1) g10 rfl (by omega) (by omega) hIg10 (fun k j hk => ((hfg10 k j (fun h => hk (Or.elim h (fun h => (Or.inl h)) (fun h => (Or.inr h))))).trans (hfg4 k j (fun h => hk (Or.elim h (fun h => (Or.inl h)) (fun h => (Or.inr h)))))))
  exact L7 _ v2 g1 rfl (by omega) (by omega) hIg1 (fun _ _ _ => rfl)
theorem c_X11_at {d : Nat} (hd : 1 ≤ d) {x : mm_X} (hx : mk_x x) {g : mz_G} (hI : mz_inv g) {q1 n_q1 : Nat} {lb_q1 ub_q1 : Int} (h_q1 : mm_SH x.2.2.2.1 q1 = (100, n_q1)) (m_q1 : n_q1 ≤ 2048) (b_q1 : ∀ j, mz_bd q1 j = (lb_q1, ub_q1)) (y_q1 : lb_q1 ≤ 0) (z_q1 : 0 ≤ ub_q1) {a2 : Int} (l_a2 : (-2147483648) ≤ a2) (u_a2 : a2 ≤ 2147483647) {Q : (Option Value ⊕ Nat) → mm_H → Prop} (hQ : ∀ (r : Int), lb_q1 ≤ r → r ≤ ub_q1 → Q (.inl (some (.int (Int32.ofInt r)))) (mz_mk g x)) : mm_C d 176 [.ref q1, .int (Int32.ofInt a2)] (mz_mk g x) Q := by
  have kx := kn_x hx
  refine ⟨mmX11_at, [some (.ref q1), some (.int (Int32.ofInt a2))], rfl, rfl, ?_⟩
  refine mm_g 1 (pc1 := 1) (lo1 := [some (.ref q1), some (.int (Int32.ofInt a2))]) (st1 := [.ref q1]) (H1 := mz_mk g x) rfl ?_
  refine mz_nu rfl ?_
  refine mm_g 1 (pc1 := 5) (lo1 := [some (.ref q1), some (.int (Int32.ofInt a2))]) (st1 := [.int (Int32.ofInt a2)]) (H1 := mz_mk g x) rfl ?_
  refine mz_if_lt (tgt := 20) rfl rfl (mz_rg l_a2 u_a2) (fun c5_0 => ?_) (fun c5_0 => ?_)
  · skip
    refine mm_g 1 (pc1 := 21) (lo1 := [some (.ref q1), some (.int (Int32.ofInt a2))]) (st1 := [.int (Int32.ofInt 0)]) (H1 := mz_mk g x) rfl ?_
    exact mm_rt rfl rfl (hQ _ (by omega) (by omega))
  · skip
    refine mm_g 2 (pc1 := 10) (lo1 := [some (.ref q1), some (.int (Int32.ofInt a2))]) (st1 := [.ref q1, .int (Int32.ofInt a2)]) (H1 := mz_mk g x) rfl ?_
    refine mz_al rfl h_q1 (by decide) ?_
    refine mz_ic_ge (tgt := 20) rfl rfl (mz_rg l_a2 u_a2) ⟨by omega, by omega⟩ (fun c11_0 => ?_) (fun c11_0 => ?_)
    · skip
      refine mm_g 1 (pc1 := 21) (lo1 := [some (.ref q1), some (.int (Int32.ofInt a2))]) (st1 := [.int (Int32.ofInt 0)]) (H1 := mz_mk g x) rfl ?_
      exact mm_rt rfl rfl (hQ _ (by omega) (by omega))
    · skip
      refine mm_g 2 (pc1 := 16) (lo1 := [some (.ref q1), some (.int (Int32.ofInt a2))]) (st1 := [.int (Int32.ofInt a2), .ref q1]) (H1 := mz_mk g x) rfl ?_
      refine mz_aI rfl h_q1 (by omega) (by omega) (by omega) hI (b_q1 _) (fun v1 e_v1 l_v1 u_v1 => ?_)
      refine mz_gt (tgt := 21) rfl rfl ?_
      exact mm_rt rfl rfl (hQ _ (by omega) (by omega))
theorem c_X0_matches {d : Nat} (hd : 2 ≤ d) {x : mm_X} (hx : mk_x x) {g : mz_G} (hI : mz_inv g) {q0 : Nat} (h_q0 : kd_let q0) {a1 : Int} (l_a1 : (-2147483648) ≤ a1) (u_a1 : a1 ≤ 2147483647) {q2 : Nat} (h_q2 : kd_let q2) {a3 : Int} (l_a3 : (-2147483648) ≤ a3) (u_a3 : a3 ≤ 2147483647) {Q : (Option Value ⊕ Nat) → mm_H → Prop} (hQ : ∀ (r : Int), 0 ≤ r → r ≤ 1 → Q (.inl (some (.int (Int32.ofInt r)))) (mz_mk g x)) : mm_C d 8 [.ref q0, .int (Int32.ofInt a1), .ref q2, .int (Int32.ofInt a3)] (mz_mk g x) Q := by
  have kn_q0 := kn_let h_q0
  have kn_q2 := kn_let h_q2
  refine ⟨mmX0_matches, [some (.ref q0), some (.int (Int32.ofInt a1)), some (.ref q2), some (.int (Int32.ofInt a3)), none], rfl, rfl, ?_⟩
  refine mm_g 2 (pc1 := 3) (lo1 := [some (.ref q0), some (.int (Int32.ofInt a1)), some (.ref q2), some (.int (Int32.ofInt a3)), some (.int (Int32.ofInt 0))]) (st1 := []) (H1 := mz_mk g x) rfl ?_
  have L5 : ∀ n4 : Nat, ∀ (v1 : Int), (2147483647 - v1).toNat = n4 → 0 ≤ v1 → v1 ≤ 2147483647 → mm_W d mmX0_matches 3 [some (.ref q0), some (.int (Int32.ofInt a1)), some (.ref q2), some (.int (Int32.ofInt a3)), some (.int (Int32.ofInt v1))] [] (mz_mk g x) Q := by
    intro n4
    induction n4 using Nat.strongRecOn with
    | ind n4 ih3 =>
    intro v1 hmn4 l_v1 u_v1
    refine mm_g 2 (pc1 := 6) (lo1 := [some (.ref q0), some (.int (Int32.ofInt a1)), some (.ref q2), some (.int (Int32.ofInt a3)), some (.int (Int32.ofInt v1))]) (st1 := [.int (Int32.ofInt a3), .int (Int32.ofInt v1)]) (H1 := mz_mk g x) rfl ?_
    refine mz_ic_ge (tgt := 40) rfl rfl (mz_rg l_v1 u_v1) (mz_rg l_a3 u_a3) (fun c6_5 => ?_) (fun c6_5 => ?_)
    · skip
      refine mm_g 1 (pc1 := 41) (lo1 := [some (.ref q0), some (.int (Int32.ofInt a1)), some (.ref q2), some (.int (Int32.ofInt a3)), some (.int (Int32.ofInt v1))]) (st1 := [.int (Int32.ofInt 1)]) (H1 := mz_mk g x) rfl ?_
      exact mz_rtZ rfl (by decide) (by omega) (hQ _ (by decide) (by decide))
    · skip
      refine mm_g 1 (pc1 := 10) (lo1 := [some (.ref q0), some (.int (Int32.ofInt a1)), some (.ref q2), some (.int (Int32.ofInt a3)), some (.int (Int32.ofInt v1))]) (st1 := [.ref q0]) (H1 := mz_mk g x) rfl ?_
      refine mz_fgR (v := (q0 + 1)) rfl fd_0_13 (by decide) (kc_let h_q0 _) (kr_let_0 h_q0 _ _ _) ?_
      obtain ⟨n6, hn_n6, m_n6⟩ := kl_let h_q0 x.2.2.2.1
      have mm_n6 : n6 ≤ 100000 := by omega
      refine mm_g 2 (pc1 := 16) (lo1 := [some (.ref q0), some (.int (Int32.ofInt a1)), some (.ref q2), some (.int (Int32.ofInt a3)), some (.int (Int32.ofInt v1))]) (st1 := [.int (Int32.ofInt v1), .int (Int32.ofInt a1), .ref (q0 + 1)]) (H1 := mz_mk g x) rfl ?_
      refine mz_iadd_w rfl (fun v7 _ hwv7 => ?_)
      have l_v7 := hwv7.1
      have u_v7 := hwv7.2
      refine mz_cs rfl mt_0_23 (by decide) rfl (Nat.le_of_ble_eq_true rfl) (by omega) (c_X11_at (by omega) hx hI hn_n6 (by omega) (kba_let_0 h_q0) (by omega) (by omega) l_v7 u_v7 (fun v8 l_v8 u_v8 => ⟨_, rfl, ?_⟩))
      show mm_W d mmX0_matches 20 [some (.ref q0), some (.int (Int32.ofInt a1)), some (.ref q2), some (.int (Int32.ofInt a3)), some (.int (Int32.ofInt v1))] [.int (Int32.ofInt v8)] (mz_mk g x) Q
      refine mm_g 1 (pc1 := 21) (lo1 := [some (.ref q0), some (.int (Int32.ofInt a1)), some (.ref q2), some (.int (Int32.ofInt a3)), some (.int (Int32.ofInt v1))]) (st1 := [.ref q2, .int (Int32.ofInt v8)]) (H1 := mz_mk g x) rfl ?_
      refine mz_fgR (v := (q2 + 1)) rfl fd_0_13 (by decide) (kc_let h_q2 _) (kr_let_0 h_q2 _ _ _) ?_
      obtain ⟨n9, hn_n9, m_n9⟩ := kl_let h_q2 x.2.2.2.1
      have mm_n9 : n9 ≤ 100000 := by omega
      refine mm_g 1 (pc1 := 26) (lo1 := [some (.ref q0), some (.int (Int32.ofInt a1)), some (.ref q2), some (.int (Int32.ofInt a3)), some (.int (Int32.ofInt v1))]) (st1 := [.int (Int32.ofInt v1), .ref (q2 + 1), .int (Int32.ofInt v8)]) (H1 := mz_mk g x) rfl ?_
      refine mz_cs rfl mt_0_23 (by decide) rfl (Nat.le_of_ble_eq_true rfl) (by omega) (c_X11_at (by omega) hx hI hn_n9 (by omega) (kba_let_0 h_q2) (by omega) (by omega) (by omega) (by omega) (fun v10 l_v10 u_v10 => ⟨_, rfl, ?_⟩))
      show mm_W d mmX0_matches 29 [some (.ref q0), some (.int (Int32.ofInt a1)), some (.ref q2), some (.int (Int32.ofInt a3)), some (.int (Int32.ofInt v1))] [.int (Int32.ofInt v10), .int (Int32.ofInt v8)] (mz_mk g x) Q
      refine mz_ic_eq (tgt := 34) rfl rfl (mz_rg l_v8 u_v8) (mz_rg l_v10 u_v10) (fun c29_10 => ?_) (fun c29_10 => ?_)
      · skip
        refine mz_iincR (v := v1) (lo2 := [some (.ref q0), some (.int (Int32.ofInt a1)), some (.ref q2), some (.int (Int32.ofInt a3)), some (.int (Int32.ofInt (v1 + 1)))]) rfl rfl rfl (Nat.le_of_ble_eq_true rfl) rfl ?_
        refine mz_gt (tgt := 3) rfl rfl ?_
        exact ih3 ((2147483647 - (v1 + 1)).toNat) (by omega) (v1 + 1) rfl (by omega) (by omega)
      · skip
        refine mm_g 1 (pc1 := 33) (lo1 := [some (.ref q0), some (.int (Int32.ofInt a1)), some (.ref q2), some (.int (Int32.ofInt a3)), some (.int (Int32.ofInt v1))]) (st1 := [.int (Int32.ofInt 0)]) (H1 := mz_mk g x) rfl ?_
        exact mz_rtZ rfl (by decide) (by omega) (hQ _ (by decide) (by decide))
  exact L5 _ 0 rfl (by decide) (by decide)
theorem c_X0_isSame {d : Nat} (hd : 3 ≤ d) {x : mm_X} (hx : mk_x x) {g : mz_G} (hI : mz_inv g) {q0 : Nat} (h_q0 : kd_let q0) {q1 : Nat} (h_q1 : kd_let q1) {Q : (Option Value ⊕ Nat) → mm_H → Prop} (hQ : ∀ (r : Int), 0 ≤ r → r ≤ 1 → Q (.inl (some (.int (Int32.ofInt r)))) (mz_mk g x)) : mm_C d 6 [.ref q0, .ref q1] (mz_mk g x) Q := by
  have kn_q0 := kn_let h_q0
  have kn_q1 := kn_let h_q1
  refine ⟨mmX0_isSame, [some (.ref q0), some (.ref q1)], rfl, rfl, ?_⟩
  refine mm_g 1 (pc1 := 1) (lo1 := [some (.ref q0), some (.ref q1)]) (st1 := [.ref q0]) (H1 := mz_mk g x) rfl ?_
  refine mz_gI rfl fd_0_7 (by decide) (kc_let h_q0 _) hI (kb_let_1 h_q0) (fun v1 e_v1 l_v1 u_v1 => ?_)
  refine mm_g 1 (pc1 := 5) (lo1 := [some (.ref q0), some (.ref q1)]) (st1 := [.ref q1, .int (Int32.ofInt v1)]) (H1 := mz_mk g x) rfl ?_
  refine mz_gI rfl fd_0_7 (by decide) (kc_let h_q1 _) hI (kb_let_1 h_q1) (fun v2 e_v2 l_v2 u_v2 => ?_)
  refine mz_ic_ne (tgt := 28) rfl rfl (mz_rg l_v1 u_v1) (mz_rg l_v2 u_v2) (fun c8_2 => ?_) (fun c8_2 => ?_)
  · skip
    refine mm_g 1 (pc1 := 29) (lo1 := [some (.ref q0), some (.ref q1)]) (st1 := [.int (Int32.ofInt 0)]) (H1 := mz_mk g x) rfl ?_
    exact mz_rtZ rfl (by decide) (by omega) (hQ _ (by decide) (by decide))
  · skip
    refine mm_g 4 (pc1 := 15) (lo1 := [some (.ref q0), some (.ref q1)]) (st1 := [.ref q0, .ref q1, .int (Int32.ofInt 0), .ref q0]) (H1 := mz_mk g x) rfl ?_
    refine mz_fgI (v := v1) rfl fd_0_7 (by decide) (kc_let h_q0 _) e_v1 ?_
    refine mz_cv rfl mt_0_27 (by decide) (kc_let h_q0 _) rfl (Nat.le_of_ble_eq_true rfl) (by omega) (c_X0_matches (by omega) hx hI h_q0 (by decide) (by decide) h_q1 (by omega) (by omega) (fun v3 l_v3 u_v3 => ⟨_, rfl, ?_⟩))
    show mm_W d mmX0_isSame 21 [some (.ref q0), some (.ref q1)] [.int (Int32.ofInt v3)] (mz_mk g x) Q
    refine mz_if_eq (tgt := 28) rfl rfl (mz_rg l_v3 u_v3) (fun c21_3 => ?_) (fun c21_3 => ?_)
    · skip
      refine mm_g 1 (pc1 := 29) (lo1 := [some (.ref q0), some (.ref q1)]) (st1 := [.int (Int32.ofInt 0)]) (H1 := mz_mk g x) rfl ?_
      exact mz_rtZ rfl (by decide) (by omega) (hQ _ (by decide) (by decide))
    · skip
      refine mm_g 1 (pc1 := 25) (lo1 := [some (.ref q0), some (.ref q1)]) (st1 := [.int (Int32.ofInt 1)]) (H1 := mz_mk g x) rfl ?_
      refine mz_gt (tgt := 29) rfl rfl ?_
      exact mz_rtZ rfl (by decide) (by omega) (hQ _ (by decide) (by decide))
theorem c_X10_hasAlready {d : Nat} (hd : 4 ≤ d) {x : mm_X} (hx : mk_x x) {g : mz_G} (hI : mz_inv g) {q0 : Nat} (h_q0 : kd_words q0) {q1 : Nat} (h_q1 : kd_let q1) {Q : (Option Value ⊕ Nat) → mm_H → Prop} (hQ : ∀ (r : Int), 0 ≤ r → r ≤ 1 → Q (.inl (some (.int (Int32.ofInt r)))) (mz_mk g x)) : mm_C d 108 [.ref q0, .ref q1] (mz_mk g x) Q := by
  have kn_q0 := kn_words h_q0
  have kn_q1 := kn_let h_q1
  refine ⟨mmX10_hasAlready, [some (.ref q0), some (.ref q1), none], rfl, rfl, ?_⟩
  refine mm_g 2 (pc1 := 2) (lo1 := [some (.ref q0), some (.ref q1), some (.int (Int32.ofInt 0))]) (st1 := []) (H1 := mz_mk g x) rfl ?_
  have L5 : ∀ n4 : Nat, ∀ (v1 : Int), (8 - v1).toNat = n4 → 0 ≤ v1 → v1 ≤ 8 → mm_W d mmX10_hasAlready 2 [some (.ref q0), some (.ref q1), some (.int (Int32.ofInt v1))] [] (mz_mk g x) Q := by
    intro n4
    induction n4 using Nat.strongRecOn with
    | ind n4 ih3 =>
    intro v1 hmn4 l_v1 u_v1
    refine mm_g 2 (pc1 := 4) (lo1 := [some (.ref q0), some (.ref q1), some (.int (Int32.ofInt v1))]) (st1 := [.ref q0, .int (Int32.ofInt v1)]) (H1 := mz_mk g x) rfl ?_
    refine mz_gI rfl fd_10_28 (by decide) (kc_words h_q0 _) hI (kb_words_3 h_q0) (fun v6 e_v6 l_v6 u_v6 => ?_)
    refine mz_ic_ge (tgt := 30) rfl rfl (mz_rg l_v1 u_v1) (mz_rg l_v6 u_v6) (fun c7_6 => ?_) (fun c7_6 => ?_)
    · skip
      refine mm_g 1 (pc1 := 31) (lo1 := [some (.ref q0), some (.ref q1), some (.int (Int32.ofInt v1))]) (st1 := [.int (Int32.ofInt 0)]) (H1 := mz_mk g x) rfl ?_
      exact mz_rtZ rfl (by decide) (by omega) (hQ _ (by decide) (by decide))
    · skip
      refine mm_g 2 (pc1 := 12) (lo1 := [some (.ref q0), some (.ref q1), some (.int (Int32.ofInt v1))]) (st1 := [.int (Int32.ofInt v1), .ref q0]) (H1 := mz_mk g x) rfl ?_
      refine mz_cv rfl mt_10_50 (by decide) (kc_words h_q0 _) rfl (Nat.le_of_ble_eq_true rfl) (by omega) (c_X10_of (by omega) hx hI h_q0 (by omega) (by omega) (fun u7 k_u7 hp8 => ⟨_, rfl, ?_⟩))
      show mm_W d mmX10_hasAlready 15 [some (.ref q0), some (.ref q1), some (.int (Int32.ofInt v1))] [.ref u7] (mz_mk g x) Q
      refine mm_g 1 (pc1 := 16) (lo1 := [some (.ref q0), some (.ref q1), some (.int (Int32.ofInt v1))]) (st1 := [.ref q1, .ref u7]) (H1 := mz_mk g x) rfl ?_
      refine mz_cv rfl mt_10_54 (by decide) (kc_let k_u7 _) rfl (Nat.le_of_ble_eq_true rfl) (by omega) (c_X0_isSame (by omega) hx hI k_u7 h_q1 (fun v9 l_v9 u_v9 => ⟨_, rfl, ?_⟩))
      show mm_W d mmX10_hasAlready 19 [some (.ref q0), some (.ref q1), some (.int (Int32.ofInt v1))] [.int (Int32.ofInt v9)] (mz_mk g x) Q
      refine mz_if_eq (tgt := 24) rfl rfl (mz_rg l_v9 u_v9) (fun c19_9 => ?_) (fun c19_9 => ?_)
      · skip
        refine mz_iincR (v := v1) (lo2 := [some (.ref q0), some (.ref q1), some (.int (Int32.ofInt (v1 + 1)))]) rfl rfl rfl (Nat.le_of_ble_eq_true rfl) rfl ?_
        refine mz_gt (tgt := 2) rfl rfl ?_
        exact ih3 ((8 - (v1 + 1)).toNat) (by omega) (v1 + 1) rfl (by omega) (by omega)
      · skip
        refine mm_g 1 (pc1 := 23) (lo1 := [some (.ref q0), some (.ref q1), some (.int (Int32.ofInt v1))]) (st1 := [.int (Int32.ofInt 1)]) (H1 := mz_mk g x) rfl ?_
        exact mz_rtZ rfl (by decide) (by omega) (hQ _ (by decide) (by decide))
  exact L5 _ 0 rfl (by decide) (by decide)
theorem c_X7_number {d : Nat} (hd : 1 ≤ d) {x : mm_X} (hx : mk_x x) {g : mz_G} (hI : mz_inv g) {Q : (Option Value ⊕ Nat) → mm_H → Prop} (hQ : ∀ (r : Int), (-2147483648) ≤ r → r ≤ 2147483647 → Q (.inl (some (.int (Int32.ofInt r)))) (mz_mk g x)) : mm_C d 91 [.ref 82] (mz_mk g x) Q := by
  refine ⟨mmX7_number, [some (.ref 82)], rfl, rfl, ?_⟩
  refine mm_g 1 (pc1 := 1) (lo1 := [some (.ref 82)]) (st1 := [.ref 82]) (H1 := mz_mk g x) rfl ?_
  refine mz_gI rfl fd_7_31 (by decide) (sc_82 _) hI bd_82_6 (fun v1 e_v1 l_v1 u_v1 => ?_)
  exact mm_rt rfl rfl (hQ _ (by omega) (by omega))
def fw_X4_readNumber (x : mm_X) (a1 : Int) (a2 : Int) : Nat → Nat → Prop := fun k j => (k = 82 ∧ j = 3) ∨ (k = 82 ∧ j = 5) ∨ (k = 82 ∧ j = 6) ∨ (k = 82 ∧ j = 4) ∨ (k = 81 ∧ j = 1) ∨ (k = 81 ∧ j = 2)
theorem c_X4_readNumber {d : Nat} (hd : 4 ≤ d) {x : mm_X} (hx : mk_x x) {g : mz_G} (hI : mz_inv g) {a1 : Int} (l_a1 : (-2147483648) ≤ a1) (u_a1 : a1 ≤ 2147483647) {a2 : Int} (l_a2 : (-2147483648) ≤ a2) (u_a2 : a2 ≤ 2147483647) {Q : (Option Value ⊕ Nat) → mm_H → Prop} (hQ : ∀ (r : Int) (g1 : mz_G), mz_inv g1 → mz_fr (fw_X4_readNumber x a1 a2) g g1 → (-2147483648) ≤ r → r ≤ 2147483647 → Q (.inl (some (.int (Int32.ofInt r)))) (mz_mk g1 x)) : mm_C d 43 [.ref 81, .int (Int32.ofInt a1), .int (Int32.ofInt a2)] (mz_mk g x) Q := by
  refine ⟨mmX4_readNumber, [some (.ref 81), some (.int (Int32.ofInt a1)), some (.int (Int32.ofInt a2)), none, none], rfl, rfl, ?_⟩
  refine mm_g 3 (pc1 := 3) (lo1 := [some (.ref 81), some (.int (Int32.ofInt a1)), some (.int (Int32.ofInt a2)), some (.int (Int32.ofInt 1)), none]) (st1 := [.ref 81]) (H1 := mz_mk g x) rfl ?_
  refine mz_fgR (v := 82) rfl fd_4_12 (by decide) (sc_81 _) (rf_81_0 _ _ _) ?_
  refine mz_cv rfl mt_4_48 (by decide) (sc_82 _) rfl (Nat.le_of_ble_eq_true rfl) (by omega) (c_X7_kind (by omega) hx hI (fun v1 l_v1 u_v1 => ⟨_, rfl, ?_⟩))
  show mm_W d mmX4_readNumber 9 [some (.ref 81), some (.int (Int32.ofInt a1)), some (.int (Int32.ofInt a2)), some (.int (Int32.ofInt 1)), none] [.int (Int32.ofInt v1)] (mz_mk g x) Q
  refine mm_g 1 (pc1 := 10) (lo1 := [some (.ref 81), some (.int (Int32.ofInt a1)), some (.int (Int32.ofInt a2)), some (.int (Int32.ofInt 1)), none]) (st1 := [.int (Int32.ofInt 2), .int (Int32.ofInt v1)]) (H1 := mz_mk g x) rfl ?_
  refine mz_ic_eq (tgt := 22) rfl rfl (mz_rg l_v1 u_v1) ⟨by decide, by decide⟩ (fun c10_1 => ?_) (fun c10_1 => ?_)
  · skip
    refine mm_g 1 (pc1 := 23) (lo1 := [some (.ref 81), some (.int (Int32.ofInt a1)), some (.int (Int32.ofInt a2)), some (.int (Int32.ofInt 1)), none]) (st1 := [.ref 81]) (H1 := mz_mk g x) rfl ?_
    refine mz_fgR (v := 82) rfl fd_4_12 (by decide) (sc_81 _) (rf_81_0 _ _ _) ?_
    refine mz_cv rfl mt_4_107 (by decide) (sc_82 _) rfl (Nat.le_of_ble_eq_true rfl) (by omega) (c_X7_tokenSize (by omega) hx hI (fun v2 l_v2 u_v2 => ⟨_, rfl, ?_⟩))
    show mm_W d mmX4_readNumber 29 [some (.ref 81), some (.int (Int32.ofInt a1)), some (.int (Int32.ofInt a2)), some (.int (Int32.ofInt 1)), none] [.int (Int32.ofInt v2)] (mz_mk g x) Q
    refine mm_g 1 (pc1 := 30) (lo1 := [some (.ref 81), some (.int (Int32.ofInt a1)), some (.int (Int32.ofInt a2)), some (.int (Int32.ofInt 1)), none]) (st1 := [.int (Int32.ofInt 4), .int (Int32.ofInt v2)]) (H1 := mz_mk g x) rfl ?_
    refine mz_ic_le (tgt := 42) rfl rfl (mz_rg l_v2 u_v2) ⟨by decide, by decide⟩ (fun c30_2 => ?_) (fun c30_2 => ?_)
    · skip
      refine mm_g 1 (pc1 := 43) (lo1 := [some (.ref 81), some (.int (Int32.ofInt a1)), some (.int (Int32.ofInt a2)), some (.int (Int32.ofInt 1)), none]) (st1 := [.ref 81]) (H1 := mz_mk g x) rfl ?_
      refine mz_fgR (v := 82) rfl fd_4_12 (by decide) (sc_81 _) (rf_81_0 _ _ _) ?_
      refine mz_cv rfl mt_4_129 (by decide) (sc_82 _) rfl (Nat.le_of_ble_eq_true rfl) (by omega) (c_X7_number (by omega) hx hI (fun v3 l_v3 u_v3 => ⟨_, rfl, ?_⟩))
      show mm_W d mmX4_readNumber 49 [some (.ref 81), some (.int (Int32.ofInt a1)), some (.int (Int32.ofInt a2)), some (.int (Int32.ofInt 1)), none] [.int (Int32.ofInt v3)] (mz_mk g x) Q
      refine mm_g 1 (pc1 := 50) (lo1 := [some (.ref 81), some (.int (Int32.ofInt a1)), some (.int (Int32.ofInt a2)), some (.int (Int32.ofInt 1)), none]) (st1 := [.int (Int32.ofInt a1), .int (Int32.ofInt v3)]) (H1 := mz_mk g x) rfl ?_
      refine mz_ic_le (tgt := 59) rfl rfl (mz_rg l_v3 u_v3) (mz_rg l_a1 u_a1) (fun c50_3 => ?_) (fun c50_3 => ?_)
      · skip
        refine mm_g 1 (pc1 := 60) (lo1 := [some (.ref 81), some (.int (Int32.ofInt a1)), some (.int (Int32.ofInt a2)), some (.int (Int32.ofInt 1)), none]) (st1 := [.ref 81]) (H1 := mz_mk g x) rfl ?_
        refine mz_fgR (v := 82) rfl fd_4_12 (by decide) (sc_81 _) (rf_81_0 _ _ _) ?_
        refine mz_cv rfl mt_4_129 (by decide) (sc_82 _) rfl (Nat.le_of_ble_eq_true rfl) (by omega) (c_X7_number (by omega) hx hI (fun v4 l_v4 u_v4 => ⟨_, rfl, ?_⟩))
        show mm_W d mmX4_readNumber 66 [some (.ref 81), some (.int (Int32.ofInt a1)), some (.int (Int32.ofInt a2)), some (.int (Int32.ofInt 1)), none] [.int (Int32.ofInt v4)] (mz_mk g x) Q
        refine mm_g 2 (pc1 := 69) (lo1 := [some (.ref 81), some (.int (Int32.ofInt a1)), some (.int (Int32.ofInt a2)), some (.int (Int32.ofInt 1)), some (.int (Int32.ofInt v4))]) (st1 := [.int (Int32.ofInt 1)]) (H1 := mz_mk g x) rfl ?_
        refine mz_if_eq (tgt := 79) rfl rfl ⟨by decide, by decide⟩ (fun c69_4 => ?_) (fun c69_4 => ?_)
        · exfalso; omega
        · skip
          refine mm_g 1 (pc1 := 73) (lo1 := [some (.ref 81), some (.int (Int32.ofInt a1)), some (.int (Int32.ofInt a2)), some (.int (Int32.ofInt 1)), some (.int (Int32.ofInt v4))]) (st1 := [.ref 81]) (H1 := mz_mk g x) rfl ?_
          refine mz_fgR (v := 82) rfl fd_4_12 (by decide) (sc_81 _) (rf_81_0 _ _ _) ?_
          refine mz_cv rfl mt_4_99 (by decide) (sc_82 _) rfl (Nat.le_of_ble_eq_true rfl) (by omega) (c_X7_step (by omega) hx hI (fun g5 hIg5 hfg5 => ⟨_, rfl, ?_⟩))
          show mm_W d mmX4_readNumber 79 [some (.ref 81), some (.int (Int32.ofInt a1)), some (.int (Int32.ofInt a2)), some (.int (Int32.ofInt 1)), some (.int (Int32.ofInt v4))] [] (mz_mk g5 x) Q
          refine mm_g 1 (pc1 := 80) (lo1 := [some (.ref 81), some (.int (Int32.ofInt a1)), some (.int (Int32.ofInt a2)), some (.int (Int32.ofInt 1)), some (.int (Int32.ofInt v4))]) (st1 := [.int (Int32.ofInt 1)]) (H1 := mz_mk g5 x) rfl ?_
          refine mz_if_eq (tgt := 88) rfl rfl ⟨by decide, by decide⟩ (fun c80_5 => ?_) (fun c80_5 => ?_)
          · exfalso; omega
          · skip
            refine mm_g 1 (pc1 := 85) (lo1 := [some (.ref 81), some (.int (Int32.ofInt a1)), some (.int (Int32.ofInt a2)), some (.int (Int32.ofInt 1)), some (.int (Int32.ofInt v4))]) (st1 := [.int (Int32.ofInt v4)]) (H1 := mz_mk g5 x) rfl ?_
            refine mz_gt (tgt := 89) rfl rfl ?_
            exact mm_rt rfl rfl (hQ _ _ hIg5 (fun k j hk => (hfg5 k j (fun h => hk (Or.elim h (fun h => (Or.inl h)) (fun h => (Or.elim h (fun h => (Or.inr (Or.inl h))) (fun h => (Or.elim h (fun h => (Or.inr (Or.inr (Or.inl h)))) (fun h => (Or.inr (Or.inr (Or.inr (Or.inl h))))))))))))) (by omega) (by omega))
      · skip
        refine mm_g 2 (pc1 := 55) (lo1 := [some (.ref 81), some (.int (Int32.ofInt a1)), some (.int (Int32.ofInt a2)), some (.int (Int32.ofInt 1)), none]) (st1 := [.int (Int32.ofInt a2), .ref 81]) (H1 := mz_mk g x) rfl ?_
        refine mz_cv rfl mt_4_95 (by decide) (sc_81 _) rfl (Nat.le_of_ble_eq_true rfl) (by omega) (c_X4_blame (by omega) hx hI l_a2 u_a2 (fun v6 g7 hIg7 hfg7 l_v6 u_v6 => ⟨_, rfl, ?_⟩))
        show mm_W d mmX4_readNumber 58 [some (.ref 81), some (.int (Int32.ofInt a1)), some (.int (Int32.ofInt a2)), some (.int (Int32.ofInt 1)), none] [.int (Int32.ofInt v6)] (mz_mk g7 x) Q
        refine mm_g 2 (pc1 := 60) (lo1 := [some (.ref 81), some (.int (Int32.ofInt a1)), some (.int (Int32.ofInt a2)), some (.int (Int32.ofInt v6)), none]) (st1 := [.ref 81]) (H1 := mz_mk g7 x) rfl ?_
        refine mz_fgR (v := 82) rfl fd_4_12 (by decide) (sc_81 _) (rf_81_0 _ _ _) ?_
        refine mz_cv rfl mt_4_129 (by decide) (sc_82 _) rfl (Nat.le_of_ble_eq_true rfl) (by omega) (c_X7_number (by omega) hx hIg7 (fun v8 l_v8 u_v8 => ⟨_, rfl, ?_⟩))
        show mm_W d mmX4_readNumber 66 [some (.ref 81), some (.int (Int32.ofInt a1)), some (.int (Int32.ofInt a2)), some (.int (Int32.ofInt v6)), none] [.int (Int32.ofInt v8)] (mz_mk g7 x) Q
        refine mm_g 2 (pc1 := 69) (lo1 := [some (.ref 81), some (.int (Int32.ofInt a1)), some (.int (Int32.ofInt a2)), some (.int (Int32.ofInt v6)), some (.int (Int32.ofInt v8))]) (st1 := [.int (Int32.ofInt v6)]) (H1 := mz_mk g7 x) rfl ?_
        refine mz_if_eq (tgt := 79) rfl rfl (mz_rg l_v6 u_v6) (fun c69_8 => ?_) (fun c69_8 => ?_)
        · skip
          refine mm_g 1 (pc1 := 80) (lo1 := [some (.ref 81), some (.int (Int32.ofInt a1)), some (.int (Int32.ofInt a2)), some (.int (Int32.ofInt v6)), some (.int (Int32.ofInt v8))]) (st1 := [.int (Int32.ofInt v6)]) (H1 := mz_mk g7 x) rfl ?_
          refine mz_if_eq (tgt := 88) rfl rfl (mz_rg l_v6 u_v6) (fun c80_8 => ?_) (fun c80_8 => ?_)
          · skip
            refine mm_g 1 (pc1 := 89) (lo1 := [some (.ref 81), some (.int (Int32.ofInt a1)), some (.int (Int32.ofInt a2)), some (.int (Int32.ofInt v6)), some (.int (Int32.ofInt v8))]) (st1 := [.int (Int32.ofInt (-1))]) (H1 := mz_mk g7 x) rfl ?_
            exact mm_rt rfl rfl (hQ _ _ hIg7 (fun k j hk => (hfg7 k j (fun h => hk (Or.elim h (fun h => (Or.inr (Or.inr (Or.inr (Or.inr (Or.inl h)))))) (fun h => (Or.inr (Or.inr (Or.inr (Or.inr (Or.inr h)))))))))) (by decide) (by decide))
          · exfalso; omega
        · exfalso; omega
    · skip
      refine mm_g 2 (pc1 := 35) (lo1 := [some (.ref 81), some (.int (Int32.ofInt a1)), some (.int (Int32.ofInt a2)), some (.int (Int32.ofInt 1)), none]) (st1 := [.int (Int32.ofInt 2), .ref 81]) (H1 := mz_mk g x) rfl ?_
      refine mz_cv rfl mt_4_95 (by decide) (sc_81 _) rfl (Nat.le_of_ble_eq_true rfl) (by omega) (c_X4_blame (by omega) hx hI (by decide) (by decide) (fun v9 g10 hIg10 hfg10 l_v9 u_v9 => ⟨_, rfl, ?_⟩))
      show mm_W d mmX4_readNumber 38 [some (.ref 81), some (.int (Int32.ofInt a1)), some (.int (Int32.ofInt a2)), some (.int (Int32.ofInt 1)), none] [.int (Int32.ofInt v9)] (mz_mk g10 x) Q
      refine mm_g 1 (pc1 := 39) (lo1 := [some (.ref 81), some (.int (Int32.ofInt a1)), some (.int (Int32.ofInt a2)), some (.int (Int32.ofInt v9)), none]) (st1 := []) (H1 := mz_mk g10 x) rfl ?_
      refine mz_gt (tgt := 59) rfl rfl ?_
      refine mm_g 1 (pc1 := 60) (lo1 := [some (.ref 81), some (.int (Int32.ofInt a1)), some (.int (Int32.ofInt a2)), some (.int (Int32.ofInt v9)), none]) (st1 := [.ref 81]) (H1 := mz_mk g10 x) rfl ?_
      refine mz_fgR (v := 82) rfl fd_4_12 (by decide) (sc_81 _) (rf_81_0 _ _ _) ?_
      refine mz_cv rfl mt_4_129 (by decide) (sc_82 _) rfl (Nat.le_of_ble_eq_true rfl) (by omega) (c_X7_number (by omega) hx hIg10 (fun v11 l_v11 u_v11 => ⟨_, rfl, ?_⟩))
      show mm_W d mmX4_readNumber 66 [some (.ref 81), some (.int (Int32.ofInt a1)), some (.int (Int32.ofInt a2)), some (.int (Int32.ofInt v9)), none] [.int (Int32.ofInt v11)] (mz_mk g10 x) Q
      refine mm_g 2 (pc1 := 69) (lo1 := [some (.ref 81), some (.int (Int32.ofInt a1)), some (.int (Int32.ofInt a2)), some (.int (Int32.ofInt v9)), some (.int (Int32.ofInt v11))]) (st1 := [.int (Int32.ofInt v9)]) (H1 := mz_mk g10 x) rfl ?_
      refine mz_if_eq (tgt := 79) rfl rfl (mz_rg l_v9 u_v9) (fun c69_11 => ?_) (fun c69_11 => ?_)
      · skip
        refine mm_g 1 (pc1 := 80) (lo1 := [some (.ref 81), some (.int (Int32.ofInt a1)), some (.int (Int32.ofInt a2)), some (.int (Int32.ofInt v9)), some (.int (Int32.ofInt v11))]) (st1 := [.int (Int32.ofInt v9)]) (H1 := mz_mk g10 x) rfl ?_
        refine mz_if_eq (tgt := 88) rfl rfl (mz_rg l_v9 u_v9) (fun c80_11 => ?_) (fun c80_11 => ?_)
        · skip
          refine mm_g 1 (pc1 := 89) (lo1 := [some (.ref 81), some (.int (Int32.ofInt a1)), some (.int (Int32.ofInt a2)), some (.int (Int32.ofInt v9)), some (.int (Int32.ofInt v11))]) (st1 := [.int (Int32.ofInt (-1))]) (H1 := mz_mk g10 x) rfl ?_
          exact mm_rt rfl rfl (hQ _ _ hIg10 (fun k j hk => (hfg10 k j (fun h => hk (Or.elim h (fun h => (Or.inr (Or.inr (Or.inr (Or.inr (Or.inl h)))))) (fun h => (Or.inr (Or.inr (Or.inr (Or.inr (Or.inr h)))))))))) (by decide) (by decide))
        · exfalso; omega
      · exfalso; omega
  · skip
    refine mm_g 2 (pc1 := 15) (lo1 := [some (.ref 81), some (.int (Int32.ofInt a1)), some (.int (Int32.ofInt a2)), some (.int (Int32.ofInt 1)), none]) (st1 := [.int (Int32.ofInt 1), .ref 81]) (H1 := mz_mk g x) rfl ?_
    refine mz_cv rfl mt_4_95 (by decide) (sc_81 _) rfl (Nat.le_of_ble_eq_true rfl) (by omega) (c_X4_blame (by omega) hx hI (by decide) (by decide) (fun v12 g13 hIg13 hfg13 l_v12 u_v12 => ⟨_, rfl, ?_⟩))
    show mm_W d mmX4_readNumber 18 [some (.ref 81), some (.int (Int32.ofInt a1)), some (.int (Int32.ofInt a2)), some (.int (Int32.ofInt 1)), none] [.int (Int32.ofInt v12)] (mz_mk g13 x) Q
    refine mm_g 1 (pc1 := 19) (lo1 := [some (.ref 81), some (.int (Int32.ofInt a1)), some (.int (Int32.ofInt a2)), some (.int (Int32.ofInt v12)), none]) (st1 := []) (H1 := mz_mk g13 x) rfl ?_
    refine mz_gt (tgt := 59) rfl rfl ?_
    refine mm_g 1 (pc1 := 60) (lo1 := [some (.ref 81), some (.int (Int32.ofInt a1)), some (.int (Int32.ofInt a2)), some (.int (Int32.ofInt v12)), none]) (st1 := [.ref 81]) (H1 := mz_mk g13 x) rfl ?_
    refine mz_fgR (v := 82) rfl fd_4_12 (by decide) (sc_81 _) (rf_81_0 _ _ _) ?_
    refine mz_cv rfl mt_4_129 (by decide) (sc_82 _) rfl (Nat.le_of_ble_eq_true rfl) (by omega) (c_X7_number (by omega) hx hIg13 (fun v14 l_v14 u_v14 => ⟨_, rfl, ?_⟩))
    show mm_W d mmX4_readNumber 66 [some (.ref 81), some (.int (Int32.ofInt a1)), some (.int (Int32.ofInt a2)), some (.int (Int32.ofInt v12)), none] [.int (Int32.ofInt v14)] (mz_mk g13 x) Q
    refine mm_g 2 (pc1 := 69) (lo1 := [some (.ref 81), some (.int (Int32.ofInt a1)), some (.int (Int32.ofInt a2)), some (.int (Int32.ofInt v12)), some (.int (Int32.ofInt v14))]) (st1 := [.int (Int32.ofInt v12)]) (H1 := mz_mk g13 x) rfl ?_
    refine mz_if_eq (tgt := 79) rfl rfl (mz_rg l_v12 u_v12) (fun c69_14 => ?_) (fun c69_14 => ?_)
    · skip
      refine mm_g 1 (pc1 := 80) (lo1 := [some (.ref 81), some (.int (Int32.ofInt a1)), some (.int (Int32.ofInt a2)), some (.int (Int32.ofInt v12)), some (.int (Int32.ofInt v14))]) (st1 := [.int (Int32.ofInt v12)]) (H1 := mz_mk g13 x) rfl ?_
      refine mz_if_eq (tgt := 88) rfl rfl (mz_rg l_v12 u_v12) (fun c80_14 => ?_) (fun c80_14 => ?_)
      · skip
        refine mm_g 1 (pc1 := 89) (lo1 := [some (.ref 81), some (.int (Int32.ofInt a1)), some (.int (Int32.ofInt a2)), some (.int (Int32.ofInt v12)), some (.int (Int32.ofInt v14))]) (st1 := [.int (Int32.ofInt (-1))]) (H1 := mz_mk g13 x) rfl ?_
        exact mm_rt rfl rfl (hQ _ _ hIg13 (fun k j hk => (hfg13 k j (fun h => hk (Or.elim h (fun h => (Or.inr (Or.inr (Or.inr (Or.inr (Or.inl h)))))) (fun h => (Or.inr (Or.inr (Or.inr (Or.inr (Or.inr h)))))))))) (by decide) (by decide))
      · exfalso; omega
    · exfalso; omega
def fw_X10_takeNext (x : mm_X) (q0 : Nat) (a1 : Int) : Nat → Nat → Prop := fun k j => k = (q0 + 4) ∨ k = q0
theorem c_X10_takeNext {d : Nat} (hd : 2 ≤ d) {x : mm_X} (hx : mk_x x) {g : mz_G} (hI : mz_inv g) {q0 : Nat} (h_q0 : kd_words q0) {a1 : Int} (l_a1 : (-2147483648) ≤ a1) (u_a1 : a1 ≤ 2147483647) {Q : (Option Value ⊕ Nat) → mm_H → Prop} (hQ : ∀ (g1 : mz_G), mz_inv g1 → mz_fr (fw_X10_takeNext x q0 a1) g g1 → Q (.inl none) (mz_mk g1 x)) : mm_C d 109 [.ref q0, .int (Int32.ofInt a1)] (mz_mk g x) Q := by
  have kn_q0 := kn_words h_q0
  refine ⟨mmX10_takeNext, [some (.ref q0), some (.int (Int32.ofInt a1))], rfl, rfl, ?_⟩
  refine mm_g 1 (pc1 := 1) (lo1 := [some (.ref q0), some (.int (Int32.ofInt a1))]) (st1 := [.ref q0]) (H1 := mz_mk g x) rfl ?_
  refine mz_gI rfl fd_10_28 (by decide) (kc_words h_q0 _) hI (kb_words_3 h_q0) (fun v1 e_v1 l_v1 u_v1 => ?_)
  refine mz_bip rfl bip_8 ?_
  refine mz_ic_ge (tgt := 31) rfl rfl (mz_rg l_v1 u_v1) ⟨by decide, by decide⟩ (fun c6_1 => ?_) (fun c6_1 => ?_)
  · skip
    exact mm_rt rfl rfl (hQ _ hI (fun _ _ _ => rfl))
  · skip
    refine mm_g 1 (pc1 := 10) (lo1 := [some (.ref q0), some (.int (Int32.ofInt a1))]) (st1 := [.ref q0]) (H1 := mz_mk g x) rfl ?_
    refine mz_fgR (v := (q0 + 4)) rfl fd_10_24 (by decide) (kc_words h_q0 _) (kr_words_2 h_q0 _ _ _) ?_
    refine mm_g 1 (pc1 := 14) (lo1 := [some (.ref q0), some (.int (Int32.ofInt a1))]) (st1 := [.ref q0, .ref (q0 + 4)]) (H1 := mz_mk g x) rfl ?_
    refine mz_fgI (v := v1) rfl fd_10_28 (by decide) (kc_words h_q0 _) e_v1 ?_
    refine mm_g 1 (pc1 := 18) (lo1 := [some (.ref q0), some (.int (Int32.ofInt a1))]) (st1 := [.int (Int32.ofInt a1), .int (Int32.ofInt v1), .ref (q0 + 4)]) (H1 := mz_mk g x) rfl ?_
    refine mz_cs rfl mt_10_58 (by decide) rfl (Nat.le_of_ble_eq_true rfl) (by omega) (c_X11_put (by omega) hx hI (ka_words_2 h_q0 _) (by decide) (kba_words_2 h_q0) (by omega) (by omega) (by omega) (by omega) l_a1 u_a1 (by omega) (by omega) (fun g2 hIg2 hfg2 => ⟨_, rfl, ?_⟩))
    show mm_W d mmX10_takeNext 21 [some (.ref q0), some (.int (Int32.ofInt a1))] [] (mz_mk g2 x) Q
    refine mm_g 2 (pc1 := 23) (lo1 := [some (.ref q0), some (.int (Int32.ofInt a1))]) (st1 := [.ref q0, .ref q0]) (H1 := mz_mk g2 x) rfl ?_
    refine mz_fgI (v := v1) rfl fd_10_28 (by decide) (kc_words h_q0 _) (show g2 q0 3 = v1 from ((hfg2 q0 3 (fun h => (by have h9 : q0 = (q0 + 4) := h; omega))).trans e_v1)) ?_
    refine mm_g 1 (pc1 := 27) (lo1 := [some (.ref q0), some (.int (Int32.ofInt a1))]) (st1 := [.int (Int32.ofInt 1), .int (Int32.ofInt v1), .ref q0]) (H1 := mz_mk g2 x) rfl ?_
    refine mz_iadd rfl ?_
    refine mz_pI rfl fd_10_28 (kc_words h_q0 _) hIg2 (kb_words_3 h_q0) (by omega) (by omega) (fun g3 hIg3 hug3 => ?_)
    exact mm_rt rfl rfl (hQ _ hIg3 (fun k j hk => ((hug3.2 k j (fun h => hk (Or.inr h.1))).trans (hfg2 k j (fun h => hk (Or.inl h))))))
def fw_X4_readWord (x : mm_X) (q1 : Nat) : Nat → Nat → Prop := fun k j => (k = 82 ∧ j = 3) ∨ (k = 82 ∧ j = 5) ∨ (k = 82 ∧ j = 6) ∨ (k = 82 ∧ j = 4) ∨ (q1 ≤ k ∧ k < q1 + 25) ∨ (k = 81 ∧ j = 1) ∨ (k = 81 ∧ j = 2)
theorem c_X4_readWord {d : Nat} (hd : 5 ≤ d) {x : mm_X} (hx : mk_x x) {g : mz_G} (hI : mz_inv g) {q1 : Nat} (h_q1 : kd_words q1) {Q : (Option Value ⊕ Nat) → mm_H → Prop} (hQ : ∀ (r : Int) (g1 : mz_G), mz_inv g1 → mz_fr (fw_X4_readWord x q1) g g1 → 0 ≤ r → r ≤ 1 → Q (.inl (some (.int (Int32.ofInt r)))) (mz_mk g1 x)) : mm_C d 42 [.ref 81, .ref q1] (mz_mk g x) Q := by
  have kn_q1 := kn_words h_q1
  refine ⟨mmX4_readWord, [some (.ref 81), some (.ref q1), none, none], rfl, rfl, ?_⟩
  refine mm_g 1 (pc1 := 1) (lo1 := [some (.ref 81), some (.ref q1), none, none]) (st1 := [.ref q1]) (H1 := mz_mk g x) rfl ?_
  refine mz_cv rfl mt_4_102 (by decide) (kc_words h_q1 _) rfl (Nat.le_of_ble_eq_true rfl) (by omega) (c_X10_many (by omega) hx hI h_q1 (fun v1 l_v1 u_v1 => ⟨_, rfl, ?_⟩))
  show mm_W d mmX4_readWord 4 [some (.ref 81), some (.ref q1), none, none] [.int (Int32.ofInt v1)] (mz_mk g x) Q
  refine mz_bip rfl bip_8 ?_
  refine mz_ic_lt (tgt := 15) rfl rfl (mz_rg l_v1 u_v1) ⟨by decide, by decide⟩ (fun c6_1 => ?_) (fun c6_1 => ?_)
  · skip
    refine mm_g 1 (pc1 := 16) (lo1 := [some (.ref 81), some (.ref q1), none, none]) (st1 := [.ref 81]) (H1 := mz_mk g x) rfl ?_
    refine mz_fgR (v := 82) rfl fd_4_12 (by decide) (sc_81 _) (rf_81_0 _ _ _) ?_
    refine mz_cv rfl mt_4_99 (by decide) (sc_82 _) rfl (Nat.le_of_ble_eq_true rfl) (by omega) (c_X7_step (by omega) hx hI (fun g2 hIg2 hfg2 => ⟨_, rfl, ?_⟩))
    show mm_W d mmX4_readWord 22 [some (.ref 81), some (.ref q1), none, none] [] (mz_mk g2 x) Q
    refine mm_g 1 (pc1 := 23) (lo1 := [some (.ref 81), some (.ref q1), none, none]) (st1 := [.ref 81]) (H1 := mz_mk g2 x) rfl ?_
    refine mz_fgR (v := 82) rfl fd_4_12 (by decide) (sc_81 _) (rf_81_0 _ _ _) ?_
    refine mz_cv rfl mt_4_48 (by decide) (sc_82 _) rfl (Nat.le_of_ble_eq_true rfl) (by omega) (c_X7_kind (by omega) hx hIg2 (fun v3 l_v3 u_v3 => ⟨_, rfl, ?_⟩))
    show mm_W d mmX4_readWord 29 [some (.ref 81), some (.ref q1), none, none] [.int (Int32.ofInt v3)] (mz_mk g2 x) Q
    refine mm_g 1 (pc1 := 30) (lo1 := [some (.ref 81), some (.ref q1), none, none]) (st1 := [.int (Int32.ofInt 1), .int (Int32.ofInt v3)]) (H1 := mz_mk g2 x) rfl ?_
    refine mz_ic_eq (tgt := 39) rfl rfl (mz_rg l_v3 u_v3) ⟨by decide, by decide⟩ (fun c30_3 => ?_) (fun c30_3 => ?_)
    · skip
      refine mm_g 1 (pc1 := 40) (lo1 := [some (.ref 81), some (.ref q1), none, none]) (st1 := [.ref 81]) (H1 := mz_mk g2 x) rfl ?_
      refine mz_fgR (v := 82) rfl fd_4_12 (by decide) (sc_81 _) (rf_81_0 _ _ _) ?_
      refine mz_cv rfl mt_4_107 (by decide) (sc_82 _) rfl (Nat.le_of_ble_eq_true rfl) (by omega) (c_X7_tokenSize (by omega) hx hIg2 (fun v4 l_v4 u_v4 => ⟨_, rfl, ?_⟩))
      show mm_W d mmX4_readWord 46 [some (.ref 81), some (.ref q1), none, none] [.int (Int32.ofInt v4)] (mz_mk g2 x) Q
      refine mz_bip rfl bip_8 ?_
      refine mz_ic_le (tgt := 57) rfl rfl (mz_rg l_v4 u_v4) ⟨by decide, by decide⟩ (fun c48_4 => ?_) (fun c48_4 => ?_)
      · skip
        refine mm_g 2 (pc1 := 59) (lo1 := [some (.ref 81), some (.ref q1), none, none]) (st1 := [.ref q1, .ref q1]) (H1 := mz_mk g2 x) rfl ?_
        refine mz_cv rfl mt_4_102 (by decide) (kc_words h_q1 _) rfl (Nat.le_of_ble_eq_true rfl) (by omega) (c_X10_many (by omega) hx hIg2 h_q1 (fun v5 l_v5 u_v5 => ⟨_, rfl, ?_⟩))
        show mm_W d mmX4_readWord 62 [some (.ref 81), some (.ref q1), none, none] [.int (Int32.ofInt v5), .ref q1] (mz_mk g2 x) Q
        refine mz_cv rfl mt_4_110 (by decide) (kc_words h_q1 _) rfl (Nat.le_of_ble_eq_true rfl) (by omega) (c_X10_of (by omega) hx hIg2 h_q1 (by omega) (by omega) (fun u6 k_u6 hp7 => ⟨_, rfl, ?_⟩))
        show mm_W d mmX4_readWord 65 [some (.ref 81), some (.ref q1), none, none] [.ref u6] (mz_mk g2 x) Q
        refine mm_g 2 (pc1 := 67) (lo1 := [some (.ref 81), some (.ref q1), some (.ref u6), none]) (st1 := [.ref 81]) (H1 := mz_mk g2 x) rfl ?_
        refine mz_fgR (v := 82) rfl fd_4_12 (by decide) (sc_81 _) (rf_81_0 _ _ _) ?_
        refine mm_g 1 (pc1 := 71) (lo1 := [some (.ref 81), some (.ref q1), some (.ref u6), none]) (st1 := [.ref u6, .ref 82]) (H1 := mz_mk g2 x) rfl ?_
        refine mz_cv rfl mt_4_114 (by decide) (sc_82 _) rfl (Nat.le_of_ble_eq_true rfl) (by omega) (c_X7_spellInto (by omega) hx hIg2 k_u6 (fun g8 hIg8 hfg8 => ⟨_, rfl, ?_⟩))
        show mm_W d mmX4_readWord 74 [some (.ref 81), some (.ref q1), some (.ref u6), none] [] (mz_mk g8 x) Q
        refine mm_g 2 (pc1 := 76) (lo1 := [some (.ref 81), some (.ref q1), some (.ref u6), none]) (st1 := [.ref u6, .ref q1]) (H1 := mz_mk g8 x) rfl ?_
        refine mz_cv rfl mt_4_118 (by decide) (kc_words h_q1 _) rfl (Nat.le_of_ble_eq_true rfl) (by omega) (c_X10_hasAlready (by omega) hx hIg8 h_q1 k_u6 (fun v9 l_v9 u_v9 => ⟨_, rfl, ?_⟩))
        show mm_W d mmX4_readWord 79 [some (.ref 81), some (.ref q1), some (.ref u6), none] [.int (Int32.ofInt v9)] (mz_mk g8 x) Q
        refine mz_if_eq (tgt := 88) rfl rfl (mz_rg l_v9 u_v9) (fun c79_9 => ?_) (fun c79_9 => ?_)
        · skip
          refine mm_g 1 (pc1 := 89) (lo1 := [some (.ref 81), some (.ref q1), some (.ref u6), none]) (st1 := [.ref 81]) (H1 := mz_mk g8 x) rfl ?_
          refine mz_fgR (v := 82) rfl fd_4_12 (by decide) (sc_81 _) (rf_81_0 _ _ _) ?_
          refine mz_cv rfl mt_4_99 (by decide) (sc_82 _) rfl (Nat.le_of_ble_eq_true rfl) (by omega) (c_X7_step (by omega) hx hIg8 (fun g10 hIg10 hfg10 => ⟨_, rfl, ?_⟩))
          show mm_W d mmX4_readWord 95 [some (.ref 81), some (.ref q1), some (.ref u6), none] [] (mz_mk g10 x) Q
          refine mm_g 1 (pc1 := 96) (lo1 := [some (.ref 81), some (.ref q1), some (.ref u6), none]) (st1 := [.ref 81]) (H1 := mz_mk g10 x) rfl ?_
          refine mz_bip rfl bip_9 ?_
          refine mm_g 1 (pc1 := 99) (lo1 := [some (.ref 81), some (.ref q1), some (.ref u6), none]) (st1 := [.int (Int32.ofInt 2), .int (Int32.ofInt 9), .ref 81]) (H1 := mz_mk g10 x) rfl ?_
          refine mz_cv rfl mt_4_122 (by decide) (sc_81 _) rfl (Nat.le_of_ble_eq_true rfl) (by omega) (c_X4_readNumber (by omega) hx hIg10 (by decide) (by decide) (by decide) (by decide) (fun v11 g12 hIg12 hfg12 l_v11 u_v11 => ⟨_, rfl, ?_⟩))
          show mm_W d mmX4_readWord 102 [some (.ref 81), some (.ref q1), some (.ref u6), none] [.int (Int32.ofInt v11)] (mz_mk g12 x) Q
          refine mm_g 3 (pc1 := 105) (lo1 := [some (.ref 81), some (.ref q1), some (.ref u6), some (.int (Int32.ofInt v11))]) (st1 := [.int (Int32.ofInt (-1)), .int (Int32.ofInt v11)]) (H1 := mz_mk g12 x) rfl ?_
          refine mz_ic_eq (tgt := 113) rfl rfl (mz_rg l_v11 u_v11) ⟨by decide, by decide⟩ (fun c105_12 => ?_) (fun c105_12 => ?_)
          · skip
            refine mm_g 2 (pc1 := 115) (lo1 := [some (.ref 81), some (.ref q1), some (.ref u6), some (.int (Int32.ofInt v11))]) (st1 := [.int (Int32.ofInt (-1)), .int (Int32.ofInt v11)]) (H1 := mz_mk g12 x) rfl ?_
            refine mz_ic_eq (tgt := 122) rfl rfl (mz_rg l_v11 u_v11) ⟨by decide, by decide⟩ (fun c115_12 => ?_) (fun c115_12 => ?_)
            · skip
              refine mm_g 1 (pc1 := 123) (lo1 := [some (.ref 81), some (.ref q1), some (.ref u6), some (.int (Int32.ofInt v11))]) (st1 := [.int (Int32.ofInt 0)]) (H1 := mz_mk g12 x) rfl ?_
              exact mz_rtZ rfl (by decide) (by omega) (hQ _ _ hIg12 (fun k j hk => ((hfg12 k j (fun h => hk (Or.elim h (fun h => (Or.inl h)) (fun h => (Or.elim h (fun h => (Or.inr (Or.inl h))) (fun h => (Or.elim h (fun h => (Or.inr (Or.inr (Or.inl h)))) (fun h => (Or.elim h (fun h => (Or.inr (Or.inr (Or.inr (Or.inl h))))) (fun h => (Or.elim h (fun h => (Or.inr (Or.inr (Or.inr (Or.inr (Or.inr (Or.inl h))))))) (fun h => (Or.inr (Or.inr (Or.inr (Or.inr (Or.inr (Or.inr h)))))))))))))))))).trans ((hfg10 k j (fun h => hk (Or.elim h (fun h => (Or.inl h)) (fun h => (Or.elim h (fun h => (Or.inr (Or.inl h))) (fun h => (Or.elim h (fun h => (Or.inr (Or.inr (Or.inl h)))) (fun h => (Or.inr (Or.inr (Or.inr (Or.inl h)))))))))))).trans ((hfg8 k j (fun h => hk (Or.elim h (fun h => (Or.inr (Or.inr (Or.inr (Or.inr (Or.inl (show (q1 ≤ k ∧ k < q1 + 25) by have h9 : k = u6 := h; omega))))))) (fun h => (Or.inr (Or.inr (Or.inr (Or.inr (Or.inl (show (q1 ≤ k ∧ k < q1 + 25) by have h9 : k = (u6 + 1) := h; omega)))))))))).trans (hfg2 k j (fun h => hk (Or.elim h (fun h => (Or.inl h)) (fun h => (Or.elim h (fun h => (Or.inr (Or.inl h))) (fun h => (Or.elim h (fun h => (Or.inr (Or.inr (Or.inl h)))) (fun h => (Or.inr (Or.inr (Or.inr (Or.inl h)))))))))))))))) (by decide) (by decide))
            · exfalso; omega
          · skip
            refine mm_g 2 (pc1 := 110) (lo1 := [some (.ref 81), some (.ref q1), some (.ref u6), some (.int (Int32.ofInt v11))]) (st1 := [.int (Int32.ofInt v11), .ref q1]) (H1 := mz_mk g12 x) rfl ?_
            refine mz_cv rfl mt_4_126 (by decide) (kc_words h_q1 _) rfl (Nat.le_of_ble_eq_true rfl) (by omega) (c_X10_takeNext (by omega) hx hIg12 h_q1 l_v11 u_v11 (fun g13 hIg13 hfg13 => ⟨_, rfl, ?_⟩))
            show mm_W d mmX4_readWord 113 [some (.ref 81), some (.ref q1), some (.ref u6), some (.int (Int32.ofInt v11))] [] (mz_mk g13 x) Q
            refine mm_g 2 (pc1 := 115) (lo1 := [some (.ref 81), some (.ref q1), some (.ref u6), some (.int (Int32.ofInt v11))]) (st1 := [.int (Int32.ofInt (-1)), .int (Int32.ofInt v11)]) (H1 := mz_mk g13 x) rfl ?_
            refine mz_ic_eq (tgt := 122) rfl rfl (mz_rg l_v11 u_v11) ⟨by decide, by decide⟩ (fun c115_13 => ?_) (fun c115_13 => ?_)
            · skip
              refine mm_g 1 (pc1 := 123) (lo1 := [some (.ref 81), some (.ref q1), some (.ref u6), some (.int (Int32.ofInt v11))]) (st1 := [.int (Int32.ofInt 0)]) (H1 := mz_mk g13 x) rfl ?_
              exact mz_rtZ rfl (by decide) (by omega) (hQ _ _ hIg13 (fun k j hk => ((hfg13 k j (fun h => hk (Or.elim h (fun h => (Or.inr (Or.inr (Or.inr (Or.inr (Or.inl (show (q1 ≤ k ∧ k < q1 + 25) by have h9 : k = (q1 + 4) := h; omega))))))) (fun h => (Or.inr (Or.inr (Or.inr (Or.inr (Or.inl (show (q1 ≤ k ∧ k < q1 + 25) by have h9 : k = q1 := h; omega)))))))))).trans ((hfg12 k j (fun h => hk (Or.elim h (fun h => (Or.inl h)) (fun h => (Or.elim h (fun h => (Or.inr (Or.inl h))) (fun h => (Or.elim h (fun h => (Or.inr (Or.inr (Or.inl h)))) (fun h => (Or.elim h (fun h => (Or.inr (Or.inr (Or.inr (Or.inl h))))) (fun h => (Or.elim h (fun h => (Or.inr (Or.inr (Or.inr (Or.inr (Or.inr (Or.inl h))))))) (fun h => (Or.inr (Or.inr (Or.inr (Or.inr (Or.inr (Or.inr h)))))))))))))))))).trans ((hfg10 k j (fun h => hk (Or.elim h (fun h => (Or.inl h)) (fun h => (Or.elim h (fun h => (Or.inr (Or.inl h))) (fun h => (Or.elim h (fun h => (Or.inr (Or.inr (Or.inl h)))) (fun h => (Or.inr (Or.inr (Or.inr (Or.inl h)))))))))))).trans ((hfg8 k j (fun h => hk (Or.elim h (fun h => (Or.inr (Or.inr (Or.inr (Or.inr (Or.inl (show (q1 ≤ k ∧ k < q1 + 25) by have h9 : k = u6 := h; omega))))))) (fun h => (Or.inr (Or.inr (Or.inr (Or.inr (Or.inl (show (q1 ≤ k ∧ k < q1 + 25) by have h9 : k = (u6 + 1) := h; omega)))))))))).trans (hfg2 k j (fun h => hk (Or.elim h (fun h => (Or.inl h)) (fun h => (Or.elim h (fun h => (Or.inr (Or.inl h))) (fun h => (Or.elim h (fun h => (Or.inr (Or.inr (Or.inl h)))) (fun h => (Or.inr (Or.inr (Or.inr (Or.inl h))))))))))))))))) (by decide) (by decide))
            · skip
              refine mm_g 1 (pc1 := 119) (lo1 := [some (.ref 81), some (.ref q1), some (.ref u6), some (.int (Int32.ofInt v11))]) (st1 := [.int (Int32.ofInt 1)]) (H1 := mz_mk g13 x) rfl ?_
              refine mz_gt (tgt := 123) rfl rfl ?_
              exact mz_rtZ rfl (by decide) (by omega) (hQ _ _ hIg13 (fun k j hk => ((hfg13 k j (fun h => hk (Or.elim h (fun h => (Or.inr (Or.inr (Or.inr (Or.inr (Or.inl (show (q1 ≤ k ∧ k < q1 + 25) by have h9 : k = (q1 + 4) := h; omega))))))) (fun h => (Or.inr (Or.inr (Or.inr (Or.inr (Or.inl (show (q1 ≤ k ∧ k < q1 + 25) by have h9 : k = q1 := h; omega)))))))))).trans ((hfg12 k j (fun h => hk (Or.elim h (fun h => (Or.inl h)) (fun h => (Or.elim h (fun h => (Or.inr (Or.inl h))) (fun h => (Or.elim h (fun h => (Or.inr (Or.inr (Or.inl h)))) (fun h => (Or.elim h (fun h => (Or.inr (Or.inr (Or.inr (Or.inl h))))) (fun h => (Or.elim h (fun h => (Or.inr (Or.inr (Or.inr (Or.inr (Or.inr (Or.inl h))))))) (fun h => (Or.inr (Or.inr (Or.inr (Or.inr (Or.inr (Or.inr h)))))))))))))))))).trans ((hfg10 k j (fun h => hk (Or.elim h (fun h => (Or.inl h)) (fun h => (Or.elim h (fun h => (Or.inr (Or.inl h))) (fun h => (Or.elim h (fun h => (Or.inr (Or.inr (Or.inl h)))) (fun h => (Or.inr (Or.inr (Or.inr (Or.inl h)))))))))))).trans ((hfg8 k j (fun h => hk (Or.elim h (fun h => (Or.inr (Or.inr (Or.inr (Or.inr (Or.inl (show (q1 ≤ k ∧ k < q1 + 25) by have h9 : k = u6 := h; omega))))))) (fun h => (Or.inr (Or.inr (Or.inr (Or.inr (Or.inl (show (q1 ≤ k ∧ k < q1 + 25) by have h9 : k = (u6 + 1) := h; omega)))))))))).trans (hfg2 k j (fun h => hk (Or.elim h (fun h => (Or.inl h)) (fun h => (Or.elim h (fun h => (Or.inr (Or.inl h))) (fun h => (Or.elim h (fun h => (Or.inr (Or.inr (Or.inl h)))) (fun h => (Or.inr (Or.inr (Or.inr (Or.inl h))))))))))))))))) (by decide) (by decide))
        · skip
          refine mm_g 2 (pc1 := 84) (lo1 := [some (.ref 81), some (.ref q1), some (.ref u6), none]) (st1 := [.int (Int32.ofInt 4), .ref 81]) (H1 := mz_mk g8 x) rfl ?_
          refine mz_cv rfl mt_4_95 (by decide) (sc_81 _) rfl (Nat.le_of_ble_eq_true rfl) (by omega) (c_X4_blame (by omega) hx hIg8 (by decide) (by decide) (fun v14 g15 hIg15 hfg15 l_v14 u_v14 => ⟨_, rfl, ?_⟩))
          show mm_W d mmX4_readWord 87 [some (.ref 81), some (.ref q1), some (.ref u6), none] [.int (Int32.ofInt v14)] (mz_mk g15 x) Q
          exact mz_rtZ rfl (by decide) (by omega) (hQ _ _ hIg15 (fun k j hk => ((hfg15 k j (fun h => hk (Or.elim h (fun h => (Or.inr (Or.inr (Or.inr (Or.inr (Or.inr (Or.inl h))))))) (fun h => (Or.inr (Or.inr (Or.inr (Or.inr (Or.inr (Or.inr h)))))))))).trans ((hfg8 k j (fun h => hk (Or.elim h (fun h => (Or.inr (Or.inr (Or.inr (Or.inr (Or.inl (show (q1 ≤ k ∧ k < q1 + 25) by have h9 : k = u6 := h; omega))))))) (fun h => (Or.inr (Or.inr (Or.inr (Or.inr (Or.inl (show (q1 ≤ k ∧ k < q1 + 25) by have h9 : k = (u6 + 1) := h; omega)))))))))).trans (hfg2 k j (fun h => hk (Or.elim h (fun h => (Or.inl h)) (fun h => (Or.elim h (fun h => (Or.inr (Or.inl h))) (fun h => (Or.elim h (fun h => (Or.inr (Or.inr (Or.inl h)))) (fun h => (Or.inr (Or.inr (Or.inr (Or.inl h))))))))))))))) (by omega) (by omega))
      · skip
        refine mm_g 2 (pc1 := 53) (lo1 := [some (.ref 81), some (.ref q1), none, none]) (st1 := [.int (Int32.ofInt 2), .ref 81]) (H1 := mz_mk g2 x) rfl ?_
        refine mz_cv rfl mt_4_95 (by decide) (sc_81 _) rfl (Nat.le_of_ble_eq_true rfl) (by omega) (c_X4_blame (by omega) hx hIg2 (by decide) (by decide) (fun v16 g17 hIg17 hfg17 l_v16 u_v16 => ⟨_, rfl, ?_⟩))
        show mm_W d mmX4_readWord 56 [some (.ref 81), some (.ref q1), none, none] [.int (Int32.ofInt v16)] (mz_mk g17 x) Q
        exact mz_rtZ rfl (by decide) (by omega) (hQ _ _ hIg17 (fun k j hk => ((hfg17 k j (fun h => hk (Or.elim h (fun h => (Or.inr (Or.inr (Or.inr (Or.inr (Or.inr (Or.inl h))))))) (fun h => (Or.inr (Or.inr (Or.inr (Or.inr (Or.inr (Or.inr h)))))))))).trans (hfg2 k j (fun h => hk (Or.elim h (fun h => (Or.inl h)) (fun h => (Or.elim h (fun h => (Or.inr (Or.inl h))) (fun h => (Or.elim h (fun h => (Or.inr (Or.inr (Or.inl h)))) (fun h => (Or.inr (Or.inr (Or.inr (Or.inl h)))))))))))))) (by omega) (by omega))
    · skip
      refine mm_g 2 (pc1 := 35) (lo1 := [some (.ref 81), some (.ref q1), none, none]) (st1 := [.int (Int32.ofInt 1), .ref 81]) (H1 := mz_mk g2 x) rfl ?_
      refine mz_cv rfl mt_4_95 (by decide) (sc_81 _) rfl (Nat.le_of_ble_eq_true rfl) (by omega) (c_X4_blame (by omega) hx hIg2 (by decide) (by decide) (fun v18 g19 hIg19 hfg19 l_v18 u_v18 => ⟨_, rfl, ?_⟩))
      show mm_W d mmX4_readWord 38 [some (.ref 81), some (.ref q1), none, none] [.int (Int32.ofInt v18)] (mz_mk g19 x) Q
      exact mz_rtZ rfl (by decide) (by omega) (hQ _ _ hIg19 (fun k j hk => ((hfg19 k j (fun h => hk (Or.elim h (fun h => (Or.inr (Or.inr (Or.inr (Or.inr (Or.inr (Or.inl h))))))) (fun h => (Or.inr (Or.inr (Or.inr (Or.inr (Or.inr (Or.inr h)))))))))).trans (hfg2 k j (fun h => hk (Or.elim h (fun h => (Or.inl h)) (fun h => (Or.elim h (fun h => (Or.inr (Or.inl h))) (fun h => (Or.elim h (fun h => (Or.inr (Or.inr (Or.inl h)))) (fun h => (Or.inr (Or.inr (Or.inr (Or.inl h)))))))))))))) (by omega) (by omega))
  · skip
    refine mm_g 2 (pc1 := 11) (lo1 := [some (.ref 81), some (.ref q1), none, none]) (st1 := [.int (Int32.ofInt 2), .ref 81]) (H1 := mz_mk g x) rfl ?_
    refine mz_cv rfl mt_4_95 (by decide) (sc_81 _) rfl (Nat.le_of_ble_eq_true rfl) (by omega) (c_X4_blame (by omega) hx hI (by decide) (by decide) (fun v20 g21 hIg21 hfg21 l_v20 u_v20 => ⟨_, rfl, ?_⟩))
    show mm_W d mmX4_readWord 14 [some (.ref 81), some (.ref q1), none, none] [.int (Int32.ofInt v20)] (mz_mk g21 x) Q
    exact mz_rtZ rfl (by decide) (by omega) (hQ _ _ hIg21 (fun k j hk => (hfg21 k j (fun h => hk (Or.elim h (fun h => (Or.inr (Or.inr (Or.inr (Or.inr (Or.inr (Or.inl h))))))) (fun h => (Or.inr (Or.inr (Or.inr (Or.inr (Or.inr (Or.inr h))))))))))) (by omega) (by omega))
theorem c_X9_get {d : Nat} (hd : 1 ≤ d) {x : mm_X} (hx : mk_x x) {g : mz_G} (hI : mz_inv g) {q0 : Nat} (h_q0 : kd_tks q0) {a1 : Int} (l_a1 : (-2147483648) ≤ a1) (u_a1 : a1 ≤ 2147483647) {Q : (Option Value ⊕ Nat) → mm_H → Prop} (hQ : ∀ (r : Nat), kd_trunk r → (q0 + 2 ≤ r ∧ r ≤ q0 + 8) → Q (.inl (some (.ref r))) (mz_mk g x)) : mm_C d 99 [.ref q0, .int (Int32.ofInt a1)] (mz_mk g x) Q := by
  have kn_q0 := kn_tks h_q0
  refine ⟨mmX9_get, [some (.ref q0), some (.int (Int32.ofInt a1))], rfl, rfl, ?_⟩
  refine mm_g 1 (pc1 := 1) (lo1 := [some (.ref q0), some (.int (Int32.ofInt a1))]) (st1 := [.int (Int32.ofInt a1)]) (H1 := mz_mk g x) rfl ?_
  refine mz_if_lt (tgt := 22) rfl rfl (mz_rg l_a1 u_a1) (fun c1_0 => ?_) (fun c1_0 => ?_)
  · skip
    refine mm_g 1 (pc1 := 23) (lo1 := [some (.ref q0), some (.int (Int32.ofInt a1))]) (st1 := [.ref q0]) (H1 := mz_mk g x) rfl ?_
    refine mz_fgR (v := (q0 + 2)) rfl fd_9_18 (by decide) (kc_tks h_q0 _) (kr_tks_1 h_q0 _ _ _) ?_
    exact mm_rt rfl rfl (hQ _ (ks_tks_1 h_q0) (by omega))
  · skip
    refine mm_g 2 (pc1 := 6) (lo1 := [some (.ref q0), some (.int (Int32.ofInt a1))]) (st1 := [.ref q0, .int (Int32.ofInt a1)]) (H1 := mz_mk g x) rfl ?_
    refine mz_fgR (v := (q0 + 1)) rfl fd_9_11 (by decide) (kc_tks h_q0 _) (kr_tks_0 h_q0 _ _ _) ?_
    refine mz_al rfl (ka_tks_0 h_q0 _) (by decide) ?_
    refine mz_ic_ge (tgt := 22) rfl rfl (mz_rg l_a1 u_a1) ⟨by omega, by omega⟩ (fun c10_0 => ?_) (fun c10_0 => ?_)
    · skip
      refine mm_g 1 (pc1 := 23) (lo1 := [some (.ref q0), some (.int (Int32.ofInt a1))]) (st1 := [.ref q0]) (H1 := mz_mk g x) rfl ?_
      refine mz_fgR (v := (q0 + 2)) rfl fd_9_18 (by decide) (kc_tks h_q0 _) (kr_tks_1 h_q0 _ _ _) ?_
      exact mm_rt rfl rfl (hQ _ (ks_tks_1 h_q0) (by omega))
    · skip
      refine mm_g 1 (pc1 := 14) (lo1 := [some (.ref q0), some (.int (Int32.ofInt a1))]) (st1 := [.ref q0]) (H1 := mz_mk g x) rfl ?_
      refine mz_fgR (v := (q0 + 1)) rfl fd_9_11 (by decide) (kc_tks h_q0 _) (kr_tks_0 h_q0 _ _ _) ?_
      refine mm_g 1 (pc1 := 18) (lo1 := [some (.ref q0), some (.int (Int32.ofInt a1))]) (st1 := [.int (Int32.ofInt a1), .ref (q0 + 1)]) (H1 := mz_mk g x) rfl ?_
      obtain ⟨u1, e_u1, k_u1, r1_u1, r2_u1⟩ := kw_tks x h_q0 (a := a1) (by omega) (by omega)
      refine mz_aa rfl (ka_tks_0 h_q0 _) (by decide) (by omega) (by omega) (by decide) e_u1 ?_
      refine mz_nn (tgt := 27) rfl rfl ?_
      refine mm_g 1 (pc1 := 28) (lo1 := [some (.ref q0), some (.int (Int32.ofInt a1))]) (st1 := [.ref q0]) (H1 := mz_mk g x) rfl ?_
      refine mz_fgR (v := (q0 + 1)) rfl fd_9_11 (by decide) (kc_tks h_q0 _) (kr_tks_0 h_q0 _ _ _) ?_
      refine mm_g 1 (pc1 := 32) (lo1 := [some (.ref q0), some (.int (Int32.ofInt a1))]) (st1 := [.int (Int32.ofInt a1), .ref (q0 + 1)]) (H1 := mz_mk g x) rfl ?_
      obtain ⟨u2, e_u2, k_u2, r1_u2, r2_u2⟩ := kw_tks x h_q0 (a := a1) (by omega) (by omega)
      refine mz_aa rfl (ka_tks_0 h_q0 _) (by decide) (by omega) (by omega) (by decide) e_u2 ?_
      exact mm_rt rfl rfl (hQ _ k_u2 (by omega))
def fw_X9_addTrunk (x : mm_X) (q0 : Nat) (a1 : Int) (a2 : Int) (a3 : Int) (a4 : Int) : Nat → Nat → Prop := fun k j => (q0 ≤ k ∧ k < q0 + 9)
theorem c_X9_addTrunk {d : Nat} (hd : 2 ≤ d) {x : mm_X} (hx : mk_x x) {g : mz_G} (hI : mz_inv g) {q0 : Nat} (h_q0 : kd_tks q0) {a1 : Int} (l_a1 : (-2147483648) ≤ a1) (u_a1 : a1 ≤ 2147483647) {a2 : Int} (l_a2 : (-2147483648) ≤ a2) (u_a2 : a2 ≤ 2147483647) {a3 : Int} (l_a3 : (-2147483648) ≤ a3) (u_a3 : a3 ≤ 2147483647) {a4 : Int} (l_a4 : 0 ≤ a4) (u_a4 : a4 ≤ 1) {Q : (Option Value ⊕ Nat) → mm_H → Prop} (hQ : ∀ (g1 : mz_G), mz_inv g1 → mz_fr (fw_X9_addTrunk x q0 a1 a2 a3 a4) g g1 → Q (.inl none) (mz_mk g1 x)) : mm_C d 100 [.ref q0, .int (Int32.ofInt a1), .int (Int32.ofInt a2), .int (Int32.ofInt a3), .int (Int32.ofInt a4)] (mz_mk g x) Q := by
  have kn_q0 := kn_tks h_q0
  refine ⟨mmX9_addTrunk, [some (.ref q0), some (.int (Int32.ofInt a1)), some (.int (Int32.ofInt a2)), some (.int (Int32.ofInt a3)), some (.int (Int32.ofInt a4)), none], rfl, rfl, ?_⟩
  refine mm_g 1 (pc1 := 1) (lo1 := [some (.ref q0), some (.int (Int32.ofInt a1)), some (.int (Int32.ofInt a2)), some (.int (Int32.ofInt a3)), some (.int (Int32.ofInt a4)), none]) (st1 := [.ref q0]) (H1 := mz_mk g x) rfl ?_
  refine mz_gI rfl fd_9_22 (by decide) (kc_tks h_q0 _) hI (kb_tks_2 h_q0) (fun v1 e_v1 l_v1 u_v1 => ?_)
  refine mz_bip rfl bip_6 ?_
  refine mz_ic_ge (tgt := 60) rfl rfl (mz_rg l_v1 u_v1) ⟨by decide, by decide⟩ (fun c6_1 => ?_) (fun c6_1 => ?_)
  · skip
    exact mm_rt rfl rfl (hQ _ hI (fun _ _ _ => rfl))
  · skip
    refine mm_g 2 (pc1 := 11) (lo1 := [some (.ref q0), some (.int (Int32.ofInt a1)), some (.int (Int32.ofInt a2)), some (.int (Int32.ofInt a3)), some (.int (Int32.ofInt a4)), none]) (st1 := [.ref q0, .ref q0]) (H1 := mz_mk g x) rfl ?_
    refine mz_fgI (v := v1) rfl fd_9_22 (by decide) (kc_tks h_q0 _) e_v1 ?_
    refine mz_cv rfl mt_9_29 (by decide) (kc_tks h_q0 _) rfl (Nat.le_of_ble_eq_true rfl) (by omega) (c_X9_get (by omega) hx hI h_q0 (by omega) (by omega) (fun u2 k_u2 hp3 => ⟨_, rfl, ?_⟩))
    show mm_W d mmX9_addTrunk 17 [some (.ref q0), some (.int (Int32.ofInt a1)), some (.int (Int32.ofInt a2)), some (.int (Int32.ofInt a3)), some (.int (Int32.ofInt a4)), none] [.ref u2] (mz_mk g x) Q
    refine mm_g 3 (pc1 := 22) (lo1 := [some (.ref q0), some (.int (Int32.ofInt a1)), some (.int (Int32.ofInt a2)), some (.int (Int32.ofInt a3)), some (.int (Int32.ofInt a4)), some (.ref u2)]) (st1 := [.int (Int32.ofInt a1), .ref u2]) (H1 := mz_mk g x) rfl ?_
    refine mz_pI rfl fd_9_33 (kc_trunk k_u2 _) hI (kb_trunk_0 k_u2) (by omega) (by omega) (fun g4 hIg4 hug4 => ?_)
    refine mm_g 2 (pc1 := 28) (lo1 := [some (.ref q0), some (.int (Int32.ofInt a1)), some (.int (Int32.ofInt a2)), some (.int (Int32.ofInt a3)), some (.int (Int32.ofInt a4)), some (.ref u2)]) (st1 := [.int (Int32.ofInt a2), .ref u2]) (H1 := mz_mk g4 x) rfl ?_
    refine mz_pI rfl fd_9_36 (kc_trunk k_u2 _) hIg4 (kb_trunk_1 k_u2) (by omega) (by omega) (fun g5 hIg5 hug5 => ?_)
    refine mm_g 2 (pc1 := 34) (lo1 := [some (.ref q0), some (.int (Int32.ofInt a1)), some (.int (Int32.ofInt a2)), some (.int (Int32.ofInt a3)), some (.int (Int32.ofInt a4)), some (.ref u2)]) (st1 := [.int (Int32.ofInt a3), .ref u2]) (H1 := mz_mk g5 x) rfl ?_
    refine mz_pI rfl fd_9_39 (kc_trunk k_u2 _) hIg5 (kb_trunk_2 k_u2) (by omega) (by omega) (fun g6 hIg6 hug6 => ?_)
    refine mm_g 2 (pc1 := 40) (lo1 := [some (.ref q0), some (.int (Int32.ofInt a1)), some (.int (Int32.ofInt a2)), some (.int (Int32.ofInt a3)), some (.int (Int32.ofInt a4)), some (.ref u2)]) (st1 := [.int (Int32.ofInt 0), .ref u2]) (H1 := mz_mk g6 x) rfl ?_
    refine mz_pI rfl fd_9_42 (kc_trunk k_u2 _) hIg6 (kb_trunk_3 k_u2) (by omega) (by omega) (fun g7 hIg7 hug7 => ?_)
    refine mm_g 2 (pc1 := 47) (lo1 := [some (.ref q0), some (.int (Int32.ofInt a1)), some (.int (Int32.ofInt a2)), some (.int (Int32.ofInt a3)), some (.int (Int32.ofInt a4)), some (.ref u2)]) (st1 := [.int (Int32.ofInt a4), .ref u2]) (H1 := mz_mk g7 x) rfl ?_
    refine mz_pZ rfl fd_9_45 (kc_trunk k_u2 _) (by omega) hIg7 (kb_trunk_4 k_u2) (by omega) (by omega) (fun g8 hIg8 hug8 => ?_)
    refine mm_g 2 (pc1 := 52) (lo1 := [some (.ref q0), some (.int (Int32.ofInt a1)), some (.int (Int32.ofInt a2)), some (.int (Int32.ofInt a3)), some (.int (Int32.ofInt a4)), some (.ref u2)]) (st1 := [.ref q0, .ref q0]) (H1 := mz_mk g8 x) rfl ?_
    refine mz_fgI (v := v1) rfl fd_9_22 (by decide) (kc_tks h_q0 _) (show g8 q0 2 = v1 from ((hug8.2 q0 2 (by omega)).trans ((hug7.2 q0 2 (by omega)).trans ((hug6.2 q0 2 (by omega)).trans ((hug5.2 q0 2 (by omega)).trans ((hug4.2 q0 2 (by omega)).trans e_v1)))))) ?_
    refine mm_g 1 (pc1 := 56) (lo1 := [some (.ref q0), some (.int (Int32.ofInt a1)), some (.int (Int32.ofInt a2)), some (.int (Int32.ofInt a3)), some (.int (Int32.ofInt a4)), some (.ref u2)]) (st1 := [.int (Int32.ofInt 1), .int (Int32.ofInt v1), .ref q0]) (H1 := mz_mk g8 x) rfl ?_
    refine mz_iadd rfl ?_
    refine mz_pI rfl fd_9_22 (kc_tks h_q0 _) hIg8 (kb_tks_2 h_q0) (by omega) (by omega) (fun g9 hIg9 hug9 => ?_)
    exact mm_rt rfl rfl (hQ _ hIg9 (fun k j hk => ((hug9.2 k j (fun h => hk (show (q0 ≤ k ∧ k < q0 + 9) by have h9 : k = q0 ∧ j = 2 := h; omega))).trans ((hug8.2 k j (fun h => hk (show (q0 ≤ k ∧ k < q0 + 9) by have h9 : k = u2 ∧ j = 4 := h; omega))).trans ((hug7.2 k j (fun h => hk (show (q0 ≤ k ∧ k < q0 + 9) by have h9 : k = u2 ∧ j = 3 := h; omega))).trans ((hug6.2 k j (fun h => hk (show (q0 ≤ k ∧ k < q0 + 9) by have h9 : k = u2 ∧ j = 2 := h; omega))).trans ((hug5.2 k j (fun h => hk (show (q0 ≤ k ∧ k < q0 + 9) by have h9 : k = u2 ∧ j = 1 := h; omega))).trans (hug4.2 k j (fun h => hk (show (q0 ≤ k ∧ k < q0 + 9) by have h9 : k = u2 ∧ j = 0 := h; omega))))))))))
def fw_X4_readTrunk (x : mm_X) (q1 : Nat) (a2 : Int) : Nat → Nat → Prop := fun k j => (k = 82 ∧ j = 3) ∨ (k = 82 ∧ j = 5) ∨ (k = 82 ∧ j = 6) ∨ (k = 82 ∧ j = 4) ∨ (k = 81 ∧ j = 1) ∨ (k = 81 ∧ j = 2) ∨ ((q1 + 26) ≤ k ∧ k < (q1 + 26) + 9)
theorem c_X4_readTrunk {d : Nat} (hd : 5 ≤ d) {x : mm_X} (hx : mk_x x) {g : mz_G} (hI : mz_inv g) {q1 : Nat} (h_q1 : kd_load q1) {a2 : Int} (l_a2 : 0 ≤ a2) (u_a2 : a2 ≤ 1) {Q : (Option Value ⊕ Nat) → mm_H → Prop} (hQ : ∀ (r : Int) (g1 : mz_G), mz_inv g1 → mz_fr (fw_X4_readTrunk x q1 a2) g g1 → 0 ≤ r → r ≤ 1 → Q (.inl (some (.int (Int32.ofInt r)))) (mz_mk g1 x)) : mm_C d 44 [.ref 81, .ref q1, .int (Int32.ofInt a2)] (mz_mk g x) Q := by
  have kn_q1 := kn_load h_q1
  refine ⟨mmX4_readTrunk, [some (.ref 81), some (.ref q1), some (.int (Int32.ofInt a2)), none, none, none, none], rfl, rfl, ?_⟩
  refine mm_g 1 (pc1 := 1) (lo1 := [some (.ref 81), some (.ref q1), some (.int (Int32.ofInt a2)), none, none, none, none]) (st1 := [.ref q1]) (H1 := mz_mk g x) rfl ?_
  refine mz_fgR (v := (q1 + 26)) rfl fd_4_132 (by decide) (kc_load h_q1 _) (kr_load_1 h_q1 _ _ _) ?_
  refine mz_gI rfl fd_4_136 (by decide) (kc_tks (ks_load_1 h_q1) _) hI (kb_tks_2 (ks_load_1 h_q1)) (fun v1 e_v1 l_v1 u_v1 => ?_)
  refine mz_bip rfl bip_6 ?_
  refine mz_ic_lt (tgt := 18) rfl rfl (mz_rg l_v1 u_v1) ⟨by decide, by decide⟩ (fun c9_1 => ?_) (fun c9_1 => ?_)
  · skip
    refine mm_g 1 (pc1 := 19) (lo1 := [some (.ref 81), some (.ref q1), some (.int (Int32.ofInt a2)), none, none, none, none]) (st1 := [.ref 81]) (H1 := mz_mk g x) rfl ?_
    refine mz_fgR (v := 82) rfl fd_4_12 (by decide) (sc_81 _) (rf_81_0 _ _ _) ?_
    refine mz_cv rfl mt_4_99 (by decide) (sc_82 _) rfl (Nat.le_of_ble_eq_true rfl) (by omega) (c_X7_step (by omega) hx hI (fun g2 hIg2 hfg2 => ⟨_, rfl, ?_⟩))
    show mm_W d mmX4_readTrunk 25 [some (.ref 81), some (.ref q1), some (.int (Int32.ofInt a2)), none, none, none, none] [] (mz_mk g2 x) Q
    refine mm_g 1 (pc1 := 26) (lo1 := [some (.ref 81), some (.ref q1), some (.int (Int32.ofInt a2)), none, none, none, none]) (st1 := [.ref q1]) (H1 := mz_mk g2 x) rfl ?_
    refine mz_fgR (v := (q1 + 1)) rfl fd_4_61 (by decide) (kc_load h_q1 _) (kr_load_0 h_q1 _ _ _) ?_
    refine mz_cv rfl mt_4_102 (by decide) (kc_words (ks_load_0 h_q1) _) rfl (Nat.le_of_ble_eq_true rfl) (by omega) (c_X10_many (by omega) hx hIg2 (ks_load_0 h_q1) (fun v3 l_v3 u_v3 => ⟨_, rfl, ?_⟩))
    show mm_W d mmX4_readTrunk 32 [some (.ref 81), some (.ref q1), some (.int (Int32.ofInt a2)), none, none, none, none] [.int (Int32.ofInt v3)] (mz_mk g2 x) Q
    refine mm_g 1 (pc1 := 33) (lo1 := [some (.ref 81), some (.ref q1), some (.int (Int32.ofInt a2)), none, none, none, none]) (st1 := [.int (Int32.ofInt 1), .int (Int32.ofInt v3)]) (H1 := mz_mk g2 x) rfl ?_
    refine mz_isub rfl ?_
    refine mm_g 4 (pc1 := 38) (lo1 := [some (.ref 81), some (.ref q1), some (.int (Int32.ofInt a2)), some (.int (Int32.ofInt (v3 - 1))), none, none, none]) (st1 := [.int (Int32.ofInt 3), .int (Int32.ofInt (v3 - 1)), .ref 81]) (H1 := mz_mk g2 x) rfl ?_
    refine mz_cv rfl mt_4_122 (by decide) (sc_81 _) rfl (Nat.le_of_ble_eq_true rfl) (by omega) (c_X4_readNumber (by omega) hx hIg2 (by omega) (by omega) (by decide) (by decide) (fun v4 g5 hIg5 hfg5 l_v4 u_v4 => ⟨_, rfl, ?_⟩))
    show mm_W d mmX4_readTrunk 41 [some (.ref 81), some (.ref q1), some (.int (Int32.ofInt a2)), some (.int (Int32.ofInt (v3 - 1))), none, none, none] [.int (Int32.ofInt v4)] (mz_mk g5 x) Q
    refine mm_g 3 (pc1 := 46) (lo1 := [some (.ref 81), some (.ref q1), some (.int (Int32.ofInt a2)), some (.int (Int32.ofInt (v3 - 1))), some (.int (Int32.ofInt v4)), none, none]) (st1 := [.int (Int32.ofInt (-1)), .int (Int32.ofInt v4)]) (H1 := mz_mk g5 x) rfl ?_
    refine mz_ic_ne (tgt := 53) rfl rfl (mz_rg l_v4 u_v4) ⟨by decide, by decide⟩ (fun c46_5 => ?_) (fun c46_5 => ?_)
    · skip
      refine mm_g 3 (pc1 := 56) (lo1 := [some (.ref 81), some (.ref q1), some (.int (Int32.ofInt a2)), some (.int (Int32.ofInt (v3 - 1))), some (.int (Int32.ofInt v4)), none, none]) (st1 := [.int (Int32.ofInt 3), .int (Int32.ofInt (v3 - 1)), .ref 81]) (H1 := mz_mk g5 x) rfl ?_
      refine mz_cv rfl mt_4_122 (by decide) (sc_81 _) rfl (Nat.le_of_ble_eq_true rfl) (by omega) (c_X4_readNumber (by omega) hx hIg5 (by omega) (by omega) (by decide) (by decide) (fun v6 g7 hIg7 hfg7 l_v6 u_v6 => ⟨_, rfl, ?_⟩))
      show mm_W d mmX4_readTrunk 59 [some (.ref 81), some (.ref q1), some (.int (Int32.ofInt a2)), some (.int (Int32.ofInt (v3 - 1))), some (.int (Int32.ofInt v4)), none, none] [.int (Int32.ofInt v6)] (mz_mk g7 x) Q
      refine mm_g 3 (pc1 := 64) (lo1 := [some (.ref 81), some (.ref q1), some (.int (Int32.ofInt a2)), some (.int (Int32.ofInt (v3 - 1))), some (.int (Int32.ofInt v4)), some (.int (Int32.ofInt v6)), none]) (st1 := [.int (Int32.ofInt (-1)), .int (Int32.ofInt v6)]) (H1 := mz_mk g7 x) rfl ?_
      refine mz_ic_ne (tgt := 71) rfl rfl (mz_rg l_v6 u_v6) ⟨by decide, by decide⟩ (fun c64_7 => ?_) (fun c64_7 => ?_)
      · skip
        refine mm_g 1 (pc1 := 72) (lo1 := [some (.ref 81), some (.ref q1), some (.int (Int32.ofInt a2)), some (.int (Int32.ofInt (v3 - 1))), some (.int (Int32.ofInt v4)), some (.int (Int32.ofInt v6)), none]) (st1 := [.ref 81]) (H1 := mz_mk g7 x) rfl ?_
        refine mz_bip rfl bip_9 ?_
        refine mm_g 1 (pc1 := 75) (lo1 := [some (.ref 81), some (.ref q1), some (.int (Int32.ofInt a2)), some (.int (Int32.ofInt (v3 - 1))), some (.int (Int32.ofInt v4)), some (.int (Int32.ofInt v6)), none]) (st1 := [.int (Int32.ofInt 2), .int (Int32.ofInt 9), .ref 81]) (H1 := mz_mk g7 x) rfl ?_
        refine mz_cv rfl mt_4_122 (by decide) (sc_81 _) rfl (Nat.le_of_ble_eq_true rfl) (by omega) (c_X4_readNumber (by omega) hx hIg7 (by decide) (by decide) (by decide) (by decide) (fun v8 g9 hIg9 hfg9 l_v8 u_v8 => ⟨_, rfl, ?_⟩))
        show mm_W d mmX4_readTrunk 78 [some (.ref 81), some (.ref q1), some (.int (Int32.ofInt a2)), some (.int (Int32.ofInt (v3 - 1))), some (.int (Int32.ofInt v4)), some (.int (Int32.ofInt v6)), none] [.int (Int32.ofInt v8)] (mz_mk g9 x) Q
        refine mm_g 3 (pc1 := 83) (lo1 := [some (.ref 81), some (.ref q1), some (.int (Int32.ofInt a2)), some (.int (Int32.ofInt (v3 - 1))), some (.int (Int32.ofInt v4)), some (.int (Int32.ofInt v6)), some (.int (Int32.ofInt v8))]) (st1 := [.int (Int32.ofInt (-1)), .int (Int32.ofInt v8)]) (H1 := mz_mk g9 x) rfl ?_
        refine mz_ic_eq (tgt := 100) rfl rfl (mz_rg l_v8 u_v8) ⟨by decide, by decide⟩ (fun c83_9 => ?_) (fun c83_9 => ?_)
        · skip
          refine mm_g 2 (pc1 := 103) (lo1 := [some (.ref 81), some (.ref q1), some (.int (Int32.ofInt a2)), some (.int (Int32.ofInt (v3 - 1))), some (.int (Int32.ofInt v4)), some (.int (Int32.ofInt v6)), some (.int (Int32.ofInt v8))]) (st1 := [.int (Int32.ofInt (-1)), .int (Int32.ofInt v8)]) (H1 := mz_mk g9 x) rfl ?_
          refine mz_ic_eq (tgt := 110) rfl rfl (mz_rg l_v8 u_v8) ⟨by decide, by decide⟩ (fun c103_9 => ?_) (fun c103_9 => ?_)
          · skip
            refine mm_g 1 (pc1 := 111) (lo1 := [some (.ref 81), some (.ref q1), some (.int (Int32.ofInt a2)), some (.int (Int32.ofInt (v3 - 1))), some (.int (Int32.ofInt v4)), some (.int (Int32.ofInt v6)), some (.int (Int32.ofInt v8))]) (st1 := [.int (Int32.ofInt 0)]) (H1 := mz_mk g9 x) rfl ?_
            exact mz_rtZ rfl (by decide) (by omega) (hQ _ _ hIg9 (fun k j hk => ((hfg9 k j (fun h => hk (Or.elim h (fun h => (Or.inl h)) (fun h => (Or.elim h (fun h => (Or.inr (Or.inl h))) (fun h => (Or.elim h (fun h => (Or.inr (Or.inr (Or.inl h)))) (fun h => (Or.elim h (fun h => (Or.inr (Or.inr (Or.inr (Or.inl h))))) (fun h => (Or.elim h (fun h => (Or.inr (Or.inr (Or.inr (Or.inr (Or.inl h)))))) (fun h => (Or.inr (Or.inr (Or.inr (Or.inr (Or.inr (Or.inl h)))))))))))))))))).trans ((hfg7 k j (fun h => hk (Or.elim h (fun h => (Or.inl h)) (fun h => (Or.elim h (fun h => (Or.inr (Or.inl h))) (fun h => (Or.elim h (fun h => (Or.inr (Or.inr (Or.inl h)))) (fun h => (Or.elim h (fun h => (Or.inr (Or.inr (Or.inr (Or.inl h))))) (fun h => (Or.elim h (fun h => (Or.inr (Or.inr (Or.inr (Or.inr (Or.inl h)))))) (fun h => (Or.inr (Or.inr (Or.inr (Or.inr (Or.inr (Or.inl h)))))))))))))))))).trans ((hfg5 k j (fun h => hk (Or.elim h (fun h => (Or.inl h)) (fun h => (Or.elim h (fun h => (Or.inr (Or.inl h))) (fun h => (Or.elim h (fun h => (Or.inr (Or.inr (Or.inl h)))) (fun h => (Or.elim h (fun h => (Or.inr (Or.inr (Or.inr (Or.inl h))))) (fun h => (Or.elim h (fun h => (Or.inr (Or.inr (Or.inr (Or.inr (Or.inl h)))))) (fun h => (Or.inr (Or.inr (Or.inr (Or.inr (Or.inr (Or.inl h)))))))))))))))))).trans (hfg2 k j (fun h => hk (Or.elim h (fun h => (Or.inl h)) (fun h => (Or.elim h (fun h => (Or.inr (Or.inl h))) (fun h => (Or.elim h (fun h => (Or.inr (Or.inr (Or.inl h)))) (fun h => (Or.inr (Or.inr (Or.inr (Or.inl h)))))))))))))))) (by decide) (by decide))
          · exfalso; omega
        · skip
          refine mm_g 1 (pc1 := 87) (lo1 := [some (.ref 81), some (.ref q1), some (.int (Int32.ofInt a2)), some (.int (Int32.ofInt (v3 - 1))), some (.int (Int32.ofInt v4)), some (.int (Int32.ofInt v6)), some (.int (Int32.ofInt v8))]) (st1 := [.ref q1]) (H1 := mz_mk g9 x) rfl ?_
          refine mz_fgR (v := (q1 + 26)) rfl fd_4_132 (by decide) (kc_load h_q1 _) (kr_load_1 h_q1 _ _ _) ?_
          refine mm_g 4 (pc1 := 97) (lo1 := [some (.ref 81), some (.ref q1), some (.int (Int32.ofInt a2)), some (.int (Int32.ofInt (v3 - 1))), some (.int (Int32.ofInt v4)), some (.int (Int32.ofInt v6)), some (.int (Int32.ofInt v8))]) (st1 := [.int (Int32.ofInt a2), .int (Int32.ofInt v8), .int (Int32.ofInt v6), .int (Int32.ofInt v4), .ref (q1 + 26)]) (H1 := mz_mk g9 x) rfl ?_
          refine mz_cv rfl mt_4_141 (by decide) (kc_tks (ks_load_1 h_q1) _) rfl (Nat.le_of_ble_eq_true rfl) (by omega) (c_X9_addTrunk (by omega) hx hIg9 (ks_load_1 h_q1) l_v4 u_v4 l_v6 u_v6 l_v8 u_v8 l_a2 u_a2 (fun g10 hIg10 hfg10 => ⟨_, rfl, ?_⟩))
          show mm_W d mmX4_readTrunk 100 [some (.ref 81), some (.ref q1), some (.int (Int32.ofInt a2)), some (.int (Int32.ofInt (v3 - 1))), some (.int (Int32.ofInt v4)), some (.int (Int32.ofInt v6)), some (.int (Int32.ofInt v8))] [] (mz_mk g10 x) Q
          refine mm_g 2 (pc1 := 103) (lo1 := [some (.ref 81), some (.ref q1), some (.int (Int32.ofInt a2)), some (.int (Int32.ofInt (v3 - 1))), some (.int (Int32.ofInt v4)), some (.int (Int32.ofInt v6)), some (.int (Int32.ofInt v8))]) (st1 := [.int (Int32.ofInt (-1)), .int (Int32.ofInt v8)]) (H1 := mz_mk g10 x) rfl ?_
          refine mz_ic_eq (tgt := 110) rfl rfl (mz_rg l_v8 u_v8) ⟨by decide, by decide⟩ (fun c103_10 => ?_) (fun c103_10 => ?_)
          · skip
            refine mm_g 1 (pc1 := 111) (lo1 := [some (.ref 81), some (.ref q1), some (.int (Int32.ofInt a2)), some (.int (Int32.ofInt (v3 - 1))), some (.int (Int32.ofInt v4)), some (.int (Int32.ofInt v6)), some (.int (Int32.ofInt v8))]) (st1 := [.int (Int32.ofInt 0)]) (H1 := mz_mk g10 x) rfl ?_
            exact mz_rtZ rfl (by decide) (by omega) (hQ _ _ hIg10 (fun k j hk => ((hfg10 k j (fun h => hk (Or.inr (Or.inr (Or.inr (Or.inr (Or.inr (Or.inr h)))))))).trans ((hfg9 k j (fun h => hk (Or.elim h (fun h => (Or.inl h)) (fun h => (Or.elim h (fun h => (Or.inr (Or.inl h))) (fun h => (Or.elim h (fun h => (Or.inr (Or.inr (Or.inl h)))) (fun h => (Or.elim h (fun h => (Or.inr (Or.inr (Or.inr (Or.inl h))))) (fun h => (Or.elim h (fun h => (Or.inr (Or.inr (Or.inr (Or.inr (Or.inl h)))))) (fun h => (Or.inr (Or.inr (Or.inr (Or.inr (Or.inr (Or.inl h)))))))))))))))))).trans ((hfg7 k j (fun h => hk (Or.elim h (fun h => (Or.inl h)) (fun h => (Or.elim h (fun h => (Or.inr (Or.inl h))) (fun h => (Or.elim h (fun h => (Or.inr (Or.inr (Or.inl h)))) (fun h => (Or.elim h (fun h => (Or.inr (Or.inr (Or.inr (Or.inl h))))) (fun h => (Or.elim h (fun h => (Or.inr (Or.inr (Or.inr (Or.inr (Or.inl h)))))) (fun h => (Or.inr (Or.inr (Or.inr (Or.inr (Or.inr (Or.inl h)))))))))))))))))).trans ((hfg5 k j (fun h => hk (Or.elim h (fun h => (Or.inl h)) (fun h => (Or.elim h (fun h => (Or.inr (Or.inl h))) (fun h => (Or.elim h (fun h => (Or.inr (Or.inr (Or.inl h)))) (fun h => (Or.elim h (fun h => (Or.inr (Or.inr (Or.inr (Or.inl h))))) (fun h => (Or.elim h (fun h => (Or.inr (Or.inr (Or.inr (Or.inr (Or.inl h)))))) (fun h => (Or.inr (Or.inr (Or.inr (Or.inr (Or.inr (Or.inl h)))))))))))))))))).trans (hfg2 k j (fun h => hk (Or.elim h (fun h => (Or.inl h)) (fun h => (Or.elim h (fun h => (Or.inr (Or.inl h))) (fun h => (Or.elim h (fun h => (Or.inr (Or.inr (Or.inl h)))) (fun h => (Or.inr (Or.inr (Or.inr (Or.inl h))))))))))))))))) (by decide) (by decide))
          · skip
            refine mm_g 1 (pc1 := 107) (lo1 := [some (.ref 81), some (.ref q1), some (.int (Int32.ofInt a2)), some (.int (Int32.ofInt (v3 - 1))), some (.int (Int32.ofInt v4)), some (.int (Int32.ofInt v6)), some (.int (Int32.ofInt v8))]) (st1 := [.int (Int32.ofInt 1)]) (H1 := mz_mk g10 x) rfl ?_
            refine mz_gt (tgt := 111) rfl rfl ?_
            exact mz_rtZ rfl (by decide) (by omega) (hQ _ _ hIg10 (fun k j hk => ((hfg10 k j (fun h => hk (Or.inr (Or.inr (Or.inr (Or.inr (Or.inr (Or.inr h)))))))).trans ((hfg9 k j (fun h => hk (Or.elim h (fun h => (Or.inl h)) (fun h => (Or.elim h (fun h => (Or.inr (Or.inl h))) (fun h => (Or.elim h (fun h => (Or.inr (Or.inr (Or.inl h)))) (fun h => (Or.elim h (fun h => (Or.inr (Or.inr (Or.inr (Or.inl h))))) (fun h => (Or.elim h (fun h => (Or.inr (Or.inr (Or.inr (Or.inr (Or.inl h)))))) (fun h => (Or.inr (Or.inr (Or.inr (Or.inr (Or.inr (Or.inl h)))))))))))))))))).trans ((hfg7 k j (fun h => hk (Or.elim h (fun h => (Or.inl h)) (fun h => (Or.elim h (fun h => (Or.inr (Or.inl h))) (fun h => (Or.elim h (fun h => (Or.inr (Or.inr (Or.inl h)))) (fun h => (Or.elim h (fun h => (Or.inr (Or.inr (Or.inr (Or.inl h))))) (fun h => (Or.elim h (fun h => (Or.inr (Or.inr (Or.inr (Or.inr (Or.inl h)))))) (fun h => (Or.inr (Or.inr (Or.inr (Or.inr (Or.inr (Or.inl h)))))))))))))))))).trans ((hfg5 k j (fun h => hk (Or.elim h (fun h => (Or.inl h)) (fun h => (Or.elim h (fun h => (Or.inr (Or.inl h))) (fun h => (Or.elim h (fun h => (Or.inr (Or.inr (Or.inl h)))) (fun h => (Or.elim h (fun h => (Or.inr (Or.inr (Or.inr (Or.inl h))))) (fun h => (Or.elim h (fun h => (Or.inr (Or.inr (Or.inr (Or.inr (Or.inl h)))))) (fun h => (Or.inr (Or.inr (Or.inr (Or.inr (Or.inr (Or.inl h)))))))))))))))))).trans (hfg2 k j (fun h => hk (Or.elim h (fun h => (Or.inl h)) (fun h => (Or.elim h (fun h => (Or.inr (Or.inl h))) (fun h => (Or.elim h (fun h => (Or.inr (Or.inr (Or.inl h)))) (fun h => (Or.inr (Or.inr (Or.inr (Or.inl h))))))))))))))))) (by decide) (by decide))
      · skip
        refine mm_g 1 (pc1 := 68) (lo1 := [some (.ref 81), some (.ref q1), some (.int (Int32.ofInt a2)), some (.int (Int32.ofInt (v3 - 1))), some (.int (Int32.ofInt v4)), some (.int (Int32.ofInt v6)), none]) (st1 := [.int (Int32.ofInt (-1))]) (H1 := mz_mk g7 x) rfl ?_
        refine mz_gt (tgt := 78) rfl rfl ?_
        refine mm_g 3 (pc1 := 83) (lo1 := [some (.ref 81), some (.ref q1), some (.int (Int32.ofInt a2)), some (.int (Int32.ofInt (v3 - 1))), some (.int (Int32.ofInt v4)), some (.int (Int32.ofInt v6)), some (.int (Int32.ofInt (-1)))]) (st1 := [.int (Int32.ofInt (-1)), .int (Int32.ofInt (-1))]) (H1 := mz_mk g7 x) rfl ?_
        refine mz_ic_eq (tgt := 100) rfl rfl ⟨by decide, by decide⟩ ⟨by decide, by decide⟩ (fun c83_10 => ?_) (fun c83_10 => ?_)
        · skip
          refine mm_g 2 (pc1 := 103) (lo1 := [some (.ref 81), some (.ref q1), some (.int (Int32.ofInt a2)), some (.int (Int32.ofInt (v3 - 1))), some (.int (Int32.ofInt v4)), some (.int (Int32.ofInt v6)), some (.int (Int32.ofInt (-1)))]) (st1 := [.int (Int32.ofInt (-1)), .int (Int32.ofInt (-1))]) (H1 := mz_mk g7 x) rfl ?_
          refine mz_ic_eq (tgt := 110) rfl rfl ⟨by decide, by decide⟩ ⟨by decide, by decide⟩ (fun c103_10 => ?_) (fun c103_10 => ?_)
          · skip
            refine mm_g 1 (pc1 := 111) (lo1 := [some (.ref 81), some (.ref q1), some (.int (Int32.ofInt a2)), some (.int (Int32.ofInt (v3 - 1))), some (.int (Int32.ofInt v4)), some (.int (Int32.ofInt v6)), some (.int (Int32.ofInt (-1)))]) (st1 := [.int (Int32.ofInt 0)]) (H1 := mz_mk g7 x) rfl ?_
            exact mz_rtZ rfl (by decide) (by omega) (hQ _ _ hIg7 (fun k j hk => ((hfg7 k j (fun h => hk (Or.elim h (fun h => (Or.inl h)) (fun h => (Or.elim h (fun h => (Or.inr (Or.inl h))) (fun h => (Or.elim h (fun h => (Or.inr (Or.inr (Or.inl h)))) (fun h => (Or.elim h (fun h => (Or.inr (Or.inr (Or.inr (Or.inl h))))) (fun h => (Or.elim h (fun h => (Or.inr (Or.inr (Or.inr (Or.inr (Or.inl h)))))) (fun h => (Or.inr (Or.inr (Or.inr (Or.inr (Or.inr (Or.inl h)))))))))))))))))).trans ((hfg5 k j (fun h => hk (Or.elim h (fun h => (Or.inl h)) (fun h => (Or.elim h (fun h => (Or.inr (Or.inl h))) (fun h => (Or.elim h (fun h => (Or.inr (Or.inr (Or.inl h)))) (fun h => (Or.elim h (fun h => (Or.inr (Or.inr (Or.inr (Or.inl h))))) (fun h => (Or.elim h (fun h => (Or.inr (Or.inr (Or.inr (Or.inr (Or.inl h)))))) (fun h => (Or.inr (Or.inr (Or.inr (Or.inr (Or.inr (Or.inl h)))))))))))))))))).trans (hfg2 k j (fun h => hk (Or.elim h (fun h => (Or.inl h)) (fun h => (Or.elim h (fun h => (Or.inr (Or.inl h))) (fun h => (Or.elim h (fun h => (Or.inr (Or.inr (Or.inl h)))) (fun h => (Or.inr (Or.inr (Or.inr (Or.inl h))))))))))))))) (by decide) (by decide))
          · exfalso; omega
        · exfalso; omega
    · skip
      refine mm_g 1 (pc1 := 50) (lo1 := [some (.ref 81), some (.ref q1), some (.int (Int32.ofInt a2)), some (.int (Int32.ofInt (v3 - 1))), some (.int (Int32.ofInt v4)), none, none]) (st1 := [.int (Int32.ofInt (-1))]) (H1 := mz_mk g5 x) rfl ?_
      refine mz_gt (tgt := 59) rfl rfl ?_
      refine mm_g 3 (pc1 := 64) (lo1 := [some (.ref 81), some (.ref q1), some (.int (Int32.ofInt a2)), some (.int (Int32.ofInt (v3 - 1))), some (.int (Int32.ofInt v4)), some (.int (Int32.ofInt (-1))), none]) (st1 := [.int (Int32.ofInt (-1)), .int (Int32.ofInt (-1))]) (H1 := mz_mk g5 x) rfl ?_
      refine mz_ic_ne (tgt := 71) rfl rfl ⟨by decide, by decide⟩ ⟨by decide, by decide⟩ (fun c64_10 => ?_) (fun c64_10 => ?_)
      · exfalso; omega
      · skip
        refine mm_g 1 (pc1 := 68) (lo1 := [some (.ref 81), some (.ref q1), some (.int (Int32.ofInt a2)), some (.int (Int32.ofInt (v3 - 1))), some (.int (Int32.ofInt v4)), some (.int (Int32.ofInt (-1))), none]) (st1 := [.int (Int32.ofInt (-1))]) (H1 := mz_mk g5 x) rfl ?_
        refine mz_gt (tgt := 78) rfl rfl ?_
        refine mm_g 3 (pc1 := 83) (lo1 := [some (.ref 81), some (.ref q1), some (.int (Int32.ofInt a2)), some (.int (Int32.ofInt (v3 - 1))), some (.int (Int32.ofInt v4)), some (.int (Int32.ofInt (-1))), some (.int (Int32.ofInt (-1)))]) (st1 := [.int (Int32.ofInt (-1)), .int (Int32.ofInt (-1))]) (H1 := mz_mk g5 x) rfl ?_
        refine mz_ic_eq (tgt := 100) rfl rfl ⟨by decide, by decide⟩ ⟨by decide, by decide⟩ (fun c83_10 => ?_) (fun c83_10 => ?_)
        · skip
          refine mm_g 2 (pc1 := 103) (lo1 := [some (.ref 81), some (.ref q1), some (.int (Int32.ofInt a2)), some (.int (Int32.ofInt (v3 - 1))), some (.int (Int32.ofInt v4)), some (.int (Int32.ofInt (-1))), some (.int (Int32.ofInt (-1)))]) (st1 := [.int (Int32.ofInt (-1)), .int (Int32.ofInt (-1))]) (H1 := mz_mk g5 x) rfl ?_
          refine mz_ic_eq (tgt := 110) rfl rfl ⟨by decide, by decide⟩ ⟨by decide, by decide⟩ (fun c103_10 => ?_) (fun c103_10 => ?_)
          · skip
            refine mm_g 1 (pc1 := 111) (lo1 := [some (.ref 81), some (.ref q1), some (.int (Int32.ofInt a2)), some (.int (Int32.ofInt (v3 - 1))), some (.int (Int32.ofInt v4)), some (.int (Int32.ofInt (-1))), some (.int (Int32.ofInt (-1)))]) (st1 := [.int (Int32.ofInt 0)]) (H1 := mz_mk g5 x) rfl ?_
            exact mz_rtZ rfl (by decide) (by omega) (hQ _ _ hIg5 (fun k j hk => ((hfg5 k j (fun h => hk (Or.elim h (fun h => (Or.inl h)) (fun h => (Or.elim h (fun h => (Or.inr (Or.inl h))) (fun h => (Or.elim h (fun h => (Or.inr (Or.inr (Or.inl h)))) (fun h => (Or.elim h (fun h => (Or.inr (Or.inr (Or.inr (Or.inl h))))) (fun h => (Or.elim h (fun h => (Or.inr (Or.inr (Or.inr (Or.inr (Or.inl h)))))) (fun h => (Or.inr (Or.inr (Or.inr (Or.inr (Or.inr (Or.inl h)))))))))))))))))).trans (hfg2 k j (fun h => hk (Or.elim h (fun h => (Or.inl h)) (fun h => (Or.elim h (fun h => (Or.inr (Or.inl h))) (fun h => (Or.elim h (fun h => (Or.inr (Or.inr (Or.inl h)))) (fun h => (Or.inr (Or.inr (Or.inr (Or.inl h)))))))))))))) (by decide) (by decide))
          · exfalso; omega
        · exfalso; omega
  · skip
    refine mm_g 2 (pc1 := 14) (lo1 := [some (.ref 81), some (.ref q1), some (.int (Int32.ofInt a2)), none, none, none, none]) (st1 := [.int (Int32.ofInt 2), .ref 81]) (H1 := mz_mk g x) rfl ?_
    refine mz_cv rfl mt_4_95 (by decide) (sc_81 _) rfl (Nat.le_of_ble_eq_true rfl) (by omega) (c_X4_blame (by omega) hx hI (by decide) (by decide) (fun v11 g12 hIg12 hfg12 l_v11 u_v11 => ⟨_, rfl, ?_⟩))
    show mm_W d mmX4_readTrunk 17 [some (.ref 81), some (.ref q1), some (.int (Int32.ofInt a2)), none, none, none, none] [.int (Int32.ofInt v11)] (mz_mk g12 x) Q
    exact mz_rtZ rfl (by decide) (by omega) (hQ _ _ hIg12 (fun k j hk => (hfg12 k j (fun h => hk (Or.elim h (fun h => (Or.inr (Or.inr (Or.inr (Or.inr (Or.inl h)))))) (fun h => (Or.inr (Or.inr (Or.inr (Or.inr (Or.inr (Or.inl h))))))))))) (by omega) (by omega))
def fw_X1_addHeat (x : mm_X) (q0 : Nat) (a1 : Int) : Nat → Nat → Prop := fun k j => k = (q0 + 35) ∨ k = q0
theorem c_X1_addHeat {d : Nat} (hd : 2 ≤ d) {x : mm_X} (hx : mk_x x) {g : mz_G} (hI : mz_inv g) {q0 : Nat} (h_q0 : kd_load q0) {a1 : Int} (l_a1 : (-2147483648) ≤ a1) (u_a1 : a1 ≤ 2147483647) {Q : (Option Value ⊕ Nat) → mm_H → Prop} (hQ : ∀ (g1 : mz_G), mz_inv g1 → mz_fr (fw_X1_addHeat x q0 a1) g g1 → Q (.inl none) (mz_mk g1 x)) : mm_C d 14 [.ref q0, .int (Int32.ofInt a1)] (mz_mk g x) Q := by
  have kn_q0 := kn_load h_q0
  refine ⟨mmX1_addHeat, [some (.ref q0), some (.int (Int32.ofInt a1))], rfl, rfl, ?_⟩
  refine mm_g 1 (pc1 := 1) (lo1 := [some (.ref q0), some (.int (Int32.ofInt a1))]) (st1 := [.ref q0]) (H1 := mz_mk g x) rfl ?_
  refine mz_gI rfl fd_1_29 (by decide) (kc_load h_q0 _) hI (kb_load_3 h_q0) (fun v1 e_v1 l_v1 u_v1 => ?_)
  refine mz_bip rfl bip_8 ?_
  refine mz_ic_ge (tgt := 31) rfl rfl (mz_rg l_v1 u_v1) ⟨by decide, by decide⟩ (fun c6_1 => ?_) (fun c6_1 => ?_)
  · skip
    exact mm_rt rfl rfl (hQ _ hI (fun _ _ _ => rfl))
  · skip
    refine mm_g 1 (pc1 := 10) (lo1 := [some (.ref q0), some (.int (Int32.ofInt a1))]) (st1 := [.ref q0]) (H1 := mz_mk g x) rfl ?_
    refine mz_fgR (v := (q0 + 35)) rfl fd_1_25 (by decide) (kc_load h_q0 _) (kr_load_2 h_q0 _ _ _) ?_
    refine mm_g 1 (pc1 := 14) (lo1 := [some (.ref q0), some (.int (Int32.ofInt a1))]) (st1 := [.ref q0, .ref (q0 + 35)]) (H1 := mz_mk g x) rfl ?_
    refine mz_fgI (v := v1) rfl fd_1_29 (by decide) (kc_load h_q0 _) e_v1 ?_
    refine mm_g 1 (pc1 := 18) (lo1 := [some (.ref q0), some (.int (Int32.ofInt a1))]) (st1 := [.int (Int32.ofInt a1), .int (Int32.ofInt v1), .ref (q0 + 35)]) (H1 := mz_mk g x) rfl ?_
    refine mz_cs rfl mt_1_49 (by decide) rfl (Nat.le_of_ble_eq_true rfl) (by omega) (c_X11_put (by omega) hx hI (ka_load_2 h_q0 _) (by decide) (kba_load_2 h_q0) (by omega) (by omega) (by omega) (by omega) l_a1 u_a1 (by omega) (by omega) (fun g2 hIg2 hfg2 => ⟨_, rfl, ?_⟩))
    show mm_W d mmX1_addHeat 21 [some (.ref q0), some (.int (Int32.ofInt a1))] [] (mz_mk g2 x) Q
    refine mm_g 2 (pc1 := 23) (lo1 := [some (.ref q0), some (.int (Int32.ofInt a1))]) (st1 := [.ref q0, .ref q0]) (H1 := mz_mk g2 x) rfl ?_
    refine mz_fgI (v := v1) rfl fd_1_29 (by decide) (kc_load h_q0 _) (show g2 q0 3 = v1 from ((hfg2 q0 3 (fun h => (by have h9 : q0 = (q0 + 35) := h; omega))).trans e_v1)) ?_
    refine mm_g 1 (pc1 := 27) (lo1 := [some (.ref q0), some (.int (Int32.ofInt a1))]) (st1 := [.int (Int32.ofInt 1), .int (Int32.ofInt v1), .ref q0]) (H1 := mz_mk g2 x) rfl ?_
    refine mz_iadd rfl ?_
    refine mz_pI rfl fd_1_29 (kc_load h_q0 _) hIg2 (kb_load_3 h_q0) (by omega) (by omega) (fun g3 hIg3 hug3 => ?_)
    exact mm_rt rfl rfl (hQ _ hIg3 (fun k j hk => ((hug3.2 k j (fun h => hk (Or.inr h.1))).trans (hfg2 k j (fun h => hk (Or.inl h))))))
def fl_X4_readHeat_22 (x : mm_X) (q1 : Nat) : Nat → Nat → Prop := fun k j => (k = 82 ∧ j = 3) ∨ (k = 82 ∧ j = 5) ∨ (k = 82 ∧ j = 6) ∨ (k = 82 ∧ j = 4) ∨ (k = 81 ∧ j = 1) ∨ (k = 81 ∧ j = 2) ∨ k = (q1 + 35) ∨ k = q1
def fw_X4_readHeat (x : mm_X) (q1 : Nat) : Nat → Nat → Prop := fun k j => (k = 82 ∧ j = 3) ∨ (k = 82 ∧ j = 5) ∨ (k = 82 ∧ j = 6) ∨ (k = 82 ∧ j = 4) ∨ (k = 81 ∧ j = 1) ∨ (k = 81 ∧ j = 2) ∨ k = (q1 + 35) ∨ k = q1
theorem c_X4_readHeat {d : Nat} (hd : 5 ≤ d) {x : mm_X} (hx : mk_x x) {g : mz_G} (hI : mz_inv g) {q1 : Nat} (h_q1 : kd_load q1) {Q : (Option Value ⊕ Nat) → mm_H → Prop} (hQ : ∀ (r : Int) (g1 : mz_G), mz_inv g1 → mz_fr (fw_X4_readHeat x q1) g g1 → 0 ≤ r → r ≤ 1 → Q (.inl (some (.int (Int32.ofInt r)))) (mz_mk g1 x)) : mm_C d 45 [.ref 81, .ref q1] (mz_mk g x) Q := by
  have kn_q1 := kn_load h_q1
  refine ⟨mmX4_readHeat, [some (.ref 81), some (.ref q1), none, none], rfl, rfl, ?_⟩
  refine mm_g 1 (pc1 := 1) (lo1 := [some (.ref 81), some (.ref q1), none, none]) (st1 := [.ref q1]) (H1 := mz_mk g x) rfl ?_
  refine mz_gI rfl fd_4_145 (by decide) (kc_load h_q1 _) hI (kb_load_3 h_q1) (fun v1 e_v1 l_v1 u_v1 => ?_)
  refine mz_if_le (tgt := 13) rfl rfl (mz_rg l_v1 u_v1) (fun c4_1 => ?_) (fun c4_1 => ?_)
  · skip
    refine mm_g 1 (pc1 := 14) (lo1 := [some (.ref 81), some (.ref q1), none, none]) (st1 := [.ref 81]) (H1 := mz_mk g x) rfl ?_
    refine mz_fgR (v := 82) rfl fd_4_12 (by decide) (sc_81 _) (rf_81_0 _ _ _) ?_
    refine mz_cv rfl mt_4_99 (by decide) (sc_82 _) rfl (Nat.le_of_ble_eq_true rfl) (by omega) (c_X7_step (by omega) hx hI (fun g2 hIg2 hfg2 => ⟨_, rfl, ?_⟩))
    show mm_W d mmX4_readHeat 20 [some (.ref 81), some (.ref q1), none, none] [] (mz_mk g2 x) Q
    refine mm_g 2 (pc1 := 22) (lo1 := [some (.ref 81), some (.ref q1), some (.int (Int32.ofInt 0)), none]) (st1 := []) (H1 := mz_mk g2 x) rfl ?_
    have L8 : ∀ n7 : Nat, ∀ (v3 : Int) (o4 : Option Value) (g5 : mz_G), (8 - v3).toNat = n7 → 0 ≤ v3 → v3 ≤ 8 → mz_nl o4 → mz_inv g5 → mz_fr (fl_X4_readHeat_22 x q1) g2 g5 → mm_W d mmX4_readHeat 22 [some (.ref 81), some (.ref q1), some (.int (Int32.ofInt v3)), o4] [] (mz_mk g5 x) Q := by
      intro n7
      induction n7 using Nat.strongRecOn with
      | ind n7 ih6 =>
      intro v3 o4 g5 hmn7 l_v3 u_v3 h_o4 hIg5 hfg5
      refine mm_g 1 (pc1 := 23) (lo1 := [some (.ref 81), some (.ref q1), some (.int (Int32.ofInt v3)), o4]) (st1 := [.int (Int32.ofInt v3)]) (H1 := mz_mk g5 x) rfl ?_
      refine mz_bip rfl bip_8 ?_
      refine mz_ic_ge (tgt := 71) rfl rfl (mz_rg l_v3 u_v3) ⟨by decide, by decide⟩ (fun c25_8 => ?_) (fun c25_8 => ?_)
      · skip
        refine mm_g 1 (pc1 := 72) (lo1 := [some (.ref 81), some (.ref q1), some (.int (Int32.ofInt v3)), o4]) (st1 := [.ref 81]) (H1 := mz_mk g5 x) rfl ?_
        refine mz_fgR (v := 82) rfl fd_4_12 (by decide) (sc_81 _) (rf_81_0 _ _ _) ?_
        refine mz_cv rfl mt_4_48 (by decide) (sc_82 _) rfl (Nat.le_of_ble_eq_true rfl) (by omega) (c_X7_kind (by omega) hx hIg5 (fun v9 l_v9 u_v9 => ⟨_, rfl, ?_⟩))
        show mm_W d mmX4_readHeat 78 [some (.ref 81), some (.ref q1), some (.int (Int32.ofInt v3)), o4] [.int (Int32.ofInt v9)] (mz_mk g5 x) Q
        refine mm_g 1 (pc1 := 79) (lo1 := [some (.ref 81), some (.ref q1), some (.int (Int32.ofInt v3)), o4]) (st1 := [.int (Int32.ofInt 2), .int (Int32.ofInt v9)]) (H1 := mz_mk g5 x) rfl ?_
        refine mz_ic_ne (tgt := 90) rfl rfl (mz_rg l_v9 u_v9) ⟨by decide, by decide⟩ (fun c79_9 => ?_) (fun c79_9 => ?_)
        · skip
          refine mm_g 1 (pc1 := 91) (lo1 := [some (.ref 81), some (.ref q1), some (.int (Int32.ofInt v3)), o4]) (st1 := [.int (Int32.ofInt 1)]) (H1 := mz_mk g5 x) rfl ?_
          refine mz_gt (tgt := 95) rfl rfl ?_
          exact mz_rtZ rfl (by decide) (by omega) (hQ _ _ hIg5 (fun k j hk => ((hfg5 k j (fun h => hk (Or.elim h (fun h => (Or.inl h)) (fun h => (Or.elim h (fun h => (Or.inr (Or.inl h))) (fun h => (Or.elim h (fun h => (Or.inr (Or.inr (Or.inl h)))) (fun h => (Or.elim h (fun h => (Or.inr (Or.inr (Or.inr (Or.inl h))))) (fun h => (Or.elim h (fun h => (Or.inr (Or.inr (Or.inr (Or.inr (Or.inl h)))))) (fun h => (Or.elim h (fun h => (Or.inr (Or.inr (Or.inr (Or.inr (Or.inr (Or.inl h))))))) (fun h => (Or.elim h (fun h => (Or.inr (Or.inr (Or.inr (Or.inr (Or.inr (Or.inr (Or.inl h)))))))) (fun h => (Or.inr (Or.inr (Or.inr (Or.inr (Or.inr (Or.inr (Or.inr h))))))))))))))))))))))).trans (hfg2 k j (fun h => hk (Or.elim h (fun h => (Or.inl h)) (fun h => (Or.elim h (fun h => (Or.inr (Or.inl h))) (fun h => (Or.elim h (fun h => (Or.inr (Or.inr (Or.inl h)))) (fun h => (Or.inr (Or.inr (Or.inr (Or.inl h)))))))))))))) (by decide) (by decide))
        · skip
          refine mm_g 2 (pc1 := 84) (lo1 := [some (.ref 81), some (.ref q1), some (.int (Int32.ofInt v3)), o4]) (st1 := [.int (Int32.ofInt 2), .ref 81]) (H1 := mz_mk g5 x) rfl ?_
          refine mz_cv rfl mt_4_95 (by decide) (sc_81 _) rfl (Nat.le_of_ble_eq_true rfl) (by omega) (c_X4_blame (by omega) hx hIg5 (by decide) (by decide) (fun v10 g11 hIg11 hfg11 l_v10 u_v10 => ⟨_, rfl, ?_⟩))
          show mm_W d mmX4_readHeat 87 [some (.ref 81), some (.ref q1), some (.int (Int32.ofInt v3)), o4] [.int (Int32.ofInt v10)] (mz_mk g11 x) Q
          refine mz_if_eq (tgt := 94) rfl rfl (mz_rg l_v10 u_v10) (fun c87_11 => ?_) (fun c87_11 => ?_)
          · skip
            refine mm_g 1 (pc1 := 95) (lo1 := [some (.ref 81), some (.ref q1), some (.int (Int32.ofInt v3)), o4]) (st1 := [.int (Int32.ofInt 0)]) (H1 := mz_mk g11 x) rfl ?_
            exact mz_rtZ rfl (by decide) (by omega) (hQ _ _ hIg11 (fun k j hk => ((hfg11 k j (fun h => hk (Or.elim h (fun h => (Or.inr (Or.inr (Or.inr (Or.inr (Or.inl h)))))) (fun h => (Or.inr (Or.inr (Or.inr (Or.inr (Or.inr (Or.inl h)))))))))).trans ((hfg5 k j (fun h => hk (Or.elim h (fun h => (Or.inl h)) (fun h => (Or.elim h (fun h => (Or.inr (Or.inl h))) (fun h => (Or.elim h (fun h => (Or.inr (Or.inr (Or.inl h)))) (fun h => (Or.elim h (fun h => (Or.inr (Or.inr (Or.inr (Or.inl h))))) (fun h => (Or.elim h (fun h => (Or.inr (Or.inr (Or.inr (Or.inr (Or.inl h)))))) (fun h => (Or.elim h (fun h => (Or.inr (Or.inr (Or.inr (Or.inr (Or.inr (Or.inl h))))))) (fun h => (Or.elim h (fun h => (Or.inr (Or.inr (Or.inr (Or.inr (Or.inr (Or.inr (Or.inl h)))))))) (fun h => (Or.inr (Or.inr (Or.inr (Or.inr (Or.inr (Or.inr (Or.inr h))))))))))))))))))))))).trans (hfg2 k j (fun h => hk (Or.elim h (fun h => (Or.inl h)) (fun h => (Or.elim h (fun h => (Or.inr (Or.inl h))) (fun h => (Or.elim h (fun h => (Or.inr (Or.inr (Or.inl h)))) (fun h => (Or.inr (Or.inr (Or.inr (Or.inl h))))))))))))))) (by decide) (by decide))
          · exfalso; omega
      · skip
        refine mm_g 1 (pc1 := 29) (lo1 := [some (.ref 81), some (.ref q1), some (.int (Int32.ofInt v3)), o4]) (st1 := [.int (Int32.ofInt v3)]) (H1 := mz_mk g5 x) rfl ?_
        refine mz_if_le (tgt := 45) rfl rfl (mz_rg l_v3 u_v3) (fun c29_11 => ?_) (fun c29_11 => ?_)
        · skip
          refine mm_g 1 (pc1 := 46) (lo1 := [some (.ref 81), some (.ref q1), some (.int (Int32.ofInt v3)), o4]) (st1 := [.ref 81]) (H1 := mz_mk g5 x) rfl ?_
          refine mz_bip rfl bip_9 ?_
          refine mm_g 1 (pc1 := 49) (lo1 := [some (.ref 81), some (.ref q1), some (.int (Int32.ofInt v3)), o4]) (st1 := [.int (Int32.ofInt 2), .int (Int32.ofInt 9), .ref 81]) (H1 := mz_mk g5 x) rfl ?_
          refine mz_cv rfl mt_4_122 (by decide) (sc_81 _) rfl (Nat.le_of_ble_eq_true rfl) (by omega) (c_X4_readNumber (by omega) hx hIg5 (by decide) (by decide) (by decide) (by decide) (fun v12 g13 hIg13 hfg13 l_v12 u_v12 => ⟨_, rfl, ?_⟩))
          show mm_W d mmX4_readHeat 52 [some (.ref 81), some (.ref q1), some (.int (Int32.ofInt v3)), o4] [.int (Int32.ofInt v12)] (mz_mk g13 x) Q
          refine mm_g 3 (pc1 := 55) (lo1 := [some (.ref 81), some (.ref q1), some (.int (Int32.ofInt v3)), some (.int (Int32.ofInt v12))]) (st1 := [.int (Int32.ofInt (-1)), .int (Int32.ofInt v12)]) (H1 := mz_mk g13 x) rfl ?_
          refine mz_ic_ne (tgt := 60) rfl rfl (mz_rg l_v12 u_v12) ⟨by decide, by decide⟩ (fun c55_13 => ?_) (fun c55_13 => ?_)
          · skip
            refine mm_g 2 (pc1 := 62) (lo1 := [some (.ref 81), some (.ref q1), some (.int (Int32.ofInt v3)), some (.int (Int32.ofInt v12))]) (st1 := [.int (Int32.ofInt v12), .ref q1]) (H1 := mz_mk g13 x) rfl ?_
            refine mz_cv rfl mt_4_148 (by decide) (kc_load h_q1 _) rfl (Nat.le_of_ble_eq_true rfl) (by omega) (c_X1_addHeat (by omega) hx hIg13 h_q1 l_v12 u_v12 (fun g14 hIg14 hfg14 => ⟨_, rfl, ?_⟩))
            show mm_W d mmX4_readHeat 65 [some (.ref 81), some (.ref q1), some (.int (Int32.ofInt v3)), some (.int (Int32.ofInt v12))] [] (mz_mk g14 x) Q
            refine mz_iincR (v := v3) (lo2 := [some (.ref 81), some (.ref q1), some (.int (Int32.ofInt (v3 + 1))), some (.int (Int32.ofInt v12))]) rfl rfl rfl (Nat.le_of_ble_eq_true rfl) rfl ?_
            refine mz_gt (tgt := 22) rfl rfl ?_
            exact ih6 ((8 - (v3 + 1)).toNat) (by omega) (v3 + 1) (some (.int (Int32.ofInt v12))) g14 rfl (by omega) (by omega) (mz_nl_i _) hIg14 (fun k j hk => ((hfg14 k j (fun h => hk (Or.elim h (fun h => (Or.inr (Or.inr (Or.inr (Or.inr (Or.inr (Or.inr (Or.inl h)))))))) (fun h => (Or.inr (Or.inr (Or.inr (Or.inr (Or.inr (Or.inr (Or.inr h))))))))))).trans ((hfg13 k j (fun h => hk (Or.elim h (fun h => (Or.inl h)) (fun h => (Or.elim h (fun h => (Or.inr (Or.inl h))) (fun h => (Or.elim h (fun h => (Or.inr (Or.inr (Or.inl h)))) (fun h => (Or.elim h (fun h => (Or.inr (Or.inr (Or.inr (Or.inl h))))) (fun h => (Or.elim h (fun h => (Or.inr (Or.inr (Or.inr (Or.inr (Or.inl h)))))) (fun h => (Or.inr (Or.inr (Or.inr (Or.inr (Or.inr (Or.inl h)))))))))))))))))).trans (hfg5 k j (fun h => hk (Or.elim h (fun h => (Or.inl h)) (fun h => (Or.elim h (fun h => (Or.inr (Or.inl h))) (fun h => (Or.elim h (fun h => (Or.inr (Or.inr (Or.inl h)))) (fun h => (Or.elim h (fun h => (Or.inr (Or.inr (Or.inr (Or.inl h))))) (fun h => (Or.elim h (fun h => (Or.inr (Or.inr (Or.inr (Or.inr (Or.inl h)))))) (fun h => (Or.elim h (fun h => (Or.inr (Or.inr (Or.inr (Or.inr (Or.inr (Or.inl h))))))) (fun h => (Or.elim h (fun h => (Or.inr (Or.inr (Or.inr (Or.inr (Or.inr (Or.inr (Or.inl h)))))))) (fun h => (Or.inr (Or.inr (Or.inr (Or.inr (Or.inr (Or.inr (Or.inr h))))))))))))))))))))))))))
          · skip
            refine mm_g 1 (pc1 := 59) (lo1 := [some (.ref 81), some (.ref q1), some (.int (Int32.ofInt v3)), some (.int (Int32.ofInt v12))]) (st1 := [.int (Int32.ofInt 0)]) (H1 := mz_mk g13 x) rfl ?_
            exact mz_rtZ rfl (by decide) (by omega) (hQ _ _ hIg13 (fun k j hk => ((hfg13 k j (fun h => hk (Or.elim h (fun h => (Or.inl h)) (fun h => (Or.elim h (fun h => (Or.inr (Or.inl h))) (fun h => (Or.elim h (fun h => (Or.inr (Or.inr (Or.inl h)))) (fun h => (Or.elim h (fun h => (Or.inr (Or.inr (Or.inr (Or.inl h))))) (fun h => (Or.elim h (fun h => (Or.inr (Or.inr (Or.inr (Or.inr (Or.inl h)))))) (fun h => (Or.inr (Or.inr (Or.inr (Or.inr (Or.inr (Or.inl h)))))))))))))))))).trans ((hfg5 k j (fun h => hk (Or.elim h (fun h => (Or.inl h)) (fun h => (Or.elim h (fun h => (Or.inr (Or.inl h))) (fun h => (Or.elim h (fun h => (Or.inr (Or.inr (Or.inl h)))) (fun h => (Or.elim h (fun h => (Or.inr (Or.inr (Or.inr (Or.inl h))))) (fun h => (Or.elim h (fun h => (Or.inr (Or.inr (Or.inr (Or.inr (Or.inl h)))))) (fun h => (Or.elim h (fun h => (Or.inr (Or.inr (Or.inr (Or.inr (Or.inr (Or.inl h))))))) (fun h => (Or.elim h (fun h => (Or.inr (Or.inr (Or.inr (Or.inr (Or.inr (Or.inr (Or.inl h)))))))) (fun h => (Or.inr (Or.inr (Or.inr (Or.inr (Or.inr (Or.inr (Or.inr h))))))))))))))))))))))).trans (hfg2 k j (fun h => hk (Or.elim h (fun h => (Or.inl h)) (fun h => (Or.elim h (fun h => (Or.inr (Or.inl h))) (fun h => (Or.elim h (fun h => (Or.inr (Or.inr (Or.inl h)))) (fun h => (Or.inr (Or.inr (Or.inr (Or.inl h))))))))))))))) (by decide) (by decide))
        · skip
          refine mm_g 1 (pc1 := 33) (lo1 := [some (.ref 81), some (.ref q1), some (.int (Int32.ofInt v3)), o4]) (st1 := [.ref 81]) (H1 := mz_mk g5 x) rfl ?_
          refine mz_fgR (v := 82) rfl fd_4_12 (by decide) (sc_81 _) (rf_81_0 _ _ _) ?_
          refine mz_cv rfl mt_4_48 (by decide) (sc_82 _) rfl (Nat.le_of_ble_eq_true rfl) (by omega) (c_X7_kind (by omega) hx hIg5 (fun v15 l_v15 u_v15 => ⟨_, rfl, ?_⟩))
          show mm_W d mmX4_readHeat 39 [some (.ref 81), some (.ref q1), some (.int (Int32.ofInt v3)), o4] [.int (Int32.ofInt v15)] (mz_mk g5 x) Q
          refine mm_g 1 (pc1 := 40) (lo1 := [some (.ref 81), some (.ref q1), some (.int (Int32.ofInt v3)), o4]) (st1 := [.int (Int32.ofInt 2), .int (Int32.ofInt v15)]) (H1 := mz_mk g5 x) rfl ?_
          refine mz_ic_eq (tgt := 45) rfl rfl (mz_rg l_v15 u_v15) ⟨by decide, by decide⟩ (fun c40_15 => ?_) (fun c40_15 => ?_)
          · skip
            refine mm_g 1 (pc1 := 46) (lo1 := [some (.ref 81), some (.ref q1), some (.int (Int32.ofInt v3)), o4]) (st1 := [.ref 81]) (H1 := mz_mk g5 x) rfl ?_
            refine mz_bip rfl bip_9 ?_
            refine mm_g 1 (pc1 := 49) (lo1 := [some (.ref 81), some (.ref q1), some (.int (Int32.ofInt v3)), o4]) (st1 := [.int (Int32.ofInt 2), .int (Int32.ofInt 9), .ref 81]) (H1 := mz_mk g5 x) rfl ?_
            refine mz_cv rfl mt_4_122 (by decide) (sc_81 _) rfl (Nat.le_of_ble_eq_true rfl) (by omega) (c_X4_readNumber (by omega) hx hIg5 (by decide) (by decide) (by decide) (by decide) (fun v16 g17 hIg17 hfg17 l_v16 u_v16 => ⟨_, rfl, ?_⟩))
            show mm_W d mmX4_readHeat 52 [some (.ref 81), some (.ref q1), some (.int (Int32.ofInt v3)), o4] [.int (Int32.ofInt v16)] (mz_mk g17 x) Q
            refine mm_g 3 (pc1 := 55) (lo1 := [some (.ref 81), some (.ref q1), some (.int (Int32.ofInt v3)), some (.int (Int32.ofInt v16))]) (st1 := [.int (Int32.ofInt (-1)), .int (Int32.ofInt v16)]) (H1 := mz_mk g17 x) rfl ?_
            refine mz_ic_ne (tgt := 60) rfl rfl (mz_rg l_v16 u_v16) ⟨by decide, by decide⟩ (fun c55_17 => ?_) (fun c55_17 => ?_)
            · skip
              refine mm_g 2 (pc1 := 62) (lo1 := [some (.ref 81), some (.ref q1), some (.int (Int32.ofInt v3)), some (.int (Int32.ofInt v16))]) (st1 := [.int (Int32.ofInt v16), .ref q1]) (H1 := mz_mk g17 x) rfl ?_
              refine mz_cv rfl mt_4_148 (by decide) (kc_load h_q1 _) rfl (Nat.le_of_ble_eq_true rfl) (by omega) (c_X1_addHeat (by omega) hx hIg17 h_q1 l_v16 u_v16 (fun g18 hIg18 hfg18 => ⟨_, rfl, ?_⟩))
              show mm_W d mmX4_readHeat 65 [some (.ref 81), some (.ref q1), some (.int (Int32.ofInt v3)), some (.int (Int32.ofInt v16))] [] (mz_mk g18 x) Q
              refine mz_iincR (v := v3) (lo2 := [some (.ref 81), some (.ref q1), some (.int (Int32.ofInt (v3 + 1))), some (.int (Int32.ofInt v16))]) rfl rfl rfl (Nat.le_of_ble_eq_true rfl) rfl ?_
              refine mz_gt (tgt := 22) rfl rfl ?_
              exact ih6 ((8 - (v3 + 1)).toNat) (by omega) (v3 + 1) (some (.int (Int32.ofInt v16))) g18 rfl (by omega) (by omega) (mz_nl_i _) hIg18 (fun k j hk => ((hfg18 k j (fun h => hk (Or.elim h (fun h => (Or.inr (Or.inr (Or.inr (Or.inr (Or.inr (Or.inr (Or.inl h)))))))) (fun h => (Or.inr (Or.inr (Or.inr (Or.inr (Or.inr (Or.inr (Or.inr h))))))))))).trans ((hfg17 k j (fun h => hk (Or.elim h (fun h => (Or.inl h)) (fun h => (Or.elim h (fun h => (Or.inr (Or.inl h))) (fun h => (Or.elim h (fun h => (Or.inr (Or.inr (Or.inl h)))) (fun h => (Or.elim h (fun h => (Or.inr (Or.inr (Or.inr (Or.inl h))))) (fun h => (Or.elim h (fun h => (Or.inr (Or.inr (Or.inr (Or.inr (Or.inl h)))))) (fun h => (Or.inr (Or.inr (Or.inr (Or.inr (Or.inr (Or.inl h)))))))))))))))))).trans (hfg5 k j (fun h => hk (Or.elim h (fun h => (Or.inl h)) (fun h => (Or.elim h (fun h => (Or.inr (Or.inl h))) (fun h => (Or.elim h (fun h => (Or.inr (Or.inr (Or.inl h)))) (fun h => (Or.elim h (fun h => (Or.inr (Or.inr (Or.inr (Or.inl h))))) (fun h => (Or.elim h (fun h => (Or.inr (Or.inr (Or.inr (Or.inr (Or.inl h)))))) (fun h => (Or.elim h (fun h => (Or.inr (Or.inr (Or.inr (Or.inr (Or.inr (Or.inl h))))))) (fun h => (Or.elim h (fun h => (Or.inr (Or.inr (Or.inr (Or.inr (Or.inr (Or.inr (Or.inl h)))))))) (fun h => (Or.inr (Or.inr (Or.inr (Or.inr (Or.inr (Or.inr (Or.inr h))))))))))))))))))))))))))
            · skip
              refine mm_g 1 (pc1 := 59) (lo1 := [some (.ref 81), some (.ref q1), some (.int (Int32.ofInt v3)), some (.int (Int32.ofInt v16))]) (st1 := [.int (Int32.ofInt 0)]) (H1 := mz_mk g17 x) rfl ?_
              exact mz_rtZ rfl (by decide) (by omega) (hQ _ _ hIg17 (fun k j hk => ((hfg17 k j (fun h => hk (Or.elim h (fun h => (Or.inl h)) (fun h => (Or.elim h (fun h => (Or.inr (Or.inl h))) (fun h => (Or.elim h (fun h => (Or.inr (Or.inr (Or.inl h)))) (fun h => (Or.elim h (fun h => (Or.inr (Or.inr (Or.inr (Or.inl h))))) (fun h => (Or.elim h (fun h => (Or.inr (Or.inr (Or.inr (Or.inr (Or.inl h)))))) (fun h => (Or.inr (Or.inr (Or.inr (Or.inr (Or.inr (Or.inl h)))))))))))))))))).trans ((hfg5 k j (fun h => hk (Or.elim h (fun h => (Or.inl h)) (fun h => (Or.elim h (fun h => (Or.inr (Or.inl h))) (fun h => (Or.elim h (fun h => (Or.inr (Or.inr (Or.inl h)))) (fun h => (Or.elim h (fun h => (Or.inr (Or.inr (Or.inr (Or.inl h))))) (fun h => (Or.elim h (fun h => (Or.inr (Or.inr (Or.inr (Or.inr (Or.inl h)))))) (fun h => (Or.elim h (fun h => (Or.inr (Or.inr (Or.inr (Or.inr (Or.inr (Or.inl h))))))) (fun h => (Or.elim h (fun h => (Or.inr (Or.inr (Or.inr (Or.inr (Or.inr (Or.inr (Or.inl h)))))))) (fun h => (Or.inr (Or.inr (Or.inr (Or.inr (Or.inr (Or.inr (Or.inr h))))))))))))))))))))))).trans (hfg2 k j (fun h => hk (Or.elim h (fun h => (Or.inl h)) (fun h => (Or.elim h (fun h => (Or.inr (Or.inl h))) (fun h => (Or.elim h (fun h => (Or.inr (Or.inr (Or.inl h)))) (fun h => (Or.inr (Or.inr (Or.inr (Or.inl h))))))))))))))) (by decide) (by decide))
          · skip
            refine mm_g 1 (pc1 := 44) (lo1 := [some (.ref 81), some (.ref q1), some (.int (Int32.ofInt v3)), o4]) (st1 := [.int (Int32.ofInt 1)]) (H1 := mz_mk g5 x) rfl ?_
            exact mz_rtZ rfl (by decide) (by omega) (hQ _ _ hIg5 (fun k j hk => ((hfg5 k j (fun h => hk (Or.elim h (fun h => (Or.inl h)) (fun h => (Or.elim h (fun h => (Or.inr (Or.inl h))) (fun h => (Or.elim h (fun h => (Or.inr (Or.inr (Or.inl h)))) (fun h => (Or.elim h (fun h => (Or.inr (Or.inr (Or.inr (Or.inl h))))) (fun h => (Or.elim h (fun h => (Or.inr (Or.inr (Or.inr (Or.inr (Or.inl h)))))) (fun h => (Or.elim h (fun h => (Or.inr (Or.inr (Or.inr (Or.inr (Or.inr (Or.inl h))))))) (fun h => (Or.elim h (fun h => (Or.inr (Or.inr (Or.inr (Or.inr (Or.inr (Or.inr (Or.inl h)))))))) (fun h => (Or.inr (Or.inr (Or.inr (Or.inr (Or.inr (Or.inr (Or.inr h))))))))))))))))))))))).trans (hfg2 k j (fun h => hk (Or.elim h (fun h => (Or.inl h)) (fun h => (Or.elim h (fun h => (Or.inr (Or.inl h))) (fun h => (Or.elim h (fun h => (Or.inr (Or.inr (Or.inl h)))) (fun h => (Or.inr (Or.inr (Or.inr (Or.inl h)))))))))))))) (by decide) (by decide))
    exact L8 _ 0 none g2 rfl (by decide) (by decide) mz_nl_n hIg2 (fun _ _ _ => rfl)
  · skip
    refine mm_g 2 (pc1 := 9) (lo1 := [some (.ref 81), some (.ref q1), none, none]) (st1 := [.int (Int32.ofInt 5), .ref 81]) (H1 := mz_mk g x) rfl ?_
    refine mz_cv rfl mt_4_95 (by decide) (sc_81 _) rfl (Nat.le_of_ble_eq_true rfl) (by omega) (c_X4_blame (by omega) hx hI (by decide) (by decide) (fun v19 g20 hIg20 hfg20 l_v19 u_v19 => ⟨_, rfl, ?_⟩))
    show mm_W d mmX4_readHeat 12 [some (.ref 81), some (.ref q1), none, none] [.int (Int32.ofInt v19)] (mz_mk g20 x) Q
    exact mz_rtZ rfl (by decide) (by omega) (hQ _ _ hIg20 (fun k j hk => (hfg20 k j (fun h => hk (Or.elim h (fun h => (Or.inr (Or.inr (Or.inr (Or.inr (Or.inl h)))))) (fun h => (Or.inr (Or.inr (Or.inr (Or.inr (Or.inr (Or.inl h))))))))))) (by omega) (by omega))
theorem c_X5_isTold {d : Nat} (hd : 1 ≤ d) {x : mm_X} (hx : mk_x x) {g : mz_G} (hI : mz_inv g) {q0 : Nat} (h_q0 : kd_rule q0) {Q : (Option Value ⊕ Nat) → mm_H → Prop} (hQ : ∀ (r : Int), 0 ≤ r → r ≤ 1 → Q (.inl (some (.int (Int32.ofInt r)))) (mz_mk g x)) : mm_C d 59 [.ref q0] (mz_mk g x) Q := by
  have kn_q0 := kn_rule h_q0
  refine ⟨mmX5_isTold, [some (.ref q0)], rfl, rfl, ?_⟩
  refine mm_g 1 (pc1 := 1) (lo1 := [some (.ref q0)]) (st1 := [.ref q0]) (H1 := mz_mk g x) rfl ?_
  refine mz_gI rfl fd_5_15 (by decide) (kc_rule h_q0 _) hI (kb_rule_1 h_q0) (fun v1 e_v1 l_v1 u_v1 => ?_)
  refine mz_if_le (tgt := 11) rfl rfl (mz_rg l_v1 u_v1) (fun c4_1 => ?_) (fun c4_1 => ?_)
  · skip
    refine mm_g 1 (pc1 := 12) (lo1 := [some (.ref q0)]) (st1 := [.int (Int32.ofInt 0)]) (H1 := mz_mk g x) rfl ?_
    exact mz_rtZ rfl (by decide) (by omega) (hQ _ (by decide) (by decide))
  · skip
    refine mm_g 1 (pc1 := 8) (lo1 := [some (.ref q0)]) (st1 := [.int (Int32.ofInt 1)]) (H1 := mz_mk g x) rfl ?_
    refine mz_gt (tgt := 12) rfl rfl ?_
    exact mz_rtZ rfl (by decide) (by omega) (hQ _ (by decide) (by decide))
