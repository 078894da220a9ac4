/-! CONTRACTS OF THE CLASS, by program (wip/p2/tools/gen23.py) -/
def fw_X4_notsAnew (x : mm_X) (a1 : Int) : Nat → Nat → Prop := fun k j => (k = 81 ∧ j = 8) ∨ (k = 81 ∧ j = 6)
theorem c_X4_notsAnew {d : Nat} (hd : 1 ≤ d) {x : mm_X} (hx : mk_x x) {g : mz_G} (hI : mz_inv g) {a1 : Int} (l_a1 : 0 ≤ a1) (u_a1 : a1 ≤ 1) {Q : (Option Value ⊕ Nat) → mm_H → Prop} (hQ : ∀ (g1 : mz_G), mz_inv g1 → mz_fr (fw_X4_notsAnew x a1) g g1 → Q (.inl none) (mz_mk g1 x)) : mm_C d 49 [.ref 81, .int (Int32.ofInt a1)] (mz_mk g x) Q := by
  refine ⟨mmX4_notsAnew, [some (.ref 81), some (.int (Int32.ofInt a1))], rfl, rfl, ?_⟩
  refine mm_g 2 (pc1 := 2) (lo1 := [some (.ref 81), some (.int (Int32.ofInt a1))]) (st1 := [.int (Int32.ofInt a1), .ref 81]) (H1 := mz_mk g x) rfl ?_
  refine mz_pZ rfl fd_4_42 (sc_81 _) (by omega) hI bd_81_8 (by omega) (by omega) (fun g1 hIg1 hug1 => ?_)
  refine mm_g 2 (pc1 := 7) (lo1 := [some (.ref 81), some (.int (Int32.ofInt a1))]) (st1 := [.int (Int32.ofInt 0), .ref 81]) (H1 := mz_mk g1 x) rfl ?_
  refine mz_pI rfl fd_4_35 (sc_81 _) hIg1 bd_81_6 (by omega) (by omega) (fun g2 hIg2 hug2 => ?_)
  exact mm_rt rfl rfl (hQ _ hIg2 (fun k j hk => ((hug2.2 k j (fun h => hk (Or.inr h))).trans (hug1.2 k j (fun h => hk (Or.inl h))))))
theorem c_X4_exprEnds {d : Nat} (hd : 2 ≤ d) {x : mm_X} (hx : mk_x x) {g : mz_G} (hI : mz_inv g) {Q : (Option Value ⊕ Nat) → mm_H → Prop} (hQ : ∀ (r : Int), 0 ≤ r → r ≤ 1 → Q (.inl (some (.int (Int32.ofInt r)))) (mz_mk g x)) : mm_C d 47 [.ref 81] (mz_mk g x) Q := by
  refine ⟨mmX4_exprEnds, [some (.ref 81)], rfl, rfl, ?_⟩
  refine mm_g 1 (pc1 := 1) (lo1 := [some (.ref 81)]) (st1 := [.ref 81]) (H1 := mz_mk g x) rfl ?_
  refine mz_gI rfl fd_4_38 (by decide) (sc_81 _) hI bd_81_7 (fun v1 e_v1 l_v1 u_v1 => ?_)
  refine mz_if_ne (tgt := 30) rfl rfl (mz_rg l_v1 u_v1) (fun c4_1 => ?_) (fun c4_1 => ?_)
  · skip
    refine mm_g 1 (pc1 := 31) (lo1 := [some (.ref 81)]) (st1 := [.int (Int32.ofInt 0)]) (H1 := mz_mk g x) rfl ?_
    exact mz_rtZ rfl (by decide) (by omega) (hQ _ (by decide) (by decide))
  · skip
    refine mm_g 1 (pc1 := 8) (lo1 := [some (.ref 81)]) (st1 := [.ref 81]) (H1 := mz_mk g x) rfl ?_
    refine mz_gI rfl fd_4_32 (by decide) (sc_81 _) hI bd_81_5 (fun v2 e_v2 l_v2 u_v2 => ?_)
    refine mz_if_ne (tgt := 30) rfl rfl (mz_rg l_v2 u_v2) (fun c11_2 => ?_) (fun c11_2 => ?_)
    · skip
      refine mm_g 1 (pc1 := 31) (lo1 := [some (.ref 81)]) (st1 := [.int (Int32.ofInt 0)]) (H1 := mz_mk g x) rfl ?_
      exact mz_rtZ rfl (by decide) (by omega) (hQ _ (by decide) (by decide))
    · skip
      refine mm_g 1 (pc1 := 15) (lo1 := [some (.ref 81)]) (st1 := [.ref 81]) (H1 := mz_mk g x) rfl ?_
      refine mz_fgR (v := 82) rfl fd_4_12 (by decide) (sc_81 _) (rf_81_0 _ _ _) ?_
      refine mz_cv rfl mt_4_48 (by decide) (sc_82 _) rfl (Nat.le_of_ble_eq_true rfl) (by omega) (c_X7_kind (by omega) hx hI (fun v3 l_v3 u_v3 => ⟨_, rfl, ?_⟩))
      show mm_W d mmX4_exprEnds 21 [some (.ref 81)] [.int (Int32.ofInt v3)] (mz_mk g x) Q
      refine mz_bip rfl bip_59 ?_
      refine mz_ic_ne (tgt := 30) rfl rfl (mz_rg l_v3 u_v3) ⟨by decide, by decide⟩ (fun c23_3 => ?_) (fun c23_3 => ?_)
      · skip
        refine mm_g 1 (pc1 := 31) (lo1 := [some (.ref 81)]) (st1 := [.int (Int32.ofInt 0)]) (H1 := mz_mk g x) rfl ?_
        exact mz_rtZ rfl (by decide) (by omega) (hQ _ (by decide) (by decide))
      · skip
        refine mm_g 1 (pc1 := 27) (lo1 := [some (.ref 81)]) (st1 := [.int (Int32.ofInt 1)]) (H1 := mz_mk g x) rfl ?_
        refine mz_gt (tgt := 31) rfl rfl ?_
        exact mz_rtZ rfl (by decide) (by omega) (hQ _ (by decide) (by decide))
def fw_X4_openSign (x : mm_X) (a1 : Int) : Nat → Nat → Prop := fun k j => k = 84 ∨ (k = 81 ∧ j = 4)
theorem c_X4_openSign {d : Nat} (hd : 2 ≤ d) {x : mm_X} (hx : mk_x x) {g : mz_G} (hI : mz_inv g) {a1 : Int} (l_a1 : (-2147483648) ≤ a1) (u_a1 : a1 ≤ 2147483647) {Q : (Option Value ⊕ Nat) → mm_H → Prop} (hQ : ∀ (g1 : mz_G), mz_inv g1 → mz_fr (fw_X4_openSign x a1) g g1 → Q (.inl none) (mz_mk g1 x)) : mm_C d 51 [.ref 81, .int (Int32.ofInt a1)] (mz_mk g x) Q := by
  refine ⟨mmX4_openSign, [some (.ref 81), some (.int (Int32.ofInt a1))], rfl, rfl, ?_⟩
  refine mm_g 1 (pc1 := 1) (lo1 := [some (.ref 81), some (.int (Int32.ofInt a1))]) (st1 := [.ref 81]) (H1 := mz_mk g x) rfl ?_
  refine mz_fgR (v := 84) rfl fd_4_25 (by decide) (sc_81 _) (rf_81_3 _ _ _) ?_
  refine mm_g 1 (pc1 := 5) (lo1 := [some (.ref 81), some (.int (Int32.ofInt a1))]) (st1 := [.ref 81, .ref 84]) (H1 := mz_mk g x) rfl ?_
  refine mz_gI rfl fd_4_29 (by decide) (sc_81 _) hI bd_81_4 (fun v1 e_v1 l_v1 u_v1 => ?_)
  refine mm_g 1 (pc1 := 9) (lo1 := [some (.ref 81), some (.int (Int32.ofInt a1))]) (st1 := [.int (Int32.ofInt a1), .int (Int32.ofInt v1), .ref 84]) (H1 := mz_mk g x) rfl ?_
  refine mz_cs rfl mt_4_195 (by decide) rfl (Nat.le_of_ble_eq_true rfl) (by omega) (c_X11_put (by omega) hx hI (sh_84 _) (by decide) ba_84 (by omega) (by omega) l_v1 u_v1 l_a1 u_a1 (by omega) (by omega) (fun g2 hIg2 hfg2 => ⟨_, rfl, ?_⟩))
  show mm_W d mmX4_openSign 12 [some (.ref 81), some (.int (Int32.ofInt a1))] [] (mz_mk g2 x) Q
  refine mm_g 2 (pc1 := 14) (lo1 := [some (.ref 81), some (.int (Int32.ofInt a1))]) (st1 := [.ref 81, .ref 81]) (H1 := mz_mk g2 x) rfl ?_
  refine mz_fgI (v := v1) rfl fd_4_29 (by decide) (sc_81 _) (show g2 81 4 = v1 from ((hfg2 81 4 (fun h => (absurd (show 81 = 84 from h) (by decide)))).trans e_v1)) ?_
  refine mm_g 1 (pc1 := 18) (lo1 := [some (.ref 81), some (.int (Int32.ofInt a1))]) (st1 := [.int (Int32.ofInt 1), .int (Int32.ofInt v1), .ref 81]) (H1 := mz_mk g2 x) rfl ?_
  refine mz_iadd_w rfl (fun v3 _ hwv3 => ?_)
  have l_v3 := hwv3.1
  have u_v3 := hwv3.2
  refine mz_pI rfl fd_4_29 (sc_81 _) hIg2 bd_81_4 (by omega) (by omega) (fun g4 hIg4 hug4 => ?_)
  exact mm_rt rfl rfl (hQ _ hIg4 (fun k j hk => ((hug4.2 k j (fun h => hk (Or.inr h))).trans (hfg2 k j (fun h => hk (Or.inl h))))))
theorem c_X4_valueOfWord {d : Nat} (hd : 6 ≤ d) {x : mm_X} (hx : mk_x x) {g : mz_G} (hI : mz_inv g) {Q : (Option Value ⊕ Nat) → mm_H → Prop} (hQ : ∀ (r : Int), (-7) ≤ r → r ≤ 0 → Q (.inl (some (.int (Int32.ofInt r)))) (mz_mk g x)) : mm_C d 54 [.ref 81] (mz_mk g x) Q := by
  refine ⟨mmX4_valueOfWord, [some (.ref 81)], rfl, rfl, ?_⟩
  refine mm_g 1 (pc1 := 1) (lo1 := [some (.ref 81)]) (st1 := [.ref 81]) (H1 := mz_mk g x) rfl ?_
  refine mz_fgR (v := 82) rfl fd_4_12 (by decide) (sc_81 _) (rf_81_0 _ _ _) ?_
  refine mz_ldcS (j := 6) rfl rfl rfl ?_
  refine mz_cv rfl mt_4_57 (by decide) (sc_82 _) rfl (Nat.le_of_ble_eq_true rfl) (by omega) (c_X7_spells (by omega) hx hI (by decide) (fun v1 l_v1 u_v1 => ⟨_, rfl, ?_⟩))
  show mm_W d mmX4_valueOfWord 9 [some (.ref 81)] [.int (Int32.ofInt v1)] (mz_mk g x) Q
  refine mz_if_eq (tgt := 16) rfl rfl (mz_rg l_v1 u_v1) (fun c9_1 => ?_) (fun c9_1 => ?_)
  · skip
    refine mm_g 1 (pc1 := 17) (lo1 := [some (.ref 81)]) (st1 := [.ref 81]) (H1 := mz_mk g x) rfl ?_
    refine mz_fgR (v := 82) rfl fd_4_12 (by decide) (sc_81 _) (rf_81_0 _ _ _) ?_
    refine mz_ldcS (j := 3) rfl rfl rfl ?_
    refine mz_cv rfl mt_4_57 (by decide) (sc_82 _) rfl (Nat.le_of_ble_eq_true rfl) (by omega) (c_X7_spells (by omega) hx hI (by decide) (fun v2 l_v2 u_v2 => ⟨_, rfl, ?_⟩))
    show mm_W d mmX4_valueOfWord 25 [some (.ref 81)] [.int (Int32.ofInt v2)] (mz_mk g x) Q
    refine mz_if_eq (tgt := 33) rfl rfl (mz_rg l_v2 u_v2) (fun c25_2 => ?_) (fun c25_2 => ?_)
    · skip
      refine mm_g 1 (pc1 := 34) (lo1 := [some (.ref 81)]) (st1 := [.ref 81]) (H1 := mz_mk g x) rfl ?_
      refine mz_fgR (v := 82) rfl fd_4_12 (by decide) (sc_81 _) (rf_81_0 _ _ _) ?_
      refine mz_ldcS (j := 7) rfl rfl rfl ?_
      refine mz_cv rfl mt_4_57 (by decide) (sc_82 _) rfl (Nat.le_of_ble_eq_true rfl) (by omega) (c_X7_spells (by omega) hx hI (by decide) (fun v3 l_v3 u_v3 => ⟨_, rfl, ?_⟩))
      show mm_W d mmX4_valueOfWord 42 [some (.ref 81)] [.int (Int32.ofInt v3)] (mz_mk g x) Q
      refine mz_if_eq (tgt := 50) rfl rfl (mz_rg l_v3 u_v3) (fun c42_3 => ?_) (fun c42_3 => ?_)
      · skip
        refine mm_g 1 (pc1 := 51) (lo1 := [some (.ref 81)]) (st1 := [.ref 81]) (H1 := mz_mk g x) rfl ?_
        refine mz_fgR (v := 82) rfl fd_4_12 (by decide) (sc_81 _) (rf_81_0 _ _ _) ?_
        refine mz_ldcS (j := 8) rfl rfl rfl ?_
        refine mz_cv rfl mt_4_57 (by decide) (sc_82 _) rfl (Nat.le_of_ble_eq_true rfl) (by omega) (c_X7_spells (by omega) hx hI (by decide) (fun v4 l_v4 u_v4 => ⟨_, rfl, ?_⟩))
        show mm_W d mmX4_valueOfWord 59 [some (.ref 81)] [.int (Int32.ofInt v4)] (mz_mk g x) Q
        refine mz_if_eq (tgt := 67) rfl rfl (mz_rg l_v4 u_v4) (fun c59_4 => ?_) (fun c59_4 => ?_)
        · skip
          refine mm_g 1 (pc1 := 68) (lo1 := [some (.ref 81)]) (st1 := [.ref 81]) (H1 := mz_mk g x) rfl ?_
          refine mz_fgR (v := 82) rfl fd_4_12 (by decide) (sc_81 _) (rf_81_0 _ _ _) ?_
          refine mz_ldcS (j := 9) rfl rfl rfl ?_
          refine mz_cv rfl mt_4_57 (by decide) (sc_82 _) rfl (Nat.le_of_ble_eq_true rfl) (by omega) (c_X7_spells (by omega) hx hI (by decide) (fun v5 l_v5 u_v5 => ⟨_, rfl, ?_⟩))
          show mm_W d mmX4_valueOfWord 76 [some (.ref 81)] [.int (Int32.ofInt v5)] (mz_mk g x) Q
          refine mz_if_eq (tgt := 84) rfl rfl (mz_rg l_v5 u_v5) (fun c76_5 => ?_) (fun c76_5 => ?_)
          · skip
            refine mm_g 1 (pc1 := 85) (lo1 := [some (.ref 81)]) (st1 := [.ref 81]) (H1 := mz_mk g x) rfl ?_
            refine mz_fgR (v := 82) rfl fd_4_12 (by decide) (sc_81 _) (rf_81_0 _ _ _) ?_
            refine mz_ldcS (j := 10) rfl rfl rfl ?_
            refine mz_cv rfl mt_4_57 (by decide) (sc_82 _) rfl (Nat.le_of_ble_eq_true rfl) (by omega) (c_X7_spells (by omega) hx hI (by decide) (fun v6 l_v6 u_v6 => ⟨_, rfl, ?_⟩))
            show mm_W d mmX4_valueOfWord 93 [some (.ref 81)] [.int (Int32.ofInt v6)] (mz_mk g x) Q
            refine mz_if_eq (tgt := 101) rfl rfl (mz_rg l_v6 u_v6) (fun c93_6 => ?_) (fun c93_6 => ?_)
            · skip
              refine mm_g 1 (pc1 := 102) (lo1 := [some (.ref 81)]) (st1 := [.ref 81]) (H1 := mz_mk g x) rfl ?_
              refine mz_fgR (v := 82) rfl fd_4_12 (by decide) (sc_81 _) (rf_81_0 _ _ _) ?_
              refine mz_ldcS (j := 11) rfl rfl rfl ?_
              refine mz_cv rfl mt_4_57 (by decide) (sc_82 _) rfl (Nat.le_of_ble_eq_true rfl) (by omega) (c_X7_spells (by omega) hx hI (by decide) (fun v7 l_v7 u_v7 => ⟨_, rfl, ?_⟩))
              show mm_W d mmX4_valueOfWord 110 [some (.ref 81)] [.int (Int32.ofInt v7)] (mz_mk g x) Q
              refine mz_if_eq (tgt := 118) rfl rfl (mz_rg l_v7 u_v7) (fun c110_7 => ?_) (fun c110_7 => ?_)
              · skip
                refine mm_g 1 (pc1 := 119) (lo1 := [some (.ref 81)]) (st1 := [.int (Int32.ofInt 0)]) (H1 := mz_mk g x) rfl ?_
                exact mm_rt rfl rfl (hQ _ (by decide) (by decide))
              · skip
                refine mz_bip rfl bip_m7 ?_
                refine mz_gt (tgt := 119) rfl rfl ?_
                exact mm_rt rfl rfl (hQ _ (by decide) (by decide))
            · skip
              refine mz_bip rfl bip_m6 ?_
              refine mz_gt (tgt := 119) rfl rfl ?_
              exact mm_rt rfl rfl (hQ _ (by decide) (by decide))
          · skip
            refine mz_bip rfl bip_m5 ?_
            refine mz_gt (tgt := 119) rfl rfl ?_
            exact mm_rt rfl rfl (hQ _ (by decide) (by decide))
        · skip
          refine mz_bip rfl bip_m4 ?_
          refine mz_gt (tgt := 119) rfl rfl ?_
          exact mm_rt rfl rfl (hQ _ (by decide) (by decide))
      · skip
        refine mz_bip rfl bip_m3 ?_
        refine mz_gt (tgt := 119) rfl rfl ?_
        exact mm_rt rfl rfl (hQ _ (by decide) (by decide))
    · skip
      refine mz_bip rfl bip_m2 ?_
      refine mz_gt (tgt := 119) rfl rfl ?_
      exact mm_rt rfl rfl (hQ _ (by decide) (by decide))
  · skip
    refine mm_g 1 (pc1 := 13) (lo1 := [some (.ref 81)]) (st1 := [.int (Int32.ofInt (-1))]) (H1 := mz_mk g x) rfl ?_
    refine mz_gt (tgt := 119) rfl rfl ?_
    exact mm_rt rfl rfl (hQ _ (by decide) (by decide))
def fw_X5_addStep (x : mm_X) (q0 : Nat) (a1 : Int) : Nat → Nat → Prop := fun k j => k = (q0 + 1) ∨ k = q0
theorem c_X5_addStep {d : Nat} (hd : 2 ≤ d) {x : mm_X} (hx : mk_x x) {g : mz_G} (hI : mz_inv g) {q0 : Nat} (h_q0 : kd_rule q0) {a1 : Int} (l_a1 : (-2147483648) ≤ a1) (u_a1 : a1 ≤ 2147483647) {Q : (Option Value ⊕ Nat) → mm_H → Prop} (hQ : ∀ (g1 : mz_G), mz_inv g1 → mz_fr (fw_X5_addStep x q0 a1) g g1 → Q (.inl none) (mz_mk g1 x)) : mm_C d 60 [.ref q0, .int (Int32.ofInt a1)] (mz_mk g x) Q := by
  have kn_q0 := kn_rule h_q0
  refine ⟨mmX5_addStep, [some (.ref q0), some (.int (Int32.ofInt a1))], rfl, rfl, ?_⟩
  refine mm_g 1 (pc1 := 1) (lo1 := [some (.ref q0), some (.int (Int32.ofInt a1))]) (st1 := [.ref q0]) (H1 := mz_mk g x) rfl ?_
  refine mz_gI rfl fd_5_15 (by decide) (kc_rule h_q0 _) hI (kb_rule_1 h_q0) (fun v1 e_v1 l_v1 u_v1 => ?_)
  refine mz_sip rfl sip_700 ?_
  refine mz_ic_ge (tgt := 32) rfl rfl (mz_rg l_v1 u_v1) ⟨by decide, by decide⟩ (fun c7_1 => ?_) (fun c7_1 => ?_)
  · skip
    exact mm_rt rfl rfl (hQ _ hI (fun _ _ _ => rfl))
  · skip
    refine mm_g 1 (pc1 := 11) (lo1 := [some (.ref q0), some (.int (Int32.ofInt a1))]) (st1 := [.ref q0]) (H1 := mz_mk g x) rfl ?_
    refine mz_fgR (v := (q0 + 1)) rfl fd_5_9 (by decide) (kc_rule h_q0 _) (kr_rule_0 h_q0 _ _ _) ?_
    refine mm_g 1 (pc1 := 15) (lo1 := [some (.ref q0), some (.int (Int32.ofInt a1))]) (st1 := [.ref q0, .ref (q0 + 1)]) (H1 := mz_mk g x) rfl ?_
    refine mz_fgI (v := v1) rfl fd_5_15 (by decide) (kc_rule h_q0 _) e_v1 ?_
    refine mm_g 1 (pc1 := 19) (lo1 := [some (.ref q0), some (.int (Int32.ofInt a1))]) (st1 := [.int (Int32.ofInt a1), .int (Int32.ofInt v1), .ref (q0 + 1)]) (H1 := mz_mk g x) rfl ?_
    refine mz_cs rfl mt_5_25 (by decide) rfl (Nat.le_of_ble_eq_true rfl) (by omega) (c_X11_put (by omega) hx hI (ka_rule_0 h_q0 _) (by decide) (kba_rule_0 h_q0) (by omega) (by omega) (by omega) (by omega) l_a1 u_a1 (by omega) (by omega) (fun g2 hIg2 hfg2 => ⟨_, rfl, ?_⟩))
    show mm_W d mmX5_addStep 22 [some (.ref q0), some (.int (Int32.ofInt a1))] [] (mz_mk g2 x) Q
    refine mm_g 2 (pc1 := 24) (lo1 := [some (.ref q0), some (.int (Int32.ofInt a1))]) (st1 := [.ref q0, .ref q0]) (H1 := mz_mk g2 x) rfl ?_
    refine mz_fgI (v := v1) rfl fd_5_15 (by decide) (kc_rule h_q0 _) (show g2 q0 1 = v1 from ((hfg2 q0 1 (fun h => (by have h9 : q0 = (q0 + 1) := h; omega))).trans e_v1)) ?_
    refine mm_g 1 (pc1 := 28) (lo1 := [some (.ref q0), some (.int (Int32.ofInt a1))]) (st1 := [.int (Int32.ofInt 1), .int (Int32.ofInt v1), .ref q0]) (H1 := mz_mk g2 x) rfl ?_
    refine mz_iadd rfl ?_
    refine mz_pI rfl fd_5_15 (kc_rule h_q0 _) hIg2 (kb_rule_1 h_q0) (by omega) (by omega) (fun g3 hIg3 hug3 => ?_)
    exact mm_rt rfl rfl (hQ _ hIg3 (fun k j hk => ((hug3.2 k j (fun h => hk (Or.inr h.1))).trans (hfg2 k j (fun h => hk (Or.inl h))))))
def fw_X4_readPart (x : mm_X) (q1 : Nat) : Nat → Nat → Prop := fun k j => k = (q1 + 1) ∨ k = q1 ∨ (k = 81 ∧ j = 7) ∨ (k = 82 ∧ j = 3) ∨ (k = 82 ∧ j = 5) ∨ (k = 82 ∧ j = 6) ∨ (k = 82 ∧ j = 4) ∨ (k = 81 ∧ j = 1) ∨ (k = 81 ∧ j = 2) ∨ (k = 81 ∧ j = 6) ∨ k = 84 ∨ (k = 81 ∧ j = 4) ∨ (k = 81 ∧ j = 5) ∨ (k = 81 ∧ j = 8)
theorem c_X4_readPart {d : Nat} (hd : 7 ≤ d) {x : mm_X} (hx : mk_x x) {g : mz_G} (hI : mz_inv g) {q1 : Nat} (h_q1 : kd_rule q1) {Q : (Option Value ⊕ Nat) → mm_H → Prop} (hQ : ∀ (r : Int) (g1 : mz_G), mz_inv g1 → mz_fr (fw_X4_readPart x q1) g g1 → 0 ≤ r → r ≤ 1 → Q (.inl (some (.int (Int32.ofInt r)))) (mz_mk g1 x)) : mm_C d 48 [.ref 81, .ref q1] (mz_mk g x) Q := by
  have kn_q1 := kn_rule h_q1
  refine ⟨mmX4_readPart, [some (.ref 81), some (.ref q1), none, none], rfl, rfl, ?_⟩
  refine mm_g 1 (pc1 := 1) (lo1 := [some (.ref 81), some (.ref q1), none, none]) (st1 := [.ref 81]) (H1 := mz_mk g x) rfl ?_
  refine mz_fgR (v := 82) rfl fd_4_12 (by decide) (sc_81 _) (rf_81_0 _ _ _) ?_
  refine mz_cv rfl mt_4_48 (by decide) (sc_82 _) rfl (Nat.le_of_ble_eq_true rfl) (by omega) (c_X7_kind (by omega) hx hI (fun v1 l_v1 u_v1 => ⟨_, rfl, ?_⟩))
  show mm_W d mmX4_readPart 7 [some (.ref 81), some (.ref q1), none, none] [.int (Int32.ofInt v1)] (mz_mk g x) Q
  refine mm_g 3 (pc1 := 10) (lo1 := [some (.ref 81), some (.ref q1), some (.int (Int32.ofInt v1)), none]) (st1 := [.int (Int32.ofInt 2), .int (Int32.ofInt v1)]) (H1 := mz_mk g x) rfl ?_
  refine mz_ic_eq (tgt := 30) rfl rfl (mz_rg l_v1 u_v1) ⟨by decide, by decide⟩ (fun c10_1 => ?_) (fun c10_1 => ?_)
  · skip
    refine mm_g 1 (pc1 := 31) (lo1 := [some (.ref 81), some (.ref q1), some (.int (Int32.ofInt v1)), none]) (st1 := [.ref 81]) (H1 := mz_mk g x) rfl ?_
    refine mz_gI rfl fd_4_32 (by decide) (sc_81 _) hI bd_81_5 (fun v2 e_v2 l_v2 u_v2 => ?_)
    refine mz_bip rfl bip_6 ?_
    refine mz_ic_lt (tgt := 45) rfl rfl (mz_rg l_v2 u_v2) ⟨by decide, by decide⟩ (fun c36_2 => ?_) (fun c36_2 => ?_)
    · skip
      refine mm_g 1 (pc1 := 46) (lo1 := [some (.ref 81), some (.ref q1), some (.int (Int32.ofInt v1)), none]) (st1 := [.int (Int32.ofInt v1)]) (H1 := mz_mk g x) rfl ?_
      refine mz_bip rfl bip_40 ?_
      refine mz_ic_ne (tgt := 75) rfl rfl (mz_rg l_v1 u_v1) ⟨by decide, by decide⟩ (fun c48_2 => ?_) (fun c48_2 => ?_)
      · skip
        refine mm_g 1 (pc1 := 76) (lo1 := [some (.ref 81), some (.ref q1), some (.int (Int32.ofInt v1)), none]) (st1 := [.ref 81]) (H1 := mz_mk g x) rfl ?_
        refine mz_gI rfl fd_4_42 (by decide) (sc_81 _) hI bd_81_8 (fun v3 e_v3 l_v3 u_v3 => ?_)
        refine mz_if_eq (tgt := 128) rfl rfl (mz_rg l_v3 u_v3) (fun c79_3 => ?_) (fun c79_3 => ?_)
        · skip
          refine mm_g 2 (pc1 := 130) (lo1 := [some (.ref 81), some (.ref q1), some (.int (Int32.ofInt v1)), none]) (st1 := [.int (Int32.ofInt 2), .int (Int32.ofInt v1)]) (H1 := mz_mk g x) rfl ?_
          refine mz_ic_ne (tgt := 143) rfl rfl (mz_rg l_v1 u_v1) ⟨by decide, by decide⟩ (fun c130_3 => ?_) (fun c130_3 => ?_)
          · exfalso; omega
          · skip
            refine mm_g 1 (pc1 := 134) (lo1 := [some (.ref 81), some (.ref q1), some (.int (Int32.ofInt v1)), none]) (st1 := [.ref 81]) (H1 := mz_mk g x) rfl ?_
            refine mz_fgR (v := 82) rfl fd_4_12 (by decide) (sc_81 _) (rf_81_0 _ _ _) ?_
            refine mz_cv rfl mt_4_129 (by decide) (sc_82 _) rfl (Nat.le_of_ble_eq_true rfl) (by omega) (c_X7_number (by omega) hx hI (fun v4 l_v4 u_v4 => ⟨_, rfl, ?_⟩))
            show mm_W d mmX4_readPart 140 [some (.ref 81), some (.ref q1), some (.int (Int32.ofInt v1)), none] [.int (Int32.ofInt v4)] (mz_mk g x) Q
            refine mz_gt (tgt := 147) rfl rfl ?_
            refine mm_g 3 (pc1 := 150) (lo1 := [some (.ref 81), some (.ref q1), some (.int (Int32.ofInt v1)), some (.int (Int32.ofInt v4))]) (st1 := [.int (Int32.ofInt 2), .int (Int32.ofInt v1)]) (H1 := mz_mk g x) rfl ?_
            refine mz_ic_ne (tgt := 170) rfl rfl (mz_rg l_v1 u_v1) ⟨by decide, by decide⟩ (fun c150_4 => ?_) (fun c150_4 => ?_)
            · exfalso; omega
            · skip
              refine mm_g 1 (pc1 := 154) (lo1 := [some (.ref 81), some (.ref q1), some (.int (Int32.ofInt v1)), some (.int (Int32.ofInt v4))]) (st1 := [.ref 81]) (H1 := mz_mk g x) rfl ?_
              refine mz_fgR (v := 82) rfl fd_4_12 (by decide) (sc_81 _) (rf_81_0 _ _ _) ?_
              refine mz_cv rfl mt_4_107 (by decide) (sc_82 _) rfl (Nat.le_of_ble_eq_true rfl) (by omega) (c_X7_tokenSize (by omega) hx hI (fun v5 l_v5 u_v5 => ⟨_, rfl, ?_⟩))
              show mm_W d mmX4_readPart 160 [some (.ref 81), some (.ref q1), some (.int (Int32.ofInt v1)), some (.int (Int32.ofInt v4))] [.int (Int32.ofInt v5)] (mz_mk g x) Q
              refine mm_g 1 (pc1 := 161) (lo1 := [some (.ref 81), some (.ref q1), some (.int (Int32.ofInt v1)), some (.int (Int32.ofInt v4))]) (st1 := [.int (Int32.ofInt 4), .int (Int32.ofInt v5)]) (H1 := mz_mk g x) rfl ?_
              refine mz_ic_le (tgt := 170) rfl rfl (mz_rg l_v5 u_v5) ⟨by decide, by decide⟩ (fun c161_5 => ?_) (fun c161_5 => ?_)
              · skip
                refine mm_g 2 (pc1 := 172) (lo1 := [some (.ref 81), some (.ref q1), some (.int (Int32.ofInt v1)), some (.int (Int32.ofInt v4))]) (st1 := [.int (Int32.ofInt 1), .int (Int32.ofInt v1)]) (H1 := mz_mk g x) rfl ?_
                refine mz_ic_ne (tgt := 185) rfl rfl (mz_rg l_v1 u_v1) ⟨by decide, by decide⟩ (fun c172_5 => ?_) (fun c172_5 => ?_)
                · skip
                  refine mm_g 2 (pc1 := 187) (lo1 := [some (.ref 81), some (.ref q1), some (.int (Int32.ofInt v1)), some (.int (Int32.ofInt v4))]) (st1 := [.int (Int32.ofInt v4), .ref q1]) (H1 := mz_mk g x) rfl ?_
                  refine mz_cv rfl mt_4_182 (by decide) (kc_rule h_q1 _) rfl (Nat.le_of_ble_eq_true rfl) (by omega) (c_X5_addStep (by omega) hx hI h_q1 l_v4 u_v4 (fun g6 hIg6 hfg6 => ⟨_, rfl, ?_⟩))
                  show mm_W d mmX4_readPart 190 [some (.ref 81), some (.ref q1), some (.int (Int32.ofInt v1)), some (.int (Int32.ofInt v4))] [] (mz_mk g6 x) Q
                  refine mm_g 2 (pc1 := 192) (lo1 := [some (.ref 81), some (.ref q1), some (.int (Int32.ofInt v1)), some (.int (Int32.ofInt v4))]) (st1 := [.int (Int32.ofInt 0), .ref 81]) (H1 := mz_mk g6 x) rfl ?_
                  refine mz_pZ rfl fd_4_38 (sc_81 _) (by decide) hIg6 bd_81_7 (by omega) (by omega) (fun g7 hIg7 hug7 => ?_)
                  refine mm_g 1 (pc1 := 196) (lo1 := [some (.ref 81), some (.ref q1), some (.int (Int32.ofInt v1)), some (.int (Int32.ofInt v4))]) (st1 := [.ref 81]) (H1 := mz_mk g7 x) rfl ?_
                  refine mz_fgR (v := 82) rfl fd_4_12 (by decide) (sc_81 _) (rf_81_0 _ _ _) ?_
                  refine mz_cv rfl mt_4_99 (by decide) (sc_82 _) rfl (Nat.le_of_ble_eq_true rfl) (by omega) (c_X7_step (by omega) hx hIg7 (fun g8 hIg8 hfg8 => ⟨_, rfl, ?_⟩))
                  show mm_W d mmX4_readPart 202 [some (.ref 81), some (.ref q1), some (.int (Int32.ofInt v1)), some (.int (Int32.ofInt v4))] [] (mz_mk g8 x) Q
                  refine mm_g 1 (pc1 := 203) (lo1 := [some (.ref 81), some (.ref q1), some (.int (Int32.ofInt v1)), some (.int (Int32.ofInt v4))]) (st1 := [.int (Int32.ofInt 1)]) (H1 := mz_mk g8 x) rfl ?_
                  exact mz_rtZ rfl (by decide) (by omega) (hQ _ _ hIg8 (fun k j hk => ((hfg8 k j (fun h => hk (Or.elim h (fun h => (Or.inr (Or.inr (Or.inr (Or.inl h))))) (fun h => (Or.elim h (fun h => (Or.inr (Or.inr (Or.inr (Or.inr (Or.inl h)))))) (fun h => (Or.elim h (fun h => (Or.inr (Or.inr (Or.inr (Or.inr (Or.inr (Or.inl h))))))) (fun h => (Or.inr (Or.inr (Or.inr (Or.inr (Or.inr (Or.inr (Or.inl h))))))))))))))).trans ((hug7.2 k j (fun h => hk (Or.inr (Or.inr (Or.inl h))))).trans (hfg6 k j (fun h => hk (Or.elim h (fun h => (Or.inl h)) (fun h => (Or.inr (Or.inl h))))))))) (by decide) (by decide))
                · exfalso; omega
              · skip
                refine mm_g 2 (pc1 := 166) (lo1 := [some (.ref 81), some (.ref q1), some (.int (Int32.ofInt v1)), some (.int (Int32.ofInt v4))]) (st1 := [.int (Int32.ofInt 2), .ref 81]) (H1 := mz_mk g x) rfl ?_
                refine mz_cv rfl mt_4_95 (by decide) (sc_81 _) rfl (Nat.le_of_ble_eq_true rfl) (by omega) (c_X4_blame (by omega) hx hI (by decide) (by decide) (fun v9 g10 hIg10 hfg10 l_v9 u_v9 => ⟨_, rfl, ?_⟩))
                show mm_W d mmX4_readPart 169 [some (.ref 81), some (.ref q1), some (.int (Int32.ofInt v1)), some (.int (Int32.ofInt v4))] [.int (Int32.ofInt v9)] (mz_mk g10 x) Q
                exact mz_rtZ rfl (by decide) (by omega) (hQ _ _ hIg10 (fun k j hk => (hfg10 k j (fun h => hk (Or.elim h (fun h => (Or.inr (Or.inr (Or.inr (Or.inr (Or.inr (Or.inr (Or.inr (Or.inl h))))))))) (fun h => (Or.inr (Or.inr (Or.inr (Or.inr (Or.inr (Or.inr (Or.inr (Or.inr (Or.inl h)))))))))))))) (by omega) (by omega))
        · skip
          refine mm_g 1 (pc1 := 83) (lo1 := [some (.ref 81), some (.ref q1), some (.int (Int32.ofInt v1)), none]) (st1 := [.ref 81]) (H1 := mz_mk g x) rfl ?_
          refine mz_fgR (v := 82) rfl fd_4_12 (by decide) (sc_81 _) (rf_81_0 _ _ _) ?_
          refine mz_ldcS (j := 5) rfl rfl rfl ?_
          refine mz_cv rfl mt_4_57 (by decide) (sc_82 _) rfl (Nat.le_of_ble_eq_true rfl) (by omega) (c_X7_spells (by omega) hx hI (by decide) (fun v11 l_v11 u_v11 => ⟨_, rfl, ?_⟩))
          show mm_W d mmX4_readPart 91 [some (.ref 81), some (.ref q1), some (.int (Int32.ofInt v1)), none] [.int (Int32.ofInt v11)] (mz_mk g x) Q
          refine mz_if_eq (tgt := 128) rfl rfl (mz_rg l_v11 u_v11) (fun c91_11 => ?_) (fun c91_11 => ?_)
          · skip
            refine mm_g 2 (pc1 := 130) (lo1 := [some (.ref 81), some (.ref q1), some (.int (Int32.ofInt v1)), none]) (st1 := [.int (Int32.ofInt 2), .int (Int32.ofInt v1)]) (H1 := mz_mk g x) rfl ?_
            refine mz_ic_ne (tgt := 143) rfl rfl (mz_rg l_v1 u_v1) ⟨by decide, by decide⟩ (fun c130_11 => ?_) (fun c130_11 => ?_)
            · exfalso; omega
            · skip
              refine mm_g 1 (pc1 := 134) (lo1 := [some (.ref 81), some (.ref q1), some (.int (Int32.ofInt v1)), none]) (st1 := [.ref 81]) (H1 := mz_mk g x) rfl ?_
              refine mz_fgR (v := 82) rfl fd_4_12 (by decide) (sc_81 _) (rf_81_0 _ _ _) ?_
              refine mz_cv rfl mt_4_129 (by decide) (sc_82 _) rfl (Nat.le_of_ble_eq_true rfl) (by omega) (c_X7_number (by omega) hx hI (fun v12 l_v12 u_v12 => ⟨_, rfl, ?_⟩))
              show mm_W d mmX4_readPart 140 [some (.ref 81), some (.ref q1), some (.int (Int32.ofInt v1)), none] [.int (Int32.ofInt v12)] (mz_mk g x) Q
              refine mz_gt (tgt := 147) rfl rfl ?_
              refine mm_g 3 (pc1 := 150) (lo1 := [some (.ref 81), some (.ref q1), some (.int (Int32.ofInt v1)), some (.int (Int32.ofInt v12))]) (st1 := [.int (Int32.ofInt 2), .int (Int32.ofInt v1)]) (H1 := mz_mk g x) rfl ?_
              refine mz_ic_ne (tgt := 170) rfl rfl (mz_rg l_v1 u_v1) ⟨by decide, by decide⟩ (fun c150_12 => ?_) (fun c150_12 => ?_)
              · exfalso; omega
              · skip
                refine mm_g 1 (pc1 := 154) (lo1 := [some (.ref 81), some (.ref q1), some (.int (Int32.ofInt v1)), some (.int (Int32.ofInt v12))]) (st1 := [.ref 81]) (H1 := mz_mk g x) rfl ?_
                refine mz_fgR (v := 82) rfl fd_4_12 (by decide) (sc_81 _) (rf_81_0 _ _ _) ?_
                refine mz_cv rfl mt_4_107 (by decide) (sc_82 _) rfl (Nat.le_of_ble_eq_true rfl) (by omega) (c_X7_tokenSize (by omega) hx hI (fun v13 l_v13 u_v13 => ⟨_, rfl, ?_⟩))
                show mm_W d mmX4_readPart 160 [some (.ref 81), some (.ref q1), some (.int (Int32.ofInt v1)), some (.int (Int32.ofInt v12))] [.int (Int32.ofInt v13)] (mz_mk g x) Q
                refine mm_g 1 (pc1 := 161) (lo1 := [some (.ref 81), some (.ref q1), some (.int (Int32.ofInt v1)), some (.int (Int32.ofInt v12))]) (st1 := [.int (Int32.ofInt 4), .int (Int32.ofInt v13)]) (H1 := mz_mk g x) rfl ?_
                refine mz_ic_le (tgt := 170) rfl rfl (mz_rg l_v13 u_v13) ⟨by decide, by decide⟩ (fun c161_13 => ?_) (fun c161_13 => ?_)
                · skip
                  refine mm_g 2 (pc1 := 172) (lo1 := [some (.ref 81), some (.ref q1), some (.int (Int32.ofInt v1)), some (.int (Int32.ofInt v12))]) (st1 := [.int (Int32.ofInt 1), .int (Int32.ofInt v1)]) (H1 := mz_mk g x) rfl ?_
                  refine mz_ic_ne (tgt := 185) rfl rfl (mz_rg l_v1 u_v1) ⟨by decide, by decide⟩ (fun c172_13 => ?_) (fun c172_13 => ?_)
                  · skip
                    refine mm_g 2 (pc1 := 187) (lo1 := [some (.ref 81), some (.ref q1), some (.int (Int32.ofInt v1)), some (.int (Int32.ofInt v12))]) (st1 := [.int (Int32.ofInt v12), .ref q1]) (H1 := mz_mk g x) rfl ?_
                    refine mz_cv rfl mt_4_182 (by decide) (kc_rule h_q1 _) rfl (Nat.le_of_ble_eq_true rfl) (by omega) (c_X5_addStep (by omega) hx hI h_q1 l_v12 u_v12 (fun g14 hIg14 hfg14 => ⟨_, rfl, ?_⟩))
                    show mm_W d mmX4_readPart 190 [some (.ref 81), some (.ref q1), some (.int (Int32.ofInt v1)), some (.int (Int32.ofInt v12))] [] (mz_mk g14 x) Q
                    refine mm_g 2 (pc1 := 192) (lo1 := [some (.ref 81), some (.ref q1), some (.int (Int32.ofInt v1)), some (.int (Int32.ofInt v12))]) (st1 := [.int (Int32.ofInt 0), .ref 81]) (H1 := mz_mk g14 x) rfl ?_
                    refine mz_pZ rfl fd_4_38 (sc_81 _) (by decide) hIg14 bd_81_7 (by omega) (by omega) (fun g15 hIg15 hug15 => ?_)
                    refine mm_g 1 (pc1 := 196) (lo1 := [some (.ref 81), some (.ref q1), some (.int (Int32.ofInt v1)), some (.int (Int32.ofInt v12))]) (st1 := [.ref 81]) (H1 := mz_mk g15 x) rfl ?_
                    refine mz_fgR (v := 82) rfl fd_4_12 (by decide) (sc_81 _) (rf_81_0 _ _ _) ?_
                    refine mz_cv rfl mt_4_99 (by decide) (sc_82 _) rfl (Nat.le_of_ble_eq_true rfl) (by omega) (c_X7_step (by omega) hx hIg15 (fun g16 hIg16 hfg16 => ⟨_, rfl, ?_⟩))
                    show mm_W d mmX4_readPart 202 [some (.ref 81), some (.ref q1), some (.int (Int32.ofInt v1)), some (.int (Int32.ofInt v12))] [] (mz_mk g16 x) Q
                    refine mm_g 1 (pc1 := 203) (lo1 := [some (.ref 81), some (.ref q1), some (.int (Int32.ofInt v1)), some (.int (Int32.ofInt v12))]) (st1 := [.int (Int32.ofInt 1)]) (H1 := mz_mk g16 x) rfl ?_
                    exact mz_rtZ rfl (by decide) (by omega) (hQ _ _ hIg16 (fun k j hk => ((hfg16 k j (fun h => hk (Or.elim h (fun h => (Or.inr (Or.inr (Or.inr (Or.inl h))))) (fun h => (Or.elim h (fun h => (Or.inr (Or.inr (Or.inr (Or.inr (Or.inl h)))))) (fun h => (Or.elim h (fun h => (Or.inr (Or.inr (Or.inr (Or.inr (Or.inr (Or.inl h))))))) (fun h => (Or.inr (Or.inr (Or.inr (Or.inr (Or.inr (Or.inr (Or.inl h))))))))))))))).trans ((hug15.2 k j (fun h => hk (Or.inr (Or.inr (Or.inl h))))).trans (hfg14 k j (fun h => hk (Or.elim h (fun h => (Or.inl h)) (fun h => (Or.inr (Or.inl h))))))))) (by decide) (by decide))
                  · exfalso; omega
                · skip
                  refine mm_g 2 (pc1 := 166) (lo1 := [some (.ref 81), some (.ref q1), some (.int (Int32.ofInt v1)), some (.int (Int32.ofInt v12))]) (st1 := [.int (Int32.ofInt 2), .ref 81]) (H1 := mz_mk g x) rfl ?_
                  refine mz_cv rfl mt_4_95 (by decide) (sc_81 _) rfl (Nat.le_of_ble_eq_true rfl) (by omega) (c_X4_blame (by omega) hx hI (by decide) (by decide) (fun v17 g18 hIg18 hfg18 l_v17 u_v17 => ⟨_, rfl, ?_⟩))
                  show mm_W d mmX4_readPart 169 [some (.ref 81), some (.ref q1), some (.int (Int32.ofInt v1)), some (.int (Int32.ofInt v12))] [.int (Int32.ofInt v17)] (mz_mk g18 x) Q
                  exact mz_rtZ rfl (by decide) (by omega) (hQ _ _ hIg18 (fun k j hk => (hfg18 k j (fun h => hk (Or.elim h (fun h => (Or.inr (Or.inr (Or.inr (Or.inr (Or.inr (Or.inr (Or.inr (Or.inl h))))))))) (fun h => (Or.inr (Or.inr (Or.inr (Or.inr (Or.inr (Or.inr (Or.inr (Or.inr (Or.inl h)))))))))))))) (by omega) (by omega))
          · skip
            refine mm_g 1 (pc1 := 95) (lo1 := [some (.ref 81), some (.ref q1), some (.int (Int32.ofInt v1)), none]) (st1 := [.ref 81]) (H1 := mz_mk g x) rfl ?_
            refine mz_gI rfl fd_4_35 (by decide) (sc_81 _) hI bd_81_6 (fun v19 e_v19 l_v19 u_v19 => ?_)
            refine mz_bip rfl bip_6 ?_
            refine mz_ic_lt (tgt := 109) rfl rfl (mz_rg l_v19 u_v19) ⟨by decide, by decide⟩ (fun c100_19 => ?_) (fun c100_19 => ?_)
            · skip
              refine mm_g 2 (pc1 := 111) (lo1 := [some (.ref 81), some (.ref q1), some (.int (Int32.ofInt v1)), none]) (st1 := [.ref 81, .ref 81]) (H1 := mz_mk g x) rfl ?_
              refine mz_fgI (v := v19) rfl fd_4_35 (by decide) (sc_81 _) e_v19 ?_
              refine mm_g 1 (pc1 := 115) (lo1 := [some (.ref 81), some (.ref q1), some (.int (Int32.ofInt v1)), none]) (st1 := [.int (Int32.ofInt 1), .int (Int32.ofInt v19), .ref 81]) (H1 := mz_mk g x) rfl ?_
              refine mz_iadd rfl ?_
              refine mz_pI rfl fd_4_35 (sc_81 _) hI bd_81_6 (by omega) (by omega) (fun g20 hIg20 hug20 => ?_)
              refine mm_g 1 (pc1 := 120) (lo1 := [some (.ref 81), some (.ref q1), some (.int (Int32.ofInt v1)), none]) (st1 := [.ref 81]) (H1 := mz_mk g20 x) rfl ?_
              refine mz_bip rfl bip_m13 ?_
              refine mz_cv rfl mt_4_174 (by decide) (sc_81 _) rfl (Nat.le_of_ble_eq_true rfl) (by omega) (c_X4_openSign (by omega) hx hIg20 (by decide) (by decide) (fun g21 hIg21 hfg21 => ⟨_, rfl, ?_⟩))
              show mm_W d mmX4_readPart 125 [some (.ref 81), some (.ref q1), some (.int (Int32.ofInt v1)), none] [] (mz_mk g21 x) Q
              refine mz_gt (tgt := 195) rfl rfl ?_
              refine mm_g 1 (pc1 := 196) (lo1 := [some (.ref 81), some (.ref q1), some (.int (Int32.ofInt v1)), none]) (st1 := [.ref 81]) (H1 := mz_mk g21 x) rfl ?_
              refine mz_fgR (v := 82) rfl fd_4_12 (by decide) (sc_81 _) (rf_81_0 _ _ _) ?_
              refine mz_cv rfl mt_4_99 (by decide) (sc_82 _) rfl (Nat.le_of_ble_eq_true rfl) (by omega) (c_X7_step (by omega) hx hIg21 (fun g22 hIg22 hfg22 => ⟨_, rfl, ?_⟩))
              show mm_W d mmX4_readPart 202 [some (.ref 81), some (.ref q1), some (.int (Int32.ofInt v1)), none] [] (mz_mk g22 x) Q
              refine mm_g 1 (pc1 := 203) (lo1 := [some (.ref 81), some (.ref q1), some (.int (Int32.ofInt v1)), none]) (st1 := [.int (Int32.ofInt 1)]) (H1 := mz_mk g22 x) rfl ?_
              exact mz_rtZ rfl (by decide) (by omega) (hQ _ _ hIg22 (fun k j hk => ((hfg22 k j (fun h => hk (Or.elim h (fun h => (Or.inr (Or.inr (Or.inr (Or.inl h))))) (fun h => (Or.elim h (fun h => (Or.inr (Or.inr (Or.inr (Or.inr (Or.inl h)))))) (fun h => (Or.elim h (fun h => (Or.inr (Or.inr (Or.inr (Or.inr (Or.inr (Or.inl h))))))) (fun h => (Or.inr (Or.inr (Or.inr (Or.inr (Or.inr (Or.inr (Or.inl h))))))))))))))).trans ((hfg21 k j (fun h => hk (Or.elim h (fun h => (Or.inr (Or.inr (Or.inr (Or.inr (Or.inr (Or.inr (Or.inr (Or.inr (Or.inr (Or.inr (Or.inl h)))))))))))) (fun h => (Or.inr (Or.inr (Or.inr (Or.inr (Or.inr (Or.inr (Or.inr (Or.inr (Or.inr (Or.inr (Or.inr (Or.inl h)))))))))))))))).trans (hug20.2 k j (fun h => hk (Or.inr (Or.inr (Or.inr (Or.inr (Or.inr (Or.inr (Or.inr (Or.inr (Or.inr (Or.inl h))))))))))))))) (by decide) (by decide))
            · skip
              refine mm_g 2 (pc1 := 105) (lo1 := [some (.ref 81), some (.ref q1), some (.int (Int32.ofInt v1)), none]) (st1 := [.int (Int32.ofInt 2), .ref 81]) (H1 := mz_mk g x) rfl ?_
              refine mz_cv rfl mt_4_95 (by decide) (sc_81 _) rfl (Nat.le_of_ble_eq_true rfl) (by omega) (c_X4_blame (by omega) hx hI (by decide) (by decide) (fun v23 g24 hIg24 hfg24 l_v23 u_v23 => ⟨_, rfl, ?_⟩))
              show mm_W d mmX4_readPart 108 [some (.ref 81), some (.ref q1), some (.int (Int32.ofInt v1)), none] [.int (Int32.ofInt v23)] (mz_mk g24 x) Q
              exact mz_rtZ rfl (by decide) (by omega) (hQ _ _ hIg24 (fun k j hk => (hfg24 k j (fun h => hk (Or.elim h (fun h => (Or.inr (Or.inr (Or.inr (Or.inr (Or.inr (Or.inr (Or.inr (Or.inl h))))))))) (fun h => (Or.inr (Or.inr (Or.inr (Or.inr (Or.inr (Or.inr (Or.inr (Or.inr (Or.inl h)))))))))))))) (by omega) (by omega))
      · exfalso; omega
    · skip
      refine mm_g 2 (pc1 := 41) (lo1 := [some (.ref 81), some (.ref q1), some (.int (Int32.ofInt v1)), none]) (st1 := [.int (Int32.ofInt 2), .ref 81]) (H1 := mz_mk g x) rfl ?_
      refine mz_cv rfl mt_4_95 (by decide) (sc_81 _) rfl (Nat.le_of_ble_eq_true rfl) (by omega) (c_X4_blame (by omega) hx hI (by decide) (by decide) (fun v25 g26 hIg26 hfg26 l_v25 u_v25 => ⟨_, rfl, ?_⟩))
      show mm_W d mmX4_readPart 44 [some (.ref 81), some (.ref q1), some (.int (Int32.ofInt v1)), none] [.int (Int32.ofInt v25)] (mz_mk g26 x) Q
      exact mz_rtZ rfl (by decide) (by omega) (hQ _ _ hIg26 (fun k j hk => (hfg26 k j (fun h => hk (Or.elim h (fun h => (Or.inr (Or.inr (Or.inr (Or.inr (Or.inr (Or.inr (Or.inr (Or.inl h))))))))) (fun h => (Or.inr (Or.inr (Or.inr (Or.inr (Or.inr (Or.inr (Or.inr (Or.inr (Or.inl h)))))))))))))) (by omega) (by omega))
  · skip
    refine mm_g 2 (pc1 := 15) (lo1 := [some (.ref 81), some (.ref q1), some (.int (Int32.ofInt v1)), none]) (st1 := [.int (Int32.ofInt 1), .int (Int32.ofInt v1)]) (H1 := mz_mk g x) rfl ?_
    refine mz_ic_eq (tgt := 30) rfl rfl (mz_rg l_v1 u_v1) ⟨by decide, by decide⟩ (fun c15_26 => ?_) (fun c15_26 => ?_)
    · skip
      refine mm_g 1 (pc1 := 31) (lo1 := [some (.ref 81), some (.ref q1), some (.int (Int32.ofInt v1)), none]) (st1 := [.ref 81]) (H1 := mz_mk g x) rfl ?_
      refine mz_gI rfl fd_4_32 (by decide) (sc_81 _) hI bd_81_5 (fun v27 e_v27 l_v27 u_v27 => ?_)
      refine mz_bip rfl bip_6 ?_
      refine mz_ic_lt (tgt := 45) rfl rfl (mz_rg l_v27 u_v27) ⟨by decide, by decide⟩ (fun c36_27 => ?_) (fun c36_27 => ?_)
      · skip
        refine mm_g 1 (pc1 := 46) (lo1 := [some (.ref 81), some (.ref q1), some (.int (Int32.ofInt v1)), none]) (st1 := [.int (Int32.ofInt v1)]) (H1 := mz_mk g x) rfl ?_
        refine mz_bip rfl bip_40 ?_
        refine mz_ic_ne (tgt := 75) rfl rfl (mz_rg l_v1 u_v1) ⟨by decide, by decide⟩ (fun c48_27 => ?_) (fun c48_27 => ?_)
        · skip
          refine mm_g 1 (pc1 := 76) (lo1 := [some (.ref 81), some (.ref q1), some (.int (Int32.ofInt v1)), none]) (st1 := [.ref 81]) (H1 := mz_mk g x) rfl ?_
          refine mz_gI rfl fd_4_42 (by decide) (sc_81 _) hI bd_81_8 (fun v28 e_v28 l_v28 u_v28 => ?_)
          refine mz_if_eq (tgt := 128) rfl rfl (mz_rg l_v28 u_v28) (fun c79_28 => ?_) (fun c79_28 => ?_)
          · skip
            refine mm_g 2 (pc1 := 130) (lo1 := [some (.ref 81), some (.ref q1), some (.int (Int32.ofInt v1)), none]) (st1 := [.int (Int32.ofInt 2), .int (Int32.ofInt v1)]) (H1 := mz_mk g x) rfl ?_
            refine mz_ic_ne (tgt := 143) rfl rfl (mz_rg l_v1 u_v1) ⟨by decide, by decide⟩ (fun c130_28 => ?_) (fun c130_28 => ?_)
            · skip
              refine mm_g 1 (pc1 := 144) (lo1 := [some (.ref 81), some (.ref q1), some (.int (Int32.ofInt v1)), none]) (st1 := [.ref 81]) (H1 := mz_mk g x) rfl ?_
              refine mz_cv rfl mt_4_179 (by decide) (sc_81 _) rfl (Nat.le_of_ble_eq_true rfl) (by omega) (c_X4_valueOfWord (by omega) hx hI (fun v29 l_v29 u_v29 => ⟨_, rfl, ?_⟩))
              show mm_W d mmX4_readPart 147 [some (.ref 81), some (.ref q1), some (.int (Int32.ofInt v1)), none] [.int (Int32.ofInt v29)] (mz_mk g x) Q
              refine mm_g 3 (pc1 := 150) (lo1 := [some (.ref 81), some (.ref q1), some (.int (Int32.ofInt v1)), some (.int (Int32.ofInt v29))]) (st1 := [.int (Int32.ofInt 2), .int (Int32.ofInt v1)]) (H1 := mz_mk g x) rfl ?_
              refine mz_ic_ne (tgt := 170) rfl rfl (mz_rg l_v1 u_v1) ⟨by decide, by decide⟩ (fun c150_29 => ?_) (fun c150_29 => ?_)
              · skip
                refine mm_g 2 (pc1 := 172) (lo1 := [some (.ref 81), some (.ref q1), some (.int (Int32.ofInt v1)), some (.int (Int32.ofInt v29))]) (st1 := [.int (Int32.ofInt 1), .int (Int32.ofInt v1)]) (H1 := mz_mk g x) rfl ?_
                refine mz_ic_ne (tgt := 185) rfl rfl (mz_rg l_v1 u_v1) ⟨by decide, by decide⟩ (fun c172_29 => ?_) (fun c172_29 => ?_)
                · exfalso; omega
                · skip
                  refine mm_g 1 (pc1 := 176) (lo1 := [some (.ref 81), some (.ref q1), some (.int (Int32.ofInt v1)), some (.int (Int32.ofInt v29))]) (st1 := [.int (Int32.ofInt v29)]) (H1 := mz_mk g x) rfl ?_
                  refine mz_if_ne (tgt := 185) rfl rfl (mz_rg l_v29 u_v29) (fun c176_29 => ?_) (fun c176_29 => ?_)
                  · skip
                    refine mm_g 2 (pc1 := 187) (lo1 := [some (.ref 81), some (.ref q1), some (.int (Int32.ofInt v1)), some (.int (Int32.ofInt v29))]) (st1 := [.int (Int32.ofInt v29), .ref q1]) (H1 := mz_mk g x) rfl ?_
                    refine mz_cv rfl mt_4_182 (by decide) (kc_rule h_q1 _) rfl (Nat.le_of_ble_eq_true rfl) (by omega) (c_X5_addStep (by omega) hx hI h_q1 (by omega) (by omega) (fun g30 hIg30 hfg30 => ⟨_, rfl, ?_⟩))
                    show mm_W d mmX4_readPart 190 [some (.ref 81), some (.ref q1), some (.int (Int32.ofInt v1)), some (.int (Int32.ofInt v29))] [] (mz_mk g30 x) Q
                    refine mm_g 2 (pc1 := 192) (lo1 := [some (.ref 81), some (.ref q1), some (.int (Int32.ofInt v1)), some (.int (Int32.ofInt v29))]) (st1 := [.int (Int32.ofInt 0), .ref 81]) (H1 := mz_mk g30 x) rfl ?_
                    refine mz_pZ rfl fd_4_38 (sc_81 _) (by decide) hIg30 bd_81_7 (by omega) (by omega) (fun g31 hIg31 hug31 => ?_)
                    refine mm_g 1 (pc1 := 196) (lo1 := [some (.ref 81), some (.ref q1), some (.int (Int32.ofInt v1)), some (.int (Int32.ofInt v29))]) (st1 := [.ref 81]) (H1 := mz_mk g31 x) rfl ?_
                    refine mz_fgR (v := 82) rfl fd_4_12 (by decide) (sc_81 _) (rf_81_0 _ _ _) ?_
                    refine mz_cv rfl mt_4_99 (by decide) (sc_82 _) rfl (Nat.le_of_ble_eq_true rfl) (by omega) (c_X7_step (by omega) hx hIg31 (fun g32 hIg32 hfg32 => ⟨_, rfl, ?_⟩))
                    show mm_W d mmX4_readPart 202 [some (.ref 81), some (.ref q1), some (.int (Int32.ofInt v1)), some (.int (Int32.ofInt v29))] [] (mz_mk g32 x) Q
                    refine mm_g 1 (pc1 := 203) (lo1 := [some (.ref 81), some (.ref q1), some (.int (Int32.ofInt v1)), some (.int (Int32.ofInt v29))]) (st1 := [.int (Int32.ofInt 1)]) (H1 := mz_mk g32 x) rfl ?_
                    exact mz_rtZ rfl (by decide) (by omega) (hQ _ _ hIg32 (fun k j hk => ((hfg32 k j (fun h => hk (Or.elim h (fun h => (Or.inr (Or.inr (Or.inr (Or.inl h))))) (fun h => (Or.elim h (fun h => (Or.inr (Or.inr (Or.inr (Or.inr (Or.inl h)))))) (fun h => (Or.elim h (fun h => (Or.inr (Or.inr (Or.inr (Or.inr (Or.inr (Or.inl h))))))) (fun h => (Or.inr (Or.inr (Or.inr (Or.inr (Or.inr (Or.inr (Or.inl h))))))))))))))).trans ((hug31.2 k j (fun h => hk (Or.inr (Or.inr (Or.inl h))))).trans (hfg30 k j (fun h => hk (Or.elim h (fun h => (Or.inl h)) (fun h => (Or.inr (Or.inl h))))))))) (by decide) (by decide))
                  · skip
                    refine mm_g 2 (pc1 := 181) (lo1 := [some (.ref 81), some (.ref q1), some (.int (Int32.ofInt v1)), some (.int (Int32.ofInt v29))]) (st1 := [.int (Int32.ofInt 3), .ref 81]) (H1 := mz_mk g x) rfl ?_
                    refine mz_cv rfl mt_4_95 (by decide) (sc_81 _) rfl (Nat.le_of_ble_eq_true rfl) (by omega) (c_X4_blame (by omega) hx hI (by decide) (by decide) (fun v33 g34 hIg34 hfg34 l_v33 u_v33 => ⟨_, rfl, ?_⟩))
                    show mm_W d mmX4_readPart 184 [some (.ref 81), some (.ref q1), some (.int (Int32.ofInt v1)), some (.int (Int32.ofInt v29))] [.int (Int32.ofInt v33)] (mz_mk g34 x) Q
                    exact mz_rtZ rfl (by decide) (by omega) (hQ _ _ hIg34 (fun k j hk => (hfg34 k j (fun h => hk (Or.elim h (fun h => (Or.inr (Or.inr (Or.inr (Or.inr (Or.inr (Or.inr (Or.inr (Or.inl h))))))))) (fun h => (Or.inr (Or.inr (Or.inr (Or.inr (Or.inr (Or.inr (Or.inr (Or.inr (Or.inl h)))))))))))))) (by omega) (by omega))
              · exfalso; omega
            · exfalso; omega
          · skip
            refine mm_g 1 (pc1 := 83) (lo1 := [some (.ref 81), some (.ref q1), some (.int (Int32.ofInt v1)), none]) (st1 := [.ref 81]) (H1 := mz_mk g x) rfl ?_
            refine mz_fgR (v := 82) rfl fd_4_12 (by decide) (sc_81 _) (rf_81_0 _ _ _) ?_
            refine mz_ldcS (j := 5) rfl rfl rfl ?_
            refine mz_cv rfl mt_4_57 (by decide) (sc_82 _) rfl (Nat.le_of_ble_eq_true rfl) (by omega) (c_X7_spells (by omega) hx hI (by decide) (fun v35 l_v35 u_v35 => ⟨_, rfl, ?_⟩))
            show mm_W d mmX4_readPart 91 [some (.ref 81), some (.ref q1), some (.int (Int32.ofInt v1)), none] [.int (Int32.ofInt v35)] (mz_mk g x) Q
            refine mz_if_eq (tgt := 128) rfl rfl (mz_rg l_v35 u_v35) (fun c91_35 => ?_) (fun c91_35 => ?_)
            · skip
              refine mm_g 2 (pc1 := 130) (lo1 := [some (.ref 81), some (.ref q1), some (.int (Int32.ofInt v1)), none]) (st1 := [.int (Int32.ofInt 2), .int (Int32.ofInt v1)]) (H1 := mz_mk g x) rfl ?_
              refine mz_ic_ne (tgt := 143) rfl rfl (mz_rg l_v1 u_v1) ⟨by decide, by decide⟩ (fun c130_35 => ?_) (fun c130_35 => ?_)
              · skip
                refine mm_g 1 (pc1 := 144) (lo1 := [some (.ref 81), some (.ref q1), some (.int (Int32.ofInt v1)), none]) (st1 := [.ref 81]) (H1 := mz_mk g x) rfl ?_
                refine mz_cv rfl mt_4_179 (by decide) (sc_81 _) rfl (Nat.le_of_ble_eq_true rfl) (by omega) (c_X4_valueOfWord (by omega) hx hI (fun v36 l_v36 u_v36 => ⟨_, rfl, ?_⟩))
                show mm_W d mmX4_readPart 147 [some (.ref 81), some (.ref q1), some (.int (Int32.ofInt v1)), none] [.int (Int32.ofInt v36)] (mz_mk g x) Q
                refine mm_g 3 (pc1 := 150) (lo1 := [some (.ref 81), some (.ref q1), some (.int (Int32.ofInt v1)), some (.int (Int32.ofInt v36))]) (st1 := [.int (Int32.ofInt 2), .int (Int32.ofInt v1)]) (H1 := mz_mk g x) rfl ?_
                refine mz_ic_ne (tgt := 170) rfl rfl (mz_rg l_v1 u_v1) ⟨by decide, by decide⟩ (fun c150_36 => ?_) (fun c150_36 => ?_)
                · skip
                  refine mm_g 2 (pc1 := 172) (lo1 := [some (.ref 81), some (.ref q1), some (.int (Int32.ofInt v1)), some (.int (Int32.ofInt v36))]) (st1 := [.int (Int32.ofInt 1), .int (Int32.ofInt v1)]) (H1 := mz_mk g x) rfl ?_
                  refine mz_ic_ne (tgt := 185) rfl rfl (mz_rg l_v1 u_v1) ⟨by decide, by decide⟩ (fun c172_36 => ?_) (fun c172_36 => ?_)
                  · exfalso; omega
                  · skip
                    refine mm_g 1 (pc1 := 176) (lo1 := [some (.ref 81), some (.ref q1), some (.int (Int32.ofInt v1)), some (.int (Int32.ofInt v36))]) (st1 := [.int (Int32.ofInt v36)]) (H1 := mz_mk g x) rfl ?_
                    refine mz_if_ne (tgt := 185) rfl rfl (mz_rg l_v36 u_v36) (fun c176_36 => ?_) (fun c176_36 => ?_)
                    · skip
                      refine mm_g 2 (pc1 := 187) (lo1 := [some (.ref 81), some (.ref q1), some (.int (Int32.ofInt v1)), some (.int (Int32.ofInt v36))]) (st1 := [.int (Int32.ofInt v36), .ref q1]) (H1 := mz_mk g x) rfl ?_
                      refine mz_cv rfl mt_4_182 (by decide) (kc_rule h_q1 _) rfl (Nat.le_of_ble_eq_true rfl) (by omega) (c_X5_addStep (by omega) hx hI h_q1 (by omega) (by omega) (fun g37 hIg37 hfg37 => ⟨_, rfl, ?_⟩))
                      show mm_W d mmX4_readPart 190 [some (.ref 81), some (.ref q1), some (.int (Int32.ofInt v1)), some (.int (Int32.ofInt v36))] [] (mz_mk g37 x) Q
                      refine mm_g 2 (pc1 := 192) (lo1 := [some (.ref 81), some (.ref q1), some (.int (Int32.ofInt v1)), some (.int (Int32.ofInt v36))]) (st1 := [.int (Int32.ofInt 0), .ref 81]) (H1 := mz_mk g37 x) rfl ?_
                      refine mz_pZ rfl fd_4_38 (sc_81 _) (by decide) hIg37 bd_81_7 (by omega) (by omega) (fun g38 hIg38 hug38 => ?_)
                      refine mm_g 1 (pc1 := 196) (lo1 := [some (.ref 81), some (.ref q1), some (.int (Int32.ofInt v1)), some (.int (Int32.ofInt v36))]) (st1 := [.ref 81]) (H1 := mz_mk g38 x) rfl ?_
                      refine mz_fgR (v := 82) rfl fd_4_12 (by decide) (sc_81 _) (rf_81_0 _ _ _) ?_
                      refine mz_cv rfl mt_4_99 (by decide) (sc_82 _) rfl (Nat.le_of_ble_eq_true rfl) (by omega) (c_X7_step (by omega) hx hIg38 (fun g39 hIg39 hfg39 => ⟨_, rfl, ?_⟩))
                      show mm_W d mmX4_readPart 202 [some (.ref 81), some (.ref q1), some (.int (Int32.ofInt v1)), some (.int (Int32.ofInt v36))] [] (mz_mk g39 x) Q
                      refine mm_g 1 (pc1 := 203) (lo1 := [some (.ref 81), some (.ref q1), some (.int (Int32.ofInt v1)), some (.int (Int32.ofInt v36))]) (st1 := [.int (Int32.ofInt 1)]) (H1 := mz_mk g39 x) rfl ?_
                      exact mz_rtZ rfl (by decide) (by omega) (hQ _ _ hIg39 (fun k j hk => ((hfg39 k j (fun h => hk (Or.elim h (fun h => (Or.inr (Or.inr (Or.inr (Or.inl h))))) (fun h => (Or.elim h (fun h => (Or.inr (Or.inr (Or.inr (Or.inr (Or.inl h)))))) (fun h => (Or.elim h (fun h => (Or.inr (Or.inr (Or.inr (Or.inr (Or.inr (Or.inl h))))))) (fun h => (Or.inr (Or.inr (Or.inr (Or.inr (Or.inr (Or.inr (Or.inl h))))))))))))))).trans ((hug38.2 k j (fun h => hk (Or.inr (Or.inr (Or.inl h))))).trans (hfg37 k j (fun h => hk (Or.elim h (fun h => (Or.inl h)) (fun h => (Or.inr (Or.inl h))))))))) (by decide) (by decide))
                    · skip
                      refine mm_g 2 (pc1 := 181) (lo1 := [some (.ref 81), some (.ref q1), some (.int (Int32.ofInt v1)), some (.int (Int32.ofInt v36))]) (st1 := [.int (Int32.ofInt 3), .ref 81]) (H1 := mz_mk g x) rfl ?_
                      refine mz_cv rfl mt_4_95 (by decide) (sc_81 _) rfl (Nat.le_of_ble_eq_true rfl) (by omega) (c_X4_blame (by omega) hx hI (by decide) (by decide) (fun v40 g41 hIg41 hfg41 l_v40 u_v40 => ⟨_, rfl, ?_⟩))
                      show mm_W d mmX4_readPart 184 [some (.ref 81), some (.ref q1), some (.int (Int32.ofInt v1)), some (.int (Int32.ofInt v36))] [.int (Int32.ofInt v40)] (mz_mk g41 x) Q
                      exact mz_rtZ rfl (by decide) (by omega) (hQ _ _ hIg41 (fun k j hk => (hfg41 k j (fun h => hk (Or.elim h (fun h => (Or.inr (Or.inr (Or.inr (Or.inr (Or.inr (Or.inr (Or.inr (Or.inl h))))))))) (fun h => (Or.inr (Or.inr (Or.inr (Or.inr (Or.inr (Or.inr (Or.inr (Or.inr (Or.inl h)))))))))))))) (by omega) (by omega))
                · exfalso; omega
              · exfalso; omega
            · skip
              refine mm_g 1 (pc1 := 95) (lo1 := [some (.ref 81), some (.ref q1), some (.int (Int32.ofInt v1)), none]) (st1 := [.ref 81]) (H1 := mz_mk g x) rfl ?_
              refine mz_gI rfl fd_4_35 (by decide) (sc_81 _) hI bd_81_6 (fun v42 e_v42 l_v42 u_v42 => ?_)
              refine mz_bip rfl bip_6 ?_
              refine mz_ic_lt (tgt := 109) rfl rfl (mz_rg l_v42 u_v42) ⟨by decide, by decide⟩ (fun c100_42 => ?_) (fun c100_42 => ?_)
              · skip
                refine mm_g 2 (pc1 := 111) (lo1 := [some (.ref 81), some (.ref q1), some (.int (Int32.ofInt v1)), none]) (st1 := [.ref 81, .ref 81]) (H1 := mz_mk g x) rfl ?_
                refine mz_fgI (v := v42) rfl fd_4_35 (by decide) (sc_81 _) e_v42 ?_
                refine mm_g 1 (pc1 := 115) (lo1 := [some (.ref 81), some (.ref q1), some (.int (Int32.ofInt v1)), none]) (st1 := [.int (Int32.ofInt 1), .int (Int32.ofInt v42), .ref 81]) (H1 := mz_mk g x) rfl ?_
                refine mz_iadd rfl ?_
                refine mz_pI rfl fd_4_35 (sc_81 _) hI bd_81_6 (by omega) (by omega) (fun g43 hIg43 hug43 => ?_)
                refine mm_g 1 (pc1 := 120) (lo1 := [some (.ref 81), some (.ref q1), some (.int (Int32.ofInt v1)), none]) (st1 := [.ref 81]) (H1 := mz_mk g43 x) rfl ?_
                refine mz_bip rfl bip_m13 ?_
                refine mz_cv rfl mt_4_174 (by decide) (sc_81 _) rfl (Nat.le_of_ble_eq_true rfl) (by omega) (c_X4_openSign (by omega) hx hIg43 (by decide) (by decide) (fun g44 hIg44 hfg44 => ⟨_, rfl, ?_⟩))
                show mm_W d mmX4_readPart 125 [some (.ref 81), some (.ref q1), some (.int (Int32.ofInt v1)), none] [] (mz_mk g44 x) Q
                refine mz_gt (tgt := 195) rfl rfl ?_
                refine mm_g 1 (pc1 := 196) (lo1 := [some (.ref 81), some (.ref q1), some (.int (Int32.ofInt v1)), none]) (st1 := [.ref 81]) (H1 := mz_mk g44 x) rfl ?_
                refine mz_fgR (v := 82) rfl fd_4_12 (by decide) (sc_81 _) (rf_81_0 _ _ _) ?_
                refine mz_cv rfl mt_4_99 (by decide) (sc_82 _) rfl (Nat.le_of_ble_eq_true rfl) (by omega) (c_X7_step (by omega) hx hIg44 (fun g45 hIg45 hfg45 => ⟨_, rfl, ?_⟩))
                show mm_W d mmX4_readPart 202 [some (.ref 81), some (.ref q1), some (.int (Int32.ofInt v1)), none] [] (mz_mk g45 x) Q
                refine mm_g 1 (pc1 := 203) (lo1 := [some (.ref 81), some (.ref q1), some (.int (Int32.ofInt v1)), none]) (st1 := [.int (Int32.ofInt 1)]) (H1 := mz_mk g45 x) rfl ?_
                exact mz_rtZ rfl (by decide) (by omega) (hQ _ _ hIg45 (fun k j hk => ((hfg45 k j (fun h => hk (Or.elim h (fun h => (Or.inr (Or.inr (Or.inr (Or.inl h))))) (fun h => (Or.elim h (fun h => (Or.inr (Or.inr (Or.inr (Or.inr (Or.inl h)))))) (fun h => (Or.elim h (fun h => (Or.inr (Or.inr (Or.inr (Or.inr (Or.inr (Or.inl h))))))) (fun h => (Or.inr (Or.inr (Or.inr (Or.inr (Or.inr (Or.inr (Or.inl h))))))))))))))).trans ((hfg44 k j (fun h => hk (Or.elim h (fun h => (Or.inr (Or.inr (Or.inr (Or.inr (Or.inr (Or.inr (Or.inr (Or.inr (Or.inr (Or.inr (Or.inl h)))))))))))) (fun h => (Or.inr (Or.inr (Or.inr (Or.inr (Or.inr (Or.inr (Or.inr (Or.inr (Or.inr (Or.inr (Or.inr (Or.inl h)))))))))))))))).trans (hug43.2 k j (fun h => hk (Or.inr (Or.inr (Or.inr (Or.inr (Or.inr (Or.inr (Or.inr (Or.inr (Or.inr (Or.inl h))))))))))))))) (by decide) (by decide))
              · skip
                refine mm_g 2 (pc1 := 105) (lo1 := [some (.ref 81), some (.ref q1), some (.int (Int32.ofInt v1)), none]) (st1 := [.int (Int32.ofInt 2), .ref 81]) (H1 := mz_mk g x) rfl ?_
                refine mz_cv rfl mt_4_95 (by decide) (sc_81 _) rfl (Nat.le_of_ble_eq_true rfl) (by omega) (c_X4_blame (by omega) hx hI (by decide) (by decide) (fun v46 g47 hIg47 hfg47 l_v46 u_v46 => ⟨_, rfl, ?_⟩))
                show mm_W d mmX4_readPart 108 [some (.ref 81), some (.ref q1), some (.int (Int32.ofInt v1)), none] [.int (Int32.ofInt v46)] (mz_mk g47 x) Q
                exact mz_rtZ rfl (by decide) (by omega) (hQ _ _ hIg47 (fun k j hk => (hfg47 k j (fun h => hk (Or.elim h (fun h => (Or.inr (Or.inr (Or.inr (Or.inr (Or.inr (Or.inr (Or.inr (Or.inl h))))))))) (fun h => (Or.inr (Or.inr (Or.inr (Or.inr (Or.inr (Or.inr (Or.inr (Or.inr (Or.inl h)))))))))))))) (by omega) (by omega))
        · exfalso; omega
      · skip
        refine mm_g 2 (pc1 := 41) (lo1 := [some (.ref 81), some (.ref q1), some (.int (Int32.ofInt v1)), none]) (st1 := [.int (Int32.ofInt 2), .ref 81]) (H1 := mz_mk g x) rfl ?_
        refine mz_cv rfl mt_4_95 (by decide) (sc_81 _) rfl (Nat.le_of_ble_eq_true rfl) (by omega) (c_X4_blame (by omega) hx hI (by decide) (by decide) (fun v48 g49 hIg49 hfg49 l_v48 u_v48 => ⟨_, rfl, ?_⟩))
        show mm_W d mmX4_readPart 44 [some (.ref 81), some (.ref q1), some (.int (Int32.ofInt v1)), none] [.int (Int32.ofInt v48)] (mz_mk g49 x) Q
        exact mz_rtZ rfl (by decide) (by omega) (hQ _ _ hIg49 (fun k j hk => (hfg49 k j (fun h => hk (Or.elim h (fun h => (Or.inr (Or.inr (Or.inr (Or.inr (Or.inr (Or.inr (Or.inr (Or.inl h))))))))) (fun h => (Or.inr (Or.inr (Or.inr (Or.inr (Or.inr (Or.inr (Or.inr (Or.inr (Or.inl h)))))))))))))) (by omega) (by omega))
    · skip
      refine mm_g 1 (pc1 := 19) (lo1 := [some (.ref 81), some (.ref q1), some (.int (Int32.ofInt v1)), none]) (st1 := [.int (Int32.ofInt v1)]) (H1 := mz_mk g x) rfl ?_
      refine mz_bip rfl bip_40 ?_
      refine mz_ic_eq (tgt := 30) rfl rfl (mz_rg l_v1 u_v1) ⟨by decide, by decide⟩ (fun c21_49 => ?_) (fun c21_49 => ?_)
      · skip
        refine mm_g 1 (pc1 := 31) (lo1 := [some (.ref 81), some (.ref q1), some (.int (Int32.ofInt v1)), none]) (st1 := [.ref 81]) (H1 := mz_mk g x) rfl ?_
        refine mz_gI rfl fd_4_32 (by decide) (sc_81 _) hI bd_81_5 (fun v50 e_v50 l_v50 u_v50 => ?_)
        refine mz_bip rfl bip_6 ?_
        refine mz_ic_lt (tgt := 45) rfl rfl (mz_rg l_v50 u_v50) ⟨by decide, by decide⟩ (fun c36_50 => ?_) (fun c36_50 => ?_)
        · skip
          refine mm_g 1 (pc1 := 46) (lo1 := [some (.ref 81), some (.ref q1), some (.int (Int32.ofInt v1)), none]) (st1 := [.int (Int32.ofInt v1)]) (H1 := mz_mk g x) rfl ?_
          refine mz_bip rfl bip_40 ?_
          refine mz_ic_ne (tgt := 75) rfl rfl (mz_rg l_v1 u_v1) ⟨by decide, by decide⟩ (fun c48_50 => ?_) (fun c48_50 => ?_)
          · exfalso; omega
          · skip
            refine mm_g 1 (pc1 := 52) (lo1 := [some (.ref 81), some (.ref q1), some (.int (Int32.ofInt v1)), none]) (st1 := [.ref 81]) (H1 := mz_mk g x) rfl ?_
            refine mz_bip rfl bip_m20 ?_
            refine mz_cv rfl mt_4_174 (by decide) (sc_81 _) rfl (Nat.le_of_ble_eq_true rfl) (by omega) (c_X4_openSign (by omega) hx hI (by decide) (by decide) (fun g51 hIg51 hfg51 => ⟨_, rfl, ?_⟩))
            show mm_W d mmX4_readPart 57 [some (.ref 81), some (.ref q1), some (.int (Int32.ofInt v1)), none] [] (mz_mk g51 x) Q
            refine mm_g 2 (pc1 := 59) (lo1 := [some (.ref 81), some (.ref q1), some (.int (Int32.ofInt v1)), none]) (st1 := [.ref 81, .ref 81]) (H1 := mz_mk g51 x) rfl ?_
            refine mz_fgI (v := v50) rfl fd_4_32 (by decide) (sc_81 _) (show g51 81 5 = v50 from ((hfg51 81 5 (fun h => (Or.elim h (fun h => (absurd (show 81 = 84 from h) (by decide))) (fun h => (absurd (show (81 = 81 ∧ 5 = 4) from h) (by decide)))))).trans e_v50)) ?_
            refine mm_g 1 (pc1 := 63) (lo1 := [some (.ref 81), some (.ref q1), some (.int (Int32.ofInt v1)), none]) (st1 := [.int (Int32.ofInt 1), .int (Int32.ofInt v50), .ref 81]) (H1 := mz_mk g51 x) rfl ?_
            refine mz_iadd rfl ?_
            refine mz_pI rfl fd_4_32 (sc_81 _) hIg51 bd_81_5 (by omega) (by omega) (fun g52 hIg52 hug52 => ?_)
            refine mm_g 2 (pc1 := 69) (lo1 := [some (.ref 81), some (.ref q1), some (.int (Int32.ofInt v1)), none]) (st1 := [.int (Int32.ofInt 1), .ref 81]) (H1 := mz_mk g52 x) rfl ?_
            refine mz_cv rfl mt_4_157 (by decide) (sc_81 _) rfl (Nat.le_of_ble_eq_true rfl) (by omega) (c_X4_notsAnew (by omega) hx hIg52 (by decide) (by decide) (fun g53 hIg53 hfg53 => ⟨_, rfl, ?_⟩))
            show mm_W d mmX4_readPart 72 [some (.ref 81), some (.ref q1), some (.int (Int32.ofInt v1)), none] [] (mz_mk g53 x) Q
            refine mz_gt (tgt := 195) rfl rfl ?_
            refine mm_g 1 (pc1 := 196) (lo1 := [some (.ref 81), some (.ref q1), some (.int (Int32.ofInt v1)), none]) (st1 := [.ref 81]) (H1 := mz_mk g53 x) rfl ?_
            refine mz_fgR (v := 82) rfl fd_4_12 (by decide) (sc_81 _) (rf_81_0 _ _ _) ?_
            refine mz_cv rfl mt_4_99 (by decide) (sc_82 _) rfl (Nat.le_of_ble_eq_true rfl) (by omega) (c_X7_step (by omega) hx hIg53 (fun g54 hIg54 hfg54 => ⟨_, rfl, ?_⟩))
            show mm_W d mmX4_readPart 202 [some (.ref 81), some (.ref q1), some (.int (Int32.ofInt v1)), none] [] (mz_mk g54 x) Q
            refine mm_g 1 (pc1 := 203) (lo1 := [some (.ref 81), some (.ref q1), some (.int (Int32.ofInt v1)), none]) (st1 := [.int (Int32.ofInt 1)]) (H1 := mz_mk g54 x) rfl ?_
            exact mz_rtZ rfl (by decide) (by omega) (hQ _ _ hIg54 (fun k j hk => ((hfg54 k j (fun h => hk (Or.elim h (fun h => (Or.inr (Or.inr (Or.inr (Or.inl h))))) (fun h => (Or.elim h (fun h => (Or.inr (Or.inr (Or.inr (Or.inr (Or.inl h)))))) (fun h => (Or.elim h (fun h => (Or.inr (Or.inr (Or.inr (Or.inr (Or.inr (Or.inl h))))))) (fun h => (Or.inr (Or.inr (Or.inr (Or.inr (Or.inr (Or.inr (Or.inl h))))))))))))))).trans ((hfg53 k j (fun h => hk (Or.elim h (fun h => (Or.inr (Or.inr (Or.inr (Or.inr (Or.inr (Or.inr (Or.inr (Or.inr (Or.inr (Or.inr (Or.inr (Or.inr (Or.inr h)))))))))))))) (fun h => (Or.inr (Or.inr (Or.inr (Or.inr (Or.inr (Or.inr (Or.inr (Or.inr (Or.inr (Or.inl h)))))))))))))).trans ((hug52.2 k j (fun h => hk (Or.inr (Or.inr (Or.inr (Or.inr (Or.inr (Or.inr (Or.inr (Or.inr (Or.inr (Or.inr (Or.inr (Or.inr (Or.inl h))))))))))))))).trans (hfg51 k j (fun h => hk (Or.elim h (fun h => (Or.inr (Or.inr (Or.inr (Or.inr (Or.inr (Or.inr (Or.inr (Or.inr (Or.inr (Or.inr (Or.inl h)))))))))))) (fun h => (Or.inr (Or.inr (Or.inr (Or.inr (Or.inr (Or.inr (Or.inr (Or.inr (Or.inr (Or.inr (Or.inr (Or.inl h)))))))))))))))))))) (by decide) (by decide))
        · skip
          refine mm_g 2 (pc1 := 41) (lo1 := [some (.ref 81), some (.ref q1), some (.int (Int32.ofInt v1)), none]) (st1 := [.int (Int32.ofInt 2), .ref 81]) (H1 := mz_mk g x) rfl ?_
          refine mz_cv rfl mt_4_95 (by decide) (sc_81 _) rfl (Nat.le_of_ble_eq_true rfl) (by omega) (c_X4_blame (by omega) hx hI (by decide) (by decide) (fun v55 g56 hIg56 hfg56 l_v55 u_v55 => ⟨_, rfl, ?_⟩))
          show mm_W d mmX4_readPart 44 [some (.ref 81), some (.ref q1), some (.int (Int32.ofInt v1)), none] [.int (Int32.ofInt v55)] (mz_mk g56 x) Q
          exact mz_rtZ rfl (by decide) (by omega) (hQ _ _ hIg56 (fun k j hk => (hfg56 k j (fun h => hk (Or.elim h (fun h => (Or.inr (Or.inr (Or.inr (Or.inr (Or.inr (Or.inr (Or.inr (Or.inl h))))))))) (fun h => (Or.inr (Or.inr (Or.inr (Or.inr (Or.inr (Or.inr (Or.inr (Or.inr (Or.inl h)))))))))))))) (by omega) (by omega))
      · skip
        refine mm_g 2 (pc1 := 26) (lo1 := [some (.ref 81), some (.ref q1), some (.int (Int32.ofInt v1)), none]) (st1 := [.int (Int32.ofInt 1), .ref 81]) (H1 := mz_mk g x) rfl ?_
        refine mz_cv rfl mt_4_95 (by decide) (sc_81 _) rfl (Nat.le_of_ble_eq_true rfl) (by omega) (c_X4_blame (by omega) hx hI (by decide) (by decide) (fun v57 g58 hIg58 hfg58 l_v57 u_v57 => ⟨_, rfl, ?_⟩))
        show mm_W d mmX4_readPart 29 [some (.ref 81), some (.ref q1), some (.int (Int32.ofInt v1)), none] [.int (Int32.ofInt v57)] (mz_mk g58 x) Q
        exact mz_rtZ rfl (by decide) (by omega) (hQ _ _ hIg58 (fun k j hk => (hfg58 k j (fun h => hk (Or.elim h (fun h => (Or.inr (Or.inr (Or.inr (Or.inr (Or.inr (Or.inr (Or.inr (Or.inl h))))))))) (fun h => (Or.inr (Or.inr (Or.inr (Or.inr (Or.inr (Or.inr (Or.inr (Or.inr (Or.inl h)))))))))))))) (by omega) (by omega))
theorem c_X4_lastOpen {d : Nat} (hd : 2 ≤ d) {x : mm_X} (hx : mk_x x) {g : mz_G} (hI : mz_inv g) {Q : (Option Value ⊕ Nat) → mm_H → Prop} (hQ : ∀ (r : Int), (-2147483648) ≤ r → r ≤ 2147483647 → Q (.inl (some (.int (Int32.ofInt r)))) (mz_mk g x)) : mm_C d 52 [.ref 81] (mz_mk g x) Q := by
  refine ⟨mmX4_lastOpen, [some (.ref 81)], rfl, rfl, ?_⟩
  refine mm_g 1 (pc1 := 1) (lo1 := [some (.ref 81)]) (st1 := [.ref 81]) (H1 := mz_mk g x) rfl ?_
  refine mz_fgR (v := 84) rfl fd_4_25 (by decide) (sc_81 _) (rf_81_3 _ _ _) ?_
  refine mm_g 1 (pc1 := 5) (lo1 := [some (.ref 81)]) (st1 := [.ref 81, .ref 84]) (H1 := mz_mk g x) rfl ?_
  refine mz_gI rfl fd_4_29 (by decide) (sc_81 _) hI bd_81_4 (fun v1 e_v1 l_v1 u_v1 => ?_)
  refine mm_g 1 (pc1 := 9) (lo1 := [some (.ref 81)]) (st1 := [.int (Int32.ofInt 1), .int (Int32.ofInt v1), .ref 84]) (H1 := mz_mk g x) rfl ?_
  refine mz_isub_w rfl (fun v2 _ hwv2 => ?_)
  have l_v2 := hwv2.1
  have u_v2 := hwv2.2
  refine mz_cs rfl mt_4_199 (by decide) rfl (Nat.le_of_ble_eq_true rfl) (by omega) (c_X11_at (by omega) hx hI (sh_84 _) (by decide) ba_84 (by omega) (by omega) l_v2 u_v2 (fun v3 l_v3 u_v3 => ⟨_, rfl, ?_⟩))
  show mm_W d mmX4_lastOpen 13 [some (.ref 81)] [.int (Int32.ofInt v3)] (mz_mk g x) Q
  exact mm_rt rfl rfl (hQ _ (by omega) (by omega))
theorem c_X4_rankOf {d : Nat} (hd : 1 ≤ d) {x : mm_X} (hx : mk_x x) {g : mz_G} (hI : mz_inv g) {a1 : Int} (l_a1 : (-2147483648) ≤ a1) (u_a1 : a1 ≤ 2147483647) {Q : (Option Value ⊕ Nat) → mm_H → Prop} (hQ : ∀ (r : Int), 0 ≤ r → r ≤ 6 → Q (.inl (some (.int (Int32.ofInt r)))) (mz_mk g x)) : mm_C d 56 [.int (Int32.ofInt a1)] (mz_mk g x) Q := by
  refine ⟨mmX4_rankOf, [some (.int (Int32.ofInt a1))], rfl, rfl, ?_⟩
  refine mm_g 1 (pc1 := 1) (lo1 := [some (.int (Int32.ofInt a1))]) (st1 := [.int (Int32.ofInt a1)]) (H1 := mz_mk g x) rfl ?_
  by_cases c1_0 : a1 = (-19)
  · refine mz_tsi (tgt := 62) rfl (mz_rg l_a1 u_a1) (by omega) (by omega) (by rw [c1_0]; rfl) rfl ?_
    refine mz_bip rfl bip_6 ?_
    exact mm_rt rfl rfl (hQ _ (by decide) (by decide))
  by_cases c1_1 : a1 = (-18)
  · refine mz_tsi (tgt := 62) rfl (mz_rg l_a1 u_a1) (by omega) (by omega) (by rw [c1_1]; rfl) rfl ?_
    refine mz_bip rfl bip_6 ?_
    exact mm_rt rfl rfl (hQ _ (by decide) (by decide))
  by_cases c1_2 : a1 = (-17)
  · refine mz_tsi (tgt := 60) rfl (mz_rg l_a1 u_a1) (by omega) (by omega) (by rw [c1_2]; rfl) rfl ?_
    refine mm_g 1 (pc1 := 61) (lo1 := [some (.int (Int32.ofInt a1))]) (st1 := [.int (Int32.ofInt 5)]) (H1 := mz_mk g x) rfl ?_
    exact mm_rt rfl rfl (hQ _ (by decide) (by decide))
  by_cases c1_3 : a1 = (-16)
  · refine mz_tsi (tgt := 60) rfl (mz_rg l_a1 u_a1) (by omega) (by omega) (by rw [c1_3]; rfl) rfl ?_
    refine mm_g 1 (pc1 := 61) (lo1 := [some (.int (Int32.ofInt a1))]) (st1 := [.int (Int32.ofInt 5)]) (H1 := mz_mk g x) rfl ?_
    exact mm_rt rfl rfl (hQ _ (by decide) (by decide))
  by_cases c1_4 : a1 = (-15)
  · refine mz_tsi (tgt := 58) rfl (mz_rg l_a1 u_a1) (by omega) (by omega) (by rw [c1_4]; rfl) rfl ?_
    refine mm_g 1 (pc1 := 59) (lo1 := [some (.int (Int32.ofInt a1))]) (st1 := [.int (Int32.ofInt 4)]) (H1 := mz_mk g x) rfl ?_
    exact mm_rt rfl rfl (hQ _ (by decide) (by decide))
  by_cases c1_5 : a1 = (-14)
  · refine mz_tsi (tgt := 58) rfl (mz_rg l_a1 u_a1) (by omega) (by omega) (by rw [c1_5]; rfl) rfl ?_
    refine mm_g 1 (pc1 := 59) (lo1 := [some (.int (Int32.ofInt a1))]) (st1 := [.int (Int32.ofInt 4)]) (H1 := mz_mk g x) rfl ?_
    exact mm_rt rfl rfl (hQ _ (by decide) (by decide))
  by_cases c1_6 : a1 = (-13)
  · refine mz_tsi (tgt := 56) rfl (mz_rg l_a1 u_a1) (by omega) (by omega) (by rw [c1_6]; rfl) rfl ?_
    refine mm_g 1 (pc1 := 57) (lo1 := [some (.int (Int32.ofInt a1))]) (st1 := [.int (Int32.ofInt 3)]) (H1 := mz_mk g x) rfl ?_
    exact mm_rt rfl rfl (hQ _ (by decide) (by decide))
  by_cases c1_7 : a1 = (-12)
  · refine mz_tsi (tgt := 54) rfl (mz_rg l_a1 u_a1) (by omega) (by omega) (by rw [c1_7]; rfl) rfl ?_
    refine mm_g 1 (pc1 := 55) (lo1 := [some (.int (Int32.ofInt a1))]) (st1 := [.int (Int32.ofInt 2)]) (H1 := mz_mk g x) rfl ?_
    exact mm_rt rfl rfl (hQ _ (by decide) (by decide))
  by_cases c1_8 : a1 = (-11)
  · refine mz_tsi (tgt := 52) rfl (mz_rg l_a1 u_a1) (by omega) (by omega) (by rw [c1_8]; rfl) rfl ?_
    refine mm_g 1 (pc1 := 53) (lo1 := [some (.int (Int32.ofInt a1))]) (st1 := [.int (Int32.ofInt 1)]) (H1 := mz_mk g x) rfl ?_
    exact mm_rt rfl rfl (hQ _ (by decide) (by decide))
  refine mz_tso (tgt := 65) rfl (mz_rg l_a1 u_a1) (by omega) rfl ?_
  refine mm_g 1 (pc1 := 66) (lo1 := [some (.int (Int32.ofInt a1))]) (st1 := [.int (Int32.ofInt 0)]) (H1 := mz_mk g x) rfl ?_
  exact mm_rt rfl rfl (hQ _ (by decide) (by decide))
def fl_X4_closeSigns_0 (x : mm_X) (q1 : Nat) (a2 : Int) : Nat → Nat → Prop := fun k j => k = (q1 + 1) ∨ k = q1 ∨ (k = 81 ∧ j = 4)
def fw_X4_closeSigns (x : mm_X) (q1 : Nat) (a2 : Int) : Nat → Nat → Prop := fun k j => k = (q1 + 1) ∨ k = q1 ∨ (k = 81 ∧ j = 4)
theorem c_X4_closeSigns {d : Nat} (hd : 3 ≤ d) {x : mm_X} (hx : mk_x x) {g : mz_G} (hI : mz_inv g) {q1 : Nat} (h_q1 : kd_rule q1) {a2 : Int} (l_a2 : (-2147483648) ≤ a2) (u_a2 : a2 ≤ 2147483647) {Q : (Option Value ⊕ Nat) → mm_H → Prop} (hQ : ∀ (g1 : mz_G), mz_inv g1 → mz_fr (fw_X4_closeSigns x q1 a2) g g1 → Q (.inl none) (mz_mk g1 x)) : mm_C d 53 [.ref 81, .ref q1, .int (Int32.ofInt a2)] (mz_mk g x) Q := by
  have kn_q1 := kn_rule h_q1
  refine ⟨mmX4_closeSigns, [some (.ref 81), some (.ref q1), some (.int (Int32.ofInt a2))], rfl, rfl, ?_⟩
  have L4 : ∀ n3 : Nat, ∀ (g1 : mz_G), (g1 81 4).toNat = n3 → mz_inv g1 → mz_fr (fl_X4_closeSigns_0 x q1 a2) g g1 → mm_W d mmX4_closeSigns 0 [some (.ref 81), some (.ref q1), some (.int (Int32.ofInt a2))] [] (mz_mk g1 x) Q := by
    intro n3
    induction n3 using Nat.strongRecOn with
    | ind n3 ih2 =>
    intro g1 hmn3 hIg1 hfg1
    refine mm_g 1 (pc1 := 1) (lo1 := [some (.ref 81), some (.ref q1), some (.int (Int32.ofInt a2))]) (st1 := [.ref 81]) (H1 := mz_mk g1 x) rfl ?_
    refine mz_gI rfl fd_4_29 (by decide) (sc_81 _) hIg1 bd_81_4 (fun v5 e_v5 l_v5 u_v5 => ?_)
    refine mz_if_le (tgt := 39) rfl rfl (mz_rg l_v5 u_v5) (fun c4_5 => ?_) (fun c4_5 => ?_)
    · skip
      exact mm_rt rfl rfl (hQ _ hIg1 (fun k j hk => (hfg1 k j (fun h => hk (Or.elim h (fun h => (Or.inl h)) (fun h => (Or.elim h (fun h => (Or.inr (Or.inl h))) (fun h => (Or.inr (Or.inr h))))))))))
    · skip
      refine mm_g 1 (pc1 := 8) (lo1 := [some (.ref 81), some (.ref q1), some (.int (Int32.ofInt a2))]) (st1 := [.ref 81]) (H1 := mz_mk g1 x) rfl ?_
      refine mz_cv rfl mt_4_192 (by decide) (sc_81 _) rfl (Nat.le_of_ble_eq_true rfl) (by omega) (c_X4_lastOpen (by omega) hx hIg1 (fun v6 l_v6 u_v6 => ⟨_, rfl, ?_⟩))
      show mm_W d mmX4_closeSigns 11 [some (.ref 81), some (.ref q1), some (.int (Int32.ofInt a2))] [.int (Int32.ofInt v6)] (mz_mk g1 x) Q
      refine mz_cs rfl mt_4_188 (by decide) rfl (Nat.le_of_ble_eq_true rfl) (by omega) (c_X4_rankOf (by omega) hx hIg1 l_v6 u_v6 (fun v7 l_v7 u_v7 => ⟨_, rfl, ?_⟩))
      show mm_W d mmX4_closeSigns 14 [some (.ref 81), some (.ref q1), some (.int (Int32.ofInt a2))] [.int (Int32.ofInt v7)] (mz_mk g1 x) Q
      refine mm_g 1 (pc1 := 15) (lo1 := [some (.ref 81), some (.ref q1), some (.int (Int32.ofInt a2))]) (st1 := [.int (Int32.ofInt a2), .int (Int32.ofInt v7)]) (H1 := mz_mk g1 x) rfl ?_
      refine mz_ic_lt (tgt := 39) rfl rfl (mz_rg l_v7 u_v7) (mz_rg l_a2 u_a2) (fun c15_7 => ?_) (fun c15_7 => ?_)
      · skip
        exact mm_rt rfl rfl (hQ _ hIg1 (fun k j hk => (hfg1 k j (fun h => hk (Or.elim h (fun h => (Or.inl h)) (fun h => (Or.elim h (fun h => (Or.inr (Or.inl h))) (fun h => (Or.inr (Or.inr h))))))))))
      · skip
        refine mm_g 2 (pc1 := 20) (lo1 := [some (.ref 81), some (.ref q1), some (.int (Int32.ofInt a2))]) (st1 := [.ref 81, .ref q1]) (H1 := mz_mk g1 x) rfl ?_
        refine mz_cv rfl mt_4_192 (by decide) (sc_81 _) rfl (Nat.le_of_ble_eq_true rfl) (by omega) (c_X4_lastOpen (by omega) hx hIg1 (fun v8 l_v8 u_v8 => ⟨_, rfl, ?_⟩))
        show mm_W d mmX4_closeSigns 23 [some (.ref 81), some (.ref q1), some (.int (Int32.ofInt a2))] [.int (Int32.ofInt v8), .ref q1] (mz_mk g1 x) Q
        refine mz_cv rfl mt_4_182 (by decide) (kc_rule h_q1 _) rfl (Nat.le_of_ble_eq_true rfl) (by omega) (c_X5_addStep (by omega) hx hIg1 h_q1 l_v8 u_v8 (fun g9 hIg9 hfg9 => ⟨_, rfl, ?_⟩))
        show mm_W d mmX4_closeSigns 26 [some (.ref 81), some (.ref q1), some (.int (Int32.ofInt a2))] [] (mz_mk g9 x) Q
        refine mm_g 2 (pc1 := 28) (lo1 := [some (.ref 81), some (.ref q1), some (.int (Int32.ofInt a2))]) (st1 := [.ref 81, .ref 81]) (H1 := mz_mk g9 x) rfl ?_
        refine mz_fgI (v := v5) rfl fd_4_29 (by decide) (sc_81 _) (show g9 81 4 = v5 from ((hfg9 81 4 (fun h => (Or.elim h (fun h => (by have h9 : 81 = (q1 + 1) := h; omega)) (fun h => (by have h9 : 81 = q1 := h; omega))))).trans e_v5)) ?_
        refine mm_g 1 (pc1 := 32) (lo1 := [some (.ref 81), some (.ref q1), some (.int (Int32.ofInt a2))]) (st1 := [.int (Int32.ofInt 1), .int (Int32.ofInt v5), .ref 81]) (H1 := mz_mk g9 x) rfl ?_
        refine mz_isub rfl ?_
        refine mz_pI rfl fd_4_29 (sc_81 _) hIg9 bd_81_4 (by omega) (by omega) (fun g10 hIg10 hug10 => ?_)
        refine mz_gt (tgt := 0) rfl rfl ?_
        exact ih2 ((g10 81 4).toNat) (by have hz := (show g10 81 4 = (v5 - 1) from hug10.1); omega) g10 rfl hIg10 (fun k j hk => ((hug10.2 k j (fun h => hk (Or.inr (Or.inr h)))).trans ((hfg9 k j (fun h => hk (Or.elim h (fun h => (Or.inl h)) (fun h => (Or.inr (Or.inl h)))))).trans (hfg1 k j (fun h => hk (Or.elim h (fun h => (Or.inl h)) (fun h => (Or.elim h (fun h => (Or.inr (Or.inl h))) (fun h => (Or.inr (Or.inr h)))))))))))
  exact L4 _ g rfl hI (fun _ _ _ => rfl)
theorem c_X4_signOfToken {d : Nat} (hd : 6 ≤ d) {x : mm_X} (hx : mk_x x) {g : mz_G} (hI : mz_inv g) {Q : (Option Value ⊕ Nat) → mm_H → Prop} (hQ : ∀ (r : Int), (-19) ≤ r → r ≤ 0 → Q (.inl (some (.int (Int32.ofInt r)))) (mz_mk g x)) : mm_C d 55 [.ref 81] (mz_mk g x) Q := by
  refine ⟨mmX4_signOfToken, [some (.ref 81)], rfl, rfl, ?_⟩
  refine mm_g 1 (pc1 := 1) (lo1 := [some (.ref 81)]) (st1 := [.ref 81]) (H1 := mz_mk g x) rfl ?_
  refine mz_fgR (v := 82) rfl fd_4_12 (by decide) (sc_81 _) (rf_81_0 _ _ _) ?_
  refine mz_cv rfl mt_4_48 (by decide) (sc_82 _) rfl (Nat.le_of_ble_eq_true rfl) (by omega) (c_X7_kind (by omega) hx hI (fun v1 l_v1 u_v1 => ⟨_, rfl, ?_⟩))
  show mm_W d mmX4_signOfToken 7 [some (.ref 81)] [.int (Int32.ofInt v1)] (mz_mk g x) Q
  by_cases c7_0 : v1 = 42
  · refine mz_tsi (tgt := 112) rfl (mz_rg l_v1 u_v1) (by omega) (by omega) (by rw [c7_0]; rfl) rfl ?_
    refine mz_bip rfl bip_m18 ?_
    exact mm_rt rfl rfl (hQ _ (by decide) (by decide))
  by_cases c7_1 : v1 = 43
  · refine mz_tsi (tgt := 106) rfl (mz_rg l_v1 u_v1) (by omega) (by omega) (by rw [c7_1]; rfl) rfl ?_
    refine mz_bip rfl bip_m16 ?_
    exact mm_rt rfl rfl (hQ _ (by decide) (by decide))
  by_cases c7_2 : v1 = 44
  · refine mz_tsi (tgt := 118) rfl (mz_rg l_v1 u_v1) (by omega) (by omega) (by rw [c7_2]; rfl) rfl ?_
    refine mm_g 1 (pc1 := 119) (lo1 := [some (.ref 81)]) (st1 := [.ref 81]) (H1 := mz_mk g x) rfl ?_
    refine mz_fgR (v := 82) rfl fd_4_12 (by decide) (sc_81 _) (rf_81_0 _ _ _) ?_
    refine mz_ldcS (j := 12) rfl rfl rfl ?_
    refine mz_cv rfl mt_4_57 (by decide) (sc_82 _) rfl (Nat.le_of_ble_eq_true rfl) (by omega) (c_X7_spells (by omega) hx hI (by decide) (fun v2 l_v2 u_v2 => ⟨_, rfl, ?_⟩))
    show mm_W d mmX4_signOfToken 127 [some (.ref 81)] [.int (Int32.ofInt v2)] (mz_mk g x) Q
    refine mz_if_eq (tgt := 135) rfl rfl (mz_rg l_v2 u_v2) (fun c127_2 => ?_) (fun c127_2 => ?_)
    · skip
      refine mm_g 1 (pc1 := 136) (lo1 := [some (.ref 81)]) (st1 := [.ref 81]) (H1 := mz_mk g x) rfl ?_
      refine mz_fgR (v := 82) rfl fd_4_12 (by decide) (sc_81 _) (rf_81_0 _ _ _) ?_
      refine mz_ldcS (j := 13) rfl rfl rfl ?_
      refine mz_cv rfl mt_4_57 (by decide) (sc_82 _) rfl (Nat.le_of_ble_eq_true rfl) (by omega) (c_X7_spells (by omega) hx hI (by decide) (fun v3 l_v3 u_v3 => ⟨_, rfl, ?_⟩))
      show mm_W d mmX4_signOfToken 144 [some (.ref 81)] [.int (Int32.ofInt v3)] (mz_mk g x) Q
      refine mz_if_eq (tgt := 152) rfl rfl (mz_rg l_v3 u_v3) (fun c144_3 => ?_) (fun c144_3 => ?_)
      · skip
        refine mm_g 1 (pc1 := 153) (lo1 := [some (.ref 81)]) (st1 := [.int (Int32.ofInt 0)]) (H1 := mz_mk g x) rfl ?_
        exact mm_rt rfl rfl (hQ _ (by decide) (by decide))
      · skip
        refine mz_bip rfl bip_m12 ?_
        refine mz_gt (tgt := 153) rfl rfl ?_
        exact mm_rt rfl rfl (hQ _ (by decide) (by decide))
    · skip
      refine mz_bip rfl bip_m11 ?_
      refine mz_gt (tgt := 153) rfl rfl ?_
      exact mm_rt rfl rfl (hQ _ (by decide) (by decide))
  by_cases c7_3 : v1 = 45
  · refine mz_tsi (tgt := 109) rfl (mz_rg l_v1 u_v1) (by omega) (by omega) (by rw [c7_3]; rfl) rfl ?_
    refine mz_bip rfl bip_m17 ?_
    exact mm_rt rfl rfl (hQ _ (by decide) (by decide))
  by_cases c7_4 : v1 = 46
  · refine mz_tsi (tgt := 118) rfl (mz_rg l_v1 u_v1) (by omega) (by omega) (by rw [c7_4]; rfl) rfl ?_
    refine mm_g 1 (pc1 := 119) (lo1 := [some (.ref 81)]) (st1 := [.ref 81]) (H1 := mz_mk g x) rfl ?_
    refine mz_fgR (v := 82) rfl fd_4_12 (by decide) (sc_81 _) (rf_81_0 _ _ _) ?_
    refine mz_ldcS (j := 12) rfl rfl rfl ?_
    refine mz_cv rfl mt_4_57 (by decide) (sc_82 _) rfl (Nat.le_of_ble_eq_true rfl) (by omega) (c_X7_spells (by omega) hx hI (by decide) (fun v4 l_v4 u_v4 => ⟨_, rfl, ?_⟩))
    show mm_W d mmX4_signOfToken 127 [some (.ref 81)] [.int (Int32.ofInt v4)] (mz_mk g x) Q
    refine mz_if_eq (tgt := 135) rfl rfl (mz_rg l_v4 u_v4) (fun c127_4 => ?_) (fun c127_4 => ?_)
    · skip
      refine mm_g 1 (pc1 := 136) (lo1 := [some (.ref 81)]) (st1 := [.ref 81]) (H1 := mz_mk g x) rfl ?_
      refine mz_fgR (v := 82) rfl fd_4_12 (by decide) (sc_81 _) (rf_81_0 _ _ _) ?_
      refine mz_ldcS (j := 13) rfl rfl rfl ?_
      refine mz_cv rfl mt_4_57 (by decide) (sc_82 _) rfl (Nat.le_of_ble_eq_true rfl) (by omega) (c_X7_spells (by omega) hx hI (by decide) (fun v5 l_v5 u_v5 => ⟨_, rfl, ?_⟩))
      show mm_W d mmX4_signOfToken 144 [some (.ref 81)] [.int (Int32.ofInt v5)] (mz_mk g x) Q
      refine mz_if_eq (tgt := 152) rfl rfl (mz_rg l_v5 u_v5) (fun c144_5 => ?_) (fun c144_5 => ?_)
      · skip
        refine mm_g 1 (pc1 := 153) (lo1 := [some (.ref 81)]) (st1 := [.int (Int32.ofInt 0)]) (H1 := mz_mk g x) rfl ?_
        exact mm_rt rfl rfl (hQ _ (by decide) (by decide))
      · skip
        refine mz_bip rfl bip_m12 ?_
        refine mz_gt (tgt := 153) rfl rfl ?_
        exact mm_rt rfl rfl (hQ _ (by decide) (by decide))
    · skip
      refine mz_bip rfl bip_m11 ?_
      refine mz_gt (tgt := 153) rfl rfl ?_
      exact mm_rt rfl rfl (hQ _ (by decide) (by decide))
  by_cases c7_5 : v1 = 47
  · refine mz_tsi (tgt := 115) rfl (mz_rg l_v1 u_v1) (by omega) (by omega) (by rw [c7_5]; rfl) rfl ?_
    refine mz_bip rfl bip_m19 ?_
    exact mm_rt rfl rfl (hQ _ (by decide) (by decide))
  by_cases c7_6 : v1 = 48
  · refine mz_tsi (tgt := 118) rfl (mz_rg l_v1 u_v1) (by omega) (by omega) (by rw [c7_6]; rfl) rfl ?_
    refine mm_g 1 (pc1 := 119) (lo1 := [some (.ref 81)]) (st1 := [.ref 81]) (H1 := mz_mk g x) rfl ?_
    refine mz_fgR (v := 82) rfl fd_4_12 (by decide) (sc_81 _) (rf_81_0 _ _ _) ?_
    refine mz_ldcS (j := 12) rfl rfl rfl ?_
    refine mz_cv rfl mt_4_57 (by decide) (sc_82 _) rfl (Nat.le_of_ble_eq_true rfl) (by omega) (c_X7_spells (by omega) hx hI (by decide) (fun v6 l_v6 u_v6 => ⟨_, rfl, ?_⟩))
    show mm_W d mmX4_signOfToken 127 [some (.ref 81)] [.int (Int32.ofInt v6)] (mz_mk g x) Q
    refine mz_if_eq (tgt := 135) rfl rfl (mz_rg l_v6 u_v6) (fun c127_6 => ?_) (fun c127_6 => ?_)
    · skip
      refine mm_g 1 (pc1 := 136) (lo1 := [some (.ref 81)]) (st1 := [.ref 81]) (H1 := mz_mk g x) rfl ?_
      refine mz_fgR (v := 82) rfl fd_4_12 (by decide) (sc_81 _) (rf_81_0 _ _ _) ?_
      refine mz_ldcS (j := 13) rfl rfl rfl ?_
      refine mz_cv rfl mt_4_57 (by decide) (sc_82 _) rfl (Nat.le_of_ble_eq_true rfl) (by omega) (c_X7_spells (by omega) hx hI (by decide) (fun v7 l_v7 u_v7 => ⟨_, rfl, ?_⟩))
      show mm_W d mmX4_signOfToken 144 [some (.ref 81)] [.int (Int32.ofInt v7)] (mz_mk g x) Q
      refine mz_if_eq (tgt := 152) rfl rfl (mz_rg l_v7 u_v7) (fun c144_7 => ?_) (fun c144_7 => ?_)
      · skip
        refine mm_g 1 (pc1 := 153) (lo1 := [some (.ref 81)]) (st1 := [.int (Int32.ofInt 0)]) (H1 := mz_mk g x) rfl ?_
        exact mm_rt rfl rfl (hQ _ (by decide) (by decide))
      · skip
        refine mz_bip rfl bip_m12 ?_
        refine mz_gt (tgt := 153) rfl rfl ?_
        exact mm_rt rfl rfl (hQ _ (by decide) (by decide))
    · skip
      refine mz_bip rfl bip_m11 ?_
      refine mz_gt (tgt := 153) rfl rfl ?_
      exact mm_rt rfl rfl (hQ _ (by decide) (by decide))
  by_cases c7_7 : v1 = 49
  · refine mz_tsi (tgt := 118) rfl (mz_rg l_v1 u_v1) (by omega) (by omega) (by rw [c7_7]; rfl) rfl ?_
    refine mm_g 1 (pc1 := 119) (lo1 := [some (.ref 81)]) (st1 := [.ref 81]) (H1 := mz_mk g x) rfl ?_
    refine mz_fgR (v := 82) rfl fd_4_12 (by decide) (sc_81 _) (rf_81_0 _ _ _) ?_
    refine mz_ldcS (j := 12) rfl rfl rfl ?_
    refine mz_cv rfl mt_4_57 (by decide) (sc_82 _) rfl (Nat.le_of_ble_eq_true rfl) (by omega) (c_X7_spells (by omega) hx hI (by decide) (fun v8 l_v8 u_v8 => ⟨_, rfl, ?_⟩))
    show mm_W d mmX4_signOfToken 127 [some (.ref 81)] [.int (Int32.ofInt v8)] (mz_mk g x) Q
    refine mz_if_eq (tgt := 135) rfl rfl (mz_rg l_v8 u_v8) (fun c127_8 => ?_) (fun c127_8 => ?_)
    · skip
      refine mm_g 1 (pc1 := 136) (lo1 := [some (.ref 81)]) (st1 := [.ref 81]) (H1 := mz_mk g x) rfl ?_
      refine mz_fgR (v := 82) rfl fd_4_12 (by decide) (sc_81 _) (rf_81_0 _ _ _) ?_
      refine mz_ldcS (j := 13) rfl rfl rfl ?_
      refine mz_cv rfl mt_4_57 (by decide) (sc_82 _) rfl (Nat.le_of_ble_eq_true rfl) (by omega) (c_X7_spells (by omega) hx hI (by decide) (fun v9 l_v9 u_v9 => ⟨_, rfl, ?_⟩))
      show mm_W d mmX4_signOfToken 144 [some (.ref 81)] [.int (Int32.ofInt v9)] (mz_mk g x) Q
      refine mz_if_eq (tgt := 152) rfl rfl (mz_rg l_v9 u_v9) (fun c144_9 => ?_) (fun c144_9 => ?_)
      · skip
        refine mm_g 1 (pc1 := 153) (lo1 := [some (.ref 81)]) (st1 := [.int (Int32.ofInt 0)]) (H1 := mz_mk g x) rfl ?_
        exact mm_rt rfl rfl (hQ _ (by decide) (by decide))
      · skip
        refine mz_bip rfl bip_m12 ?_
        refine mz_gt (tgt := 153) rfl rfl ?_
        exact mm_rt rfl rfl (hQ _ (by decide) (by decide))
    · skip
      refine mz_bip rfl bip_m11 ?_
      refine mz_gt (tgt := 153) rfl rfl ?_
      exact mm_rt rfl rfl (hQ _ (by decide) (by decide))
  by_cases c7_8 : v1 = 50
  · refine mz_tsi (tgt := 118) rfl (mz_rg l_v1 u_v1) (by omega) (by omega) (by rw [c7_8]; rfl) rfl ?_
    refine mm_g 1 (pc1 := 119) (lo1 := [some (.ref 81)]) (st1 := [.ref 81]) (H1 := mz_mk g x) rfl ?_
    refine mz_fgR (v := 82) rfl fd_4_12 (by decide) (sc_81 _) (rf_81_0 _ _ _) ?_
    refine mz_ldcS (j := 12) rfl rfl rfl ?_
    refine mz_cv rfl mt_4_57 (by decide) (sc_82 _) rfl (Nat.le_of_ble_eq_true rfl) (by omega) (c_X7_spells (by omega) hx hI (by decide) (fun v10 l_v10 u_v10 => ⟨_, rfl, ?_⟩))
    show mm_W d mmX4_signOfToken 127 [some (.ref 81)] [.int (Int32.ofInt v10)] (mz_mk g x) Q
    refine mz_if_eq (tgt := 135) rfl rfl (mz_rg l_v10 u_v10) (fun c127_10 => ?_) (fun c127_10 => ?_)
    · skip
      refine mm_g 1 (pc1 := 136) (lo1 := [some (.ref 81)]) (st1 := [.ref 81]) (H1 := mz_mk g x) rfl ?_
      refine mz_fgR (v := 82) rfl fd_4_12 (by decide) (sc_81 _) (rf_81_0 _ _ _) ?_
      refine mz_ldcS (j := 13) rfl rfl rfl ?_
      refine mz_cv rfl mt_4_57 (by decide) (sc_82 _) rfl (Nat.le_of_ble_eq_true rfl) (by omega) (c_X7_spells (by omega) hx hI (by decide) (fun v11 l_v11 u_v11 => ⟨_, rfl, ?_⟩))
      show mm_W d mmX4_signOfToken 144 [some (.ref 81)] [.int (Int32.ofInt v11)] (mz_mk g x) Q
      refine mz_if_eq (tgt := 152) rfl rfl (mz_rg l_v11 u_v11) (fun c144_11 => ?_) (fun c144_11 => ?_)
      · skip
        refine mm_g 1 (pc1 := 153) (lo1 := [some (.ref 81)]) (st1 := [.int (Int32.ofInt 0)]) (H1 := mz_mk g x) rfl ?_
        exact mm_rt rfl rfl (hQ _ (by decide) (by decide))
      · skip
        refine mz_bip rfl bip_m12 ?_
        refine mz_gt (tgt := 153) rfl rfl ?_
        exact mm_rt rfl rfl (hQ _ (by decide) (by decide))
    · skip
      refine mz_bip rfl bip_m11 ?_
      refine mz_gt (tgt := 153) rfl rfl ?_
      exact mm_rt rfl rfl (hQ _ (by decide) (by decide))
  by_cases c7_9 : v1 = 51
  · refine mz_tsi (tgt := 118) rfl (mz_rg l_v1 u_v1) (by omega) (by omega) (by rw [c7_9]; rfl) rfl ?_
    refine mm_g 1 (pc1 := 119) (lo1 := [some (.ref 81)]) (st1 := [.ref 81]) (H1 := mz_mk g x) rfl ?_
    refine mz_fgR (v := 82) rfl fd_4_12 (by decide) (sc_81 _) (rf_81_0 _ _ _) ?_
    refine mz_ldcS (j := 12) rfl rfl rfl ?_
    refine mz_cv rfl mt_4_57 (by decide) (sc_82 _) rfl (Nat.le_of_ble_eq_true rfl) (by omega) (c_X7_spells (by omega) hx hI (by decide) (fun v12 l_v12 u_v12 => ⟨_, rfl, ?_⟩))
    show mm_W d mmX4_signOfToken 127 [some (.ref 81)] [.int (Int32.ofInt v12)] (mz_mk g x) Q
    refine mz_if_eq (tgt := 135) rfl rfl (mz_rg l_v12 u_v12) (fun c127_12 => ?_) (fun c127_12 => ?_)
    · skip
      refine mm_g 1 (pc1 := 136) (lo1 := [some (.ref 81)]) (st1 := [.ref 81]) (H1 := mz_mk g x) rfl ?_
      refine mz_fgR (v := 82) rfl fd_4_12 (by decide) (sc_81 _) (rf_81_0 _ _ _) ?_
      refine mz_ldcS (j := 13) rfl rfl rfl ?_
      refine mz_cv rfl mt_4_57 (by decide) (sc_82 _) rfl (Nat.le_of_ble_eq_true rfl) (by omega) (c_X7_spells (by omega) hx hI (by decide) (fun v13 l_v13 u_v13 => ⟨_, rfl, ?_⟩))
      show mm_W d mmX4_signOfToken 144 [some (.ref 81)] [.int (Int32.ofInt v13)] (mz_mk g x) Q
      refine mz_if_eq (tgt := 152) rfl rfl (mz_rg l_v13 u_v13) (fun c144_13 => ?_) (fun c144_13 => ?_)
      · skip
        refine mm_g 1 (pc1 := 153) (lo1 := [some (.ref 81)]) (st1 := [.int (Int32.ofInt 0)]) (H1 := mz_mk g x) rfl ?_
        exact mm_rt rfl rfl (hQ _ (by decide) (by decide))
      · skip
        refine mz_bip rfl bip_m12 ?_
        refine mz_gt (tgt := 153) rfl rfl ?_
        exact mm_rt rfl rfl (hQ _ (by decide) (by decide))
    · skip
      refine mz_bip rfl bip_m11 ?_
      refine mz_gt (tgt := 153) rfl rfl ?_
      exact mm_rt rfl rfl (hQ _ (by decide) (by decide))
  by_cases c7_10 : v1 = 52
  · refine mz_tsi (tgt := 118) rfl (mz_rg l_v1 u_v1) (by omega) (by omega) (by rw [c7_10]; rfl) rfl ?_
    refine mm_g 1 (pc1 := 119) (lo1 := [some (.ref 81)]) (st1 := [.ref 81]) (H1 := mz_mk g x) rfl ?_
    refine mz_fgR (v := 82) rfl fd_4_12 (by decide) (sc_81 _) (rf_81_0 _ _ _) ?_
    refine mz_ldcS (j := 12) rfl rfl rfl ?_
    refine mz_cv rfl mt_4_57 (by decide) (sc_82 _) rfl (Nat.le_of_ble_eq_true rfl) (by omega) (c_X7_spells (by omega) hx hI (by decide) (fun v14 l_v14 u_v14 => ⟨_, rfl, ?_⟩))
    show mm_W d mmX4_signOfToken 127 [some (.ref 81)] [.int (Int32.ofInt v14)] (mz_mk g x) Q
    refine mz_if_eq (tgt := 135) rfl rfl (mz_rg l_v14 u_v14) (fun c127_14 => ?_) (fun c127_14 => ?_)
    · skip
      refine mm_g 1 (pc1 := 136) (lo1 := [some (.ref 81)]) (st1 := [.ref 81]) (H1 := mz_mk g x) rfl ?_
      refine mz_fgR (v := 82) rfl fd_4_12 (by decide) (sc_81 _) (rf_81_0 _ _ _) ?_
      refine mz_ldcS (j := 13) rfl rfl rfl ?_
      refine mz_cv rfl mt_4_57 (by decide) (sc_82 _) rfl (Nat.le_of_ble_eq_true rfl) (by omega) (c_X7_spells (by omega) hx hI (by decide) (fun v15 l_v15 u_v15 => ⟨_, rfl, ?_⟩))
      show mm_W d mmX4_signOfToken 144 [some (.ref 81)] [.int (Int32.ofInt v15)] (mz_mk g x) Q
      refine mz_if_eq (tgt := 152) rfl rfl (mz_rg l_v15 u_v15) (fun c144_15 => ?_) (fun c144_15 => ?_)
      · skip
        refine mm_g 1 (pc1 := 153) (lo1 := [some (.ref 81)]) (st1 := [.int (Int32.ofInt 0)]) (H1 := mz_mk g x) rfl ?_
        exact mm_rt rfl rfl (hQ _ (by decide) (by decide))
      · skip
        refine mz_bip rfl bip_m12 ?_
        refine mz_gt (tgt := 153) rfl rfl ?_
        exact mm_rt rfl rfl (hQ _ (by decide) (by decide))
    · skip
      refine mz_bip rfl bip_m11 ?_
      refine mz_gt (tgt := 153) rfl rfl ?_
      exact mm_rt rfl rfl (hQ _ (by decide) (by decide))
  by_cases c7_11 : v1 = 53
  · refine mz_tsi (tgt := 118) rfl (mz_rg l_v1 u_v1) (by omega) (by omega) (by rw [c7_11]; rfl) rfl ?_
    refine mm_g 1 (pc1 := 119) (lo1 := [some (.ref 81)]) (st1 := [.ref 81]) (H1 := mz_mk g x) rfl ?_
    refine mz_fgR (v := 82) rfl fd_4_12 (by decide) (sc_81 _) (rf_81_0 _ _ _) ?_
    refine mz_ldcS (j := 12) rfl rfl rfl ?_
    refine mz_cv rfl mt_4_57 (by decide) (sc_82 _) rfl (Nat.le_of_ble_eq_true rfl) (by omega) (c_X7_spells (by omega) hx hI (by decide) (fun v16 l_v16 u_v16 => ⟨_, rfl, ?_⟩))
    show mm_W d mmX4_signOfToken 127 [some (.ref 81)] [.int (Int32.ofInt v16)] (mz_mk g x) Q
    refine mz_if_eq (tgt := 135) rfl rfl (mz_rg l_v16 u_v16) (fun c127_16 => ?_) (fun c127_16 => ?_)
    · skip
      refine mm_g 1 (pc1 := 136) (lo1 := [some (.ref 81)]) (st1 := [.ref 81]) (H1 := mz_mk g x) rfl ?_
      refine mz_fgR (v := 82) rfl fd_4_12 (by decide) (sc_81 _) (rf_81_0 _ _ _) ?_
      refine mz_ldcS (j := 13) rfl rfl rfl ?_
      refine mz_cv rfl mt_4_57 (by decide) (sc_82 _) rfl (Nat.le_of_ble_eq_true rfl) (by omega) (c_X7_spells (by omega) hx hI (by decide) (fun v17 l_v17 u_v17 => ⟨_, rfl, ?_⟩))
      show mm_W d mmX4_signOfToken 144 [some (.ref 81)] [.int (Int32.ofInt v17)] (mz_mk g x) Q
      refine mz_if_eq (tgt := 152) rfl rfl (mz_rg l_v17 u_v17) (fun c144_17 => ?_) (fun c144_17 => ?_)
      · skip
        refine mm_g 1 (pc1 := 153) (lo1 := [some (.ref 81)]) (st1 := [.int (Int32.ofInt 0)]) (H1 := mz_mk g x) rfl ?_
        exact mm_rt rfl rfl (hQ _ (by decide) (by decide))
      · skip
        refine mz_bip rfl bip_m12 ?_
        refine mz_gt (tgt := 153) rfl rfl ?_
        exact mm_rt rfl rfl (hQ _ (by decide) (by decide))
    · skip
      refine mz_bip rfl bip_m11 ?_
      refine mz_gt (tgt := 153) rfl rfl ?_
      exact mm_rt rfl rfl (hQ _ (by decide) (by decide))
  by_cases c7_12 : v1 = 54
  · refine mz_tsi (tgt := 118) rfl (mz_rg l_v1 u_v1) (by omega) (by omega) (by rw [c7_12]; rfl) rfl ?_
    refine mm_g 1 (pc1 := 119) (lo1 := [some (.ref 81)]) (st1 := [.ref 81]) (H1 := mz_mk g x) rfl ?_
    refine mz_fgR (v := 82) rfl fd_4_12 (by decide) (sc_81 _) (rf_81_0 _ _ _) ?_
    refine mz_ldcS (j := 12) rfl rfl rfl ?_
    refine mz_cv rfl mt_4_57 (by decide) (sc_82 _) rfl (Nat.le_of_ble_eq_true rfl) (by omega) (c_X7_spells (by omega) hx hI (by decide) (fun v18 l_v18 u_v18 => ⟨_, rfl, ?_⟩))
    show mm_W d mmX4_signOfToken 127 [some (.ref 81)] [.int (Int32.ofInt v18)] (mz_mk g x) Q
    refine mz_if_eq (tgt := 135) rfl rfl (mz_rg l_v18 u_v18) (fun c127_18 => ?_) (fun c127_18 => ?_)
    · skip
      refine mm_g 1 (pc1 := 136) (lo1 := [some (.ref 81)]) (st1 := [.ref 81]) (H1 := mz_mk g x) rfl ?_
      refine mz_fgR (v := 82) rfl fd_4_12 (by decide) (sc_81 _) (rf_81_0 _ _ _) ?_
      refine mz_ldcS (j := 13) rfl rfl rfl ?_
      refine mz_cv rfl mt_4_57 (by decide) (sc_82 _) rfl (Nat.le_of_ble_eq_true rfl) (by omega) (c_X7_spells (by omega) hx hI (by decide) (fun v19 l_v19 u_v19 => ⟨_, rfl, ?_⟩))
      show mm_W d mmX4_signOfToken 144 [some (.ref 81)] [.int (Int32.ofInt v19)] (mz_mk g x) Q
      refine mz_if_eq (tgt := 152) rfl rfl (mz_rg l_v19 u_v19) (fun c144_19 => ?_) (fun c144_19 => ?_)
      · skip
        refine mm_g 1 (pc1 := 153) (lo1 := [some (.ref 81)]) (st1 := [.int (Int32.ofInt 0)]) (H1 := mz_mk g x) rfl ?_
        exact mm_rt rfl rfl (hQ _ (by decide) (by decide))
      · skip
        refine mz_bip rfl bip_m12 ?_
        refine mz_gt (tgt := 153) rfl rfl ?_
        exact mm_rt rfl rfl (hQ _ (by decide) (by decide))
    · skip
      refine mz_bip rfl bip_m11 ?_
      refine mz_gt (tgt := 153) rfl rfl ?_
      exact mm_rt rfl rfl (hQ _ (by decide) (by decide))
  by_cases c7_13 : v1 = 55
  · refine mz_tsi (tgt := 118) rfl (mz_rg l_v1 u_v1) (by omega) (by omega) (by rw [c7_13]; rfl) rfl ?_
    refine mm_g 1 (pc1 := 119) (lo1 := [some (.ref 81)]) (st1 := [.ref 81]) (H1 := mz_mk g x) rfl ?_
    refine mz_fgR (v := 82) rfl fd_4_12 (by decide) (sc_81 _) (rf_81_0 _ _ _) ?_
    refine mz_ldcS (j := 12) rfl rfl rfl ?_
    refine mz_cv rfl mt_4_57 (by decide) (sc_82 _) rfl (Nat.le_of_ble_eq_true rfl) (by omega) (c_X7_spells (by omega) hx hI (by decide) (fun v20 l_v20 u_v20 => ⟨_, rfl, ?_⟩))
    show mm_W d mmX4_signOfToken 127 [some (.ref 81)] [.int (Int32.ofInt v20)] (mz_mk g x) Q
    refine mz_if_eq (tgt := 135) rfl rfl (mz_rg l_v20 u_v20) (fun c127_20 => ?_) (fun c127_20 => ?_)
    · skip
      refine mm_g 1 (pc1 := 136) (lo1 := [some (.ref 81)]) (st1 := [.ref 81]) (H1 := mz_mk g x) rfl ?_
      refine mz_fgR (v := 82) rfl fd_4_12 (by decide) (sc_81 _) (rf_81_0 _ _ _) ?_
      refine mz_ldcS (j := 13) rfl rfl rfl ?_
      refine mz_cv rfl mt_4_57 (by decide) (sc_82 _) rfl (Nat.le_of_ble_eq_true rfl) (by omega) (c_X7_spells (by omega) hx hI (by decide) (fun v21 l_v21 u_v21 => ⟨_, rfl, ?_⟩))
      show mm_W d mmX4_signOfToken 144 [some (.ref 81)] [.int (Int32.ofInt v21)] (mz_mk g x) Q
      refine mz_if_eq (tgt := 152) rfl rfl (mz_rg l_v21 u_v21) (fun c144_21 => ?_) (fun c144_21 => ?_)
      · skip
        refine mm_g 1 (pc1 := 153) (lo1 := [some (.ref 81)]) (st1 := [.int (Int32.ofInt 0)]) (H1 := mz_mk g x) rfl ?_
        exact mm_rt rfl rfl (hQ _ (by decide) (by decide))
      · skip
        refine mz_bip rfl bip_m12 ?_
        refine mz_gt (tgt := 153) rfl rfl ?_
        exact mm_rt rfl rfl (hQ _ (by decide) (by decide))
    · skip
      refine mz_bip rfl bip_m11 ?_
      refine mz_gt (tgt := 153) rfl rfl ?_
      exact mm_rt rfl rfl (hQ _ (by decide) (by decide))
  by_cases c7_14 : v1 = 56
  · refine mz_tsi (tgt := 118) rfl (mz_rg l_v1 u_v1) (by omega) (by omega) (by rw [c7_14]; rfl) rfl ?_
    refine mm_g 1 (pc1 := 119) (lo1 := [some (.ref 81)]) (st1 := [.ref 81]) (H1 := mz_mk g x) rfl ?_
    refine mz_fgR (v := 82) rfl fd_4_12 (by decide) (sc_81 _) (rf_81_0 _ _ _) ?_
    refine mz_ldcS (j := 12) rfl rfl rfl ?_
    refine mz_cv rfl mt_4_57 (by decide) (sc_82 _) rfl (Nat.le_of_ble_eq_true rfl) (by omega) (c_X7_spells (by omega) hx hI (by decide) (fun v22 l_v22 u_v22 => ⟨_, rfl, ?_⟩))
    show mm_W d mmX4_signOfToken 127 [some (.ref 81)] [.int (Int32.ofInt v22)] (mz_mk g x) Q
    refine mz_if_eq (tgt := 135) rfl rfl (mz_rg l_v22 u_v22) (fun c127_22 => ?_) (fun c127_22 => ?_)
    · skip
      refine mm_g 1 (pc1 := 136) (lo1 := [some (.ref 81)]) (st1 := [.ref 81]) (H1 := mz_mk g x) rfl ?_
      refine mz_fgR (v := 82) rfl fd_4_12 (by decide) (sc_81 _) (rf_81_0 _ _ _) ?_
      refine mz_ldcS (j := 13) rfl rfl rfl ?_
      refine mz_cv rfl mt_4_57 (by decide) (sc_82 _) rfl (Nat.le_of_ble_eq_true rfl) (by omega) (c_X7_spells (by omega) hx hI (by decide) (fun v23 l_v23 u_v23 => ⟨_, rfl, ?_⟩))
      show mm_W d mmX4_signOfToken 144 [some (.ref 81)] [.int (Int32.ofInt v23)] (mz_mk g x) Q
      refine mz_if_eq (tgt := 152) rfl rfl (mz_rg l_v23 u_v23) (fun c144_23 => ?_) (fun c144_23 => ?_)
      · skip
        refine mm_g 1 (pc1 := 153) (lo1 := [some (.ref 81)]) (st1 := [.int (Int32.ofInt 0)]) (H1 := mz_mk g x) rfl ?_
        exact mm_rt rfl rfl (hQ _ (by decide) (by decide))
      · skip
        refine mz_bip rfl bip_m12 ?_
        refine mz_gt (tgt := 153) rfl rfl ?_
        exact mm_rt rfl rfl (hQ _ (by decide) (by decide))
    · skip
      refine mz_bip rfl bip_m11 ?_
      refine mz_gt (tgt := 153) rfl rfl ?_
      exact mm_rt rfl rfl (hQ _ (by decide) (by decide))
  by_cases c7_15 : v1 = 57
  · refine mz_tsi (tgt := 118) rfl (mz_rg l_v1 u_v1) (by omega) (by omega) (by rw [c7_15]; rfl) rfl ?_
    refine mm_g 1 (pc1 := 119) (lo1 := [some (.ref 81)]) (st1 := [.ref 81]) (H1 := mz_mk g x) rfl ?_
    refine mz_fgR (v := 82) rfl fd_4_12 (by decide) (sc_81 _) (rf_81_0 _ _ _) ?_
    refine mz_ldcS (j := 12) rfl rfl rfl ?_
    refine mz_cv rfl mt_4_57 (by decide) (sc_82 _) rfl (Nat.le_of_ble_eq_true rfl) (by omega) (c_X7_spells (by omega) hx hI (by decide) (fun v24 l_v24 u_v24 => ⟨_, rfl, ?_⟩))
    show mm_W d mmX4_signOfToken 127 [some (.ref 81)] [.int (Int32.ofInt v24)] (mz_mk g x) Q
    refine mz_if_eq (tgt := 135) rfl rfl (mz_rg l_v24 u_v24) (fun c127_24 => ?_) (fun c127_24 => ?_)
    · skip
      refine mm_g 1 (pc1 := 136) (lo1 := [some (.ref 81)]) (st1 := [.ref 81]) (H1 := mz_mk g x) rfl ?_
      refine mz_fgR (v := 82) rfl fd_4_12 (by decide) (sc_81 _) (rf_81_0 _ _ _) ?_
      refine mz_ldcS (j := 13) rfl rfl rfl ?_
      refine mz_cv rfl mt_4_57 (by decide) (sc_82 _) rfl (Nat.le_of_ble_eq_true rfl) (by omega) (c_X7_spells (by omega) hx hI (by decide) (fun v25 l_v25 u_v25 => ⟨_, rfl, ?_⟩))
      show mm_W d mmX4_signOfToken 144 [some (.ref 81)] [.int (Int32.ofInt v25)] (mz_mk g x) Q
      refine mz_if_eq (tgt := 152) rfl rfl (mz_rg l_v25 u_v25) (fun c144_25 => ?_) (fun c144_25 => ?_)
      · skip
        refine mm_g 1 (pc1 := 153) (lo1 := [some (.ref 81)]) (st1 := [.int (Int32.ofInt 0)]) (H1 := mz_mk g x) rfl ?_
        exact mm_rt rfl rfl (hQ _ (by decide) (by decide))
      · skip
        refine mz_bip rfl bip_m12 ?_
        refine mz_gt (tgt := 153) rfl rfl ?_
        exact mm_rt rfl rfl (hQ _ (by decide) (by decide))
    · skip
      refine mz_bip rfl bip_m11 ?_
      refine mz_gt (tgt := 153) rfl rfl ?_
      exact mm_rt rfl rfl (hQ _ (by decide) (by decide))
  by_cases c7_16 : v1 = 58
  · refine mz_tsi (tgt := 118) rfl (mz_rg l_v1 u_v1) (by omega) (by omega) (by rw [c7_16]; rfl) rfl ?_
    refine mm_g 1 (pc1 := 119) (lo1 := [some (.ref 81)]) (st1 := [.ref 81]) (H1 := mz_mk g x) rfl ?_
    refine mz_fgR (v := 82) rfl fd_4_12 (by decide) (sc_81 _) (rf_81_0 _ _ _) ?_
    refine mz_ldcS (j := 12) rfl rfl rfl ?_
    refine mz_cv rfl mt_4_57 (by decide) (sc_82 _) rfl (Nat.le_of_ble_eq_true rfl) (by omega) (c_X7_spells (by omega) hx hI (by decide) (fun v26 l_v26 u_v26 => ⟨_, rfl, ?_⟩))
    show mm_W d mmX4_signOfToken 127 [some (.ref 81)] [.int (Int32.ofInt v26)] (mz_mk g x) Q
    refine mz_if_eq (tgt := 135) rfl rfl (mz_rg l_v26 u_v26) (fun c127_26 => ?_) (fun c127_26 => ?_)
    · skip
      refine mm_g 1 (pc1 := 136) (lo1 := [some (.ref 81)]) (st1 := [.ref 81]) (H1 := mz_mk g x) rfl ?_
      refine mz_fgR (v := 82) rfl fd_4_12 (by decide) (sc_81 _) (rf_81_0 _ _ _) ?_
      refine mz_ldcS (j := 13) rfl rfl rfl ?_
      refine mz_cv rfl mt_4_57 (by decide) (sc_82 _) rfl (Nat.le_of_ble_eq_true rfl) (by omega) (c_X7_spells (by omega) hx hI (by decide) (fun v27 l_v27 u_v27 => ⟨_, rfl, ?_⟩))
      show mm_W d mmX4_signOfToken 144 [some (.ref 81)] [.int (Int32.ofInt v27)] (mz_mk g x) Q
      refine mz_if_eq (tgt := 152) rfl rfl (mz_rg l_v27 u_v27) (fun c144_27 => ?_) (fun c144_27 => ?_)
      · skip
        refine mm_g 1 (pc1 := 153) (lo1 := [some (.ref 81)]) (st1 := [.int (Int32.ofInt 0)]) (H1 := mz_mk g x) rfl ?_
        exact mm_rt rfl rfl (hQ _ (by decide) (by decide))
      · skip
        refine mz_bip rfl bip_m12 ?_
        refine mz_gt (tgt := 153) rfl rfl ?_
        exact mm_rt rfl rfl (hQ _ (by decide) (by decide))
    · skip
      refine mz_bip rfl bip_m11 ?_
      refine mz_gt (tgt := 153) rfl rfl ?_
      exact mm_rt rfl rfl (hQ _ (by decide) (by decide))
  by_cases c7_17 : v1 = 59
  · refine mz_tsi (tgt := 118) rfl (mz_rg l_v1 u_v1) (by omega) (by omega) (by rw [c7_17]; rfl) rfl ?_
    refine mm_g 1 (pc1 := 119) (lo1 := [some (.ref 81)]) (st1 := [.ref 81]) (H1 := mz_mk g x) rfl ?_
    refine mz_fgR (v := 82) rfl fd_4_12 (by decide) (sc_81 _) (rf_81_0 _ _ _) ?_
    refine mz_ldcS (j := 12) rfl rfl rfl ?_
    refine mz_cv rfl mt_4_57 (by decide) (sc_82 _) rfl (Nat.le_of_ble_eq_true rfl) (by omega) (c_X7_spells (by omega) hx hI (by decide) (fun v28 l_v28 u_v28 => ⟨_, rfl, ?_⟩))
    show mm_W d mmX4_signOfToken 127 [some (.ref 81)] [.int (Int32.ofInt v28)] (mz_mk g x) Q
    refine mz_if_eq (tgt := 135) rfl rfl (mz_rg l_v28 u_v28) (fun c127_28 => ?_) (fun c127_28 => ?_)
    · skip
      refine mm_g 1 (pc1 := 136) (lo1 := [some (.ref 81)]) (st1 := [.ref 81]) (H1 := mz_mk g x) rfl ?_
      refine mz_fgR (v := 82) rfl fd_4_12 (by decide) (sc_81 _) (rf_81_0 _ _ _) ?_
      refine mz_ldcS (j := 13) rfl rfl rfl ?_
      refine mz_cv rfl mt_4_57 (by decide) (sc_82 _) rfl (Nat.le_of_ble_eq_true rfl) (by omega) (c_X7_spells (by omega) hx hI (by decide) (fun v29 l_v29 u_v29 => ⟨_, rfl, ?_⟩))
      show mm_W d mmX4_signOfToken 144 [some (.ref 81)] [.int (Int32.ofInt v29)] (mz_mk g x) Q
      refine mz_if_eq (tgt := 152) rfl rfl (mz_rg l_v29 u_v29) (fun c144_29 => ?_) (fun c144_29 => ?_)
      · skip
        refine mm_g 1 (pc1 := 153) (lo1 := [some (.ref 81)]) (st1 := [.int (Int32.ofInt 0)]) (H1 := mz_mk g x) rfl ?_
        exact mm_rt rfl rfl (hQ _ (by decide) (by decide))
      · skip
        refine mz_bip rfl bip_m12 ?_
        refine mz_gt (tgt := 153) rfl rfl ?_
        exact mm_rt rfl rfl (hQ _ (by decide) (by decide))
    · skip
      refine mz_bip rfl bip_m11 ?_
      refine mz_gt (tgt := 153) rfl rfl ?_
      exact mm_rt rfl rfl (hQ _ (by decide) (by decide))
  by_cases c7_18 : v1 = 60
  · refine mz_tsi (tgt := 100) rfl (mz_rg l_v1 u_v1) (by omega) (by omega) (by rw [c7_18]; rfl) rfl ?_
    refine mz_bip rfl bip_m14 ?_
    exact mm_rt rfl rfl (hQ _ (by decide) (by decide))
  by_cases c7_19 : v1 = 61
  · refine mz_tsi (tgt := 103) rfl (mz_rg l_v1 u_v1) (by omega) (by omega) (by rw [c7_19]; rfl) rfl ?_
    refine mz_bip rfl bip_m15 ?_
    exact mm_rt rfl rfl (hQ _ (by decide) (by decide))
  refine mz_tso (tgt := 118) rfl (mz_rg l_v1 u_v1) (by omega) rfl ?_
  refine mm_g 1 (pc1 := 119) (lo1 := [some (.ref 81)]) (st1 := [.ref 81]) (H1 := mz_mk g x) rfl ?_
  refine mz_fgR (v := 82) rfl fd_4_12 (by decide) (sc_81 _) (rf_81_0 _ _ _) ?_
  refine mz_ldcS (j := 12) rfl rfl rfl ?_
  refine mz_cv rfl mt_4_57 (by decide) (sc_82 _) rfl (Nat.le_of_ble_eq_true rfl) (by omega) (c_X7_spells (by omega) hx hI (by decide) (fun v30 l_v30 u_v30 => ⟨_, rfl, ?_⟩))
  show mm_W d mmX4_signOfToken 127 [some (.ref 81)] [.int (Int32.ofInt v30)] (mz_mk g x) Q
  refine mz_if_eq (tgt := 135) rfl rfl (mz_rg l_v30 u_v30) (fun c127_30 => ?_) (fun c127_30 => ?_)
  · skip
    refine mm_g 1 (pc1 := 136) (lo1 := [some (.ref 81)]) (st1 := [.ref 81]) (H1 := mz_mk g x) rfl ?_
    refine mz_fgR (v := 82) rfl fd_4_12 (by decide) (sc_81 _) (rf_81_0 _ _ _) ?_
    refine mz_ldcS (j := 13) rfl rfl rfl ?_
    refine mz_cv rfl mt_4_57 (by decide) (sc_82 _) rfl (Nat.le_of_ble_eq_true rfl) (by omega) (c_X7_spells (by omega) hx hI (by decide) (fun v31 l_v31 u_v31 => ⟨_, rfl, ?_⟩))
    show mm_W d mmX4_signOfToken 144 [some (.ref 81)] [.int (Int32.ofInt v31)] (mz_mk g x) Q
    refine mz_if_eq (tgt := 152) rfl rfl (mz_rg l_v31 u_v31) (fun c144_31 => ?_) (fun c144_31 => ?_)
    · skip
      refine mm_g 1 (pc1 := 153) (lo1 := [some (.ref 81)]) (st1 := [.int (Int32.ofInt 0)]) (H1 := mz_mk g x) rfl ?_
      exact mm_rt rfl rfl (hQ _ (by decide) (by decide))
    · skip
      refine mz_bip rfl bip_m12 ?_
      refine mz_gt (tgt := 153) rfl rfl ?_
      exact mm_rt rfl rfl (hQ _ (by decide) (by decide))
  · skip
    refine mz_bip rfl bip_m11 ?_
    refine mz_gt (tgt := 153) rfl rfl ?_
    exact mm_rt rfl rfl (hQ _ (by decide) (by decide))
def fw_X4_readSign (x : mm_X) (q1 : Nat) : Nat → Nat → Prop := fun k j => k = (q1 + 1) ∨ k = q1 ∨ (k = 81 ∧ j = 4) ∨ k = 84 ∨ (k = 81 ∧ j = 7) ∨ (k = 81 ∧ j = 8) ∨ (k = 81 ∧ j = 6) ∨ (k = 82 ∧ j = 3) ∨ (k = 82 ∧ j = 5) ∨ (k = 82 ∧ j = 6) ∨ (k = 82 ∧ j = 4) ∨ (k = 81 ∧ j = 1) ∨ (k = 81 ∧ j = 2) ∨ (k = 81 ∧ j = 5)
theorem c_X4_readSign {d : Nat} (hd : 7 ≤ d) {x : mm_X} (hx : mk_x x) {g : mz_G} (hI : mz_inv g) {q1 : Nat} (h_q1 : kd_rule q1) {Q : (Option Value ⊕ Nat) → mm_H → Prop} (hQ : ∀ (r : Int) (g1 : mz_G), mz_inv g1 → mz_fr (fw_X4_readSign x q1) g g1 → 0 ≤ r → r ≤ 1 → Q (.inl (some (.int (Int32.ofInt r)))) (mz_mk g1 x)) : mm_C d 50 [.ref 81, .ref q1] (mz_mk g x) Q := by
  have kn_q1 := kn_rule h_q1
  refine ⟨mmX4_readSign, [some (.ref 81), some (.ref q1), none, none], rfl, rfl, ?_⟩
  refine mm_g 1 (pc1 := 1) (lo1 := [some (.ref 81), some (.ref q1), none, none]) (st1 := [.ref 81]) (H1 := mz_mk g x) rfl ?_
  refine mz_fgR (v := 82) rfl fd_4_12 (by decide) (sc_81 _) (rf_81_0 _ _ _) ?_
  refine mz_cv rfl mt_4_48 (by decide) (sc_82 _) rfl (Nat.le_of_ble_eq_true rfl) (by omega) (c_X7_kind (by omega) hx hI (fun v1 l_v1 u_v1 => ⟨_, rfl, ?_⟩))
  show mm_W d mmX4_readSign 7 [some (.ref 81), some (.ref q1), none, none] [.int (Int32.ofInt v1)] (mz_mk g x) Q
  refine mz_bip rfl bip_41 ?_
  refine mz_ic_ne (tgt := 54) rfl rfl (mz_rg l_v1 u_v1) ⟨by decide, by decide⟩ (fun c9_1 => ?_) (fun c9_1 => ?_)
  · skip
    refine mm_g 1 (pc1 := 55) (lo1 := [some (.ref 81), some (.ref q1), none, none]) (st1 := [.ref 81]) (H1 := mz_mk g x) rfl ?_
    refine mz_cv rfl mt_4_185 (by decide) (sc_81 _) rfl (Nat.le_of_ble_eq_true rfl) (by omega) (c_X4_signOfToken (by omega) hx hI (fun v2 l_v2 u_v2 => ⟨_, rfl, ?_⟩))
    show mm_W d mmX4_readSign 58 [some (.ref 81), some (.ref q1), none, none] [.int (Int32.ofInt v2)] (mz_mk g x) Q
    refine mm_g 2 (pc1 := 60) (lo1 := [some (.ref 81), some (.ref q1), some (.int (Int32.ofInt v2)), none]) (st1 := [.int (Int32.ofInt v2)]) (H1 := mz_mk g x) rfl ?_
    refine mz_cs rfl mt_4_188 (by decide) rfl (Nat.le_of_ble_eq_true rfl) (by omega) (c_X4_rankOf (by omega) hx hI (by omega) (by omega) (fun v3 l_v3 u_v3 => ⟨_, rfl, ?_⟩))
    show mm_W d mmX4_readSign 63 [some (.ref 81), some (.ref q1), some (.int (Int32.ofInt v2)), none] [.int (Int32.ofInt v3)] (mz_mk g x) Q
    refine mm_g 2 (pc1 := 65) (lo1 := [some (.ref 81), some (.ref q1), some (.int (Int32.ofInt v2)), some (.int (Int32.ofInt v3))]) (st1 := [.int (Int32.ofInt v3)]) (H1 := mz_mk g x) rfl ?_
    refine mz_if_ne (tgt := 74) rfl rfl (mz_rg l_v3 u_v3) (fun c65_3 => ?_) (fun c65_3 => ?_)
    · skip
      refine mm_g 4 (pc1 := 78) (lo1 := [some (.ref 81), some (.ref q1), some (.int (Int32.ofInt v2)), some (.int (Int32.ofInt v3))]) (st1 := [.int (Int32.ofInt 4), .int (Int32.ofInt v3), .ref q1, .ref 81]) (H1 := mz_mk g x) rfl ?_
      refine mz_ic_ne (tgt := 87) rfl rfl (mz_rg l_v3 u_v3) ⟨by decide, by decide⟩ (fun c78_3 => ?_) (fun c78_3 => ?_)
      · skip
        refine mm_g 1 (pc1 := 88) (lo1 := [some (.ref 81), some (.ref q1), some (.int (Int32.ofInt v2)), some (.int (Int32.ofInt v3))]) (st1 := [.int (Int32.ofInt v3), .ref q1, .ref 81]) (H1 := mz_mk g x) rfl ?_
        refine mz_cv rfl mt_4_170 (by decide) (sc_81 _) rfl (Nat.le_of_ble_eq_true rfl) (by omega) (c_X4_closeSigns (by omega) hx hI h_q1 (by omega) (by omega) (fun g4 hIg4 hfg4 => ⟨_, rfl, ?_⟩))
        show mm_W d mmX4_readSign 91 [some (.ref 81), some (.ref q1), some (.int (Int32.ofInt v2)), some (.int (Int32.ofInt v3))] [] (mz_mk g4 x) Q
        refine mm_g 2 (pc1 := 93) (lo1 := [some (.ref 81), some (.ref q1), some (.int (Int32.ofInt v2)), some (.int (Int32.ofInt v3))]) (st1 := [.int (Int32.ofInt 4), .int (Int32.ofInt v3)]) (H1 := mz_mk g4 x) rfl ?_
        refine mz_ic_ne (tgt := 113) rfl rfl (mz_rg l_v3 u_v3) ⟨by decide, by decide⟩ (fun c93_4 => ?_) (fun c93_4 => ?_)
        · skip
          refine mm_g 2 (pc1 := 115) (lo1 := [some (.ref 81), some (.ref q1), some (.int (Int32.ofInt v2)), some (.int (Int32.ofInt v3))]) (st1 := [.int (Int32.ofInt v2), .ref 81]) (H1 := mz_mk g4 x) rfl ?_
          refine mz_cv rfl mt_4_174 (by decide) (sc_81 _) rfl (Nat.le_of_ble_eq_true rfl) (by omega) (c_X4_openSign (by omega) hx hIg4 (by omega) (by omega) (fun g5 hIg5 hfg5 => ⟨_, rfl, ?_⟩))
          show mm_W d mmX4_readSign 118 [some (.ref 81), some (.ref q1), some (.int (Int32.ofInt v2)), some (.int (Int32.ofInt v3))] [] (mz_mk g5 x) Q
          refine mm_g 2 (pc1 := 120) (lo1 := [some (.ref 81), some (.ref q1), some (.int (Int32.ofInt v2)), some (.int (Int32.ofInt v3))]) (st1 := [.int (Int32.ofInt 1), .ref 81]) (H1 := mz_mk g5 x) rfl ?_
          refine mz_pZ rfl fd_4_38 (sc_81 _) (by decide) hIg5 bd_81_7 (by omega) (by omega) (fun g6 hIg6 hug6 => ?_)
          refine mm_g 3 (pc1 := 126) (lo1 := [some (.ref 81), some (.ref q1), some (.int (Int32.ofInt v2)), some (.int (Int32.ofInt v3))]) (st1 := [.int (Int32.ofInt 2), .int (Int32.ofInt v3), .ref 81]) (H1 := mz_mk g6 x) rfl ?_
          refine mz_ic_gt (tgt := 133) rfl rfl (mz_rg l_v3 u_v3) ⟨by decide, by decide⟩ (fun c126_6 => ?_) (fun c126_6 => ?_)
          · skip
            refine mm_g 1 (pc1 := 134) (lo1 := [some (.ref 81), some (.ref q1), some (.int (Int32.ofInt v2)), some (.int (Int32.ofInt v3))]) (st1 := [.int (Int32.ofInt 0), .ref 81]) (H1 := mz_mk g6 x) rfl ?_
            refine mz_cv rfl mt_4_157 (by decide) (sc_81 _) rfl (Nat.le_of_ble_eq_true rfl) (by omega) (c_X4_notsAnew (by omega) hx hIg6 (by decide) (by decide) (fun g7 hIg7 hfg7 => ⟨_, rfl, ?_⟩))
            show mm_W d mmX4_readSign 137 [some (.ref 81), some (.ref q1), some (.int (Int32.ofInt v2)), some (.int (Int32.ofInt v3))] [] (mz_mk g7 x) Q
            refine mm_g 1 (pc1 := 138) (lo1 := [some (.ref 81), some (.ref q1), some (.int (Int32.ofInt v2)), some (.int (Int32.ofInt v3))]) (st1 := [.ref 81]) (H1 := mz_mk g7 x) rfl ?_
            refine mz_fgR (v := 82) rfl fd_4_12 (by decide) (sc_81 _) (rf_81_0 _ _ _) ?_
            refine mz_cv rfl mt_4_99 (by decide) (sc_82 _) rfl (Nat.le_of_ble_eq_true rfl) (by omega) (c_X7_step (by omega) hx hIg7 (fun g8 hIg8 hfg8 => ⟨_, rfl, ?_⟩))
            show mm_W d mmX4_readSign 144 [some (.ref 81), some (.ref q1), some (.int (Int32.ofInt v2)), some (.int (Int32.ofInt v3))] [] (mz_mk g8 x) Q
            refine mm_g 1 (pc1 := 145) (lo1 := [some (.ref 81), some (.ref q1), some (.int (Int32.ofInt v2)), some (.int (Int32.ofInt v3))]) (st1 := [.int (Int32.ofInt 1)]) (H1 := mz_mk g8 x) rfl ?_
            exact mz_rtZ rfl (by decide) (by omega) (hQ _ _ hIg8 (fun k j hk => ((hfg8 k j (fun h => hk (Or.elim h (fun h => (Or.inr (Or.inr (Or.inr (Or.inr (Or.inr (Or.inr (Or.inr (Or.inl h))))))))) (fun h => (Or.elim h (fun h => (Or.inr (Or.inr (Or.inr (Or.inr (Or.inr (Or.inr (Or.inr (Or.inr (Or.inl h)))))))))) (fun h => (Or.elim h (fun h => (Or.inr (Or.inr (Or.inr (Or.inr (Or.inr (Or.inr (Or.inr (Or.inr (Or.inr (Or.inl h))))))))))) (fun h => (Or.inr (Or.inr (Or.inr (Or.inr (Or.inr (Or.inr (Or.inr (Or.inr (Or.inr (Or.inr (Or.inl h))))))))))))))))))).trans ((hfg7 k j (fun h => hk (Or.elim h (fun h => (Or.inr (Or.inr (Or.inr (Or.inr (Or.inr (Or.inl h))))))) (fun h => (Or.inr (Or.inr (Or.inr (Or.inr (Or.inr (Or.inr (Or.inl h))))))))))).trans ((hug6.2 k j (fun h => hk (Or.inr (Or.inr (Or.inr (Or.inr (Or.inl h))))))).trans ((hfg5 k j (fun h => hk (Or.elim h (fun h => (Or.inr (Or.inr (Or.inr (Or.inl h))))) (fun h => (Or.inr (Or.inr (Or.inl h))))))).trans (hfg4 k j (fun h => hk (Or.elim h (fun h => (Or.inl h)) (fun h => (Or.elim h (fun h => (Or.inr (Or.inl h))) (fun h => (Or.inr (Or.inr (Or.inl h)))))))))))))) (by decide) (by decide))
          · skip
            refine mm_g 1 (pc1 := 130) (lo1 := [some (.ref 81), some (.ref q1), some (.int (Int32.ofInt v2)), some (.int (Int32.ofInt v3))]) (st1 := [.int (Int32.ofInt 1), .ref 81]) (H1 := mz_mk g6 x) rfl ?_
            refine mz_gt (tgt := 134) rfl rfl ?_
            refine mz_cv rfl mt_4_157 (by decide) (sc_81 _) rfl (Nat.le_of_ble_eq_true rfl) (by omega) (c_X4_notsAnew (by omega) hx hIg6 (by decide) (by decide) (fun g9 hIg9 hfg9 => ⟨_, rfl, ?_⟩))
            show mm_W d mmX4_readSign 137 [some (.ref 81), some (.ref q1), some (.int (Int32.ofInt v2)), some (.int (Int32.ofInt v3))] [] (mz_mk g9 x) Q
            refine mm_g 1 (pc1 := 138) (lo1 := [some (.ref 81), some (.ref q1), some (.int (Int32.ofInt v2)), some (.int (Int32.ofInt v3))]) (st1 := [.ref 81]) (H1 := mz_mk g9 x) rfl ?_
            refine mz_fgR (v := 82) rfl fd_4_12 (by decide) (sc_81 _) (rf_81_0 _ _ _) ?_
            refine mz_cv rfl mt_4_99 (by decide) (sc_82 _) rfl (Nat.le_of_ble_eq_true rfl) (by omega) (c_X7_step (by omega) hx hIg9 (fun g10 hIg10 hfg10 => ⟨_, rfl, ?_⟩))
            show mm_W d mmX4_readSign 144 [some (.ref 81), some (.ref q1), some (.int (Int32.ofInt v2)), some (.int (Int32.ofInt v3))] [] (mz_mk g10 x) Q
            refine mm_g 1 (pc1 := 145) (lo1 := [some (.ref 81), some (.ref q1), some (.int (Int32.ofInt v2)), some (.int (Int32.ofInt v3))]) (st1 := [.int (Int32.ofInt 1)]) (H1 := mz_mk g10 x) rfl ?_
            exact mz_rtZ rfl (by decide) (by omega) (hQ _ _ hIg10 (fun k j hk => ((hfg10 k j (fun h => hk (Or.elim h (fun h => (Or.inr (Or.inr (Or.inr (Or.inr (Or.inr (Or.inr (Or.inr (Or.inl h))))))))) (fun h => (Or.elim h (fun h => (Or.inr (Or.inr (Or.inr (Or.inr (Or.inr (Or.inr (Or.inr (Or.inr (Or.inl h)))))))))) (fun h => (Or.elim h (fun h => (Or.inr (Or.inr (Or.inr (Or.inr (Or.inr (Or.inr (Or.inr (Or.inr (Or.inr (Or.inl h))))))))))) (fun h => (Or.inr (Or.inr (Or.inr (Or.inr (Or.inr (Or.inr (Or.inr (Or.inr (Or.inr (Or.inr (Or.inl h))))))))))))))))))).trans ((hfg9 k j (fun h => hk (Or.elim h (fun h => (Or.inr (Or.inr (Or.inr (Or.inr (Or.inr (Or.inl h))))))) (fun h => (Or.inr (Or.inr (Or.inr (Or.inr (Or.inr (Or.inr (Or.inl h))))))))))).trans ((hug6.2 k j (fun h => hk (Or.inr (Or.inr (Or.inr (Or.inr (Or.inl h))))))).trans ((hfg5 k j (fun h => hk (Or.elim h (fun h => (Or.inr (Or.inr (Or.inr (Or.inl h))))) (fun h => (Or.inr (Or.inr (Or.inl h))))))).trans (hfg4 k j (fun h => hk (Or.elim h (fun h => (Or.inl h)) (fun h => (Or.elim h (fun h => (Or.inr (Or.inl h))) (fun h => (Or.inr (Or.inr (Or.inl h)))))))))))))) (by decide) (by decide))
        · skip
          refine mm_g 1 (pc1 := 97) (lo1 := [some (.ref 81), some (.ref q1), some (.int (Int32.ofInt v2)), some (.int (Int32.ofInt v3))]) (st1 := [.ref 81]) (H1 := mz_mk g4 x) rfl ?_
          refine mz_cv rfl mt_4_192 (by decide) (sc_81 _) rfl (Nat.le_of_ble_eq_true rfl) (by omega) (c_X4_lastOpen (by omega) hx hIg4 (fun v11 l_v11 u_v11 => ⟨_, rfl, ?_⟩))
          show mm_W d mmX4_readSign 100 [some (.ref 81), some (.ref q1), some (.int (Int32.ofInt v2)), some (.int (Int32.ofInt v3))] [.int (Int32.ofInt v11)] (mz_mk g4 x) Q
          refine mz_cs rfl mt_4_188 (by decide) rfl (Nat.le_of_ble_eq_true rfl) (by omega) (c_X4_rankOf (by omega) hx hIg4 l_v11 u_v11 (fun v12 l_v12 u_v12 => ⟨_, rfl, ?_⟩))
          show mm_W d mmX4_readSign 103 [some (.ref 81), some (.ref q1), some (.int (Int32.ofInt v2)), some (.int (Int32.ofInt v3))] [.int (Int32.ofInt v12)] (mz_mk g4 x) Q
          refine mm_g 1 (pc1 := 104) (lo1 := [some (.ref 81), some (.ref q1), some (.int (Int32.ofInt v2)), some (.int (Int32.ofInt v3))]) (st1 := [.int (Int32.ofInt 4), .int (Int32.ofInt v12)]) (H1 := mz_mk g4 x) rfl ?_
          refine mz_ic_ne (tgt := 113) rfl rfl (mz_rg l_v12 u_v12) ⟨by decide, by decide⟩ (fun c104_12 => ?_) (fun c104_12 => ?_)
          · skip
            refine mm_g 2 (pc1 := 115) (lo1 := [some (.ref 81), some (.ref q1), some (.int (Int32.ofInt v2)), some (.int (Int32.ofInt v3))]) (st1 := [.int (Int32.ofInt v2), .ref 81]) (H1 := mz_mk g4 x) rfl ?_
            refine mz_cv rfl mt_4_174 (by decide) (sc_81 _) rfl (Nat.le_of_ble_eq_true rfl) (by omega) (c_X4_openSign (by omega) hx hIg4 (by omega) (by omega) (fun g13 hIg13 hfg13 => ⟨_, rfl, ?_⟩))
            show mm_W d mmX4_readSign 118 [some (.ref 81), some (.ref q1), some (.int (Int32.ofInt v2)), some (.int (Int32.ofInt v3))] [] (mz_mk g13 x) Q
            refine mm_g 2 (pc1 := 120) (lo1 := [some (.ref 81), some (.ref q1), some (.int (Int32.ofInt v2)), some (.int (Int32.ofInt v3))]) (st1 := [.int (Int32.ofInt 1), .ref 81]) (H1 := mz_mk g13 x) rfl ?_
            refine mz_pZ rfl fd_4_38 (sc_81 _) (by decide) hIg13 bd_81_7 (by omega) (by omega) (fun g14 hIg14 hug14 => ?_)
            refine mm_g 3 (pc1 := 126) (lo1 := [some (.ref 81), some (.ref q1), some (.int (Int32.ofInt v2)), some (.int (Int32.ofInt v3))]) (st1 := [.int (Int32.ofInt 2), .int (Int32.ofInt v3), .ref 81]) (H1 := mz_mk g14 x) rfl ?_
            refine mz_ic_gt (tgt := 133) rfl rfl (mz_rg l_v3 u_v3) ⟨by decide, by decide⟩ (fun c126_14 => ?_) (fun c126_14 => ?_)
            · skip
              refine mm_g 1 (pc1 := 134) (lo1 := [some (.ref 81), some (.ref q1), some (.int (Int32.ofInt v2)), some (.int (Int32.ofInt v3))]) (st1 := [.int (Int32.ofInt 0), .ref 81]) (H1 := mz_mk g14 x) rfl ?_
              refine mz_cv rfl mt_4_157 (by decide) (sc_81 _) rfl (Nat.le_of_ble_eq_true rfl) (by omega) (c_X4_notsAnew (by omega) hx hIg14 (by decide) (by decide) (fun g15 hIg15 hfg15 => ⟨_, rfl, ?_⟩))
              show mm_W d mmX4_readSign 137 [some (.ref 81), some (.ref q1), some (.int (Int32.ofInt v2)), some (.int (Int32.ofInt v3))] [] (mz_mk g15 x) Q
              refine mm_g 1 (pc1 := 138) (lo1 := [some (.ref 81), some (.ref q1), some (.int (Int32.ofInt v2)), some (.int (Int32.ofInt v3))]) (st1 := [.ref 81]) (H1 := mz_mk g15 x) rfl ?_
              refine mz_fgR (v := 82) rfl fd_4_12 (by decide) (sc_81 _) (rf_81_0 _ _ _) ?_
              refine mz_cv rfl mt_4_99 (by decide) (sc_82 _) rfl (Nat.le_of_ble_eq_true rfl) (by omega) (c_X7_step (by omega) hx hIg15 (fun g16 hIg16 hfg16 => ⟨_, rfl, ?_⟩))
              show mm_W d mmX4_readSign 144 [some (.ref 81), some (.ref q1), some (.int (Int32.ofInt v2)), some (.int (Int32.ofInt v3))] [] (mz_mk g16 x) Q
              refine mm_g 1 (pc1 := 145) (lo1 := [some (.ref 81), some (.ref q1), some (.int (Int32.ofInt v2)), some (.int (Int32.ofInt v3))]) (st1 := [.int (Int32.ofInt 1)]) (H1 := mz_mk g16 x) rfl ?_
              exact mz_rtZ rfl (by decide) (by omega) (hQ _ _ hIg16 (fun k j hk => ((hfg16 k j (fun h => hk (Or.elim h (fun h => (Or.inr (Or.inr (Or.inr (Or.inr (Or.inr (Or.inr (Or.inr (Or.inl h))))))))) (fun h => (Or.elim h (fun h => (Or.inr (Or.inr (Or.inr (Or.inr (Or.inr (Or.inr (Or.inr (Or.inr (Or.inl h)))))))))) (fun h => (Or.elim h (fun h => (Or.inr (Or.inr (Or.inr (Or.inr (Or.inr (Or.inr (Or.inr (Or.inr (Or.inr (Or.inl h))))))))))) (fun h => (Or.inr (Or.inr (Or.inr (Or.inr (Or.inr (Or.inr (Or.inr (Or.inr (Or.inr (Or.inr (Or.inl h))))))))))))))))))).trans ((hfg15 k j (fun h => hk (Or.elim h (fun h => (Or.inr (Or.inr (Or.inr (Or.inr (Or.inr (Or.inl h))))))) (fun h => (Or.inr (Or.inr (Or.inr (Or.inr (Or.inr (Or.inr (Or.inl h))))))))))).trans ((hug14.2 k j (fun h => hk (Or.inr (Or.inr (Or.inr (Or.inr (Or.inl h))))))).trans ((hfg13 k j (fun h => hk (Or.elim h (fun h => (Or.inr (Or.inr (Or.inr (Or.inl h))))) (fun h => (Or.inr (Or.inr (Or.inl h))))))).trans (hfg4 k j (fun h => hk (Or.elim h (fun h => (Or.inl h)) (fun h => (Or.elim h (fun h => (Or.inr (Or.inl h))) (fun h => (Or.inr (Or.inr (Or.inl h)))))))))))))) (by decide) (by decide))
            · exfalso; omega
          · skip
            refine mm_g 2 (pc1 := 109) (lo1 := [some (.ref 81), some (.ref q1), some (.int (Int32.ofInt v2)), some (.int (Int32.ofInt v3))]) (st1 := [.int (Int32.ofInt 1), .ref 81]) (H1 := mz_mk g4 x) rfl ?_
            refine mz_cv rfl mt_4_95 (by decide) (sc_81 _) rfl (Nat.le_of_ble_eq_true rfl) (by omega) (c_X4_blame (by omega) hx hIg4 (by decide) (by decide) (fun v17 g18 hIg18 hfg18 l_v17 u_v17 => ⟨_, rfl, ?_⟩))
            show mm_W d mmX4_readSign 112 [some (.ref 81), some (.ref q1), some (.int (Int32.ofInt v2)), some (.int (Int32.ofInt v3))] [.int (Int32.ofInt v17)] (mz_mk g18 x) Q
            exact mz_rtZ rfl (by decide) (by omega) (hQ _ _ hIg18 (fun k j hk => ((hfg18 k j (fun h => hk (Or.elim h (fun h => (Or.inr (Or.inr (Or.inr (Or.inr (Or.inr (Or.inr (Or.inr (Or.inr (Or.inr (Or.inr (Or.inr (Or.inl h))))))))))))) (fun h => (Or.inr (Or.inr (Or.inr (Or.inr (Or.inr (Or.inr (Or.inr (Or.inr (Or.inr (Or.inr (Or.inr (Or.inr (Or.inl h))))))))))))))))).trans (hfg4 k j (fun h => hk (Or.elim h (fun h => (Or.inl h)) (fun h => (Or.elim h (fun h => (Or.inr (Or.inl h))) (fun h => (Or.inr (Or.inr (Or.inl h))))))))))) (by omega) (by omega))
      · skip
        refine mm_g 2 (pc1 := 83) (lo1 := [some (.ref 81), some (.ref q1), some (.int (Int32.ofInt v2)), some (.int (Int32.ofInt v3))]) (st1 := [.int (Int32.ofInt 1), .int (Int32.ofInt v3), .ref q1, .ref 81]) (H1 := mz_mk g x) rfl ?_
        refine mz_iadd rfl ?_
        refine mz_gt (tgt := 88) rfl rfl ?_
        refine mz_cv rfl mt_4_170 (by decide) (sc_81 _) rfl (Nat.le_of_ble_eq_true rfl) (by omega) (c_X4_closeSigns (by omega) hx hI h_q1 (by omega) (by omega) (fun g19 hIg19 hfg19 => ⟨_, rfl, ?_⟩))
        show mm_W d mmX4_readSign 91 [some (.ref 81), some (.ref q1), some (.int (Int32.ofInt v2)), some (.int (Int32.ofInt v3))] [] (mz_mk g19 x) Q
        refine mm_g 2 (pc1 := 93) (lo1 := [some (.ref 81), some (.ref q1), some (.int (Int32.ofInt v2)), some (.int (Int32.ofInt v3))]) (st1 := [.int (Int32.ofInt 4), .int (Int32.ofInt v3)]) (H1 := mz_mk g19 x) rfl ?_
        refine mz_ic_ne (tgt := 113) rfl rfl (mz_rg l_v3 u_v3) ⟨by decide, by decide⟩ (fun c93_19 => ?_) (fun c93_19 => ?_)
        · exfalso; omega
        · skip
          refine mm_g 1 (pc1 := 97) (lo1 := [some (.ref 81), some (.ref q1), some (.int (Int32.ofInt v2)), some (.int (Int32.ofInt v3))]) (st1 := [.ref 81]) (H1 := mz_mk g19 x) rfl ?_
          refine mz_cv rfl mt_4_192 (by decide) (sc_81 _) rfl (Nat.le_of_ble_eq_true rfl) (by omega) (c_X4_lastOpen (by omega) hx hIg19 (fun v20 l_v20 u_v20 => ⟨_, rfl, ?_⟩))
          show mm_W d mmX4_readSign 100 [some (.ref 81), some (.ref q1), some (.int (Int32.ofInt v2)), some (.int (Int32.ofInt v3))] [.int (Int32.ofInt v20)] (mz_mk g19 x) Q
          refine mz_cs rfl mt_4_188 (by decide) rfl (Nat.le_of_ble_eq_true rfl) (by omega) (c_X4_rankOf (by omega) hx hIg19 l_v20 u_v20 (fun v21 l_v21 u_v21 => ⟨_, rfl, ?_⟩))
          show mm_W d mmX4_readSign 103 [some (.ref 81), some (.ref q1), some (.int (Int32.ofInt v2)), some (.int (Int32.ofInt v3))] [.int (Int32.ofInt v21)] (mz_mk g19 x) Q
          refine mm_g 1 (pc1 := 104) (lo1 := [some (.ref 81), some (.ref q1), some (.int (Int32.ofInt v2)), some (.int (Int32.ofInt v3))]) (st1 := [.int (Int32.ofInt 4), .int (Int32.ofInt v21)]) (H1 := mz_mk g19 x) rfl ?_
          refine mz_ic_ne (tgt := 113) rfl rfl (mz_rg l_v21 u_v21) ⟨by decide, by decide⟩ (fun c104_21 => ?_) (fun c104_21 => ?_)
          · skip
            refine mm_g 2 (pc1 := 115) (lo1 := [some (.ref 81), some (.ref q1), some (.int (Int32.ofInt v2)), some (.int (Int32.ofInt v3))]) (st1 := [.int (Int32.ofInt v2), .ref 81]) (H1 := mz_mk g19 x) rfl ?_
            refine mz_cv rfl mt_4_174 (by decide) (sc_81 _) rfl (Nat.le_of_ble_eq_true rfl) (by omega) (c_X4_openSign (by omega) hx hIg19 (by omega) (by omega) (fun g22 hIg22 hfg22 => ⟨_, rfl, ?_⟩))
            show mm_W d mmX4_readSign 118 [some (.ref 81), some (.ref q1), some (.int (Int32.ofInt v2)), some (.int (Int32.ofInt v3))] [] (mz_mk g22 x) Q
            refine mm_g 2 (pc1 := 120) (lo1 := [some (.ref 81), some (.ref q1), some (.int (Int32.ofInt v2)), some (.int (Int32.ofInt v3))]) (st1 := [.int (Int32.ofInt 1), .ref 81]) (H1 := mz_mk g22 x) rfl ?_
            refine mz_pZ rfl fd_4_38 (sc_81 _) (by decide) hIg22 bd_81_7 (by omega) (by omega) (fun g23 hIg23 hug23 => ?_)
            refine mm_g 3 (pc1 := 126) (lo1 := [some (.ref 81), some (.ref q1), some (.int (Int32.ofInt v2)), some (.int (Int32.ofInt v3))]) (st1 := [.int (Int32.ofInt 2), .int (Int32.ofInt v3), .ref 81]) (H1 := mz_mk g23 x) rfl ?_
            refine mz_ic_gt (tgt := 133) rfl rfl (mz_rg l_v3 u_v3) ⟨by decide, by decide⟩ (fun c126_23 => ?_) (fun c126_23 => ?_)
            · skip
              refine mm_g 1 (pc1 := 134) (lo1 := [some (.ref 81), some (.ref q1), some (.int (Int32.ofInt v2)), some (.int (Int32.ofInt v3))]) (st1 := [.int (Int32.ofInt 0), .ref 81]) (H1 := mz_mk g23 x) rfl ?_
              refine mz_cv rfl mt_4_157 (by decide) (sc_81 _) rfl (Nat.le_of_ble_eq_true rfl) (by omega) (c_X4_notsAnew (by omega) hx hIg23 (by decide) (by decide) (fun g24 hIg24 hfg24 => ⟨_, rfl, ?_⟩))
              show mm_W d mmX4_readSign 137 [some (.ref 81), some (.ref q1), some (.int (Int32.ofInt v2)), some (.int (Int32.ofInt v3))] [] (mz_mk g24 x) Q
              refine mm_g 1 (pc1 := 138) (lo1 := [some (.ref 81), some (.ref q1), some (.int (Int32.ofInt v2)), some (.int (Int32.ofInt v3))]) (st1 := [.ref 81]) (H1 := mz_mk g24 x) rfl ?_
              refine mz_fgR (v := 82) rfl fd_4_12 (by decide) (sc_81 _) (rf_81_0 _ _ _) ?_
              refine mz_cv rfl mt_4_99 (by decide) (sc_82 _) rfl (Nat.le_of_ble_eq_true rfl) (by omega) (c_X7_step (by omega) hx hIg24 (fun g25 hIg25 hfg25 => ⟨_, rfl, ?_⟩))
              show mm_W d mmX4_readSign 144 [some (.ref 81), some (.ref q1), some (.int (Int32.ofInt v2)), some (.int (Int32.ofInt v3))] [] (mz_mk g25 x) Q
              refine mm_g 1 (pc1 := 145) (lo1 := [some (.ref 81), some (.ref q1), some (.int (Int32.ofInt v2)), some (.int (Int32.ofInt v3))]) (st1 := [.int (Int32.ofInt 1)]) (H1 := mz_mk g25 x) rfl ?_
              exact mz_rtZ rfl (by decide) (by omega) (hQ _ _ hIg25 (fun k j hk => ((hfg25 k j (fun h => hk (Or.elim h (fun h => (Or.inr (Or.inr (Or.inr (Or.inr (Or.inr (Or.inr (Or.inr (Or.inl h))))))))) (fun h => (Or.elim h (fun h => (Or.inr (Or.inr (Or.inr (Or.inr (Or.inr (Or.inr (Or.inr (Or.inr (Or.inl h)))))))))) (fun h => (Or.elim h (fun h => (Or.inr (Or.inr (Or.inr (Or.inr (Or.inr (Or.inr (Or.inr (Or.inr (Or.inr (Or.inl h))))))))))) (fun h => (Or.inr (Or.inr (Or.inr (Or.inr (Or.inr (Or.inr (Or.inr (Or.inr (Or.inr (Or.inr (Or.inl h))))))))))))))))))).trans ((hfg24 k j (fun h => hk (Or.elim h (fun h => (Or.inr (Or.inr (Or.inr (Or.inr (Or.inr (Or.inl h))))))) (fun h => (Or.inr (Or.inr (Or.inr (Or.inr (Or.inr (Or.inr (Or.inl h))))))))))).trans ((hug23.2 k j (fun h => hk (Or.inr (Or.inr (Or.inr (Or.inr (Or.inl h))))))).trans ((hfg22 k j (fun h => hk (Or.elim h (fun h => (Or.inr (Or.inr (Or.inr (Or.inl h))))) (fun h => (Or.inr (Or.inr (Or.inl h))))))).trans (hfg19 k j (fun h => hk (Or.elim h (fun h => (Or.inl h)) (fun h => (Or.elim h (fun h => (Or.inr (Or.inl h))) (fun h => (Or.inr (Or.inr (Or.inl h)))))))))))))) (by decide) (by decide))
            · exfalso; omega
          · skip
            refine mm_g 2 (pc1 := 109) (lo1 := [some (.ref 81), some (.ref q1), some (.int (Int32.ofInt v2)), some (.int (Int32.ofInt v3))]) (st1 := [.int (Int32.ofInt 1), .ref 81]) (H1 := mz_mk g19 x) rfl ?_
            refine mz_cv rfl mt_4_95 (by decide) (sc_81 _) rfl (Nat.le_of_ble_eq_true rfl) (by omega) (c_X4_blame (by omega) hx hIg19 (by decide) (by decide) (fun v26 g27 hIg27 hfg27 l_v26 u_v26 => ⟨_, rfl, ?_⟩))
            show mm_W d mmX4_readSign 112 [some (.ref 81), some (.ref q1), some (.int (Int32.ofInt v2)), some (.int (Int32.ofInt v3))] [.int (Int32.ofInt v26)] (mz_mk g27 x) Q
            exact mz_rtZ rfl (by decide) (by omega) (hQ _ _ hIg27 (fun k j hk => ((hfg27 k j (fun h => hk (Or.elim h (fun h => (Or.inr (Or.inr (Or.inr (Or.inr (Or.inr (Or.inr (Or.inr (Or.inr (Or.inr (Or.inr (Or.inr (Or.inl h))))))))))))) (fun h => (Or.inr (Or.inr (Or.inr (Or.inr (Or.inr (Or.inr (Or.inr (Or.inr (Or.inr (Or.inr (Or.inr (Or.inr (Or.inl h))))))))))))))))).trans (hfg19 k j (fun h => hk (Or.elim h (fun h => (Or.inl h)) (fun h => (Or.elim h (fun h => (Or.inr (Or.inl h))) (fun h => (Or.inr (Or.inr (Or.inl h))))))))))) (by omega) (by omega))
    · skip
      refine mm_g 2 (pc1 := 70) (lo1 := [some (.ref 81), some (.ref q1), some (.int (Int32.ofInt v2)), some (.int (Int32.ofInt v3))]) (st1 := [.int (Int32.ofInt 1), .ref 81]) (H1 := mz_mk g x) rfl ?_
      refine mz_cv rfl mt_4_95 (by decide) (sc_81 _) rfl (Nat.le_of_ble_eq_true rfl) (by omega) (c_X4_blame (by omega) hx hI (by decide) (by decide) (fun v28 g29 hIg29 hfg29 l_v28 u_v28 => ⟨_, rfl, ?_⟩))
      show mm_W d mmX4_readSign 73 [some (.ref 81), some (.ref q1), some (.int (Int32.ofInt v2)), some (.int (Int32.ofInt v3))] [.int (Int32.ofInt v28)] (mz_mk g29 x) Q
      exact mz_rtZ rfl (by decide) (by omega) (hQ _ _ hIg29 (fun k j hk => (hfg29 k j (fun h => hk (Or.elim h (fun h => (Or.inr (Or.inr (Or.inr (Or.inr (Or.inr (Or.inr (Or.inr (Or.inr (Or.inr (Or.inr (Or.inr (Or.inl h))))))))))))) (fun h => (Or.inr (Or.inr (Or.inr (Or.inr (Or.inr (Or.inr (Or.inr (Or.inr (Or.inr (Or.inr (Or.inr (Or.inr (Or.inl h)))))))))))))))))) (by omega) (by omega))
  · skip
    refine mm_g 1 (pc1 := 13) (lo1 := [some (.ref 81), some (.ref q1), none, none]) (st1 := [.ref 81]) (H1 := mz_mk g x) rfl ?_
    refine mz_gI rfl fd_4_32 (by decide) (sc_81 _) hI bd_81_5 (fun v30 e_v30 l_v30 u_v30 => ?_)
    refine mz_if_le (tgt := 54) rfl rfl (mz_rg l_v30 u_v30) (fun c16_30 => ?_) (fun c16_30 => ?_)
    · skip
      refine mm_g 1 (pc1 := 55) (lo1 := [some (.ref 81), some (.ref q1), none, none]) (st1 := [.ref 81]) (H1 := mz_mk g x) rfl ?_
      refine mz_cv rfl mt_4_185 (by decide) (sc_81 _) rfl (Nat.le_of_ble_eq_true rfl) (by omega) (c_X4_signOfToken (by omega) hx hI (fun v31 l_v31 u_v31 => ⟨_, rfl, ?_⟩))
      show mm_W d mmX4_readSign 58 [some (.ref 81), some (.ref q1), none, none] [.int (Int32.ofInt v31)] (mz_mk g x) Q
      refine mm_g 2 (pc1 := 60) (lo1 := [some (.ref 81), some (.ref q1), some (.int (Int32.ofInt v31)), none]) (st1 := [.int (Int32.ofInt v31)]) (H1 := mz_mk g x) rfl ?_
      refine mz_cs rfl mt_4_188 (by decide) rfl (Nat.le_of_ble_eq_true rfl) (by omega) (c_X4_rankOf (by omega) hx hI (by omega) (by omega) (fun v32 l_v32 u_v32 => ⟨_, rfl, ?_⟩))
      show mm_W d mmX4_readSign 63 [some (.ref 81), some (.ref q1), some (.int (Int32.ofInt v31)), none] [.int (Int32.ofInt v32)] (mz_mk g x) Q
      refine mm_g 2 (pc1 := 65) (lo1 := [some (.ref 81), some (.ref q1), some (.int (Int32.ofInt v31)), some (.int (Int32.ofInt v32))]) (st1 := [.int (Int32.ofInt v32)]) (H1 := mz_mk g x) rfl ?_
      refine mz_if_ne (tgt := 74) rfl rfl (mz_rg l_v32 u_v32) (fun c65_32 => ?_) (fun c65_32 => ?_)
      · skip
        refine mm_g 4 (pc1 := 78) (lo1 := [some (.ref 81), some (.ref q1), some (.int (Int32.ofInt v31)), some (.int (Int32.ofInt v32))]) (st1 := [.int (Int32.ofInt 4), .int (Int32.ofInt v32), .ref q1, .ref 81]) (H1 := mz_mk g x) rfl ?_
        refine mz_ic_ne (tgt := 87) rfl rfl (mz_rg l_v32 u_v32) ⟨by decide, by decide⟩ (fun c78_32 => ?_) (fun c78_32 => ?_)
        · skip
          refine mm_g 1 (pc1 := 88) (lo1 := [some (.ref 81), some (.ref q1), some (.int (Int32.ofInt v31)), some (.int (Int32.ofInt v32))]) (st1 := [.int (Int32.ofInt v32), .ref q1, .ref 81]) (H1 := mz_mk g x) rfl ?_
          refine mz_cv rfl mt_4_170 (by decide) (sc_81 _) rfl (Nat.le_of_ble_eq_true rfl) (by omega) (c_X4_closeSigns (by omega) hx hI h_q1 (by omega) (by omega) (fun g33 hIg33 hfg33 => ⟨_, rfl, ?_⟩))
          show mm_W d mmX4_readSign 91 [some (.ref 81), some (.ref q1), some (.int (Int32.ofInt v31)), some (.int (Int32.ofInt v32))] [] (mz_mk g33 x) Q
          refine mm_g 2 (pc1 := 93) (lo1 := [some (.ref 81), some (.ref q1), some (.int (Int32.ofInt v31)), some (.int (Int32.ofInt v32))]) (st1 := [.int (Int32.ofInt 4), .int (Int32.ofInt v32)]) (H1 := mz_mk g33 x) rfl ?_
          refine mz_ic_ne (tgt := 113) rfl rfl (mz_rg l_v32 u_v32) ⟨by decide, by decide⟩ (fun c93_33 => ?_) (fun c93_33 => ?_)
          · skip
            refine mm_g 2 (pc1 := 115) (lo1 := [some (.ref 81), some (.ref q1), some (.int (Int32.ofInt v31)), some (.int (Int32.ofInt v32))]) (st1 := [.int (Int32.ofInt v31), .ref 81]) (H1 := mz_mk g33 x) rfl ?_
            refine mz_cv rfl mt_4_174 (by decide) (sc_81 _) rfl (Nat.le_of_ble_eq_true rfl) (by omega) (c_X4_openSign (by omega) hx hIg33 (by omega) (by omega) (fun g34 hIg34 hfg34 => ⟨_, rfl, ?_⟩))
            show mm_W d mmX4_readSign 118 [some (.ref 81), some (.ref q1), some (.int (Int32.ofInt v31)), some (.int (Int32.ofInt v32))] [] (mz_mk g34 x) Q
            refine mm_g 2 (pc1 := 120) (lo1 := [some (.ref 81), some (.ref q1), some (.int (Int32.ofInt v31)), some (.int (Int32.ofInt v32))]) (st1 := [.int (Int32.ofInt 1), .ref 81]) (H1 := mz_mk g34 x) rfl ?_
            refine mz_pZ rfl fd_4_38 (sc_81 _) (by decide) hIg34 bd_81_7 (by omega) (by omega) (fun g35 hIg35 hug35 => ?_)
            refine mm_g 3 (pc1 := 126) (lo1 := [some (.ref 81), some (.ref q1), some (.int (Int32.ofInt v31)), some (.int (Int32.ofInt v32))]) (st1 := [.int (Int32.ofInt 2), .int (Int32.ofInt v32), .ref 81]) (H1 := mz_mk g35 x) rfl ?_
            refine mz_ic_gt (tgt := 133) rfl rfl (mz_rg l_v32 u_v32) ⟨by decide, by decide⟩ (fun c126_35 => ?_) (fun c126_35 => ?_)
            · skip
              refine mm_g 1 (pc1 := 134) (lo1 := [some (.ref 81), some (.ref q1), some (.int (Int32.ofInt v31)), some (.int (Int32.ofInt v32))]) (st1 := [.int (Int32.ofInt 0), .ref 81]) (H1 := mz_mk g35 x) rfl ?_
              refine mz_cv rfl mt_4_157 (by decide) (sc_81 _) rfl (Nat.le_of_ble_eq_true rfl) (by omega) (c_X4_notsAnew (by omega) hx hIg35 (by decide) (by decide) (fun g36 hIg36 hfg36 => ⟨_, rfl, ?_⟩))
              show mm_W d mmX4_readSign 137 [some (.ref 81), some (.ref q1), some (.int (Int32.ofInt v31)), some (.int (Int32.ofInt v32))] [] (mz_mk g36 x) Q
              refine mm_g 1 (pc1 := 138) (lo1 := [some (.ref 81), some (.ref q1), some (.int (Int32.ofInt v31)), some (.int (Int32.ofInt v32))]) (st1 := [.ref 81]) (H1 := mz_mk g36 x) rfl ?_
              refine mz_fgR (v := 82) rfl fd_4_12 (by decide) (sc_81 _) (rf_81_0 _ _ _) ?_
              refine mz_cv rfl mt_4_99 (by decide) (sc_82 _) rfl (Nat.le_of_ble_eq_true rfl) (by omega) (c_X7_step (by omega) hx hIg36 (fun g37 hIg37 hfg37 => ⟨_, rfl, ?_⟩))
              show mm_W d mmX4_readSign 144 [some (.ref 81), some (.ref q1), some (.int (Int32.ofInt v31)), some (.int (Int32.ofInt v32))] [] (mz_mk g37 x) Q
              refine mm_g 1 (pc1 := 145) (lo1 := [some (.ref 81), some (.ref q1), some (.int (Int32.ofInt v31)), some (.int (Int32.ofInt v32))]) (st1 := [.int (Int32.ofInt 1)]) (H1 := mz_mk g37 x) rfl ?_
              exact mz_rtZ rfl (by decide) (by omega) (hQ _ _ hIg37 (fun k j hk => ((hfg37 k j (fun h => hk (Or.elim h (fun h => (Or.inr (Or.inr (Or.inr (Or.inr (Or.inr (Or.inr (Or.inr (Or.inl h))))))))) (fun h => (Or.elim h (fun h => (Or.inr (Or.inr (Or.inr (Or.inr (Or.inr (Or.inr (Or.inr (Or.inr (Or.inl h)))))))))) (fun h => (Or.elim h (fun h => (Or.inr (Or.inr (Or.inr (Or.inr (Or.inr (Or.inr (Or.inr (Or.inr (Or.inr (Or.inl h))))))))))) (fun h => (Or.inr (Or.inr (Or.inr (Or.inr (Or.inr (Or.inr (Or.inr (Or.inr (Or.inr (Or.inr (Or.inl h))))))))))))))))))).trans ((hfg36 k j (fun h => hk (Or.elim h (fun h => (Or.inr (Or.inr (Or.inr (Or.inr (Or.inr (Or.inl h))))))) (fun h => (Or.inr (Or.inr (Or.inr (Or.inr (Or.inr (Or.inr (Or.inl h))))))))))).trans ((hug35.2 k j (fun h => hk (Or.inr (Or.inr (Or.inr (Or.inr (Or.inl h))))))).trans ((hfg34 k j (fun h => hk (Or.elim h (fun h => (Or.inr (Or.inr (Or.inr (Or.inl h))))) (fun h => (Or.inr (Or.inr (Or.inl h))))))).trans (hfg33 k j (fun h => hk (Or.elim h (fun h => (Or.inl h)) (fun h => (Or.elim h (fun h => (Or.inr (Or.inl h))) (fun h => (Or.inr (Or.inr (Or.inl h)))))))))))))) (by decide) (by decide))
            · skip
              refine mm_g 1 (pc1 := 130) (lo1 := [some (.ref 81), some (.ref q1), some (.int (Int32.ofInt v31)), some (.int (Int32.ofInt v32))]) (st1 := [.int (Int32.ofInt 1), .ref 81]) (H1 := mz_mk g35 x) rfl ?_
              refine mz_gt (tgt := 134) rfl rfl ?_
              refine mz_cv rfl mt_4_157 (by decide) (sc_81 _) rfl (Nat.le_of_ble_eq_true rfl) (by omega) (c_X4_notsAnew (by omega) hx hIg35 (by decide) (by decide) (fun g38 hIg38 hfg38 => ⟨_, rfl, ?_⟩))
              show mm_W d mmX4_readSign 137 [some (.ref 81), some (.ref q1), some (.int (Int32.ofInt v31)), some (.int (Int32.ofInt v32))] [] (mz_mk g38 x) Q
              refine mm_g 1 (pc1 := 138) (lo1 := [some (.ref 81), some (.ref q1), some (.int (Int32.ofInt v31)), some (.int (Int32.ofInt v32))]) (st1 := [.ref 81]) (H1 := mz_mk g38 x) rfl ?_
              refine mz_fgR (v := 82) rfl fd_4_12 (by decide) (sc_81 _) (rf_81_0 _ _ _) ?_
              refine mz_cv rfl mt_4_99 (by decide) (sc_82 _) rfl (Nat.le_of_ble_eq_true rfl) (by omega) (c_X7_step (by omega) hx hIg38 (fun g39 hIg39 hfg39 => ⟨_, rfl, ?_⟩))
              show mm_W d mmX4_readSign 144 [some (.ref 81), some (.ref q1), some (.int (Int32.ofInt v31)), some (.int (Int32.ofInt v32))] [] (mz_mk g39 x) Q
              refine mm_g 1 (pc1 := 145) (lo1 := [some (.ref 81), some (.ref q1), some (.int (Int32.ofInt v31)), some (.int (Int32.ofInt v32))]) (st1 := [.int (Int32.ofInt 1)]) (H1 := mz_mk g39 x) rfl ?_
              exact mz_rtZ rfl (by decide) (by omega) (hQ _ _ hIg39 (fun k j hk => ((hfg39 k j (fun h => hk (Or.elim h (fun h => (Or.inr (Or.inr (Or.inr (Or.inr (Or.inr (Or.inr (Or.inr (Or.inl h))))))))) (fun h => (Or.elim h (fun h => (Or.inr (Or.inr (Or.inr (Or.inr (Or.inr (Or.inr (Or.inr (Or.inr (Or.inl h)))))))))) (fun h => (Or.elim h (fun h => (Or.inr (Or.inr (Or.inr (Or.inr (Or.inr (Or.inr (Or.inr (Or.inr (Or.inr (Or.inl h))))))))))) (fun h => (Or.inr (Or.inr (Or.inr (Or.inr (Or.inr (Or.inr (Or.inr (Or.inr (Or.inr (Or.inr (Or.inl h))))))))))))))))))).trans ((hfg38 k j (fun h => hk (Or.elim h (fun h => (Or.inr (Or.inr (Or.inr (Or.inr (Or.inr (Or.inl h))))))) (fun h => (Or.inr (Or.inr (Or.inr (Or.inr (Or.inr (Or.inr (Or.inl h))))))))))).trans ((hug35.2 k j (fun h => hk (Or.inr (Or.inr (Or.inr (Or.inr (Or.inl h))))))).trans ((hfg34 k j (fun h => hk (Or.elim h (fun h => (Or.inr (Or.inr (Or.inr (Or.inl h))))) (fun h => (Or.inr (Or.inr (Or.inl h))))))).trans (hfg33 k j (fun h => hk (Or.elim h (fun h => (Or.inl h)) (fun h => (Or.elim h (fun h => (Or.inr (Or.inl h))) (fun h => (Or.inr (Or.inr (Or.inl h)))))))))))))) (by decide) (by decide))
          · skip
            refine mm_g 1 (pc1 := 97) (lo1 := [some (.ref 81), some (.ref q1), some (.int (Int32.ofInt v31)), some (.int (Int32.ofInt v32))]) (st1 := [.ref 81]) (H1 := mz_mk g33 x) rfl ?_
            refine mz_cv rfl mt_4_192 (by decide) (sc_81 _) rfl (Nat.le_of_ble_eq_true rfl) (by omega) (c_X4_lastOpen (by omega) hx hIg33 (fun v40 l_v40 u_v40 => ⟨_, rfl, ?_⟩))
            show mm_W d mmX4_readSign 100 [some (.ref 81), some (.ref q1), some (.int (Int32.ofInt v31)), some (.int (Int32.ofInt v32))] [.int (Int32.ofInt v40)] (mz_mk g33 x) Q
            refine mz_cs rfl mt_4_188 (by decide) rfl (Nat.le_of_ble_eq_true rfl) (by omega) (c_X4_rankOf (by omega) hx hIg33 l_v40 u_v40 (fun v41 l_v41 u_v41 => ⟨_, rfl, ?_⟩))
            show mm_W d mmX4_readSign 103 [some (.ref 81), some (.ref q1), some (.int (Int32.ofInt v31)), some (.int (Int32.ofInt v32))] [.int (Int32.ofInt v41)] (mz_mk g33 x) Q
            refine mm_g 1 (pc1 := 104) (lo1 := [some (.ref 81), some (.ref q1), some (.int (Int32.ofInt v31)), some (.int (Int32.ofInt v32))]) (st1 := [.int (Int32.ofInt 4), .int (Int32.ofInt v41)]) (H1 := mz_mk g33 x) rfl ?_
            refine mz_ic_ne (tgt := 113) rfl rfl (mz_rg l_v41 u_v41) ⟨by decide, by decide⟩ (fun c104_41 => ?_) (fun c104_41 => ?_)
            · skip
              refine mm_g 2 (pc1 := 115) (lo1 := [some (.ref 81), some (.ref q1), some (.int (Int32.ofInt v31)), some (.int (Int32.ofInt v32))]) (st1 := [.int (Int32.ofInt v31), .ref 81]) (H1 := mz_mk g33 x) rfl ?_
              refine mz_cv rfl mt_4_174 (by decide) (sc_81 _) rfl (Nat.le_of_ble_eq_true rfl) (by omega) (c_X4_openSign (by omega) hx hIg33 (by omega) (by omega) (fun g42 hIg42 hfg42 => ⟨_, rfl, ?_⟩))
              show mm_W d mmX4_readSign 118 [some (.ref 81), some (.ref q1), some (.int (Int32.ofInt v31)), some (.int (Int32.ofInt v32))] [] (mz_mk g42 x) Q
              refine mm_g 2 (pc1 := 120) (lo1 := [some (.ref 81), some (.ref q1), some (.int (Int32.ofInt v31)), some (.int (Int32.ofInt v32))]) (st1 := [.int (Int32.ofInt 1), .ref 81]) (H1 := mz_mk g42 x) rfl ?_
              refine mz_pZ rfl fd_4_38 (sc_81 _) (by decide) hIg42 bd_81_7 (by omega) (by omega) (fun g43 hIg43 hug43 => ?_)
              refine mm_g 3 (pc1 := 126) (lo1 := [some (.ref 81), some (.ref q1), some (.int (Int32.ofInt v31)), some (.int (Int32.ofInt v32))]) (st1 := [.int (Int32.ofInt 2), .int (Int32.ofInt v32), .ref 81]) (H1 := mz_mk g43 x) rfl ?_
              refine mz_ic_gt (tgt := 133) rfl rfl (mz_rg l_v32 u_v32) ⟨by decide, by decide⟩ (fun c126_43 => ?_) (fun c126_43 => ?_)
              · skip
                refine mm_g 1 (pc1 := 134) (lo1 := [some (.ref 81), some (.ref q1), some (.int (Int32.ofInt v31)), some (.int (Int32.ofInt v32))]) (st1 := [.int (Int32.ofInt 0), .ref 81]) (H1 := mz_mk g43 x) rfl ?_
                refine mz_cv rfl mt_4_157 (by decide) (sc_81 _) rfl (Nat.le_of_ble_eq_true rfl) (by omega) (c_X4_notsAnew (by omega) hx hIg43 (by decide) (by decide) (fun g44 hIg44 hfg44 => ⟨_, rfl, ?_⟩))
                show mm_W d mmX4_readSign 137 [some (.ref 81), some (.ref q1), some (.int (Int32.ofInt v31)), some (.int (Int32.ofInt v32))] [] (mz_mk g44 x) Q
                refine mm_g 1 (pc1 := 138) (lo1 := [some (.ref 81), some (.ref q1), some (.int (Int32.ofInt v31)), some (.int (Int32.ofInt v32))]) (st1 := [.ref 81]) (H1 := mz_mk g44 x) rfl ?_
                refine mz_fgR (v := 82) rfl fd_4_12 (by decide) (sc_81 _) (rf_81_0 _ _ _) ?_
                refine mz_cv rfl mt_4_99 (by decide) (sc_82 _) rfl (Nat.le_of_ble_eq_true rfl) (by omega) (c_X7_step (by omega) hx hIg44 (fun g45 hIg45 hfg45 => ⟨_, rfl, ?_⟩))
                show mm_W d mmX4_readSign 144 [some (.ref 81), some (.ref q1), some (.int (Int32.ofInt v31)), some (.int (Int32.ofInt v32))] [] (mz_mk g45 x) Q
                refine mm_g 1 (pc1 := 145) (lo1 := [some (.ref 81), some (.ref q1), some (.int (Int32.ofInt v31)), some (.int (Int32.ofInt v32))]) (st1 := [.int (Int32.ofInt 1)]) (H1 := mz_mk g45 x) rfl ?_
                exact mz_rtZ rfl (by decide) (by omega) (hQ _ _ hIg45 (fun k j hk => ((hfg45 k j (fun h => hk (Or.elim h (fun h => (Or.inr (Or.inr (Or.inr (Or.inr (Or.inr (Or.inr (Or.inr (Or.inl h))))))))) (fun h => (Or.elim h (fun h => (Or.inr (Or.inr (Or.inr (Or.inr (Or.inr (Or.inr (Or.inr (Or.inr (Or.inl h)))))))))) (fun h => (Or.elim h (fun h => (Or.inr (Or.inr (Or.inr (Or.inr (Or.inr (Or.inr (Or.inr (Or.inr (Or.inr (Or.inl h))))))))))) (fun h => (Or.inr (Or.inr (Or.inr (Or.inr (Or.inr (Or.inr (Or.inr (Or.inr (Or.inr (Or.inr (Or.inl h))))))))))))))))))).trans ((hfg44 k j (fun h => hk (Or.elim h (fun h => (Or.inr (Or.inr (Or.inr (Or.inr (Or.inr (Or.inl h))))))) (fun h => (Or.inr (Or.inr (Or.inr (Or.inr (Or.inr (Or.inr (Or.inl h))))))))))).trans ((hug43.2 k j (fun h => hk (Or.inr (Or.inr (Or.inr (Or.inr (Or.inl h))))))).trans ((hfg42 k j (fun h => hk (Or.elim h (fun h => (Or.inr (Or.inr (Or.inr (Or.inl h))))) (fun h => (Or.inr (Or.inr (Or.inl h))))))).trans (hfg33 k j (fun h => hk (Or.elim h (fun h => (Or.inl h)) (fun h => (Or.elim h (fun h => (Or.inr (Or.inl h))) (fun h => (Or.inr (Or.inr (Or.inl h)))))))))))))) (by decide) (by decide))
              · exfalso; omega
            · skip
              refine mm_g 2 (pc1 := 109) (lo1 := [some (.ref 81), some (.ref q1), some (.int (Int32.ofInt v31)), some (.int (Int32.ofInt v32))]) (st1 := [.int (Int32.ofInt 1), .ref 81]) (H1 := mz_mk g33 x) rfl ?_
              refine mz_cv rfl mt_4_95 (by decide) (sc_81 _) rfl (Nat.le_of_ble_eq_true rfl) (by omega) (c_X4_blame (by omega) hx hIg33 (by decide) (by decide) (fun v46 g47 hIg47 hfg47 l_v46 u_v46 => ⟨_, rfl, ?_⟩))
              show mm_W d mmX4_readSign 112 [some (.ref 81), some (.ref q1), some (.int (Int32.ofInt v31)), some (.int (Int32.ofInt v32))] [.int (Int32.ofInt v46)] (mz_mk g47 x) Q
              exact mz_rtZ rfl (by decide) (by omega) (hQ _ _ hIg47 (fun k j hk => ((hfg47 k j (fun h => hk (Or.elim h (fun h => (Or.inr (Or.inr (Or.inr (Or.inr (Or.inr (Or.inr (Or.inr (Or.inr (Or.inr (Or.inr (Or.inr (Or.inl h))))))))))))) (fun h => (Or.inr (Or.inr (Or.inr (Or.inr (Or.inr (Or.inr (Or.inr (Or.inr (Or.inr (Or.inr (Or.inr (Or.inr (Or.inl h))))))))))))))))).trans (hfg33 k j (fun h => hk (Or.elim h (fun h => (Or.inl h)) (fun h => (Or.elim h (fun h => (Or.inr (Or.inl h))) (fun h => (Or.inr (Or.inr (Or.inl h))))))))))) (by omega) (by omega))
        · skip
          refine mm_g 2 (pc1 := 83) (lo1 := [some (.ref 81), some (.ref q1), some (.int (Int32.ofInt v31)), some (.int (Int32.ofInt v32))]) (st1 := [.int (Int32.ofInt 1), .int (Int32.ofInt v32), .ref q1, .ref 81]) (H1 := mz_mk g x) rfl ?_
          refine mz_iadd rfl ?_
          refine mz_gt (tgt := 88) rfl rfl ?_
          refine mz_cv rfl mt_4_170 (by decide) (sc_81 _) rfl (Nat.le_of_ble_eq_true rfl) (by omega) (c_X4_closeSigns (by omega) hx hI h_q1 (by omega) (by omega) (fun g48 hIg48 hfg48 => ⟨_, rfl, ?_⟩))
          show mm_W d mmX4_readSign 91 [some (.ref 81), some (.ref q1), some (.int (Int32.ofInt v31)), some (.int (Int32.ofInt v32))] [] (mz_mk g48 x) Q
          refine mm_g 2 (pc1 := 93) (lo1 := [some (.ref 81), some (.ref q1), some (.int (Int32.ofInt v31)), some (.int (Int32.ofInt v32))]) (st1 := [.int (Int32.ofInt 4), .int (Int32.ofInt v32)]) (H1 := mz_mk g48 x) rfl ?_
          refine mz_ic_ne (tgt := 113) rfl rfl (mz_rg l_v32 u_v32) ⟨by decide, by decide⟩ (fun c93_48 => ?_) (fun c93_48 => ?_)
          · exfalso; omega
          · skip
            refine mm_g 1 (pc1 := 97) (lo1 := [some (.ref 81), some (.ref q1), some (.int (Int32.ofInt v31)), some (.int (Int32.ofInt v32))]) (st1 := [.ref 81]) (H1 := mz_mk g48 x) rfl ?_
            refine mz_cv rfl mt_4_192 (by decide) (sc_81 _) rfl (Nat.le_of_ble_eq_true rfl) (by omega) (c_X4_lastOpen (by omega) hx hIg48 (fun v49 l_v49 u_v49 => ⟨_, rfl, ?_⟩))
            show mm_W d mmX4_readSign 100 [some (.ref 81), some (.ref q1), some (.int (Int32.ofInt v31)), some (.int (Int32.ofInt v32))] [.int (Int32.ofInt v49)] (mz_mk g48 x) Q
            refine mz_cs rfl mt_4_188 (by decide) rfl (Nat.le_of_ble_eq_true rfl) (by omega) (c_X4_rankOf (by omega) hx hIg48 l_v49 u_v49 (fun v50 l_v50 u_v50 => ⟨_, rfl, ?_⟩))
            show mm_W d mmX4_readSign 103 [some (.ref 81), some (.ref q1), some (.int (Int32.ofInt v31)), some (.int (Int32.ofInt v32))] [.int (Int32.ofInt v50)] (mz_mk g48 x) Q
            refine mm_g 1 (pc1 := 104) (lo1 := [some (.ref 81), some (.ref q1), some (.int (Int32.ofInt v31)), some (.int (Int32.ofInt v32))]) (st1 := [.int (Int32.ofInt 4), .int (Int32.ofInt v50)]) (H1 := mz_mk g48 x) rfl ?_
            refine mz_ic_ne (tgt := 113) rfl rfl (mz_rg l_v50 u_v50) ⟨by decide, by decide⟩ (fun c104_50 => ?_) (fun c104_50 => ?_)
            · skip
              refine mm_g 2 (pc1 := 115) (lo1 := [some (.ref 81), some (.ref q1), some (.int (Int32.ofInt v31)), some (.int (Int32.ofInt v32))]) (st1 := [.int (Int32.ofInt v31), .ref 81]) (H1 := mz_mk g48 x) rfl ?_
              refine mz_cv rfl mt_4_174 (by decide) (sc_81 _) rfl (Nat.le_of_ble_eq_true rfl) (by omega) (c_X4_openSign (by omega) hx hIg48 (by omega) (by omega) (fun g51 hIg51 hfg51 => ⟨_, rfl, ?_⟩))
              show mm_W d mmX4_readSign 118 [some (.ref 81), some (.ref q1), some (.int (Int32.ofInt v31)), some (.int (Int32.ofInt v32))] [] (mz_mk g51 x) Q
              refine mm_g 2 (pc1 := 120) (lo1 := [some (.ref 81), some (.ref q1), some (.int (Int32.ofInt v31)), some (.int (Int32.ofInt v32))]) (st1 := [.int (Int32.ofInt 1), .ref 81]) (H1 := mz_mk g51 x) rfl ?_
              refine mz_pZ rfl fd_4_38 (sc_81 _) (by decide) hIg51 bd_81_7 (by omega) (by omega) (fun g52 hIg52 hug52 => ?_)
              refine mm_g 3 (pc1 := 126) (lo1 := [some (.ref 81), some (.ref q1), some (.int (Int32.ofInt v31)), some (.int (Int32.ofInt v32))]) (st1 := [.int (Int32.ofInt 2), .int (Int32.ofInt v32), .ref 81]) (H1 := mz_mk g52 x) rfl ?_
              refine mz_ic_gt (tgt := 133) rfl rfl (mz_rg l_v32 u_v32) ⟨by decide, by decide⟩ (fun c126_52 => ?_) (fun c126_52 => ?_)
              · skip
                refine mm_g 1 (pc1 := 134) (lo1 := [some (.ref 81), some (.ref q1), some (.int (Int32.ofInt v31)), some (.int (Int32.ofInt v32))]) (st1 := [.int (Int32.ofInt 0), .ref 81]) (H1 := mz_mk g52 x) rfl ?_
                refine mz_cv rfl mt_4_157 (by decide) (sc_81 _) rfl (Nat.le_of_ble_eq_true rfl) (by omega) (c_X4_notsAnew (by omega) hx hIg52 (by decide) (by decide) (fun g53 hIg53 hfg53 => ⟨_, rfl, ?_⟩))
                show mm_W d mmX4_readSign 137 [some (.ref 81), some (.ref q1), some (.int (Int32.ofInt v31)), some (.int (Int32.ofInt v32))] [] (mz_mk g53 x) Q
                refine mm_g 1 (pc1 := 138) (lo1 := [some (.ref 81), some (.ref q1), some (.int (Int32.ofInt v31)), some (.int (Int32.ofInt v32))]) (st1 := [.ref 81]) (H1 := mz_mk g53 x) rfl ?_
                refine mz_fgR (v := 82) rfl fd_4_12 (by decide) (sc_81 _) (rf_81_0 _ _ _) ?_
                refine mz_cv rfl mt_4_99 (by decide) (sc_82 _) rfl (Nat.le_of_ble_eq_true rfl) (by omega) (c_X7_step (by omega) hx hIg53 (fun g54 hIg54 hfg54 => ⟨_, rfl, ?_⟩))
                show mm_W d mmX4_readSign 144 [some (.ref 81), some (.ref q1), some (.int (Int32.ofInt v31)), some (.int (Int32.ofInt v32))] [] (mz_mk g54 x) Q
                refine mm_g 1 (pc1 := 145) (lo1 := [some (.ref 81), some (.ref q1), some (.int (Int32.ofInt v31)), some (.int (Int32.ofInt v32))]) (st1 := [.int (Int32.ofInt 1)]) (H1 := mz_mk g54 x) rfl ?_
                exact mz_rtZ rfl (by decide) (by omega) (hQ _ _ hIg54 (fun k j hk => ((hfg54 k j (fun h => hk (Or.elim h (fun h => (Or.inr (Or.inr (Or.inr (Or.inr (Or.inr (Or.inr (Or.inr (Or.inl h))))))))) (fun h => (Or.elim h (fun h => (Or.inr (Or.inr (Or.inr (Or.inr (Or.inr (Or.inr (Or.inr (Or.inr (Or.inl h)))))))))) (fun h => (Or.elim h (fun h => (Or.inr (Or.inr (Or.inr (Or.inr (Or.inr (Or.inr (Or.inr (Or.inr (Or.inr (Or.inl h))))))))))) (fun h => (Or.inr (Or.inr (Or.inr (Or.inr (Or.inr (Or.inr (Or.inr (Or.inr (Or.inr (Or.inr (Or.inl h))))))))))))))))))).trans ((hfg53 k j (fun h => hk (Or.elim h (fun h => (Or.inr (Or.inr (Or.inr (Or.inr (Or.inr (Or.inl h))))))) (fun h => (Or.inr (Or.inr (Or.inr (Or.inr (Or.inr (Or.inr (Or.inl h))))))))))).trans ((hug52.2 k j (fun h => hk (Or.inr (Or.inr (Or.inr (Or.inr (Or.inl h))))))).trans ((hfg51 k j (fun h => hk (Or.elim h (fun h => (Or.inr (Or.inr (Or.inr (Or.inl h))))) (fun h => (Or.inr (Or.inr (Or.inl h))))))).trans (hfg48 k j (fun h => hk (Or.elim h (fun h => (Or.inl h)) (fun h => (Or.elim h (fun h => (Or.inr (Or.inl h))) (fun h => (Or.inr (Or.inr (Or.inl h)))))))))))))) (by decide) (by decide))
              · exfalso; omega
            · skip
              refine mm_g 2 (pc1 := 109) (lo1 := [some (.ref 81), some (.ref q1), some (.int (Int32.ofInt v31)), some (.int (Int32.ofInt v32))]) (st1 := [.int (Int32.ofInt 1), .ref 81]) (H1 := mz_mk g48 x) rfl ?_
              refine mz_cv rfl mt_4_95 (by decide) (sc_81 _) rfl (Nat.le_of_ble_eq_true rfl) (by omega) (c_X4_blame (by omega) hx hIg48 (by decide) (by decide) (fun v55 g56 hIg56 hfg56 l_v55 u_v55 => ⟨_, rfl, ?_⟩))
              show mm_W d mmX4_readSign 112 [some (.ref 81), some (.ref q1), some (.int (Int32.ofInt v31)), some (.int (Int32.ofInt v32))] [.int (Int32.ofInt v55)] (mz_mk g56 x) Q
              exact mz_rtZ rfl (by decide) (by omega) (hQ _ _ hIg56 (fun k j hk => ((hfg56 k j (fun h => hk (Or.elim h (fun h => (Or.inr (Or.inr (Or.inr (Or.inr (Or.inr (Or.inr (Or.inr (Or.inr (Or.inr (Or.inr (Or.inr (Or.inl h))))))))))))) (fun h => (Or.inr (Or.inr (Or.inr (Or.inr (Or.inr (Or.inr (Or.inr (Or.inr (Or.inr (Or.inr (Or.inr (Or.inr (Or.inl h))))))))))))))))).trans (hfg48 k j (fun h => hk (Or.elim h (fun h => (Or.inl h)) (fun h => (Or.elim h (fun h => (Or.inr (Or.inl h))) (fun h => (Or.inr (Or.inr (Or.inl h))))))))))) (by omega) (by omega))
      · skip
        refine mm_g 2 (pc1 := 70) (lo1 := [some (.ref 81), some (.ref q1), some (.int (Int32.ofInt v31)), some (.int (Int32.ofInt v32))]) (st1 := [.int (Int32.ofInt 1), .ref 81]) (H1 := mz_mk g x) rfl ?_
        refine mz_cv rfl mt_4_95 (by decide) (sc_81 _) rfl (Nat.le_of_ble_eq_true rfl) (by omega) (c_X4_blame (by omega) hx hI (by decide) (by decide) (fun v57 g58 hIg58 hfg58 l_v57 u_v57 => ⟨_, rfl, ?_⟩))
        show mm_W d mmX4_readSign 73 [some (.ref 81), some (.ref q1), some (.int (Int32.ofInt v31)), some (.int (Int32.ofInt v32))] [.int (Int32.ofInt v57)] (mz_mk g58 x) Q
        exact mz_rtZ rfl (by decide) (by omega) (hQ _ _ hIg58 (fun k j hk => (hfg58 k j (fun h => hk (Or.elim h (fun h => (Or.inr (Or.inr (Or.inr (Or.inr (Or.inr (Or.inr (Or.inr (Or.inr (Or.inr (Or.inr (Or.inr (Or.inl h))))))))))))) (fun h => (Or.inr (Or.inr (Or.inr (Or.inr (Or.inr (Or.inr (Or.inr (Or.inr (Or.inr (Or.inr (Or.inr (Or.inr (Or.inl h)))))))))))))))))) (by omega) (by omega))
    · skip
      refine mm_g 3 (pc1 := 22) (lo1 := [some (.ref 81), some (.ref q1), none, none]) (st1 := [.int (Int32.ofInt 1), .ref q1, .ref 81]) (H1 := mz_mk g x) rfl ?_
      refine mz_cv rfl mt_4_170 (by decide) (sc_81 _) rfl (Nat.le_of_ble_eq_true rfl) (by omega) (c_X4_closeSigns (by omega) hx hI h_q1 (by decide) (by decide) (fun g59 hIg59 hfg59 => ⟨_, rfl, ?_⟩))
      show mm_W d mmX4_readSign 25 [some (.ref 81), some (.ref q1), none, none] [] (mz_mk g59 x) Q
      refine mm_g 2 (pc1 := 27) (lo1 := [some (.ref 81), some (.ref q1), none, none]) (st1 := [.ref 81, .ref 81]) (H1 := mz_mk g59 x) rfl ?_
      refine mz_gI rfl fd_4_29 (by decide) (sc_81 _) hIg59 bd_81_4 (fun v60 e_v60 l_v60 u_v60 => ?_)
      refine mm_g 1 (pc1 := 31) (lo1 := [some (.ref 81), some (.ref q1), none, none]) (st1 := [.int (Int32.ofInt 1), .int (Int32.ofInt v60), .ref 81]) (H1 := mz_mk g59 x) rfl ?_
      refine mz_isub_w rfl (fun v61 _ hwv61 => ?_)
      have l_v61 := hwv61.1
      have u_v61 := hwv61.2
      refine mz_pI rfl fd_4_29 (sc_81 _) hIg59 bd_81_4 (by omega) (by omega) (fun g62 hIg62 hug62 => ?_)
      refine mm_g 2 (pc1 := 37) (lo1 := [some (.ref 81), some (.ref q1), none, none]) (st1 := [.ref 81, .ref 81]) (H1 := mz_mk g62 x) rfl ?_
      refine mz_fgI (v := v30) rfl fd_4_32 (by decide) (sc_81 _) (show g62 81 5 = v30 from ((hug62.2 81 5 (fun h => absurd h.2 (by decide))).trans ((hfg59 81 5 (fun h => (Or.elim h (fun h => (by have h9 : 81 = (q1 + 1) := h; omega)) (fun h => (Or.elim h (fun h => (by have h9 : 81 = q1 := h; omega)) (fun h => (absurd (show (81 = 81 ∧ 5 = 4) from h) (by decide)))))))).trans e_v30))) ?_
      refine mm_g 1 (pc1 := 41) (lo1 := [some (.ref 81), some (.ref q1), none, none]) (st1 := [.int (Int32.ofInt 1), .int (Int32.ofInt v30), .ref 81]) (H1 := mz_mk g62 x) rfl ?_
      refine mz_isub rfl ?_
      refine mz_pI rfl fd_4_32 (sc_81 _) hIg62 bd_81_5 (by omega) (by omega) (fun g63 hIg63 hug63 => ?_)
      refine mm_g 1 (pc1 := 46) (lo1 := [some (.ref 81), some (.ref q1), none, none]) (st1 := [.ref 81]) (H1 := mz_mk g63 x) rfl ?_
      refine mz_fgR (v := 82) rfl fd_4_12 (by decide) (sc_81 _) (rf_81_0 _ _ _) ?_
      refine mz_cv rfl mt_4_99 (by decide) (sc_82 _) rfl (Nat.le_of_ble_eq_true rfl) (by omega) (c_X7_step (by omega) hx hIg63 (fun g64 hIg64 hfg64 => ⟨_, rfl, ?_⟩))
      show mm_W d mmX4_readSign 52 [some (.ref 81), some (.ref q1), none, none] [] (mz_mk g64 x) Q
      refine mm_g 1 (pc1 := 53) (lo1 := [some (.ref 81), some (.ref q1), none, none]) (st1 := [.int (Int32.ofInt 1)]) (H1 := mz_mk g64 x) rfl ?_
      exact mz_rtZ rfl (by decide) (by omega) (hQ _ _ hIg64 (fun k j hk => ((hfg64 k j (fun h => hk (Or.elim h (fun h => (Or.inr (Or.inr (Or.inr (Or.inr (Or.inr (Or.inr (Or.inr (Or.inl h))))))))) (fun h => (Or.elim h (fun h => (Or.inr (Or.inr (Or.inr (Or.inr (Or.inr (Or.inr (Or.inr (Or.inr (Or.inl h)))))))))) (fun h => (Or.elim h (fun h => (Or.inr (Or.inr (Or.inr (Or.inr (Or.inr (Or.inr (Or.inr (Or.inr (Or.inr (Or.inl h))))))))))) (fun h => (Or.inr (Or.inr (Or.inr (Or.inr (Or.inr (Or.inr (Or.inr (Or.inr (Or.inr (Or.inr (Or.inl h))))))))))))))))))).trans ((hug63.2 k j (fun h => hk (Or.inr (Or.inr (Or.inr (Or.inr (Or.inr (Or.inr (Or.inr (Or.inr (Or.inr (Or.inr (Or.inr (Or.inr (Or.inr h))))))))))))))).trans ((hug62.2 k j (fun h => hk (Or.inr (Or.inr (Or.inl h))))).trans (hfg59 k j (fun h => hk (Or.elim h (fun h => (Or.inl h)) (fun h => (Or.elim h (fun h => (Or.inr (Or.inl h))) (fun h => (Or.inr (Or.inr (Or.inl h))))))))))))) (by decide) (by decide))
def fl_X4_readGrows_44 (x : mm_X) (q1 : Nat) : Nat → Nat → Prop := fun k j => k = (q1 + 1) ∨ k = q1 ∨ (k = 81 ∧ j = 7) ∨ (k = 82 ∧ j = 3) ∨ (k = 82 ∧ j = 5) ∨ (k = 82 ∧ j = 6) ∨ (k = 82 ∧ j = 4) ∨ (k = 81 ∧ j = 1) ∨ (k = 81 ∧ j = 2) ∨ (k = 81 ∧ j = 6) ∨ k = 84 ∨ (k = 81 ∧ j = 4) ∨ (k = 81 ∧ j = 5) ∨ (k = 81 ∧ j = 8)
def fw_X4_readGrows (x : mm_X) (q1 : Nat) : Nat → Nat → Prop := fun k j => (k = 82 ∧ j = 3) ∨ (k = 82 ∧ j = 5) ∨ (k = 82 ∧ j = 6) ∨ (k = 82 ∧ j = 4) ∨ (k = 81 ∧ j = 4) ∨ (k = 81 ∧ j = 5) ∨ (k = 81 ∧ j = 7) ∨ (k = 81 ∧ j = 8) ∨ (k = 81 ∧ j = 6) ∨ k = (q1 + 1) ∨ k = q1 ∨ (k = 81 ∧ j = 1) ∨ (k = 81 ∧ j = 2) ∨ k = 84
theorem c_X4_readGrows {d : Nat} (hd : 8 ≤ d) {x : mm_X} (hx : mk_x x) {g : mz_G} (hI : mz_inv g) {q1 : Nat} (h_q1 : kd_rule q1) {Q : (Option Value ⊕ Nat) → mm_H → Prop} (hQ : ∀ (r : Int) (g1 : mz_G), mz_inv g1 → mz_fr (fw_X4_readGrows x q1) g g1 → 0 ≤ r → r ≤ 1 → Q (.inl (some (.int (Int32.ofInt r)))) (mz_mk g1 x)) : mm_C d 46 [.ref 81, .ref q1] (mz_mk g x) Q := by
  have kn_q1 := kn_rule h_q1
  refine ⟨mmX4_readGrows, [some (.ref 81), some (.ref q1), none, none], rfl, rfl, ?_⟩
  refine mm_g 1 (pc1 := 1) (lo1 := [some (.ref 81), some (.ref q1), none, none]) (st1 := [.ref q1]) (H1 := mz_mk g x) rfl ?_
  refine mz_cv rfl mt_4_151 (by decide) (kc_rule h_q1 _) rfl (Nat.le_of_ble_eq_true rfl) (by omega) (c_X5_isTold (by omega) hx hI h_q1 (fun v1 l_v1 u_v1 => ⟨_, rfl, ?_⟩))
  show mm_W d mmX4_readGrows 4 [some (.ref 81), some (.ref q1), none, none] [.int (Int32.ofInt v1)] (mz_mk g x) Q
  refine mz_if_eq (tgt := 13) rfl rfl (mz_rg l_v1 u_v1) (fun c4_1 => ?_) (fun c4_1 => ?_)
  · skip
    refine mm_g 1 (pc1 := 14) (lo1 := [some (.ref 81), some (.ref q1), none, none]) (st1 := [.ref 81]) (H1 := mz_mk g x) rfl ?_
    refine mz_fgR (v := 82) rfl fd_4_12 (by decide) (sc_81 _) (rf_81_0 _ _ _) ?_
    refine mz_cv rfl mt_4_99 (by decide) (sc_82 _) rfl (Nat.le_of_ble_eq_true rfl) (by omega) (c_X7_step (by omega) hx hI (fun g2 hIg2 hfg2 => ⟨_, rfl, ?_⟩))
    show mm_W d mmX4_readGrows 20 [some (.ref 81), some (.ref q1), none, none] [] (mz_mk g2 x) Q
    refine mm_g 2 (pc1 := 22) (lo1 := [some (.ref 81), some (.ref q1), none, none]) (st1 := [.int (Int32.ofInt 0), .ref 81]) (H1 := mz_mk g2 x) rfl ?_
    refine mz_pI rfl fd_4_29 (sc_81 _) hIg2 bd_81_4 (by omega) (by omega) (fun g3 hIg3 hug3 => ?_)
    refine mm_g 2 (pc1 := 27) (lo1 := [some (.ref 81), some (.ref q1), none, none]) (st1 := [.int (Int32.ofInt 0), .ref 81]) (H1 := mz_mk g3 x) rfl ?_
    refine mz_pI rfl fd_4_32 (sc_81 _) hIg3 bd_81_5 (by omega) (by omega) (fun g4 hIg4 hug4 => ?_)
    refine mm_g 2 (pc1 := 32) (lo1 := [some (.ref 81), some (.ref q1), none, none]) (st1 := [.int (Int32.ofInt 1), .ref 81]) (H1 := mz_mk g4 x) rfl ?_
    refine mz_pZ rfl fd_4_38 (sc_81 _) (by decide) hIg4 bd_81_7 (by omega) (by omega) (fun g5 hIg5 hug5 => ?_)
    refine mm_g 2 (pc1 := 37) (lo1 := [some (.ref 81), some (.ref q1), none, none]) (st1 := [.int (Int32.ofInt 1), .ref 81]) (H1 := mz_mk g5 x) rfl ?_
    refine mz_cv rfl mt_4_157 (by decide) (sc_81 _) rfl (Nat.le_of_ble_eq_true rfl) (by omega) (c_X4_notsAnew (by omega) hx hIg5 (by decide) (by decide) (fun g6 hIg6 hfg6 => ⟨_, rfl, ?_⟩))
    show mm_W d mmX4_readGrows 40 [some (.ref 81), some (.ref q1), none, none] [] (mz_mk g6 x) Q
    refine mm_g 4 (pc1 := 44) (lo1 := [some (.ref 81), some (.ref q1), some (.int (Int32.ofInt 1)), some (.int (Int32.ofInt 0))]) (st1 := []) (H1 := mz_mk g6 x) rfl ?_
    have L12 : ∀ n11 : Nat, ∀ (v7 : Int) (v8 : Int) (g9 : mz_G), (701 - v8).toNat = n11 → 0 ≤ v7 → v7 ≤ 1 → 0 ≤ v8 → v8 ≤ 701 → mz_inv g9 → mz_fr (fl_X4_readGrows_44 x q1) g6 g9 → mm_W d mmX4_readGrows 44 [some (.ref 81), some (.ref q1), some (.int (Int32.ofInt v7)), some (.int (Int32.ofInt v8))] [] (mz_mk g9 x) Q := by
      intro n11
      induction n11 using Nat.strongRecOn with
      | ind n11 ih10 =>
      intro v7 v8 g9 hmn11 l_v7 u_v7 l_v8 u_v8 hIg9 hfg9
      refine mm_g 1 (pc1 := 45) (lo1 := [some (.ref 81), some (.ref q1), some (.int (Int32.ofInt v7)), some (.int (Int32.ofInt v8))]) (st1 := [.int (Int32.ofInt v8)]) (H1 := mz_mk g9 x) rfl ?_
      refine mz_sip rfl sip_700 ?_
      refine mz_ic_gt (tgt := 89) rfl rfl (mz_rg l_v8 u_v8) ⟨by decide, by decide⟩ (fun c48_12 => ?_) (fun c48_12 => ?_)
      · skip
        refine mm_g 3 (pc1 := 92) (lo1 := [some (.ref 81), some (.ref q1), some (.int (Int32.ofInt v7)), some (.int (Int32.ofInt v8))]) (st1 := [.int (Int32.ofInt 1), .ref q1, .ref 81]) (H1 := mz_mk g9 x) rfl ?_
        refine mz_cv rfl mt_4_170 (by decide) (sc_81 _) rfl (Nat.le_of_ble_eq_true rfl) (by omega) (c_X4_closeSigns (by omega) hx hIg9 h_q1 (by decide) (by decide) (fun g13 hIg13 hfg13 => ⟨_, rfl, ?_⟩))
        show mm_W d mmX4_readGrows 95 [some (.ref 81), some (.ref q1), some (.int (Int32.ofInt v7)), some (.int (Int32.ofInt v8))] [] (mz_mk g13 x) Q
        refine mm_g 1 (pc1 := 96) (lo1 := [some (.ref 81), some (.ref q1), some (.int (Int32.ofInt v7)), some (.int (Int32.ofInt v8))]) (st1 := [.int (Int32.ofInt v7)]) (H1 := mz_mk g13 x) rfl ?_
        exact mz_rtZ rfl (by decide) (by omega) (hQ _ _ hIg13 (fun k j hk => ((hfg13 k j (fun h => hk (Or.elim h (fun h => (Or.inr (Or.inr (Or.inr (Or.inr (Or.inr (Or.inr (Or.inr (Or.inr (Or.inr (Or.inl h))))))))))) (fun h => (Or.elim h (fun h => (Or.inr (Or.inr (Or.inr (Or.inr (Or.inr (Or.inr (Or.inr (Or.inr (Or.inr (Or.inr (Or.inl h)))))))))))) (fun h => (Or.inr (Or.inr (Or.inr (Or.inr (Or.inl h))))))))))).trans ((hfg9 k j (fun h => hk (Or.elim h (fun h => (Or.inr (Or.inr (Or.inr (Or.inr (Or.inr (Or.inr (Or.inr (Or.inr (Or.inr (Or.inl h))))))))))) (fun h => (Or.elim h (fun h => (Or.inr (Or.inr (Or.inr (Or.inr (Or.inr (Or.inr (Or.inr (Or.inr (Or.inr (Or.inr (Or.inl h)))))))))))) (fun h => (Or.elim h (fun h => (Or.inr (Or.inr (Or.inr (Or.inr (Or.inr (Or.inr (Or.inl h)))))))) (fun h => (Or.elim h (fun h => (Or.inl h)) (fun h => (Or.elim h (fun h => (Or.inr (Or.inl h))) (fun h => (Or.elim h (fun h => (Or.inr (Or.inr (Or.inl h)))) (fun h => (Or.elim h (fun h => (Or.inr (Or.inr (Or.inr (Or.inl h))))) (fun h => (Or.elim h (fun h => (Or.inr (Or.inr (Or.inr (Or.inr (Or.inr (Or.inr (Or.inr (Or.inr (Or.inr (Or.inr (Or.inr (Or.inl h))))))))))))) (fun h => (Or.elim h (fun h => (Or.inr (Or.inr (Or.inr (Or.inr (Or.inr (Or.inr (Or.inr (Or.inr (Or.inr (Or.inr (Or.inr (Or.inr (Or.inl h)))))))))))))) (fun h => (Or.elim h (fun h => (Or.inr (Or.inr (Or.inr (Or.inr (Or.inr (Or.inr (Or.inr (Or.inr (Or.inl h)))))))))) (fun h => (Or.elim h (fun h => (Or.inr (Or.inr (Or.inr (Or.inr (Or.inr (Or.inr (Or.inr (Or.inr (Or.inr (Or.inr (Or.inr (Or.inr (Or.inr h)))))))))))))) (fun h => (Or.elim h (fun h => (Or.inr (Or.inr (Or.inr (Or.inr (Or.inl h)))))) (fun h => (Or.elim h (fun h => (Or.inr (Or.inr (Or.inr (Or.inr (Or.inr (Or.inl h))))))) (fun h => (Or.inr (Or.inr (Or.inr (Or.inr (Or.inr (Or.inr (Or.inr (Or.inl h)))))))))))))))))))))))))))))))))))).trans ((hfg6 k j (fun h => hk (Or.elim h (fun h => (Or.inr (Or.inr (Or.inr (Or.inr (Or.inr (Or.inr (Or.inr (Or.inl h))))))))) (fun h => (Or.inr (Or.inr (Or.inr (Or.inr (Or.inr (Or.inr (Or.inr (Or.inr (Or.inl h))))))))))))).trans ((hug5.2 k j (fun h => hk (Or.inr (Or.inr (Or.inr (Or.inr (Or.inr (Or.inr (Or.inl h))))))))).trans ((hug4.2 k j (fun h => hk (Or.inr (Or.inr (Or.inr (Or.inr (Or.inr (Or.inl h)))))))).trans ((hug3.2 k j (fun h => hk (Or.inr (Or.inr (Or.inr (Or.inr (Or.inl h))))))).trans (hfg2 k j (fun h => hk (Or.elim h (fun h => (Or.inl h)) (fun h => (Or.elim h (fun h => (Or.inr (Or.inl h))) (fun h => (Or.elim h (fun h => (Or.inr (Or.inr (Or.inl h)))) (fun h => (Or.inr (Or.inr (Or.inr (Or.inl h))))))))))))))))))) (by omega) (by omega))
      · skip
        refine mm_g 1 (pc1 := 52) (lo1 := [some (.ref 81), some (.ref q1), some (.int (Int32.ofInt v7)), some (.int (Int32.ofInt v8))]) (st1 := [.int (Int32.ofInt v7)]) (H1 := mz_mk g9 x) rfl ?_
        refine mz_if_eq (tgt := 89) rfl rfl (mz_rg l_v7 u_v7) (fun c52_13 => ?_) (fun c52_13 => ?_)
        · skip
          refine mm_g 3 (pc1 := 92) (lo1 := [some (.ref 81), some (.ref q1), some (.int (Int32.ofInt v7)), some (.int (Int32.ofInt v8))]) (st1 := [.int (Int32.ofInt 1), .ref q1, .ref 81]) (H1 := mz_mk g9 x) rfl ?_
          refine mz_cv rfl mt_4_170 (by decide) (sc_81 _) rfl (Nat.le_of_ble_eq_true rfl) (by omega) (c_X4_closeSigns (by omega) hx hIg9 h_q1 (by decide) (by decide) (fun g14 hIg14 hfg14 => ⟨_, rfl, ?_⟩))
          show mm_W d mmX4_readGrows 95 [some (.ref 81), some (.ref q1), some (.int (Int32.ofInt v7)), some (.int (Int32.ofInt v8))] [] (mz_mk g14 x) Q
          refine mm_g 1 (pc1 := 96) (lo1 := [some (.ref 81), some (.ref q1), some (.int (Int32.ofInt v7)), some (.int (Int32.ofInt v8))]) (st1 := [.int (Int32.ofInt v7)]) (H1 := mz_mk g14 x) rfl ?_
          exact mz_rtZ rfl (by decide) (by omega) (hQ _ _ hIg14 (fun k j hk => ((hfg14 k j (fun h => hk (Or.elim h (fun h => (Or.inr (Or.inr (Or.inr (Or.inr (Or.inr (Or.inr (Or.inr (Or.inr (Or.inr (Or.inl h))))))))))) (fun h => (Or.elim h (fun h => (Or.inr (Or.inr (Or.inr (Or.inr (Or.inr (Or.inr (Or.inr (Or.inr (Or.inr (Or.inr (Or.inl h)))))))))))) (fun h => (Or.inr (Or.inr (Or.inr (Or.inr (Or.inl h))))))))))).trans ((hfg9 k j (fun h => hk (Or.elim h (fun h => (Or.inr (Or.inr (Or.inr (Or.inr (Or.inr (Or.inr (Or.inr (Or.inr (Or.inr (Or.inl h))))))))))) (fun h => (Or.elim h (fun h => (Or.inr (Or.inr (Or.inr (Or.inr (Or.inr (Or.inr (Or.inr (Or.inr (Or.inr (Or.inr (Or.inl h)))))))))))) (fun h => (Or.elim h (fun h => (Or.inr (Or.inr (Or.inr (Or.inr (Or.inr (Or.inr (Or.inl h)))))))) (fun h => (Or.elim h (fun h => (Or.inl h)) (fun h => (Or.elim h (fun h => (Or.inr (Or.inl h))) (fun h => (Or.elim h (fun h => (Or.inr (Or.inr (Or.inl h)))) (fun h => (Or.elim h (fun h => (Or.inr (Or.inr (Or.inr (Or.inl h))))) (fun h => (Or.elim h (fun h => (Or.inr (Or.inr (Or.inr (Or.inr (Or.inr (Or.inr (Or.inr (Or.inr (Or.inr (Or.inr (Or.inr (Or.inl h))))))))))))) (fun h => (Or.elim h (fun h => (Or.inr (Or.inr (Or.inr (Or.inr (Or.inr (Or.inr (Or.inr (Or.inr (Or.inr (Or.inr (Or.inr (Or.inr (Or.inl h)))))))))))))) (fun h => (Or.elim h (fun h => (Or.inr (Or.inr (Or.inr (Or.inr (Or.inr (Or.inr (Or.inr (Or.inr (Or.inl h)))))))))) (fun h => (Or.elim h (fun h => (Or.inr (Or.inr (Or.inr (Or.inr (Or.inr (Or.inr (Or.inr (Or.inr (Or.inr (Or.inr (Or.inr (Or.inr (Or.inr h)))))))))))))) (fun h => (Or.elim h (fun h => (Or.inr (Or.inr (Or.inr (Or.inr (Or.inl h)))))) (fun h => (Or.elim h (fun h => (Or.inr (Or.inr (Or.inr (Or.inr (Or.inr (Or.inl h))))))) (fun h => (Or.inr (Or.inr (Or.inr (Or.inr (Or.inr (Or.inr (Or.inr (Or.inl h)))))))))))))))))))))))))))))))))))).trans ((hfg6 k j (fun h => hk (Or.elim h (fun h => (Or.inr (Or.inr (Or.inr (Or.inr (Or.inr (Or.inr (Or.inr (Or.inl h))))))))) (fun h => (Or.inr (Or.inr (Or.inr (Or.inr (Or.inr (Or.inr (Or.inr (Or.inr (Or.inl h))))))))))))).trans ((hug5.2 k j (fun h => hk (Or.inr (Or.inr (Or.inr (Or.inr (Or.inr (Or.inr (Or.inl h))))))))).trans ((hug4.2 k j (fun h => hk (Or.inr (Or.inr (Or.inr (Or.inr (Or.inr (Or.inl h)))))))).trans ((hug3.2 k j (fun h => hk (Or.inr (Or.inr (Or.inr (Or.inr (Or.inl h))))))).trans (hfg2 k j (fun h => hk (Or.elim h (fun h => (Or.inl h)) (fun h => (Or.elim h (fun h => (Or.inr (Or.inl h))) (fun h => (Or.elim h (fun h => (Or.inr (Or.inr (Or.inl h)))) (fun h => (Or.inr (Or.inr (Or.inr (Or.inl h))))))))))))))))))) (by omega) (by omega))
        · skip
          refine mm_g 1 (pc1 := 56) (lo1 := [some (.ref 81), some (.ref q1), some (.int (Int32.ofInt v7)), some (.int (Int32.ofInt v8))]) (st1 := [.ref 81]) (H1 := mz_mk g9 x) rfl ?_
          refine mz_cv rfl mt_4_161 (by decide) (sc_81 _) rfl (Nat.le_of_ble_eq_true rfl) (by omega) (c_X4_exprEnds (by omega) hx hIg9 (fun v15 l_v15 u_v15 => ⟨_, rfl, ?_⟩))
          show mm_W d mmX4_readGrows 59 [some (.ref 81), some (.ref q1), some (.int (Int32.ofInt v7)), some (.int (Int32.ofInt v8))] [.int (Int32.ofInt v15)] (mz_mk g9 x) Q
          refine mz_if_ne (tgt := 89) rfl rfl (mz_rg l_v15 u_v15) (fun c59_15 => ?_) (fun c59_15 => ?_)
          · skip
            refine mm_g 3 (pc1 := 92) (lo1 := [some (.ref 81), some (.ref q1), some (.int (Int32.ofInt v7)), some (.int (Int32.ofInt v8))]) (st1 := [.int (Int32.ofInt 1), .ref q1, .ref 81]) (H1 := mz_mk g9 x) rfl ?_
            refine mz_cv rfl mt_4_170 (by decide) (sc_81 _) rfl (Nat.le_of_ble_eq_true rfl) (by omega) (c_X4_closeSigns (by omega) hx hIg9 h_q1 (by decide) (by decide) (fun g16 hIg16 hfg16 => ⟨_, rfl, ?_⟩))
            show mm_W d mmX4_readGrows 95 [some (.ref 81), some (.ref q1), some (.int (Int32.ofInt v7)), some (.int (Int32.ofInt v8))] [] (mz_mk g16 x) Q
            refine mm_g 1 (pc1 := 96) (lo1 := [some (.ref 81), some (.ref q1), some (.int (Int32.ofInt v7)), some (.int (Int32.ofInt v8))]) (st1 := [.int (Int32.ofInt v7)]) (H1 := mz_mk g16 x) rfl ?_
            exact mz_rtZ rfl (by decide) (by omega) (hQ _ _ hIg16 (fun k j hk => ((hfg16 k j (fun h => hk (Or.elim h (fun h => (Or.inr (Or.inr (Or.inr (Or.inr (Or.inr (Or.inr (Or.inr (Or.inr (Or.inr (Or.inl h))))))))))) (fun h => (Or.elim h (fun h => (Or.inr (Or.inr (Or.inr (Or.inr (Or.inr (Or.inr (Or.inr (Or.inr (Or.inr (Or.inr (Or.inl h)))))))))))) (fun h => (Or.inr (Or.inr (Or.inr (Or.inr (Or.inl h))))))))))).trans ((hfg9 k j (fun h => hk (Or.elim h (fun h => (Or.inr (Or.inr (Or.inr (Or.inr (Or.inr (Or.inr (Or.inr (Or.inr (Or.inr (Or.inl h))))))))))) (fun h => (Or.elim h (fun h => (Or.inr (Or.inr (Or.inr (Or.inr (Or.inr (Or.inr (Or.inr (Or.inr (Or.inr (Or.inr (Or.inl h)))))))))))) (fun h => (Or.elim h (fun h => (Or.inr (Or.inr (Or.inr (Or.inr (Or.inr (Or.inr (Or.inl h)))))))) (fun h => (Or.elim h (fun h => (Or.inl h)) (fun h => (Or.elim h (fun h => (Or.inr (Or.inl h))) (fun h => (Or.elim h (fun h => (Or.inr (Or.inr (Or.inl h)))) (fun h => (Or.elim h (fun h => (Or.inr (Or.inr (Or.inr (Or.inl h))))) (fun h => (Or.elim h (fun h => (Or.inr (Or.inr (Or.inr (Or.inr (Or.inr (Or.inr (Or.inr (Or.inr (Or.inr (Or.inr (Or.inr (Or.inl h))))))))))))) (fun h => (Or.elim h (fun h => (Or.inr (Or.inr (Or.inr (Or.inr (Or.inr (Or.inr (Or.inr (Or.inr (Or.inr (Or.inr (Or.inr (Or.inr (Or.inl h)))))))))))))) (fun h => (Or.elim h (fun h => (Or.inr (Or.inr (Or.inr (Or.inr (Or.inr (Or.inr (Or.inr (Or.inr (Or.inl h)))))))))) (fun h => (Or.elim h (fun h => (Or.inr (Or.inr (Or.inr (Or.inr (Or.inr (Or.inr (Or.inr (Or.inr (Or.inr (Or.inr (Or.inr (Or.inr (Or.inr h)))))))))))))) (fun h => (Or.elim h (fun h => (Or.inr (Or.inr (Or.inr (Or.inr (Or.inl h)))))) (fun h => (Or.elim h (fun h => (Or.inr (Or.inr (Or.inr (Or.inr (Or.inr (Or.inl h))))))) (fun h => (Or.inr (Or.inr (Or.inr (Or.inr (Or.inr (Or.inr (Or.inr (Or.inl h)))))))))))))))))))))))))))))))))))).trans ((hfg6 k j (fun h => hk (Or.elim h (fun h => (Or.inr (Or.inr (Or.inr (Or.inr (Or.inr (Or.inr (Or.inr (Or.inl h))))))))) (fun h => (Or.inr (Or.inr (Or.inr (Or.inr (Or.inr (Or.inr (Or.inr (Or.inr (Or.inl h))))))))))))).trans ((hug5.2 k j (fun h => hk (Or.inr (Or.inr (Or.inr (Or.inr (Or.inr (Or.inr (Or.inl h))))))))).trans ((hug4.2 k j (fun h => hk (Or.inr (Or.inr (Or.inr (Or.inr (Or.inr (Or.inl h)))))))).trans ((hug3.2 k j (fun h => hk (Or.inr (Or.inr (Or.inr (Or.inr (Or.inl h))))))).trans (hfg2 k j (fun h => hk (Or.elim h (fun h => (Or.inl h)) (fun h => (Or.elim h (fun h => (Or.inr (Or.inl h))) (fun h => (Or.elim h (fun h => (Or.inr (Or.inr (Or.inl h)))) (fun h => (Or.inr (Or.inr (Or.inr (Or.inl h))))))))))))))))))) (by omega) (by omega))
          · skip
            refine mm_g 1 (pc1 := 63) (lo1 := [some (.ref 81), some (.ref q1), some (.int (Int32.ofInt v7)), some (.int (Int32.ofInt v8))]) (st1 := [.ref 81]) (H1 := mz_mk g9 x) rfl ?_
            refine mz_gI rfl fd_4_38 (by decide) (sc_81 _) hIg9 bd_81_7 (fun v17 e_v17 l_v17 u_v17 => ?_)
            refine mz_if_eq (tgt := 77) rfl rfl (mz_rg l_v17 u_v17) (fun c66_17 => ?_) (fun c66_17 => ?_)
            · skip
              refine mm_g 2 (pc1 := 79) (lo1 := [some (.ref 81), some (.ref q1), some (.int (Int32.ofInt v7)), some (.int (Int32.ofInt v8))]) (st1 := [.ref q1, .ref 81]) (H1 := mz_mk g9 x) rfl ?_
              refine mz_cv rfl mt_4_167 (by decide) (sc_81 _) rfl (Nat.le_of_ble_eq_true rfl) (by omega) (c_X4_readSign (by omega) hx hIg9 h_q1 (fun v18 g19 hIg19 hfg19 l_v18 u_v18 => ⟨_, rfl, ?_⟩))
              show mm_W d mmX4_readGrows 82 [some (.ref 81), some (.ref q1), some (.int (Int32.ofInt v7)), some (.int (Int32.ofInt v8))] [.int (Int32.ofInt v18)] (mz_mk g19 x) Q
              refine mm_g 1 (pc1 := 83) (lo1 := [some (.ref 81), some (.ref q1), some (.int (Int32.ofInt v18)), some (.int (Int32.ofInt v8))]) (st1 := []) (H1 := mz_mk g19 x) rfl ?_
              refine mz_iincR (v := v8) (lo2 := [some (.ref 81), some (.ref q1), some (.int (Int32.ofInt v18)), some (.int (Int32.ofInt (v8 + 1)))]) rfl rfl rfl (Nat.le_of_ble_eq_true rfl) rfl ?_
              refine mz_gt (tgt := 44) rfl rfl ?_
              exact ih10 ((701 - (v8 + 1)).toNat) (by omega) v18 (v8 + 1) g19 rfl (by omega) (by omega) (by omega) (by omega) hIg19 (fun k j hk => ((hfg19 k j (fun h => hk (Or.elim h (fun h => (Or.inl h)) (fun h => (Or.elim h (fun h => (Or.inr (Or.inl h))) (fun h => (Or.elim h (fun h => (Or.inr (Or.inr (Or.inr (Or.inr (Or.inr (Or.inr (Or.inr (Or.inr (Or.inr (Or.inr (Or.inr (Or.inl h))))))))))))) (fun h => (Or.elim h (fun h => (Or.inr (Or.inr (Or.inr (Or.inr (Or.inr (Or.inr (Or.inr (Or.inr (Or.inr (Or.inr (Or.inl h)))))))))))) (fun h => (Or.elim h (fun h => (Or.inr (Or.inr (Or.inl h)))) (fun h => (Or.elim h (fun h => (Or.inr (Or.inr (Or.inr (Or.inr (Or.inr (Or.inr (Or.inr (Or.inr (Or.inr (Or.inr (Or.inr (Or.inr (Or.inr h)))))))))))))) (fun h => (Or.elim h (fun h => (Or.inr (Or.inr (Or.inr (Or.inr (Or.inr (Or.inr (Or.inr (Or.inr (Or.inr (Or.inl h))))))))))) (fun h => (Or.elim h (fun h => (Or.inr (Or.inr (Or.inr (Or.inl h))))) (fun h => (Or.elim h (fun h => (Or.inr (Or.inr (Or.inr (Or.inr (Or.inl h)))))) (fun h => (Or.elim h (fun h => (Or.inr (Or.inr (Or.inr (Or.inr (Or.inr (Or.inl h))))))) (fun h => (Or.elim h (fun h => (Or.inr (Or.inr (Or.inr (Or.inr (Or.inr (Or.inr (Or.inl h)))))))) (fun h => (Or.elim h (fun h => (Or.inr (Or.inr (Or.inr (Or.inr (Or.inr (Or.inr (Or.inr (Or.inl h))))))))) (fun h => (Or.elim h (fun h => (Or.inr (Or.inr (Or.inr (Or.inr (Or.inr (Or.inr (Or.inr (Or.inr (Or.inl h)))))))))) (fun h => (Or.inr (Or.inr (Or.inr (Or.inr (Or.inr (Or.inr (Or.inr (Or.inr (Or.inr (Or.inr (Or.inr (Or.inr (Or.inl h))))))))))))))))))))))))))))))))))))))))).trans (hfg9 k j (fun h => hk (Or.elim h (fun h => (Or.inl h)) (fun h => (Or.elim h (fun h => (Or.inr (Or.inl h))) (fun h => (Or.elim h (fun h => (Or.inr (Or.inr (Or.inl h)))) (fun h => (Or.elim h (fun h => (Or.inr (Or.inr (Or.inr (Or.inl h))))) (fun h => (Or.elim h (fun h => (Or.inr (Or.inr (Or.inr (Or.inr (Or.inl h)))))) (fun h => (Or.elim h (fun h => (Or.inr (Or.inr (Or.inr (Or.inr (Or.inr (Or.inl h))))))) (fun h => (Or.elim h (fun h => (Or.inr (Or.inr (Or.inr (Or.inr (Or.inr (Or.inr (Or.inl h)))))))) (fun h => (Or.elim h (fun h => (Or.inr (Or.inr (Or.inr (Or.inr (Or.inr (Or.inr (Or.inr (Or.inl h))))))))) (fun h => (Or.elim h (fun h => (Or.inr (Or.inr (Or.inr (Or.inr (Or.inr (Or.inr (Or.inr (Or.inr (Or.inl h)))))))))) (fun h => (Or.elim h (fun h => (Or.inr (Or.inr (Or.inr (Or.inr (Or.inr (Or.inr (Or.inr (Or.inr (Or.inr (Or.inl h))))))))))) (fun h => (Or.elim h (fun h => (Or.inr (Or.inr (Or.inr (Or.inr (Or.inr (Or.inr (Or.inr (Or.inr (Or.inr (Or.inr (Or.inl h)))))))))))) (fun h => (Or.elim h (fun h => (Or.inr (Or.inr (Or.inr (Or.inr (Or.inr (Or.inr (Or.inr (Or.inr (Or.inr (Or.inr (Or.inr (Or.inl h))))))))))))) (fun h => (Or.elim h (fun h => (Or.inr (Or.inr (Or.inr (Or.inr (Or.inr (Or.inr (Or.inr (Or.inr (Or.inr (Or.inr (Or.inr (Or.inr (Or.inl h)))))))))))))) (fun h => (Or.inr (Or.inr (Or.inr (Or.inr (Or.inr (Or.inr (Or.inr (Or.inr (Or.inr (Or.inr (Or.inr (Or.inr (Or.inr h)))))))))))))))))))))))))))))))))))))))))))
            · skip
              refine mm_g 2 (pc1 := 71) (lo1 := [some (.ref 81), some (.ref q1), some (.int (Int32.ofInt v7)), some (.int (Int32.ofInt v8))]) (st1 := [.ref q1, .ref 81]) (H1 := mz_mk g9 x) rfl ?_
              refine mz_cv rfl mt_4_164 (by decide) (sc_81 _) rfl (Nat.le_of_ble_eq_true rfl) (by omega) (c_X4_readPart (by omega) hx hIg9 h_q1 (fun v20 g21 hIg21 hfg21 l_v20 u_v20 => ⟨_, rfl, ?_⟩))
              show mm_W d mmX4_readGrows 74 [some (.ref 81), some (.ref q1), some (.int (Int32.ofInt v7)), some (.int (Int32.ofInt v8))] [.int (Int32.ofInt v20)] (mz_mk g21 x) Q
              refine mz_gt (tgt := 82) rfl rfl ?_
              refine mm_g 1 (pc1 := 83) (lo1 := [some (.ref 81), some (.ref q1), some (.int (Int32.ofInt v20)), some (.int (Int32.ofInt v8))]) (st1 := []) (H1 := mz_mk g21 x) rfl ?_
              refine mz_iincR (v := v8) (lo2 := [some (.ref 81), some (.ref q1), some (.int (Int32.ofInt v20)), some (.int (Int32.ofInt (v8 + 1)))]) rfl rfl rfl (Nat.le_of_ble_eq_true rfl) rfl ?_
              refine mz_gt (tgt := 44) rfl rfl ?_
              exact ih10 ((701 - (v8 + 1)).toNat) (by omega) v20 (v8 + 1) g21 rfl (by omega) (by omega) (by omega) (by omega) hIg21 (fun k j hk => ((hfg21 k j (fun h => hk (Or.elim h (fun h => (Or.inl h)) (fun h => (Or.elim h (fun h => (Or.inr (Or.inl h))) (fun h => (Or.elim h (fun h => (Or.inr (Or.inr (Or.inl h)))) (fun h => (Or.elim h (fun h => (Or.inr (Or.inr (Or.inr (Or.inl h))))) (fun h => (Or.elim h (fun h => (Or.inr (Or.inr (Or.inr (Or.inr (Or.inl h)))))) (fun h => (Or.elim h (fun h => (Or.inr (Or.inr (Or.inr (Or.inr (Or.inr (Or.inl h))))))) (fun h => (Or.elim h (fun h => (Or.inr (Or.inr (Or.inr (Or.inr (Or.inr (Or.inr (Or.inl h)))))))) (fun h => (Or.elim h (fun h => (Or.inr (Or.inr (Or.inr (Or.inr (Or.inr (Or.inr (Or.inr (Or.inl h))))))))) (fun h => (Or.elim h (fun h => (Or.inr (Or.inr (Or.inr (Or.inr (Or.inr (Or.inr (Or.inr (Or.inr (Or.inl h)))))))))) (fun h => (Or.elim h (fun h => (Or.inr (Or.inr (Or.inr (Or.inr (Or.inr (Or.inr (Or.inr (Or.inr (Or.inr (Or.inl h))))))))))) (fun h => (Or.elim h (fun h => (Or.inr (Or.inr (Or.inr (Or.inr (Or.inr (Or.inr (Or.inr (Or.inr (Or.inr (Or.inr (Or.inl h)))))))))))) (fun h => (Or.elim h (fun h => (Or.inr (Or.inr (Or.inr (Or.inr (Or.inr (Or.inr (Or.inr (Or.inr (Or.inr (Or.inr (Or.inr (Or.inl h))))))))))))) (fun h => (Or.elim h (fun h => (Or.inr (Or.inr (Or.inr (Or.inr (Or.inr (Or.inr (Or.inr (Or.inr (Or.inr (Or.inr (Or.inr (Or.inr (Or.inl h)))))))))))))) (fun h => (Or.inr (Or.inr (Or.inr (Or.inr (Or.inr (Or.inr (Or.inr (Or.inr (Or.inr (Or.inr (Or.inr (Or.inr (Or.inr h))))))))))))))))))))))))))))))))))))))))).trans (hfg9 k j (fun h => hk (Or.elim h (fun h => (Or.inl h)) (fun h => (Or.elim h (fun h => (Or.inr (Or.inl h))) (fun h => (Or.elim h (fun h => (Or.inr (Or.inr (Or.inl h)))) (fun h => (Or.elim h (fun h => (Or.inr (Or.inr (Or.inr (Or.inl h))))) (fun h => (Or.elim h (fun h => (Or.inr (Or.inr (Or.inr (Or.inr (Or.inl h)))))) (fun h => (Or.elim h (fun h => (Or.inr (Or.inr (Or.inr (Or.inr (Or.inr (Or.inl h))))))) (fun h => (Or.elim h (fun h => (Or.inr (Or.inr (Or.inr (Or.inr (Or.inr (Or.inr (Or.inl h)))))))) (fun h => (Or.elim h (fun h => (Or.inr (Or.inr (Or.inr (Or.inr (Or.inr (Or.inr (Or.inr (Or.inl h))))))))) (fun h => (Or.elim h (fun h => (Or.inr (Or.inr (Or.inr (Or.inr (Or.inr (Or.inr (Or.inr (Or.inr (Or.inl h)))))))))) (fun h => (Or.elim h (fun h => (Or.inr (Or.inr (Or.inr (Or.inr (Or.inr (Or.inr (Or.inr (Or.inr (Or.inr (Or.inl h))))))))))) (fun h => (Or.elim h (fun h => (Or.inr (Or.inr (Or.inr (Or.inr (Or.inr (Or.inr (Or.inr (Or.inr (Or.inr (Or.inr (Or.inl h)))))))))))) (fun h => (Or.elim h (fun h => (Or.inr (Or.inr (Or.inr (Or.inr (Or.inr (Or.inr (Or.inr (Or.inr (Or.inr (Or.inr (Or.inr (Or.inl h))))))))))))) (fun h => (Or.elim h (fun h => (Or.inr (Or.inr (Or.inr (Or.inr (Or.inr (Or.inr (Or.inr (Or.inr (Or.inr (Or.inr (Or.inr (Or.inr (Or.inl h)))))))))))))) (fun h => (Or.inr (Or.inr (Or.inr (Or.inr (Or.inr (Or.inr (Or.inr (Or.inr (Or.inr (Or.inr (Or.inr (Or.inr (Or.inr h)))))))))))))))))))))))))))))))))))))))))))
    exact L12 _ 1 0 g6 rfl (by decide) (by decide) (by decide) (by decide) hIg6 (fun _ _ _ => rfl)
  · skip
    refine mm_g 2 (pc1 := 9) (lo1 := [some (.ref 81), some (.ref q1), none, none]) (st1 := [.int (Int32.ofInt 5), .ref 81]) (H1 := mz_mk g x) rfl ?_
    refine mz_cv rfl mt_4_95 (by decide) (sc_81 _) rfl (Nat.le_of_ble_eq_true rfl) (by omega) (c_X4_blame (by omega) hx hI (by decide) (by decide) (fun v22 g23 hIg23 hfg23 l_v22 u_v22 => ⟨_, rfl, ?_⟩))
    show mm_W d mmX4_readGrows 12 [some (.ref 81), some (.ref q1), none, none] [.int (Int32.ofInt v22)] (mz_mk g23 x) Q
    exact mz_rtZ rfl (by decide) (by omega) (hQ _ _ hIg23 (fun k j hk => (hfg23 k j (fun h => hk (Or.elim h (fun h => (Or.inr (Or.inr (Or.inr (Or.inr (Or.inr (Or.inr (Or.inr (Or.inr (Or.inr (Or.inr (Or.inr (Or.inl h))))))))))))) (fun h => (Or.inr (Or.inr (Or.inr (Or.inr (Or.inr (Or.inr (Or.inr (Or.inr (Or.inr (Or.inr (Or.inr (Or.inr (Or.inl h)))))))))))))))))) (by omega) (by omega))
def fw_X4_readLine (x : mm_X) (q1 : Nat) : Nat → Nat → Prop := fun k j => (k = 82 ∧ j = 3) ∨ (k = 82 ∧ j = 5) ∨ (k = 82 ∧ j = 6) ∨ (k = 82 ∧ j = 4) ∨ (k = 81 ∧ j = 1) ∨ (k = 81 ∧ j = 2) ∨ ((q1 + 26) ≤ k ∧ k < (q1 + 26) + 9) ∨ (k = 81 ∧ j = 4) ∨ (k = 81 ∧ j = 5) ∨ (k = 81 ∧ j = 7) ∨ (k = 81 ∧ j = 8) ∨ (k = 81 ∧ j = 6) ∨ k = ((q1 + 36) + 1) ∨ k = (q1 + 36) ∨ k = 84 ∨ k = (q1 + 35) ∨ k = q1 ∨ ((q1 + 1) ≤ k ∧ k < (q1 + 1) + 25)
theorem c_X4_readLine {d : Nat} (hd : 9 ≤ d) {x : mm_X} (hx : mk_x x) {g : mz_G} (hI : mz_inv g) {q1 : Nat} (h_q1 : kd_load q1) {Q : (Option Value ⊕ Nat) → mm_H → Prop} (hQ : ∀ (g1 : mz_G), mz_inv g1 → mz_fr (fw_X4_readLine x q1) g g1 → Q (.inl none) (mz_mk g1 x)) : mm_C d 41 [.ref 81, .ref q1] (mz_mk g x) Q := by
  have kn_q1 := kn_load h_q1
  refine ⟨mmX4_readLine, [some (.ref 81), some (.ref q1), none], rfl, rfl, ?_⟩
  refine mm_g 1 (pc1 := 1) (lo1 := [some (.ref 81), some (.ref q1), none]) (st1 := [.ref 81]) (H1 := mz_mk g x) rfl ?_
  refine mz_fgR (v := 82) rfl fd_4_12 (by decide) (sc_81 _) (rf_81_0 _ _ _) ?_
  refine mz_ldcS (j := 0) rfl rfl rfl ?_
  refine mz_cv rfl mt_4_57 (by decide) (sc_82 _) rfl (Nat.le_of_ble_eq_true rfl) (by omega) (c_X7_spells (by omega) hx hI (by decide) (fun v1 l_v1 u_v1 => ⟨_, rfl, ?_⟩))
  show mm_W d mmX4_readLine 9 [some (.ref 81), some (.ref q1), none] [.int (Int32.ofInt v1)] (mz_mk g x) Q
  refine mz_if_eq (tgt := 24) rfl rfl (mz_rg l_v1 u_v1) (fun c9_1 => ?_) (fun c9_1 => ?_)
  · skip
    refine mm_g 1 (pc1 := 25) (lo1 := [some (.ref 81), some (.ref q1), none]) (st1 := [.ref 81]) (H1 := mz_mk g x) rfl ?_
    refine mz_fgR (v := 82) rfl fd_4_12 (by decide) (sc_81 _) (rf_81_0 _ _ _) ?_
    refine mz_ldcS (j := 1) rfl rfl rfl ?_
    refine mz_cv rfl mt_4_57 (by decide) (sc_82 _) rfl (Nat.le_of_ble_eq_true rfl) (by omega) (c_X7_spells (by omega) hx hI (by decide) (fun v2 l_v2 u_v2 => ⟨_, rfl, ?_⟩))
    show mm_W d mmX4_readLine 33 [some (.ref 81), some (.ref q1), none] [.int (Int32.ofInt v2)] (mz_mk g x) Q
    refine mz_if_ne (tgt := 48) rfl rfl (mz_rg l_v2 u_v2) (fun c33_2 => ?_) (fun c33_2 => ?_)
    · skip
      refine mm_g 3 (pc1 := 51) (lo1 := [some (.ref 81), some (.ref q1), none]) (st1 := [.ref 81, .ref q1, .ref 81]) (H1 := mz_mk g x) rfl ?_
      refine mz_fgR (v := 82) rfl fd_4_12 (by decide) (sc_81 _) (rf_81_0 _ _ _) ?_
      refine mz_ldcS (j := 2) rfl rfl rfl ?_
      refine mz_cv rfl mt_4_57 (by decide) (sc_82 _) rfl (Nat.le_of_ble_eq_true rfl) (by omega) (c_X7_spells (by omega) hx hI (by decide) (fun v3 l_v3 u_v3 => ⟨_, rfl, ?_⟩))
      show mm_W d mmX4_readLine 59 [some (.ref 81), some (.ref q1), none] [.int (Int32.ofInt v3), .ref q1, .ref 81] (mz_mk g x) Q
      refine mz_cv rfl mt_4_75 (by decide) (sc_81 _) rfl (Nat.le_of_ble_eq_true rfl) (by omega) (c_X4_readTrunk (by omega) hx hI h_q1 l_v3 u_v3 (fun v4 g5 hIg5 hfg5 l_v4 u_v4 => ⟨_, rfl, ?_⟩))
      show mm_W d mmX4_readLine 62 [some (.ref 81), some (.ref q1), none] [.int (Int32.ofInt v4)] (mz_mk g5 x) Q
      refine mm_g 1 (pc1 := 63) (lo1 := [some (.ref 81), some (.ref q1), some (.int (Int32.ofInt v4))]) (st1 := []) (H1 := mz_mk g5 x) rfl ?_
      refine mz_gt (tgt := 117) rfl rfl ?_
      refine mm_g 1 (pc1 := 118) (lo1 := [some (.ref 81), some (.ref q1), some (.int (Int32.ofInt v4))]) (st1 := [.int (Int32.ofInt v4)]) (H1 := mz_mk g5 x) rfl ?_
      refine mz_if_eq (tgt := 142) rfl rfl (mz_rg l_v4 u_v4) (fun c118_5 => ?_) (fun c118_5 => ?_)
      · skip
        refine mm_g 1 (pc1 := 143) (lo1 := [some (.ref 81), some (.ref q1), some (.int (Int32.ofInt v4))]) (st1 := [.int (Int32.ofInt v4)]) (H1 := mz_mk g5 x) rfl ?_
        refine mz_if_eq (tgt := 153) rfl rfl (mz_rg l_v4 u_v4) (fun c143_5 => ?_) (fun c143_5 => ?_)
        · skip
          exact mm_rt rfl rfl (hQ _ hIg5 (fun k j hk => (hfg5 k j (fun h => hk (Or.elim h (fun h => (Or.inl h)) (fun h => (Or.elim h (fun h => (Or.inr (Or.inl h))) (fun h => (Or.elim h (fun h => (Or.inr (Or.inr (Or.inl h)))) (fun h => (Or.elim h (fun h => (Or.inr (Or.inr (Or.inr (Or.inl h))))) (fun h => (Or.elim h (fun h => (Or.inr (Or.inr (Or.inr (Or.inr (Or.inl h)))))) (fun h => (Or.elim h (fun h => (Or.inr (Or.inr (Or.inr (Or.inr (Or.inr (Or.inl h))))))) (fun h => (Or.inr (Or.inr (Or.inr (Or.inr (Or.inr (Or.inr (Or.inl h)))))))))))))))))))))))
        · exfalso; omega
      · skip
        refine mm_g 1 (pc1 := 122) (lo1 := [some (.ref 81), some (.ref q1), some (.int (Int32.ofInt v4))]) (st1 := [.ref 81]) (H1 := mz_mk g5 x) rfl ?_
        refine mz_fgR (v := 82) rfl fd_4_12 (by decide) (sc_81 _) (rf_81_0 _ _ _) ?_
        refine mz_cv rfl mt_4_48 (by decide) (sc_82 _) rfl (Nat.le_of_ble_eq_true rfl) (by omega) (c_X7_kind (by omega) hx hIg5 (fun v6 l_v6 u_v6 => ⟨_, rfl, ?_⟩))
        show mm_W d mmX4_readLine 128 [some (.ref 81), some (.ref q1), some (.int (Int32.ofInt v4))] [.int (Int32.ofInt v6)] (mz_mk g5 x) Q
        refine mz_bip rfl bip_59 ?_
        refine mz_ic_eq (tgt := 142) rfl rfl (mz_rg l_v6 u_v6) ⟨by decide, by decide⟩ (fun c130_6 => ?_) (fun c130_6 => ?_)
        · skip
          refine mm_g 1 (pc1 := 143) (lo1 := [some (.ref 81), some (.ref q1), some (.int (Int32.ofInt v4))]) (st1 := [.int (Int32.ofInt v4)]) (H1 := mz_mk g5 x) rfl ?_
          refine mz_if_eq (tgt := 153) rfl rfl (mz_rg l_v4 u_v4) (fun c143_6 => ?_) (fun c143_6 => ?_)
          · exfalso; omega
          · skip
            refine mm_g 1 (pc1 := 147) (lo1 := [some (.ref 81), some (.ref q1), some (.int (Int32.ofInt v4))]) (st1 := [.ref 81]) (H1 := mz_mk g5 x) rfl ?_
            refine mz_fgR (v := 82) rfl fd_4_12 (by decide) (sc_81 _) (rf_81_0 _ _ _) ?_
            refine mz_cv rfl mt_4_99 (by decide) (sc_82 _) rfl (Nat.le_of_ble_eq_true rfl) (by omega) (c_X7_step (by omega) hx hIg5 (fun g7 hIg7 hfg7 => ⟨_, rfl, ?_⟩))
            show mm_W d mmX4_readLine 153 [some (.ref 81), some (.ref q1), some (.int (Int32.ofInt v4))] [] (mz_mk g7 x) Q
            exact mm_rt rfl rfl (hQ _ hIg7 (fun k j hk => ((hfg7 k j (fun h => hk (Or.elim h (fun h => (Or.inl h)) (fun h => (Or.elim h (fun h => (Or.inr (Or.inl h))) (fun h => (Or.elim h (fun h => (Or.inr (Or.inr (Or.inl h)))) (fun h => (Or.inr (Or.inr (Or.inr (Or.inl h)))))))))))).trans (hfg5 k j (fun h => hk (Or.elim h (fun h => (Or.inl h)) (fun h => (Or.elim h (fun h => (Or.inr (Or.inl h))) (fun h => (Or.elim h (fun h => (Or.inr (Or.inr (Or.inl h)))) (fun h => (Or.elim h (fun h => (Or.inr (Or.inr (Or.inr (Or.inl h))))) (fun h => (Or.elim h (fun h => (Or.inr (Or.inr (Or.inr (Or.inr (Or.inl h)))))) (fun h => (Or.elim h (fun h => (Or.inr (Or.inr (Or.inr (Or.inr (Or.inr (Or.inl h))))))) (fun h => (Or.inr (Or.inr (Or.inr (Or.inr (Or.inr (Or.inr (Or.inl h))))))))))))))))))))))))
        · skip
          refine mm_g 2 (pc1 := 135) (lo1 := [some (.ref 81), some (.ref q1), some (.int (Int32.ofInt v4))]) (st1 := [.int (Int32.ofInt 1), .ref 81]) (H1 := mz_mk g5 x) rfl ?_
          refine mz_cv rfl mt_4_95 (by decide) (sc_81 _) rfl (Nat.le_of_ble_eq_true rfl) (by omega) (c_X4_blame (by omega) hx hIg5 (by decide) (by decide) (fun v8 g9 hIg9 hfg9 l_v8 u_v8 => ⟨_, rfl, ?_⟩))
          show mm_W d mmX4_readLine 138 [some (.ref 81), some (.ref q1), some (.int (Int32.ofInt v4))] [.int (Int32.ofInt v8)] (mz_mk g9 x) Q
          refine mm_g 1 (pc1 := 139) (lo1 := [some (.ref 81), some (.ref q1), some (.int (Int32.ofInt v4))]) (st1 := []) (H1 := mz_mk g9 x) rfl ?_
          refine mz_gt (tgt := 153) rfl rfl ?_
          exact mm_rt rfl rfl (hQ _ hIg9 (fun k j hk => ((hfg9 k j (fun h => hk (Or.elim h (fun h => (Or.inr (Or.inr (Or.inr (Or.inr (Or.inl h)))))) (fun h => (Or.inr (Or.inr (Or.inr (Or.inr (Or.inr (Or.inl h)))))))))).trans (hfg5 k j (fun h => hk (Or.elim h (fun h => (Or.inl h)) (fun h => (Or.elim h (fun h => (Or.inr (Or.inl h))) (fun h => (Or.elim h (fun h => (Or.inr (Or.inr (Or.inl h)))) (fun h => (Or.elim h (fun h => (Or.inr (Or.inr (Or.inr (Or.inl h))))) (fun h => (Or.elim h (fun h => (Or.inr (Or.inr (Or.inr (Or.inr (Or.inl h)))))) (fun h => (Or.elim h (fun h => (Or.inr (Or.inr (Or.inr (Or.inr (Or.inr (Or.inl h))))))) (fun h => (Or.inr (Or.inr (Or.inr (Or.inr (Or.inr (Or.inr (Or.inl h))))))))))))))))))))))))
    · skip
      refine mm_g 1 (pc1 := 37) (lo1 := [some (.ref 81), some (.ref q1), none]) (st1 := [.ref 81]) (H1 := mz_mk g x) rfl ?_
      refine mz_fgR (v := 82) rfl fd_4_12 (by decide) (sc_81 _) (rf_81_0 _ _ _) ?_
      refine mz_ldcS (j := 2) rfl rfl rfl ?_
      refine mz_cv rfl mt_4_57 (by decide) (sc_82 _) rfl (Nat.le_of_ble_eq_true rfl) (by omega) (c_X7_spells (by omega) hx hI (by decide) (fun v10 l_v10 u_v10 => ⟨_, rfl, ?_⟩))
      show mm_W d mmX4_readLine 45 [some (.ref 81), some (.ref q1), none] [.int (Int32.ofInt v10)] (mz_mk g x) Q
      refine mz_if_eq (tgt := 66) rfl rfl (mz_rg l_v10 u_v10) (fun c45_10 => ?_) (fun c45_10 => ?_)
      · skip
        refine mm_g 1 (pc1 := 67) (lo1 := [some (.ref 81), some (.ref q1), none]) (st1 := [.ref 81]) (H1 := mz_mk g x) rfl ?_
        refine mz_fgR (v := 82) rfl fd_4_12 (by decide) (sc_81 _) (rf_81_0 _ _ _) ?_
        refine mz_ldcS (j := 3) rfl rfl rfl ?_
        refine mz_cv rfl mt_4_57 (by decide) (sc_82 _) rfl (Nat.le_of_ble_eq_true rfl) (by omega) (c_X7_spells (by omega) hx hI (by decide) (fun v11 l_v11 u_v11 => ⟨_, rfl, ?_⟩))
        show mm_W d mmX4_readLine 75 [some (.ref 81), some (.ref q1), none] [.int (Int32.ofInt v11)] (mz_mk g x) Q
        refine mz_if_eq (tgt := 87) rfl rfl (mz_rg l_v11 u_v11) (fun c75_11 => ?_) (fun c75_11 => ?_)
        · skip
          refine mm_g 1 (pc1 := 88) (lo1 := [some (.ref 81), some (.ref q1), none]) (st1 := [.ref 81]) (H1 := mz_mk g x) rfl ?_
          refine mz_fgR (v := 82) rfl fd_4_12 (by decide) (sc_81 _) (rf_81_0 _ _ _) ?_
          refine mz_ldcS (j := 4) rfl rfl rfl ?_
          refine mz_cv rfl mt_4_57 (by decide) (sc_82 _) rfl (Nat.le_of_ble_eq_true rfl) (by omega) (c_X7_spells (by omega) hx hI (by decide) (fun v12 l_v12 u_v12 => ⟨_, rfl, ?_⟩))
          show mm_W d mmX4_readLine 96 [some (.ref 81), some (.ref q1), none] [.int (Int32.ofInt v12)] (mz_mk g x) Q
          refine mz_if_eq (tgt := 111) rfl rfl (mz_rg l_v12 u_v12) (fun c96_12 => ?_) (fun c96_12 => ?_)
          · skip
            refine mm_g 2 (pc1 := 113) (lo1 := [some (.ref 81), some (.ref q1), none]) (st1 := [.int (Int32.ofInt 1), .ref 81]) (H1 := mz_mk g x) rfl ?_
            refine mz_cv rfl mt_4_95 (by decide) (sc_81 _) rfl (Nat.le_of_ble_eq_true rfl) (by omega) (c_X4_blame (by omega) hx hI (by decide) (by decide) (fun v13 g14 hIg14 hfg14 l_v13 u_v13 => ⟨_, rfl, ?_⟩))
            show mm_W d mmX4_readLine 116 [some (.ref 81), some (.ref q1), none] [.int (Int32.ofInt v13)] (mz_mk g14 x) Q
            refine mm_g 2 (pc1 := 118) (lo1 := [some (.ref 81), some (.ref q1), some (.int (Int32.ofInt v13))]) (st1 := [.int (Int32.ofInt v13)]) (H1 := mz_mk g14 x) rfl ?_
            refine mz_if_eq (tgt := 142) rfl rfl (mz_rg l_v13 u_v13) (fun c118_14 => ?_) (fun c118_14 => ?_)
            · skip
              refine mm_g 1 (pc1 := 143) (lo1 := [some (.ref 81), some (.ref q1), some (.int (Int32.ofInt v13))]) (st1 := [.int (Int32.ofInt v13)]) (H1 := mz_mk g14 x) rfl ?_
              refine mz_if_eq (tgt := 153) rfl rfl (mz_rg l_v13 u_v13) (fun c143_14 => ?_) (fun c143_14 => ?_)
              · skip
                exact mm_rt rfl rfl (hQ _ hIg14 (fun k j hk => (hfg14 k j (fun h => hk (Or.elim h (fun h => (Or.inr (Or.inr (Or.inr (Or.inr (Or.inl h)))))) (fun h => (Or.inr (Or.inr (Or.inr (Or.inr (Or.inr (Or.inl h))))))))))))
              · exfalso; omega
            · exfalso; omega
          · skip
            refine mm_g 2 (pc1 := 101) (lo1 := [some (.ref 81), some (.ref q1), none]) (st1 := [.ref q1, .ref 81]) (H1 := mz_mk g x) rfl ?_
            refine mz_fgR (v := (q1 + 36)) rfl fd_4_87 (by decide) (kc_load h_q1 _) (kr_load_4 h_q1 _ _ _) ?_
            refine mz_cv rfl mt_4_91 (by decide) (sc_81 _) rfl (Nat.le_of_ble_eq_true rfl) (by omega) (c_X4_readGrows (by omega) hx hI (ks_load_4 h_q1) (fun v15 g16 hIg16 hfg16 l_v15 u_v15 => ⟨_, rfl, ?_⟩))
            show mm_W d mmX4_readLine 107 [some (.ref 81), some (.ref q1), none] [.int (Int32.ofInt v15)] (mz_mk g16 x) Q
            refine mm_g 1 (pc1 := 108) (lo1 := [some (.ref 81), some (.ref q1), some (.int (Int32.ofInt v15))]) (st1 := []) (H1 := mz_mk g16 x) rfl ?_
            refine mz_gt (tgt := 117) rfl rfl ?_
            refine mm_g 1 (pc1 := 118) (lo1 := [some (.ref 81), some (.ref q1), some (.int (Int32.ofInt v15))]) (st1 := [.int (Int32.ofInt v15)]) (H1 := mz_mk g16 x) rfl ?_
            refine mz_if_eq (tgt := 142) rfl rfl (mz_rg l_v15 u_v15) (fun c118_16 => ?_) (fun c118_16 => ?_)
            · skip
              refine mm_g 1 (pc1 := 143) (lo1 := [some (.ref 81), some (.ref q1), some (.int (Int32.ofInt v15))]) (st1 := [.int (Int32.ofInt v15)]) (H1 := mz_mk g16 x) rfl ?_
              refine mz_if_eq (tgt := 153) rfl rfl (mz_rg l_v15 u_v15) (fun c143_16 => ?_) (fun c143_16 => ?_)
              · skip
                exact mm_rt rfl rfl (hQ _ hIg16 (fun k j hk => (hfg16 k j (fun h => hk (Or.elim h (fun h => (Or.inl h)) (fun h => (Or.elim h (fun h => (Or.inr (Or.inl h))) (fun h => (Or.elim h (fun h => (Or.inr (Or.inr (Or.inl h)))) (fun h => (Or.elim h (fun h => (Or.inr (Or.inr (Or.inr (Or.inl h))))) (fun h => (Or.elim h (fun h => (Or.inr (Or.inr (Or.inr (Or.inr (Or.inr (Or.inr (Or.inr (Or.inl h))))))))) (fun h => (Or.elim h (fun h => (Or.inr (Or.inr (Or.inr (Or.inr (Or.inr (Or.inr (Or.inr (Or.inr (Or.inl h)))))))))) (fun h => (Or.elim h (fun h => (Or.inr (Or.inr (Or.inr (Or.inr (Or.inr (Or.inr (Or.inr (Or.inr (Or.inr (Or.inl h))))))))))) (fun h => (Or.elim h (fun h => (Or.inr (Or.inr (Or.inr (Or.inr (Or.inr (Or.inr (Or.inr (Or.inr (Or.inr (Or.inr (Or.inl h)))))))))))) (fun h => (Or.elim h (fun h => (Or.inr (Or.inr (Or.inr (Or.inr (Or.inr (Or.inr (Or.inr (Or.inr (Or.inr (Or.inr (Or.inr (Or.inl h))))))))))))) (fun h => (Or.elim h (fun h => (Or.inr (Or.inr (Or.inr (Or.inr (Or.inr (Or.inr (Or.inr (Or.inr (Or.inr (Or.inr (Or.inr (Or.inr (Or.inl h)))))))))))))) (fun h => (Or.elim h (fun h => (Or.inr (Or.inr (Or.inr (Or.inr (Or.inr (Or.inr (Or.inr (Or.inr (Or.inr (Or.inr (Or.inr (Or.inr (Or.inr (Or.inl h))))))))))))))) (fun h => (Or.elim h (fun h => (Or.inr (Or.inr (Or.inr (Or.inr (Or.inl h)))))) (fun h => (Or.elim h (fun h => (Or.inr (Or.inr (Or.inr (Or.inr (Or.inr (Or.inl h))))))) (fun h => (Or.inr (Or.inr (Or.inr (Or.inr (Or.inr (Or.inr (Or.inr (Or.inr (Or.inr (Or.inr (Or.inr (Or.inr (Or.inr (Or.inr (Or.inl h)))))))))))))))))))))))))))))))))))))))))))))
              · exfalso; omega
            · skip
              refine mm_g 1 (pc1 := 122) (lo1 := [some (.ref 81), some (.ref q1), some (.int (Int32.ofInt v15))]) (st1 := [.ref 81]) (H1 := mz_mk g16 x) rfl ?_
              refine mz_fgR (v := 82) rfl fd_4_12 (by decide) (sc_81 _) (rf_81_0 _ _ _) ?_
              refine mz_cv rfl mt_4_48 (by decide) (sc_82 _) rfl (Nat.le_of_ble_eq_true rfl) (by omega) (c_X7_kind (by omega) hx hIg16 (fun v17 l_v17 u_v17 => ⟨_, rfl, ?_⟩))
              show mm_W d mmX4_readLine 128 [some (.ref 81), some (.ref q1), some (.int (Int32.ofInt v15))] [.int (Int32.ofInt v17)] (mz_mk g16 x) Q
              refine mz_bip rfl bip_59 ?_
              refine mz_ic_eq (tgt := 142) rfl rfl (mz_rg l_v17 u_v17) ⟨by decide, by decide⟩ (fun c130_17 => ?_) (fun c130_17 => ?_)
              · skip
                refine mm_g 1 (pc1 := 143) (lo1 := [some (.ref 81), some (.ref q1), some (.int (Int32.ofInt v15))]) (st1 := [.int (Int32.ofInt v15)]) (H1 := mz_mk g16 x) rfl ?_
                refine mz_if_eq (tgt := 153) rfl rfl (mz_rg l_v15 u_v15) (fun c143_17 => ?_) (fun c143_17 => ?_)
                · exfalso; omega
                · skip
                  refine mm_g 1 (pc1 := 147) (lo1 := [some (.ref 81), some (.ref q1), some (.int (Int32.ofInt v15))]) (st1 := [.ref 81]) (H1 := mz_mk g16 x) rfl ?_
                  refine mz_fgR (v := 82) rfl fd_4_12 (by decide) (sc_81 _) (rf_81_0 _ _ _) ?_
                  refine mz_cv rfl mt_4_99 (by decide) (sc_82 _) rfl (Nat.le_of_ble_eq_true rfl) (by omega) (c_X7_step (by omega) hx hIg16 (fun g18 hIg18 hfg18 => ⟨_, rfl, ?_⟩))
                  show mm_W d mmX4_readLine 153 [some (.ref 81), some (.ref q1), some (.int (Int32.ofInt v15))] [] (mz_mk g18 x) Q
                  exact mm_rt rfl rfl (hQ _ hIg18 (fun k j hk => ((hfg18 k j (fun h => hk (Or.elim h (fun h => (Or.inl h)) (fun h => (Or.elim h (fun h => (Or.inr (Or.inl h))) (fun h => (Or.elim h (fun h => (Or.inr (Or.inr (Or.inl h)))) (fun h => (Or.inr (Or.inr (Or.inr (Or.inl h)))))))))))).trans (hfg16 k j (fun h => hk (Or.elim h (fun h => (Or.inl h)) (fun h => (Or.elim h (fun h => (Or.inr (Or.inl h))) (fun h => (Or.elim h (fun h => (Or.inr (Or.inr (Or.inl h)))) (fun h => (Or.elim h (fun h => (Or.inr (Or.inr (Or.inr (Or.inl h))))) (fun h => (Or.elim h (fun h => (Or.inr (Or.inr (Or.inr (Or.inr (Or.inr (Or.inr (Or.inr (Or.inl h))))))))) (fun h => (Or.elim h (fun h => (Or.inr (Or.inr (Or.inr (Or.inr (Or.inr (Or.inr (Or.inr (Or.inr (Or.inl h)))))))))) (fun h => (Or.elim h (fun h => (Or.inr (Or.inr (Or.inr (Or.inr (Or.inr (Or.inr (Or.inr (Or.inr (Or.inr (Or.inl h))))))))))) (fun h => (Or.elim h (fun h => (Or.inr (Or.inr (Or.inr (Or.inr (Or.inr (Or.inr (Or.inr (Or.inr (Or.inr (Or.inr (Or.inl h)))))))))))) (fun h => (Or.elim h (fun h => (Or.inr (Or.inr (Or.inr (Or.inr (Or.inr (Or.inr (Or.inr (Or.inr (Or.inr (Or.inr (Or.inr (Or.inl h))))))))))))) (fun h => (Or.elim h (fun h => (Or.inr (Or.inr (Or.inr (Or.inr (Or.inr (Or.inr (Or.inr (Or.inr (Or.inr (Or.inr (Or.inr (Or.inr (Or.inl h)))))))))))))) (fun h => (Or.elim h (fun h => (Or.inr (Or.inr (Or.inr (Or.inr (Or.inr (Or.inr (Or.inr (Or.inr (Or.inr (Or.inr (Or.inr (Or.inr (Or.inr (Or.inl h))))))))))))))) (fun h => (Or.elim h (fun h => (Or.inr (Or.inr (Or.inr (Or.inr (Or.inl h)))))) (fun h => (Or.elim h (fun h => (Or.inr (Or.inr (Or.inr (Or.inr (Or.inr (Or.inl h))))))) (fun h => (Or.inr (Or.inr (Or.inr (Or.inr (Or.inr (Or.inr (Or.inr (Or.inr (Or.inr (Or.inr (Or.inr (Or.inr (Or.inr (Or.inr (Or.inl h))))))))))))))))))))))))))))))))))))))))))))))
              · skip
                refine mm_g 2 (pc1 := 135) (lo1 := [some (.ref 81), some (.ref q1), some (.int (Int32.ofInt v15))]) (st1 := [.int (Int32.ofInt 1), .ref 81]) (H1 := mz_mk g16 x) rfl ?_
                refine mz_cv rfl mt_4_95 (by decide) (sc_81 _) rfl (Nat.le_of_ble_eq_true rfl) (by omega) (c_X4_blame (by omega) hx hIg16 (by decide) (by decide) (fun v19 g20 hIg20 hfg20 l_v19 u_v19 => ⟨_, rfl, ?_⟩))
                show mm_W d mmX4_readLine 138 [some (.ref 81), some (.ref q1), some (.int (Int32.ofInt v15))] [.int (Int32.ofInt v19)] (mz_mk g20 x) Q
                refine mm_g 1 (pc1 := 139) (lo1 := [some (.ref 81), some (.ref q1), some (.int (Int32.ofInt v15))]) (st1 := []) (H1 := mz_mk g20 x) rfl ?_
                refine mz_gt (tgt := 153) rfl rfl ?_
                exact mm_rt rfl rfl (hQ _ hIg20 (fun k j hk => ((hfg20 k j (fun h => hk (Or.elim h (fun h => (Or.inr (Or.inr (Or.inr (Or.inr (Or.inl h)))))) (fun h => (Or.inr (Or.inr (Or.inr (Or.inr (Or.inr (Or.inl h)))))))))).trans (hfg16 k j (fun h => hk (Or.elim h (fun h => (Or.inl h)) (fun h => (Or.elim h (fun h => (Or.inr (Or.inl h))) (fun h => (Or.elim h (fun h => (Or.inr (Or.inr (Or.inl h)))) (fun h => (Or.elim h (fun h => (Or.inr (Or.inr (Or.inr (Or.inl h))))) (fun h => (Or.elim h (fun h => (Or.inr (Or.inr (Or.inr (Or.inr (Or.inr (Or.inr (Or.inr (Or.inl h))))))))) (fun h => (Or.elim h (fun h => (Or.inr (Or.inr (Or.inr (Or.inr (Or.inr (Or.inr (Or.inr (Or.inr (Or.inl h)))))))))) (fun h => (Or.elim h (fun h => (Or.inr (Or.inr (Or.inr (Or.inr (Or.inr (Or.inr (Or.inr (Or.inr (Or.inr (Or.inl h))))))))))) (fun h => (Or.elim h (fun h => (Or.inr (Or.inr (Or.inr (Or.inr (Or.inr (Or.inr (Or.inr (Or.inr (Or.inr (Or.inr (Or.inl h)))))))))))) (fun h => (Or.elim h (fun h => (Or.inr (Or.inr (Or.inr (Or.inr (Or.inr (Or.inr (Or.inr (Or.inr (Or.inr (Or.inr (Or.inr (Or.inl h))))))))))))) (fun h => (Or.elim h (fun h => (Or.inr (Or.inr (Or.inr (Or.inr (Or.inr (Or.inr (Or.inr (Or.inr (Or.inr (Or.inr (Or.inr (Or.inr (Or.inl h)))))))))))))) (fun h => (Or.elim h (fun h => (Or.inr (Or.inr (Or.inr (Or.inr (Or.inr (Or.inr (Or.inr (Or.inr (Or.inr (Or.inr (Or.inr (Or.inr (Or.inr (Or.inl h))))))))))))))) (fun h => (Or.elim h (fun h => (Or.inr (Or.inr (Or.inr (Or.inr (Or.inl h)))))) (fun h => (Or.elim h (fun h => (Or.inr (Or.inr (Or.inr (Or.inr (Or.inr (Or.inl h))))))) (fun h => (Or.inr (Or.inr (Or.inr (Or.inr (Or.inr (Or.inr (Or.inr (Or.inr (Or.inr (Or.inr (Or.inr (Or.inr (Or.inr (Or.inr (Or.inl h))))))))))))))))))))))))))))))))))))))))))))))
        · skip
          refine mm_g 2 (pc1 := 80) (lo1 := [some (.ref 81), some (.ref q1), none]) (st1 := [.ref q1, .ref 81]) (H1 := mz_mk g x) rfl ?_
          refine mz_cv rfl mt_4_81 (by decide) (sc_81 _) rfl (Nat.le_of_ble_eq_true rfl) (by omega) (c_X4_readHeat (by omega) hx hI h_q1 (fun v21 g22 hIg22 hfg22 l_v21 u_v21 => ⟨_, rfl, ?_⟩))
          show mm_W d mmX4_readLine 83 [some (.ref 81), some (.ref q1), none] [.int (Int32.ofInt v21)] (mz_mk g22 x) Q
          refine mm_g 1 (pc1 := 84) (lo1 := [some (.ref 81), some (.ref q1), some (.int (Int32.ofInt v21))]) (st1 := []) (H1 := mz_mk g22 x) rfl ?_
          refine mz_gt (tgt := 117) rfl rfl ?_
          refine mm_g 1 (pc1 := 118) (lo1 := [some (.ref 81), some (.ref q1), some (.int (Int32.ofInt v21))]) (st1 := [.int (Int32.ofInt v21)]) (H1 := mz_mk g22 x) rfl ?_
          refine mz_if_eq (tgt := 142) rfl rfl (mz_rg l_v21 u_v21) (fun c118_22 => ?_) (fun c118_22 => ?_)
          · skip
            refine mm_g 1 (pc1 := 143) (lo1 := [some (.ref 81), some (.ref q1), some (.int (Int32.ofInt v21))]) (st1 := [.int (Int32.ofInt v21)]) (H1 := mz_mk g22 x) rfl ?_
            refine mz_if_eq (tgt := 153) rfl rfl (mz_rg l_v21 u_v21) (fun c143_22 => ?_) (fun c143_22 => ?_)
            · skip
              exact mm_rt rfl rfl (hQ _ hIg22 (fun k j hk => (hfg22 k j (fun h => hk (Or.elim h (fun h => (Or.inl h)) (fun h => (Or.elim h (fun h => (Or.inr (Or.inl h))) (fun h => (Or.elim h (fun h => (Or.inr (Or.inr (Or.inl h)))) (fun h => (Or.elim h (fun h => (Or.inr (Or.inr (Or.inr (Or.inl h))))) (fun h => (Or.elim h (fun h => (Or.inr (Or.inr (Or.inr (Or.inr (Or.inl h)))))) (fun h => (Or.elim h (fun h => (Or.inr (Or.inr (Or.inr (Or.inr (Or.inr (Or.inl h))))))) (fun h => (Or.elim h (fun h => (Or.inr (Or.inr (Or.inr (Or.inr (Or.inr (Or.inr (Or.inr (Or.inr (Or.inr (Or.inr (Or.inr (Or.inr (Or.inr (Or.inr (Or.inr (Or.inl h))))))))))))))))) (fun h => (Or.inr (Or.inr (Or.inr (Or.inr (Or.inr (Or.inr (Or.inr (Or.inr (Or.inr (Or.inr (Or.inr (Or.inr (Or.inr (Or.inr (Or.inr (Or.inr (Or.inl h)))))))))))))))))))))))))))))))))))
            · exfalso; omega
          · skip
            refine mm_g 1 (pc1 := 122) (lo1 := [some (.ref 81), some (.ref q1), some (.int (Int32.ofInt v21))]) (st1 := [.ref 81]) (H1 := mz_mk g22 x) rfl ?_
            refine mz_fgR (v := 82) rfl fd_4_12 (by decide) (sc_81 _) (rf_81_0 _ _ _) ?_
            refine mz_cv rfl mt_4_48 (by decide) (sc_82 _) rfl (Nat.le_of_ble_eq_true rfl) (by omega) (c_X7_kind (by omega) hx hIg22 (fun v23 l_v23 u_v23 => ⟨_, rfl, ?_⟩))
            show mm_W d mmX4_readLine 128 [some (.ref 81), some (.ref q1), some (.int (Int32.ofInt v21))] [.int (Int32.ofInt v23)] (mz_mk g22 x) Q
            refine mz_bip rfl bip_59 ?_
            refine mz_ic_eq (tgt := 142) rfl rfl (mz_rg l_v23 u_v23) ⟨by decide, by decide⟩ (fun c130_23 => ?_) (fun c130_23 => ?_)
            · skip
              refine mm_g 1 (pc1 := 143) (lo1 := [some (.ref 81), some (.ref q1), some (.int (Int32.ofInt v21))]) (st1 := [.int (Int32.ofInt v21)]) (H1 := mz_mk g22 x) rfl ?_
              refine mz_if_eq (tgt := 153) rfl rfl (mz_rg l_v21 u_v21) (fun c143_23 => ?_) (fun c143_23 => ?_)
              · exfalso; omega
              · skip
                refine mm_g 1 (pc1 := 147) (lo1 := [some (.ref 81), some (.ref q1), some (.int (Int32.ofInt v21))]) (st1 := [.ref 81]) (H1 := mz_mk g22 x) rfl ?_
                refine mz_fgR (v := 82) rfl fd_4_12 (by decide) (sc_81 _) (rf_81_0 _ _ _) ?_
                refine mz_cv rfl mt_4_99 (by decide) (sc_82 _) rfl (Nat.le_of_ble_eq_true rfl) (by omega) (c_X7_step (by omega) hx hIg22 (fun g24 hIg24 hfg24 => ⟨_, rfl, ?_⟩))
                show mm_W d mmX4_readLine 153 [some (.ref 81), some (.ref q1), some (.int (Int32.ofInt v21))] [] (mz_mk g24 x) Q
                exact mm_rt rfl rfl (hQ _ hIg24 (fun k j hk => ((hfg24 k j (fun h => hk (Or.elim h (fun h => (Or.inl h)) (fun h => (Or.elim h (fun h => (Or.inr (Or.inl h))) (fun h => (Or.elim h (fun h => (Or.inr (Or.inr (Or.inl h)))) (fun h => (Or.inr (Or.inr (Or.inr (Or.inl h)))))))))))).trans (hfg22 k j (fun h => hk (Or.elim h (fun h => (Or.inl h)) (fun h => (Or.elim h (fun h => (Or.inr (Or.inl h))) (fun h => (Or.elim h (fun h => (Or.inr (Or.inr (Or.inl h)))) (fun h => (Or.elim h (fun h => (Or.inr (Or.inr (Or.inr (Or.inl h))))) (fun h => (Or.elim h (fun h => (Or.inr (Or.inr (Or.inr (Or.inr (Or.inl h)))))) (fun h => (Or.elim h (fun h => (Or.inr (Or.inr (Or.inr (Or.inr (Or.inr (Or.inl h))))))) (fun h => (Or.elim h (fun h => (Or.inr (Or.inr (Or.inr (Or.inr (Or.inr (Or.inr (Or.inr (Or.inr (Or.inr (Or.inr (Or.inr (Or.inr (Or.inr (Or.inr (Or.inr (Or.inl h))))))))))))))))) (fun h => (Or.inr (Or.inr (Or.inr (Or.inr (Or.inr (Or.inr (Or.inr (Or.inr (Or.inr (Or.inr (Or.inr (Or.inr (Or.inr (Or.inr (Or.inr (Or.inr (Or.inl h))))))))))))))))))))))))))))))))))))
            · skip
              refine mm_g 2 (pc1 := 135) (lo1 := [some (.ref 81), some (.ref q1), some (.int (Int32.ofInt v21))]) (st1 := [.int (Int32.ofInt 1), .ref 81]) (H1 := mz_mk g22 x) rfl ?_
              refine mz_cv rfl mt_4_95 (by decide) (sc_81 _) rfl (Nat.le_of_ble_eq_true rfl) (by omega) (c_X4_blame (by omega) hx hIg22 (by decide) (by decide) (fun v25 g26 hIg26 hfg26 l_v25 u_v25 => ⟨_, rfl, ?_⟩))
              show mm_W d mmX4_readLine 138 [some (.ref 81), some (.ref q1), some (.int (Int32.ofInt v21))] [.int (Int32.ofInt v25)] (mz_mk g26 x) Q
              refine mm_g 1 (pc1 := 139) (lo1 := [some (.ref 81), some (.ref q1), some (.int (Int32.ofInt v21))]) (st1 := []) (H1 := mz_mk g26 x) rfl ?_
              refine mz_gt (tgt := 153) rfl rfl ?_
              exact mm_rt rfl rfl (hQ _ hIg26 (fun k j hk => ((hfg26 k j (fun h => hk (Or.elim h (fun h => (Or.inr (Or.inr (Or.inr (Or.inr (Or.inl h)))))) (fun h => (Or.inr (Or.inr (Or.inr (Or.inr (Or.inr (Or.inl h)))))))))).trans (hfg22 k j (fun h => hk (Or.elim h (fun h => (Or.inl h)) (fun h => (Or.elim h (fun h => (Or.inr (Or.inl h))) (fun h => (Or.elim h (fun h => (Or.inr (Or.inr (Or.inl h)))) (fun h => (Or.elim h (fun h => (Or.inr (Or.inr (Or.inr (Or.inl h))))) (fun h => (Or.elim h (fun h => (Or.inr (Or.inr (Or.inr (Or.inr (Or.inl h)))))) (fun h => (Or.elim h (fun h => (Or.inr (Or.inr (Or.inr (Or.inr (Or.inr (Or.inl h))))))) (fun h => (Or.elim h (fun h => (Or.inr (Or.inr (Or.inr (Or.inr (Or.inr (Or.inr (Or.inr (Or.inr (Or.inr (Or.inr (Or.inr (Or.inr (Or.inr (Or.inr (Or.inr (Or.inl h))))))))))))))))) (fun h => (Or.inr (Or.inr (Or.inr (Or.inr (Or.inr (Or.inr (Or.inr (Or.inr (Or.inr (Or.inr (Or.inr (Or.inr (Or.inr (Or.inr (Or.inr (Or.inr (Or.inl h))))))))))))))))))))))))))))))))))))
      · skip
        refine mm_g 3 (pc1 := 51) (lo1 := [some (.ref 81), some (.ref q1), none]) (st1 := [.ref 81, .ref q1, .ref 81]) (H1 := mz_mk g x) rfl ?_
        refine mz_fgR (v := 82) rfl fd_4_12 (by decide) (sc_81 _) (rf_81_0 _ _ _) ?_
        refine mz_ldcS (j := 2) rfl rfl rfl ?_
        refine mz_cv rfl mt_4_57 (by decide) (sc_82 _) rfl (Nat.le_of_ble_eq_true rfl) (by omega) (c_X7_spells (by omega) hx hI (by decide) (fun v27 l_v27 u_v27 => ⟨_, rfl, ?_⟩))
        show mm_W d mmX4_readLine 59 [some (.ref 81), some (.ref q1), none] [.int (Int32.ofInt v27), .ref q1, .ref 81] (mz_mk g x) Q
        refine mz_cv rfl mt_4_75 (by decide) (sc_81 _) rfl (Nat.le_of_ble_eq_true rfl) (by omega) (c_X4_readTrunk (by omega) hx hI h_q1 l_v27 u_v27 (fun v28 g29 hIg29 hfg29 l_v28 u_v28 => ⟨_, rfl, ?_⟩))
        show mm_W d mmX4_readLine 62 [some (.ref 81), some (.ref q1), none] [.int (Int32.ofInt v28)] (mz_mk g29 x) Q
        refine mm_g 1 (pc1 := 63) (lo1 := [some (.ref 81), some (.ref q1), some (.int (Int32.ofInt v28))]) (st1 := []) (H1 := mz_mk g29 x) rfl ?_
        refine mz_gt (tgt := 117) rfl rfl ?_
        refine mm_g 1 (pc1 := 118) (lo1 := [some (.ref 81), some (.ref q1), some (.int (Int32.ofInt v28))]) (st1 := [.int (Int32.ofInt v28)]) (H1 := mz_mk g29 x) rfl ?_
        refine mz_if_eq (tgt := 142) rfl rfl (mz_rg l_v28 u_v28) (fun c118_29 => ?_) (fun c118_29 => ?_)
        · skip
          refine mm_g 1 (pc1 := 143) (lo1 := [some (.ref 81), some (.ref q1), some (.int (Int32.ofInt v28))]) (st1 := [.int (Int32.ofInt v28)]) (H1 := mz_mk g29 x) rfl ?_
          refine mz_if_eq (tgt := 153) rfl rfl (mz_rg l_v28 u_v28) (fun c143_29 => ?_) (fun c143_29 => ?_)
          · skip
            exact mm_rt rfl rfl (hQ _ hIg29 (fun k j hk => (hfg29 k j (fun h => hk (Or.elim h (fun h => (Or.inl h)) (fun h => (Or.elim h (fun h => (Or.inr (Or.inl h))) (fun h => (Or.elim h (fun h => (Or.inr (Or.inr (Or.inl h)))) (fun h => (Or.elim h (fun h => (Or.inr (Or.inr (Or.inr (Or.inl h))))) (fun h => (Or.elim h (fun h => (Or.inr (Or.inr (Or.inr (Or.inr (Or.inl h)))))) (fun h => (Or.elim h (fun h => (Or.inr (Or.inr (Or.inr (Or.inr (Or.inr (Or.inl h))))))) (fun h => (Or.inr (Or.inr (Or.inr (Or.inr (Or.inr (Or.inr (Or.inl h)))))))))))))))))))))))
          · exfalso; omega
        · skip
          refine mm_g 1 (pc1 := 122) (lo1 := [some (.ref 81), some (.ref q1), some (.int (Int32.ofInt v28))]) (st1 := [.ref 81]) (H1 := mz_mk g29 x) rfl ?_
          refine mz_fgR (v := 82) rfl fd_4_12 (by decide) (sc_81 _) (rf_81_0 _ _ _) ?_
          refine mz_cv rfl mt_4_48 (by decide) (sc_82 _) rfl (Nat.le_of_ble_eq_true rfl) (by omega) (c_X7_kind (by omega) hx hIg29 (fun v30 l_v30 u_v30 => ⟨_, rfl, ?_⟩))
          show mm_W d mmX4_readLine 128 [some (.ref 81), some (.ref q1), some (.int (Int32.ofInt v28))] [.int (Int32.ofInt v30)] (mz_mk g29 x) Q
          refine mz_bip rfl bip_59 ?_
          refine mz_ic_eq (tgt := 142) rfl rfl (mz_rg l_v30 u_v30) ⟨by decide, by decide⟩ (fun c130_30 => ?_) (fun c130_30 => ?_)
          · skip
            refine mm_g 1 (pc1 := 143) (lo1 := [some (.ref 81), some (.ref q1), some (.int (Int32.ofInt v28))]) (st1 := [.int (Int32.ofInt v28)]) (H1 := mz_mk g29 x) rfl ?_
            refine mz_if_eq (tgt := 153) rfl rfl (mz_rg l_v28 u_v28) (fun c143_30 => ?_) (fun c143_30 => ?_)
            · exfalso; omega
            · skip
              refine mm_g 1 (pc1 := 147) (lo1 := [some (.ref 81), some (.ref q1), some (.int (Int32.ofInt v28))]) (st1 := [.ref 81]) (H1 := mz_mk g29 x) rfl ?_
              refine mz_fgR (v := 82) rfl fd_4_12 (by decide) (sc_81 _) (rf_81_0 _ _ _) ?_
              refine mz_cv rfl mt_4_99 (by decide) (sc_82 _) rfl (Nat.le_of_ble_eq_true rfl) (by omega) (c_X7_step (by omega) hx hIg29 (fun g31 hIg31 hfg31 => ⟨_, rfl, ?_⟩))
              show mm_W d mmX4_readLine 153 [some (.ref 81), some (.ref q1), some (.int (Int32.ofInt v28))] [] (mz_mk g31 x) Q
              exact mm_rt rfl rfl (hQ _ hIg31 (fun k j hk => ((hfg31 k j (fun h => hk (Or.elim h (fun h => (Or.inl h)) (fun h => (Or.elim h (fun h => (Or.inr (Or.inl h))) (fun h => (Or.elim h (fun h => (Or.inr (Or.inr (Or.inl h)))) (fun h => (Or.inr (Or.inr (Or.inr (Or.inl h)))))))))))).trans (hfg29 k j (fun h => hk (Or.elim h (fun h => (Or.inl h)) (fun h => (Or.elim h (fun h => (Or.inr (Or.inl h))) (fun h => (Or.elim h (fun h => (Or.inr (Or.inr (Or.inl h)))) (fun h => (Or.elim h (fun h => (Or.inr (Or.inr (Or.inr (Or.inl h))))) (fun h => (Or.elim h (fun h => (Or.inr (Or.inr (Or.inr (Or.inr (Or.inl h)))))) (fun h => (Or.elim h (fun h => (Or.inr (Or.inr (Or.inr (Or.inr (Or.inr (Or.inl h))))))) (fun h => (Or.inr (Or.inr (Or.inr (Or.inr (Or.inr (Or.inr (Or.inl h))))))))))))))))))))))))
          · skip
            refine mm_g 2 (pc1 := 135) (lo1 := [some (.ref 81), some (.ref q1), some (.int (Int32.ofInt v28))]) (st1 := [.int (Int32.ofInt 1), .ref 81]) (H1 := mz_mk g29 x) rfl ?_
            refine mz_cv rfl mt_4_95 (by decide) (sc_81 _) rfl (Nat.le_of_ble_eq_true rfl) (by omega) (c_X4_blame (by omega) hx hIg29 (by decide) (by decide) (fun v32 g33 hIg33 hfg33 l_v32 u_v32 => ⟨_, rfl, ?_⟩))
            show mm_W d mmX4_readLine 138 [some (.ref 81), some (.ref q1), some (.int (Int32.ofInt v28))] [.int (Int32.ofInt v32)] (mz_mk g33 x) Q
            refine mm_g 1 (pc1 := 139) (lo1 := [some (.ref 81), some (.ref q1), some (.int (Int32.ofInt v28))]) (st1 := []) (H1 := mz_mk g33 x) rfl ?_
            refine mz_gt (tgt := 153) rfl rfl ?_
            exact mm_rt rfl rfl (hQ _ hIg33 (fun k j hk => ((hfg33 k j (fun h => hk (Or.elim h (fun h => (Or.inr (Or.inr (Or.inr (Or.inr (Or.inl h)))))) (fun h => (Or.inr (Or.inr (Or.inr (Or.inr (Or.inr (Or.inl h)))))))))).trans (hfg29 k j (fun h => hk (Or.elim h (fun h => (Or.inl h)) (fun h => (Or.elim h (fun h => (Or.inr (Or.inl h))) (fun h => (Or.elim h (fun h => (Or.inr (Or.inr (Or.inl h)))) (fun h => (Or.elim h (fun h => (Or.inr (Or.inr (Or.inr (Or.inl h))))) (fun h => (Or.elim h (fun h => (Or.inr (Or.inr (Or.inr (Or.inr (Or.inl h)))))) (fun h => (Or.elim h (fun h => (Or.inr (Or.inr (Or.inr (Or.inr (Or.inr (Or.inl h))))))) (fun h => (Or.inr (Or.inr (Or.inr (Or.inr (Or.inr (Or.inr (Or.inl h))))))))))))))))))))))))
  · skip
    refine mm_g 2 (pc1 := 14) (lo1 := [some (.ref 81), some (.ref q1), none]) (st1 := [.ref q1, .ref 81]) (H1 := mz_mk g x) rfl ?_
    refine mz_fgR (v := (q1 + 1)) rfl fd_4_61 (by decide) (kc_load h_q1 _) (kr_load_0 h_q1 _ _ _) ?_
    refine mz_cv rfl mt_4_67 (by decide) (sc_81 _) rfl (Nat.le_of_ble_eq_true rfl) (by omega) (c_X4_readWord (by omega) hx hI (ks_load_0 h_q1) (fun v34 g35 hIg35 hfg35 l_v34 u_v34 => ⟨_, rfl, ?_⟩))
    show mm_W d mmX4_readLine 20 [some (.ref 81), some (.ref q1), none] [.int (Int32.ofInt v34)] (mz_mk g35 x) Q
    refine mm_g 1 (pc1 := 21) (lo1 := [some (.ref 81), some (.ref q1), some (.int (Int32.ofInt v34))]) (st1 := []) (H1 := mz_mk g35 x) rfl ?_
    refine mz_gt (tgt := 117) rfl rfl ?_
    refine mm_g 1 (pc1 := 118) (lo1 := [some (.ref 81), some (.ref q1), some (.int (Int32.ofInt v34))]) (st1 := [.int (Int32.ofInt v34)]) (H1 := mz_mk g35 x) rfl ?_
    refine mz_if_eq (tgt := 142) rfl rfl (mz_rg l_v34 u_v34) (fun c118_35 => ?_) (fun c118_35 => ?_)
    · skip
      refine mm_g 1 (pc1 := 143) (lo1 := [some (.ref 81), some (.ref q1), some (.int (Int32.ofInt v34))]) (st1 := [.int (Int32.ofInt v34)]) (H1 := mz_mk g35 x) rfl ?_
      refine mz_if_eq (tgt := 153) rfl rfl (mz_rg l_v34 u_v34) (fun c143_35 => ?_) (fun c143_35 => ?_)
      · skip
        exact mm_rt rfl rfl (hQ _ hIg35 (fun k j hk => (hfg35 k j (fun h => hk (Or.elim h (fun h => (Or.inl h)) (fun h => (Or.elim h (fun h => (Or.inr (Or.inl h))) (fun h => (Or.elim h (fun h => (Or.inr (Or.inr (Or.inl h)))) (fun h => (Or.elim h (fun h => (Or.inr (Or.inr (Or.inr (Or.inl h))))) (fun h => (Or.elim h (fun h => (Or.inr (Or.inr (Or.inr (Or.inr (Or.inr (Or.inr (Or.inr (Or.inr (Or.inr (Or.inr (Or.inr (Or.inr (Or.inr (Or.inr (Or.inr (Or.inr (Or.inr h)))))))))))))))))) (fun h => (Or.elim h (fun h => (Or.inr (Or.inr (Or.inr (Or.inr (Or.inl h)))))) (fun h => (Or.inr (Or.inr (Or.inr (Or.inr (Or.inr (Or.inl h))))))))))))))))))))))
      · exfalso; omega
    · skip
      refine mm_g 1 (pc1 := 122) (lo1 := [some (.ref 81), some (.ref q1), some (.int (Int32.ofInt v34))]) (st1 := [.ref 81]) (H1 := mz_mk g35 x) rfl ?_
      refine mz_fgR (v := 82) rfl fd_4_12 (by decide) (sc_81 _) (rf_81_0 _ _ _) ?_
      refine mz_cv rfl mt_4_48 (by decide) (sc_82 _) rfl (Nat.le_of_ble_eq_true rfl) (by omega) (c_X7_kind (by omega) hx hIg35 (fun v36 l_v36 u_v36 => ⟨_, rfl, ?_⟩))
      show mm_W d mmX4_readLine 128 [some (.ref 81), some (.ref q1), some (.int (Int32.ofInt v34))] [.int (Int32.ofInt v36)] (mz_mk g35 x) Q
      refine mz_bip rfl bip_59 ?_
      refine mz_ic_eq (tgt := 142) rfl rfl (mz_rg l_v36 u_v36) ⟨by decide, by decide⟩ (fun c130_36 => ?_) (fun c130_36 => ?_)
      · skip
        refine mm_g 1 (pc1 := 143) (lo1 := [some (.ref 81), some (.ref q1), some (.int (Int32.ofInt v34))]) (st1 := [.int (Int32.ofInt v34)]) (H1 := mz_mk g35 x) rfl ?_
        refine mz_if_eq (tgt := 153) rfl rfl (mz_rg l_v34 u_v34) (fun c143_36 => ?_) (fun c143_36 => ?_)
        · exfalso; omega
        · skip
          refine mm_g 1 (pc1 := 147) (lo1 := [some (.ref 81), some (.ref q1), some (.int (Int32.ofInt v34))]) (st1 := [.ref 81]) (H1 := mz_mk g35 x) rfl ?_
          refine mz_fgR (v := 82) rfl fd_4_12 (by decide) (sc_81 _) (rf_81_0 _ _ _) ?_
          refine mz_cv rfl mt_4_99 (by decide) (sc_82 _) rfl (Nat.le_of_ble_eq_true rfl) (by omega) (c_X7_step (by omega) hx hIg35 (fun g37 hIg37 hfg37 => ⟨_, rfl, ?_⟩))
          show mm_W d mmX4_readLine 153 [some (.ref 81), some (.ref q1), some (.int (Int32.ofInt v34))] [] (mz_mk g37 x) Q
          exact mm_rt rfl rfl (hQ _ hIg37 (fun k j hk => ((hfg37 k j (fun h => hk (Or.elim h (fun h => (Or.inl h)) (fun h => (Or.elim h (fun h => (Or.inr (Or.inl h))) (fun h => (Or.elim h (fun h => (Or.inr (Or.inr (Or.inl h)))) (fun h => (Or.inr (Or.inr (Or.inr (Or.inl h)))))))))))).trans (hfg35 k j (fun h => hk (Or.elim h (fun h => (Or.inl h)) (fun h => (Or.elim h (fun h => (Or.inr (Or.inl h))) (fun h => (Or.elim h (fun h => (Or.inr (Or.inr (Or.inl h)))) (fun h => (Or.elim h (fun h => (Or.inr (Or.inr (Or.inr (Or.inl h))))) (fun h => (Or.elim h (fun h => (Or.inr (Or.inr (Or.inr (Or.inr (Or.inr (Or.inr (Or.inr (Or.inr (Or.inr (Or.inr (Or.inr (Or.inr (Or.inr (Or.inr (Or.inr (Or.inr (Or.inr h)))))))))))))))))) (fun h => (Or.elim h (fun h => (Or.inr (Or.inr (Or.inr (Or.inr (Or.inl h)))))) (fun h => (Or.inr (Or.inr (Or.inr (Or.inr (Or.inr (Or.inl h)))))))))))))))))))))))
      · skip
        refine mm_g 2 (pc1 := 135) (lo1 := [some (.ref 81), some (.ref q1), some (.int (Int32.ofInt v34))]) (st1 := [.int (Int32.ofInt 1), .ref 81]) (H1 := mz_mk g35 x) rfl ?_
        refine mz_cv rfl mt_4_95 (by decide) (sc_81 _) rfl (Nat.le_of_ble_eq_true rfl) (by omega) (c_X4_blame (by omega) hx hIg35 (by decide) (by decide) (fun v38 g39 hIg39 hfg39 l_v38 u_v38 => ⟨_, rfl, ?_⟩))
        show mm_W d mmX4_readLine 138 [some (.ref 81), some (.ref q1), some (.int (Int32.ofInt v34))] [.int (Int32.ofInt v38)] (mz_mk g39 x) Q
        refine mm_g 1 (pc1 := 139) (lo1 := [some (.ref 81), some (.ref q1), some (.int (Int32.ofInt v34))]) (st1 := []) (H1 := mz_mk g39 x) rfl ?_
        refine mz_gt (tgt := 153) rfl rfl ?_
        exact mm_rt rfl rfl (hQ _ hIg39 (fun k j hk => ((hfg39 k j (fun h => hk (Or.elim h (fun h => (Or.inr (Or.inr (Or.inr (Or.inr (Or.inl h)))))) (fun h => (Or.inr (Or.inr (Or.inr (Or.inr (Or.inr (Or.inl h)))))))))).trans (hfg35 k j (fun h => hk (Or.elim h (fun h => (Or.inl h)) (fun h => (Or.elim h (fun h => (Or.inr (Or.inl h))) (fun h => (Or.elim h (fun h => (Or.inr (Or.inr (Or.inl h)))) (fun h => (Or.elim h (fun h => (Or.inr (Or.inr (Or.inr (Or.inl h))))) (fun h => (Or.elim h (fun h => (Or.inr (Or.inr (Or.inr (Or.inr (Or.inr (Or.inr (Or.inr (Or.inr (Or.inr (Or.inr (Or.inr (Or.inr (Or.inr (Or.inr (Or.inr (Or.inr (Or.inr h)))))))))))))))))) (fun h => (Or.elim h (fun h => (Or.inr (Or.inr (Or.inr (Or.inr (Or.inl h)))))) (fun h => (Or.inr (Or.inr (Or.inr (Or.inr (Or.inr (Or.inl h)))))))))))))))))))))))
theorem c_X4_place {d : Nat} (hd : 1 ≤ d) {x : mm_X} (hx : mk_x x) {g : mz_G} (hI : mz_inv g) {Q : (Option Value ⊕ Nat) → mm_H → Prop} (hQ : ∀ (r : Int), (-2147483648) ≤ r → r ≤ 2147483647 → Q (.inl (some (.int (Int32.ofInt r)))) (mz_mk g x)) : mm_C d 36 [.ref 81] (mz_mk g x) Q := by
  refine ⟨mmX4_place, [some (.ref 81)], rfl, rfl, ?_⟩
  refine mm_g 1 (pc1 := 1) (lo1 := [some (.ref 81)]) (st1 := [.ref 81]) (H1 := mz_mk g x) rfl ?_
  refine mz_gI rfl fd_4_22 (by decide) (sc_81 _) hI bd_81_2 (fun v1 e_v1 l_v1 u_v1 => ?_)
  exact mm_rt rfl rfl (hQ _ (by omega) (by omega))
theorem c_X4_faultKind {d : Nat} (hd : 1 ≤ d) {x : mm_X} (hx : mk_x x) {g : mz_G} (hI : mz_inv g) {Q : (Option Value ⊕ Nat) → mm_H → Prop} (hQ : ∀ (r : Int), (-2147483648) ≤ r → r ≤ 2147483647 → Q (.inl (some (.int (Int32.ofInt r)))) (mz_mk g x)) : mm_C d 37 [.ref 81] (mz_mk g x) Q := by
  refine ⟨mmX4_faultKind, [some (.ref 81)], rfl, rfl, ?_⟩
  refine mm_g 1 (pc1 := 1) (lo1 := [some (.ref 81)]) (st1 := [.ref 81]) (H1 := mz_mk g x) rfl ?_
  refine mz_gI rfl fd_4_18 (by decide) (sc_81 _) hI bd_81_1 (fun v1 e_v1 l_v1 u_v1 => ?_)
  exact mm_rt rfl rfl (hQ _ (by omega) (by omega))
def fw_X6_refuse (x : mm_X) (q0 : Nat) (a1 : Int) : Nat → Nat → Prop := fun k j => k = (q0 + 14)
theorem c_X6_refuse {d : Nat} (hd : 2 ≤ d) {x : mm_X} (hx : mk_x x) {g : mz_G} (hI : mz_inv g) {q0 : Nat} (h_q0 : kd_story q0) {a1 : Int} (l_a1 : (-2147483648) ≤ a1) (u_a1 : a1 ≤ 2147483647) {Q : (Option Value ⊕ Nat) → mm_H → Prop} (hQ : ∀ (r : Int) (g1 : mz_G), mz_inv g1 → mz_fr (fw_X6_refuse x q0 a1) g g1 → (-1) ≤ r → r ≤ (-1) → Q (.inl (some (.int (Int32.ofInt r)))) (mz_mk g1 x)) : mm_C d 68 [.ref q0, .int (Int32.ofInt a1)] (mz_mk g x) Q := by
  have kn_q0 := kn_story h_q0
  refine ⟨mmX6_refuse, [some (.ref q0), some (.int (Int32.ofInt a1))], rfl, rfl, ?_⟩
  refine mm_g 1 (pc1 := 1) (lo1 := [some (.ref q0), some (.int (Int32.ofInt a1))]) (st1 := [.ref q0]) (H1 := mz_mk g x) rfl ?_
  refine mz_fgR (v := (q0 + 14)) rfl fd_6_41 (by decide) (kc_story h_q0 _) (kr_story_8 h_q0 _ _ _) ?_
  refine mm_g 2 (pc1 := 6) (lo1 := [some (.ref q0), some (.int (Int32.ofInt a1))]) (st1 := [.ref q0, .int (Int32.ofInt a1), .ref (q0 + 14)]) (H1 := mz_mk g x) rfl ?_
  refine mz_fgR (v := (q0 + 14)) rfl fd_6_41 (by decide) (kc_story h_q0 _) (kr_story_8 h_q0 _ _ _) ?_
  refine mm_g 1 (pc1 := 10) (lo1 := [some (.ref q0), some (.int (Int32.ofInt a1))]) (st1 := [.int (Int32.ofInt a1), .ref (q0 + 14), .int (Int32.ofInt a1), .ref (q0 + 14)]) (H1 := mz_mk g x) rfl ?_
  refine mz_cs rfl mt_6_52 (by decide) rfl (Nat.le_of_ble_eq_true rfl) (by omega) (c_X11_at (by omega) hx hI (ka_story_8 h_q0 _) (by decide) (kba_story_8 h_q0) (by omega) (by omega) l_a1 u_a1 (fun v1 l_v1 u_v1 => ⟨_, rfl, ?_⟩))
  show mm_W d mmX6_refuse 13 [some (.ref q0), some (.int (Int32.ofInt a1))] [.int (Int32.ofInt v1), .int (Int32.ofInt a1), .ref (q0 + 14)] (mz_mk g x) Q
  refine mm_g 1 (pc1 := 14) (lo1 := [some (.ref q0), some (.int (Int32.ofInt a1))]) (st1 := [.int (Int32.ofInt 1), .int (Int32.ofInt v1), .int (Int32.ofInt a1), .ref (q0 + 14)]) (H1 := mz_mk g x) rfl ?_
  refine mz_iadd_w rfl (fun v2 _ hwv2 => ?_)
  have l_v2 := hwv2.1
  have u_v2 := hwv2.2
  refine mz_cs rfl mt_6_56 (by decide) rfl (Nat.le_of_ble_eq_true rfl) (by omega) (c_X11_put (by omega) hx hI (ka_story_8 h_q0 _) (by decide) (kba_story_8 h_q0) (by omega) (by omega) l_a1 u_a1 l_v2 u_v2 (by omega) (by omega) (fun g3 hIg3 hfg3 => ⟨_, rfl, ?_⟩))
  show mm_W d mmX6_refuse 18 [some (.ref q0), some (.int (Int32.ofInt a1))] [] (mz_mk g3 x) Q
  refine mm_g 1 (pc1 := 19) (lo1 := [some (.ref q0), some (.int (Int32.ofInt a1))]) (st1 := [.int (Int32.ofInt (-1))]) (H1 := mz_mk g3 x) rfl ?_
  exact mm_rt rfl rfl (hQ _ _ hIg3 (fun k j hk => (hfg3 k j (fun h => hk h))) (by decide) (by decide))
theorem c_X0_overlapWith {d : Nat} (hd : 12 ≤ d) {x : mm_X} (hx : mk_x x) {g : mz_G} (hI : mz_inv g) {q0 : Nat} (h_q0 : kd_let q0) {q1 : Nat} (h_q1 : kd_let q1) {Q : (Option Value ⊕ Nat) → mm_H → Prop} (hQ : ∀ (r : Int), 0 ≤ r → r ≤ 15 → Q (.inl (some (.int (Int32.ofInt r)))) (mz_mk g x)) : mm_C d 9 [.ref q0, .ref q1] (mz_mk g x) Q := by
  have kn_q0 := kn_let h_q0
  have kn_q1 := kn_let h_q1
  refine ⟨mmX0_overlapWith, [some (.ref q0), some (.ref q1), none], rfl, rfl, ?_⟩
  refine mm_g 1 (pc1 := 1) (lo1 := [some (.ref q0), some (.ref q1), none]) (st1 := [.ref q0]) (H1 := mz_mk g x) rfl ?_
  refine mz_gI rfl fd_0_7 (by decide) (kc_let h_q0 _) hI (kb_let_1 h_q0) (fun v1 e_v1 l_v1 u_v1 => ?_)
  refine mm_g 1 (pc1 := 5) (lo1 := [some (.ref q0), some (.ref q1), none]) (st1 := [.ref q1, .int (Int32.ofInt v1)]) (H1 := mz_mk g x) rfl ?_
  refine mz_gI rfl fd_0_7 (by decide) (kc_let h_q1 _) hI (kb_let_1 h_q1) (fun v2 e_v2 l_v2 u_v2 => ?_)
  refine mz_mn rfl mt_0_31 (Nat.le_of_ble_eq_true rfl) (by omega) (mz_rg l_v1 u_v1) (mz_rg l_v2 u_v2) (fun v3 e_v3 => ?_)
  have l_v3 : 0 ≤ v3 := by omega
  have u_v3 : v3 ≤ 16 := by omega
  refine mm_g 1 (pc1 := 12) (lo1 := [some (.ref q0), some (.ref q1), none]) (st1 := [.int (Int32.ofInt 1), .int (Int32.ofInt v3)]) (H1 := mz_mk g x) rfl ?_
  refine mz_isub rfl ?_
  refine mm_g 1 (pc1 := 14) (lo1 := [some (.ref q0), some (.ref q1), some (.int (Int32.ofInt (v3 - 1)))]) (st1 := []) (H1 := mz_mk g x) rfl ?_
  have L8 : ∀ n7 : Nat, ∀ (v4 : Int), (v4 - 0).toNat = n7 → (-1) ≤ v4 → v4 ≤ 15 → mm_W d mmX0_overlapWith 14 [some (.ref q0), some (.ref q1), some (.int (Int32.ofInt v4))] [] (mz_mk g x) Q := by
    intro n7
    induction n7 using Nat.strongRecOn with
    | ind n7 ih6 =>
    intro v4 hmn7 l_v4 u_v4
    refine mm_g 1 (pc1 := 15) (lo1 := [some (.ref q0), some (.ref q1), some (.int (Int32.ofInt v4))]) (st1 := [.int (Int32.ofInt v4)]) (H1 := mz_mk g x) rfl ?_
    refine mz_if_le (tgt := 39) rfl rfl (mz_rg l_v4 u_v4) (fun c15_8 => ?_) (fun c15_8 => ?_)
    · skip
      refine mm_g 2 (pc1 := 41) (lo1 := [some (.ref q0), some (.ref q1), some (.int (Int32.ofInt v4))]) (st1 := [.int (Int32.ofInt 0), .int (Int32.ofInt v4)]) (H1 := mz_mk g x) rfl ?_
      refine mz_mx rfl mt_0_37 (Nat.le_of_ble_eq_true rfl) (by omega) (mz_rg l_v4 u_v4) ⟨by decide, by decide⟩ (fun v9 e_v9 => ?_)
      have l_v9 : 0 ≤ v9 := by omega
      have u_v9 : v9 ≤ 0 := by omega
      exact mm_rt rfl rfl (hQ _ (by omega) (by omega))
    · skip
      refine mm_g 2 (pc1 := 20) (lo1 := [some (.ref q0), some (.ref q1), some (.int (Int32.ofInt v4))]) (st1 := [.ref q0, .ref q0]) (H1 := mz_mk g x) rfl ?_
      refine mz_fgI (v := v1) rfl fd_0_7 (by decide) (kc_let h_q0 _) e_v1 ?_
      refine mm_g 1 (pc1 := 24) (lo1 := [some (.ref q0), some (.ref q1), some (.int (Int32.ofInt v4))]) (st1 := [.int (Int32.ofInt v4), .int (Int32.ofInt v1), .ref q0]) (H1 := mz_mk g x) rfl ?_
      refine mz_isub rfl ?_
      refine mm_g 2 (pc1 := 27) (lo1 := [some (.ref q0), some (.ref q1), some (.int (Int32.ofInt v4))]) (st1 := [.int (Int32.ofInt v4), .ref q1, .int (Int32.ofInt (v1 - v4)), .ref q0]) (H1 := mz_mk g x) rfl ?_
      refine mz_cv rfl mt_0_27 (by decide) (kc_let h_q0 _) rfl (Nat.le_of_ble_eq_true rfl) (by omega) (c_X0_matches (by omega) hx hI h_q0 (by omega) (by omega) h_q1 (by omega) (by omega) (fun v10 l_v10 u_v10 => ⟨_, rfl, ?_⟩))
      show mm_W d mmX0_overlapWith 30 [some (.ref q0), some (.ref q1), some (.int (Int32.ofInt v4))] [.int (Int32.ofInt v10)] (mz_mk g x) Q
      refine mz_if_ne (tgt := 39) rfl rfl (mz_rg l_v10 u_v10) (fun c30_10 => ?_) (fun c30_10 => ?_)
      · skip
        refine mm_g 2 (pc1 := 41) (lo1 := [some (.ref q0), some (.ref q1), some (.int (Int32.ofInt v4))]) (st1 := [.int (Int32.ofInt 0), .int (Int32.ofInt v4)]) (H1 := mz_mk g x) rfl ?_
        refine mz_mx rfl mt_0_37 (Nat.le_of_ble_eq_true rfl) (by omega) (mz_rg l_v4 u_v4) ⟨by decide, by decide⟩ (fun v11 e_v11 => ?_)
        have l_v11 : 1 ≤ v11 := by omega
        have u_v11 : v11 ≤ 15 := by omega
        exact mm_rt rfl rfl (hQ _ (by omega) (by omega))
      · skip
        refine mz_iincR (v := v4) (lo2 := [some (.ref q0), some (.ref q1), some (.int (Int32.ofInt (v4 + (-1))))]) rfl rfl rfl (Nat.le_of_ble_eq_true rfl) rfl ?_
        refine mz_gt (tgt := 14) rfl rfl ?_
        exact ih6 (((v4 + (-1)) - 0).toNat) (by omega) (v4 + (-1)) rfl (by omega) (by omega)
  exact L8 _ (v3 - 1) rfl (by omega) (by omega)
theorem c_X0_last {d : Nat} (hd : 2 ≤ d) {x : mm_X} (hx : mk_x x) {g : mz_G} (hI : mz_inv g) {q0 : Nat} (h_q0 : kd_let q0) {Q : (Option Value ⊕ Nat) → mm_H → Prop} (hQ : ∀ (r : Int), (-2147483648) ≤ r → r ≤ 2147483647 → Q (.inl (some (.int (Int32.ofInt r)))) (mz_mk g x)) : mm_C d 5 [.ref q0] (mz_mk g x) Q := by
  have kn_q0 := kn_let h_q0
  refine ⟨mmX0_last, [some (.ref q0)], rfl, rfl, ?_⟩
  refine mm_g 1 (pc1 := 1) (lo1 := [some (.ref q0)]) (st1 := [.ref q0]) (H1 := mz_mk g x) rfl ?_
  refine mz_fgR (v := (q0 + 1)) rfl fd_0_13 (by decide) (kc_let h_q0 _) (kr_let_0 h_q0 _ _ _) ?_
  obtain ⟨n1, hn_n1, m_n1⟩ := kl_let h_q0 x.2.2.2.1
  have mm_n1 : n1 ≤ 100000 := by omega
  refine mm_g 1 (pc1 := 5) (lo1 := [some (.ref q0)]) (st1 := [.ref q0, .ref (q0 + 1)]) (H1 := mz_mk g x) rfl ?_
  refine mz_gI rfl fd_0_7 (by decide) (kc_let h_q0 _) hI (kb_let_1 h_q0) (fun v2 e_v2 l_v2 u_v2 => ?_)
  refine mm_g 1 (pc1 := 9) (lo1 := [some (.ref q0)]) (st1 := [.int (Int32.ofInt 1), .int (Int32.ofInt v2), .ref (q0 + 1)]) (H1 := mz_mk g x) rfl ?_
  refine mz_isub rfl ?_
  refine mz_cs rfl mt_0_23 (by decide) rfl (Nat.le_of_ble_eq_true rfl) (by omega) (c_X11_at (by omega) hx hI hn_n1 (by omega) (kba_let_0 h_q0) (by omega) (by omega) (by omega) (by omega) (fun v3 l_v3 u_v3 => ⟨_, rfl, ?_⟩))
  show mm_W d mmX0_last 13 [some (.ref q0)] [.int (Int32.ofInt v3)] (mz_mk g x) Q
  exact mm_rt rfl rfl (hQ _ (by omega) (by omega))
theorem c_X0_signAt {d : Nat} (hd : 2 ≤ d) {x : mm_X} (hx : mk_x x) {g : mz_G} (hI : mz_inv g) {q0 : Nat} (h_q0 : kd_let q0) {a1 : Int} (l_a1 : (-2147483648) ≤ a1) (u_a1 : a1 ≤ 2147483647) {Q : (Option Value ⊕ Nat) → mm_H → Prop} (hQ : ∀ (r : Int), (-2147483648) ≤ r → r ≤ 2147483647 → Q (.inl (some (.int (Int32.ofInt r)))) (mz_mk g x)) : mm_C d 4 [.ref q0, .int (Int32.ofInt a1)] (mz_mk g x) Q := by
  have kn_q0 := kn_let h_q0
  refine ⟨mmX0_signAt, [some (.ref q0), some (.int (Int32.ofInt a1))], rfl, rfl, ?_⟩
  refine mm_g 1 (pc1 := 1) (lo1 := [some (.ref q0), some (.int (Int32.ofInt a1))]) (st1 := [.ref q0]) (H1 := mz_mk g x) rfl ?_
  refine mz_fgR (v := (q0 + 1)) rfl fd_0_13 (by decide) (kc_let h_q0 _) (kr_let_0 h_q0 _ _ _) ?_
  obtain ⟨n1, hn_n1, m_n1⟩ := kl_let h_q0 x.2.2.2.1
  have mm_n1 : n1 ≤ 100000 := by omega
  refine mm_g 1 (pc1 := 5) (lo1 := [some (.ref q0), some (.int (Int32.ofInt a1))]) (st1 := [.int (Int32.ofInt a1), .ref (q0 + 1)]) (H1 := mz_mk g x) rfl ?_
  refine mz_cs rfl mt_0_23 (by decide) rfl (Nat.le_of_ble_eq_true rfl) (by omega) (c_X11_at (by omega) hx hI hn_n1 (by omega) (kba_let_0 h_q0) (by omega) (by omega) l_a1 u_a1 (fun v2 l_v2 u_v2 => ⟨_, rfl, ?_⟩))
  show mm_W d mmX0_signAt 8 [some (.ref q0), some (.int (Int32.ofInt a1))] [.int (Int32.ofInt v2)] (mz_mk g x) Q
  exact mm_rt rfl rfl (hQ _ (by omega) (by omega))
def fl_X10_fillRoom_9 (x : mm_X) (q0 : Nat) (q1 : Nat) (q2 : Nat) : Nat → Nat → Prop := fun k j => k = q2
def fl_X10_fillRoom_16 (x : mm_X) (q0 : Nat) (q1 : Nat) (q2 : Nat) : Nat → Nat → Prop := fun k j => k = q2
def fw_X10_fillRoom (x : mm_X) (q0 : Nat) (q1 : Nat) (q2 : Nat) : Nat → Nat → Prop := fun k j => k = q2
theorem c_X10_fillRoom {d : Nat} (hd : 12 ≤ d) {x : mm_X} (hx : mk_x x) {g : mz_G} (hI : mz_inv g) {q0 : Nat} (h_q0 : kd_words q0) {q1 n_q1 : Nat} (h_q1 : mm_SH x.2.2.2.1 q1 = (100, n_q1)) (m_q1 : n_q1 ≤ 2048) (b_q1 : ∀ j, mz_bd q1 j = (-2147483648, 2147483647)) {q2 n_q2 : Nat} (h_q2 : mm_SH x.2.2.2.1 q2 = (100, n_q2)) (m_q2 : n_q2 ≤ 2048) (b_q2 : ∀ j, mz_bd q2 j = (-2147483648, 2147483647)) {Q : (Option Value ⊕ Nat) → mm_H → Prop} (hQ : ∀ (g1 : mz_G), mz_inv g1 → mz_fr (fw_X10_fillRoom x q0 q1 q2) g g1 → Q (.inl none) (mz_mk g1 x)) : mm_C d 120 [.ref q0, .ref q1, .ref q2] (mz_mk g x) Q := by
  have kn_q0 := kn_words h_q0
  refine ⟨mmX10_fillRoom, [some (.ref q0), some (.ref q1), some (.ref q2), none, none, none, none, none], rfl, rfl, ?_⟩
  refine mm_g 2 (pc1 := 2) (lo1 := [some (.ref q0), some (.ref q1), some (.ref q2), none, none, none, none, none]) (st1 := [.ref q0, .int (Int32.ofInt 1)]) (H1 := mz_mk g x) rfl ?_
  refine mz_gI rfl fd_10_28 (by decide) (kc_words h_q0 _) hI (kb_words_3 h_q0) (fun v1 e_v1 l_v1 u_v1 => ?_)
  refine mz_ishl rfl (fun v2 e_v2 hwv2 => ?_)
  have b_v2 : 1 ≤ v2 ∧ v2 ≤ 256 := by rw [e_v2]; exact mz_shl_b (lx := 1) (hx := 1) (k := 8) (by decide) (by decide) (by omega) (by omega) (by omega) (by omega)
  have l_v2 := b_v2.1
  have u_v2 := b_v2.2
  refine mm_g 1 (pc1 := 7) (lo1 := [some (.ref q0), some (.ref q1), some (.ref q2), none, none, none, none, none]) (st1 := [.int (Int32.ofInt 1), .int (Int32.ofInt v2)]) (H1 := mz_mk g x) rfl ?_
  refine mz_isub rfl ?_
  refine mm_g 1 (pc1 := 9) (lo1 := [some (.ref q0), some (.ref q1), some (.ref q2), some (.int (Int32.ofInt (v2 - 1))), none, none, none, none]) (st1 := []) (H1 := mz_mk g x) rfl ?_
  have L11 : ∀ n10 : Nat, ∀ (v3 : Int) (o4 : Option Value) (o5 : Option Value) (o6 : Option Value) (o7 : Option Value) (g8 : mz_G), (v3 - 0).toNat = n10 → 0 ≤ v3 → v3 ≤ 255 → mz_nl o4 → mz_nl o5 → mz_nl o6 → mz_nl o7 → mz_inv g8 → mz_fr (fl_X10_fillRoom_9 x q0 q1 q2) g g8 → mm_W d mmX10_fillRoom 9 [some (.ref q0), some (.ref q1), some (.ref q2), some (.int (Int32.ofInt v3)), o4, o5, o6, o7] [] (mz_mk g8 x) Q := by
    intro n10
    induction n10 using Nat.strongRecOn with
    | ind n10 ih9 =>
    intro v3 o4 o5 o6 o7 g8 hmn10 l_v3 u_v3 h_o4 h_o5 h_o6 h_o7 hIg8 hfg8
    refine mm_g 1 (pc1 := 10) (lo1 := [some (.ref q0), some (.ref q1), some (.ref q2), some (.int (Int32.ofInt v3)), o4, o5, o6, o7]) (st1 := [.int (Int32.ofInt v3)]) (H1 := mz_mk g8 x) rfl ?_
    refine mz_if_le (tgt := 125) rfl rfl (mz_rg l_v3 u_v3) (fun c10_11 => ?_) (fun c10_11 => ?_)
    · skip
      exact mm_rt rfl rfl (hQ _ hIg8 (fun k j hk => (hfg8 k j (fun h => hk h))))
    · skip
      refine mm_g 2 (pc1 := 16) (lo1 := [some (.ref q0), some (.ref q1), some (.ref q2), some (.int (Int32.ofInt v3)), some (.int (Int32.ofInt 0)), o5, o6, o7]) (st1 := []) (H1 := mz_mk g8 x) rfl ?_
      have L19 : ∀ n18 : Nat, ∀ (v12 : Int) (o13 : Option Value) (o14 : Option Value) (o15 : Option Value) (g16 : mz_G), (8 - v12).toNat = n18 → 0 ≤ v12 → v12 ≤ 8 → mz_nl o13 → mz_nl o14 → mz_nl o15 → mz_inv g16 → mz_fr (fl_X10_fillRoom_16 x q0 q1 q2) g8 g16 → mm_W d mmX10_fillRoom 16 [some (.ref q0), some (.ref q1), some (.ref q2), some (.int (Int32.ofInt v3)), some (.int (Int32.ofInt v12)), o13, o14, o15] [] (mz_mk g16 x) Q := by
        intro n18
        induction n18 using Nat.strongRecOn with
        | ind n18 ih17 =>
        intro v12 o13 o14 o15 g16 hmn18 l_v12 u_v12 h_o13 h_o14 h_o15 hIg16 hfg16
        refine mm_g 2 (pc1 := 19) (lo1 := [some (.ref q0), some (.ref q1), some (.ref q2), some (.int (Int32.ofInt v3)), some (.int (Int32.ofInt v12)), o13, o14, o15]) (st1 := [.ref q0, .int (Int32.ofInt v12)]) (H1 := mz_mk g16 x) rfl ?_
        refine mz_gI rfl fd_10_28 (by decide) (kc_words h_q0 _) hIg16 (kb_words_3 h_q0) (fun v20 e_v20 l_v20 u_v20 => ?_)
        refine mz_ic_ge (tgt := 119) rfl rfl (mz_rg l_v12 u_v12) (mz_rg l_v20 u_v20) (fun c22_20 => ?_) (fun c22_20 => ?_)
        · skip
          refine mz_iincR (v := v3) (lo2 := [some (.ref q0), some (.ref q1), some (.ref q2), some (.int (Int32.ofInt (v3 + (-1)))), some (.int (Int32.ofInt v12)), o13, o14, o15]) rfl rfl rfl (Nat.le_of_ble_eq_true rfl) rfl ?_
          refine mz_gt (tgt := 9) rfl rfl ?_
          exact ih9 (((v3 + (-1)) - 0).toNat) (by omega) (v3 + (-1)) (some (.int (Int32.ofInt v12))) o13 o14 o15 g16 rfl (by omega) (by omega) (mz_nl_i _) h_o13 h_o14 h_o15 hIg16 (fun k j hk => ((hfg16 k j (fun h => hk h)).trans (hfg8 k j (fun h => hk h))))
        · skip
          refine mm_g 4 (pc1 := 31) (lo1 := [some (.ref q0), some (.ref q1), some (.ref q2), some (.int (Int32.ofInt v3)), some (.int (Int32.ofInt v12)), some (.int (Int32.ofInt 0)), some (.int (Int32.ofInt 0)), o15]) (st1 := []) (H1 := mz_mk g16 x) rfl ?_
          have L27 : ∀ n26 : Nat, ∀ (v21 : Int) (v22 : Int) (o23 : Option Value), (8 - v22).toNat = n26 → 0 ≤ v21 → v21 ≤ 2147483647 → 0 ≤ v22 → v22 ≤ 8 → mz_nl o23 → mm_W d mmX10_fillRoom 31 [some (.ref q0), some (.ref q1), some (.ref q2), some (.int (Int32.ofInt v3)), some (.int (Int32.ofInt v12)), some (.int (Int32.ofInt v21)), some (.int (Int32.ofInt v22)), o23] [] (mz_mk g16 x) Q := by
            intro n26
            induction n26 using Nat.strongRecOn with
            | ind n26 ih25 =>
            intro v21 v22 o23 hmn26 l_v21 u_v21 l_v22 u_v22 h_o23
            refine mm_g 2 (pc1 := 34) (lo1 := [some (.ref q0), some (.ref q1), some (.ref q2), some (.int (Int32.ofInt v3)), some (.int (Int32.ofInt v12)), some (.int (Int32.ofInt v21)), some (.int (Int32.ofInt v22)), o23]) (st1 := [.ref q0, .int (Int32.ofInt v22)]) (H1 := mz_mk g16 x) rfl ?_
            refine mz_fgI (v := v20) rfl fd_10_28 (by decide) (kc_words h_q0 _) e_v20 ?_
            refine mz_ic_ge (tgt := 100) rfl rfl (mz_rg l_v22 u_v22) (mz_rg l_v20 u_v20) (fun c37_27 => ?_) (fun c37_27 => ?_)
            · skip
              refine mm_g 2 (pc1 := 102) (lo1 := [some (.ref q0), some (.ref q1), some (.ref q2), some (.int (Int32.ofInt v3)), some (.int (Int32.ofInt v12)), some (.int (Int32.ofInt v21)), some (.int (Int32.ofInt v22)), o23]) (st1 := [.int (Int32.ofInt v3), .ref q2]) (H1 := mz_mk g16 x) rfl ?_
              refine mz_bip rfl bip_8 ?_
              refine mz_imul rfl ?_
              refine mm_g 1 (pc1 := 107) (lo1 := [some (.ref q0), some (.ref q1), some (.ref q2), some (.int (Int32.ofInt v3)), some (.int (Int32.ofInt v12)), some (.int (Int32.ofInt v21)), some (.int (Int32.ofInt v22)), o23]) (st1 := [.int (Int32.ofInt v12), .int (Int32.ofInt (v3 * 8)), .ref q2]) (H1 := mz_mk g16 x) rfl ?_
              refine mz_iadd rfl ?_
              refine mm_g 1 (pc1 := 110) (lo1 := [some (.ref q0), some (.ref q1), some (.ref q2), some (.int (Int32.ofInt v3)), some (.int (Int32.ofInt v12)), some (.int (Int32.ofInt v21)), some (.int (Int32.ofInt v22)), o23]) (st1 := [.int (Int32.ofInt v21), .int (Int32.ofInt ((v3 * 8) + v12)), .ref q2]) (H1 := mz_mk g16 x) rfl ?_
              refine mz_cs rfl mt_10_58 (by decide) rfl (Nat.le_of_ble_eq_true rfl) (by omega) (c_X11_put (by omega) hx hIg16 h_q2 (by omega) b_q2 (by omega) (by omega) (by omega) (by omega) (by omega) (by omega) (by omega) (by omega) (fun g28 hIg28 hfg28 => ⟨_, rfl, ?_⟩))
              show mm_W d mmX10_fillRoom 113 [some (.ref q0), some (.ref q1), some (.ref q2), some (.int (Int32.ofInt v3)), some (.int (Int32.ofInt v12)), some (.int (Int32.ofInt v21)), some (.int (Int32.ofInt v22)), o23] [] (mz_mk g28 x) Q
              refine mz_iincR (v := v12) (lo2 := [some (.ref q0), some (.ref q1), some (.ref q2), some (.int (Int32.ofInt v3)), some (.int (Int32.ofInt (v12 + 1))), some (.int (Int32.ofInt v21)), some (.int (Int32.ofInt v22)), o23]) rfl rfl rfl (Nat.le_of_ble_eq_true rfl) rfl ?_
              refine mz_gt (tgt := 16) rfl rfl ?_
              exact ih17 ((8 - (v12 + 1)).toNat) (by omega) (v12 + 1) (some (.int (Int32.ofInt v21))) (some (.int (Int32.ofInt v22))) o23 g28 rfl (by omega) (by omega) (mz_nl_i _) (mz_nl_i _) h_o23 hIg28 (fun k j hk => ((hfg28 k j (fun h => hk h)).trans (hfg16 k j (fun h => hk h))))
            · skip
              refine mm_g 2 (pc1 := 43) (lo1 := [some (.ref q0), some (.ref q1), some (.ref q2), some (.int (Int32.ofInt v3)), some (.int (Int32.ofInt v12)), some (.int (Int32.ofInt v21)), some (.int (Int32.ofInt v22)), o23]) (st1 := [.int (Int32.ofInt v12), .ref q1]) (H1 := mz_mk g16 x) rfl ?_
              refine mz_bip rfl bip_8 ?_
              refine mz_imul rfl ?_
              refine mm_g 1 (pc1 := 48) (lo1 := [some (.ref q0), some (.ref q1), some (.ref q2), some (.int (Int32.ofInt v3)), some (.int (Int32.ofInt v12)), some (.int (Int32.ofInt v21)), some (.int (Int32.ofInt v22)), o23]) (st1 := [.int (Int32.ofInt v22), .int (Int32.ofInt (v12 * 8)), .ref q1]) (H1 := mz_mk g16 x) rfl ?_
              refine mz_iadd rfl ?_
              refine mz_cs rfl mt_10_62 (by decide) rfl (Nat.le_of_ble_eq_true rfl) (by omega) (c_X11_at (by omega) hx hIg16 h_q1 (by omega) b_q1 (by omega) (by omega) (by omega) (by omega) (fun v29 l_v29 u_v29 => ⟨_, rfl, ?_⟩))
              show mm_W d mmX10_fillRoom 52 [some (.ref q0), some (.ref q1), some (.ref q2), some (.int (Int32.ofInt v3)), some (.int (Int32.ofInt v12)), some (.int (Int32.ofInt v21)), some (.int (Int32.ofInt v22)), o23] [.int (Int32.ofInt v29)] (mz_mk g16 x) Q
              refine mm_g 4 (pc1 := 58) (lo1 := [some (.ref q0), some (.ref q1), some (.ref q2), some (.int (Int32.ofInt v3)), some (.int (Int32.ofInt v12)), some (.int (Int32.ofInt v21)), some (.int (Int32.ofInt v22)), some (.int (Int32.ofInt v29))]) (st1 := [.int (Int32.ofInt v22), .int (Int32.ofInt 1), .int (Int32.ofInt v3)]) (H1 := mz_mk g16 x) rfl ?_
              refine mz_ishl rfl (fun v30 e_v30 hwv30 => ?_)
              have b_v30 : 1 ≤ v30 ∧ v30 ≤ 128 := by rw [e_v30]; exact mz_shl_b (lx := 1) (hx := 1) (k := 7) (by decide) (by decide) (by omega) (by omega) (by omega) (by omega)
              have l_v30 := b_v30.1
              have u_v30 := b_v30.2
              refine mz_iand rfl (fun v31 e_v31 hwv31 => ?_)
              have b_v31 : 0 ≤ v31 ∧ v31 ≤ 128 := by rw [e_v31]; exact mz_and_r (by omega) (by omega) (mz_rg l_v3 u_v3)
              have l_v31 := b_v31.1
              have u_v31 := b_v31.2
              have w_v31 : v31 ≤ v30 := by rw [e_v31]; exact (mz_and_r (hi := v30) (by omega) (Int.le_refl _) (mz_rg l_v3 u_v3) (by omega)).2
              refine mz_if_ne (tgt := 94) rfl rfl (mz_rg l_v31 u_v31) (fun c60_31 => ?_) (fun c60_31 => ?_)
              · skip
                refine mz_iincR (v := v22) (lo2 := [some (.ref q0), some (.ref q1), some (.ref q2), some (.int (Int32.ofInt v3)), some (.int (Int32.ofInt v12)), some (.int (Int32.ofInt v21)), some (.int (Int32.ofInt (v22 + 1))), some (.int (Int32.ofInt v29))]) rfl rfl rfl (Nat.le_of_ble_eq_true rfl) rfl ?_
                refine mz_gt (tgt := 31) rfl rfl ?_
                exact ih25 ((8 - (v22 + 1)).toNat) (by omega) v21 (v22 + 1) (some (.int (Int32.ofInt v29))) rfl (by omega) (by omega) (by omega) (by omega) (mz_nl_i _)
              · skip
                refine mm_g 1 (pc1 := 65) (lo1 := [some (.ref q0), some (.ref q1), some (.ref q2), some (.int (Int32.ofInt v3)), some (.int (Int32.ofInt v12)), some (.int (Int32.ofInt v21)), some (.int (Int32.ofInt v22)), some (.int (Int32.ofInt v29))]) (st1 := [.int (Int32.ofInt v29)]) (H1 := mz_mk g16 x) rfl ?_
                refine mz_if_lt (tgt := 94) rfl rfl (mz_rg l_v29 u_v29) (fun c65_31 => ?_) (fun c65_31 => ?_)
                · skip
                  refine mz_iincR (v := v22) (lo2 := [some (.ref q0), some (.ref q1), some (.ref q2), some (.int (Int32.ofInt v3)), some (.int (Int32.ofInt v12)), some (.int (Int32.ofInt v21)), some (.int (Int32.ofInt (v22 + 1))), some (.int (Int32.ofInt v29))]) rfl rfl rfl (Nat.le_of_ble_eq_true rfl) rfl ?_
                  refine mz_gt (tgt := 31) rfl rfl ?_
                  exact ih25 ((8 - (v22 + 1)).toNat) (by omega) v21 (v22 + 1) (some (.int (Int32.ofInt v29))) rfl (by omega) (by omega) (by omega) (by omega) (mz_nl_i _)
                · skip
                  refine mm_g 6 (pc1 := 77) (lo1 := [some (.ref q0), some (.ref q1), some (.ref q2), some (.int (Int32.ofInt v3)), some (.int (Int32.ofInt v12)), some (.int (Int32.ofInt v21)), some (.int (Int32.ofInt v22)), some (.int (Int32.ofInt v29))]) (st1 := [.int (Int32.ofInt v22), .int (Int32.ofInt 1), .int (Int32.ofInt v3), .ref q2, .int (Int32.ofInt v29), .int (Int32.ofInt v21)]) (H1 := mz_mk g16 x) rfl ?_
                  refine mz_ishl rfl (fun v32 e_v32 hwv32 => ?_)
                  have b_v32 : 1 ≤ v32 ∧ v32 ≤ 128 := by rw [e_v32]; exact mz_shl_b (lx := 1) (hx := 1) (k := 7) (by decide) (by decide) (by omega) (by omega) (by omega) (by omega)
                  have l_v32 := b_v32.1
                  have u_v32 := b_v32.2
                  refine mz_ior rfl (fun v33 e_v33 hwv33 => ?_)
                  have b_v33 : 0 ≤ v33 ∧ v33 ≤ 255 := by rw [e_v33]; exact mz_or_lt (n := 8) (by decide) (by omega) (by omega) (by omega) (by omega)
                  have l_v33 := b_v33.1
                  have u_v33 := b_v33.2
                  refine mz_bip rfl bip_8 ?_
                  refine mz_imul rfl ?_
                  refine mm_g 1 (pc1 := 84) (lo1 := [some (.ref q0), some (.ref q1), some (.ref q2), some (.int (Int32.ofInt v3)), some (.int (Int32.ofInt v12)), some (.int (Int32.ofInt v21)), some (.int (Int32.ofInt v22)), some (.int (Int32.ofInt v29))]) (st1 := [.int (Int32.ofInt v22), .int (Int32.ofInt (v33 * 8)), .ref q2, .int (Int32.ofInt v29), .int (Int32.ofInt v21)]) (H1 := mz_mk g16 x) rfl ?_
                  refine mz_iadd rfl ?_
                  refine mz_cs rfl mt_10_62 (by decide) rfl (Nat.le_of_ble_eq_true rfl) (by omega) (c_X11_at (by omega) hx hIg16 h_q2 (by omega) b_q2 (by omega) (by omega) (by omega) (by omega) (fun v34 l_v34 u_v34 => ⟨_, rfl, ?_⟩))
                  show mm_W d mmX10_fillRoom 88 [some (.ref q0), some (.ref q1), some (.ref q2), some (.int (Int32.ofInt v3)), some (.int (Int32.ofInt v12)), some (.int (Int32.ofInt v21)), some (.int (Int32.ofInt v22)), some (.int (Int32.ofInt v29))] [.int (Int32.ofInt v34), .int (Int32.ofInt v29), .int (Int32.ofInt v21)] (mz_mk g16 x) Q
                  refine mz_iadd_w rfl (fun v35 _ hwv35 => ?_)
                  have l_v35 := hwv35.1
                  have u_v35 := hwv35.2
                  refine mz_mx rfl mt_10_102 (Nat.le_of_ble_eq_true rfl) (by omega) (mz_rg l_v21 u_v21) (mz_rg l_v35 u_v35) (fun v36 e_v36 => ?_)
                  have l_v36 : 0 ≤ v36 := by omega
                  have u_v36 : v36 ≤ 2147483647 := by omega
                  refine mm_g 1 (pc1 := 94) (lo1 := [some (.ref q0), some (.ref q1), some (.ref q2), some (.int (Int32.ofInt v3)), some (.int (Int32.ofInt v12)), some (.int (Int32.ofInt v36)), some (.int (Int32.ofInt v22)), some (.int (Int32.ofInt v29))]) (st1 := []) (H1 := mz_mk g16 x) rfl ?_
                  refine mz_iincR (v := v22) (lo2 := [some (.ref q0), some (.ref q1), some (.ref q2), some (.int (Int32.ofInt v3)), some (.int (Int32.ofInt v12)), some (.int (Int32.ofInt v36)), some (.int (Int32.ofInt (v22 + 1))), some (.int (Int32.ofInt v29))]) rfl rfl rfl (Nat.le_of_ble_eq_true rfl) rfl ?_
                  refine mz_gt (tgt := 31) rfl rfl ?_
                  exact ih25 ((8 - (v22 + 1)).toNat) (by omega) v36 (v22 + 1) (some (.int (Int32.ofInt v29))) rfl (by omega) (by omega) (by omega) (by omega) (mz_nl_i _)
          exact L27 _ 0 0 o15 rfl (by decide) (by decide) (by decide) (by decide) h_o15
      exact L19 _ 0 o5 o6 o7 g8 rfl (by decide) (by decide) h_o5 h_o6 h_o7 hIg8 (fun _ _ _ => rfl)
  exact L11 _ (v2 - 1) none none none none g rfl (by omega) (by omega) mz_nl_n mz_nl_n mz_nl_n mz_nl_n hI (fun _ _ _ => rfl)
theorem c_X10_firstNext {d : Nat} (hd : 2 ≤ d) {x : mm_X} (hx : mk_x x) {g : mz_G} (hI : mz_inv g) {q0 : Nat} (h_q0 : kd_words q0) {q1 n_q1 : Nat} (h_q1 : mm_SH x.2.2.2.1 q1 = (100, n_q1)) (m_q1 : n_q1 ≤ 2048) (b_q1 : ∀ j, mz_bd q1 j = (-2147483648, 2147483647)) {q2 n_q2 : Nat} (h_q2 : mm_SH x.2.2.2.1 q2 = (100, n_q2)) (m_q2 : n_q2 ≤ 2048) (b_q2 : ∀ j, mz_bd q2 j = (-2147483648, 2147483647)) {a3 : Int} (l_a3 : (-2147483648) ≤ a3) (u_a3 : a3 ≤ 2147483647) {a4 : Int} (l_a4 : (-2147483648) ≤ a4) (u_a4 : a4 ≤ 2147483647) {a5 : Int} (l_a5 : (-2147483648) ≤ a5) (u_a5 : a5 ≤ 2147483647) {Q : (Option Value ⊕ Nat) → mm_H → Prop} (hQ : ∀ (r : Int), (-1) ≤ r → r ≤ 7 → Q (.inl (some (.int (Int32.ofInt r)))) (mz_mk g x)) : mm_C d 121 [.ref q0, .ref q1, .ref q2, .int (Int32.ofInt a3), .int (Int32.ofInt a4), .int (Int32.ofInt a5)] (mz_mk g x) Q := by
  have kn_q0 := kn_words h_q0
  refine ⟨mmX10_firstNext, [some (.ref q0), some (.ref q1), some (.ref q2), some (.int (Int32.ofInt a3)), some (.int (Int32.ofInt a4)), some (.int (Int32.ofInt a5)), none, none, none], rfl, rfl, ?_⟩
  refine mm_g 2 (pc1 := 3) (lo1 := [some (.ref q0), some (.ref q1), some (.ref q2), some (.int (Int32.ofInt a3)), some (.int (Int32.ofInt a4)), some (.int (Int32.ofInt a5)), some (.int (Int32.ofInt 0)), none, none]) (st1 := []) (H1 := mz_mk g x) rfl ?_
  have L7 : ∀ n6 : Nat, ∀ (v1 : Int) (o2 : Option Value) (o3 : Option Value), (8 - v1).toNat = n6 → 0 ≤ v1 → v1 ≤ 8 → mz_nl o2 → mz_nl o3 → mm_W d mmX10_firstNext 3 [some (.ref q0), some (.ref q1), some (.ref q2), some (.int (Int32.ofInt a3)), some (.int (Int32.ofInt a4)), some (.int (Int32.ofInt a5)), some (.int (Int32.ofInt v1)), o2, o3] [] (mz_mk g x) Q := by
    intro n6
    induction n6 using Nat.strongRecOn with
    | ind n6 ih5 =>
    intro v1 o2 o3 hmn6 l_v1 u_v1 h_o2 h_o3
    refine mm_g 2 (pc1 := 6) (lo1 := [some (.ref q0), some (.ref q1), some (.ref q2), some (.int (Int32.ofInt a3)), some (.int (Int32.ofInt a4)), some (.int (Int32.ofInt a5)), some (.int (Int32.ofInt v1)), o2, o3]) (st1 := [.ref q0, .int (Int32.ofInt v1)]) (H1 := mz_mk g x) rfl ?_
    refine mz_gI rfl fd_10_28 (by decide) (kc_words h_q0 _) hI (kb_words_3 h_q0) (fun v8 e_v8 l_v8 u_v8 => ?_)
    refine mz_ic_ge (tgt := 95) rfl rfl (mz_rg l_v1 u_v1) (mz_rg l_v8 u_v8) (fun c9_8 => ?_) (fun c9_8 => ?_)
    · skip
      refine mm_g 1 (pc1 := 96) (lo1 := [some (.ref q0), some (.ref q1), some (.ref q2), some (.int (Int32.ofInt a3)), some (.int (Int32.ofInt a4)), some (.int (Int32.ofInt a5)), some (.int (Int32.ofInt v1)), o2, o3]) (st1 := [.int (Int32.ofInt (-1))]) (H1 := mz_mk g x) rfl ?_
      exact mm_rt rfl rfl (hQ _ (by decide) (by decide))
    · skip
      refine mm_g 2 (pc1 := 15) (lo1 := [some (.ref q0), some (.ref q1), some (.ref q2), some (.int (Int32.ofInt a3)), some (.int (Int32.ofInt a4)), some (.int (Int32.ofInt a5)), some (.int (Int32.ofInt v1)), o2, o3]) (st1 := [.int (Int32.ofInt (-1)), .int (Int32.ofInt a4)]) (H1 := mz_mk g x) rfl ?_
      refine mz_ic_ne (tgt := 22) rfl rfl (mz_rg l_a4 u_a4) ⟨by decide, by decide⟩ (fun c15_8 => ?_) (fun c15_8 => ?_)
      · skip
        refine mm_g 2 (pc1 := 25) (lo1 := [some (.ref q0), some (.ref q1), some (.ref q2), some (.int (Int32.ofInt a3)), some (.int (Int32.ofInt a4)), some (.int (Int32.ofInt a5)), some (.int (Int32.ofInt v1)), o2, o3]) (st1 := [.int (Int32.ofInt a4), .ref q1]) (H1 := mz_mk g x) rfl ?_
        refine mz_bip rfl bip_8 ?_
        refine mz_imul_w rfl (fun v9 _ hwv9 => ?_)
        have l_v9 := hwv9.1
        have u_v9 := hwv9.2
        refine mm_g 1 (pc1 := 30) (lo1 := [some (.ref q0), some (.ref q1), some (.ref q2), some (.int (Int32.ofInt a3)), some (.int (Int32.ofInt a4)), some (.int (Int32.ofInt a5)), some (.int (Int32.ofInt v1)), o2, o3]) (st1 := [.int (Int32.ofInt v1), .int (Int32.ofInt v9), .ref q1]) (H1 := mz_mk g x) rfl ?_
        refine mz_iadd_w rfl (fun v10 _ hwv10 => ?_)
        have l_v10 := hwv10.1
        have u_v10 := hwv10.2
        refine mz_cs rfl mt_10_62 (by decide) rfl (Nat.le_of_ble_eq_true rfl) (by omega) (c_X11_at (by omega) hx hI h_q1 (by omega) b_q1 (by omega) (by omega) l_v10 u_v10 (fun v11 l_v11 u_v11 => ⟨_, rfl, ?_⟩))
        show mm_W d mmX10_firstNext 34 [some (.ref q0), some (.ref q1), some (.ref q2), some (.int (Int32.ofInt a3)), some (.int (Int32.ofInt a4)), some (.int (Int32.ofInt a5)), some (.int (Int32.ofInt v1)), o2, o3] [.int (Int32.ofInt v11)] (mz_mk g x) Q
        refine mm_g 4 (pc1 := 40) (lo1 := [some (.ref q0), some (.ref q1), some (.ref q2), some (.int (Int32.ofInt a3)), some (.int (Int32.ofInt a4)), some (.int (Int32.ofInt a5)), some (.int (Int32.ofInt v1)), some (.int (Int32.ofInt v11)), o3]) (st1 := [.int (Int32.ofInt v1), .int (Int32.ofInt 1), .int (Int32.ofInt a3)]) (H1 := mz_mk g x) rfl ?_
        refine mz_ishl rfl (fun v12 e_v12 hwv12 => ?_)
        have b_v12 : 1 ≤ v12 ∧ v12 ≤ 128 := by rw [e_v12]; exact mz_shl_b (lx := 1) (hx := 1) (k := 7) (by decide) (by decide) (by omega) (by omega) (by omega) (by omega)
        have l_v12 := b_v12.1
        have u_v12 := b_v12.2
        refine mz_iand rfl (fun v13 e_v13 hwv13 => ?_)
        have b_v13 : 0 ≤ v13 ∧ v13 ≤ 128 := by rw [e_v13]; exact mz_and_r (by omega) (by omega) (mz_rg l_a3 u_a3)
        have l_v13 := b_v13.1
        have u_v13 := b_v13.2
        have w_v13 : v13 ≤ v12 := by rw [e_v13]; exact (mz_and_r (hi := v12) (by omega) (Int.le_refl _) (mz_rg l_a3 u_a3) (by omega)).2
        refine mz_if_ne (tgt := 54) rfl rfl (mz_rg l_v13 u_v13) (fun c42_13 => ?_) (fun c42_13 => ?_)
        · skip
          refine mm_g 3 (pc1 := 59) (lo1 := [some (.ref q0), some (.ref q1), some (.ref q2), some (.int (Int32.ofInt a3)), some (.int (Int32.ofInt a4)), some (.int (Int32.ofInt a5)), some (.int (Int32.ofInt v1)), some (.int (Int32.ofInt v11)), some (.int (Int32.ofInt 0))]) (st1 := [.int (Int32.ofInt 0)]) (H1 := mz_mk g x) rfl ?_
          refine mz_if_eq (tgt := 89) rfl rfl ⟨by decide, by decide⟩ (fun c59_13 => ?_) (fun c59_13 => ?_)
          · skip
            refine mz_iincR (v := v1) (lo2 := [some (.ref q0), some (.ref q1), some (.ref q2), some (.int (Int32.ofInt a3)), some (.int (Int32.ofInt a4)), some (.int (Int32.ofInt a5)), some (.int (Int32.ofInt (v1 + 1))), some (.int (Int32.ofInt v11)), some (.int (Int32.ofInt 0))]) rfl rfl rfl (Nat.le_of_ble_eq_true rfl) rfl ?_
            refine mz_gt (tgt := 3) rfl rfl ?_
            exact ih5 ((8 - (v1 + 1)).toNat) (by omega) (v1 + 1) (some (.int (Int32.ofInt v11))) (some (.int (Int32.ofInt 0))) rfl (by omega) (by omega) (mz_nl_i _) (mz_nl_i _)
          · exfalso; omega
        · skip
          refine mm_g 1 (pc1 := 47) (lo1 := [some (.ref q0), some (.ref q1), some (.ref q2), some (.int (Int32.ofInt a3)), some (.int (Int32.ofInt a4)), some (.int (Int32.ofInt a5)), some (.int (Int32.ofInt v1)), some (.int (Int32.ofInt v11)), o3]) (st1 := [.int (Int32.ofInt v11)]) (H1 := mz_mk g x) rfl ?_
          refine mz_if_lt (tgt := 54) rfl rfl (mz_rg l_v11 u_v11) (fun c47_13 => ?_) (fun c47_13 => ?_)
          · skip
            refine mm_g 3 (pc1 := 59) (lo1 := [some (.ref q0), some (.ref q1), some (.ref q2), some (.int (Int32.ofInt a3)), some (.int (Int32.ofInt a4)), some (.int (Int32.ofInt a5)), some (.int (Int32.ofInt v1)), some (.int (Int32.ofInt v11)), some (.int (Int32.ofInt 0))]) (st1 := [.int (Int32.ofInt 0)]) (H1 := mz_mk g x) rfl ?_
            refine mz_if_eq (tgt := 89) rfl rfl ⟨by decide, by decide⟩ (fun c59_13 => ?_) (fun c59_13 => ?_)
            · skip
              refine mz_iincR (v := v1) (lo2 := [some (.ref q0), some (.ref q1), some (.ref q2), some (.int (Int32.ofInt a3)), some (.int (Int32.ofInt a4)), some (.int (Int32.ofInt a5)), some (.int (Int32.ofInt (v1 + 1))), some (.int (Int32.ofInt v11)), some (.int (Int32.ofInt 0))]) rfl rfl rfl (Nat.le_of_ble_eq_true rfl) rfl ?_
              refine mz_gt (tgt := 3) rfl rfl ?_
              exact ih5 ((8 - (v1 + 1)).toNat) (by omega) (v1 + 1) (some (.int (Int32.ofInt v11))) (some (.int (Int32.ofInt 0))) rfl (by omega) (by omega) (mz_nl_i _) (mz_nl_i _)
            · exfalso; omega
          · skip
            refine mm_g 1 (pc1 := 51) (lo1 := [some (.ref q0), some (.ref q1), some (.ref q2), some (.int (Int32.ofInt a3)), some (.int (Int32.ofInt a4)), some (.int (Int32.ofInt a5)), some (.int (Int32.ofInt v1)), some (.int (Int32.ofInt v11)), o3]) (st1 := [.int (Int32.ofInt 1)]) (H1 := mz_mk g x) rfl ?_
            refine mz_gt (tgt := 55) rfl rfl ?_
            refine mm_g 2 (pc1 := 59) (lo1 := [some (.ref q0), some (.ref q1), some (.ref q2), some (.int (Int32.ofInt a3)), some (.int (Int32.ofInt a4)), some (.int (Int32.ofInt a5)), some (.int (Int32.ofInt v1)), some (.int (Int32.ofInt v11)), some (.int (Int32.ofInt 1))]) (st1 := [.int (Int32.ofInt 1)]) (H1 := mz_mk g x) rfl ?_
            refine mz_if_eq (tgt := 89) rfl rfl ⟨by decide, by decide⟩ (fun c59_13 => ?_) (fun c59_13 => ?_)
            · exfalso; omega
            · skip
              refine mm_g 5 (pc1 := 69) (lo1 := [some (.ref q0), some (.ref q1), some (.ref q2), some (.int (Int32.ofInt a3)), some (.int (Int32.ofInt a4)), some (.int (Int32.ofInt a5)), some (.int (Int32.ofInt v1)), some (.int (Int32.ofInt v11)), some (.int (Int32.ofInt 1))]) (st1 := [.int (Int32.ofInt v1), .int (Int32.ofInt 1), .int (Int32.ofInt a3), .ref q2, .int (Int32.ofInt v11)]) (H1 := mz_mk g x) rfl ?_
              refine mz_ishl rfl (fun v14 e_v14 hwv14 => ?_)
              have b_v14 : 1 ≤ v14 ∧ v14 ≤ 128 := by rw [e_v14]; exact mz_shl_b (lx := 1) (hx := 1) (k := 7) (by decide) (by decide) (by omega) (by omega) (by omega) (by omega)
              have l_v14 := b_v14.1
              have u_v14 := b_v14.2
              refine mz_ior rfl (fun v15 e_v15 hwv15 => ?_)
              have l_v15 := hwv15.1
              have u_v15 := hwv15.2
              refine mz_bip rfl bip_8 ?_
              refine mz_imul_w rfl (fun v16 _ hwv16 => ?_)
              have l_v16 := hwv16.1
              have u_v16 := hwv16.2
              refine mm_g 1 (pc1 := 76) (lo1 := [some (.ref q0), some (.ref q1), some (.ref q2), some (.int (Int32.ofInt a3)), some (.int (Int32.ofInt a4)), some (.int (Int32.ofInt a5)), some (.int (Int32.ofInt v1)), some (.int (Int32.ofInt v11)), some (.int (Int32.ofInt 1))]) (st1 := [.int (Int32.ofInt v1), .int (Int32.ofInt v16), .ref q2, .int (Int32.ofInt v11)]) (H1 := mz_mk g x) rfl ?_
              refine mz_iadd_w rfl (fun v17 _ hwv17 => ?_)
              have l_v17 := hwv17.1
              have u_v17 := hwv17.2
              refine mz_cs rfl mt_10_62 (by decide) rfl (Nat.le_of_ble_eq_true rfl) (by omega) (c_X11_at (by omega) hx hI h_q2 (by omega) b_q2 (by omega) (by omega) l_v17 u_v17 (fun v18 l_v18 u_v18 => ⟨_, rfl, ?_⟩))
              show mm_W d mmX10_firstNext 80 [some (.ref q0), some (.ref q1), some (.ref q2), some (.int (Int32.ofInt a3)), some (.int (Int32.ofInt a4)), some (.int (Int32.ofInt a5)), some (.int (Int32.ofInt v1)), some (.int (Int32.ofInt v11)), some (.int (Int32.ofInt 1))] [.int (Int32.ofInt v18), .int (Int32.ofInt v11)] (mz_mk g x) Q
              refine mz_iadd_w rfl (fun v19 _ hwv19 => ?_)
              have l_v19 := hwv19.1
              have u_v19 := hwv19.2
              refine mm_g 1 (pc1 := 83) (lo1 := [some (.ref q0), some (.ref q1), some (.ref q2), some (.int (Int32.ofInt a3)), some (.int (Int32.ofInt a4)), some (.int (Int32.ofInt a5)), some (.int (Int32.ofInt v1)), some (.int (Int32.ofInt v11)), some (.int (Int32.ofInt 1))]) (st1 := [.int (Int32.ofInt a5), .int (Int32.ofInt v19)]) (H1 := mz_mk g x) rfl ?_
              refine mz_ic_ne (tgt := 89) rfl rfl (mz_rg l_v19 u_v19) (mz_rg l_a5 u_a5) (fun c83_19 => ?_) (fun c83_19 => ?_)
              · skip
                refine mz_iincR (v := v1) (lo2 := [some (.ref q0), some (.ref q1), some (.ref q2), some (.int (Int32.ofInt a3)), some (.int (Int32.ofInt a4)), some (.int (Int32.ofInt a5)), some (.int (Int32.ofInt (v1 + 1))), some (.int (Int32.ofInt v11)), some (.int (Int32.ofInt 1))]) rfl rfl rfl (Nat.le_of_ble_eq_true rfl) rfl ?_
                refine mz_gt (tgt := 3) rfl rfl ?_
                exact ih5 ((8 - (v1 + 1)).toNat) (by omega) (v1 + 1) (some (.int (Int32.ofInt v11))) (some (.int (Int32.ofInt 1))) rfl (by omega) (by omega) (mz_nl_i _) (mz_nl_i _)
              · skip
                refine mm_g 1 (pc1 := 88) (lo1 := [some (.ref q0), some (.ref q1), some (.ref q2), some (.int (Int32.ofInt a3)), some (.int (Int32.ofInt a4)), some (.int (Int32.ofInt a5)), some (.int (Int32.ofInt v1)), some (.int (Int32.ofInt v11)), some (.int (Int32.ofInt 1))]) (st1 := [.int (Int32.ofInt v1)]) (H1 := mz_mk g x) rfl ?_
                exact mm_rt rfl rfl (hQ _ (by omega) (by omega))
      · skip
        refine mm_g 1 (pc1 := 19) (lo1 := [some (.ref q0), some (.ref q1), some (.ref q2), some (.int (Int32.ofInt a3)), some (.int (Int32.ofInt a4)), some (.int (Int32.ofInt a5)), some (.int (Int32.ofInt v1)), o2, o3]) (st1 := [.int (Int32.ofInt 0)]) (H1 := mz_mk g x) rfl ?_
        refine mz_gt (tgt := 34) rfl rfl ?_
        refine mm_g 4 (pc1 := 40) (lo1 := [some (.ref q0), some (.ref q1), some (.ref q2), some (.int (Int32.ofInt a3)), some (.int (Int32.ofInt a4)), some (.int (Int32.ofInt a5)), some (.int (Int32.ofInt v1)), some (.int (Int32.ofInt 0)), o3]) (st1 := [.int (Int32.ofInt v1), .int (Int32.ofInt 1), .int (Int32.ofInt a3)]) (H1 := mz_mk g x) rfl ?_
        refine mz_ishl rfl (fun v20 e_v20 hwv20 => ?_)
        have b_v20 : 1 ≤ v20 ∧ v20 ≤ 128 := by rw [e_v20]; exact mz_shl_b (lx := 1) (hx := 1) (k := 7) (by decide) (by decide) (by omega) (by omega) (by omega) (by omega)
        have l_v20 := b_v20.1
        have u_v20 := b_v20.2
        refine mz_iand rfl (fun v21 e_v21 hwv21 => ?_)
        have b_v21 : 0 ≤ v21 ∧ v21 ≤ 128 := by rw [e_v21]; exact mz_and_r (by omega) (by omega) (mz_rg l_a3 u_a3)
        have l_v21 := b_v21.1
        have u_v21 := b_v21.2
        have w_v21 : v21 ≤ v20 := by rw [e_v21]; exact (mz_and_r (hi := v20) (by omega) (Int.le_refl _) (mz_rg l_a3 u_a3) (by omega)).2
        refine mz_if_ne (tgt := 54) rfl rfl (mz_rg l_v21 u_v21) (fun c42_21 => ?_) (fun c42_21 => ?_)
        · skip
          refine mm_g 3 (pc1 := 59) (lo1 := [some (.ref q0), some (.ref q1), some (.ref q2), some (.int (Int32.ofInt a3)), some (.int (Int32.ofInt a4)), some (.int (Int32.ofInt a5)), some (.int (Int32.ofInt v1)), some (.int (Int32.ofInt 0)), some (.int (Int32.ofInt 0))]) (st1 := [.int (Int32.ofInt 0)]) (H1 := mz_mk g x) rfl ?_
          refine mz_if_eq (tgt := 89) rfl rfl ⟨by decide, by decide⟩ (fun c59_21 => ?_) (fun c59_21 => ?_)
          · skip
            refine mz_iincR (v := v1) (lo2 := [some (.ref q0), some (.ref q1), some (.ref q2), some (.int (Int32.ofInt a3)), some (.int (Int32.ofInt a4)), some (.int (Int32.ofInt a5)), some (.int (Int32.ofInt (v1 + 1))), some (.int (Int32.ofInt 0)), some (.int (Int32.ofInt 0))]) rfl rfl rfl (Nat.le_of_ble_eq_true rfl) rfl ?_
            refine mz_gt (tgt := 3) rfl rfl ?_
            exact ih5 ((8 - (v1 + 1)).toNat) (by omega) (v1 + 1) (some (.int (Int32.ofInt 0))) (some (.int (Int32.ofInt 0))) rfl (by omega) (by omega) (mz_nl_i _) (mz_nl_i _)
          · exfalso; omega
        · skip
          refine mm_g 1 (pc1 := 47) (lo1 := [some (.ref q0), some (.ref q1), some (.ref q2), some (.int (Int32.ofInt a3)), some (.int (Int32.ofInt a4)), some (.int (Int32.ofInt a5)), some (.int (Int32.ofInt v1)), some (.int (Int32.ofInt 0)), o3]) (st1 := [.int (Int32.ofInt 0)]) (H1 := mz_mk g x) rfl ?_
          refine mz_if_lt (tgt := 54) rfl rfl ⟨by decide, by decide⟩ (fun c47_21 => ?_) (fun c47_21 => ?_)
          · exfalso; omega
          · skip
            refine mm_g 1 (pc1 := 51) (lo1 := [some (.ref q0), some (.ref q1), some (.ref q2), some (.int (Int32.ofInt a3)), some (.int (Int32.ofInt a4)), some (.int (Int32.ofInt a5)), some (.int (Int32.ofInt v1)), some (.int (Int32.ofInt 0)), o3]) (st1 := [.int (Int32.ofInt 1)]) (H1 := mz_mk g x) rfl ?_
            refine mz_gt (tgt := 55) rfl rfl ?_
            refine mm_g 2 (pc1 := 59) (lo1 := [some (.ref q0), some (.ref q1), some (.ref q2), some (.int (Int32.ofInt a3)), some (.int (Int32.ofInt a4)), some (.int (Int32.ofInt a5)), some (.int (Int32.ofInt v1)), some (.int (Int32.ofInt 0)), some (.int (Int32.ofInt 1))]) (st1 := [.int (Int32.ofInt 1)]) (H1 := mz_mk g x) rfl ?_
            refine mz_if_eq (tgt := 89) rfl rfl ⟨by decide, by decide⟩ (fun c59_21 => ?_) (fun c59_21 => ?_)
            · exfalso; omega
            · skip
              refine mm_g 5 (pc1 := 69) (lo1 := [some (.ref q0), some (.ref q1), some (.ref q2), some (.int (Int32.ofInt a3)), some (.int (Int32.ofInt a4)), some (.int (Int32.ofInt a5)), some (.int (Int32.ofInt v1)), some (.int (Int32.ofInt 0)), some (.int (Int32.ofInt 1))]) (st1 := [.int (Int32.ofInt v1), .int (Int32.ofInt 1), .int (Int32.ofInt a3), .ref q2, .int (Int32.ofInt 0)]) (H1 := mz_mk g x) rfl ?_
              refine mz_ishl rfl (fun v22 e_v22 hwv22 => ?_)
              have b_v22 : 1 ≤ v22 ∧ v22 ≤ 128 := by rw [e_v22]; exact mz_shl_b (lx := 1) (hx := 1) (k := 7) (by decide) (by decide) (by omega) (by omega) (by omega) (by omega)
              have l_v22 := b_v22.1
              have u_v22 := b_v22.2
              refine mz_ior rfl (fun v23 e_v23 hwv23 => ?_)
              have l_v23 := hwv23.1
              have u_v23 := hwv23.2
              refine mz_bip rfl bip_8 ?_
              refine mz_imul_w rfl (fun v24 _ hwv24 => ?_)
              have l_v24 := hwv24.1
              have u_v24 := hwv24.2
              refine mm_g 1 (pc1 := 76) (lo1 := [some (.ref q0), some (.ref q1), some (.ref q2), some (.int (Int32.ofInt a3)), some (.int (Int32.ofInt a4)), some (.int (Int32.ofInt a5)), some (.int (Int32.ofInt v1)), some (.int (Int32.ofInt 0)), some (.int (Int32.ofInt 1))]) (st1 := [.int (Int32.ofInt v1), .int (Int32.ofInt v24), .ref q2, .int (Int32.ofInt 0)]) (H1 := mz_mk g x) rfl ?_
              refine mz_iadd_w rfl (fun v25 _ hwv25 => ?_)
              have l_v25 := hwv25.1
              have u_v25 := hwv25.2
              refine mz_cs rfl mt_10_62 (by decide) rfl (Nat.le_of_ble_eq_true rfl) (by omega) (c_X11_at (by omega) hx hI h_q2 (by omega) b_q2 (by omega) (by omega) l_v25 u_v25 (fun v26 l_v26 u_v26 => ⟨_, rfl, ?_⟩))
              show mm_W d mmX10_firstNext 80 [some (.ref q0), some (.ref q1), some (.ref q2), some (.int (Int32.ofInt a3)), some (.int (Int32.ofInt a4)), some (.int (Int32.ofInt a5)), some (.int (Int32.ofInt v1)), some (.int (Int32.ofInt 0)), some (.int (Int32.ofInt 1))] [.int (Int32.ofInt v26), .int (Int32.ofInt 0)] (mz_mk g x) Q
              refine mz_iadd rfl ?_
              refine mm_g 1 (pc1 := 83) (lo1 := [some (.ref q0), some (.ref q1), some (.ref q2), some (.int (Int32.ofInt a3)), some (.int (Int32.ofInt a4)), some (.int (Int32.ofInt a5)), some (.int (Int32.ofInt v1)), some (.int (Int32.ofInt 0)), some (.int (Int32.ofInt 1))]) (st1 := [.int (Int32.ofInt a5), .int (Int32.ofInt (0 + v26))]) (H1 := mz_mk g x) rfl ?_
              refine mz_ic_ne (tgt := 89) rfl rfl ⟨by omega, by omega⟩ (mz_rg l_a5 u_a5) (fun c83_26 => ?_) (fun c83_26 => ?_)
              · skip
                refine mz_iincR (v := v1) (lo2 := [some (.ref q0), some (.ref q1), some (.ref q2), some (.int (Int32.ofInt a3)), some (.int (Int32.ofInt a4)), some (.int (Int32.ofInt a5)), some (.int (Int32.ofInt (v1 + 1))), some (.int (Int32.ofInt 0)), some (.int (Int32.ofInt 1))]) rfl rfl rfl (Nat.le_of_ble_eq_true rfl) rfl ?_
                refine mz_gt (tgt := 3) rfl rfl ?_
                exact ih5 ((8 - (v1 + 1)).toNat) (by omega) (v1 + 1) (some (.int (Int32.ofInt 0))) (some (.int (Int32.ofInt 1))) rfl (by omega) (by omega) (mz_nl_i _) (mz_nl_i _)
              · skip
                refine mm_g 1 (pc1 := 88) (lo1 := [some (.ref q0), some (.ref q1), some (.ref q2), some (.int (Int32.ofInt a3)), some (.int (Int32.ofInt a4)), some (.int (Int32.ofInt a5)), some (.int (Int32.ofInt v1)), some (.int (Int32.ofInt 0)), some (.int (Int32.ofInt 1))]) (st1 := [.int (Int32.ofInt v1)]) (H1 := mz_mk g x) rfl ?_
                exact mm_rt rfl rfl (hQ _ (by omega) (by omega))
  exact L7 _ 0 none none rfl (by decide) (by decide) mz_nl_n mz_nl_n
def fl_X10_findOrder_57 (x : mm_X) (q0 : Nat) (q1 : Nat) (q2 : Nat) (q3 : Nat) : Nat → Nat → Prop := fun k j => k = q2
def fw_X10_findOrder (x : mm_X) (q0 : Nat) (q1 : Nat) (q2 : Nat) (q3 : Nat) : Nat → Nat → Prop := fun k j => k = q3 ∨ k = q2
theorem c_X10_findOrder {d : Nat} (hd : 13 ≤ d) {x : mm_X} (hx : mk_x x) {g : mz_G} (hI : mz_inv g) {q0 : Nat} (h_q0 : kd_words q0) {q1 n_q1 : Nat} (h_q1 : mm_SH x.2.2.2.1 q1 = (100, n_q1)) (m_q1 : n_q1 ≤ 2048) (b_q1 : ∀ j, mz_bd q1 j = (-2147483648, 2147483647)) {q2 n_q2 : Nat} (h_q2 : mm_SH x.2.2.2.1 q2 = (100, n_q2)) (m_q2 : n_q2 ≤ 2048) (b_q2 : ∀ j, mz_bd q2 j = (-2147483648, 2147483647)) {q3 n_q3 : Nat} (h_q3 : mm_SH x.2.2.2.1 q3 = (100, n_q3)) (m_q3 : n_q3 ≤ 2048) (b_q3 : ∀ j, mz_bd q3 j = (-2147483648, 2147483647)) {Q : (Option Value ⊕ Nat) → mm_H → Prop} (hQ : ∀ (r : Int) (g1 : mz_G), mz_inv g1 → mz_fr (fw_X10_findOrder x q0 q1 q2 q3) g g1 → 0 ≤ r → r ≤ 8 → Q (.inl (some (.int (Int32.ofInt r)))) (mz_mk g1 x)) : mm_C d 119 [.ref q0, .ref q1, .ref q2, .ref q3] (mz_mk g x) Q := by
  have kn_q0 := kn_words h_q0
  refine ⟨mmX10_findOrder, [some (.ref q0), some (.ref q1), some (.ref q2), some (.ref q3), none, none, none, none, none], rfl, rfl, ?_⟩
  refine mm_g 3 (pc1 := 3) (lo1 := [some (.ref q0), some (.ref q1), some (.ref q2), some (.ref q3), none, none, none, none, none]) (st1 := [.ref q3, .ref q1, .ref q0]) (H1 := mz_mk g x) rfl ?_
  refine mz_cv rfl mt_10_98 (by decide) (kc_words h_q0 _) rfl (Nat.le_of_ble_eq_true rfl) (by omega) (c_X10_fillRoom (by omega) hx hI h_q0 h_q1 (by omega) b_q1 h_q3 (by omega) b_q3 (fun g1 hIg1 hfg1 => ⟨_, rfl, ?_⟩))
  show mm_W d mmX10_findOrder 6 [some (.ref q0), some (.ref q1), some (.ref q2), some (.ref q3), none, none, none, none, none] [] (mz_mk g1 x) Q
  refine mm_g 4 (pc1 := 12) (lo1 := [some (.ref q0), some (.ref q1), some (.ref q2), some (.ref q3), some (.int (Int32.ofInt 0)), some (.int (Int32.ofInt 0)), none, none, none]) (st1 := []) (H1 := mz_mk g1 x) rfl ?_
  have L7 : ∀ n6 : Nat, ∀ (v2 : Int) (v3 : Int), (8 - v3).toNat = n6 → 0 ≤ v2 → v2 ≤ 2147483647 → 0 ≤ v3 → v3 ≤ 8 → mm_W d mmX10_findOrder 12 [some (.ref q0), some (.ref q1), some (.ref q2), some (.ref q3), some (.int (Int32.ofInt v2)), some (.int (Int32.ofInt v3)), none, none, none] [] (mz_mk g1 x) Q := by
    intro n6
    induction n6 using Nat.strongRecOn with
    | ind n6 ih5 =>
    intro v2 v3 hmn6 l_v2 u_v2 l_v3 u_v3
    refine mm_g 2 (pc1 := 15) (lo1 := [some (.ref q0), some (.ref q1), some (.ref q2), some (.ref q3), some (.int (Int32.ofInt v2)), some (.int (Int32.ofInt v3)), none, none, none]) (st1 := [.ref q0, .int (Int32.ofInt v3)]) (H1 := mz_mk g1 x) rfl ?_
    refine mz_gI rfl fd_10_28 (by decide) (kc_words h_q0 _) hIg1 (kb_words_3 h_q0) (fun v8 e_v8 l_v8 u_v8 => ?_)
    refine mz_ic_ge (tgt := 48) rfl rfl (mz_rg l_v3 u_v3) (mz_rg l_v8 u_v8) (fun c18_8 => ?_) (fun c18_8 => ?_)
    · skip
      refine mm_g 6 (pc1 := 57) (lo1 := [some (.ref q0), some (.ref q1), some (.ref q2), some (.ref q3), some (.int (Int32.ofInt v2)), some (.int (Int32.ofInt 0)), some (.int (Int32.ofInt (-1))), some (.int (Int32.ofInt 0)), none]) (st1 := []) (H1 := mz_mk g1 x) rfl ?_
      have L17 : ∀ n16 : Nat, ∀ (v9 : Int) (v10 : Int) (v11 : Int) (v12 : Int) (o13 : Option Value) (g14 : mz_G), (8 - v12).toNat = n16 → (-2147483648) ≤ v9 → v9 ≤ 2147483647 → 0 ≤ v10 → v10 ≤ 255 → (-1) ≤ v11 → v11 ≤ 7 → 0 ≤ v12 → v12 ≤ 8 → mz_nl o13 → mz_inv g14 → mz_fr (fl_X10_findOrder_57 x q0 q1 q2 q3) g1 g14 → mm_W d mmX10_findOrder 57 [some (.ref q0), some (.ref q1), some (.ref q2), some (.ref q3), some (.int (Int32.ofInt v9)), some (.int (Int32.ofInt v10)), some (.int (Int32.ofInt v11)), some (.int (Int32.ofInt v12)), o13] [] (mz_mk g14 x) Q := by
        intro n16
        induction n16 using Nat.strongRecOn with
        | ind n16 ih15 =>
        intro v9 v10 v11 v12 o13 g14 hmn16 l_v9 u_v9 l_v10 u_v10 l_v11 u_v11 l_v12 u_v12 h_o13 hIg14 hfg14
        refine mm_g 2 (pc1 := 60) (lo1 := [some (.ref q0), some (.ref q1), some (.ref q2), some (.ref q3), some (.int (Int32.ofInt v9)), some (.int (Int32.ofInt v10)), some (.int (Int32.ofInt v11)), some (.int (Int32.ofInt v12)), o13]) (st1 := [.ref q0, .int (Int32.ofInt v12)]) (H1 := mz_mk g14 x) rfl ?_
        refine mz_gI rfl fd_10_28 (by decide) (kc_words h_q0 _) hIg14 (kb_words_3 h_q0) (fun v18 e_v18 l_v18 u_v18 => ?_)
        refine mz_ic_ge (tgt := 130) rfl rfl (mz_rg l_v12 u_v12) (mz_rg l_v18 u_v18) (fun c63_18 => ?_) (fun c63_18 => ?_)
        · skip
          refine mm_g 1 (pc1 := 132) (lo1 := [some (.ref q0), some (.ref q1), some (.ref q2), some (.ref q3), some (.int (Int32.ofInt v9)), some (.int (Int32.ofInt v10)), some (.int (Int32.ofInt v11)), some (.int (Int32.ofInt v12)), o13]) (st1 := [.int (Int32.ofInt v12)]) (H1 := mz_mk g14 x) rfl ?_
          exact mm_rt rfl rfl (hQ _ _ hIg14 (fun k j hk => ((hfg14 k j (fun h => hk (Or.inr h))).trans (hfg1 k j (fun h => hk (Or.inl h))))) (by omega) (by omega))
        · skip
          refine mm_g 6 (pc1 := 75) (lo1 := [some (.ref q0), some (.ref q1), some (.ref q2), some (.ref q3), some (.int (Int32.ofInt v9)), some (.int (Int32.ofInt v10)), some (.int (Int32.ofInt v11)), some (.int (Int32.ofInt v12)), o13]) (st1 := [.int (Int32.ofInt v9), .int (Int32.ofInt v11), .int (Int32.ofInt v10), .ref q3, .ref q1, .ref q0]) (H1 := mz_mk g14 x) rfl ?_
          refine mz_cv rfl mt_10_107 (by decide) (kc_words h_q0 _) rfl (Nat.le_of_ble_eq_true rfl) (by omega) (c_X10_firstNext (by omega) hx hIg14 h_q0 h_q1 (by omega) b_q1 h_q3 (by omega) b_q3 (by omega) (by omega) (by omega) (by omega) l_v9 u_v9 (fun v19 l_v19 u_v19 => ⟨_, rfl, ?_⟩))
          show mm_W d mmX10_findOrder 78 [some (.ref q0), some (.ref q1), some (.ref q2), some (.ref q3), some (.int (Int32.ofInt v9)), some (.int (Int32.ofInt v10)), some (.int (Int32.ofInt v11)), some (.int (Int32.ofInt v12)), o13] [.int (Int32.ofInt v19)] (mz_mk g14 x) Q
          refine mm_g 3 (pc1 := 83) (lo1 := [some (.ref q0), some (.ref q1), some (.ref q2), some (.ref q3), some (.int (Int32.ofInt v9)), some (.int (Int32.ofInt v10)), some (.int (Int32.ofInt v11)), some (.int (Int32.ofInt v12)), some (.int (Int32.ofInt v19))]) (st1 := [.int (Int32.ofInt (-1)), .int (Int32.ofInt v19)]) (H1 := mz_mk g14 x) rfl ?_
          refine mz_ic_ne (tgt := 89) rfl rfl (mz_rg l_v19 u_v19) ⟨by decide, by decide⟩ (fun c83_19 => ?_) (fun c83_19 => ?_)
          · skip
            refine mm_g 3 (pc1 := 94) (lo1 := [some (.ref q0), some (.ref q1), some (.ref q2), some (.ref q3), some (.int (Int32.ofInt v9)), some (.int (Int32.ofInt v10)), some (.int (Int32.ofInt v11)), some (.int (Int32.ofInt v12)), some (.int (Int32.ofInt v19))]) (st1 := [.int (Int32.ofInt v19), .int (Int32.ofInt 1), .int (Int32.ofInt v10)]) (H1 := mz_mk g14 x) rfl ?_
            refine mz_ishl rfl (fun v20 e_v20 hwv20 => ?_)
            have b_v20 : 1 ≤ v20 ∧ v20 ≤ 128 := by rw [e_v20]; exact mz_shl_b (lx := 1) (hx := 1) (k := 7) (by decide) (by decide) (by omega) (by omega) (by omega) (by omega)
            have l_v20 := b_v20.1
            have u_v20 := b_v20.2
            refine mz_ior rfl (fun v21 e_v21 hwv21 => ?_)
            have b_v21 : 0 ≤ v21 ∧ v21 ≤ 255 := by rw [e_v21]; exact mz_or_lt (n := 8) (by decide) (by omega) (by omega) (by omega) (by omega)
            have l_v21 := b_v21.1
            have u_v21 := b_v21.2
            refine mm_g 5 (pc1 := 105) (lo1 := [some (.ref q0), some (.ref q1), some (.ref q2), some (.ref q3), some (.int (Int32.ofInt v9)), some (.int (Int32.ofInt v21)), some (.int (Int32.ofInt v19)), some (.int (Int32.ofInt v12)), some (.int (Int32.ofInt v19))]) (st1 := [.int (Int32.ofInt v21), .ref q3]) (H1 := mz_mk g14 x) rfl ?_
            refine mz_bip rfl bip_8 ?_
            refine mz_imul rfl ?_
            refine mm_g 1 (pc1 := 110) (lo1 := [some (.ref q0), some (.ref q1), some (.ref q2), some (.ref q3), some (.int (Int32.ofInt v9)), some (.int (Int32.ofInt v21)), some (.int (Int32.ofInt v19)), some (.int (Int32.ofInt v12)), some (.int (Int32.ofInt v19))]) (st1 := [.int (Int32.ofInt v19), .int (Int32.ofInt (v21 * 8)), .ref q3]) (H1 := mz_mk g14 x) rfl ?_
            refine mz_iadd rfl ?_
            refine mz_cs rfl mt_10_62 (by decide) rfl (Nat.le_of_ble_eq_true rfl) (by omega) (c_X11_at (by omega) hx hIg14 h_q3 (by omega) b_q3 (by omega) (by omega) (by omega) (by omega) (fun v22 l_v22 u_v22 => ⟨_, rfl, ?_⟩))
            show mm_W d mmX10_findOrder 114 [some (.ref q0), some (.ref q1), some (.ref q2), some (.ref q3), some (.int (Int32.ofInt v9)), some (.int (Int32.ofInt v21)), some (.int (Int32.ofInt v19)), some (.int (Int32.ofInt v12)), some (.int (Int32.ofInt v19))] [.int (Int32.ofInt v22)] (mz_mk g14 x) Q
            refine mm_g 4 (pc1 := 121) (lo1 := [some (.ref q0), some (.ref q1), some (.ref q2), some (.ref q3), some (.int (Int32.ofInt v22)), some (.int (Int32.ofInt v21)), some (.int (Int32.ofInt v19)), some (.int (Int32.ofInt v12)), some (.int (Int32.ofInt v19))]) (st1 := [.int (Int32.ofInt v19), .int (Int32.ofInt v12), .ref q2]) (H1 := mz_mk g14 x) rfl ?_
            refine mz_cs rfl mt_10_58 (by decide) rfl (Nat.le_of_ble_eq_true rfl) (by omega) (c_X11_put (by omega) hx hIg14 h_q2 (by omega) b_q2 (by omega) (by omega) (by omega) (by omega) (by omega) (by omega) (by omega) (by omega) (fun g23 hIg23 hfg23 => ⟨_, rfl, ?_⟩))
            show mm_W d mmX10_findOrder 124 [some (.ref q0), some (.ref q1), some (.ref q2), some (.ref q3), some (.int (Int32.ofInt v22)), some (.int (Int32.ofInt v21)), some (.int (Int32.ofInt v19)), some (.int (Int32.ofInt v12)), some (.int (Int32.ofInt v19))] [] (mz_mk g23 x) Q
            refine mz_iincR (v := v12) (lo2 := [some (.ref q0), some (.ref q1), some (.ref q2), some (.ref q3), some (.int (Int32.ofInt v22)), some (.int (Int32.ofInt v21)), some (.int (Int32.ofInt v19)), some (.int (Int32.ofInt (v12 + 1))), some (.int (Int32.ofInt v19))]) rfl rfl rfl (Nat.le_of_ble_eq_true rfl) rfl ?_
            refine mz_gt (tgt := 57) rfl rfl ?_
            exact ih15 ((8 - (v12 + 1)).toNat) (by omega) v22 v21 v19 (v12 + 1) (some (.int (Int32.ofInt v19))) g23 rfl (by omega) (by omega) (by omega) (by omega) (by omega) (by omega) (by omega) (by omega) (mz_nl_i _) hIg23 (fun k j hk => ((hfg23 k j (fun h => hk h)).trans (hfg14 k j (fun h => hk h))))
          · skip
            refine mm_g 1 (pc1 := 88) (lo1 := [some (.ref q0), some (.ref q1), some (.ref q2), some (.ref q3), some (.int (Int32.ofInt v9)), some (.int (Int32.ofInt v10)), some (.int (Int32.ofInt v11)), some (.int (Int32.ofInt v12)), some (.int (Int32.ofInt v19))]) (st1 := [.int (Int32.ofInt v12)]) (H1 := mz_mk g14 x) rfl ?_
            exact mm_rt rfl rfl (hQ _ _ hIg14 (fun k j hk => ((hfg14 k j (fun h => hk (Or.inr h))).trans (hfg1 k j (fun h => hk (Or.inl h))))) (by omega) (by omega))
      exact L17 _ v2 0 (-1) 0 none g1 rfl (by omega) (by omega) (by decide) (by decide) (by decide) (by decide) (by decide) (by decide) mz_nl_n hIg1 (fun _ _ _ => rfl)
    · skip
      refine mm_g 4 (pc1 := 27) (lo1 := [some (.ref q0), some (.ref q1), some (.ref q2), some (.ref q3), some (.int (Int32.ofInt v2)), some (.int (Int32.ofInt v3)), none, none, none]) (st1 := [.int (Int32.ofInt v3), .int (Int32.ofInt 1), .ref q3, .int (Int32.ofInt v2)]) (H1 := mz_mk g1 x) rfl ?_
      refine mz_ishl rfl (fun v24 e_v24 hwv24 => ?_)
      have b_v24 : 1 ≤ v24 ∧ v24 ≤ 128 := by rw [e_v24]; exact mz_shl_b (lx := 1) (hx := 1) (k := 7) (by decide) (by decide) (by omega) (by omega) (by omega) (by omega)
      have l_v24 := b_v24.1
      have u_v24 := b_v24.2
      refine mz_bip rfl bip_8 ?_
      refine mz_imul rfl ?_
      refine mm_g 1 (pc1 := 33) (lo1 := [some (.ref q0), some (.ref q1), some (.ref q2), some (.ref q3), some (.int (Int32.ofInt v2)), some (.int (Int32.ofInt v3)), none, none, none]) (st1 := [.int (Int32.ofInt v3), .int (Int32.ofInt (v24 * 8)), .ref q3, .int (Int32.ofInt v2)]) (H1 := mz_mk g1 x) rfl ?_
      refine mz_iadd rfl ?_
      refine mz_cs rfl mt_10_62 (by decide) rfl (Nat.le_of_ble_eq_true rfl) (by omega) (c_X11_at (by omega) hx hIg1 h_q3 (by omega) b_q3 (by omega) (by omega) (by omega) (by omega) (fun v25 l_v25 u_v25 => ⟨_, rfl, ?_⟩))
      show mm_W d mmX10_findOrder 37 [some (.ref q0), some (.ref q1), some (.ref q2), some (.ref q3), some (.int (Int32.ofInt v2)), some (.int (Int32.ofInt v3)), none, none, none] [.int (Int32.ofInt v25), .int (Int32.ofInt v2)] (mz_mk g1 x) Q
      refine mz_mx rfl mt_10_102 (Nat.le_of_ble_eq_true rfl) (by omega) (mz_rg l_v2 u_v2) (mz_rg l_v25 u_v25) (fun v26 e_v26 => ?_)
      have l_v26 : 0 ≤ v26 := by omega
      have u_v26 : v26 ≤ 2147483647 := by omega
      refine mm_g 1 (pc1 := 42) (lo1 := [some (.ref q0), some (.ref q1), some (.ref q2), some (.ref q3), some (.int (Int32.ofInt v26)), some (.int (Int32.ofInt v3)), none, none, none]) (st1 := []) (H1 := mz_mk g1 x) rfl ?_
      refine mz_iincR (v := v3) (lo2 := [some (.ref q0), some (.ref q1), some (.ref q2), some (.ref q3), some (.int (Int32.ofInt v26)), some (.int (Int32.ofInt (v3 + 1))), none, none, none]) rfl rfl rfl (Nat.le_of_ble_eq_true rfl) rfl ?_
      refine mz_gt (tgt := 12) rfl rfl ?_
      exact ih5 ((8 - (v3 + 1)).toNat) (by omega) v26 (v3 + 1) rfl (by omega) (by omega) (by omega) (by omega)
  exact L7 _ 0 0 rfl (by decide) (by decide) (by decide) (by decide)
theorem c_X10_inRow {d : Nat} (hd : 2 ≤ d) {x : mm_X} (hx : mk_x x) {g : mz_G} (hI : mz_inv g) {q0 : Nat} (h_q0 : kd_words q0) {a1 : Int} (l_a1 : (-2147483648) ≤ a1) (u_a1 : a1 ≤ 2147483647) {Q : (Option Value ⊕ Nat) → mm_H → Prop} (hQ : ∀ (r : Int), (-2147483648) ≤ r → r ≤ 2147483647 → Q (.inl (some (.int (Int32.ofInt r)))) (mz_mk g x)) : mm_C d 113 [.ref q0, .int (Int32.ofInt a1)] (mz_mk g x) Q := by
  have kn_q0 := kn_words h_q0
  refine ⟨mmX10_inRow, [some (.ref q0), some (.int (Int32.ofInt a1))], rfl, rfl, ?_⟩
  refine mm_g 1 (pc1 := 1) (lo1 := [some (.ref q0), some (.int (Int32.ofInt a1))]) (st1 := [.ref q0]) (H1 := mz_mk g x) rfl ?_
  refine mz_fgR (v := (q0 + 7)) rfl fd_10_38 (by decide) (kc_words h_q0 _) (kr_words_6 h_q0 _ _ _) ?_
  refine mm_g 1 (pc1 := 5) (lo1 := [some (.ref q0), some (.int (Int32.ofInt a1))]) (st1 := [.int (Int32.ofInt a1), .ref (q0 + 7)]) (H1 := mz_mk g x) rfl ?_
  refine mz_cs rfl mt_10_62 (by decide) rfl (Nat.le_of_ble_eq_true rfl) (by omega) (c_X11_at (by omega) hx hI (ka_words_6 h_q0 _) (by decide) (kba_words_6 h_q0) (by omega) (by omega) l_a1 u_a1 (fun v1 l_v1 u_v1 => ⟨_, rfl, ?_⟩))
  show mm_W d mmX10_inRow 8 [some (.ref q0), some (.int (Int32.ofInt a1))] [.int (Int32.ofInt v1)] (mz_mk g x) Q
  exact mm_rt rfl rfl (hQ _ (by omega) (by omega))
theorem c_X0_length {d : Nat} (hd : 1 ≤ d) {x : mm_X} (hx : mk_x x) {g : mz_G} (hI : mz_inv g) {q0 : Nat} (h_q0 : kd_let q0) {Q : (Option Value ⊕ Nat) → mm_H → Prop} (hQ : ∀ (r : Int), 0 ≤ r → r ≤ 16 → Q (.inl (some (.int (Int32.ofInt r)))) (mz_mk g x)) : mm_C d 3 [.ref q0] (mz_mk g x) Q := by
  have kn_q0 := kn_let h_q0
  refine ⟨mmX0_length, [some (.ref q0)], rfl, rfl, ?_⟩
  refine mm_g 1 (pc1 := 1) (lo1 := [some (.ref q0)]) (st1 := [.ref q0]) (H1 := mz_mk g x) rfl ?_
  refine mz_gI rfl fd_0_7 (by decide) (kc_let h_q0 _) hI (kb_let_1 h_q0) (fun v1 e_v1 l_v1 u_v1 => ?_)
  exact mm_rt rfl rfl (hQ _ (by omega) (by omega))
