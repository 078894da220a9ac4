/-! CONTRACTS OF THE CLASS, by program (wip/p2/tools/gen23.py) -/
def fl_X5_worth_4 (x : mm_X) (q0 : Nat) : Nat → Nat → Prop := fun k j => k = (q0 + 3)
def fw_X5_worth (x : mm_X) (q0 : Nat) : Nat → Nat → Prop := fun k j => k = (q0 + 3)
theorem c_X5_worth {d : Nat} (hd : 2 ≤ d) {x : mm_X} (hx : mk_x x) {g : mz_G} (hI : mz_inv g) {q0 : Nat} (h_q0 : kd_rule q0) {Q : (Option Value ⊕ Nat) → mm_H → Prop} (hQ : ∀ (r : Int) (g1 : mz_G), mz_inv g1 → mz_fr (fw_X5_worth x q0) g g1 → (-2147483648) ≤ r → r ≤ 2147483647 → Q (.inl (some (.int (Int32.ofInt r)))) (mz_mk g1 x)) : mm_C d 63 [.ref q0] (mz_mk g x) Q := by
  have kn_q0 := kn_rule h_q0
  refine ⟨mmX5_worth, [some (.ref q0), none, none, none], rfl, rfl, ?_⟩
  refine mm_g 4 (pc1 := 4) (lo1 := [some (.ref q0), some (.int (Int32.ofInt (-1))), some (.int (Int32.ofInt 0)), none]) (st1 := []) (H1 := mz_mk g x) rfl ?_
  have L7 : ∀ n6 : Nat, ∀ (v1 : Int) (v2 : Int) (o3 : Option Value) (g4 : mz_G), (700 - v2).toNat = n6 → (-2147483648) ≤ v1 → v1 ≤ 2147483647 → 0 ≤ v2 → v2 ≤ 700 → mz_nl o3 → mz_inv g4 → mz_fr (fl_X5_worth_4 x q0) g g4 → mm_W d mmX5_worth 4 [some (.ref q0), some (.int (Int32.ofInt v1)), some (.int (Int32.ofInt v2)), o3] [] (mz_mk g4 x) Q := by
    intro n6
    induction n6 using Nat.strongRecOn with
    | ind n6 ih5 =>
    intro v1 v2 o3 g4 hmn6 l_v1 u_v1 l_v2 u_v2 h_o3 hIg4 hfg4
    refine mm_g 2 (pc1 := 6) (lo1 := [some (.ref q0), some (.int (Int32.ofInt v1)), some (.int (Int32.ofInt v2)), o3]) (st1 := [.ref q0, .int (Int32.ofInt v2)]) (H1 := mz_mk g4 x) rfl ?_
    refine mz_gI rfl fd_5_15 (by decide) (kc_rule h_q0 _) hIg4 (kb_rule_1 h_q0) (fun v8 e_v8 l_v8 u_v8 => ?_)
    refine mz_ic_ge (tgt := 131) rfl rfl (mz_rg l_v2 u_v2) (mz_rg l_v8 u_v8) (fun c9_8 => ?_) (fun c9_8 => ?_)
    · skip
      refine mm_g 1 (pc1 := 132) (lo1 := [some (.ref q0), some (.int (Int32.ofInt v1)), some (.int (Int32.ofInt v2)), o3]) (st1 := [.ref q0]) (H1 := mz_mk g4 x) rfl ?_
      refine mz_fgR (v := (q0 + 3)) rfl fd_5_22 (by decide) (kc_rule h_q0 _) (kr_rule_3 h_q0 _ _ _) ?_
      refine mm_g 1 (pc1 := 136) (lo1 := [some (.ref q0), some (.int (Int32.ofInt v1)), some (.int (Int32.ofInt v2)), o3]) (st1 := [.int (Int32.ofInt 0), .ref (q0 + 3)]) (H1 := mz_mk g4 x) rfl ?_
      refine mz_cs rfl mt_5_37 (by decide) rfl (Nat.le_of_ble_eq_true rfl) (by omega) (c_X11_at (by omega) hx hIg4 (ka_rule_3 h_q0 _) (by decide) (kba_rule_3 h_q0) (by omega) (by omega) (by decide) (by decide) (fun v9 l_v9 u_v9 => ⟨_, rfl, ?_⟩))
      show mm_W d mmX5_worth 139 [some (.ref q0), some (.int (Int32.ofInt v1)), some (.int (Int32.ofInt v2)), o3] [.int (Int32.ofInt v9)] (mz_mk g4 x) Q
      exact mm_rt rfl rfl (hQ _ _ hIg4 (fun k j hk => (hfg4 k j (fun h => hk h))) (by omega) (by omega))
    · skip
      refine mm_g 1 (pc1 := 13) (lo1 := [some (.ref q0), some (.int (Int32.ofInt v1)), some (.int (Int32.ofInt v2)), o3]) (st1 := [.ref q0]) (H1 := mz_mk g4 x) rfl ?_
      refine mz_fgR (v := (q0 + 1)) rfl fd_5_9 (by decide) (kc_rule h_q0 _) (kr_rule_0 h_q0 _ _ _) ?_
      refine mm_g 1 (pc1 := 17) (lo1 := [some (.ref q0), some (.int (Int32.ofInt v1)), some (.int (Int32.ofInt v2)), o3]) (st1 := [.int (Int32.ofInt v2), .ref (q0 + 1)]) (H1 := mz_mk g4 x) rfl ?_
      refine mz_cs rfl mt_5_37 (by decide) rfl (Nat.le_of_ble_eq_true rfl) (by omega) (c_X11_at (by omega) hx hIg4 (ka_rule_0 h_q0 _) (by decide) (kba_rule_0 h_q0) (by omega) (by omega) (by omega) (by omega) (fun v10 l_v10 u_v10 => ⟨_, rfl, ?_⟩))
      show mm_W d mmX5_worth 20 [some (.ref q0), some (.int (Int32.ofInt v1)), some (.int (Int32.ofInt v2)), o3] [.int (Int32.ofInt v10)] (mz_mk g4 x) Q
      refine mm_g 2 (pc1 := 22) (lo1 := [some (.ref q0), some (.int (Int32.ofInt v1)), some (.int (Int32.ofInt v2)), some (.int (Int32.ofInt v10))]) (st1 := [.int (Int32.ofInt v10)]) (H1 := mz_mk g4 x) rfl ?_
      refine mz_bip rfl bip_m7 ?_
      refine mz_ic_lt (tgt := 59) rfl rfl (mz_rg l_v10 u_v10) ⟨by decide, by decide⟩ (fun c24_10 => ?_) (fun c24_10 => ?_)
      · skip
        refine mm_g 1 (pc1 := 60) (lo1 := [some (.ref q0), some (.int (Int32.ofInt v1)), some (.int (Int32.ofInt v2)), some (.int (Int32.ofInt v10))]) (st1 := [.int (Int32.ofInt v10)]) (H1 := mz_mk g4 x) rfl ?_
        refine mz_bip rfl bip_m13 ?_
        refine mz_ic_ne (tgt := 92) rfl rfl (mz_rg l_v10 u_v10) ⟨by decide, by decide⟩ (fun c62_10 => ?_) (fun c62_10 => ?_)
        · skip
          refine mz_iincW (v := v1) (lo2 := fun v11 => [some (.ref q0), some (.int (Int32.ofInt v11)), some (.int (Int32.ofInt v2)), some (.int (Int32.ofInt v10))]) rfl rfl rfl (Nat.le_of_ble_eq_true rfl) (fun _ => rfl) (fun v11 _ hwv11 => ?_)
          have l_v11 := hwv11.1
          have u_v11 := hwv11.2
          refine mm_g 1 (pc1 := 96) (lo1 := [some (.ref q0), some (.int (Int32.ofInt v11)), some (.int (Int32.ofInt v2)), some (.int (Int32.ofInt v10))]) (st1 := [.ref q0]) (H1 := mz_mk g4 x) rfl ?_
          refine mz_fgR (v := (q0 + 3)) rfl fd_5_22 (by decide) (kc_rule h_q0 _) (kr_rule_3 h_q0 _ _ _) ?_
          refine mm_g 3 (pc1 := 102) (lo1 := [some (.ref q0), some (.int (Int32.ofInt v11)), some (.int (Int32.ofInt v2)), some (.int (Int32.ofInt v10))]) (st1 := [.ref q0, .int (Int32.ofInt v10), .int (Int32.ofInt v11), .ref (q0 + 3)]) (H1 := mz_mk g4 x) rfl ?_
          refine mz_fgR (v := (q0 + 3)) rfl fd_5_22 (by decide) (kc_rule h_q0 _) (kr_rule_3 h_q0 _ _ _) ?_
          refine mm_g 1 (pc1 := 106) (lo1 := [some (.ref q0), some (.int (Int32.ofInt v11)), some (.int (Int32.ofInt v2)), some (.int (Int32.ofInt v10))]) (st1 := [.int (Int32.ofInt v11), .ref (q0 + 3), .int (Int32.ofInt v10), .int (Int32.ofInt v11), .ref (q0 + 3)]) (H1 := mz_mk g4 x) rfl ?_
          refine mz_cs rfl mt_5_37 (by decide) rfl (Nat.le_of_ble_eq_true rfl) (by omega) (c_X11_at (by omega) hx hIg4 (ka_rule_3 h_q0 _) (by decide) (kba_rule_3 h_q0) (by omega) (by omega) l_v11 u_v11 (fun v12 l_v12 u_v12 => ⟨_, rfl, ?_⟩))
          show mm_W d mmX5_worth 109 [some (.ref q0), some (.int (Int32.ofInt v11)), some (.int (Int32.ofInt v2)), some (.int (Int32.ofInt v10))] [.int (Int32.ofInt v12), .int (Int32.ofInt v10), .int (Int32.ofInt v11), .ref (q0 + 3)] (mz_mk g4 x) Q
          refine mm_g 1 (pc1 := 110) (lo1 := [some (.ref q0), some (.int (Int32.ofInt v11)), some (.int (Int32.ofInt v2)), some (.int (Int32.ofInt v10))]) (st1 := [.ref q0, .int (Int32.ofInt v12), .int (Int32.ofInt v10), .int (Int32.ofInt v11), .ref (q0 + 3)]) (H1 := mz_mk g4 x) rfl ?_
          refine mz_fgR (v := (q0 + 3)) rfl fd_5_22 (by decide) (kc_rule h_q0 _) (kr_rule_3 h_q0 _ _ _) ?_
          refine mm_g 2 (pc1 := 115) (lo1 := [some (.ref q0), some (.int (Int32.ofInt v11)), some (.int (Int32.ofInt v2)), some (.int (Int32.ofInt v10))]) (st1 := [.int (Int32.ofInt 1), .int (Int32.ofInt v11), .ref (q0 + 3), .int (Int32.ofInt v12), .int (Int32.ofInt v10), .int (Int32.ofInt v11), .ref (q0 + 3)]) (H1 := mz_mk g4 x) rfl ?_
          refine mz_iadd_w rfl (fun v13 _ hwv13 => ?_)
          have l_v13 := hwv13.1
          have u_v13 := hwv13.2
          refine mz_cs rfl mt_5_37 (by decide) rfl (Nat.le_of_ble_eq_true rfl) (by omega) (c_X11_at (by omega) hx hIg4 (ka_rule_3 h_q0 _) (by decide) (kba_rule_3 h_q0) (by omega) (by omega) l_v13 u_v13 (fun v14 l_v14 u_v14 => ⟨_, rfl, ?_⟩))
          show mm_W d mmX5_worth 119 [some (.ref q0), some (.int (Int32.ofInt v11)), some (.int (Int32.ofInt v2)), some (.int (Int32.ofInt v10))] [.int (Int32.ofInt v14), .int (Int32.ofInt v12), .int (Int32.ofInt v10), .int (Int32.ofInt v11), .ref (q0 + 3)] (mz_mk g4 x) Q
          refine mz_cs rfl mt_5_41 (by decide) rfl (Nat.le_of_ble_eq_true rfl) (by omega) (c_X5_joined (by omega) hx hIg4 l_v10 u_v10 l_v12 u_v12 l_v14 u_v14 (fun v15 l_v15 u_v15 => ⟨_, rfl, ?_⟩))
          show mm_W d mmX5_worth 122 [some (.ref q0), some (.int (Int32.ofInt v11)), some (.int (Int32.ofInt v2)), some (.int (Int32.ofInt v10))] [.int (Int32.ofInt v15), .int (Int32.ofInt v11), .ref (q0 + 3)] (mz_mk g4 x) Q
          refine mz_cs rfl mt_5_25 (by decide) rfl (Nat.le_of_ble_eq_true rfl) (by omega) (c_X11_put (by omega) hx hIg4 (ka_rule_3 h_q0 _) (by decide) (kba_rule_3 h_q0) (by omega) (by omega) l_v11 u_v11 l_v15 u_v15 (by omega) (by omega) (fun g16 hIg16 hfg16 => ⟨_, rfl, ?_⟩))
          show mm_W d mmX5_worth 125 [some (.ref q0), some (.int (Int32.ofInt v11)), some (.int (Int32.ofInt v2)), some (.int (Int32.ofInt v10))] [] (mz_mk g16 x) Q
          refine mz_iincR (v := v2) (lo2 := [some (.ref q0), some (.int (Int32.ofInt v11)), some (.int (Int32.ofInt (v2 + 1))), some (.int (Int32.ofInt v10))]) rfl rfl rfl (Nat.le_of_ble_eq_true rfl) rfl ?_
          refine mz_gt (tgt := 4) rfl rfl ?_
          exact ih5 ((700 - (v2 + 1)).toNat) (by omega) v11 (v2 + 1) (some (.int (Int32.ofInt v10))) g16 rfl (by omega) (by omega) (by omega) (by omega) (mz_nl_i _) hIg16 (fun k j hk => ((hfg16 k j (fun h => hk h)).trans (hfg4 k j (fun h => hk h))))
        · skip
          refine mm_g 1 (pc1 := 66) (lo1 := [some (.ref q0), some (.int (Int32.ofInt v1)), some (.int (Int32.ofInt v2)), some (.int (Int32.ofInt v10))]) (st1 := [.ref q0]) (H1 := mz_mk g4 x) rfl ?_
          refine mz_fgR (v := (q0 + 3)) rfl fd_5_22 (by decide) (kc_rule h_q0 _) (kr_rule_3 h_q0 _ _ _) ?_
          refine mm_g 2 (pc1 := 71) (lo1 := [some (.ref q0), some (.int (Int32.ofInt v1)), some (.int (Int32.ofInt v2)), some (.int (Int32.ofInt v10))]) (st1 := [.ref q0, .int (Int32.ofInt v1), .ref (q0 + 3)]) (H1 := mz_mk g4 x) rfl ?_
          refine mz_fgR (v := (q0 + 3)) rfl fd_5_22 (by decide) (kc_rule h_q0 _) (kr_rule_3 h_q0 _ _ _) ?_
          refine mm_g 1 (pc1 := 75) (lo1 := [some (.ref q0), some (.int (Int32.ofInt v1)), some (.int (Int32.ofInt v2)), some (.int (Int32.ofInt v10))]) (st1 := [.int (Int32.ofInt v1), .ref (q0 + 3), .int (Int32.ofInt v1), .ref (q0 + 3)]) (H1 := mz_mk g4 x) rfl ?_
          refine mz_cs rfl mt_5_37 (by decide) rfl (Nat.le_of_ble_eq_true rfl) (by omega) (c_X11_at (by omega) hx hIg4 (ka_rule_3 h_q0 _) (by decide) (kba_rule_3 h_q0) (by omega) (by omega) l_v1 u_v1 (fun v17 l_v17 u_v17 => ⟨_, rfl, ?_⟩))
          show mm_W d mmX5_worth 78 [some (.ref q0), some (.int (Int32.ofInt v1)), some (.int (Int32.ofInt v2)), some (.int (Int32.ofInt v10))] [.int (Int32.ofInt v17), .int (Int32.ofInt v1), .ref (q0 + 3)] (mz_mk g4 x) Q
          refine mz_if_ne (tgt := 85) rfl rfl (mz_rg l_v17 u_v17) (fun c78_17 => ?_) (fun c78_17 => ?_)
          · skip
            refine mm_g 1 (pc1 := 86) (lo1 := [some (.ref q0), some (.int (Int32.ofInt v1)), some (.int (Int32.ofInt v2)), some (.int (Int32.ofInt v10))]) (st1 := [.int (Int32.ofInt 0), .int (Int32.ofInt v1), .ref (q0 + 3)]) (H1 := mz_mk g4 x) rfl ?_
            refine mz_cs rfl mt_5_25 (by decide) rfl (Nat.le_of_ble_eq_true rfl) (by omega) (c_X11_put (by omega) hx hIg4 (ka_rule_3 h_q0 _) (by decide) (kba_rule_3 h_q0) (by omega) (by omega) l_v1 u_v1 (by decide) (by decide) (by omega) (by omega) (fun g18 hIg18 hfg18 => ⟨_, rfl, ?_⟩))
            show mm_W d mmX5_worth 89 [some (.ref q0), some (.int (Int32.ofInt v1)), some (.int (Int32.ofInt v2)), some (.int (Int32.ofInt v10))] [] (mz_mk g18 x) Q
            refine mz_gt (tgt := 125) rfl rfl ?_
            refine mz_iincR (v := v2) (lo2 := [some (.ref q0), some (.int (Int32.ofInt v1)), some (.int (Int32.ofInt (v2 + 1))), some (.int (Int32.ofInt v10))]) rfl rfl rfl (Nat.le_of_ble_eq_true rfl) rfl ?_
            refine mz_gt (tgt := 4) rfl rfl ?_
            exact ih5 ((700 - (v2 + 1)).toNat) (by omega) v1 (v2 + 1) (some (.int (Int32.ofInt v10))) g18 rfl (by omega) (by omega) (by omega) (by omega) (mz_nl_i _) hIg18 (fun k j hk => ((hfg18 k j (fun h => hk h)).trans (hfg4 k j (fun h => hk h))))
          · skip
            refine mm_g 1 (pc1 := 82) (lo1 := [some (.ref q0), some (.int (Int32.ofInt v1)), some (.int (Int32.ofInt v2)), some (.int (Int32.ofInt v10))]) (st1 := [.int (Int32.ofInt 1), .int (Int32.ofInt v1), .ref (q0 + 3)]) (H1 := mz_mk g4 x) rfl ?_
            refine mz_gt (tgt := 86) rfl rfl ?_
            refine mz_cs rfl mt_5_25 (by decide) rfl (Nat.le_of_ble_eq_true rfl) (by omega) (c_X11_put (by omega) hx hIg4 (ka_rule_3 h_q0 _) (by decide) (kba_rule_3 h_q0) (by omega) (by omega) l_v1 u_v1 (by decide) (by decide) (by omega) (by omega) (fun g19 hIg19 hfg19 => ⟨_, rfl, ?_⟩))
            show mm_W d mmX5_worth 89 [some (.ref q0), some (.int (Int32.ofInt v1)), some (.int (Int32.ofInt v2)), some (.int (Int32.ofInt v10))] [] (mz_mk g19 x) Q
            refine mz_gt (tgt := 125) rfl rfl ?_
            refine mz_iincR (v := v2) (lo2 := [some (.ref q0), some (.int (Int32.ofInt v1)), some (.int (Int32.ofInt (v2 + 1))), some (.int (Int32.ofInt v10))]) rfl rfl rfl (Nat.le_of_ble_eq_true rfl) rfl ?_
            refine mz_gt (tgt := 4) rfl rfl ?_
            exact ih5 ((700 - (v2 + 1)).toNat) (by omega) v1 (v2 + 1) (some (.int (Int32.ofInt v10))) g19 rfl (by omega) (by omega) (by omega) (by omega) (mz_nl_i _) hIg19 (fun k j hk => ((hfg19 k j (fun h => hk h)).trans (hfg4 k j (fun h => hk h))))
      · skip
        refine mz_iincW (v := v1) (lo2 := fun v20 => [some (.ref q0), some (.int (Int32.ofInt v20)), some (.int (Int32.ofInt v2)), some (.int (Int32.ofInt v10))]) rfl rfl rfl (Nat.le_of_ble_eq_true rfl) (fun _ => rfl) (fun v20 _ hwv20 => ?_)
        have l_v20 := hwv20.1
        have u_v20 := hwv20.2
        refine mm_g 1 (pc1 := 31) (lo1 := [some (.ref q0), some (.int (Int32.ofInt v20)), some (.int (Int32.ofInt v2)), some (.int (Int32.ofInt v10))]) (st1 := [.ref q0]) (H1 := mz_mk g4 x) rfl ?_
        refine mz_fgR (v := (q0 + 3)) rfl fd_5_22 (by decide) (kc_rule h_q0 _) (kr_rule_3 h_q0 _ _ _) ?_
        refine mm_g 2 (pc1 := 36) (lo1 := [some (.ref q0), some (.int (Int32.ofInt v20)), some (.int (Int32.ofInt v2)), some (.int (Int32.ofInt v10))]) (st1 := [.int (Int32.ofInt v10), .int (Int32.ofInt v20), .ref (q0 + 3)]) (H1 := mz_mk g4 x) rfl ?_
        refine mz_if_lt (tgt := 43) rfl rfl (mz_rg l_v10 u_v10) (fun c36_20 => ?_) (fun c36_20 => ?_)
        · skip
          refine mm_g 1 (pc1 := 44) (lo1 := [some (.ref q0), some (.int (Int32.ofInt v20)), some (.int (Int32.ofInt v2)), some (.int (Int32.ofInt v10))]) (st1 := [.ref q0, .int (Int32.ofInt v20), .ref (q0 + 3)]) (H1 := mz_mk g4 x) rfl ?_
          refine mz_fgR (v := (q0 + 2)) rfl fd_5_19 (by decide) (kc_rule h_q0 _) (kr_rule_2 h_q0 _ _ _) ?_
          refine mm_g 2 (pc1 := 49) (lo1 := [some (.ref q0), some (.int (Int32.ofInt v20)), some (.int (Int32.ofInt v2)), some (.int (Int32.ofInt v10))]) (st1 := [.int (Int32.ofInt v10), .int (Int32.ofInt (-1)), .ref (q0 + 2), .int (Int32.ofInt v20), .ref (q0 + 3)]) (H1 := mz_mk g4 x) rfl ?_
          refine mz_isub rfl ?_
          refine mz_cs rfl mt_5_37 (by decide) rfl (Nat.le_of_ble_eq_true rfl) (by omega) (c_X11_at (by omega) hx hIg4 (ka_rule_2 h_q0 _) (by decide) (kba_rule_2 h_q0) (by omega) (by omega) (by omega) (by omega) (fun v21 l_v21 u_v21 => ⟨_, rfl, ?_⟩))
          show mm_W d mmX5_worth 53 [some (.ref q0), some (.int (Int32.ofInt v20)), some (.int (Int32.ofInt v2)), some (.int (Int32.ofInt v10))] [.int (Int32.ofInt v21), .int (Int32.ofInt v20), .ref (q0 + 3)] (mz_mk g4 x) Q
          refine mz_cs rfl mt_5_25 (by decide) rfl (Nat.le_of_ble_eq_true rfl) (by omega) (c_X11_put (by omega) hx hIg4 (ka_rule_3 h_q0 _) (by decide) (kba_rule_3 h_q0) (by omega) (by omega) l_v20 u_v20 l_v21 u_v21 (by omega) (by omega) (fun g22 hIg22 hfg22 => ⟨_, rfl, ?_⟩))
          show mm_W d mmX5_worth 56 [some (.ref q0), some (.int (Int32.ofInt v20)), some (.int (Int32.ofInt v2)), some (.int (Int32.ofInt v10))] [] (mz_mk g22 x) Q
          refine mz_gt (tgt := 125) rfl rfl ?_
          refine mz_iincR (v := v2) (lo2 := [some (.ref q0), some (.int (Int32.ofInt v20)), some (.int (Int32.ofInt (v2 + 1))), some (.int (Int32.ofInt v10))]) rfl rfl rfl (Nat.le_of_ble_eq_true rfl) rfl ?_
          refine mz_gt (tgt := 4) rfl rfl ?_
          exact ih5 ((700 - (v2 + 1)).toNat) (by omega) v20 (v2 + 1) (some (.int (Int32.ofInt v10))) g22 rfl (by omega) (by omega) (by omega) (by omega) (mz_nl_i _) hIg22 (fun k j hk => ((hfg22 k j (fun h => hk h)).trans (hfg4 k j (fun h => hk h))))
        · skip
          refine mm_g 1 (pc1 := 40) (lo1 := [some (.ref q0), some (.int (Int32.ofInt v20)), some (.int (Int32.ofInt v2)), some (.int (Int32.ofInt v10))]) (st1 := [.int (Int32.ofInt v10), .int (Int32.ofInt v20), .ref (q0 + 3)]) (H1 := mz_mk g4 x) rfl ?_
          refine mz_gt (tgt := 53) rfl rfl ?_
          refine mz_cs rfl mt_5_25 (by decide) rfl (Nat.le_of_ble_eq_true rfl) (by omega) (c_X11_put (by omega) hx hIg4 (ka_rule_3 h_q0 _) (by decide) (kba_rule_3 h_q0) (by omega) (by omega) l_v20 u_v20 l_v10 u_v10 (by omega) (by omega) (fun g23 hIg23 hfg23 => ⟨_, rfl, ?_⟩))
          show mm_W d mmX5_worth 56 [some (.ref q0), some (.int (Int32.ofInt v20)), some (.int (Int32.ofInt v2)), some (.int (Int32.ofInt v10))] [] (mz_mk g23 x) Q
          refine mz_gt (tgt := 125) rfl rfl ?_
          refine mz_iincR (v := v2) (lo2 := [some (.ref q0), some (.int (Int32.ofInt v20)), some (.int (Int32.ofInt (v2 + 1))), some (.int (Int32.ofInt v10))]) rfl rfl rfl (Nat.le_of_ble_eq_true rfl) rfl ?_
          refine mz_gt (tgt := 4) rfl rfl ?_
          exact ih5 ((700 - (v2 + 1)).toNat) (by omega) v20 (v2 + 1) (some (.int (Int32.ofInt v10))) g23 rfl (by omega) (by omega) (by omega) (by omega) (mz_nl_i _) hIg23 (fun k j hk => ((hfg23 k j (fun h => hk h)).trans (hfg4 k j (fun h => hk h))))
  exact L7 _ (-1) 0 none g rfl (by decide) (by decide) (by decide) (by decide) mz_nl_n hI (fun _ _ _ => rfl)
def fw_X1_grow (x : mm_X) (q0 : Nat) (q1 : Nat) (a2 : Int) (a3 : Int) : Nat → Nat → Prop := fun k j => k = q1 ∨ k = ((q0 + 36) + 2) ∨ k = ((q0 + 36) + 3)
theorem c_X1_grow {d : Nat} (hd : 13 ≤ d) {x : mm_X} (hx : mk_x x) {g : mz_G} (hI : mz_inv g) {q0 : Nat} (h_q0 : kd_load q0) {q1 : Nat} (h_q1 : kd_trunk q1) {a2 : Int} (l_a2 : (-2147483648) ≤ a2) (u_a2 : a2 ≤ 2147483647) {a3 : Int} (l_a3 : (-2147483648) ≤ a3) (u_a3 : a3 ≤ 2147483647) {Q : (Option Value ⊕ Nat) → mm_H → Prop} (hQ : ∀ (g1 : mz_G), mz_inv g1 → mz_fr (fw_X1_grow x q0 q1 a2 a3) g g1 → Q (.inl none) (mz_mk g1 x)) : mm_C d 23 [.ref q0, .ref q1, .int (Int32.ofInt a2), .int (Int32.ofInt a3)] (mz_mk g x) Q := by
  have kn_q0 := kn_load h_q0
  have kn_q1 := kn_trunk h_q1
  refine ⟨mmX1_grow, [some (.ref q0), some (.ref q1), some (.int (Int32.ofInt a2)), some (.int (Int32.ofInt a3)), none, none], rfl, rfl, ?_⟩
  refine mm_g 2 (pc1 := 2) (lo1 := [some (.ref q0), some (.ref q1), some (.int (Int32.ofInt a2)), some (.int (Int32.ofInt a3)), none, none]) (st1 := [.ref q1, .int (Int32.ofInt a3)]) (H1 := mz_mk g x) rfl ?_
  refine mz_gI rfl fd_1_120 (by decide) (kc_trunk h_q1 _) hI (kb_trunk_2 h_q1) (fun v1 e_v1 l_v1 u_v1 => ?_)
  refine mz_ic_le (tgt := 12) rfl rfl (mz_rg l_a3 u_a3) (mz_rg l_v1 u_v1) (fun c5_1 => ?_) (fun c5_1 => ?_)
  · skip
    refine mm_g 3 (pc1 := 16) (lo1 := [some (.ref q0), some (.ref q1), some (.int (Int32.ofInt a2)), some (.int (Int32.ofInt a3)), some (.int (Int32.ofInt 0)), none]) (st1 := [.ref q0]) (H1 := mz_mk g x) rfl ?_
    refine mz_fgR (v := (q0 + 36)) rfl fd_1_36 (by decide) (kc_load h_q0 _) (kr_load_4 h_q0 _ _ _) ?_
    refine mz_cv rfl mt_1_123 (by decide) (kc_rule (ks_load_4 h_q0) _) rfl (Nat.le_of_ble_eq_true rfl) (by omega) (c_X5_isTold (by omega) hx hI (ks_load_4 h_q0) (fun v2 l_v2 u_v2 => ⟨_, rfl, ?_⟩))
    show mm_W d mmX1_grow 22 [some (.ref q0), some (.ref q1), some (.int (Int32.ofInt a2)), some (.int (Int32.ofInt a3)), some (.int (Int32.ofInt 0)), none] [.int (Int32.ofInt v2)] (mz_mk g x) Q
    refine mz_if_eq (tgt := 96) rfl rfl (mz_rg l_v2 u_v2) (fun c22_2 => ?_) (fun c22_2 => ?_)
    · skip
      refine mm_g 1 (pc1 := 97) (lo1 := [some (.ref q0), some (.ref q1), some (.int (Int32.ofInt a2)), some (.int (Int32.ofInt a3)), some (.int (Int32.ofInt 0)), none]) (st1 := [.ref q1]) (H1 := mz_mk g x) rfl ?_
      refine mz_gI rfl fd_1_81 (by decide) (kc_trunk h_q1 _) hI (kb_trunk_3 h_q1) (fun v3 e_v3 l_v3 u_v3 => ?_)
      refine mm_g 1 (pc1 := 101) (lo1 := [some (.ref q0), some (.ref q1), some (.int (Int32.ofInt a2)), some (.int (Int32.ofInt a3)), some (.int (Int32.ofInt 0)), none]) (st1 := [.ref q1, .int (Int32.ofInt v3)]) (H1 := mz_mk g x) rfl ?_
      refine mz_gI rfl fd_1_146 (by decide) (kc_trunk h_q1 _) hI (kb_trunk_4 h_q1) (fun v4 e_v4 l_v4 u_v4 => ?_)
      refine mz_if_eq (tgt := 114) rfl rfl (mz_rg l_v4 u_v4) (fun c104_4 => ?_) (fun c104_4 => ?_)
      · skip
        refine mm_g 1 (pc1 := 116) (lo1 := [some (.ref q0), some (.ref q1), some (.int (Int32.ofInt a2)), some (.int (Int32.ofInt a3)), some (.int (Int32.ofInt 0)), none]) (st1 := [.int (Int32.ofInt 0), .int (Int32.ofInt v3)]) (H1 := mz_mk g x) rfl ?_
        refine mz_iadd rfl ?_
        refine mm_g 4 (pc1 := 122) (lo1 := [some (.ref q0), some (.ref q1), some (.int (Int32.ofInt a2)), some (.int (Int32.ofInt a3)), some (.int (Int32.ofInt 0)), some (.int (Int32.ofInt (v3 + 0)))]) (st1 := [.ref q1, .ref q0, .ref q1]) (H1 := mz_mk g x) rfl ?_
        refine mz_cv rfl mt_1_84 (by decide) (kc_load h_q0 _) rfl (Nat.le_of_ble_eq_true rfl) (by omega) (c_X1_fullOf (by omega) hx hI h_q0 h_q1 (fun v5 l_v5 u_v5 => ⟨_, rfl, ?_⟩))
        show mm_W d mmX1_grow 125 [some (.ref q0), some (.ref q1), some (.int (Int32.ofInt a2)), some (.int (Int32.ofInt a3)), some (.int (Int32.ofInt 0)), some (.int (Int32.ofInt (v3 + 0)))] [.int (Int32.ofInt v5), .ref q1] (mz_mk g x) Q
        refine mm_g 1 (pc1 := 127) (lo1 := [some (.ref q0), some (.ref q1), some (.int (Int32.ofInt a2)), some (.int (Int32.ofInt a3)), some (.int (Int32.ofInt 0)), some (.int (Int32.ofInt (v3 + 0)))]) (st1 := [.int (Int32.ofInt (v3 + 0)), .int (Int32.ofInt v5), .ref q1]) (H1 := mz_mk g x) rfl ?_
        refine mz_mn rfl mt_1_75 (Nat.le_of_ble_eq_true rfl) (by omega) (mz_rg l_v5 u_v5) ⟨by omega, by omega⟩ (fun v6 e_v6 => ?_)
        have l_v6 : (-2147483648) ≤ v6 := by omega
        have u_v6 : v6 ≤ 16 := by omega
        refine mz_pI rfl fd_1_81 (kc_trunk h_q1 _) hI (kb_trunk_3 h_q1) (by omega) (by omega) (fun g7 hIg7 hug7 => ?_)
        exact mm_rt rfl rfl (hQ _ hIg7 (fun k j hk => (hug7.2 k j (fun h => hk (Or.inl h.1)))))
      · skip
        refine mm_g 2 (pc1 := 110) (lo1 := [some (.ref q0), some (.ref q1), some (.int (Int32.ofInt a2)), some (.int (Int32.ofInt a3)), some (.int (Int32.ofInt 0)), none]) (st1 := [.int (Int32.ofInt 0), .int (Int32.ofInt 2), .int (Int32.ofInt v3)]) (H1 := mz_mk g x) rfl ?_
        refine mz_imul rfl ?_
        refine mz_gt (tgt := 116) rfl rfl ?_
        refine mz_iadd rfl ?_
        refine mm_g 4 (pc1 := 122) (lo1 := [some (.ref q0), some (.ref q1), some (.int (Int32.ofInt a2)), some (.int (Int32.ofInt a3)), some (.int (Int32.ofInt 0)), some (.int (Int32.ofInt (v3 + (2 * 0))))]) (st1 := [.ref q1, .ref q0, .ref q1]) (H1 := mz_mk g x) rfl ?_
        refine mz_cv rfl mt_1_84 (by decide) (kc_load h_q0 _) rfl (Nat.le_of_ble_eq_true rfl) (by omega) (c_X1_fullOf (by omega) hx hI h_q0 h_q1 (fun v8 l_v8 u_v8 => ⟨_, rfl, ?_⟩))
        show mm_W d mmX1_grow 125 [some (.ref q0), some (.ref q1), some (.int (Int32.ofInt a2)), some (.int (Int32.ofInt a3)), some (.int (Int32.ofInt 0)), some (.int (Int32.ofInt (v3 + (2 * 0))))] [.int (Int32.ofInt v8), .ref q1] (mz_mk g x) Q
        refine mm_g 1 (pc1 := 127) (lo1 := [some (.ref q0), some (.ref q1), some (.int (Int32.ofInt a2)), some (.int (Int32.ofInt a3)), some (.int (Int32.ofInt 0)), some (.int (Int32.ofInt (v3 + (2 * 0))))]) (st1 := [.int (Int32.ofInt (v3 + (2 * 0))), .int (Int32.ofInt v8), .ref q1]) (H1 := mz_mk g x) rfl ?_
        refine mz_mn rfl mt_1_75 (Nat.le_of_ble_eq_true rfl) (by omega) (mz_rg l_v8 u_v8) ⟨by omega, by omega⟩ (fun v9 e_v9 => ?_)
        have l_v9 : (-2147483648) ≤ v9 := by omega
        have u_v9 : v9 ≤ 16 := by omega
        refine mz_pI rfl fd_1_81 (kc_trunk h_q1 _) hI (kb_trunk_3 h_q1) (by omega) (by omega) (fun g10 hIg10 hug10 => ?_)
        exact mm_rt rfl rfl (hQ _ hIg10 (fun k j hk => (hug10.2 k j (fun h => hk (Or.inl h.1)))))
    · skip
      refine mm_g 1 (pc1 := 26) (lo1 := [some (.ref q0), some (.ref q1), some (.int (Int32.ofInt a2)), some (.int (Int32.ofInt a3)), some (.int (Int32.ofInt 0)), none]) (st1 := [.ref q0]) (H1 := mz_mk g x) rfl ?_
      refine mz_fgR (v := (q0 + 36)) rfl fd_1_36 (by decide) (kc_load h_q0 _) (kr_load_4 h_q0 _ _ _) ?_
      refine mm_g 3 (pc1 := 32) (lo1 := [some (.ref q0), some (.ref q1), some (.int (Int32.ofInt a2)), some (.int (Int32.ofInt a3)), some (.int (Int32.ofInt 0)), none]) (st1 := [.int (Int32.ofInt a3), .int (Int32.ofInt a2), .ref q1, .ref (q0 + 36)]) (H1 := mz_mk g x) rfl ?_
      refine mz_cv rfl mt_1_127 (by decide) (kc_rule (ks_load_4 h_q0) _) rfl (Nat.le_of_ble_eq_true rfl) (by omega) (c_X5_setTrunk (by omega) hx hI (ks_load_4 h_q0) h_q1 l_a2 u_a2 l_a3 u_a3 (fun g11 hIg11 hfg11 => ⟨_, rfl, ?_⟩))
      show mm_W d mmX1_grow 35 [some (.ref q0), some (.ref q1), some (.int (Int32.ofInt a2)), some (.int (Int32.ofInt a3)), some (.int (Int32.ofInt 0)), none] [] (mz_mk g11 x) Q
      refine mm_g 1 (pc1 := 36) (lo1 := [some (.ref q0), some (.ref q1), some (.int (Int32.ofInt a2)), some (.int (Int32.ofInt a3)), some (.int (Int32.ofInt 0)), none]) (st1 := [.ref q0]) (H1 := mz_mk g11 x) rfl ?_
      refine mz_fgR (v := (q0 + 36)) rfl fd_1_36 (by decide) (kc_load h_q0 _) (kr_load_4 h_q0 _ _ _) ?_
      refine mm_g 1 (pc1 := 40) (lo1 := [some (.ref q0), some (.ref q1), some (.int (Int32.ofInt a2)), some (.int (Int32.ofInt a3)), some (.int (Int32.ofInt 0)), none]) (st1 := [.ref q0, .ref (q0 + 36)]) (H1 := mz_mk g11 x) rfl ?_
      refine mz_fgR (v := (q0 + 1)) rfl fd_1_12 (by decide) (kc_load h_q0 _) (kr_load_0 h_q0 _ _ _) ?_
      refine mm_g 1 (pc1 := 44) (lo1 := [some (.ref q0), some (.ref q1), some (.int (Int32.ofInt a2)), some (.int (Int32.ofInt a3)), some (.int (Int32.ofInt 0)), none]) (st1 := [.ref q1, .ref (q0 + 1), .ref (q0 + 36)]) (H1 := mz_mk g11 x) rfl ?_
      refine mz_gI rfl fd_1_57 (by decide) (kc_trunk h_q1 _) hIg11 (kb_trunk_0 h_q1) (fun v12 e_v12 l_v12 u_v12 => ?_)
      refine mz_cv rfl mt_1_130 (by decide) (kc_words (ks_load_0 h_q0) _) rfl (Nat.le_of_ble_eq_true rfl) (by omega) (c_X10_firmness (by omega) hx hIg11 (ks_load_0 h_q0) l_v12 u_v12 (fun v13 l_v13 u_v13 => ⟨_, rfl, ?_⟩))
      show mm_W d mmX1_grow 50 [some (.ref q0), some (.ref q1), some (.int (Int32.ofInt a2)), some (.int (Int32.ofInt a3)), some (.int (Int32.ofInt 0)), none] [.int (Int32.ofInt v13), .ref (q0 + 36)] (mz_mk g11 x) Q
      refine mm_g 1 (pc1 := 51) (lo1 := [some (.ref q0), some (.ref q1), some (.int (Int32.ofInt a2)), some (.int (Int32.ofInt a3)), some (.int (Int32.ofInt 0)), none]) (st1 := [.ref q0, .int (Int32.ofInt v13), .ref (q0 + 36)]) (H1 := mz_mk g11 x) rfl ?_
      refine mz_fgR (v := (q0 + 1)) rfl fd_1_12 (by decide) (kc_load h_q0 _) (kr_load_0 h_q0 _ _ _) ?_
      refine mm_g 1 (pc1 := 55) (lo1 := [some (.ref q0), some (.ref q1), some (.int (Int32.ofInt a2)), some (.int (Int32.ofInt a3)), some (.int (Int32.ofInt 0)), none]) (st1 := [.ref q1, .ref (q0 + 1), .int (Int32.ofInt v13), .ref (q0 + 36)]) (H1 := mz_mk g11 x) rfl ?_
      refine mz_gI rfl fd_1_72 (by decide) (kc_trunk h_q1 _) hIg11 (kb_trunk_1 h_q1) (fun v14 e_v14 l_v14 u_v14 => ?_)
      refine mz_cv rfl mt_1_130 (by decide) (kc_words (ks_load_0 h_q0) _) rfl (Nat.le_of_ble_eq_true rfl) (by omega) (c_X10_firmness (by omega) hx hIg11 (ks_load_0 h_q0) l_v14 u_v14 (fun v15 l_v15 u_v15 => ⟨_, rfl, ?_⟩))
      show mm_W d mmX1_grow 61 [some (.ref q0), some (.ref q1), some (.int (Int32.ofInt a2)), some (.int (Int32.ofInt a3)), some (.int (Int32.ofInt 0)), none] [.int (Int32.ofInt v15), .int (Int32.ofInt v13), .ref (q0 + 36)] (mz_mk g11 x) Q
      refine mm_g 1 (pc1 := 62) (lo1 := [some (.ref q0), some (.ref q1), some (.int (Int32.ofInt a2)), some (.int (Int32.ofInt a3)), some (.int (Int32.ofInt 0)), none]) (st1 := [.ref q0, .int (Int32.ofInt v15), .int (Int32.ofInt v13), .ref (q0 + 36)]) (H1 := mz_mk g11 x) rfl ?_
      refine mz_fgR (v := (q0 + 1)) rfl fd_1_12 (by decide) (kc_load h_q0 _) (kr_load_0 h_q0 _ _ _) ?_
      refine mm_g 1 (pc1 := 66) (lo1 := [some (.ref q0), some (.ref q1), some (.int (Int32.ofInt a2)), some (.int (Int32.ofInt a3)), some (.int (Int32.ofInt 0)), none]) (st1 := [.ref q1, .ref (q0 + 1), .int (Int32.ofInt v15), .int (Int32.ofInt v13), .ref (q0 + 36)]) (H1 := mz_mk g11 x) rfl ?_
      refine mz_fgI (v := v12) rfl fd_1_57 (by decide) (kc_trunk h_q1 _) e_v12 ?_
      refine mm_g 1 (pc1 := 70) (lo1 := [some (.ref q0), some (.ref q1), some (.int (Int32.ofInt a2)), some (.int (Int32.ofInt a3)), some (.int (Int32.ofInt 0)), none]) (st1 := [.ref q1, .int (Int32.ofInt v12), .ref (q0 + 1), .int (Int32.ofInt v15), .int (Int32.ofInt v13), .ref (q0 + 36)]) (H1 := mz_mk g11 x) rfl ?_
      refine mz_fgI (v := v14) rfl fd_1_72 (by decide) (kc_trunk h_q1 _) e_v14 ?_
      refine mz_cv rfl mt_1_133 (by decide) (kc_words (ks_load_0 h_q0) _) rfl (Nat.le_of_ble_eq_true rfl) (by omega) (c_X10_overlapOf (by omega) hx hIg11 (ks_load_0 h_q0) l_v12 u_v12 l_v14 u_v14 (fun v16 l_v16 u_v16 => ⟨_, rfl, ?_⟩))
      show mm_W d mmX1_grow 76 [some (.ref q0), some (.ref q1), some (.int (Int32.ofInt a2)), some (.int (Int32.ofInt a3)), some (.int (Int32.ofInt 0)), none] [.int (Int32.ofInt v16), .int (Int32.ofInt v15), .int (Int32.ofInt v13), .ref (q0 + 36)] (mz_mk g11 x) Q
      refine mz_cv rfl mt_1_136 (by decide) (kc_rule (ks_load_4 h_q0) _) rfl (Nat.le_of_ble_eq_true rfl) (by omega) (c_X5_setWords (by omega) hx hIg11 (ks_load_4 h_q0) l_v13 u_v13 l_v15 u_v15 l_v16 u_v16 (fun g17 hIg17 hfg17 => ⟨_, rfl, ?_⟩))
      show mm_W d mmX1_grow 79 [some (.ref q0), some (.ref q1), some (.int (Int32.ofInt a2)), some (.int (Int32.ofInt a3)), some (.int (Int32.ofInt 0)), none] [] (mz_mk g17 x) Q
      refine mm_g 3 (pc1 := 82) (lo1 := [some (.ref q0), some (.ref q1), some (.int (Int32.ofInt a2)), some (.int (Int32.ofInt a3)), some (.int (Int32.ofInt 0)), none]) (st1 := [.ref q0, .int (Int32.ofInt 3), .int (Int32.ofInt 0)]) (H1 := mz_mk g17 x) rfl ?_
      refine mz_fgR (v := (q0 + 36)) rfl fd_1_36 (by decide) (kc_load h_q0 _) (kr_load_4 h_q0 _ _ _) ?_
      refine mz_cv rfl mt_1_140 (by decide) (kc_rule (ks_load_4 h_q0) _) rfl (Nat.le_of_ble_eq_true rfl) (by omega) (c_X5_worth (by omega) hx hIg17 (ks_load_4 h_q0) (fun v18 g19 hIg19 hfg19 l_v18 u_v18 => ⟨_, rfl, ?_⟩))
      show mm_W d mmX1_grow 88 [some (.ref q0), some (.ref q1), some (.int (Int32.ofInt a2)), some (.int (Int32.ofInt a3)), some (.int (Int32.ofInt 0)), none] [.int (Int32.ofInt v18), .int (Int32.ofInt 3), .int (Int32.ofInt 0)] (mz_mk g19 x) Q
      refine mz_mn rfl mt_1_75 (Nat.le_of_ble_eq_true rfl) (by omega) ⟨by decide, by decide⟩ (mz_rg l_v18 u_v18) (fun v20 e_v20 => ?_)
      have l_v20 : (-2147483648) ≤ v20 := by omega
      have u_v20 : v20 ≤ 3 := by omega
      refine mz_mx rfl mt_1_143 (Nat.le_of_ble_eq_true rfl) (by omega) ⟨by decide, by decide⟩ (mz_rg l_v20 u_v20) (fun v21 e_v21 => ?_)
      have l_v21 : 0 ≤ v21 := by omega
      have u_v21 : v21 ≤ 3 := by omega
      refine mm_g 2 (pc1 := 97) (lo1 := [some (.ref q0), some (.ref q1), some (.int (Int32.ofInt a2)), some (.int (Int32.ofInt a3)), some (.int (Int32.ofInt v21)), none]) (st1 := [.ref q1]) (H1 := mz_mk g19 x) rfl ?_
      refine mz_gI rfl fd_1_81 (by decide) (kc_trunk h_q1 _) hIg19 (kb_trunk_3 h_q1) (fun v22 e_v22 l_v22 u_v22 => ?_)
      refine mm_g 1 (pc1 := 101) (lo1 := [some (.ref q0), some (.ref q1), some (.int (Int32.ofInt a2)), some (.int (Int32.ofInt a3)), some (.int (Int32.ofInt v21)), none]) (st1 := [.ref q1, .int (Int32.ofInt v22)]) (H1 := mz_mk g19 x) rfl ?_
      refine mz_gI rfl fd_1_146 (by decide) (kc_trunk h_q1 _) hIg19 (kb_trunk_4 h_q1) (fun v23 e_v23 l_v23 u_v23 => ?_)
      refine mz_if_eq (tgt := 114) rfl rfl (mz_rg l_v23 u_v23) (fun c104_23 => ?_) (fun c104_23 => ?_)
      · skip
        refine mm_g 1 (pc1 := 116) (lo1 := [some (.ref q0), some (.ref q1), some (.int (Int32.ofInt a2)), some (.int (Int32.ofInt a3)), some (.int (Int32.ofInt v21)), none]) (st1 := [.int (Int32.ofInt v21), .int (Int32.ofInt v22)]) (H1 := mz_mk g19 x) rfl ?_
        refine mz_iadd_w rfl (fun v24 _ hwv24 => ?_)
        have l_v24 := hwv24.1
        have u_v24 := hwv24.2
        refine mm_g 4 (pc1 := 122) (lo1 := [some (.ref q0), some (.ref q1), some (.int (Int32.ofInt a2)), some (.int (Int32.ofInt a3)), some (.int (Int32.ofInt v21)), some (.int (Int32.ofInt v24))]) (st1 := [.ref q1, .ref q0, .ref q1]) (H1 := mz_mk g19 x) rfl ?_
        refine mz_cv rfl mt_1_84 (by decide) (kc_load h_q0 _) rfl (Nat.le_of_ble_eq_true rfl) (by omega) (c_X1_fullOf (by omega) hx hIg19 h_q0 h_q1 (fun v25 l_v25 u_v25 => ⟨_, rfl, ?_⟩))
        show mm_W d mmX1_grow 125 [some (.ref q0), some (.ref q1), some (.int (Int32.ofInt a2)), some (.int (Int32.ofInt a3)), some (.int (Int32.ofInt v21)), some (.int (Int32.ofInt v24))] [.int (Int32.ofInt v25), .ref q1] (mz_mk g19 x) Q
        refine mm_g 1 (pc1 := 127) (lo1 := [some (.ref q0), some (.ref q1), some (.int (Int32.ofInt a2)), some (.int (Int32.ofInt a3)), some (.int (Int32.ofInt v21)), some (.int (Int32.ofInt v24))]) (st1 := [.int (Int32.ofInt v24), .int (Int32.ofInt v25), .ref q1]) (H1 := mz_mk g19 x) rfl ?_
        refine mz_mn rfl mt_1_75 (Nat.le_of_ble_eq_true rfl) (by omega) (mz_rg l_v25 u_v25) (mz_rg l_v24 u_v24) (fun v26 e_v26 => ?_)
        have l_v26 : (-2147483648) ≤ v26 := by omega
        have u_v26 : v26 ≤ 16 := by omega
        refine mz_pI rfl fd_1_81 (kc_trunk h_q1 _) hIg19 (kb_trunk_3 h_q1) (by omega) (by omega) (fun g27 hIg27 hug27 => ?_)
        exact mm_rt rfl rfl (hQ _ hIg27 (fun k j hk => ((hug27.2 k j (fun h => hk (Or.inl h.1))).trans ((hfg19 k j (fun h => hk (Or.inr (Or.inr h)))).trans ((hfg17 k j (fun h => hk (Or.inr (Or.inl h)))).trans (hfg11 k j (fun h => hk (Or.inr (Or.inl h)))))))))
      · skip
        refine mm_g 2 (pc1 := 110) (lo1 := [some (.ref q0), some (.ref q1), some (.int (Int32.ofInt a2)), some (.int (Int32.ofInt a3)), some (.int (Int32.ofInt v21)), none]) (st1 := [.int (Int32.ofInt v21), .int (Int32.ofInt 2), .int (Int32.ofInt v22)]) (H1 := mz_mk g19 x) rfl ?_
        refine mz_imul rfl ?_
        refine mz_gt (tgt := 116) rfl rfl ?_
        refine mz_iadd_w rfl (fun v28 _ hwv28 => ?_)
        have l_v28 := hwv28.1
        have u_v28 := hwv28.2
        refine mm_g 4 (pc1 := 122) (lo1 := [some (.ref q0), some (.ref q1), some (.int (Int32.ofInt a2)), some (.int (Int32.ofInt a3)), some (.int (Int32.ofInt v21)), some (.int (Int32.ofInt v28))]) (st1 := [.ref q1, .ref q0, .ref q1]) (H1 := mz_mk g19 x) rfl ?_
        refine mz_cv rfl mt_1_84 (by decide) (kc_load h_q0 _) rfl (Nat.le_of_ble_eq_true rfl) (by omega) (c_X1_fullOf (by omega) hx hIg19 h_q0 h_q1 (fun v29 l_v29 u_v29 => ⟨_, rfl, ?_⟩))
        show mm_W d mmX1_grow 125 [some (.ref q0), some (.ref q1), some (.int (Int32.ofInt a2)), some (.int (Int32.ofInt a3)), some (.int (Int32.ofInt v21)), some (.int (Int32.ofInt v28))] [.int (Int32.ofInt v29), .ref q1] (mz_mk g19 x) Q
        refine mm_g 1 (pc1 := 127) (lo1 := [some (.ref q0), some (.ref q1), some (.int (Int32.ofInt a2)), some (.int (Int32.ofInt a3)), some (.int (Int32.ofInt v21)), some (.int (Int32.ofInt v28))]) (st1 := [.int (Int32.ofInt v28), .int (Int32.ofInt v29), .ref q1]) (H1 := mz_mk g19 x) rfl ?_
        refine mz_mn rfl mt_1_75 (Nat.le_of_ble_eq_true rfl) (by omega) (mz_rg l_v29 u_v29) (mz_rg l_v28 u_v28) (fun v30 e_v30 => ?_)
        have l_v30 : (-2147483648) ≤ v30 := by omega
        have u_v30 : v30 ≤ 16 := by omega
        refine mz_pI rfl fd_1_81 (kc_trunk h_q1 _) hIg19 (kb_trunk_3 h_q1) (by omega) (by omega) (fun g31 hIg31 hug31 => ?_)
        exact mm_rt rfl rfl (hQ _ hIg31 (fun k j hk => ((hug31.2 k j (fun h => hk (Or.inl h.1))).trans ((hfg19 k j (fun h => hk (Or.inr (Or.inr h)))).trans ((hfg17 k j (fun h => hk (Or.inr (Or.inl h)))).trans (hfg11 k j (fun h => hk (Or.inr (Or.inl h)))))))))
  · skip
    refine mm_g 1 (pc1 := 9) (lo1 := [some (.ref q0), some (.ref q1), some (.int (Int32.ofInt a2)), some (.int (Int32.ofInt a3)), none, none]) (st1 := [.int (Int32.ofInt 1)]) (H1 := mz_mk g x) rfl ?_
    refine mz_gt (tgt := 13) rfl rfl ?_
    refine mm_g 2 (pc1 := 16) (lo1 := [some (.ref q0), some (.ref q1), some (.int (Int32.ofInt a2)), some (.int (Int32.ofInt a3)), some (.int (Int32.ofInt 1)), none]) (st1 := [.ref q0]) (H1 := mz_mk g x) rfl ?_
    refine mz_fgR (v := (q0 + 36)) rfl fd_1_36 (by decide) (kc_load h_q0 _) (kr_load_4 h_q0 _ _ _) ?_
    refine mz_cv rfl mt_1_123 (by decide) (kc_rule (ks_load_4 h_q0) _) rfl (Nat.le_of_ble_eq_true rfl) (by omega) (c_X5_isTold (by omega) hx hI (ks_load_4 h_q0) (fun v32 l_v32 u_v32 => ⟨_, rfl, ?_⟩))
    show mm_W d mmX1_grow 22 [some (.ref q0), some (.ref q1), some (.int (Int32.ofInt a2)), some (.int (Int32.ofInt a3)), some (.int (Int32.ofInt 1)), none] [.int (Int32.ofInt v32)] (mz_mk g x) Q
    refine mz_if_eq (tgt := 96) rfl rfl (mz_rg l_v32 u_v32) (fun c22_32 => ?_) (fun c22_32 => ?_)
    · skip
      refine mm_g 1 (pc1 := 97) (lo1 := [some (.ref q0), some (.ref q1), some (.int (Int32.ofInt a2)), some (.int (Int32.ofInt a3)), some (.int (Int32.ofInt 1)), none]) (st1 := [.ref q1]) (H1 := mz_mk g x) rfl ?_
      refine mz_gI rfl fd_1_81 (by decide) (kc_trunk h_q1 _) hI (kb_trunk_3 h_q1) (fun v33 e_v33 l_v33 u_v33 => ?_)
      refine mm_g 1 (pc1 := 101) (lo1 := [some (.ref q0), some (.ref q1), some (.int (Int32.ofInt a2)), some (.int (Int32.ofInt a3)), some (.int (Int32.ofInt 1)), none]) (st1 := [.ref q1, .int (Int32.ofInt v33)]) (H1 := mz_mk g x) rfl ?_
      refine mz_gI rfl fd_1_146 (by decide) (kc_trunk h_q1 _) hI (kb_trunk_4 h_q1) (fun v34 e_v34 l_v34 u_v34 => ?_)
      refine mz_if_eq (tgt := 114) rfl rfl (mz_rg l_v34 u_v34) (fun c104_34 => ?_) (fun c104_34 => ?_)
      · skip
        refine mm_g 1 (pc1 := 116) (lo1 := [some (.ref q0), some (.ref q1), some (.int (Int32.ofInt a2)), some (.int (Int32.ofInt a3)), some (.int (Int32.ofInt 1)), none]) (st1 := [.int (Int32.ofInt 1), .int (Int32.ofInt v33)]) (H1 := mz_mk g x) rfl ?_
        refine mz_iadd_w rfl (fun v35 _ hwv35 => ?_)
        have l_v35 := hwv35.1
        have u_v35 := hwv35.2
        refine mm_g 4 (pc1 := 122) (lo1 := [some (.ref q0), some (.ref q1), some (.int (Int32.ofInt a2)), some (.int (Int32.ofInt a3)), some (.int (Int32.ofInt 1)), some (.int (Int32.ofInt v35))]) (st1 := [.ref q1, .ref q0, .ref q1]) (H1 := mz_mk g x) rfl ?_
        refine mz_cv rfl mt_1_84 (by decide) (kc_load h_q0 _) rfl (Nat.le_of_ble_eq_true rfl) (by omega) (c_X1_fullOf (by omega) hx hI h_q0 h_q1 (fun v36 l_v36 u_v36 => ⟨_, rfl, ?_⟩))
        show mm_W d mmX1_grow 125 [some (.ref q0), some (.ref q1), some (.int (Int32.ofInt a2)), some (.int (Int32.ofInt a3)), some (.int (Int32.ofInt 1)), some (.int (Int32.ofInt v35))] [.int (Int32.ofInt v36), .ref q1] (mz_mk g x) Q
        refine mm_g 1 (pc1 := 127) (lo1 := [some (.ref q0), some (.ref q1), some (.int (Int32.ofInt a2)), some (.int (Int32.ofInt a3)), some (.int (Int32.ofInt 1)), some (.int (Int32.ofInt v35))]) (st1 := [.int (Int32.ofInt v35), .int (Int32.ofInt v36), .ref q1]) (H1 := mz_mk g x) rfl ?_
        refine mz_mn rfl mt_1_75 (Nat.le_of_ble_eq_true rfl) (by omega) (mz_rg l_v36 u_v36) (mz_rg l_v35 u_v35) (fun v37 e_v37 => ?_)
        have l_v37 : (-2147483648) ≤ v37 := by omega
        have u_v37 : v37 ≤ 16 := by omega
        refine mz_pI rfl fd_1_81 (kc_trunk h_q1 _) hI (kb_trunk_3 h_q1) (by omega) (by omega) (fun g38 hIg38 hug38 => ?_)
        exact mm_rt rfl rfl (hQ _ hIg38 (fun k j hk => (hug38.2 k j (fun h => hk (Or.inl h.1)))))
      · skip
        refine mm_g 2 (pc1 := 110) (lo1 := [some (.ref q0), some (.ref q1), some (.int (Int32.ofInt a2)), some (.int (Int32.ofInt a3)), some (.int (Int32.ofInt 1)), none]) (st1 := [.int (Int32.ofInt 1), .int (Int32.ofInt 2), .int (Int32.ofInt v33)]) (H1 := mz_mk g x) rfl ?_
        refine mz_imul rfl ?_
        refine mz_gt (tgt := 116) rfl rfl ?_
        refine mz_iadd_w rfl (fun v39 _ hwv39 => ?_)
        have l_v39 := hwv39.1
        have u_v39 := hwv39.2
        refine mm_g 4 (pc1 := 122) (lo1 := [some (.ref q0), some (.ref q1), some (.int (Int32.ofInt a2)), some (.int (Int32.ofInt a3)), some (.int (Int32.ofInt 1)), some (.int (Int32.ofInt v39))]) (st1 := [.ref q1, .ref q0, .ref q1]) (H1 := mz_mk g x) rfl ?_
        refine mz_cv rfl mt_1_84 (by decide) (kc_load h_q0 _) rfl (Nat.le_of_ble_eq_true rfl) (by omega) (c_X1_fullOf (by omega) hx hI h_q0 h_q1 (fun v40 l_v40 u_v40 => ⟨_, rfl, ?_⟩))
        show mm_W d mmX1_grow 125 [some (.ref q0), some (.ref q1), some (.int (Int32.ofInt a2)), some (.int (Int32.ofInt a3)), some (.int (Int32.ofInt 1)), some (.int (Int32.ofInt v39))] [.int (Int32.ofInt v40), .ref q1] (mz_mk g x) Q
        refine mm_g 1 (pc1 := 127) (lo1 := [some (.ref q0), some (.ref q1), some (.int (Int32.ofInt a2)), some (.int (Int32.ofInt a3)), some (.int (Int32.ofInt 1)), some (.int (Int32.ofInt v39))]) (st1 := [.int (Int32.ofInt v39), .int (Int32.ofInt v40), .ref q1]) (H1 := mz_mk g x) rfl ?_
        refine mz_mn rfl mt_1_75 (Nat.le_of_ble_eq_true rfl) (by omega) (mz_rg l_v40 u_v40) (mz_rg l_v39 u_v39) (fun v41 e_v41 => ?_)
        have l_v41 : (-2147483648) ≤ v41 := by omega
        have u_v41 : v41 ≤ 16 := by omega
        refine mz_pI rfl fd_1_81 (kc_trunk h_q1 _) hI (kb_trunk_3 h_q1) (by omega) (by omega) (fun g42 hIg42 hug42 => ?_)
        exact mm_rt rfl rfl (hQ _ hIg42 (fun k j hk => (hug42.2 k j (fun h => hk (Or.inl h.1)))))
    · skip
      refine mm_g 1 (pc1 := 26) (lo1 := [some (.ref q0), some (.ref q1), some (.int (Int32.ofInt a2)), some (.int (Int32.ofInt a3)), some (.int (Int32.ofInt 1)), none]) (st1 := [.ref q0]) (H1 := mz_mk g x) rfl ?_
      refine mz_fgR (v := (q0 + 36)) rfl fd_1_36 (by decide) (kc_load h_q0 _) (kr_load_4 h_q0 _ _ _) ?_
      refine mm_g 3 (pc1 := 32) (lo1 := [some (.ref q0), some (.ref q1), some (.int (Int32.ofInt a2)), some (.int (Int32.ofInt a3)), some (.int (Int32.ofInt 1)), none]) (st1 := [.int (Int32.ofInt a3), .int (Int32.ofInt a2), .ref q1, .ref (q0 + 36)]) (H1 := mz_mk g x) rfl ?_
      refine mz_cv rfl mt_1_127 (by decide) (kc_rule (ks_load_4 h_q0) _) rfl (Nat.le_of_ble_eq_true rfl) (by omega) (c_X5_setTrunk (by omega) hx hI (ks_load_4 h_q0) h_q1 l_a2 u_a2 l_a3 u_a3 (fun g43 hIg43 hfg43 => ⟨_, rfl, ?_⟩))
      show mm_W d mmX1_grow 35 [some (.ref q0), some (.ref q1), some (.int (Int32.ofInt a2)), some (.int (Int32.ofInt a3)), some (.int (Int32.ofInt 1)), none] [] (mz_mk g43 x) Q
      refine mm_g 1 (pc1 := 36) (lo1 := [some (.ref q0), some (.ref q1), some (.int (Int32.ofInt a2)), some (.int (Int32.ofInt a3)), some (.int (Int32.ofInt 1)), none]) (st1 := [.ref q0]) (H1 := mz_mk g43 x) rfl ?_
      refine mz_fgR (v := (q0 + 36)) rfl fd_1_36 (by decide) (kc_load h_q0 _) (kr_load_4 h_q0 _ _ _) ?_
      refine mm_g 1 (pc1 := 40) (lo1 := [some (.ref q0), some (.ref q1), some (.int (Int32.ofInt a2)), some (.int (Int32.ofInt a3)), some (.int (Int32.ofInt 1)), none]) (st1 := [.ref q0, .ref (q0 + 36)]) (H1 := mz_mk g43 x) rfl ?_
      refine mz_fgR (v := (q0 + 1)) rfl fd_1_12 (by decide) (kc_load h_q0 _) (kr_load_0 h_q0 _ _ _) ?_
      refine mm_g 1 (pc1 := 44) (lo1 := [some (.ref q0), some (.ref q1), some (.int (Int32.ofInt a2)), some (.int (Int32.ofInt a3)), some (.int (Int32.ofInt 1)), none]) (st1 := [.ref q1, .ref (q0 + 1), .ref (q0 + 36)]) (H1 := mz_mk g43 x) rfl ?_
      refine mz_gI rfl fd_1_57 (by decide) (kc_trunk h_q1 _) hIg43 (kb_trunk_0 h_q1) (fun v44 e_v44 l_v44 u_v44 => ?_)
      refine mz_cv rfl mt_1_130 (by decide) (kc_words (ks_load_0 h_q0) _) rfl (Nat.le_of_ble_eq_true rfl) (by omega) (c_X10_firmness (by omega) hx hIg43 (ks_load_0 h_q0) l_v44 u_v44 (fun v45 l_v45 u_v45 => ⟨_, rfl, ?_⟩))
      show mm_W d mmX1_grow 50 [some (.ref q0), some (.ref q1), some (.int (Int32.ofInt a2)), some (.int (Int32.ofInt a3)), some (.int (Int32.ofInt 1)), none] [.int (Int32.ofInt v45), .ref (q0 + 36)] (mz_mk g43 x) Q
      refine mm_g 1 (pc1 := 51) (lo1 := [some (.ref q0), some (.ref q1), some (.int (Int32.ofInt a2)), some (.int (Int32.ofInt a3)), some (.int (Int32.ofInt 1)), none]) (st1 := [.ref q0, .int (Int32.ofInt v45), .ref (q0 + 36)]) (H1 := mz_mk g43 x) rfl ?_
      refine mz_fgR (v := (q0 + 1)) rfl fd_1_12 (by decide) (kc_load h_q0 _) (kr_load_0 h_q0 _ _ _) ?_
      refine mm_g 1 (pc1 := 55) (lo1 := [some (.ref q0), some (.ref q1), some (.int (Int32.ofInt a2)), some (.int (Int32.ofInt a3)), some (.int (Int32.ofInt 1)), none]) (st1 := [.ref q1, .ref (q0 + 1), .int (Int32.ofInt v45), .ref (q0 + 36)]) (H1 := mz_mk g43 x) rfl ?_
      refine mz_gI rfl fd_1_72 (by decide) (kc_trunk h_q1 _) hIg43 (kb_trunk_1 h_q1) (fun v46 e_v46 l_v46 u_v46 => ?_)
      refine mz_cv rfl mt_1_130 (by decide) (kc_words (ks_load_0 h_q0) _) rfl (Nat.le_of_ble_eq_true rfl) (by omega) (c_X10_firmness (by omega) hx hIg43 (ks_load_0 h_q0) l_v46 u_v46 (fun v47 l_v47 u_v47 => ⟨_, rfl, ?_⟩))
      show mm_W d mmX1_grow 61 [some (.ref q0), some (.ref q1), some (.int (Int32.ofInt a2)), some (.int (Int32.ofInt a3)), some (.int (Int32.ofInt 1)), none] [.int (Int32.ofInt v47), .int (Int32.ofInt v45), .ref (q0 + 36)] (mz_mk g43 x) Q
      refine mm_g 1 (pc1 := 62) (lo1 := [some (.ref q0), some (.ref q1), some (.int (Int32.ofInt a2)), some (.int (Int32.ofInt a3)), some (.int (Int32.ofInt 1)), none]) (st1 := [.ref q0, .int (Int32.ofInt v47), .int (Int32.ofInt v45), .ref (q0 + 36)]) (H1 := mz_mk g43 x) rfl ?_
      refine mz_fgR (v := (q0 + 1)) rfl fd_1_12 (by decide) (kc_load h_q0 _) (kr_load_0 h_q0 _ _ _) ?_
      refine mm_g 1 (pc1 := 66) (lo1 := [some (.ref q0), some (.ref q1), some (.int (Int32.ofInt a2)), some (.int (Int32.ofInt a3)), some (.int (Int32.ofInt 1)), none]) (st1 := [.ref q1, .ref (q0 + 1), .int (Int32.ofInt v47), .int (Int32.ofInt v45), .ref (q0 + 36)]) (H1 := mz_mk g43 x) rfl ?_
      refine mz_fgI (v := v44) rfl fd_1_57 (by decide) (kc_trunk h_q1 _) e_v44 ?_
      refine mm_g 1 (pc1 := 70) (lo1 := [some (.ref q0), some (.ref q1), some (.int (Int32.ofInt a2)), some (.int (Int32.ofInt a3)), some (.int (Int32.ofInt 1)), none]) (st1 := [.ref q1, .int (Int32.ofInt v44), .ref (q0 + 1), .int (Int32.ofInt v47), .int (Int32.ofInt v45), .ref (q0 + 36)]) (H1 := mz_mk g43 x) rfl ?_
      refine mz_fgI (v := v46) rfl fd_1_72 (by decide) (kc_trunk h_q1 _) e_v46 ?_
      refine mz_cv rfl mt_1_133 (by decide) (kc_words (ks_load_0 h_q0) _) rfl (Nat.le_of_ble_eq_true rfl) (by omega) (c_X10_overlapOf (by omega) hx hIg43 (ks_load_0 h_q0) l_v44 u_v44 l_v46 u_v46 (fun v48 l_v48 u_v48 => ⟨_, rfl, ?_⟩))
      show mm_W d mmX1_grow 76 [some (.ref q0), some (.ref q1), some (.int (Int32.ofInt a2)), some (.int (Int32.ofInt a3)), some (.int (Int32.ofInt 1)), none] [.int (Int32.ofInt v48), .int (Int32.ofInt v47), .int (Int32.ofInt v45), .ref (q0 + 36)] (mz_mk g43 x) Q
      refine mz_cv rfl mt_1_136 (by decide) (kc_rule (ks_load_4 h_q0) _) rfl (Nat.le_of_ble_eq_true rfl) (by omega) (c_X5_setWords (by omega) hx hIg43 (ks_load_4 h_q0) l_v45 u_v45 l_v47 u_v47 l_v48 u_v48 (fun g49 hIg49 hfg49 => ⟨_, rfl, ?_⟩))
      show mm_W d mmX1_grow 79 [some (.ref q0), some (.ref q1), some (.int (Int32.ofInt a2)), some (.int (Int32.ofInt a3)), some (.int (Int32.ofInt 1)), none] [] (mz_mk g49 x) Q
      refine mm_g 3 (pc1 := 82) (lo1 := [some (.ref q0), some (.ref q1), some (.int (Int32.ofInt a2)), some (.int (Int32.ofInt a3)), some (.int (Int32.ofInt 1)), none]) (st1 := [.ref q0, .int (Int32.ofInt 3), .int (Int32.ofInt 0)]) (H1 := mz_mk g49 x) rfl ?_
      refine mz_fgR (v := (q0 + 36)) rfl fd_1_36 (by decide) (kc_load h_q0 _) (kr_load_4 h_q0 _ _ _) ?_
      refine mz_cv rfl mt_1_140 (by decide) (kc_rule (ks_load_4 h_q0) _) rfl (Nat.le_of_ble_eq_true rfl) (by omega) (c_X5_worth (by omega) hx hIg49 (ks_load_4 h_q0) (fun v50 g51 hIg51 hfg51 l_v50 u_v50 => ⟨_, rfl, ?_⟩))
      show mm_W d mmX1_grow 88 [some (.ref q0), some (.ref q1), some (.int (Int32.ofInt a2)), some (.int (Int32.ofInt a3)), some (.int (Int32.ofInt 1)), none] [.int (Int32.ofInt v50), .int (Int32.ofInt 3), .int (Int32.ofInt 0)] (mz_mk g51 x) Q
      refine mz_mn rfl mt_1_75 (Nat.le_of_ble_eq_true rfl) (by omega) ⟨by decide, by decide⟩ (mz_rg l_v50 u_v50) (fun v52 e_v52 => ?_)
      have l_v52 : (-2147483648) ≤ v52 := by omega
      have u_v52 : v52 ≤ 3 := by omega
      refine mz_mx rfl mt_1_143 (Nat.le_of_ble_eq_true rfl) (by omega) ⟨by decide, by decide⟩ (mz_rg l_v52 u_v52) (fun v53 e_v53 => ?_)
      have l_v53 : 0 ≤ v53 := by omega
      have u_v53 : v53 ≤ 3 := by omega
      refine mm_g 2 (pc1 := 97) (lo1 := [some (.ref q0), some (.ref q1), some (.int (Int32.ofInt a2)), some (.int (Int32.ofInt a3)), some (.int (Int32.ofInt v53)), none]) (st1 := [.ref q1]) (H1 := mz_mk g51 x) rfl ?_
      refine mz_gI rfl fd_1_81 (by decide) (kc_trunk h_q1 _) hIg51 (kb_trunk_3 h_q1) (fun v54 e_v54 l_v54 u_v54 => ?_)
      refine mm_g 1 (pc1 := 101) (lo1 := [some (.ref q0), some (.ref q1), some (.int (Int32.ofInt a2)), some (.int (Int32.ofInt a3)), some (.int (Int32.ofInt v53)), none]) (st1 := [.ref q1, .int (Int32.ofInt v54)]) (H1 := mz_mk g51 x) rfl ?_
      refine mz_gI rfl fd_1_146 (by decide) (kc_trunk h_q1 _) hIg51 (kb_trunk_4 h_q1) (fun v55 e_v55 l_v55 u_v55 => ?_)
      refine mz_if_eq (tgt := 114) rfl rfl (mz_rg l_v55 u_v55) (fun c104_55 => ?_) (fun c104_55 => ?_)
      · skip
        refine mm_g 1 (pc1 := 116) (lo1 := [some (.ref q0), some (.ref q1), some (.int (Int32.ofInt a2)), some (.int (Int32.ofInt a3)), some (.int (Int32.ofInt v53)), none]) (st1 := [.int (Int32.ofInt v53), .int (Int32.ofInt v54)]) (H1 := mz_mk g51 x) rfl ?_
        refine mz_iadd_w rfl (fun v56 _ hwv56 => ?_)
        have l_v56 := hwv56.1
        have u_v56 := hwv56.2
        refine mm_g 4 (pc1 := 122) (lo1 := [some (.ref q0), some (.ref q1), some (.int (Int32.ofInt a2)), some (.int (Int32.ofInt a3)), some (.int (Int32.ofInt v53)), some (.int (Int32.ofInt v56))]) (st1 := [.ref q1, .ref q0, .ref q1]) (H1 := mz_mk g51 x) rfl ?_
        refine mz_cv rfl mt_1_84 (by decide) (kc_load h_q0 _) rfl (Nat.le_of_ble_eq_true rfl) (by omega) (c_X1_fullOf (by omega) hx hIg51 h_q0 h_q1 (fun v57 l_v57 u_v57 => ⟨_, rfl, ?_⟩))
        show mm_W d mmX1_grow 125 [some (.ref q0), some (.ref q1), some (.int (Int32.ofInt a2)), some (.int (Int32.ofInt a3)), some (.int (Int32.ofInt v53)), some (.int (Int32.ofInt v56))] [.int (Int32.ofInt v57), .ref q1] (mz_mk g51 x) Q
        refine mm_g 1 (pc1 := 127) (lo1 := [some (.ref q0), some (.ref q1), some (.int (Int32.ofInt a2)), some (.int (Int32.ofInt a3)), some (.int (Int32.ofInt v53)), some (.int (Int32.ofInt v56))]) (st1 := [.int (Int32.ofInt v56), .int (Int32.ofInt v57), .ref q1]) (H1 := mz_mk g51 x) rfl ?_
        refine mz_mn rfl mt_1_75 (Nat.le_of_ble_eq_true rfl) (by omega) (mz_rg l_v57 u_v57) (mz_rg l_v56 u_v56) (fun v58 e_v58 => ?_)
        have l_v58 : (-2147483648) ≤ v58 := by omega
        have u_v58 : v58 ≤ 16 := by omega
        refine mz_pI rfl fd_1_81 (kc_trunk h_q1 _) hIg51 (kb_trunk_3 h_q1) (by omega) (by omega) (fun g59 hIg59 hug59 => ?_)
        exact mm_rt rfl rfl (hQ _ hIg59 (fun k j hk => ((hug59.2 k j (fun h => hk (Or.inl h.1))).trans ((hfg51 k j (fun h => hk (Or.inr (Or.inr h)))).trans ((hfg49 k j (fun h => hk (Or.inr (Or.inl h)))).trans (hfg43 k j (fun h => hk (Or.inr (Or.inl h)))))))))
      · skip
        refine mm_g 2 (pc1 := 110) (lo1 := [some (.ref q0), some (.ref q1), some (.int (Int32.ofInt a2)), some (.int (Int32.ofInt a3)), some (.int (Int32.ofInt v53)), none]) (st1 := [.int (Int32.ofInt v53), .int (Int32.ofInt 2), .int (Int32.ofInt v54)]) (H1 := mz_mk g51 x) rfl ?_
        refine mz_imul rfl ?_
        refine mz_gt (tgt := 116) rfl rfl ?_
        refine mz_iadd_w rfl (fun v60 _ hwv60 => ?_)
        have l_v60 := hwv60.1
        have u_v60 := hwv60.2
        refine mm_g 4 (pc1 := 122) (lo1 := [some (.ref q0), some (.ref q1), some (.int (Int32.ofInt a2)), some (.int (Int32.ofInt a3)), some (.int (Int32.ofInt v53)), some (.int (Int32.ofInt v60))]) (st1 := [.ref q1, .ref q0, .ref q1]) (H1 := mz_mk g51 x) rfl ?_
        refine mz_cv rfl mt_1_84 (by decide) (kc_load h_q0 _) rfl (Nat.le_of_ble_eq_true rfl) (by omega) (c_X1_fullOf (by omega) hx hIg51 h_q0 h_q1 (fun v61 l_v61 u_v61 => ⟨_, rfl, ?_⟩))
        show mm_W d mmX1_grow 125 [some (.ref q0), some (.ref q1), some (.int (Int32.ofInt a2)), some (.int (Int32.ofInt a3)), some (.int (Int32.ofInt v53)), some (.int (Int32.ofInt v60))] [.int (Int32.ofInt v61), .ref q1] (mz_mk g51 x) Q
        refine mm_g 1 (pc1 := 127) (lo1 := [some (.ref q0), some (.ref q1), some (.int (Int32.ofInt a2)), some (.int (Int32.ofInt a3)), some (.int (Int32.ofInt v53)), some (.int (Int32.ofInt v60))]) (st1 := [.int (Int32.ofInt v60), .int (Int32.ofInt v61), .ref q1]) (H1 := mz_mk g51 x) rfl ?_
        refine mz_mn rfl mt_1_75 (Nat.le_of_ble_eq_true rfl) (by omega) (mz_rg l_v61 u_v61) (mz_rg l_v60 u_v60) (fun v62 e_v62 => ?_)
        have l_v62 : (-2147483648) ≤ v62 := by omega
        have u_v62 : v62 ≤ 16 := by omega
        refine mz_pI rfl fd_1_81 (kc_trunk h_q1 _) hIg51 (kb_trunk_3 h_q1) (by omega) (by omega) (fun g63 hIg63 hug63 => ?_)
        exact mm_rt rfl rfl (hQ _ hIg63 (fun k j hk => ((hug63.2 k j (fun h => hk (Or.inl h.1))).trans ((hfg51 k j (fun h => hk (Or.inr (Or.inr h)))).trans ((hfg49 k j (fun h => hk (Or.inr (Or.inl h)))).trans (hfg43 k j (fun h => hk (Or.inr (Or.inl h)))))))))
def fl_X1_passDay_11 (x : mm_X) (q0 : Nat) (q1 : Nat) : Nat → Nat → Prop := fun k j => (q1 ≤ k ∧ k < q1 + 9) ∨ k = ((q0 + 36) + 2) ∨ k = ((q0 + 36) + 3)
def fw_X1_passDay (x : mm_X) (q0 : Nat) (q1 : Nat) : Nat → Nat → Prop := fun k j => (q1 ≤ k ∧ k < q1 + 9) ∨ k = ((q0 + 36) + 2) ∨ k = ((q0 + 36) + 3)
theorem c_X1_passDay {d : Nat} (hd : 14 ≤ d) {x : mm_X} (hx : mk_x x) {g : mz_G} (hI : mz_inv g) {q0 : Nat} (h_q0 : kd_load q0) {q1 : Nat} (h_q1 : kd_tks q1) {Q : (Option Value ⊕ Nat) → mm_H → Prop} (hQ : ∀ (g1 : mz_G), mz_inv g1 → mz_fr (fw_X1_passDay x q0 q1) g g1 → Q (.inl none) (mz_mk g1 x)) : mm_C d 22 [.ref q0, .ref q1] (mz_mk g x) Q := by
  have kn_q0 := kn_load h_q0
  have kn_q1 := kn_tks h_q1
  refine ⟨mmX1_passDay, [some (.ref q0), some (.ref q1), none, none], rfl, rfl, ?_⟩
  refine mm_g 2 (pc1 := 2) (lo1 := [some (.ref q0), some (.ref q1), none, none]) (st1 := [.ref q1, .ref q0]) (H1 := mz_mk g x) rfl ?_
  refine mz_gI rfl fd_1_110 (by decide) (kc_tks h_q1 _) hI (kb_tks_3 h_q1) (fun v1 e_v1 l_v1 u_v1 => ?_)
  refine mz_cv rfl mt_1_113 (by decide) (kc_load h_q0 _) rfl (Nat.le_of_ble_eq_true rfl) (by omega) (c_X1_heatOf (by omega) hx hI h_q0 l_v1 u_v1 (fun v2 l_v2 u_v2 => ⟨_, rfl, ?_⟩))
  show mm_W d mmX1_passDay 8 [some (.ref q0), some (.ref q1), none, none] [.int (Int32.ofInt v2)] (mz_mk g x) Q
  refine mm_g 3 (pc1 := 11) (lo1 := [some (.ref q0), some (.ref q1), some (.int (Int32.ofInt v2)), some (.int (Int32.ofInt 0))]) (st1 := []) (H1 := mz_mk g x) rfl ?_
  have L7 : ∀ n6 : Nat, ∀ (v3 : Int) (g4 : mz_G), (6 - v3).toNat = n6 → 0 ≤ v3 → v3 ≤ 6 → mz_inv g4 → mz_fr (fl_X1_passDay_11 x q0 q1) g g4 → mm_W d mmX1_passDay 11 [some (.ref q0), some (.ref q1), some (.int (Int32.ofInt v2)), some (.int (Int32.ofInt v3))] [] (mz_mk g4 x) Q := by
    intro n6
    induction n6 using Nat.strongRecOn with
    | ind n6 ih5 =>
    intro v3 g4 hmn6 l_v3 u_v3 hIg4 hfg4
    refine mm_g 2 (pc1 := 13) (lo1 := [some (.ref q0), some (.ref q1), some (.int (Int32.ofInt v2)), some (.int (Int32.ofInt v3))]) (st1 := [.ref q1, .int (Int32.ofInt v3)]) (H1 := mz_mk g4 x) rfl ?_
    refine mz_gI rfl fd_1_43 (by decide) (kc_tks h_q1 _) hIg4 (kb_tks_2 h_q1) (fun v8 e_v8 l_v8 u_v8 => ?_)
    refine mz_ic_ge (tgt := 39) rfl rfl (mz_rg l_v3 u_v3) (mz_rg l_v8 u_v8) (fun c16_8 => ?_) (fun c16_8 => ?_)
    · skip
      refine mm_g 2 (pc1 := 41) (lo1 := [some (.ref q0), some (.ref q1), some (.int (Int32.ofInt v2)), some (.int (Int32.ofInt v3))]) (st1 := [.ref q1, .ref q1]) (H1 := mz_mk g4 x) rfl ?_
      refine mz_gI rfl fd_1_110 (by decide) (kc_tks h_q1 _) hIg4 (kb_tks_3 h_q1) (fun v9 e_v9 l_v9 u_v9 => ?_)
      refine mm_g 1 (pc1 := 45) (lo1 := [some (.ref q0), some (.ref q1), some (.int (Int32.ofInt v2)), some (.int (Int32.ofInt v3))]) (st1 := [.int (Int32.ofInt 1), .int (Int32.ofInt v9), .ref q1]) (H1 := mz_mk g4 x) rfl ?_
      refine mz_iadd_w rfl (fun v10 _ hwv10 => ?_)
      have l_v10 := hwv10.1
      have u_v10 := hwv10.2
      refine mz_pI rfl fd_1_110 (kc_tks h_q1 _) hIg4 (kb_tks_3 h_q1) (by omega) (by omega) (fun g11 hIg11 hug11 => ?_)
      exact mm_rt rfl rfl (hQ _ hIg11 (fun k j hk => ((hug11.2 k j (fun h => hk (Or.inl (show (q1 ≤ k ∧ k < q1 + 9) by have h9 : k = q1 ∧ j = 3 := h; omega)))).trans (hfg4 k j (fun h => hk (Or.elim h (fun h => (Or.inl h)) (fun h => (Or.elim h (fun h => (Or.inr (Or.inl h))) (fun h => (Or.inr (Or.inr h)))))))))))
    · skip
      refine mm_g 3 (pc1 := 22) (lo1 := [some (.ref q0), some (.ref q1), some (.int (Int32.ofInt v2)), some (.int (Int32.ofInt v3))]) (st1 := [.int (Int32.ofInt v3), .ref q1, .ref q0]) (H1 := mz_mk g4 x) rfl ?_
      refine mz_cv rfl mt_1_99 (by decide) (kc_tks h_q1 _) rfl (Nat.le_of_ble_eq_true rfl) (by omega) (c_X9_get (by omega) hx hIg4 h_q1 (by omega) (by omega) (fun u12 k_u12 hp13 => ⟨_, rfl, ?_⟩))
      show mm_W d mmX1_passDay 25 [some (.ref q0), some (.ref q1), some (.int (Int32.ofInt v2)), some (.int (Int32.ofInt v3))] [.ref u12, .ref q0] (mz_mk g4 x) Q
      refine mm_g 1 (pc1 := 26) (lo1 := [some (.ref q0), some (.ref q1), some (.int (Int32.ofInt v2)), some (.int (Int32.ofInt v3))]) (st1 := [.ref q1, .ref u12, .ref q0]) (H1 := mz_mk g4 x) rfl ?_
      refine mz_gI rfl fd_1_110 (by decide) (kc_tks h_q1 _) hIg4 (kb_tks_3 h_q1) (fun v14 e_v14 l_v14 u_v14 => ?_)
      refine mm_g 1 (pc1 := 30) (lo1 := [some (.ref q0), some (.ref q1), some (.int (Int32.ofInt v2)), some (.int (Int32.ofInt v3))]) (st1 := [.int (Int32.ofInt v2), .int (Int32.ofInt v14), .ref u12, .ref q0]) (H1 := mz_mk g4 x) rfl ?_
      refine mz_cv rfl mt_1_116 (by decide) (kc_load h_q0 _) rfl (Nat.le_of_ble_eq_true rfl) (by omega) (c_X1_grow (by omega) hx hIg4 h_q0 k_u12 l_v14 u_v14 l_v2 u_v2 (fun g15 hIg15 hfg15 => ⟨_, rfl, ?_⟩))
      show mm_W d mmX1_passDay 33 [some (.ref q0), some (.ref q1), some (.int (Int32.ofInt v2)), some (.int (Int32.ofInt v3))] [] (mz_mk g15 x) Q
      refine mz_iincR (v := v3) (lo2 := [some (.ref q0), some (.ref q1), some (.int (Int32.ofInt v2)), some (.int (Int32.ofInt (v3 + 1)))]) rfl rfl rfl (Nat.le_of_ble_eq_true rfl) rfl ?_
      refine mz_gt (tgt := 11) rfl rfl ?_
      exact ih5 ((6 - (v3 + 1)).toNat) (by omega) (v3 + 1) g15 rfl (by omega) (by omega) hIg15 (fun k j hk => ((hfg15 k j (fun h => hk (Or.elim h (fun h => (Or.inl (show (q1 ≤ k ∧ k < q1 + 9) by have h9 : k = u12 := h; omega))) (fun h => (Or.elim h (fun h => (Or.inr (Or.inl h))) (fun h => (Or.inr (Or.inr h)))))))).trans (hfg4 k j (fun h => hk (Or.elim h (fun h => (Or.inl h)) (fun h => (Or.elim h (fun h => (Or.inr (Or.inl h))) (fun h => (Or.inr (Or.inr h))))))))))
  exact L7 _ 0 g rfl (by decide) (by decide) hI (fun _ _ _ => rfl)
def fl_X11_days_47 (x : mm_X) (a1 : Int) : Nat → Nat → Prop := fun k j => (87 ≤ k ∧ k < 96) ∨ k = ((x.1 + 36) + 2) ∨ k = ((x.1 + 36) + 3)
def fw_X11_days (x : mm_X) (a1 : Int) : Nat → Nat → Prop := fun k j => k = 100 ∨ k = 96 ∨ k = 86 ∨ (87 ≤ k ∧ k < 96) ∨ k = ((x.1 + 36) + 2) ∨ k = ((x.1 + 36) + 3)
theorem c_X11_days {d : Nat} (hd : 15 ≤ d) {x : mm_X} (hx : mk_x x) {g : mz_G} (hI : mz_inv g) {a1 : Int} (l_a1 : (-2147483648) ≤ a1) (u_a1 : a1 ≤ 2147483647) {Q : (Option Value ⊕ Nat) → mm_H → Prop} (hQ : ∀ (r : Int) (g1 : mz_G), mz_inv g1 → mz_fr (fw_X11_days x a1) g g1 → (-2147483648) ≤ r → r ≤ 2147483647 → Q (.inl (some (.int (Int32.ofInt r)))) (mz_mk g1 x)) : mm_C d 133 [.ref 0, .int (Int32.ofInt a1)] (mz_mk g x) Q := by
  have kx := kn_x hx
  refine ⟨mmX11_days, [some (.ref 0), some (.int (Int32.ofInt a1)), none], rfl, rfl, ?_⟩
  refine mm_g 2 (pc1 := 2) (lo1 := [some (.ref 0), some (.int (Int32.ofInt a1)), none]) (st1 := [.int (Int32.ofInt 1), .int (Int32.ofInt a1)]) (H1 := mz_mk g x) rfl ?_
  refine mz_ic_lt (tgt := 29) rfl rfl (mz_rg l_a1 u_a1) ⟨by decide, by decide⟩ (fun c2_0 => ?_) (fun c2_0 => ?_)
  · skip
    refine mm_g 1 (pc1 := 30) (lo1 := [some (.ref 0), some (.int (Int32.ofInt a1)), none]) (st1 := [.ref 0]) (H1 := mz_mk g x) rfl ?_
    refine mz_fgR (v := 86) rfl fd_11_37 (by decide) (sc_0 _) (rf_0_5 _ _ _) ?_
    refine mm_g 1 (pc1 := 34) (lo1 := [some (.ref 0), some (.int (Int32.ofInt a1)), none]) (st1 := [.int (Int32.ofInt 1), .ref 86]) (H1 := mz_mk g x) rfl ?_
    refine mz_cv rfl mt_11_131 (by decide) (sc_86 _) rfl (Nat.le_of_ble_eq_true rfl) (by omega) (c_X6_refuse (by omega) hx hI kp_story_86 (by decide) (by decide) (fun v1 g2 hIg2 hfg2 l_v1 u_v1 => ⟨_, rfl, ?_⟩))
    show mm_W d mmX11_days 37 [some (.ref 0), some (.int (Int32.ofInt a1)), none] [.int (Int32.ofInt v1)] (mz_mk g2 x) Q
    exact mm_rt rfl rfl (hQ _ _ hIg2 (fun k j hk => (hfg2 k j (fun h => hk (Or.inl h)))) (by omega) (by omega))
  · skip
    refine mm_g 1 (pc1 := 6) (lo1 := [some (.ref 0), some (.int (Int32.ofInt a1)), none]) (st1 := [.int (Int32.ofInt a1)]) (H1 := mz_mk g x) rfl ?_
    refine mz_bip rfl bip_20 ?_
    refine mz_ic_gt (tgt := 29) rfl rfl (mz_rg l_a1 u_a1) ⟨by decide, by decide⟩ (fun c8_2 => ?_) (fun c8_2 => ?_)
    · skip
      refine mm_g 1 (pc1 := 30) (lo1 := [some (.ref 0), some (.int (Int32.ofInt a1)), none]) (st1 := [.ref 0]) (H1 := mz_mk g x) rfl ?_
      refine mz_fgR (v := 86) rfl fd_11_37 (by decide) (sc_0 _) (rf_0_5 _ _ _) ?_
      refine mm_g 1 (pc1 := 34) (lo1 := [some (.ref 0), some (.int (Int32.ofInt a1)), none]) (st1 := [.int (Int32.ofInt 1), .ref 86]) (H1 := mz_mk g x) rfl ?_
      refine mz_cv rfl mt_11_131 (by decide) (sc_86 _) rfl (Nat.le_of_ble_eq_true rfl) (by omega) (c_X6_refuse (by omega) hx hI kp_story_86 (by decide) (by decide) (fun v3 g4 hIg4 hfg4 l_v3 u_v3 => ⟨_, rfl, ?_⟩))
      show mm_W d mmX11_days 37 [some (.ref 0), some (.int (Int32.ofInt a1)), none] [.int (Int32.ofInt v3)] (mz_mk g4 x) Q
      exact mm_rt rfl rfl (hQ _ _ hIg4 (fun k j hk => (hfg4 k j (fun h => hk (Or.inl h)))) (by omega) (by omega))
    · skip
      refine mm_g 1 (pc1 := 12) (lo1 := [some (.ref 0), some (.int (Int32.ofInt a1)), none]) (st1 := [.ref 0]) (H1 := mz_mk g x) rfl ?_
      refine mz_fgR (v := 86) rfl fd_11_37 (by decide) (sc_0 _) (rf_0_5 _ _ _) ?_
      refine mz_fgR (v := 87) rfl fd_11_158 (by decide) (sc_86 _) (rf_86_0 _ _ _) ?_
      refine mz_gI rfl fd_11_161 (by decide) (sc_87 _) hI bd_87_3 (fun v5 e_v5 l_v5 u_v5 => ?_)
      refine mm_g 1 (pc1 := 22) (lo1 := [some (.ref 0), some (.int (Int32.ofInt a1)), none]) (st1 := [.int (Int32.ofInt a1), .int (Int32.ofInt v5)]) (H1 := mz_mk g x) rfl ?_
      refine mz_iadd_w rfl (fun v6 _ hwv6 => ?_)
      have l_v6 := hwv6.1
      have u_v6 := hwv6.2
      refine mz_sip rfl sip_999 ?_
      refine mz_ic_le (tgt := 38) rfl rfl (mz_rg l_v6 u_v6) ⟨by decide, by decide⟩ (fun c26_6 => ?_) (fun c26_6 => ?_)
      · skip
        refine mm_g 1 (pc1 := 39) (lo1 := [some (.ref 0), some (.int (Int32.ofInt a1)), none]) (st1 := [.ref 0]) (H1 := mz_mk g x) rfl ?_
        refine mz_fgR (v := 86) rfl fd_11_37 (by decide) (sc_0 _) (rf_0_5 _ _ _) ?_
        refine mz_cv rfl mt_11_253 (by decide) (sc_86 _) rfl (Nat.le_of_ble_eq_true rfl) (by omega) (c_X6_keepAct (by omega) hx hI kp_story_86 (fun g7 hIg7 hfg7 => ⟨_, rfl, ?_⟩))
        show mm_W d mmX11_days 45 [some (.ref 0), some (.int (Int32.ofInt a1)), none] [] (mz_mk g7 x) Q
        refine mm_g 2 (pc1 := 47) (lo1 := [some (.ref 0), some (.int (Int32.ofInt a1)), some (.int (Int32.ofInt 0))]) (st1 := []) (H1 := mz_mk g7 x) rfl ?_
        have L12 : ∀ n11 : Nat, ∀ (v8 : Int) (g9 : mz_G), (20 - v8).toNat = n11 → 0 ≤ v8 → v8 ≤ 20 → mz_inv g9 → mz_fr (fl_X11_days_47 x a1) g7 g9 → mm_W d mmX11_days 47 [some (.ref 0), some (.int (Int32.ofInt a1)), some (.int (Int32.ofInt v8))] [] (mz_mk g9 x) Q := by
          intro n11
          induction n11 using Nat.strongRecOn with
          | ind n11 ih10 =>
          intro v8 g9 hmn11 l_v8 u_v8 hIg9 hfg9
          refine mm_g 2 (pc1 := 49) (lo1 := [some (.ref 0), some (.int (Int32.ofInt a1)), some (.int (Int32.ofInt v8))]) (st1 := [.int (Int32.ofInt a1), .int (Int32.ofInt v8)]) (H1 := mz_mk g9 x) rfl ?_
          refine mz_ic_ge (tgt := 72) rfl rfl (mz_rg l_v8 u_v8) (mz_rg l_a1 u_a1) (fun c49_12 => ?_) (fun c49_12 => ?_)
          · skip
            refine mm_g 1 (pc1 := 73) (lo1 := [some (.ref 0), some (.int (Int32.ofInt a1)), some (.int (Int32.ofInt v8))]) (st1 := [.ref 0]) (H1 := mz_mk g9 x) rfl ?_
            refine mz_fgR (v := 86) rfl fd_11_37 (by decide) (sc_0 _) (rf_0_5 _ _ _) ?_
            refine mz_fgR (v := 87) rfl fd_11_158 (by decide) (sc_86 _) (rf_86_0 _ _ _) ?_
            refine mz_gI rfl fd_11_161 (by decide) (sc_87 _) hIg9 bd_87_3 (fun v13 e_v13 l_v13 u_v13 => ?_)
            exact mm_rt rfl rfl (hQ _ _ hIg9 (fun k j hk => ((hfg9 k j (fun h => hk (Or.elim h (fun h => (Or.inr (Or.inr (Or.inr (Or.inl h))))) (fun h => (Or.elim h (fun h => (Or.inr (Or.inr (Or.inr (Or.inr (Or.inl h)))))) (fun h => (Or.inr (Or.inr (Or.inr (Or.inr (Or.inr h))))))))))).trans (hfg7 k j (fun h => hk (Or.elim h (fun h => (Or.inr (Or.inl h))) (fun h => (Or.inr (Or.inr (Or.inl h))))))))) (by omega) (by omega))
          · skip
            refine mm_g 1 (pc1 := 53) (lo1 := [some (.ref 0), some (.int (Int32.ofInt a1)), some (.int (Int32.ofInt v8))]) (st1 := [.ref 0]) (H1 := mz_mk g9 x) rfl ?_
            refine mz_fgR (v := x.1) rfl fd_11_16 (by decide) (sc_0 _) rfl ?_
            refine mm_g 1 (pc1 := 57) (lo1 := [some (.ref 0), some (.int (Int32.ofInt a1)), some (.int (Int32.ofInt v8))]) (st1 := [.ref 0, .ref x.1]) (H1 := mz_mk g9 x) rfl ?_
            refine mz_fgR (v := 86) rfl fd_11_37 (by decide) (sc_0 _) (rf_0_5 _ _ _) ?_
            refine mz_fgR (v := 87) rfl fd_11_158 (by decide) (sc_86 _) (rf_86_0 _ _ _) ?_
            refine mz_cv rfl mt_11_256 (by decide) (kc_load (kx_1 hx) _) rfl (Nat.le_of_ble_eq_true rfl) (by omega) (c_X1_passDay (by omega) hx hIg9 (kx_1 hx) kp_tks_87 (fun g14 hIg14 hfg14 => ⟨_, rfl, ?_⟩))
            show mm_W d mmX11_days 66 [some (.ref 0), some (.int (Int32.ofInt a1)), some (.int (Int32.ofInt v8))] [] (mz_mk g14 x) Q
            refine mz_iincR (v := v8) (lo2 := [some (.ref 0), some (.int (Int32.ofInt a1)), some (.int (Int32.ofInt (v8 + 1)))]) rfl rfl rfl (Nat.le_of_ble_eq_true rfl) rfl ?_
            refine mz_gt (tgt := 47) rfl rfl ?_
            exact ih10 ((20 - (v8 + 1)).toNat) (by omega) (v8 + 1) g14 rfl (by omega) (by omega) hIg14 (fun k j hk => ((hfg14 k j (fun h => hk (Or.elim h (fun h => (Or.inl h)) (fun h => (Or.elim h (fun h => (Or.inr (Or.inl h))) (fun h => (Or.inr (Or.inr h)))))))).trans (hfg9 k j (fun h => hk (Or.elim h (fun h => (Or.inl h)) (fun h => (Or.elim h (fun h => (Or.inr (Or.inl h))) (fun h => (Or.inr (Or.inr h))))))))))
        exact L12 _ 0 g7 rfl (by decide) (by decide) hIg7 (fun _ _ _ => rfl)
      · skip
        refine mm_g 1 (pc1 := 30) (lo1 := [some (.ref 0), some (.int (Int32.ofInt a1)), none]) (st1 := [.ref 0]) (H1 := mz_mk g x) rfl ?_
        refine mz_fgR (v := 86) rfl fd_11_37 (by decide) (sc_0 _) (rf_0_5 _ _ _) ?_
        refine mm_g 1 (pc1 := 34) (lo1 := [some (.ref 0), some (.int (Int32.ofInt a1)), none]) (st1 := [.int (Int32.ofInt 1), .ref 86]) (H1 := mz_mk g x) rfl ?_
        refine mz_cv rfl mt_11_131 (by decide) (sc_86 _) rfl (Nat.le_of_ble_eq_true rfl) (by omega) (c_X6_refuse (by omega) hx hI kp_story_86 (by decide) (by decide) (fun v15 g16 hIg16 hfg16 l_v15 u_v15 => ⟨_, rfl, ?_⟩))
        show mm_W d mmX11_days 37 [some (.ref 0), some (.int (Int32.ofInt a1)), none] [.int (Int32.ofInt v15)] (mz_mk g16 x) Q
        exact mm_rt rfl rfl (hQ _ _ hIg16 (fun k j hk => (hfg16 k j (fun h => hk (Or.inl h)))) (by omega) (by omega))
def fw_X11_draw (x : mm_X) (a1 : Int) (a2 : Int) : Nat → Nat → Prop := fun k j => k = 100 ∨ k = 96 ∨ k = 86 ∨ (87 ≤ k ∧ k < 96)
theorem c_X11_draw {d : Nat} (hd : 13 ≤ d) {x : mm_X} (hx : mk_x x) {g : mz_G} (hI : mz_inv g) {a1 : Int} (l_a1 : (-2147483648) ≤ a1) (u_a1 : a1 ≤ 2147483647) {a2 : Int} (l_a2 : (-2147483648) ≤ a2) (u_a2 : a2 ≤ 2147483647) {Q : (Option Value ⊕ Nat) → mm_H → Prop} (hQ : ∀ (r : Int) (g1 : mz_G), mz_inv g1 → mz_fr (fw_X11_draw x a1 a2) g g1 → (-2147483648) ≤ r → r ≤ 2147483647 → Q (.inl (some (.int (Int32.ofInt r)))) (mz_mk g1 x)) (hX : ∀ E, Q (.inr E) (mz_mk g (mz_tx x))) : mm_C d 134 [.ref 0, .int (Int32.ofInt a1), .int (Int32.ofInt a2)] (mz_mk g x) Q := by
  have kx := kn_x hx
  refine ⟨mmX11_draw, [some (.ref 0), some (.int (Int32.ofInt a1)), some (.int (Int32.ofInt a2)), none, none], rfl, rfl, ?_⟩
  refine mm_g 2 (pc1 := 2) (lo1 := [some (.ref 0), some (.int (Int32.ofInt a1)), some (.int (Int32.ofInt a2)), none, none]) (st1 := [.int (Int32.ofInt a1), .ref 0]) (H1 := mz_mk g x) rfl ?_
  refine mz_cv rfl mt_11_231 (by decide) (sc_0 _) rfl (Nat.le_of_ble_eq_true rfl) (by omega) (c_X11_isTrunk (by omega) hx hI l_a1 u_a1 (fun v1 l_v1 u_v1 => ⟨_, rfl, ?_⟩))
  show mm_W d mmX11_draw 5 [some (.ref 0), some (.int (Int32.ofInt a1)), some (.int (Int32.ofInt a2)), none, none] [.int (Int32.ofInt v1)] (mz_mk g x) Q
  refine mz_csx rfl mt_11_183 rfl (Nat.le_of_ble_eq_true rfl) (by omega) rfl nh_X11_mustBe (c_X11_mustBe (by omega) hx hI l_v1 u_v1 (fun hp2 => ?_) (fun E => hX E))
  show mm_W d mmX11_draw 8 [some (.ref 0), some (.int (Int32.ofInt a1)), some (.int (Int32.ofInt a2)), none, none] [] (mz_mk g x) Q
  refine mm_g 1 (pc1 := 9) (lo1 := [some (.ref 0), some (.int (Int32.ofInt a1)), some (.int (Int32.ofInt a2)), none, none]) (st1 := [.ref 0]) (H1 := mz_mk g x) rfl ?_
  refine mz_fgR (v := 86) rfl fd_11_37 (by decide) (sc_0 _) (rf_0_5 _ _ _) ?_
  refine mz_fgR (v := 87) rfl fd_11_158 (by decide) (sc_86 _) (rf_86_0 _ _ _) ?_
  refine mm_g 1 (pc1 := 16) (lo1 := [some (.ref 0), some (.int (Int32.ofInt a1)), some (.int (Int32.ofInt a2)), none, none]) (st1 := [.int (Int32.ofInt a1), .ref 87]) (H1 := mz_mk g x) rfl ?_
  refine mz_cv rfl mt_11_192 (by decide) (sc_87 _) rfl (Nat.le_of_ble_eq_true rfl) (by omega) (c_X9_get (by omega) hx hI kp_tks_87 l_a1 u_a1 (fun u3 k_u3 hp4 => ⟨_, rfl, ?_⟩))
  show mm_W d mmX11_draw 19 [some (.ref 0), some (.int (Int32.ofInt a1)), some (.int (Int32.ofInt a2)), none, none] [.ref u3] (mz_mk g x) Q
  refine mm_g 2 (pc1 := 21) (lo1 := [some (.ref 0), some (.int (Int32.ofInt a1)), some (.int (Int32.ofInt a2)), some (.ref u3), none]) (st1 := [.int (Int32.ofInt a2)]) (H1 := mz_mk g x) rfl ?_
  refine mz_if_lt (tgt := 38) rfl rfl (mz_rg l_a2 u_a2) (fun c21_4 => ?_) (fun c21_4 => ?_)
  · skip
    refine mm_g 1 (pc1 := 39) (lo1 := [some (.ref 0), some (.int (Int32.ofInt a1)), some (.int (Int32.ofInt a2)), some (.ref u3), none]) (st1 := [.ref 0]) (H1 := mz_mk g x) rfl ?_
    refine mz_fgR (v := 86) rfl fd_11_37 (by decide) (sc_0 _) (rf_0_5 _ _ _) ?_
    refine mm_g 1 (pc1 := 43) (lo1 := [some (.ref 0), some (.int (Int32.ofInt a1)), some (.int (Int32.ofInt a2)), some (.ref u3), none]) (st1 := [.int (Int32.ofInt 1), .ref 86]) (H1 := mz_mk g x) rfl ?_
    refine mz_cv rfl mt_11_131 (by decide) (sc_86 _) rfl (Nat.le_of_ble_eq_true rfl) (by omega) (c_X6_refuse (by omega) hx hI kp_story_86 (by decide) (by decide) (fun v5 g6 hIg6 hfg6 l_v5 u_v5 => ⟨_, rfl, ?_⟩))
    show mm_W d mmX11_draw 46 [some (.ref 0), some (.int (Int32.ofInt a1)), some (.int (Int32.ofInt a2)), some (.ref u3), none] [.int (Int32.ofInt v5)] (mz_mk g6 x) Q
    exact mm_rt rfl rfl (hQ _ _ hIg6 (fun k j hk => (hfg6 k j (fun h => hk (Or.inl h)))) (by omega) (by omega))
  · skip
    refine mm_g 1 (pc1 := 25) (lo1 := [some (.ref 0), some (.int (Int32.ofInt a1)), some (.int (Int32.ofInt a2)), some (.ref u3), none]) (st1 := [.int (Int32.ofInt a2)]) (H1 := mz_mk g x) rfl ?_
    refine mz_bip rfl bip_9 ?_
    refine mz_ic_gt (tgt := 38) rfl rfl (mz_rg l_a2 u_a2) ⟨by decide, by decide⟩ (fun c27_6 => ?_) (fun c27_6 => ?_)
    · skip
      refine mm_g 1 (pc1 := 39) (lo1 := [some (.ref 0), some (.int (Int32.ofInt a1)), some (.int (Int32.ofInt a2)), some (.ref u3), none]) (st1 := [.ref 0]) (H1 := mz_mk g x) rfl ?_
      refine mz_fgR (v := 86) rfl fd_11_37 (by decide) (sc_0 _) (rf_0_5 _ _ _) ?_
      refine mm_g 1 (pc1 := 43) (lo1 := [some (.ref 0), some (.int (Int32.ofInt a1)), some (.int (Int32.ofInt a2)), some (.ref u3), none]) (st1 := [.int (Int32.ofInt 1), .ref 86]) (H1 := mz_mk g x) rfl ?_
      refine mz_cv rfl mt_11_131 (by decide) (sc_86 _) rfl (Nat.le_of_ble_eq_true rfl) (by omega) (c_X6_refuse (by omega) hx hI kp_story_86 (by decide) (by decide) (fun v7 g8 hIg8 hfg8 l_v7 u_v7 => ⟨_, rfl, ?_⟩))
      show mm_W d mmX11_draw 46 [some (.ref 0), some (.int (Int32.ofInt a1)), some (.int (Int32.ofInt a2)), some (.ref u3), none] [.int (Int32.ofInt v7)] (mz_mk g8 x) Q
      exact mm_rt rfl rfl (hQ _ _ hIg8 (fun k j hk => (hfg8 k j (fun h => hk (Or.inl h)))) (by omega) (by omega))
    · skip
      refine mm_g 2 (pc1 := 32) (lo1 := [some (.ref 0), some (.int (Int32.ofInt a1)), some (.int (Int32.ofInt a2)), some (.ref u3), none]) (st1 := [.ref u3, .int (Int32.ofInt a2)]) (H1 := mz_mk g x) rfl ?_
      refine mz_gI rfl fd_11_234 (by decide) (kc_trunk k_u3 _) hI (kb_trunk_2 k_u3) (fun v9 e_v9 l_v9 u_v9 => ?_)
      refine mz_ic_ne (tgt := 47) rfl rfl (mz_rg l_a2 u_a2) (mz_rg l_v9 u_v9) (fun c35_9 => ?_) (fun c35_9 => ?_)
      · skip
        refine mm_g 1 (pc1 := 48) (lo1 := [some (.ref 0), some (.int (Int32.ofInt a1)), some (.int (Int32.ofInt a2)), some (.ref u3), none]) (st1 := [.ref 0]) (H1 := mz_mk g x) rfl ?_
        refine mz_fgR (v := 86) rfl fd_11_37 (by decide) (sc_0 _) (rf_0_5 _ _ _) ?_
        refine mz_cv rfl mt_11_253 (by decide) (sc_86 _) rfl (Nat.le_of_ble_eq_true rfl) (by omega) (c_X6_keepAct (by omega) hx hI kp_story_86 (fun g10 hIg10 hfg10 => ⟨_, rfl, ?_⟩))
        show mm_W d mmX11_draw 54 [some (.ref 0), some (.int (Int32.ofInt a1)), some (.int (Int32.ofInt a2)), some (.ref u3), none] [] (mz_mk g10 x) Q
        refine mm_g 1 (pc1 := 55) (lo1 := [some (.ref 0), some (.int (Int32.ofInt a1)), some (.int (Int32.ofInt a2)), some (.ref u3), none]) (st1 := [.ref u3]) (H1 := mz_mk g10 x) rfl ?_
        refine mz_gI rfl fd_11_234 (by decide) (kc_trunk k_u3 _) hIg10 (kb_trunk_2 k_u3) (fun v11 e_v11 l_v11 u_v11 => ?_)
        refine mm_g 3 (pc1 := 62) (lo1 := [some (.ref 0), some (.int (Int32.ofInt a1)), some (.int (Int32.ofInt a2)), some (.ref u3), some (.int (Int32.ofInt v11))]) (st1 := [.int (Int32.ofInt a2), .ref u3]) (H1 := mz_mk g10 x) rfl ?_
        refine mz_pI rfl fd_11_234 (kc_trunk k_u3 _) hIg10 (kb_trunk_2 k_u3) (by omega) (by omega) (fun g12 hIg12 hug12 => ?_)
        refine mm_g 1 (pc1 := 67) (lo1 := [some (.ref 0), some (.int (Int32.ofInt a1)), some (.int (Int32.ofInt a2)), some (.ref u3), some (.int (Int32.ofInt v11))]) (st1 := [.int (Int32.ofInt v11)]) (H1 := mz_mk g12 x) rfl ?_
        exact mm_rt rfl rfl (hQ _ _ hIg12 (fun k j hk => ((hug12.2 k j (fun h => hk (Or.inr (Or.inr (Or.inr (show (87 ≤ k ∧ k < 96) by have h9 : k = u3 ∧ j = 2 := h; omega)))))).trans (hfg10 k j (fun h => hk (Or.elim h (fun h => (Or.inr (Or.inl h))) (fun h => (Or.inr (Or.inr (Or.inl h))))))))) (by omega) (by omega))
      · skip
        refine mm_g 1 (pc1 := 39) (lo1 := [some (.ref 0), some (.int (Int32.ofInt a1)), some (.int (Int32.ofInt a2)), some (.ref u3), none]) (st1 := [.ref 0]) (H1 := mz_mk g x) rfl ?_
        refine mz_fgR (v := 86) rfl fd_11_37 (by decide) (sc_0 _) (rf_0_5 _ _ _) ?_
        refine mm_g 1 (pc1 := 43) (lo1 := [some (.ref 0), some (.int (Int32.ofInt a1)), some (.int (Int32.ofInt a2)), some (.ref u3), none]) (st1 := [.int (Int32.ofInt 1), .ref 86]) (H1 := mz_mk g x) rfl ?_
        refine mz_cv rfl mt_11_131 (by decide) (sc_86 _) rfl (Nat.le_of_ble_eq_true rfl) (by omega) (c_X6_refuse (by omega) hx hI kp_story_86 (by decide) (by decide) (fun v13 g14 hIg14 hfg14 l_v13 u_v13 => ⟨_, rfl, ?_⟩))
        show mm_W d mmX11_draw 46 [some (.ref 0), some (.int (Int32.ofInt a1)), some (.int (Int32.ofInt a2)), some (.ref u3), none] [.int (Int32.ofInt v13)] (mz_mk g14 x) Q
        exact mm_rt rfl rfl (hQ _ _ hIg14 (fun k j hk => (hfg14 k j (fun h => hk (Or.inl h)))) (by omega) (by omega))
def fw_X11_pull (x : mm_X) (a1 : Int) (a2 : Int) : Nat → Nat → Prop := fun k j => k = 100 ∨ k = 96 ∨ k = 86 ∨ (87 ≤ k ∧ k < 96)
theorem c_X11_pull {d : Nat} (hd : 14 ≤ d) {x : mm_X} (hx : mk_x x) {g : mz_G} (hI : mz_inv g) {a1 : Int} (l_a1 : (-2147483648) ≤ a1) (u_a1 : a1 ≤ 2147483647) {a2 : Int} (l_a2 : (-2147483648) ≤ a2) (u_a2 : a2 ≤ 2147483647) {Q : (Option Value ⊕ Nat) → mm_H → Prop} (hQ : ∀ (r : Int) (g1 : mz_G), mz_inv g1 → mz_fr (fw_X11_pull x a1 a2) g g1 → (-1) ≤ r → r ≤ 2147483647 → Q (.inl (some (.int (Int32.ofInt r)))) (mz_mk g1 x)) (hX : ∀ E, Q (.inr E) (mz_mk g (mz_tx x))) : mm_C d 135 [.ref 0, .int (Int32.ofInt a1), .int (Int32.ofInt a2)] (mz_mk g x) Q := by
  have kx := kn_x hx
  refine ⟨mmX11_pull, [some (.ref 0), some (.int (Int32.ofInt a1)), some (.int (Int32.ofInt a2)), none], rfl, rfl, ?_⟩
  refine mm_g 2 (pc1 := 2) (lo1 := [some (.ref 0), some (.int (Int32.ofInt a1)), some (.int (Int32.ofInt a2)), none]) (st1 := [.int (Int32.ofInt a1), .ref 0]) (H1 := mz_mk g x) rfl ?_
  refine mz_cv rfl mt_11_231 (by decide) (sc_0 _) rfl (Nat.le_of_ble_eq_true rfl) (by omega) (c_X11_isTrunk (by omega) hx hI l_a1 u_a1 (fun v1 l_v1 u_v1 => ⟨_, rfl, ?_⟩))
  show mm_W d mmX11_pull 5 [some (.ref 0), some (.int (Int32.ofInt a1)), some (.int (Int32.ofInt a2)), none] [.int (Int32.ofInt v1)] (mz_mk g x) Q
  refine mz_csx rfl mt_11_183 rfl (Nat.le_of_ble_eq_true rfl) (by omega) rfl nh_X11_mustBe (c_X11_mustBe (by omega) hx hI l_v1 u_v1 (fun hp2 => ?_) (fun E => hX E))
  show mm_W d mmX11_pull 8 [some (.ref 0), some (.int (Int32.ofInt a1)), some (.int (Int32.ofInt a2)), none] [] (mz_mk g x) Q
  refine mm_g 1 (pc1 := 9) (lo1 := [some (.ref 0), some (.int (Int32.ofInt a1)), some (.int (Int32.ofInt a2)), none]) (st1 := [.ref 0]) (H1 := mz_mk g x) rfl ?_
  refine mz_fgR (v := 86) rfl fd_11_37 (by decide) (sc_0 _) (rf_0_5 _ _ _) ?_
  refine mz_fgR (v := 87) rfl fd_11_158 (by decide) (sc_86 _) (rf_86_0 _ _ _) ?_
  refine mm_g 1 (pc1 := 16) (lo1 := [some (.ref 0), some (.int (Int32.ofInt a1)), some (.int (Int32.ofInt a2)), none]) (st1 := [.int (Int32.ofInt a1), .ref 87]) (H1 := mz_mk g x) rfl ?_
  refine mz_cv rfl mt_11_192 (by decide) (sc_87 _) rfl (Nat.le_of_ble_eq_true rfl) (by omega) (c_X9_get (by omega) hx hI kp_tks_87 l_a1 u_a1 (fun u3 k_u3 hp4 => ⟨_, rfl, ?_⟩))
  show mm_W d mmX11_pull 19 [some (.ref 0), some (.int (Int32.ofInt a1)), some (.int (Int32.ofInt a2)), none] [.ref u3] (mz_mk g x) Q
  refine mm_g 3 (pc1 := 22) (lo1 := [some (.ref 0), some (.int (Int32.ofInt a1)), some (.int (Int32.ofInt a2)), some (.ref u3)]) (st1 := [.int (Int32.ofInt 1), .int (Int32.ofInt a2)]) (H1 := mz_mk g x) rfl ?_
  refine mz_ic_lt (tgt := 56) rfl rfl (mz_rg l_a2 u_a2) ⟨by decide, by decide⟩ (fun c22_4 => ?_) (fun c22_4 => ?_)
  · skip
    refine mm_g 1 (pc1 := 57) (lo1 := [some (.ref 0), some (.int (Int32.ofInt a1)), some (.int (Int32.ofInt a2)), some (.ref u3)]) (st1 := [.ref 0]) (H1 := mz_mk g x) rfl ?_
    refine mz_fgR (v := 86) rfl fd_11_37 (by decide) (sc_0 _) (rf_0_5 _ _ _) ?_
    refine mm_g 1 (pc1 := 61) (lo1 := [some (.ref 0), some (.int (Int32.ofInt a1)), some (.int (Int32.ofInt a2)), some (.ref u3)]) (st1 := [.int (Int32.ofInt 1), .ref 86]) (H1 := mz_mk g x) rfl ?_
    refine mz_cv rfl mt_11_131 (by decide) (sc_86 _) rfl (Nat.le_of_ble_eq_true rfl) (by omega) (c_X6_refuse (by omega) hx hI kp_story_86 (by decide) (by decide) (fun v5 g6 hIg6 hfg6 l_v5 u_v5 => ⟨_, rfl, ?_⟩))
    show mm_W d mmX11_pull 64 [some (.ref 0), some (.int (Int32.ofInt a1)), some (.int (Int32.ofInt a2)), some (.ref u3)] [.int (Int32.ofInt v5)] (mz_mk g6 x) Q
    exact mm_rt rfl rfl (hQ _ _ hIg6 (fun k j hk => (hfg6 k j (fun h => hk (Or.inl h)))) (by omega) (by omega))
  · skip
    refine mm_g 1 (pc1 := 26) (lo1 := [some (.ref 0), some (.int (Int32.ofInt a1)), some (.int (Int32.ofInt a2)), some (.ref u3)]) (st1 := [.int (Int32.ofInt a2)]) (H1 := mz_mk g x) rfl ?_
    refine mz_bip rfl bip_9 ?_
    refine mz_ic_gt (tgt := 56) rfl rfl (mz_rg l_a2 u_a2) ⟨by decide, by decide⟩ (fun c28_6 => ?_) (fun c28_6 => ?_)
    · skip
      refine mm_g 1 (pc1 := 57) (lo1 := [some (.ref 0), some (.int (Int32.ofInt a1)), some (.int (Int32.ofInt a2)), some (.ref u3)]) (st1 := [.ref 0]) (H1 := mz_mk g x) rfl ?_
      refine mz_fgR (v := 86) rfl fd_11_37 (by decide) (sc_0 _) (rf_0_5 _ _ _) ?_
      refine mm_g 1 (pc1 := 61) (lo1 := [some (.ref 0), some (.int (Int32.ofInt a1)), some (.int (Int32.ofInt a2)), some (.ref u3)]) (st1 := [.int (Int32.ofInt 1), .ref 86]) (H1 := mz_mk g x) rfl ?_
      refine mz_cv rfl mt_11_131 (by decide) (sc_86 _) rfl (Nat.le_of_ble_eq_true rfl) (by omega) (c_X6_refuse (by omega) hx hI kp_story_86 (by decide) (by decide) (fun v7 g8 hIg8 hfg8 l_v7 u_v7 => ⟨_, rfl, ?_⟩))
      show mm_W d mmX11_pull 64 [some (.ref 0), some (.int (Int32.ofInt a1)), some (.int (Int32.ofInt a2)), some (.ref u3)] [.int (Int32.ofInt v7)] (mz_mk g8 x) Q
      exact mm_rt rfl rfl (hQ _ _ hIg8 (fun k j hk => (hfg8 k j (fun h => hk (Or.inl h)))) (by omega) (by omega))
    · skip
      refine mm_g 1 (pc1 := 32) (lo1 := [some (.ref 0), some (.int (Int32.ofInt a1)), some (.int (Int32.ofInt a2)), some (.ref u3)]) (st1 := [.ref u3]) (H1 := mz_mk g x) rfl ?_
      refine mz_gI rfl fd_11_237 (by decide) (kc_trunk k_u3 _) hI (kb_trunk_3 k_u3) (fun v9 e_v9 l_v9 u_v9 => ?_)
      refine mz_if_eq (tgt := 56) rfl rfl (mz_rg l_v9 u_v9) (fun c35_9 => ?_) (fun c35_9 => ?_)
      · skip
        refine mm_g 1 (pc1 := 57) (lo1 := [some (.ref 0), some (.int (Int32.ofInt a1)), some (.int (Int32.ofInt a2)), some (.ref u3)]) (st1 := [.ref 0]) (H1 := mz_mk g x) rfl ?_
        refine mz_fgR (v := 86) rfl fd_11_37 (by decide) (sc_0 _) (rf_0_5 _ _ _) ?_
        refine mm_g 1 (pc1 := 61) (lo1 := [some (.ref 0), some (.int (Int32.ofInt a1)), some (.int (Int32.ofInt a2)), some (.ref u3)]) (st1 := [.int (Int32.ofInt 1), .ref 86]) (H1 := mz_mk g x) rfl ?_
        refine mz_cv rfl mt_11_131 (by decide) (sc_86 _) rfl (Nat.le_of_ble_eq_true rfl) (by omega) (c_X6_refuse (by omega) hx hI kp_story_86 (by decide) (by decide) (fun v10 g11 hIg11 hfg11 l_v10 u_v10 => ⟨_, rfl, ?_⟩))
        show mm_W d mmX11_pull 64 [some (.ref 0), some (.int (Int32.ofInt a1)), some (.int (Int32.ofInt a2)), some (.ref u3)] [.int (Int32.ofInt v10)] (mz_mk g11 x) Q
        exact mm_rt rfl rfl (hQ _ _ hIg11 (fun k j hk => (hfg11 k j (fun h => hk (Or.inl h)))) (by omega) (by omega))
      · skip
        refine mm_g 1 (pc1 := 39) (lo1 := [some (.ref 0), some (.int (Int32.ofInt a1)), some (.int (Int32.ofInt a2)), some (.ref u3)]) (st1 := [.ref 0]) (H1 := mz_mk g x) rfl ?_
        refine mz_fgR (v := x.1) rfl fd_11_16 (by decide) (sc_0 _) rfl ?_
        refine mm_g 1 (pc1 := 43) (lo1 := [some (.ref 0), some (.int (Int32.ofInt a1)), some (.int (Int32.ofInt a2)), some (.ref u3)]) (st1 := [.ref u3, .ref x.1]) (H1 := mz_mk g x) rfl ?_
        refine mz_cv rfl mt_11_259 (by decide) (kc_load (kx_1 hx) _) rfl (Nat.le_of_ble_eq_true rfl) (by omega) (c_X1_isFull (by omega) hx hI (kx_1 hx) k_u3 (fun v12 l_v12 u_v12 => ⟨_, rfl, ?_⟩))
        show mm_W d mmX11_pull 46 [some (.ref 0), some (.int (Int32.ofInt a1)), some (.int (Int32.ofInt a2)), some (.ref u3)] [.int (Int32.ofInt v12)] (mz_mk g x) Q
        refine mz_if_ne (tgt := 56) rfl rfl (mz_rg l_v12 u_v12) (fun c46_12 => ?_) (fun c46_12 => ?_)
        · skip
          refine mm_g 1 (pc1 := 57) (lo1 := [some (.ref 0), some (.int (Int32.ofInt a1)), some (.int (Int32.ofInt a2)), some (.ref u3)]) (st1 := [.ref 0]) (H1 := mz_mk g x) rfl ?_
          refine mz_fgR (v := 86) rfl fd_11_37 (by decide) (sc_0 _) (rf_0_5 _ _ _) ?_
          refine mm_g 1 (pc1 := 61) (lo1 := [some (.ref 0), some (.int (Int32.ofInt a1)), some (.int (Int32.ofInt a2)), some (.ref u3)]) (st1 := [.int (Int32.ofInt 1), .ref 86]) (H1 := mz_mk g x) rfl ?_
          refine mz_cv rfl mt_11_131 (by decide) (sc_86 _) rfl (Nat.le_of_ble_eq_true rfl) (by omega) (c_X6_refuse (by omega) hx hI kp_story_86 (by decide) (by decide) (fun v13 g14 hIg14 hfg14 l_v13 u_v13 => ⟨_, rfl, ?_⟩))
          show mm_W d mmX11_pull 64 [some (.ref 0), some (.int (Int32.ofInt a1)), some (.int (Int32.ofInt a2)), some (.ref u3)] [.int (Int32.ofInt v13)] (mz_mk g14 x) Q
          exact mm_rt rfl rfl (hQ _ _ hIg14 (fun k j hk => (hfg14 k j (fun h => hk (Or.inl h)))) (by omega) (by omega))
        · skip
          refine mm_g 1 (pc1 := 50) (lo1 := [some (.ref 0), some (.int (Int32.ofInt a1)), some (.int (Int32.ofInt a2)), some (.ref u3)]) (st1 := [.ref u3]) (H1 := mz_mk g x) rfl ?_
          refine mz_gI rfl fd_11_196 (by decide) (kc_trunk k_u3 _) hI (kb_trunk_4 k_u3) (fun v15 e_v15 l_v15 u_v15 => ?_)
          refine mz_if_eq (tgt := 65) rfl rfl (mz_rg l_v15 u_v15) (fun c53_15 => ?_) (fun c53_15 => ?_)
          · skip
            refine mm_g 1 (pc1 := 66) (lo1 := [some (.ref 0), some (.int (Int32.ofInt a1)), some (.int (Int32.ofInt a2)), some (.ref u3)]) (st1 := [.ref 0]) (H1 := mz_mk g x) rfl ?_
            refine mz_fgR (v := 86) rfl fd_11_37 (by decide) (sc_0 _) (rf_0_5 _ _ _) ?_
            refine mz_cv rfl mt_11_253 (by decide) (sc_86 _) rfl (Nat.le_of_ble_eq_true rfl) (by omega) (c_X6_keepAct (by omega) hx hI kp_story_86 (fun g16 hIg16 hfg16 => ⟨_, rfl, ?_⟩))
            show mm_W d mmX11_pull 72 [some (.ref 0), some (.int (Int32.ofInt a1)), some (.int (Int32.ofInt a2)), some (.ref u3)] [] (mz_mk g16 x) Q
            refine mm_g 3 (pc1 := 75) (lo1 := [some (.ref 0), some (.int (Int32.ofInt a1)), some (.int (Int32.ofInt a2)), some (.ref u3)]) (st1 := [.ref u3, .int (Int32.ofInt 0), .ref u3]) (H1 := mz_mk g16 x) rfl ?_
            refine mz_gI rfl fd_11_237 (by decide) (kc_trunk k_u3 _) hIg16 (kb_trunk_3 k_u3) (fun v17 e_v17 l_v17 u_v17 => ?_)
            refine mm_g 1 (pc1 := 79) (lo1 := [some (.ref 0), some (.int (Int32.ofInt a1)), some (.int (Int32.ofInt a2)), some (.ref u3)]) (st1 := [.int (Int32.ofInt a2), .int (Int32.ofInt v17), .int (Int32.ofInt 0), .ref u3]) (H1 := mz_mk g16 x) rfl ?_
            refine mz_isub_w rfl (fun v18 _ hwv18 => ?_)
            have l_v18 := hwv18.1
            have u_v18 := hwv18.2
            refine mz_mx rfl mt_11_263 (Nat.le_of_ble_eq_true rfl) (by omega) ⟨by decide, by decide⟩ (mz_rg l_v18 u_v18) (fun v19 e_v19 => ?_)
            have l_v19 : 0 ≤ v19 := by omega
            have u_v19 : v19 ≤ 2147483647 := by omega
            refine mz_pI rfl fd_11_237 (kc_trunk k_u3 _) hIg16 (kb_trunk_3 k_u3) (by omega) (by omega) (fun g20 hIg20 hug20 => ?_)
            refine mm_g 1 (pc1 := 87) (lo1 := [some (.ref 0), some (.int (Int32.ofInt a1)), some (.int (Int32.ofInt a2)), some (.ref u3)]) (st1 := [.ref u3]) (H1 := mz_mk g20 x) rfl ?_
            refine mz_fgI (v := v19) rfl fd_11_237 (by decide) (kc_trunk k_u3 _) (show g20 u3 3 = v19 from hug20.1) ?_
            exact mm_rt rfl rfl (hQ _ _ hIg20 (fun k j hk => ((hug20.2 k j (fun h => hk (Or.inr (Or.inr (Or.inr (show (87 ≤ k ∧ k < 96) by have h9 : k = u3 ∧ j = 3 := h; omega)))))).trans (hfg16 k j (fun h => hk (Or.elim h (fun h => (Or.inr (Or.inl h))) (fun h => (Or.inr (Or.inr (Or.inl h))))))))) (by omega) (by omega))
          · skip
            refine mm_g 1 (pc1 := 57) (lo1 := [some (.ref 0), some (.int (Int32.ofInt a1)), some (.int (Int32.ofInt a2)), some (.ref u3)]) (st1 := [.ref 0]) (H1 := mz_mk g x) rfl ?_
            refine mz_fgR (v := 86) rfl fd_11_37 (by decide) (sc_0 _) (rf_0_5 _ _ _) ?_
            refine mm_g 1 (pc1 := 61) (lo1 := [some (.ref 0), some (.int (Int32.ofInt a1)), some (.int (Int32.ofInt a2)), some (.ref u3)]) (st1 := [.int (Int32.ofInt 1), .ref 86]) (H1 := mz_mk g x) rfl ?_
            refine mz_cv rfl mt_11_131 (by decide) (sc_86 _) rfl (Nat.le_of_ble_eq_true rfl) (by omega) (c_X6_refuse (by omega) hx hI kp_story_86 (by decide) (by decide) (fun v21 g22 hIg22 hfg22 l_v21 u_v21 => ⟨_, rfl, ?_⟩))
            show mm_W d mmX11_pull 64 [some (.ref 0), some (.int (Int32.ofInt a1)), some (.int (Int32.ofInt a2)), some (.ref u3)] [.int (Int32.ofInt v21)] (mz_mk g22 x) Q
            exact mm_rt rfl rfl (hQ _ _ hIg22 (fun k j hk => (hfg22 k j (fun h => hk (Or.inl h)))) (by omega) (by omega))
def fw_X8_turnRound (x : mm_X) (q0 : Nat) : Nat → Nat → Prop := fun k j => k = q0
theorem c_X8_turnRound {d : Nat} (hd : 1 ≤ d) {x : mm_X} (hx : mk_x x) {g : mz_G} (hI : mz_inv g) {q0 : Nat} (h_q0 : kd_trunk q0) {Q : (Option Value ⊕ Nat) → mm_H → Prop} (hQ : ∀ (g1 : mz_G), mz_inv g1 → mz_fr (fw_X8_turnRound x q0) g g1 → Q (.inl none) (mz_mk g1 x)) : mm_C d 96 [.ref q0] (mz_mk g x) Q := by
  have kn_q0 := kn_trunk h_q0
  refine ⟨mmX8_turnRound, [some (.ref q0), none], rfl, rfl, ?_⟩
  refine mm_g 1 (pc1 := 1) (lo1 := [some (.ref q0), none]) (st1 := [.ref q0]) (H1 := mz_mk g x) rfl ?_
  refine mz_gI rfl fd_8_7 (by decide) (kc_trunk h_q0 _) hI (kb_trunk_0 h_q0) (fun v1 e_v1 l_v1 u_v1 => ?_)
  refine mm_g 3 (pc1 := 7) (lo1 := [some (.ref q0), some (.int (Int32.ofInt v1))]) (st1 := [.ref q0, .ref q0]) (H1 := mz_mk g x) rfl ?_
  refine mz_gI rfl fd_8_13 (by decide) (kc_trunk h_q0 _) hI (kb_trunk_1 h_q0) (fun v2 e_v2 l_v2 u_v2 => ?_)
  refine mz_pI rfl fd_8_7 (kc_trunk h_q0 _) hI (kb_trunk_0 h_q0) (by omega) (by omega) (fun g3 hIg3 hug3 => ?_)
  refine mm_g 2 (pc1 := 15) (lo1 := [some (.ref q0), some (.int (Int32.ofInt v1))]) (st1 := [.int (Int32.ofInt v1), .ref q0]) (H1 := mz_mk g3 x) rfl ?_
  refine mz_pI rfl fd_8_13 (kc_trunk h_q0 _) hIg3 (kb_trunk_1 h_q0) (by omega) (by omega) (fun g4 hIg4 hug4 => ?_)
  refine mm_g 2 (pc1 := 20) (lo1 := [some (.ref q0), some (.int (Int32.ofInt v1))]) (st1 := [.int (Int32.ofInt 0), .ref q0]) (H1 := mz_mk g4 x) rfl ?_
  refine mz_pI rfl fd_8_19 (kc_trunk h_q0 _) hIg4 (kb_trunk_3 h_q0) (by omega) (by omega) (fun g5 hIg5 hug5 => ?_)
  exact mm_rt rfl rfl (hQ _ hIg5 (fun k j hk => ((hug5.2 k j (fun h => hk h.1)).trans ((hug4.2 k j (fun h => hk h.1)).trans (hug3.2 k j (fun h => hk h.1))))))
def fw_X11_turn (x : mm_X) (a1 : Int) : Nat → Nat → Prop := fun k j => k = 96 ∨ k = 86 ∨ (87 ≤ k ∧ k < 96)
theorem c_X11_turn {d : Nat} (hd : 13 ≤ d) {x : mm_X} (hx : mk_x x) {g : mz_G} (hI : mz_inv g) {a1 : Int} (l_a1 : (-2147483648) ≤ a1) (u_a1 : a1 ≤ 2147483647) {Q : (Option Value ⊕ Nat) → mm_H → Prop} (hQ : ∀ (r : Int) (g1 : mz_G), mz_inv g1 → mz_fr (fw_X11_turn x a1) g g1 → (-2147483648) ≤ r → r ≤ 2147483647 → Q (.inl (some (.int (Int32.ofInt r)))) (mz_mk g1 x)) (hX : ∀ E, Q (.inr E) (mz_mk g (mz_tx x))) : mm_C d 136 [.ref 0, .int (Int32.ofInt a1)] (mz_mk g x) Q := by
  have kx := kn_x hx
  refine ⟨mmX11_turn, [some (.ref 0), some (.int (Int32.ofInt a1)), none, none], rfl, rfl, ?_⟩
  refine mm_g 2 (pc1 := 2) (lo1 := [some (.ref 0), some (.int (Int32.ofInt a1)), none, none]) (st1 := [.int (Int32.ofInt a1), .ref 0]) (H1 := mz_mk g x) rfl ?_
  refine mz_cv rfl mt_11_231 (by decide) (sc_0 _) rfl (Nat.le_of_ble_eq_true rfl) (by omega) (c_X11_isTrunk (by omega) hx hI l_a1 u_a1 (fun v1 l_v1 u_v1 => ⟨_, rfl, ?_⟩))
  show mm_W d mmX11_turn 5 [some (.ref 0), some (.int (Int32.ofInt a1)), none, none] [.int (Int32.ofInt v1)] (mz_mk g x) Q
  refine mz_csx rfl mt_11_183 rfl (Nat.le_of_ble_eq_true rfl) (by omega) rfl nh_X11_mustBe (c_X11_mustBe (by omega) hx hI l_v1 u_v1 (fun hp2 => ?_) (fun E => hX E))
  show mm_W d mmX11_turn 8 [some (.ref 0), some (.int (Int32.ofInt a1)), none, none] [] (mz_mk g x) Q
  refine mm_g 1 (pc1 := 9) (lo1 := [some (.ref 0), some (.int (Int32.ofInt a1)), none, none]) (st1 := [.ref 0]) (H1 := mz_mk g x) rfl ?_
  refine mz_fgR (v := 86) rfl fd_11_37 (by decide) (sc_0 _) (rf_0_5 _ _ _) ?_
  refine mz_fgR (v := 87) rfl fd_11_158 (by decide) (sc_86 _) (rf_86_0 _ _ _) ?_
  refine mm_g 1 (pc1 := 16) (lo1 := [some (.ref 0), some (.int (Int32.ofInt a1)), none, none]) (st1 := [.int (Int32.ofInt a1), .ref 87]) (H1 := mz_mk g x) rfl ?_
  refine mz_cv rfl mt_11_192 (by decide) (sc_87 _) rfl (Nat.le_of_ble_eq_true rfl) (by omega) (c_X9_get (by omega) hx hI kp_tks_87 l_a1 u_a1 (fun u3 k_u3 hp4 => ⟨_, rfl, ?_⟩))
  show mm_W d mmX11_turn 19 [some (.ref 0), some (.int (Int32.ofInt a1)), none, none] [.ref u3] (mz_mk g x) Q
  refine mm_g 2 (pc1 := 21) (lo1 := [some (.ref 0), some (.int (Int32.ofInt a1)), some (.ref u3), none]) (st1 := [.ref 0]) (H1 := mz_mk g x) rfl ?_
  refine mz_fgR (v := 86) rfl fd_11_37 (by decide) (sc_0 _) (rf_0_5 _ _ _) ?_
  refine mz_cv rfl mt_11_253 (by decide) (sc_86 _) rfl (Nat.le_of_ble_eq_true rfl) (by omega) (c_X6_keepAct (by omega) hx hI kp_story_86 (fun g5 hIg5 hfg5 => ⟨_, rfl, ?_⟩))
  show mm_W d mmX11_turn 27 [some (.ref 0), some (.int (Int32.ofInt a1)), some (.ref u3), none] [] (mz_mk g5 x) Q
  refine mm_g 1 (pc1 := 28) (lo1 := [some (.ref 0), some (.int (Int32.ofInt a1)), some (.ref u3), none]) (st1 := [.ref u3]) (H1 := mz_mk g5 x) rfl ?_
  refine mz_gI rfl fd_11_237 (by decide) (kc_trunk k_u3 _) hIg5 (kb_trunk_3 k_u3) (fun v6 e_v6 l_v6 u_v6 => ?_)
  refine mm_g 2 (pc1 := 33) (lo1 := [some (.ref 0), some (.int (Int32.ofInt a1)), some (.ref u3), some (.int (Int32.ofInt v6))]) (st1 := [.ref u3]) (H1 := mz_mk g5 x) rfl ?_
  refine mz_cv rfl mt_11_269 (by decide) (kc_trunk k_u3 _) rfl (Nat.le_of_ble_eq_true rfl) (by omega) (c_X8_turnRound (by omega) hx hIg5 k_u3 (fun g7 hIg7 hfg7 => ⟨_, rfl, ?_⟩))
  show mm_W d mmX11_turn 36 [some (.ref 0), some (.int (Int32.ofInt a1)), some (.ref u3), some (.int (Int32.ofInt v6))] [] (mz_mk g7 x) Q
  refine mm_g 1 (pc1 := 37) (lo1 := [some (.ref 0), some (.int (Int32.ofInt a1)), some (.ref u3), some (.int (Int32.ofInt v6))]) (st1 := [.int (Int32.ofInt v6)]) (H1 := mz_mk g7 x) rfl ?_
  exact mm_rt rfl rfl (hQ _ _ hIg7 (fun k j hk => ((hfg7 k j (fun h => hk (Or.inr (Or.inr (show (87 ≤ k ∧ k < 96) by have h9 : k = u3 := h; omega))))).trans (hfg5 k j (fun h => hk (Or.elim h (fun h => (Or.inl h)) (fun h => (Or.inr (Or.inl h)))))))) (by omega) (by omega))
def fw_X8_packIn (x : mm_X) (q0 : Nat) (a1 : Int) (a2 : Int) : Nat → Nat → Prop := fun k j => k = q0
theorem c_X8_packIn {d : Nat} (hd : 1 ≤ d) {x : mm_X} (hx : mk_x x) {g : mz_G} (hI : mz_inv g) {q0 : Nat} (h_q0 : kd_trunk q0) {a1 : Int} (l_a1 : (-2147483648) ≤ a1) (u_a1 : a1 ≤ 2147483647) {a2 : Int} (l_a2 : (-2147483648) ≤ a2) (u_a2 : a2 ≤ 2147483647) {Q : (Option Value ⊕ Nat) → mm_H → Prop} (hQ : ∀ (g1 : mz_G), mz_inv g1 → mz_fr (fw_X8_packIn x q0 a1 a2) g g1 → Q (.inl none) (mz_mk g1 x)) : mm_C d 97 [.ref q0, .int (Int32.ofInt a1), .int (Int32.ofInt a2)] (mz_mk g x) Q := by
  have kn_q0 := kn_trunk h_q0
  refine ⟨mmX8_packIn, [some (.ref q0), some (.int (Int32.ofInt a1)), some (.int (Int32.ofInt a2))], rfl, rfl, ?_⟩
  refine mm_g 1 (pc1 := 1) (lo1 := [some (.ref q0), some (.int (Int32.ofInt a1)), some (.int (Int32.ofInt a2))]) (st1 := [.int (Int32.ofInt a1)]) (H1 := mz_mk g x) rfl ?_
  refine mz_if_ne (tgt := 12) rfl rfl (mz_rg l_a1 u_a1) (fun c1_0 => ?_) (fun c1_0 => ?_)
  · skip
    refine mm_g 2 (pc1 := 14) (lo1 := [some (.ref q0), some (.int (Int32.ofInt a1)), some (.int (Int32.ofInt a2))]) (st1 := [.int (Int32.ofInt a2), .ref q0]) (H1 := mz_mk g x) rfl ?_
    refine mz_pI rfl fd_8_13 (kc_trunk h_q0 _) hI (kb_trunk_1 h_q0) (by omega) (by omega) (fun g1 hIg1 hug1 => ?_)
    refine mm_g 2 (pc1 := 19) (lo1 := [some (.ref q0), some (.int (Int32.ofInt a1)), some (.int (Int32.ofInt a2))]) (st1 := [.int (Int32.ofInt 0), .ref q0]) (H1 := mz_mk g1 x) rfl ?_
    refine mz_pI rfl fd_8_19 (kc_trunk h_q0 _) hIg1 (kb_trunk_3 h_q0) (by omega) (by omega) (fun g2 hIg2 hug2 => ?_)
    exact mm_rt rfl rfl (hQ _ hIg2 (fun k j hk => ((hug2.2 k j (fun h => hk h.1)).trans (hug1.2 k j (fun h => hk h.1)))))
  · skip
    refine mm_g 2 (pc1 := 6) (lo1 := [some (.ref q0), some (.int (Int32.ofInt a1)), some (.int (Int32.ofInt a2))]) (st1 := [.int (Int32.ofInt a2), .ref q0]) (H1 := mz_mk g x) rfl ?_
    refine mz_pI rfl fd_8_7 (kc_trunk h_q0 _) hI (kb_trunk_0 h_q0) (by omega) (by omega) (fun g3 hIg3 hug3 => ?_)
    refine mz_gt (tgt := 17) rfl rfl ?_
    refine mm_g 2 (pc1 := 19) (lo1 := [some (.ref q0), some (.int (Int32.ofInt a1)), some (.int (Int32.ofInt a2))]) (st1 := [.int (Int32.ofInt 0), .ref q0]) (H1 := mz_mk g3 x) rfl ?_
    refine mz_pI rfl fd_8_19 (kc_trunk h_q0 _) hIg3 (kb_trunk_3 h_q0) (by omega) (by omega) (fun g4 hIg4 hug4 => ?_)
    exact mm_rt rfl rfl (hQ _ hIg4 (fun k j hk => ((hug4.2 k j (fun h => hk h.1)).trans (hug3.2 k j (fun h => hk h.1)))))
def fw_X11_pack (x : mm_X) (a1 : Int) (a2 : Int) (a3 : Int) : Nat → Nat → Prop := fun k j => k = 96 ∨ k = 86 ∨ (87 ≤ k ∧ k < 96) ∨ k = 100
theorem c_X11_pack {d : Nat} (hd : 13 ≤ d) {x : mm_X} (hx : mk_x x) {g : mz_G} (hI : mz_inv g) {a1 : Int} (l_a1 : (-2147483648) ≤ a1) (u_a1 : a1 ≤ 2147483647) {a2 : Int} (l_a2 : (-2147483648) ≤ a2) (u_a2 : a2 ≤ 2147483647) {a3 : Int} (l_a3 : (-2147483648) ≤ a3) (u_a3 : a3 ≤ 2147483647) {Q : (Option Value ⊕ Nat) → mm_H → Prop} (hQ : ∀ (r : Int) (g1 : mz_G), mz_inv g1 → mz_fr (fw_X11_pack x a1 a2 a3) g g1 → (-2147483648) ≤ r → r ≤ 2147483647 → Q (.inl (some (.int (Int32.ofInt r)))) (mz_mk g1 x)) (hX : ∀ E, Q (.inr E) (mz_mk g (mz_tx x))) : mm_C d 137 [.ref 0, .int (Int32.ofInt a1), .int (Int32.ofInt a2), .int (Int32.ofInt a3)] (mz_mk g x) Q := by
  have kx := kn_x hx
  refine ⟨mmX11_pack, [some (.ref 0), some (.int (Int32.ofInt a1)), some (.int (Int32.ofInt a2)), some (.int (Int32.ofInt a3)), none, none], rfl, rfl, ?_⟩
  refine mm_g 2 (pc1 := 2) (lo1 := [some (.ref 0), some (.int (Int32.ofInt a1)), some (.int (Int32.ofInt a2)), some (.int (Int32.ofInt a3)), none, none]) (st1 := [.int (Int32.ofInt a1), .ref 0]) (H1 := mz_mk g x) rfl ?_
  refine mz_cv rfl mt_11_231 (by decide) (sc_0 _) rfl (Nat.le_of_ble_eq_true rfl) (by omega) (c_X11_isTrunk (by omega) hx hI l_a1 u_a1 (fun v1 l_v1 u_v1 => ⟨_, rfl, ?_⟩))
  show mm_W d mmX11_pack 5 [some (.ref 0), some (.int (Int32.ofInt a1)), some (.int (Int32.ofInt a2)), some (.int (Int32.ofInt a3)), none, none] [.int (Int32.ofInt v1)] (mz_mk g x) Q
  refine mz_if_eq (tgt := 29) rfl rfl (mz_rg l_v1 u_v1) (fun c5_1 => ?_) (fun c5_1 => ?_)
  · skip
    refine mm_g 1 (pc1 := 30) (lo1 := [some (.ref 0), some (.int (Int32.ofInt a1)), some (.int (Int32.ofInt a2)), some (.int (Int32.ofInt a3)), none, none]) (st1 := [.int (Int32.ofInt 0)]) (H1 := mz_mk g x) rfl ?_
    refine mz_csx rfl mt_11_183 rfl (Nat.le_of_ble_eq_true rfl) (by omega) rfl nh_X11_mustBe (c_X11_mustBe (by omega) hx hI (by decide) (by decide) (fun hp2 => ?_) (fun E => hX E))
    show mm_W d mmX11_pack 33 [some (.ref 0), some (.int (Int32.ofInt a1)), some (.int (Int32.ofInt a2)), some (.int (Int32.ofInt a3)), none, none] [] (mz_mk g x) Q
    exfalso; omega
  · skip
    refine mm_g 1 (pc1 := 9) (lo1 := [some (.ref 0), some (.int (Int32.ofInt a1)), some (.int (Int32.ofInt a2)), some (.int (Int32.ofInt a3)), none, none]) (st1 := [.int (Int32.ofInt a2)]) (H1 := mz_mk g x) rfl ?_
    refine mz_if_eq (tgt := 17) rfl rfl (mz_rg l_a2 u_a2) (fun c9_2 => ?_) (fun c9_2 => ?_)
    · skip
      refine mm_g 2 (pc1 := 19) (lo1 := [some (.ref 0), some (.int (Int32.ofInt a1)), some (.int (Int32.ofInt a2)), some (.int (Int32.ofInt a3)), none, none]) (st1 := [.int (Int32.ofInt a3), .ref 0]) (H1 := mz_mk g x) rfl ?_
      refine mz_cv rfl mt_11_199 (by decide) (sc_0 _) rfl (Nat.le_of_ble_eq_true rfl) (by omega) (c_X11_isWord (by omega) hx hI l_a3 u_a3 (fun v3 l_v3 u_v3 => ⟨_, rfl, ?_⟩))
      show mm_W d mmX11_pack 22 [some (.ref 0), some (.int (Int32.ofInt a1)), some (.int (Int32.ofInt a2)), some (.int (Int32.ofInt a3)), none, none] [.int (Int32.ofInt v3)] (mz_mk g x) Q
      refine mz_if_eq (tgt := 29) rfl rfl (mz_rg l_v3 u_v3) (fun c22_3 => ?_) (fun c22_3 => ?_)
      · skip
        refine mm_g 1 (pc1 := 30) (lo1 := [some (.ref 0), some (.int (Int32.ofInt a1)), some (.int (Int32.ofInt a2)), some (.int (Int32.ofInt a3)), none, none]) (st1 := [.int (Int32.ofInt 0)]) (H1 := mz_mk g x) rfl ?_
        refine mz_csx rfl mt_11_183 rfl (Nat.le_of_ble_eq_true rfl) (by omega) rfl nh_X11_mustBe (c_X11_mustBe (by omega) hx hI (by decide) (by decide) (fun hp4 => ?_) (fun E => hX E))
        show mm_W d mmX11_pack 33 [some (.ref 0), some (.int (Int32.ofInt a1)), some (.int (Int32.ofInt a2)), some (.int (Int32.ofInt a3)), none, none] [] (mz_mk g x) Q
        exfalso; omega
      · skip
        refine mm_g 1 (pc1 := 26) (lo1 := [some (.ref 0), some (.int (Int32.ofInt a1)), some (.int (Int32.ofInt a2)), some (.int (Int32.ofInt a3)), none, none]) (st1 := [.int (Int32.ofInt 1)]) (H1 := mz_mk g x) rfl ?_
        refine mz_gt (tgt := 30) rfl rfl ?_
        refine mz_csx rfl mt_11_183 rfl (Nat.le_of_ble_eq_true rfl) (by omega) rfl nh_X11_mustBe (c_X11_mustBe (by omega) hx hI (by decide) (by decide) (fun hp5 => ?_) (fun E => hX E))
        show mm_W d mmX11_pack 33 [some (.ref 0), some (.int (Int32.ofInt a1)), some (.int (Int32.ofInt a2)), some (.int (Int32.ofInt a3)), none, none] [] (mz_mk g x) Q
        refine mm_g 1 (pc1 := 34) (lo1 := [some (.ref 0), some (.int (Int32.ofInt a1)), some (.int (Int32.ofInt a2)), some (.int (Int32.ofInt a3)), none, none]) (st1 := [.ref 0]) (H1 := mz_mk g x) rfl ?_
        refine mz_fgR (v := 86) rfl fd_11_37 (by decide) (sc_0 _) (rf_0_5 _ _ _) ?_
        refine mz_fgR (v := 87) rfl fd_11_158 (by decide) (sc_86 _) (rf_86_0 _ _ _) ?_
        refine mm_g 1 (pc1 := 41) (lo1 := [some (.ref 0), some (.int (Int32.ofInt a1)), some (.int (Int32.ofInt a2)), some (.int (Int32.ofInt a3)), none, none]) (st1 := [.int (Int32.ofInt a1), .ref 87]) (H1 := mz_mk g x) rfl ?_
        refine mz_cv rfl mt_11_192 (by decide) (sc_87 _) rfl (Nat.le_of_ble_eq_true rfl) (by omega) (c_X9_get (by omega) hx hI kp_tks_87 l_a1 u_a1 (fun u6 k_u6 hp7 => ⟨_, rfl, ?_⟩))
        show mm_W d mmX11_pack 44 [some (.ref 0), some (.int (Int32.ofInt a1)), some (.int (Int32.ofInt a2)), some (.int (Int32.ofInt a3)), none, none] [.ref u6] (mz_mk g x) Q
        refine mm_g 2 (pc1 := 47) (lo1 := [some (.ref 0), some (.int (Int32.ofInt a1)), some (.int (Int32.ofInt a2)), some (.int (Int32.ofInt a3)), some (.ref u6), none]) (st1 := [.int (Int32.ofInt a2)]) (H1 := mz_mk g x) rfl ?_
        refine mz_if_ne (tgt := 58) rfl rfl (mz_rg l_a2 u_a2) (fun c47_7 => ?_) (fun c47_7 => ?_)
        · exfalso; omega
        · skip
          refine mm_g 1 (pc1 := 52) (lo1 := [some (.ref 0), some (.int (Int32.ofInt a1)), some (.int (Int32.ofInt a2)), some (.int (Int32.ofInt a3)), some (.ref u6), none]) (st1 := [.ref u6]) (H1 := mz_mk g x) rfl ?_
          refine mz_gI rfl fd_11_222 (by decide) (kc_trunk k_u6 _) hI (kb_trunk_0 k_u6) (fun v8 e_v8 l_v8 u_v8 => ?_)
          refine mz_gt (tgt := 63) rfl rfl ?_
          refine mm_g 3 (pc1 := 68) (lo1 := [some (.ref 0), some (.int (Int32.ofInt a1)), some (.int (Int32.ofInt a2)), some (.int (Int32.ofInt a3)), some (.ref u6), some (.int (Int32.ofInt v8))]) (st1 := [.int (Int32.ofInt a3), .int (Int32.ofInt v8)]) (H1 := mz_mk g x) rfl ?_
          refine mz_ic_ne (tgt := 80) rfl rfl (mz_rg l_v8 u_v8) (mz_rg l_a3 u_a3) (fun c68_8 => ?_) (fun c68_8 => ?_)
          · skip
            refine mm_g 1 (pc1 := 81) (lo1 := [some (.ref 0), some (.int (Int32.ofInt a1)), some (.int (Int32.ofInt a2)), some (.int (Int32.ofInt a3)), some (.ref u6), some (.int (Int32.ofInt v8))]) (st1 := [.ref 0]) (H1 := mz_mk g x) rfl ?_
            refine mz_fgR (v := 86) rfl fd_11_37 (by decide) (sc_0 _) (rf_0_5 _ _ _) ?_
            refine mz_cv rfl mt_11_253 (by decide) (sc_86 _) rfl (Nat.le_of_ble_eq_true rfl) (by omega) (c_X6_keepAct (by omega) hx hI kp_story_86 (fun g9 hIg9 hfg9 => ⟨_, rfl, ?_⟩))
            show mm_W d mmX11_pack 87 [some (.ref 0), some (.int (Int32.ofInt a1)), some (.int (Int32.ofInt a2)), some (.int (Int32.ofInt a3)), some (.ref u6), some (.int (Int32.ofInt v8))] [] (mz_mk g9 x) Q
            refine mm_g 3 (pc1 := 91) (lo1 := [some (.ref 0), some (.int (Int32.ofInt a1)), some (.int (Int32.ofInt a2)), some (.int (Int32.ofInt a3)), some (.ref u6), some (.int (Int32.ofInt v8))]) (st1 := [.int (Int32.ofInt a3), .int (Int32.ofInt a2), .ref u6]) (H1 := mz_mk g9 x) rfl ?_
            refine mz_cv rfl mt_11_272 (by decide) (kc_trunk k_u6 _) rfl (Nat.le_of_ble_eq_true rfl) (by omega) (c_X8_packIn (by omega) hx hIg9 k_u6 l_a2 u_a2 l_a3 u_a3 (fun g10 hIg10 hfg10 => ⟨_, rfl, ?_⟩))
            show mm_W d mmX11_pack 94 [some (.ref 0), some (.int (Int32.ofInt a1)), some (.int (Int32.ofInt a2)), some (.int (Int32.ofInt a3)), some (.ref u6), some (.int (Int32.ofInt v8))] [] (mz_mk g10 x) Q
            refine mm_g 1 (pc1 := 96) (lo1 := [some (.ref 0), some (.int (Int32.ofInt a1)), some (.int (Int32.ofInt a2)), some (.int (Int32.ofInt a3)), some (.ref u6), some (.int (Int32.ofInt v8))]) (st1 := [.int (Int32.ofInt v8)]) (H1 := mz_mk g10 x) rfl ?_
            exact mm_rt rfl rfl (hQ _ _ hIg10 (fun k j hk => ((hfg10 k j (fun h => hk (Or.inr (Or.inr (Or.inl (show (87 ≤ k ∧ k < 96) by have h9 : k = u6 := h; omega)))))).trans (hfg9 k j (fun h => hk (Or.elim h (fun h => (Or.inl h)) (fun h => (Or.inr (Or.inl h)))))))) (by omega) (by omega))
          · skip
            refine mm_g 1 (pc1 := 72) (lo1 := [some (.ref 0), some (.int (Int32.ofInt a1)), some (.int (Int32.ofInt a2)), some (.int (Int32.ofInt a3)), some (.ref u6), some (.int (Int32.ofInt v8))]) (st1 := [.ref 0]) (H1 := mz_mk g x) rfl ?_
            refine mz_fgR (v := 86) rfl fd_11_37 (by decide) (sc_0 _) (rf_0_5 _ _ _) ?_
            refine mm_g 1 (pc1 := 76) (lo1 := [some (.ref 0), some (.int (Int32.ofInt a1)), some (.int (Int32.ofInt a2)), some (.int (Int32.ofInt a3)), some (.ref u6), some (.int (Int32.ofInt v8))]) (st1 := [.int (Int32.ofInt 1), .ref 86]) (H1 := mz_mk g x) rfl ?_
            refine mz_cv rfl mt_11_131 (by decide) (sc_86 _) rfl (Nat.le_of_ble_eq_true rfl) (by omega) (c_X6_refuse (by omega) hx hI kp_story_86 (by decide) (by decide) (fun v11 g12 hIg12 hfg12 l_v11 u_v11 => ⟨_, rfl, ?_⟩))
            show mm_W d mmX11_pack 79 [some (.ref 0), some (.int (Int32.ofInt a1)), some (.int (Int32.ofInt a2)), some (.int (Int32.ofInt a3)), some (.ref u6), some (.int (Int32.ofInt v8))] [.int (Int32.ofInt v11)] (mz_mk g12 x) Q
            exact mm_rt rfl rfl (hQ _ _ hIg12 (fun k j hk => (hfg12 k j (fun h => hk (Or.inr (Or.inr (Or.inr h)))))) (by omega) (by omega))
    · skip
      refine mm_g 2 (pc1 := 14) (lo1 := [some (.ref 0), some (.int (Int32.ofInt a1)), some (.int (Int32.ofInt a2)), some (.int (Int32.ofInt a3)), none, none]) (st1 := [.int (Int32.ofInt 1), .int (Int32.ofInt a2)]) (H1 := mz_mk g x) rfl ?_
      refine mz_ic_ne (tgt := 29) rfl rfl (mz_rg l_a2 u_a2) ⟨by decide, by decide⟩ (fun c14_12 => ?_) (fun c14_12 => ?_)
      · skip
        refine mm_g 1 (pc1 := 30) (lo1 := [some (.ref 0), some (.int (Int32.ofInt a1)), some (.int (Int32.ofInt a2)), some (.int (Int32.ofInt a3)), none, none]) (st1 := [.int (Int32.ofInt 0)]) (H1 := mz_mk g x) rfl ?_
        refine mz_csx rfl mt_11_183 rfl (Nat.le_of_ble_eq_true rfl) (by omega) rfl nh_X11_mustBe (c_X11_mustBe (by omega) hx hI (by decide) (by decide) (fun hp13 => ?_) (fun E => hX E))
        show mm_W d mmX11_pack 33 [some (.ref 0), some (.int (Int32.ofInt a1)), some (.int (Int32.ofInt a2)), some (.int (Int32.ofInt a3)), none, none] [] (mz_mk g x) Q
        exfalso; omega
      · skip
        refine mm_g 2 (pc1 := 19) (lo1 := [some (.ref 0), some (.int (Int32.ofInt a1)), some (.int (Int32.ofInt a2)), some (.int (Int32.ofInt a3)), none, none]) (st1 := [.int (Int32.ofInt a3), .ref 0]) (H1 := mz_mk g x) rfl ?_
        refine mz_cv rfl mt_11_199 (by decide) (sc_0 _) rfl (Nat.le_of_ble_eq_true rfl) (by omega) (c_X11_isWord (by omega) hx hI l_a3 u_a3 (fun v14 l_v14 u_v14 => ⟨_, rfl, ?_⟩))
        show mm_W d mmX11_pack 22 [some (.ref 0), some (.int (Int32.ofInt a1)), some (.int (Int32.ofInt a2)), some (.int (Int32.ofInt a3)), none, none] [.int (Int32.ofInt v14)] (mz_mk g x) Q
        refine mz_if_eq (tgt := 29) rfl rfl (mz_rg l_v14 u_v14) (fun c22_14 => ?_) (fun c22_14 => ?_)
        · skip
          refine mm_g 1 (pc1 := 30) (lo1 := [some (.ref 0), some (.int (Int32.ofInt a1)), some (.int (Int32.ofInt a2)), some (.int (Int32.ofInt a3)), none, none]) (st1 := [.int (Int32.ofInt 0)]) (H1 := mz_mk g x) rfl ?_
          refine mz_csx rfl mt_11_183 rfl (Nat.le_of_ble_eq_true rfl) (by omega) rfl nh_X11_mustBe (c_X11_mustBe (by omega) hx hI (by decide) (by decide) (fun hp15 => ?_) (fun E => hX E))
          show mm_W d mmX11_pack 33 [some (.ref 0), some (.int (Int32.ofInt a1)), some (.int (Int32.ofInt a2)), some (.int (Int32.ofInt a3)), none, none] [] (mz_mk g x) Q
          exfalso; omega
        · skip
          refine mm_g 1 (pc1 := 26) (lo1 := [some (.ref 0), some (.int (Int32.ofInt a1)), some (.int (Int32.ofInt a2)), some (.int (Int32.ofInt a3)), none, none]) (st1 := [.int (Int32.ofInt 1)]) (H1 := mz_mk g x) rfl ?_
          refine mz_gt (tgt := 30) rfl rfl ?_
          refine mz_csx rfl mt_11_183 rfl (Nat.le_of_ble_eq_true rfl) (by omega) rfl nh_X11_mustBe (c_X11_mustBe (by omega) hx hI (by decide) (by decide) (fun hp16 => ?_) (fun E => hX E))
          show mm_W d mmX11_pack 33 [some (.ref 0), some (.int (Int32.ofInt a1)), some (.int (Int32.ofInt a2)), some (.int (Int32.ofInt a3)), none, none] [] (mz_mk g x) Q
          refine mm_g 1 (pc1 := 34) (lo1 := [some (.ref 0), some (.int (Int32.ofInt a1)), some (.int (Int32.ofInt a2)), some (.int (Int32.ofInt a3)), none, none]) (st1 := [.ref 0]) (H1 := mz_mk g x) rfl ?_
          refine mz_fgR (v := 86) rfl fd_11_37 (by decide) (sc_0 _) (rf_0_5 _ _ _) ?_
          refine mz_fgR (v := 87) rfl fd_11_158 (by decide) (sc_86 _) (rf_86_0 _ _ _) ?_
          refine mm_g 1 (pc1 := 41) (lo1 := [some (.ref 0), some (.int (Int32.ofInt a1)), some (.int (Int32.ofInt a2)), some (.int (Int32.ofInt a3)), none, none]) (st1 := [.int (Int32.ofInt a1), .ref 87]) (H1 := mz_mk g x) rfl ?_
          refine mz_cv rfl mt_11_192 (by decide) (sc_87 _) rfl (Nat.le_of_ble_eq_true rfl) (by omega) (c_X9_get (by omega) hx hI kp_tks_87 l_a1 u_a1 (fun u17 k_u17 hp18 => ⟨_, rfl, ?_⟩))
          show mm_W d mmX11_pack 44 [some (.ref 0), some (.int (Int32.ofInt a1)), some (.int (Int32.ofInt a2)), some (.int (Int32.ofInt a3)), none, none] [.ref u17] (mz_mk g x) Q
          refine mm_g 2 (pc1 := 47) (lo1 := [some (.ref 0), some (.int (Int32.ofInt a1)), some (.int (Int32.ofInt a2)), some (.int (Int32.ofInt a3)), some (.ref u17), none]) (st1 := [.int (Int32.ofInt a2)]) (H1 := mz_mk g x) rfl ?_
          refine mz_if_ne (tgt := 58) rfl rfl (mz_rg l_a2 u_a2) (fun c47_18 => ?_) (fun c47_18 => ?_)
          · skip
            refine mm_g 1 (pc1 := 60) (lo1 := [some (.ref 0), some (.int (Int32.ofInt a1)), some (.int (Int32.ofInt a2)), some (.int (Int32.ofInt a3)), some (.ref u17), none]) (st1 := [.ref u17]) (H1 := mz_mk g x) rfl ?_
            refine mz_gI rfl fd_11_225 (by decide) (kc_trunk k_u17 _) hI (kb_trunk_1 k_u17) (fun v19 e_v19 l_v19 u_v19 => ?_)
            refine mm_g 3 (pc1 := 68) (lo1 := [some (.ref 0), some (.int (Int32.ofInt a1)), some (.int (Int32.ofInt a2)), some (.int (Int32.ofInt a3)), some (.ref u17), some (.int (Int32.ofInt v19))]) (st1 := [.int (Int32.ofInt a3), .int (Int32.ofInt v19)]) (H1 := mz_mk g x) rfl ?_
            refine mz_ic_ne (tgt := 80) rfl rfl (mz_rg l_v19 u_v19) (mz_rg l_a3 u_a3) (fun c68_19 => ?_) (fun c68_19 => ?_)
            · skip
              refine mm_g 1 (pc1 := 81) (lo1 := [some (.ref 0), some (.int (Int32.ofInt a1)), some (.int (Int32.ofInt a2)), some (.int (Int32.ofInt a3)), some (.ref u17), some (.int (Int32.ofInt v19))]) (st1 := [.ref 0]) (H1 := mz_mk g x) rfl ?_
              refine mz_fgR (v := 86) rfl fd_11_37 (by decide) (sc_0 _) (rf_0_5 _ _ _) ?_
              refine mz_cv rfl mt_11_253 (by decide) (sc_86 _) rfl (Nat.le_of_ble_eq_true rfl) (by omega) (c_X6_keepAct (by omega) hx hI kp_story_86 (fun g20 hIg20 hfg20 => ⟨_, rfl, ?_⟩))
              show mm_W d mmX11_pack 87 [some (.ref 0), some (.int (Int32.ofInt a1)), some (.int (Int32.ofInt a2)), some (.int (Int32.ofInt a3)), some (.ref u17), some (.int (Int32.ofInt v19))] [] (mz_mk g20 x) Q
              refine mm_g 3 (pc1 := 91) (lo1 := [some (.ref 0), some (.int (Int32.ofInt a1)), some (.int (Int32.ofInt a2)), some (.int (Int32.ofInt a3)), some (.ref u17), some (.int (Int32.ofInt v19))]) (st1 := [.int (Int32.ofInt a3), .int (Int32.ofInt a2), .ref u17]) (H1 := mz_mk g20 x) rfl ?_
              refine mz_cv rfl mt_11_272 (by decide) (kc_trunk k_u17 _) rfl (Nat.le_of_ble_eq_true rfl) (by omega) (c_X8_packIn (by omega) hx hIg20 k_u17 l_a2 u_a2 l_a3 u_a3 (fun g21 hIg21 hfg21 => ⟨_, rfl, ?_⟩))
              show mm_W d mmX11_pack 94 [some (.ref 0), some (.int (Int32.ofInt a1)), some (.int (Int32.ofInt a2)), some (.int (Int32.ofInt a3)), some (.ref u17), some (.int (Int32.ofInt v19))] [] (mz_mk g21 x) Q
              refine mm_g 1 (pc1 := 96) (lo1 := [some (.ref 0), some (.int (Int32.ofInt a1)), some (.int (Int32.ofInt a2)), some (.int (Int32.ofInt a3)), some (.ref u17), some (.int (Int32.ofInt v19))]) (st1 := [.int (Int32.ofInt v19)]) (H1 := mz_mk g21 x) rfl ?_
              exact mm_rt rfl rfl (hQ _ _ hIg21 (fun k j hk => ((hfg21 k j (fun h => hk (Or.inr (Or.inr (Or.inl (show (87 ≤ k ∧ k < 96) by have h9 : k = u17 := h; omega)))))).trans (hfg20 k j (fun h => hk (Or.elim h (fun h => (Or.inl h)) (fun h => (Or.inr (Or.inl h)))))))) (by omega) (by omega))
            · skip
              refine mm_g 1 (pc1 := 72) (lo1 := [some (.ref 0), some (.int (Int32.ofInt a1)), some (.int (Int32.ofInt a2)), some (.int (Int32.ofInt a3)), some (.ref u17), some (.int (Int32.ofInt v19))]) (st1 := [.ref 0]) (H1 := mz_mk g x) rfl ?_
              refine mz_fgR (v := 86) rfl fd_11_37 (by decide) (sc_0 _) (rf_0_5 _ _ _) ?_
              refine mm_g 1 (pc1 := 76) (lo1 := [some (.ref 0), some (.int (Int32.ofInt a1)), some (.int (Int32.ofInt a2)), some (.int (Int32.ofInt a3)), some (.ref u17), some (.int (Int32.ofInt v19))]) (st1 := [.int (Int32.ofInt 1), .ref 86]) (H1 := mz_mk g x) rfl ?_
              refine mz_cv rfl mt_11_131 (by decide) (sc_86 _) rfl (Nat.le_of_ble_eq_true rfl) (by omega) (c_X6_refuse (by omega) hx hI kp_story_86 (by decide) (by decide) (fun v22 g23 hIg23 hfg23 l_v22 u_v22 => ⟨_, rfl, ?_⟩))
              show mm_W d mmX11_pack 79 [some (.ref 0), some (.int (Int32.ofInt a1)), some (.int (Int32.ofInt a2)), some (.int (Int32.ofInt a3)), some (.ref u17), some (.int (Int32.ofInt v19))] [.int (Int32.ofInt v22)] (mz_mk g23 x) Q
              exact mm_rt rfl rfl (hQ _ _ hIg23 (fun k j hk => (hfg23 k j (fun h => hk (Or.inr (Or.inr (Or.inr h)))))) (by omega) (by omega))
          · exfalso; omega
def fl_X9_takeFrom_11 (x : mm_X) (q0 : Nat) (q1 : Nat) (a2 : Int) : Nat → Nat → Prop := fun k j => (q0 ≤ k ∧ k < q0 + 9)
def fw_X9_takeFrom (x : mm_X) (q0 : Nat) (q1 : Nat) (a2 : Int) : Nat → Nat → Prop := fun k j => (q0 ≤ k ∧ k < q0 + 9)
theorem c_X9_takeFrom {d : Nat} (hd : 2 ≤ d) {x : mm_X} (hx : mk_x x) {g : mz_G} (hI : mz_inv g) {q0 : Nat} (h_q0 : kd_tks q0) {q1 n_q1 : Nat} (h_q1 : mm_SH x.2.2.2.1 q1 = (100, n_q1)) (m_q1 : n_q1 ≤ 2048) (b_q1 : ∀ j, mz_bd q1 j = (-2147483648, 2147483647)) {a2 : Int} (l_a2 : (-2147483648) ≤ a2) (u_a2 : a2 ≤ 2147483647) {Q : (Option Value ⊕ Nat) → mm_H → Prop} (hQ : ∀ (g1 : mz_G), mz_inv g1 → mz_fr (fw_X9_takeFrom x q0 q1 a2) g g1 → Q (.inl none) (mz_mk g1 x)) : mm_C d 103 [.ref q0, .ref q1, .int (Int32.ofInt a2)] (mz_mk g x) Q := by
  have kn_q0 := kn_tks h_q0
  refine ⟨mmX9_takeFrom, [some (.ref q0), some (.ref q1), some (.int (Int32.ofInt a2)), none, none, none], rfl, rfl, ?_⟩
  refine mm_g 3 (pc1 := 3) (lo1 := [some (.ref q0), some (.ref q1), some (.int (Int32.ofInt a2)), none, none, none]) (st1 := [.int (Int32.ofInt a2), .ref q1, .ref q0]) (H1 := mz_mk g x) rfl ?_
  refine mz_cs rfl mt_9_57 (by decide) rfl (Nat.le_of_ble_eq_true rfl) (by omega) (c_X11_at (by omega) hx hI h_q1 (by omega) b_q1 (by omega) (by omega) l_a2 u_a2 (fun v1 l_v1 u_v1 => ⟨_, rfl, ?_⟩))
  show mm_W d mmX9_takeFrom 6 [some (.ref q0), some (.ref q1), some (.int (Int32.ofInt a2)), none, none, none] [.int (Int32.ofInt v1), .ref q0] (mz_mk g x) Q
  refine mz_pI rfl fd_9_26 (kc_tks h_q0 _) hI (kb_tks_3 h_q0) (by omega) (by omega) (fun g2 hIg2 hug2 => ?_)
  refine mm_g 2 (pc1 := 11) (lo1 := [some (.ref q0), some (.ref q1), some (.int (Int32.ofInt a2)), some (.int (Int32.ofInt 0)), none, none]) (st1 := []) (H1 := mz_mk g2 x) rfl ?_
  have L9 : ∀ n8 : Nat, ∀ (v3 : Int) (o4 : Option Value) (o5 : Option Value) (g6 : mz_G), (6 - v3).toNat = n8 → 0 ≤ v3 → v3 ≤ 6 → mz_nl o4 → mz_nl o5 → mz_inv g6 → mz_fr (fl_X9_takeFrom_11 x q0 q1 a2) g2 g6 → mm_W d mmX9_takeFrom 11 [some (.ref q0), some (.ref q1), some (.int (Int32.ofInt a2)), some (.int (Int32.ofInt v3)), o4, o5] [] (mz_mk g6 x) Q := by
    intro n8
    induction n8 using Nat.strongRecOn with
    | ind n8 ih7 =>
    intro v3 o4 o5 g6 hmn8 l_v3 u_v3 h_o4 h_o5 hIg6 hfg6
    refine mm_g 2 (pc1 := 13) (lo1 := [some (.ref q0), some (.ref q1), some (.int (Int32.ofInt a2)), some (.int (Int32.ofInt v3)), o4, o5]) (st1 := [.ref q0, .int (Int32.ofInt v3)]) (H1 := mz_mk g6 x) rfl ?_
    refine mz_gI rfl fd_9_22 (by decide) (kc_tks h_q0 _) hIg6 (kb_tks_2 h_q0) (fun v10 e_v10 l_v10 u_v10 => ?_)
    refine mz_ic_ge (tgt := 91) rfl rfl (mz_rg l_v3 u_v3) (mz_rg l_v10 u_v10) (fun c16_10 => ?_) (fun c16_10 => ?_)
    · skip
      exact mm_rt rfl rfl (hQ _ hIg6 (fun k j hk => ((hfg6 k j (fun h => hk h)).trans (hug2.2 k j (fun h => hk (show (q0 ≤ k ∧ k < q0 + 9) by have h9 : k = q0 ∧ j = 3 := h; omega))))))
    · skip
      refine mm_g 2 (pc1 := 21) (lo1 := [some (.ref q0), some (.ref q1), some (.int (Int32.ofInt a2)), some (.int (Int32.ofInt v3)), o4, o5]) (st1 := [.int (Int32.ofInt v3), .ref q0]) (H1 := mz_mk g6 x) rfl ?_
      refine mz_cv rfl mt_9_29 (by decide) (kc_tks h_q0 _) rfl (Nat.le_of_ble_eq_true rfl) (by omega) (c_X9_get (by omega) hx hIg6 h_q0 (by omega) (by omega) (fun u11 k_u11 hp12 => ⟨_, rfl, ?_⟩))
      show mm_W d mmX9_takeFrom 24 [some (.ref q0), some (.ref q1), some (.int (Int32.ofInt a2)), some (.int (Int32.ofInt v3)), o4, o5] [.ref u11] (mz_mk g6 x) Q
      refine mm_g 3 (pc1 := 28) (lo1 := [some (.ref q0), some (.ref q1), some (.int (Int32.ofInt a2)), some (.int (Int32.ofInt v3)), some (.ref u11), o5]) (st1 := [.int (Int32.ofInt 1), .int (Int32.ofInt a2)]) (H1 := mz_mk g6 x) rfl ?_
      refine mz_iadd_w rfl (fun v13 _ hwv13 => ?_)
      have l_v13 := hwv13.1
      have u_v13 := hwv13.2
      refine mm_g 2 (pc1 := 31) (lo1 := [some (.ref q0), some (.ref q1), some (.int (Int32.ofInt a2)), some (.int (Int32.ofInt v3)), some (.ref u11), o5]) (st1 := [.int (Int32.ofInt v3), .int (Int32.ofInt 4), .int (Int32.ofInt v13)]) (H1 := mz_mk g6 x) rfl ?_
      refine mz_imul rfl ?_
      refine mz_iadd_w rfl (fun v14 _ hwv14 => ?_)
      have l_v14 := hwv14.1
      have u_v14 := hwv14.2
      refine mm_g 4 (pc1 := 40) (lo1 := [some (.ref q0), some (.ref q1), some (.int (Int32.ofInt a2)), some (.int (Int32.ofInt v3)), some (.ref u11), some (.int (Int32.ofInt v14))]) (st1 := [.int (Int32.ofInt v14), .ref q1, .ref u11]) (H1 := mz_mk g6 x) rfl ?_
      refine mz_cs rfl mt_9_57 (by decide) rfl (Nat.le_of_ble_eq_true rfl) (by omega) (c_X11_at (by omega) hx hIg6 h_q1 (by omega) b_q1 (by omega) (by omega) l_v14 u_v14 (fun v15 l_v15 u_v15 => ⟨_, rfl, ?_⟩))
      show mm_W d mmX9_takeFrom 43 [some (.ref q0), some (.ref q1), some (.int (Int32.ofInt a2)), some (.int (Int32.ofInt v3)), some (.ref u11), some (.int (Int32.ofInt v14))] [.int (Int32.ofInt v15), .ref u11] (mz_mk g6 x) Q
      refine mz_pI rfl fd_9_33 (kc_trunk k_u11 _) hIg6 (kb_trunk_0 k_u11) (by omega) (by omega) (fun g16 hIg16 hug16 => ?_)
      refine mm_g 4 (pc1 := 52) (lo1 := [some (.ref q0), some (.ref q1), some (.int (Int32.ofInt a2)), some (.int (Int32.ofInt v3)), some (.ref u11), some (.int (Int32.ofInt v14))]) (st1 := [.int (Int32.ofInt 1), .int (Int32.ofInt v14), .ref q1, .ref u11]) (H1 := mz_mk g16 x) rfl ?_
      refine mz_iadd_w rfl (fun v17 _ hwv17 => ?_)
      have l_v17 := hwv17.1
      have u_v17 := hwv17.2
      refine mz_cs rfl mt_9_57 (by decide) rfl (Nat.le_of_ble_eq_true rfl) (by omega) (c_X11_at (by omega) hx hIg16 h_q1 (by omega) b_q1 (by omega) (by omega) l_v17 u_v17 (fun v18 l_v18 u_v18 => ⟨_, rfl, ?_⟩))
      show mm_W d mmX9_takeFrom 56 [some (.ref q0), some (.ref q1), some (.int (Int32.ofInt a2)), some (.int (Int32.ofInt v3)), some (.ref u11), some (.int (Int32.ofInt v14))] [.int (Int32.ofInt v18), .ref u11] (mz_mk g16 x) Q
      refine mz_pI rfl fd_9_36 (kc_trunk k_u11 _) hIg16 (kb_trunk_1 k_u11) (by omega) (by omega) (fun g19 hIg19 hug19 => ?_)
      refine mm_g 4 (pc1 := 65) (lo1 := [some (.ref q0), some (.ref q1), some (.int (Int32.ofInt a2)), some (.int (Int32.ofInt v3)), some (.ref u11), some (.int (Int32.ofInt v14))]) (st1 := [.int (Int32.ofInt 2), .int (Int32.ofInt v14), .ref q1, .ref u11]) (H1 := mz_mk g19 x) rfl ?_
      refine mz_iadd_w rfl (fun v20 _ hwv20 => ?_)
      have l_v20 := hwv20.1
      have u_v20 := hwv20.2
      refine mz_cs rfl mt_9_57 (by decide) rfl (Nat.le_of_ble_eq_true rfl) (by omega) (c_X11_at (by omega) hx hIg19 h_q1 (by omega) b_q1 (by omega) (by omega) l_v20 u_v20 (fun v21 l_v21 u_v21 => ⟨_, rfl, ?_⟩))
      show mm_W d mmX9_takeFrom 69 [some (.ref q0), some (.ref q1), some (.int (Int32.ofInt a2)), some (.int (Int32.ofInt v3)), some (.ref u11), some (.int (Int32.ofInt v14))] [.int (Int32.ofInt v21), .ref u11] (mz_mk g19 x) Q
      refine mz_pI rfl fd_9_39 (kc_trunk k_u11 _) hIg19 (kb_trunk_2 k_u11) (by omega) (by omega) (fun g22 hIg22 hug22 => ?_)
      refine mm_g 4 (pc1 := 78) (lo1 := [some (.ref q0), some (.ref q1), some (.int (Int32.ofInt a2)), some (.int (Int32.ofInt v3)), some (.ref u11), some (.int (Int32.ofInt v14))]) (st1 := [.int (Int32.ofInt 3), .int (Int32.ofInt v14), .ref q1, .ref u11]) (H1 := mz_mk g22 x) rfl ?_
      refine mz_iadd_w rfl (fun v23 _ hwv23 => ?_)
      have l_v23 := hwv23.1
      have u_v23 := hwv23.2
      refine mz_cs rfl mt_9_57 (by decide) rfl (Nat.le_of_ble_eq_true rfl) (by omega) (c_X11_at (by omega) hx hIg22 h_q1 (by omega) b_q1 (by omega) (by omega) l_v23 u_v23 (fun v24 l_v24 u_v24 => ⟨_, rfl, ?_⟩))
      show mm_W d mmX9_takeFrom 82 [some (.ref q0), some (.ref q1), some (.int (Int32.ofInt a2)), some (.int (Int32.ofInt v3)), some (.ref u11), some (.int (Int32.ofInt v14))] [.int (Int32.ofInt v24), .ref u11] (mz_mk g22 x) Q
      refine mz_pI rfl fd_9_42 (kc_trunk k_u11 _) hIg22 (kb_trunk_3 k_u11) (by omega) (by omega) (fun g25 hIg25 hug25 => ?_)
      refine mz_iincR (v := v3) (lo2 := [some (.ref q0), some (.ref q1), some (.int (Int32.ofInt a2)), some (.int (Int32.ofInt (v3 + 1))), some (.ref u11), some (.int (Int32.ofInt v14))]) rfl rfl rfl (Nat.le_of_ble_eq_true rfl) rfl ?_
      refine mz_gt (tgt := 11) rfl rfl ?_
      exact ih7 ((6 - (v3 + 1)).toNat) (by omega) (v3 + 1) (some (.ref u11)) (some (.int (Int32.ofInt v14))) g25 rfl (by omega) (by omega) (mz_nl_r _) (mz_nl_i _) hIg25 (fun k j hk => ((hug25.2 k j (fun h => hk (show (q0 ≤ k ∧ k < q0 + 9) by have h9 : k = u11 ∧ j = 3 := h; omega))).trans ((hug22.2 k j (fun h => hk (show (q0 ≤ k ∧ k < q0 + 9) by have h9 : k = u11 ∧ j = 2 := h; omega))).trans ((hug19.2 k j (fun h => hk (show (q0 ≤ k ∧ k < q0 + 9) by have h9 : k = u11 ∧ j = 1 := h; omega))).trans ((hug16.2 k j (fun h => hk (show (q0 ≤ k ∧ k < q0 + 9) by have h9 : k = u11 ∧ j = 0 := h; omega))).trans (hfg6 k j (fun h => hk h)))))))
  exact L9 _ 0 none none g2 rfl (by decide) (by decide) mz_nl_n mz_nl_n hIg2 (fun _ _ _ => rfl)
def fw_X6_undoAct (x : mm_X) (q0 : Nat) : Nat → Nat → Prop := fun k j => k = q0 ∨ ((q0 + 1) ≤ k ∧ k < (q0 + 1) + 9)
theorem c_X6_undoAct {d : Nat} (hd : 3 ≤ d) {x : mm_X} (hx : mk_x x) {g : mz_G} (hI : mz_inv g) {q0 : Nat} (h_q0 : kd_story q0) {Q : (Option Value ⊕ Nat) → mm_H → Prop} (hQ : ∀ (g1 : mz_G), mz_inv g1 → mz_fr (fw_X6_undoAct x q0) g g1 → Q (.inl none) (mz_mk g1 x)) : mm_C d 72 [.ref q0] (mz_mk g x) Q := by
  have kn_q0 := kn_story h_q0
  refine ⟨mmX6_undoAct, [some (.ref q0)], rfl, rfl, ?_⟩
  refine mm_g 1 (pc1 := 1) (lo1 := [some (.ref q0)]) (st1 := [.ref q0]) (H1 := mz_mk g x) rfl ?_
  refine mz_gI rfl fd_6_26 (by decide) (kc_story h_q0 _) hI (kb_story_3 h_q0) (fun v1 e_v1 l_v1 u_v1 => ?_)
  refine mz_if_le (tgt := 43) rfl rfl (mz_rg l_v1 u_v1) (fun c4_1 => ?_) (fun c4_1 => ?_)
  · skip
    exact mm_rt rfl rfl (hQ _ hI (fun _ _ _ => rfl))
  · skip
    refine mm_g 2 (pc1 := 9) (lo1 := [some (.ref q0)]) (st1 := [.ref q0, .ref q0]) (H1 := mz_mk g x) rfl ?_
    refine mz_fgI (v := v1) rfl fd_6_26 (by decide) (kc_story h_q0 _) e_v1 ?_
    refine mm_g 1 (pc1 := 13) (lo1 := [some (.ref q0)]) (st1 := [.int (Int32.ofInt 1), .int (Int32.ofInt v1), .ref q0]) (H1 := mz_mk g x) rfl ?_
    refine mz_isub rfl ?_
    refine mz_pI rfl fd_6_26 (kc_story h_q0 _) hI (kb_story_3 h_q0) (by omega) (by omega) (fun g2 hIg2 hug2 => ?_)
    refine mm_g 1 (pc1 := 18) (lo1 := [some (.ref q0)]) (st1 := [.ref q0]) (H1 := mz_mk g2 x) rfl ?_
    refine mz_fgR (v := (q0 + 1)) rfl fd_6_12 (by decide) (kc_story h_q0 _) (kr_story_0 h_q0 _ _ _) ?_
    refine mm_g 1 (pc1 := 22) (lo1 := [some (.ref q0)]) (st1 := [.ref q0, .ref (q0 + 1)]) (H1 := mz_mk g2 x) rfl ?_
    refine mz_fgR (v := (q0 + 10)) rfl fd_6_18 (by decide) (kc_story h_q0 _) (kr_story_1 h_q0 _ _ _) ?_
    refine mm_g 1 (pc1 := 26) (lo1 := [some (.ref q0)]) (st1 := [.ref q0, .ref (q0 + 10), .ref (q0 + 1)]) (H1 := mz_mk g2 x) rfl ?_
    refine mz_gI rfl fd_6_22 (by decide) (kc_story h_q0 _) hIg2 (kb_story_2 h_q0) (fun v3 e_v3 l_v3 u_v3 => ?_)
    refine mm_g 1 (pc1 := 30) (lo1 := [some (.ref q0)]) (st1 := [.ref q0, .int (Int32.ofInt v3), .ref (q0 + 10), .ref (q0 + 1)]) (H1 := mz_mk g2 x) rfl ?_
    refine mz_fgI (v := (v1 - 1)) rfl fd_6_26 (by decide) (kc_story h_q0 _) (show g2 q0 3 = (v1 - 1) from hug2.1) ?_
    refine mz_iadd rfl ?_
    refine mz_bip rfl bip_40 ?_
    refine mz_iremq rfl ⟨by omega, by omega⟩ ⟨by decide, by decide⟩ (by omega) (by omega) (fun v4 e_v4 l_v4 w_v4 z_v4 => ?_)
    have u_v4 : v4 ≤ 39 := by omega
    refine mz_bip rfl bip_25 ?_
    refine mz_imul rfl ?_
    refine mz_cv rfl mt_6_64 (by decide) (kc_tks (ks_story_0 h_q0) _) rfl (Nat.le_of_ble_eq_true rfl) (by omega) (c_X9_takeFrom (by omega) hx hIg2 (ks_story_0 h_q0) (ka_story_1 h_q0 _) (by decide) (kba_story_1 h_q0) (by omega) (by omega) (fun g5 hIg5 hfg5 => ⟨_, rfl, ?_⟩))
    show mm_W d mmX6_undoAct 43 [some (.ref q0)] [] (mz_mk g5 x) Q
    exact mm_rt rfl rfl (hQ _ hIg5 (fun k j hk => ((hfg5 k j (fun h => hk (Or.inr h))).trans (hug2.2 k j (fun h => hk (Or.inl h.1))))))
def fw_X11_undo (x : mm_X) : Nat → Nat → Prop := fun k j => k = 86 ∨ (87 ≤ k ∧ k < 96)
theorem c_X11_undo {d : Nat} (hd : 4 ≤ d) {x : mm_X} (hx : mk_x x) {g : mz_G} (hI : mz_inv g) {Q : (Option Value ⊕ Nat) → mm_H → Prop} (hQ : ∀ (r : Int) (g1 : mz_G), mz_inv g1 → mz_fr (fw_X11_undo x) g g1 → (-1) ≤ r → r ≤ 40 → Q (.inl (some (.int (Int32.ofInt r)))) (mz_mk g1 x)) : mm_C d 138 [.ref 0] (mz_mk g x) Q := by
  have kx := kn_x hx
  refine ⟨mmX11_undo, [some (.ref 0)], rfl, rfl, ?_⟩
  refine mm_g 1 (pc1 := 1) (lo1 := [some (.ref 0)]) (st1 := [.ref 0]) (H1 := mz_mk g x) rfl ?_
  refine mz_fgR (v := 86) rfl fd_11_37 (by decide) (sc_0 _) (rf_0_5 _ _ _) ?_
  refine mz_cv rfl mt_11_177 (by decide) (sc_86 _) rfl (Nat.le_of_ble_eq_true rfl) (by omega) (c_X6_actsKept (by omega) hx hI kp_story_86 (fun v1 l_v1 u_v1 => ⟨_, rfl, ?_⟩))
  show mm_W d mmX11_undo 7 [some (.ref 0)] [.int (Int32.ofInt v1)] (mz_mk g x) Q
  refine mz_if_ne (tgt := 12) rfl rfl (mz_rg l_v1 u_v1) (fun c7_1 => ?_) (fun c7_1 => ?_)
  · skip
    refine mm_g 1 (pc1 := 13) (lo1 := [some (.ref 0)]) (st1 := [.ref 0]) (H1 := mz_mk g x) rfl ?_
    refine mz_fgR (v := 86) rfl fd_11_37 (by decide) (sc_0 _) (rf_0_5 _ _ _) ?_
    refine mz_cv rfl mt_11_276 (by decide) (sc_86 _) rfl (Nat.le_of_ble_eq_true rfl) (by omega) (c_X6_undoAct (by omega) hx hI kp_story_86 (fun g2 hIg2 hfg2 => ⟨_, rfl, ?_⟩))
    show mm_W d mmX11_undo 19 [some (.ref 0)] [] (mz_mk g2 x) Q
    refine mm_g 1 (pc1 := 20) (lo1 := [some (.ref 0)]) (st1 := [.ref 0]) (H1 := mz_mk g2 x) rfl ?_
    refine mz_fgR (v := 86) rfl fd_11_37 (by decide) (sc_0 _) (rf_0_5 _ _ _) ?_
    refine mz_cv rfl mt_11_177 (by decide) (sc_86 _) rfl (Nat.le_of_ble_eq_true rfl) (by omega) (c_X6_actsKept (by omega) hx hIg2 kp_story_86 (fun v3 l_v3 u_v3 => ⟨_, rfl, ?_⟩))
    show mm_W d mmX11_undo 26 [some (.ref 0)] [.int (Int32.ofInt v3)] (mz_mk g2 x) Q
    exact mm_rt rfl rfl (hQ _ _ hIg2 (fun k j hk => (hfg2 k j (fun h => hk (Or.elim h (fun h => (Or.inl h)) (fun h => (Or.inr h)))))) (by omega) (by omega))
  · skip
    refine mm_g 1 (pc1 := 11) (lo1 := [some (.ref 0)]) (st1 := [.int (Int32.ofInt (-1))]) (H1 := mz_mk g x) rfl ?_
    exact mm_rt rfl rfl (hQ _ _ hI (fun _ _ _ => rfl) (by decide) (by decide))
theorem c_X11_isAhead {d : Nat} (hd : 1 ≤ d) {x : mm_X} (hx : mk_x x) {g : mz_G} (hI : mz_inv g) {a1 : Int} (l_a1 : (-2147483648) ≤ a1) (u_a1 : a1 ≤ 2147483647) {Q : (Option Value ⊕ Nat) → mm_H → Prop} (hQ : ∀ (r : Int), 0 ≤ r → r ≤ 1 → Q (.inl (some (.int (Int32.ofInt r)))) (mz_mk g x)) : mm_C d 173 [.int (Int32.ofInt a1)] (mz_mk g x) Q := by
  have kx := kn_x hx
  refine ⟨mmX11_isAhead, [some (.int (Int32.ofInt a1))], rfl, rfl, ?_⟩
  refine mm_g 1 (pc1 := 1) (lo1 := [some (.int (Int32.ofInt a1))]) (st1 := [.int (Int32.ofInt a1)]) (H1 := mz_mk g x) rfl ?_
  refine mz_if_lt (tgt := 14) rfl rfl (mz_rg l_a1 u_a1) (fun c1_0 => ?_) (fun c1_0 => ?_)
  · skip
    refine mm_g 1 (pc1 := 15) (lo1 := [some (.int (Int32.ofInt a1))]) (st1 := [.int (Int32.ofInt 0)]) (H1 := mz_mk g x) rfl ?_
    exact mz_rtZ rfl (by decide) (by omega) (hQ _ (by decide) (by decide))
  · skip
    refine mm_g 1 (pc1 := 5) (lo1 := [some (.int (Int32.ofInt a1))]) (st1 := [.int (Int32.ofInt a1)]) (H1 := mz_mk g x) rfl ?_
    refine mz_bip rfl bip_60 ?_
    refine mz_ic_gt (tgt := 14) rfl rfl (mz_rg l_a1 u_a1) ⟨by decide, by decide⟩ (fun c7_0 => ?_) (fun c7_0 => ?_)
    · skip
      refine mm_g 1 (pc1 := 15) (lo1 := [some (.int (Int32.ofInt a1))]) (st1 := [.int (Int32.ofInt 0)]) (H1 := mz_mk g x) rfl ?_
      exact mz_rtZ rfl (by decide) (by omega) (hQ _ (by decide) (by decide))
    · skip
      refine mm_g 1 (pc1 := 11) (lo1 := [some (.int (Int32.ofInt a1))]) (st1 := [.int (Int32.ofInt 1)]) (H1 := mz_mk g x) rfl ?_
      refine mz_gt (tgt := 15) rfl rfl ?_
      exact mz_rtZ rfl (by decide) (by omega) (hQ _ (by decide) (by decide))
def fw_X11_growBy (x : mm_X) (q1 : Nat) (a2 : Int) : Nat → Nat → Prop := fun k j => k = q1 ∨ k = ((x.1 + 36) + 2) ∨ k = ((x.1 + 36) + 3)
theorem c_X11_growBy {d : Nat} (hd : 14 ≤ d) {x : mm_X} (hx : mk_x x) {g : mz_G} (hI : mz_inv g) {q1 : Nat} (h_q1 : kd_trunk q1) {a2 : Int} (l_a2 : (-2147483648) ≤ a2) (u_a2 : a2 ≤ 2147483647) {Q : (Option Value ⊕ Nat) → mm_H → Prop} (hQ : ∀ (g1 : mz_G), mz_inv g1 → mz_fr (fw_X11_growBy x q1 a2) g g1 → Q (.inl none) (mz_mk g1 x)) : mm_C d 146 [.ref 0, .ref q1, .int (Int32.ofInt a2)] (mz_mk g x) Q := by
  have kn_q1 := kn_trunk h_q1
  have kx := kn_x hx
  refine ⟨mmX11_growBy, [some (.ref 0), some (.ref q1), some (.int (Int32.ofInt a2)), none], rfl, rfl, ?_⟩
  refine mm_g 1 (pc1 := 1) (lo1 := [some (.ref 0), some (.ref q1), some (.int (Int32.ofInt a2)), none]) (st1 := [.ref 0]) (H1 := mz_mk g x) rfl ?_
  refine mz_fgR (v := 86) rfl fd_11_37 (by decide) (sc_0 _) (rf_0_5 _ _ _) ?_
  refine mz_fgR (v := 87) rfl fd_11_158 (by decide) (sc_86 _) (rf_86_0 _ _ _) ?_
  refine mz_gI rfl fd_11_161 (by decide) (sc_87 _) hI bd_87_3 (fun v1 e_v1 l_v1 u_v1 => ?_)
  refine mm_g 1 (pc1 := 11) (lo1 := [some (.ref 0), some (.ref q1), some (.int (Int32.ofInt a2)), none]) (st1 := [.int (Int32.ofInt a2), .int (Int32.ofInt v1)]) (H1 := mz_mk g x) rfl ?_
  refine mz_iadd_w rfl (fun v2 _ hwv2 => ?_)
  have l_v2 := hwv2.1
  have u_v2 := hwv2.2
  refine mm_g 2 (pc1 := 14) (lo1 := [some (.ref 0), some (.ref q1), some (.int (Int32.ofInt a2)), some (.int (Int32.ofInt v2))]) (st1 := [.ref 0]) (H1 := mz_mk g x) rfl ?_
  refine mz_fgR (v := x.1) rfl fd_11_16 (by decide) (sc_0 _) rfl ?_
  refine mm_g 3 (pc1 := 20) (lo1 := [some (.ref 0), some (.ref q1), some (.int (Int32.ofInt a2)), some (.int (Int32.ofInt v2))]) (st1 := [.ref 0, .int (Int32.ofInt v2), .ref q1, .ref x.1]) (H1 := mz_mk g x) rfl ?_
  refine mz_fgR (v := x.1) rfl fd_11_16 (by decide) (sc_0 _) rfl ?_
  refine mm_g 1 (pc1 := 24) (lo1 := [some (.ref 0), some (.ref q1), some (.int (Int32.ofInt a2)), some (.int (Int32.ofInt v2))]) (st1 := [.int (Int32.ofInt v2), .ref x.1, .int (Int32.ofInt v2), .ref q1, .ref x.1]) (H1 := mz_mk g x) rfl ?_
  refine mz_cv rfl mt_11_164 (by decide) (kc_load (kx_1 hx) _) rfl (Nat.le_of_ble_eq_true rfl) (by omega) (c_X1_heatOf (by omega) hx hI (kx_1 hx) l_v2 u_v2 (fun v3 l_v3 u_v3 => ⟨_, rfl, ?_⟩))
  show mm_W d mmX11_growBy 27 [some (.ref 0), some (.ref q1), some (.int (Int32.ofInt a2)), some (.int (Int32.ofInt v2))] [.int (Int32.ofInt v3), .int (Int32.ofInt v2), .ref q1, .ref x.1] (mz_mk g x) Q
  refine mz_cv rfl mt_11_312 (by decide) (kc_load (kx_1 hx) _) rfl (Nat.le_of_ble_eq_true rfl) (by omega) (c_X1_grow (by omega) hx hI (kx_1 hx) h_q1 l_v2 u_v2 l_v3 u_v3 (fun g4 hIg4 hfg4 => ⟨_, rfl, ?_⟩))
  show mm_W d mmX11_growBy 30 [some (.ref 0), some (.ref q1), some (.int (Int32.ofInt a2)), some (.int (Int32.ofInt v2))] [] (mz_mk g4 x) Q
  exact mm_rt rfl rfl (hQ _ hIg4 (fun k j hk => (hfg4 k j (fun h => hk (Or.elim h (fun h => (Or.inl h)) (fun h => (Or.elim h (fun h => (Or.inr (Or.inl h))) (fun h => (Or.inr (Or.inr h))))))))))
def fl_X11_growProbe_29 (x : mm_X) (a1 : Int) (a2 : Int) (a3 : Int) : Nat → Nat → Prop := fun k j => k = 122 ∨ k = ((x.1 + 36) + 2) ∨ k = ((x.1 + 36) + 3)
def fw_X11_growProbe (x : mm_X) (a1 : Int) (a2 : Int) (a3 : Int) : Nat → Nat → Prop := fun k j => k = 122 ∨ k = ((x.1 + 36) + 2) ∨ k = ((x.1 + 36) + 3)
theorem c_X11_growProbe {d : Nat} (hd : 15 ≤ d) {x : mm_X} (hx : mk_x x) {g : mz_G} (hI : mz_inv g) {a1 : Int} (l_a1 : (-2147483648) ≤ a1) (u_a1 : a1 ≤ 2147483647) {a2 : Int} (l_a2 : (-2147483648) ≤ a2) (u_a2 : a2 ≤ 2147483647) {a3 : Int} (l_a3 : (-2147483648) ≤ a3) (u_a3 : a3 ≤ 2147483647) {Q : (Option Value ⊕ Nat) → mm_H → Prop} (hQ : ∀ (g1 : mz_G), mz_inv g1 → mz_fr (fw_X11_growProbe x a1 a2 a3) g g1 → Q (.inl none) (mz_mk g1 x)) : mm_C d 147 [.ref 0, .int (Int32.ofInt a1), .int (Int32.ofInt a2), .int (Int32.ofInt a3)] (mz_mk g x) Q := by
  have kx := kn_x hx
  refine ⟨mmX11_growProbe, [some (.ref 0), some (.int (Int32.ofInt a1)), some (.int (Int32.ofInt a2)), some (.int (Int32.ofInt a3)), none], rfl, rfl, ?_⟩
  refine mm_g 1 (pc1 := 1) (lo1 := [some (.ref 0), some (.int (Int32.ofInt a1)), some (.int (Int32.ofInt a2)), some (.int (Int32.ofInt a3)), none]) (st1 := [.ref 0]) (H1 := mz_mk g x) rfl ?_
  refine mz_fgR (v := 122) rfl fd_11_65 (by decide) (sc_0 _) (rf_0_10 _ _ _) ?_
  refine mm_g 1 (pc1 := 5) (lo1 := [some (.ref 0), some (.int (Int32.ofInt a1)), some (.int (Int32.ofInt a2)), some (.int (Int32.ofInt a3)), none]) (st1 := [.ref 0, .ref 122]) (H1 := mz_mk g x) rfl ?_
  refine mz_fgR (v := 86) rfl fd_11_37 (by decide) (sc_0 _) (rf_0_5 _ _ _) ?_
  refine mz_fgR (v := 87) rfl fd_11_158 (by decide) (sc_86 _) (rf_86_0 _ _ _) ?_
  refine mm_g 1 (pc1 := 12) (lo1 := [some (.ref 0), some (.int (Int32.ofInt a1)), some (.int (Int32.ofInt a2)), some (.int (Int32.ofInt a3)), none]) (st1 := [.int (Int32.ofInt a1), .ref 87, .ref 122]) (H1 := mz_mk g x) rfl ?_
  refine mz_cv rfl mt_11_192 (by decide) (sc_87 _) rfl (Nat.le_of_ble_eq_true rfl) (by omega) (c_X9_get (by omega) hx hI kp_tks_87 l_a1 u_a1 (fun u1 k_u1 hp2 => ⟨_, rfl, ?_⟩))
  show mm_W d mmX11_growProbe 15 [some (.ref 0), some (.int (Int32.ofInt a1)), some (.int (Int32.ofInt a2)), some (.int (Int32.ofInt a3)), none] [.ref u1, .ref 122] (mz_mk g x) Q
  refine mz_cv rfl mt_11_297 (by decide) (sc_122 _) rfl (Nat.le_of_ble_eq_true rfl) (by omega) (c_X8_becomeAs (by omega) hx hI kp_trunk_122 k_u1 (fun g3 hIg3 hfg3 => ⟨_, rfl, ?_⟩))
  show mm_W d mmX11_growProbe 18 [some (.ref 0), some (.int (Int32.ofInt a1)), some (.int (Int32.ofInt a2)), some (.int (Int32.ofInt a3)), none] [] (mz_mk g3 x) Q
  refine mm_g 1 (pc1 := 19) (lo1 := [some (.ref 0), some (.int (Int32.ofInt a1)), some (.int (Int32.ofInt a2)), some (.int (Int32.ofInt a3)), none]) (st1 := [.ref 0]) (H1 := mz_mk g3 x) rfl ?_
  refine mz_fgR (v := 122) rfl fd_11_65 (by decide) (sc_0 _) (rf_0_10 _ _ _) ?_
  refine mm_g 1 (pc1 := 23) (lo1 := [some (.ref 0), some (.int (Int32.ofInt a1)), some (.int (Int32.ofInt a2)), some (.int (Int32.ofInt a3)), none]) (st1 := [.int (Int32.ofInt a2), .ref 122]) (H1 := mz_mk g3 x) rfl ?_
  refine mz_pI rfl fd_11_234 (sc_122 _) hIg3 bd_122_2 (by omega) (by omega) (fun g4 hIg4 hug4 => ?_)
  refine mm_g 2 (pc1 := 29) (lo1 := [some (.ref 0), some (.int (Int32.ofInt a1)), some (.int (Int32.ofInt a2)), some (.int (Int32.ofInt a3)), some (.int (Int32.ofInt 0))]) (st1 := []) (H1 := mz_mk g4 x) rfl ?_
  have L9 : ∀ n8 : Nat, ∀ (v5 : Int) (g6 : mz_G), (2147483647 - v5).toNat = n8 → 0 ≤ v5 → v5 ≤ 2147483647 → mz_inv g6 → mz_fr (fl_X11_growProbe_29 x a1 a2 a3) g4 g6 → mm_W d mmX11_growProbe 29 [some (.ref 0), some (.int (Int32.ofInt a1)), some (.int (Int32.ofInt a2)), some (.int (Int32.ofInt a3)), some (.int (Int32.ofInt v5))] [] (mz_mk g6 x) Q := by
    intro n8
    induction n8 using Nat.strongRecOn with
    | ind n8 ih7 =>
    intro v5 g6 hmn8 l_v5 u_v5 hIg6 hfg6
    refine mm_g 2 (pc1 := 32) (lo1 := [some (.ref 0), some (.int (Int32.ofInt a1)), some (.int (Int32.ofInt a2)), some (.int (Int32.ofInt a3)), some (.int (Int32.ofInt v5))]) (st1 := [.int (Int32.ofInt a3), .int (Int32.ofInt v5)]) (H1 := mz_mk g6 x) rfl ?_
    refine mz_ic_ge (tgt := 51) rfl rfl (mz_rg l_v5 u_v5) (mz_rg l_a3 u_a3) (fun c32_9 => ?_) (fun c32_9 => ?_)
    · skip
      exact mm_rt rfl rfl (hQ _ hIg6 (fun k j hk => ((hfg6 k j (fun h => hk (Or.elim h (fun h => (Or.inl h)) (fun h => (Or.elim h (fun h => (Or.inr (Or.inl h))) (fun h => (Or.inr (Or.inr h)))))))).trans ((hug4.2 k j (fun h => hk (Or.inl h.1))).trans (hfg3 k j (fun h => hk (Or.inl h)))))))
    · skip
      refine mm_g 2 (pc1 := 37) (lo1 := [some (.ref 0), some (.int (Int32.ofInt a1)), some (.int (Int32.ofInt a2)), some (.int (Int32.ofInt a3)), some (.int (Int32.ofInt v5))]) (st1 := [.ref 0, .ref 0]) (H1 := mz_mk g6 x) rfl ?_
      refine mz_fgR (v := 122) rfl fd_11_65 (by decide) (sc_0 _) (rf_0_10 _ _ _) ?_
      refine mm_g 1 (pc1 := 42) (lo1 := [some (.ref 0), some (.int (Int32.ofInt a1)), some (.int (Int32.ofInt a2)), some (.int (Int32.ofInt a3)), some (.int (Int32.ofInt v5))]) (st1 := [.int (Int32.ofInt v5), .ref 122, .ref 0]) (H1 := mz_mk g6 x) rfl ?_
      refine mz_cv rfl mt_11_301 (by decide) (sc_0 _) rfl (Nat.le_of_ble_eq_true rfl) (by omega) (c_X11_growBy (by omega) hx hIg6 kp_trunk_122 (by omega) (by omega) (fun g10 hIg10 hfg10 => ⟨_, rfl, ?_⟩))
      show mm_W d mmX11_growProbe 45 [some (.ref 0), some (.int (Int32.ofInt a1)), some (.int (Int32.ofInt a2)), some (.int (Int32.ofInt a3)), some (.int (Int32.ofInt v5))] [] (mz_mk g10 x) Q
      refine mz_iincR (v := v5) (lo2 := [some (.ref 0), some (.int (Int32.ofInt a1)), some (.int (Int32.ofInt a2)), some (.int (Int32.ofInt a3)), some (.int (Int32.ofInt (v5 + 1)))]) rfl rfl rfl (Nat.le_of_ble_eq_true rfl) rfl ?_
      refine mz_gt (tgt := 29) rfl rfl ?_
      exact ih7 ((2147483647 - (v5 + 1)).toNat) (by omega) (v5 + 1) g10 rfl (by omega) (by omega) hIg10 (fun k j hk => ((hfg10 k j (fun h => hk (Or.elim h (fun h => (Or.inl h)) (fun h => (Or.elim h (fun h => (Or.inr (Or.inl h))) (fun h => (Or.inr (Or.inr h)))))))).trans (hfg6 k j (fun h => hk (Or.elim h (fun h => (Or.inl h)) (fun h => (Or.elim h (fun h => (Or.inr (Or.inl h))) (fun h => (Or.inr (Or.inr h))))))))))
  exact L9 _ 0 g4 rfl (by decide) (by decide) hIg4 (fun _ _ _ => rfl)
def fl_X11_nearestToBlend_6 (x : mm_X) : Nat → Nat → Prop := fun k j => k = 117
def fw_X11_nearestToBlend (x : mm_X) : Nat → Nat → Prop := fun k j => k = 117
theorem c_X11_nearestToBlend {d : Nat} (hd : 13 ≤ d) {x : mm_X} (hx : mk_x x) {g : mz_G} (hI : mz_inv g) {Q : (Option Value ⊕ Nat) → mm_H → Prop} (hQ : ∀ (r : Int) (g1 : mz_G), mz_inv g1 → mz_fr (fw_X11_nearestToBlend x) g g1 → (-1) ≤ r → r ≤ 16 → Q (.inl (some (.int (Int32.ofInt r)))) (mz_mk g1 x)) : mm_C d 140 [.ref 0] (mz_mk g x) Q := by
  have kx := kn_x hx
  refine ⟨mmX11_nearestToBlend, [some (.ref 0), none, none, none, none], rfl, rfl, ?_⟩
  refine mm_g 6 (pc1 := 6) (lo1 := [some (.ref 0), some (.int (Int32.ofInt (-1))), some (.int (Int32.ofInt 0)), some (.int (Int32.ofInt 0)), none]) (st1 := []) (H1 := mz_mk g x) rfl ?_
  have L8 : ∀ n7 : Nat, ∀ (v1 : Int) (v2 : Int) (v3 : Int) (o4 : Option Value) (g5 : mz_G), (8 - v3).toNat = n7 → (-1) ≤ v1 → v1 ≤ 16 → (-2147483648) ≤ v2 → v2 ≤ 2147483647 → 0 ≤ v3 → v3 ≤ 8 → mz_nl o4 → mz_inv g5 → mz_fr (fl_X11_nearestToBlend_6 x) g g5 → mm_W d mmX11_nearestToBlend 6 [some (.ref 0), some (.int (Int32.ofInt v1)), some (.int (Int32.ofInt v2)), some (.int (Int32.ofInt v3)), o4] [] (mz_mk g5 x) Q := by
    intro n7
    induction n7 using Nat.strongRecOn with
    | ind n7 ih6 =>
    intro v1 v2 v3 o4 g5 hmn7 l_v1 u_v1 l_v2 u_v2 l_v3 u_v3 h_o4 hIg5 hfg5
    refine mm_g 2 (pc1 := 8) (lo1 := [some (.ref 0), some (.int (Int32.ofInt v1)), some (.int (Int32.ofInt v2)), some (.int (Int32.ofInt v3)), o4]) (st1 := [.ref 0, .int (Int32.ofInt v3)]) (H1 := mz_mk g5 x) rfl ?_
    refine mz_fgR (v := x.1) rfl fd_11_16 (by decide) (sc_0 _) rfl ?_
    refine mz_fgR (v := (x.1 + 1)) rfl fd_11_135 (by decide) (kc_load (kx_1 hx) _) (kr_load_0 (kx_1 hx) _ _ _) ?_
    refine mz_cv rfl mt_11_152 (by decide) (kc_words (ks_load_0 (kx_1 hx)) _) rfl (Nat.le_of_ble_eq_true rfl) (by omega) (c_X10_many (by omega) hx hIg5 (ks_load_0 (kx_1 hx)) (fun v9 l_v9 u_v9 => ⟨_, rfl, ?_⟩))
    show mm_W d mmX11_nearestToBlend 17 [some (.ref 0), some (.int (Int32.ofInt v1)), some (.int (Int32.ofInt v2)), some (.int (Int32.ofInt v3)), o4] [.int (Int32.ofInt v9), .int (Int32.ofInt v3)] (mz_mk g5 x) Q
    refine mz_ic_ge (tgt := 66) rfl rfl (mz_rg l_v3 u_v3) (mz_rg l_v9 u_v9) (fun c17_9 => ?_) (fun c17_9 => ?_)
    · skip
      refine mm_g 1 (pc1 := 67) (lo1 := [some (.ref 0), some (.int (Int32.ofInt v1)), some (.int (Int32.ofInt v2)), some (.int (Int32.ofInt v3)), o4]) (st1 := [.int (Int32.ofInt v1)]) (H1 := mz_mk g5 x) rfl ?_
      exact mm_rt rfl rfl (hQ _ _ hIg5 (fun k j hk => (hfg5 k j (fun h => hk h))) (by omega) (by omega))
    · skip
      refine mm_g 1 (pc1 := 21) (lo1 := [some (.ref 0), some (.int (Int32.ofInt v1)), some (.int (Int32.ofInt v2)), some (.int (Int32.ofInt v3)), o4]) (st1 := [.ref 0]) (H1 := mz_mk g5 x) rfl ?_
      refine mz_fgR (v := 116) rfl fd_11_51 (by decide) (sc_0 _) (rf_0_8 _ _ _) ?_
      refine mm_g 1 (pc1 := 25) (lo1 := [some (.ref 0), some (.int (Int32.ofInt v1)), some (.int (Int32.ofInt v2)), some (.int (Int32.ofInt v3)), o4]) (st1 := [.ref 0, .ref 116]) (H1 := mz_mk g5 x) rfl ?_
      refine mz_fgR (v := 133) rfl fd_11_84 (by decide) (sc_0 _) (rf_0_13 _ _ _) ?_
      refine mm_g 1 (pc1 := 29) (lo1 := [some (.ref 0), some (.int (Int32.ofInt v1)), some (.int (Int32.ofInt v2)), some (.int (Int32.ofInt v3)), o4]) (st1 := [.ref 0, .ref 133, .ref 116]) (H1 := mz_mk g5 x) rfl ?_
      refine mz_fgR (v := x.1) rfl fd_11_16 (by decide) (sc_0 _) rfl ?_
      refine mz_fgR (v := (x.1 + 1)) rfl fd_11_135 (by decide) (kc_load (kx_1 hx) _) (kr_load_0 (kx_1 hx) _ _ _) ?_
      refine mm_g 1 (pc1 := 36) (lo1 := [some (.ref 0), some (.int (Int32.ofInt v1)), some (.int (Int32.ofInt v2)), some (.int (Int32.ofInt v3)), o4]) (st1 := [.int (Int32.ofInt v3), .ref (x.1 + 1), .ref 133, .ref 116]) (H1 := mz_mk g5 x) rfl ?_
      refine mz_cv rfl mt_11_203 (by decide) (kc_words (ks_load_0 (kx_1 hx)) _) rfl (Nat.le_of_ble_eq_true rfl) (by omega) (c_X10_of (by omega) hx hIg5 (ks_load_0 (kx_1 hx)) (by omega) (by omega) (fun u10 k_u10 hp11 => ⟨_, rfl, ?_⟩))
      show mm_W d mmX11_nearestToBlend 39 [some (.ref 0), some (.int (Int32.ofInt v1)), some (.int (Int32.ofInt v2)), some (.int (Int32.ofInt v3)), o4] [.ref u10, .ref 133, .ref 116] (mz_mk g5 x) Q
      refine mz_cv rfl mt_11_293 (by decide) (sc_116 _) rfl (Nat.le_of_ble_eq_true rfl) (by omega) (c_X2_changes (by omega) hx hIg5 kp_let_133 k_u10 (fun v12 g13 hIg13 hfg13 l_v12 u_v12 => ⟨_, rfl, ?_⟩))
      show mm_W d mmX11_nearestToBlend 42 [some (.ref 0), some (.int (Int32.ofInt v1)), some (.int (Int32.ofInt v2)), some (.int (Int32.ofInt v3)), o4] [.int (Int32.ofInt v12)] (mz_mk g13 x) Q
      refine mm_g 3 (pc1 := 46) (lo1 := [some (.ref 0), some (.int (Int32.ofInt v1)), some (.int (Int32.ofInt v2)), some (.int (Int32.ofInt v3)), some (.int (Int32.ofInt v12))]) (st1 := [.int (Int32.ofInt (-1)), .int (Int32.ofInt v1)]) (H1 := mz_mk g13 x) rfl ?_
      refine mz_ic_eq (tgt := 55) rfl rfl (mz_rg l_v1 u_v1) ⟨by decide, by decide⟩ (fun c46_13 => ?_) (fun c46_13 => ?_)
      · skip
        refine mm_g 4 (pc1 := 60) (lo1 := [some (.ref 0), some (.int (Int32.ofInt v3)), some (.int (Int32.ofInt v12)), some (.int (Int32.ofInt v3)), some (.int (Int32.ofInt v12))]) (st1 := []) (H1 := mz_mk g13 x) rfl ?_
        refine mz_iincR (v := v3) (lo2 := [some (.ref 0), some (.int (Int32.ofInt v3)), some (.int (Int32.ofInt v12)), some (.int (Int32.ofInt (v3 + 1))), some (.int (Int32.ofInt v12))]) rfl rfl rfl (Nat.le_of_ble_eq_true rfl) rfl ?_
        refine mz_gt (tgt := 6) rfl rfl ?_
        exact ih6 ((8 - (v3 + 1)).toNat) (by omega) v3 v12 (v3 + 1) (some (.int (Int32.ofInt v12))) g13 rfl (by omega) (by omega) (by omega) (by omega) (by omega) (by omega) (mz_nl_i _) hIg13 (fun k j hk => ((hfg13 k j (fun h => hk h)).trans (hfg5 k j (fun h => hk h))))
      · skip
        refine mm_g 2 (pc1 := 52) (lo1 := [some (.ref 0), some (.int (Int32.ofInt v1)), some (.int (Int32.ofInt v2)), some (.int (Int32.ofInt v3)), some (.int (Int32.ofInt v12))]) (st1 := [.int (Int32.ofInt v2), .int (Int32.ofInt v12)]) (H1 := mz_mk g13 x) rfl ?_
        refine mz_ic_ge (tgt := 60) rfl rfl (mz_rg l_v12 u_v12) (mz_rg l_v2 u_v2) (fun c52_13 => ?_) (fun c52_13 => ?_)
        · skip
          refine mz_iincR (v := v3) (lo2 := [some (.ref 0), some (.int (Int32.ofInt v1)), some (.int (Int32.ofInt v2)), some (.int (Int32.ofInt (v3 + 1))), some (.int (Int32.ofInt v12))]) rfl rfl rfl (Nat.le_of_ble_eq_true rfl) rfl ?_
          refine mz_gt (tgt := 6) rfl rfl ?_
          exact ih6 ((8 - (v3 + 1)).toNat) (by omega) v1 v2 (v3 + 1) (some (.int (Int32.ofInt v12))) g13 rfl (by omega) (by omega) (by omega) (by omega) (by omega) (by omega) (mz_nl_i _) hIg13 (fun k j hk => ((hfg13 k j (fun h => hk h)).trans (hfg5 k j (fun h => hk h))))
        · skip
          refine mm_g 4 (pc1 := 60) (lo1 := [some (.ref 0), some (.int (Int32.ofInt v3)), some (.int (Int32.ofInt v12)), some (.int (Int32.ofInt v3)), some (.int (Int32.ofInt v12))]) (st1 := []) (H1 := mz_mk g13 x) rfl ?_
          refine mz_iincR (v := v3) (lo2 := [some (.ref 0), some (.int (Int32.ofInt v3)), some (.int (Int32.ofInt v12)), some (.int (Int32.ofInt (v3 + 1))), some (.int (Int32.ofInt v12))]) rfl rfl rfl (Nat.le_of_ble_eq_true rfl) rfl ?_
          refine mz_gt (tgt := 6) rfl rfl ?_
          exact ih6 ((8 - (v3 + 1)).toNat) (by omega) v3 v12 (v3 + 1) (some (.int (Int32.ofInt v12))) g13 rfl (by omega) (by omega) (by omega) (by omega) (by omega) (by omega) (mz_nl_i _) hIg13 (fun k j hk => ((hfg13 k j (fun h => hk h)).trans (hfg5 k j (fun h => hk h))))
  exact L8 _ (-1) 0 0 none g rfl (by decide) (by decide) (by decide) (by decide) (by decide) (by decide) mz_nl_n hI (fun _ _ _ => rfl)
def fw_X11_then (x : mm_X) (a1 : Int) (a2 : Int) (a3 : Int) : Nat → Nat → Prop := fun k j => k = 122 ∨ k = ((x.1 + 36) + 2) ∨ k = ((x.1 + 36) + 3) ∨ k = 133 ∨ k = 134 ∨ k = 117
theorem c_X11_then {d : Nat} (hd : 16 ≤ d) {x : mm_X} (hx : mk_x x) {g : mz_G} (hI : mz_inv g) {a1 : Int} (l_a1 : (-2147483648) ≤ a1) (u_a1 : a1 ≤ 2147483647) {a2 : Int} (l_a2 : (-2147483648) ≤ a2) (u_a2 : a2 ≤ 2147483647) {a3 : Int} (l_a3 : (-2147483648) ≤ a3) (u_a3 : a3 ≤ 2147483647) {Q : (Option Value ⊕ Nat) → mm_H → Prop} (hQ : ∀ (r : Int) (g1 : mz_G), mz_inv g1 → mz_fr (fw_X11_then x a1 a2 a3) g g1 → (-2147483648) ≤ r → r ≤ 2147483647 → Q (.inl (some (.int (Int32.ofInt r)))) (mz_mk g1 x)) (hX : ∀ E, Q (.inr E) (mz_mk g (mz_tx x))) : mm_C d 139 [.ref 0, .int (Int32.ofInt a1), .int (Int32.ofInt a2), .int (Int32.ofInt a3)] (mz_mk g x) Q := by
  have kx := kn_x hx
  refine ⟨mmX11_then, [some (.ref 0), some (.int (Int32.ofInt a1)), some (.int (Int32.ofInt a2)), some (.int (Int32.ofInt a3)), none], rfl, rfl, ?_⟩
  refine mm_g 2 (pc1 := 2) (lo1 := [some (.ref 0), some (.int (Int32.ofInt a1)), some (.int (Int32.ofInt a2)), some (.int (Int32.ofInt a3)), none]) (st1 := [.int (Int32.ofInt a1), .ref 0]) (H1 := mz_mk g x) rfl ?_
  refine mz_cv rfl mt_11_231 (by decide) (sc_0 _) rfl (Nat.le_of_ble_eq_true rfl) (by omega) (c_X11_isTrunk (by omega) hx hI l_a1 u_a1 (fun v1 l_v1 u_v1 => ⟨_, rfl, ?_⟩))
  show mm_W d mmX11_then 5 [some (.ref 0), some (.int (Int32.ofInt a1)), some (.int (Int32.ofInt a2)), some (.int (Int32.ofInt a3)), none] [.int (Int32.ofInt v1)] (mz_mk g x) Q
  refine mz_if_eq (tgt := 21) rfl rfl (mz_rg l_v1 u_v1) (fun c5_1 => ?_) (fun c5_1 => ?_)
  · skip
    refine mm_g 1 (pc1 := 22) (lo1 := [some (.ref 0), some (.int (Int32.ofInt a1)), some (.int (Int32.ofInt a2)), some (.int (Int32.ofInt a3)), none]) (st1 := [.int (Int32.ofInt 0)]) (H1 := mz_mk g x) rfl ?_
    refine mz_csx rfl mt_11_183 rfl (Nat.le_of_ble_eq_true rfl) (by omega) rfl nh_X11_mustBe (c_X11_mustBe (by omega) hx hI (by decide) (by decide) (fun hp2 => ?_) (fun E => hX E))
    show mm_W d mmX11_then 25 [some (.ref 0), some (.int (Int32.ofInt a1)), some (.int (Int32.ofInt a2)), some (.int (Int32.ofInt a3)), none] [] (mz_mk g x) Q
    exfalso; omega
  · skip
    refine mm_g 1 (pc1 := 9) (lo1 := [some (.ref 0), some (.int (Int32.ofInt a1)), some (.int (Int32.ofInt a2)), some (.int (Int32.ofInt a3)), none]) (st1 := [.int (Int32.ofInt a3)]) (H1 := mz_mk g x) rfl ?_
    refine mz_if_lt (tgt := 21) rfl rfl (mz_rg l_a3 u_a3) (fun c9_2 => ?_) (fun c9_2 => ?_)
    · skip
      refine mm_g 1 (pc1 := 22) (lo1 := [some (.ref 0), some (.int (Int32.ofInt a1)), some (.int (Int32.ofInt a2)), some (.int (Int32.ofInt a3)), none]) (st1 := [.int (Int32.ofInt 0)]) (H1 := mz_mk g x) rfl ?_
      refine mz_csx rfl mt_11_183 rfl (Nat.le_of_ble_eq_true rfl) (by omega) rfl nh_X11_mustBe (c_X11_mustBe (by omega) hx hI (by decide) (by decide) (fun hp3 => ?_) (fun E => hX E))
      show mm_W d mmX11_then 25 [some (.ref 0), some (.int (Int32.ofInt a1)), some (.int (Int32.ofInt a2)), some (.int (Int32.ofInt a3)), none] [] (mz_mk g x) Q
      exfalso; omega
    · skip
      refine mm_g 2 (pc1 := 14) (lo1 := [some (.ref 0), some (.int (Int32.ofInt a1)), some (.int (Int32.ofInt a2)), some (.int (Int32.ofInt a3)), none]) (st1 := [.int (Int32.ofInt 3), .int (Int32.ofInt a3)]) (H1 := mz_mk g x) rfl ?_
      refine mz_ic_gt (tgt := 21) rfl rfl (mz_rg l_a3 u_a3) ⟨by decide, by decide⟩ (fun c14_3 => ?_) (fun c14_3 => ?_)
      · skip
        refine mm_g 1 (pc1 := 22) (lo1 := [some (.ref 0), some (.int (Int32.ofInt a1)), some (.int (Int32.ofInt a2)), some (.int (Int32.ofInt a3)), none]) (st1 := [.int (Int32.ofInt 0)]) (H1 := mz_mk g x) rfl ?_
        refine mz_csx rfl mt_11_183 rfl (Nat.le_of_ble_eq_true rfl) (by omega) rfl nh_X11_mustBe (c_X11_mustBe (by omega) hx hI (by decide) (by decide) (fun hp4 => ?_) (fun E => hX E))
        show mm_W d mmX11_then 25 [some (.ref 0), some (.int (Int32.ofInt a1)), some (.int (Int32.ofInt a2)), some (.int (Int32.ofInt a3)), none] [] (mz_mk g x) Q
        exfalso; omega
      · skip
        refine mm_g 1 (pc1 := 18) (lo1 := [some (.ref 0), some (.int (Int32.ofInt a1)), some (.int (Int32.ofInt a2)), some (.int (Int32.ofInt a3)), none]) (st1 := [.int (Int32.ofInt 1)]) (H1 := mz_mk g x) rfl ?_
        refine mz_gt (tgt := 22) rfl rfl ?_
        refine mz_csx rfl mt_11_183 rfl (Nat.le_of_ble_eq_true rfl) (by omega) rfl nh_X11_mustBe (c_X11_mustBe (by omega) hx hI (by decide) (by decide) (fun hp5 => ?_) (fun E => hX E))
        show mm_W d mmX11_then 25 [some (.ref 0), some (.int (Int32.ofInt a1)), some (.int (Int32.ofInt a2)), some (.int (Int32.ofInt a3)), none] [] (mz_mk g x) Q
        refine mm_g 1 (pc1 := 26) (lo1 := [some (.ref 0), some (.int (Int32.ofInt a1)), some (.int (Int32.ofInt a2)), some (.int (Int32.ofInt a3)), none]) (st1 := [.int (Int32.ofInt a2)]) (H1 := mz_mk g x) rfl ?_
        refine mz_cs rfl mt_11_279 (by decide) rfl (Nat.le_of_ble_eq_true rfl) (by omega) (c_X11_isAhead (by omega) hx hI l_a2 u_a2 (fun v6 l_v6 u_v6 => ⟨_, rfl, ?_⟩))
        show mm_W d mmX11_then 29 [some (.ref 0), some (.int (Int32.ofInt a1)), some (.int (Int32.ofInt a2)), some (.int (Int32.ofInt a3)), none] [.int (Int32.ofInt v6)] (mz_mk g x) Q
        refine mz_csx rfl mt_11_106 rfl (Nat.le_of_ble_eq_true rfl) (by omega) rfl nh_X11_mustFit (c_X11_mustFit (by omega) hx hI l_v6 u_v6 (fun hp7 => ?_) (fun E => hX E))
        show mm_W d mmX11_then 32 [some (.ref 0), some (.int (Int32.ofInt a1)), some (.int (Int32.ofInt a2)), some (.int (Int32.ofInt a3)), none] [] (mz_mk g x) Q
        refine mm_g 3 (pc1 := 35) (lo1 := [some (.ref 0), some (.int (Int32.ofInt a1)), some (.int (Int32.ofInt a2)), some (.int (Int32.ofInt a3)), none]) (st1 := [.ref 0, .int (Int32.ofInt a1), .ref 0]) (H1 := mz_mk g x) rfl ?_
        refine mz_fgR (v := 86) rfl fd_11_37 (by decide) (sc_0 _) (rf_0_5 _ _ _) ?_
        refine mz_fgR (v := 87) rfl fd_11_158 (by decide) (sc_86 _) (rf_86_0 _ _ _) ?_
        refine mm_g 1 (pc1 := 42) (lo1 := [some (.ref 0), some (.int (Int32.ofInt a1)), some (.int (Int32.ofInt a2)), some (.int (Int32.ofInt a3)), none]) (st1 := [.int (Int32.ofInt a1), .ref 87, .int (Int32.ofInt a1), .ref 0]) (H1 := mz_mk g x) rfl ?_
        refine mz_cv rfl mt_11_192 (by decide) (sc_87 _) rfl (Nat.le_of_ble_eq_true rfl) (by omega) (c_X9_get (by omega) hx hI kp_tks_87 l_a1 u_a1 (fun u8 k_u8 hp9 => ⟨_, rfl, ?_⟩))
        show mm_W d mmX11_then 45 [some (.ref 0), some (.int (Int32.ofInt a1)), some (.int (Int32.ofInt a2)), some (.int (Int32.ofInt a3)), none] [.ref u8, .int (Int32.ofInt a1), .ref 0] (mz_mk g x) Q
        refine mz_gI rfl fd_11_234 (by decide) (kc_trunk k_u8 _) hI (kb_trunk_2 k_u8) (fun v10 e_v10 l_v10 u_v10 => ?_)
        refine mm_g 1 (pc1 := 49) (lo1 := [some (.ref 0), some (.int (Int32.ofInt a1)), some (.int (Int32.ofInt a2)), some (.int (Int32.ofInt a3)), none]) (st1 := [.int (Int32.ofInt a2), .int (Int32.ofInt v10), .int (Int32.ofInt a1), .ref 0]) (H1 := mz_mk g x) rfl ?_
        refine mz_cv rfl mt_11_282 (by decide) (sc_0 _) rfl (Nat.le_of_ble_eq_true rfl) (by omega) (c_X11_growProbe (by omega) hx hI l_a1 u_a1 l_v10 u_v10 l_a2 u_a2 (fun g11 hIg11 hfg11 => ⟨_, rfl, ?_⟩))
        show mm_W d mmX11_then 52 [some (.ref 0), some (.int (Int32.ofInt a1)), some (.int (Int32.ofInt a2)), some (.int (Int32.ofInt a3)), none] [] (mz_mk g11 x) Q
        refine mm_g 1 (pc1 := 53) (lo1 := [some (.ref 0), some (.int (Int32.ofInt a1)), some (.int (Int32.ofInt a2)), some (.int (Int32.ofInt a3)), none]) (st1 := [.int (Int32.ofInt a3)]) (H1 := mz_mk g11 x) rfl ?_
        refine mz_if_ne (tgt := 64) rfl rfl (mz_rg l_a3 u_a3) (fun c53_11 => ?_) (fun c53_11 => ?_)
        · skip
          refine mm_g 2 (pc1 := 66) (lo1 := [some (.ref 0), some (.int (Int32.ofInt a1)), some (.int (Int32.ofInt a2)), some (.int (Int32.ofInt a3)), none]) (st1 := [.int (Int32.ofInt 1), .int (Int32.ofInt a3)]) (H1 := mz_mk g11 x) rfl ?_
          refine mz_ic_ne (tgt := 81) rfl rfl (mz_rg l_a3 u_a3) ⟨by decide, by decide⟩ (fun c66_11 => ?_) (fun c66_11 => ?_)
          · skip
            refine mm_g 1 (pc1 := 82) (lo1 := [some (.ref 0), some (.int (Int32.ofInt a1)), some (.int (Int32.ofInt a2)), some (.int (Int32.ofInt a3)), none]) (st1 := [.ref 0]) (H1 := mz_mk g11 x) rfl ?_
            refine mz_fgR (v := x.1) rfl fd_11_16 (by decide) (sc_0 _) rfl ?_
            refine mm_g 1 (pc1 := 86) (lo1 := [some (.ref 0), some (.int (Int32.ofInt a1)), some (.int (Int32.ofInt a2)), some (.int (Int32.ofInt a3)), none]) (st1 := [.ref 0, .ref x.1]) (H1 := mz_mk g11 x) rfl ?_
            refine mz_fgR (v := 122) rfl fd_11_65 (by decide) (sc_0 _) (rf_0_10 _ _ _) ?_
            refine mm_g 1 (pc1 := 90) (lo1 := [some (.ref 0), some (.int (Int32.ofInt a1)), some (.int (Int32.ofInt a2)), some (.int (Int32.ofInt a3)), none]) (st1 := [.ref 0, .ref 122, .ref x.1]) (H1 := mz_mk g11 x) rfl ?_
            refine mz_fgR (v := 133) rfl fd_11_84 (by decide) (sc_0 _) (rf_0_13 _ _ _) ?_
            refine mz_cv rfl mt_11_286 (by decide) (kc_load (kx_1 hx) _) rfl (Nat.le_of_ble_eq_true rfl) (by omega) (c_X1_blendInto (by omega) hx hIg11 (kx_1 hx) kp_trunk_122 kp_let_133 (fun g12 hIg12 hfg12 => ⟨_, rfl, ?_⟩))
            show mm_W d mmX11_then 96 [some (.ref 0), some (.int (Int32.ofInt a1)), some (.int (Int32.ofInt a2)), some (.int (Int32.ofInt a3)), none] [] (mz_mk g12 x) Q
            refine mm_g 1 (pc1 := 97) (lo1 := [some (.ref 0), some (.int (Int32.ofInt a1)), some (.int (Int32.ofInt a2)), some (.int (Int32.ofInt a3)), none]) (st1 := [.ref 0]) (H1 := mz_mk g12 x) rfl ?_
            refine mz_cv rfl mt_11_290 (by decide) (sc_0 _) rfl (Nat.le_of_ble_eq_true rfl) (by omega) (c_X11_nearestToBlend (by omega) hx hIg12 (fun v13 g14 hIg14 hfg14 l_v13 u_v13 => ⟨_, rfl, ?_⟩))
            show mm_W d mmX11_then 100 [some (.ref 0), some (.int (Int32.ofInt a1)), some (.int (Int32.ofInt a2)), some (.int (Int32.ofInt a3)), none] [.int (Int32.ofInt v13)] (mz_mk g14 x) Q
            refine mm_g 3 (pc1 := 104) (lo1 := [some (.ref 0), some (.int (Int32.ofInt a1)), some (.int (Int32.ofInt a2)), some (.int (Int32.ofInt a3)), some (.int (Int32.ofInt v13))]) (st1 := [.int (Int32.ofInt 2), .int (Int32.ofInt a3)]) (H1 := mz_mk g14 x) rfl ?_
            refine mz_ic_ne (tgt := 112) rfl rfl (mz_rg l_a3 u_a3) ⟨by decide, by decide⟩ (fun c104_14 => ?_) (fun c104_14 => ?_)
            · skip
              refine mm_g 1 (pc1 := 113) (lo1 := [some (.ref 0), some (.int (Int32.ofInt a1)), some (.int (Int32.ofInt a2)), some (.int (Int32.ofInt a3)), some (.int (Int32.ofInt v13))]) (st1 := [.ref 0]) (H1 := mz_mk g14 x) rfl ?_
              refine mz_fgR (v := 116) rfl fd_11_51 (by decide) (sc_0 _) (rf_0_8 _ _ _) ?_
              refine mm_g 1 (pc1 := 117) (lo1 := [some (.ref 0), some (.int (Int32.ofInt a1)), some (.int (Int32.ofInt a2)), some (.int (Int32.ofInt a3)), some (.int (Int32.ofInt v13))]) (st1 := [.ref 0, .ref 116]) (H1 := mz_mk g14 x) rfl ?_
              refine mz_fgR (v := 133) rfl fd_11_84 (by decide) (sc_0 _) (rf_0_13 _ _ _) ?_
              refine mm_g 1 (pc1 := 121) (lo1 := [some (.ref 0), some (.int (Int32.ofInt a1)), some (.int (Int32.ofInt a2)), some (.int (Int32.ofInt a3)), some (.int (Int32.ofInt v13))]) (st1 := [.ref 0, .ref 133, .ref 116]) (H1 := mz_mk g14 x) rfl ?_
              refine mz_fgR (v := x.1) rfl fd_11_16 (by decide) (sc_0 _) rfl ?_
              refine mz_fgR (v := (x.1 + 1)) rfl fd_11_135 (by decide) (kc_load (kx_1 hx) _) (kr_load_0 (kx_1 hx) _ _ _) ?_
              refine mm_g 1 (pc1 := 129) (lo1 := [some (.ref 0), some (.int (Int32.ofInt a1)), some (.int (Int32.ofInt a2)), some (.int (Int32.ofInt a3)), some (.int (Int32.ofInt v13))]) (st1 := [.int (Int32.ofInt v13), .ref (x.1 + 1), .ref 133, .ref 116]) (H1 := mz_mk g14 x) rfl ?_
              refine mz_cv rfl mt_11_203 (by decide) (kc_words (ks_load_0 (kx_1 hx)) _) rfl (Nat.le_of_ble_eq_true rfl) (by omega) (c_X10_of (by omega) hx hIg14 (ks_load_0 (kx_1 hx)) (by omega) (by omega) (fun u15 k_u15 hp16 => ⟨_, rfl, ?_⟩))
              show mm_W d mmX11_then 132 [some (.ref 0), some (.int (Int32.ofInt a1)), some (.int (Int32.ofInt a2)), some (.int (Int32.ofInt a3)), some (.int (Int32.ofInt v13))] [.ref u15, .ref 133, .ref 116] (mz_mk g14 x) Q
              refine mz_cv rfl mt_11_293 (by decide) (sc_116 _) rfl (Nat.le_of_ble_eq_true rfl) (by omega) (c_X2_changes (by omega) hx hIg14 kp_let_133 k_u15 (fun v17 g18 hIg18 hfg18 l_v17 u_v17 => ⟨_, rfl, ?_⟩))
              show mm_W d mmX11_then 135 [some (.ref 0), some (.int (Int32.ofInt a1)), some (.int (Int32.ofInt a2)), some (.int (Int32.ofInt a3)), some (.int (Int32.ofInt v13))] [.int (Int32.ofInt v17)] (mz_mk g18 x) Q
              exact mm_rt rfl rfl (hQ _ _ hIg18 (fun k j hk => ((hfg18 k j (fun h => hk (Or.inr (Or.inr (Or.inr (Or.inr (Or.inr h))))))).trans ((hfg14 k j (fun h => hk (Or.inr (Or.inr (Or.inr (Or.inr (Or.inr h))))))).trans ((hfg12 k j (fun h => hk (Or.elim h (fun h => (Or.inr (Or.inr (Or.inr (Or.inl h))))) (fun h => (Or.inr (Or.inr (Or.inr (Or.inr (Or.inl h))))))))).trans (hfg11 k j (fun h => hk (Or.elim h (fun h => (Or.inl h)) (fun h => (Or.elim h (fun h => (Or.inr (Or.inl h))) (fun h => (Or.inr (Or.inr (Or.inl h))))))))))))) (by omega) (by omega))
            · skip
              refine mm_g 1 (pc1 := 109) (lo1 := [some (.ref 0), some (.int (Int32.ofInt a1)), some (.int (Int32.ofInt a2)), some (.int (Int32.ofInt a3)), some (.int (Int32.ofInt v13))]) (st1 := [.int (Int32.ofInt v13)]) (H1 := mz_mk g14 x) rfl ?_
              refine mz_gt (tgt := 135) rfl rfl ?_
              exact mm_rt rfl rfl (hQ _ _ hIg14 (fun k j hk => ((hfg14 k j (fun h => hk (Or.inr (Or.inr (Or.inr (Or.inr (Or.inr h))))))).trans ((hfg12 k j (fun h => hk (Or.elim h (fun h => (Or.inr (Or.inr (Or.inr (Or.inl h))))) (fun h => (Or.inr (Or.inr (Or.inr (Or.inr (Or.inl h))))))))).trans (hfg11 k j (fun h => hk (Or.elim h (fun h => (Or.inl h)) (fun h => (Or.elim h (fun h => (Or.inr (Or.inl h))) (fun h => (Or.inr (Or.inr (Or.inl h)))))))))))) (by omega) (by omega))
          · skip
            refine mm_g 1 (pc1 := 70) (lo1 := [some (.ref 0), some (.int (Int32.ofInt a1)), some (.int (Int32.ofInt a2)), some (.int (Int32.ofInt a3)), none]) (st1 := [.ref 0]) (H1 := mz_mk g11 x) rfl ?_
            refine mz_fgR (v := x.1) rfl fd_11_16 (by decide) (sc_0 _) rfl ?_
            refine mm_g 1 (pc1 := 74) (lo1 := [some (.ref 0), some (.int (Int32.ofInt a1)), some (.int (Int32.ofInt a2)), some (.int (Int32.ofInt a3)), none]) (st1 := [.ref 0, .ref x.1]) (H1 := mz_mk g11 x) rfl ?_
            refine mz_fgR (v := 122) rfl fd_11_65 (by decide) (sc_0 _) (rf_0_10 _ _ _) ?_
            refine mz_cv rfl mt_11_244 (by decide) (kc_load (kx_1 hx) _) rfl (Nat.le_of_ble_eq_true rfl) (by omega) (c_X1_blendSize (by omega) hx hIg11 (kx_1 hx) kp_trunk_122 (fun v19 l_v19 u_v19 => ⟨_, rfl, ?_⟩))
            show mm_W d mmX11_then 80 [some (.ref 0), some (.int (Int32.ofInt a1)), some (.int (Int32.ofInt a2)), some (.int (Int32.ofInt a3)), none] [.int (Int32.ofInt v19)] (mz_mk g11 x) Q
            exact mm_rt rfl rfl (hQ _ _ hIg11 (fun k j hk => (hfg11 k j (fun h => hk (Or.elim h (fun h => (Or.inl h)) (fun h => (Or.elim h (fun h => (Or.inr (Or.inl h))) (fun h => (Or.inr (Or.inr (Or.inl h)))))))))) (by omega) (by omega))
        · skip
          refine mm_g 1 (pc1 := 57) (lo1 := [some (.ref 0), some (.int (Int32.ofInt a1)), some (.int (Int32.ofInt a2)), some (.int (Int32.ofInt a3)), none]) (st1 := [.ref 0]) (H1 := mz_mk g11 x) rfl ?_
          refine mz_fgR (v := 122) rfl fd_11_65 (by decide) (sc_0 _) (rf_0_10 _ _ _) ?_
          refine mz_gI rfl fd_11_237 (by decide) (sc_122 _) hIg11 bd_122_3 (fun v20 e_v20 l_v20 u_v20 => ?_)
          exact mm_rt rfl rfl (hQ _ _ hIg11 (fun k j hk => (hfg11 k j (fun h => hk (Or.elim h (fun h => (Or.inl h)) (fun h => (Or.elim h (fun h => (Or.inr (Or.inl h))) (fun h => (Or.inr (Or.inr (Or.inl h)))))))))) (by omega) (by omega))
def fw_X11_blend (x : mm_X) (a1 : Int) (a2 : Int) (a3 : Int) : Nat → Nat → Prop := fun k j => k = 122 ∨ k = ((x.1 + 36) + 2) ∨ k = ((x.1 + 36) + 3) ∨ k = 133 ∨ k = 134
theorem c_X11_blend {d : Nat} (hd : 16 ≤ d) {x : mm_X} (hx : mk_x x) {g : mz_G} (hI : mz_inv g) {a1 : Int} (l_a1 : (-2147483648) ≤ a1) (u_a1 : a1 ≤ 2147483647) {a2 : Int} (l_a2 : (-2147483648) ≤ a2) (u_a2 : a2 ≤ 2147483647) {a3 : Int} (l_a3 : (-2147483648) ≤ a3) (u_a3 : a3 ≤ 2147483647) {Q : (Option Value ⊕ Nat) → mm_H → Prop} (hQ : ∀ (r : Int) (g1 : mz_G), mz_inv g1 → mz_fr (fw_X11_blend x a1 a2 a3) g g1 → (-2147483648) ≤ r → r ≤ 2147483647 → Q (.inl (some (.int (Int32.ofInt r)))) (mz_mk g1 x)) (hX : ∀ E, Q (.inr E) (mz_mk g (mz_tx x))) : mm_C d 141 [.ref 0, .int (Int32.ofInt a1), .int (Int32.ofInt a2), .int (Int32.ofInt a3)] (mz_mk g x) Q := by
  have kx := kn_x hx
  refine ⟨mmX11_blend, [some (.ref 0), some (.int (Int32.ofInt a1)), some (.int (Int32.ofInt a2)), some (.int (Int32.ofInt a3))], rfl, rfl, ?_⟩
  refine mm_g 2 (pc1 := 2) (lo1 := [some (.ref 0), some (.int (Int32.ofInt a1)), some (.int (Int32.ofInt a2)), some (.int (Int32.ofInt a3))]) (st1 := [.int (Int32.ofInt a1), .ref 0]) (H1 := mz_mk g x) rfl ?_
  refine mz_cv rfl mt_11_231 (by decide) (sc_0 _) rfl (Nat.le_of_ble_eq_true rfl) (by omega) (c_X11_isTrunk (by omega) hx hI l_a1 u_a1 (fun v1 l_v1 u_v1 => ⟨_, rfl, ?_⟩))
  show mm_W d mmX11_blend 5 [some (.ref 0), some (.int (Int32.ofInt a1)), some (.int (Int32.ofInt a2)), some (.int (Int32.ofInt a3))] [.int (Int32.ofInt v1)] (mz_mk g x) Q
  refine mz_csx rfl mt_11_183 rfl (Nat.le_of_ble_eq_true rfl) (by omega) rfl nh_X11_mustBe (c_X11_mustBe (by omega) hx hI l_v1 u_v1 (fun hp2 => ?_) (fun E => hX E))
  show mm_W d mmX11_blend 8 [some (.ref 0), some (.int (Int32.ofInt a1)), some (.int (Int32.ofInt a2)), some (.int (Int32.ofInt a3))] [] (mz_mk g x) Q
  refine mm_g 1 (pc1 := 9) (lo1 := [some (.ref 0), some (.int (Int32.ofInt a1)), some (.int (Int32.ofInt a2)), some (.int (Int32.ofInt a3))]) (st1 := [.int (Int32.ofInt a3)]) (H1 := mz_mk g x) rfl ?_
  refine mz_cs rfl mt_11_279 (by decide) rfl (Nat.le_of_ble_eq_true rfl) (by omega) (c_X11_isAhead (by omega) hx hI l_a3 u_a3 (fun v3 l_v3 u_v3 => ⟨_, rfl, ?_⟩))
  show mm_W d mmX11_blend 12 [some (.ref 0), some (.int (Int32.ofInt a1)), some (.int (Int32.ofInt a2)), some (.int (Int32.ofInt a3))] [.int (Int32.ofInt v3)] (mz_mk g x) Q
  refine mz_csx rfl mt_11_106 rfl (Nat.le_of_ble_eq_true rfl) (by omega) rfl nh_X11_mustFit (c_X11_mustFit (by omega) hx hI l_v3 u_v3 (fun hp4 => ?_) (fun E => hX E))
  show mm_W d mmX11_blend 15 [some (.ref 0), some (.int (Int32.ofInt a1)), some (.int (Int32.ofInt a2)), some (.int (Int32.ofInt a3))] [] (mz_mk g x) Q
  refine mm_g 3 (pc1 := 18) (lo1 := [some (.ref 0), some (.int (Int32.ofInt a1)), some (.int (Int32.ofInt a2)), some (.int (Int32.ofInt a3))]) (st1 := [.ref 0, .int (Int32.ofInt a1), .ref 0]) (H1 := mz_mk g x) rfl ?_
  refine mz_fgR (v := 86) rfl fd_11_37 (by decide) (sc_0 _) (rf_0_5 _ _ _) ?_
  refine mz_fgR (v := 87) rfl fd_11_158 (by decide) (sc_86 _) (rf_86_0 _ _ _) ?_
  refine mm_g 1 (pc1 := 25) (lo1 := [some (.ref 0), some (.int (Int32.ofInt a1)), some (.int (Int32.ofInt a2)), some (.int (Int32.ofInt a3))]) (st1 := [.int (Int32.ofInt a1), .ref 87, .int (Int32.ofInt a1), .ref 0]) (H1 := mz_mk g x) rfl ?_
  refine mz_cv rfl mt_11_192 (by decide) (sc_87 _) rfl (Nat.le_of_ble_eq_true rfl) (by omega) (c_X9_get (by omega) hx hI kp_tks_87 l_a1 u_a1 (fun u5 k_u5 hp6 => ⟨_, rfl, ?_⟩))
  show mm_W d mmX11_blend 28 [some (.ref 0), some (.int (Int32.ofInt a1)), some (.int (Int32.ofInt a2)), some (.int (Int32.ofInt a3))] [.ref u5, .int (Int32.ofInt a1), .ref 0] (mz_mk g x) Q
  refine mz_gI rfl fd_11_234 (by decide) (kc_trunk k_u5 _) hI (kb_trunk_2 k_u5) (fun v7 e_v7 l_v7 u_v7 => ?_)
  refine mm_g 1 (pc1 := 32) (lo1 := [some (.ref 0), some (.int (Int32.ofInt a1)), some (.int (Int32.ofInt a2)), some (.int (Int32.ofInt a3))]) (st1 := [.int (Int32.ofInt a3), .int (Int32.ofInt v7), .int (Int32.ofInt a1), .ref 0]) (H1 := mz_mk g x) rfl ?_
  refine mz_cv rfl mt_11_282 (by decide) (sc_0 _) rfl (Nat.le_of_ble_eq_true rfl) (by omega) (c_X11_growProbe (by omega) hx hI l_a1 u_a1 l_v7 u_v7 l_a3 u_a3 (fun g8 hIg8 hfg8 => ⟨_, rfl, ?_⟩))
  show mm_W d mmX11_blend 35 [some (.ref 0), some (.int (Int32.ofInt a1)), some (.int (Int32.ofInt a2)), some (.int (Int32.ofInt a3))] [] (mz_mk g8 x) Q
  refine mm_g 1 (pc1 := 36) (lo1 := [some (.ref 0), some (.int (Int32.ofInt a1)), some (.int (Int32.ofInt a2)), some (.int (Int32.ofInt a3))]) (st1 := [.ref 0]) (H1 := mz_mk g8 x) rfl ?_
  refine mz_fgR (v := x.1) rfl fd_11_16 (by decide) (sc_0 _) rfl ?_
  refine mm_g 1 (pc1 := 40) (lo1 := [some (.ref 0), some (.int (Int32.ofInt a1)), some (.int (Int32.ofInt a2)), some (.int (Int32.ofInt a3))]) (st1 := [.ref 0, .ref x.1]) (H1 := mz_mk g8 x) rfl ?_
  refine mz_fgR (v := 122) rfl fd_11_65 (by decide) (sc_0 _) (rf_0_10 _ _ _) ?_
  refine mm_g 1 (pc1 := 44) (lo1 := [some (.ref 0), some (.int (Int32.ofInt a1)), some (.int (Int32.ofInt a2)), some (.int (Int32.ofInt a3))]) (st1 := [.ref 0, .ref 122, .ref x.1]) (H1 := mz_mk g8 x) rfl ?_
  refine mz_fgR (v := 133) rfl fd_11_84 (by decide) (sc_0 _) (rf_0_13 _ _ _) ?_
  refine mz_cv rfl mt_11_286 (by decide) (kc_load (kx_1 hx) _) rfl (Nat.le_of_ble_eq_true rfl) (by omega) (c_X1_blendInto (by omega) hx hIg8 (kx_1 hx) kp_trunk_122 kp_let_133 (fun g9 hIg9 hfg9 => ⟨_, rfl, ?_⟩))
  show mm_W d mmX11_blend 50 [some (.ref 0), some (.int (Int32.ofInt a1)), some (.int (Int32.ofInt a2)), some (.int (Int32.ofInt a3))] [] (mz_mk g9 x) Q
  refine mm_g 1 (pc1 := 51) (lo1 := [some (.ref 0), some (.int (Int32.ofInt a1)), some (.int (Int32.ofInt a2)), some (.int (Int32.ofInt a3))]) (st1 := [.int (Int32.ofInt a2)]) (H1 := mz_mk g9 x) rfl ?_
  refine mz_if_lt (tgt := 76) rfl rfl (mz_rg l_a2 u_a2) (fun c51_9 => ?_) (fun c51_9 => ?_)
  · skip
    refine mm_g 1 (pc1 := 77) (lo1 := [some (.ref 0), some (.int (Int32.ofInt a1)), some (.int (Int32.ofInt a2)), some (.int (Int32.ofInt a3))]) (st1 := [.int (Int32.ofInt (-1))]) (H1 := mz_mk g9 x) rfl ?_
    exact mm_rt rfl rfl (hQ _ _ hIg9 (fun k j hk => ((hfg9 k j (fun h => hk (Or.elim h (fun h => (Or.inr (Or.inr (Or.inr (Or.inl h))))) (fun h => (Or.inr (Or.inr (Or.inr (Or.inr h)))))))).trans (hfg8 k j (fun h => hk (Or.elim h (fun h => (Or.inl h)) (fun h => (Or.elim h (fun h => (Or.inr (Or.inl h))) (fun h => (Or.inr (Or.inr (Or.inl h))))))))))) (by decide) (by decide))
  · skip
    refine mm_g 2 (pc1 := 56) (lo1 := [some (.ref 0), some (.int (Int32.ofInt a1)), some (.int (Int32.ofInt a2)), some (.int (Int32.ofInt a3))]) (st1 := [.ref 0, .int (Int32.ofInt a2)]) (H1 := mz_mk g9 x) rfl ?_
    refine mz_fgR (v := 133) rfl fd_11_84 (by decide) (sc_0 _) (rf_0_13 _ _ _) ?_
    refine mz_cv rfl mt_11_207 (by decide) (sc_133 _) rfl (Nat.le_of_ble_eq_true rfl) (by omega) (c_X0_length (by omega) hx hIg9 kp_let_133 (fun v10 l_v10 u_v10 => ⟨_, rfl, ?_⟩))
    show mm_W d mmX11_blend 62 [some (.ref 0), some (.int (Int32.ofInt a1)), some (.int (Int32.ofInt a2)), some (.int (Int32.ofInt a3))] [.int (Int32.ofInt v10), .int (Int32.ofInt a2)] (mz_mk g9 x) Q
    refine mz_ic_ge (tgt := 76) rfl rfl (mz_rg l_a2 u_a2) (mz_rg l_v10 u_v10) (fun c62_10 => ?_) (fun c62_10 => ?_)
    · skip
      refine mm_g 1 (pc1 := 77) (lo1 := [some (.ref 0), some (.int (Int32.ofInt a1)), some (.int (Int32.ofInt a2)), some (.int (Int32.ofInt a3))]) (st1 := [.int (Int32.ofInt (-1))]) (H1 := mz_mk g9 x) rfl ?_
      exact mm_rt rfl rfl (hQ _ _ hIg9 (fun k j hk => ((hfg9 k j (fun h => hk (Or.elim h (fun h => (Or.inr (Or.inr (Or.inr (Or.inl h))))) (fun h => (Or.inr (Or.inr (Or.inr (Or.inr h)))))))).trans (hfg8 k j (fun h => hk (Or.elim h (fun h => (Or.inl h)) (fun h => (Or.elim h (fun h => (Or.inr (Or.inl h))) (fun h => (Or.inr (Or.inr (Or.inl h))))))))))) (by decide) (by decide))
    · skip
      refine mm_g 1 (pc1 := 66) (lo1 := [some (.ref 0), some (.int (Int32.ofInt a1)), some (.int (Int32.ofInt a2)), some (.int (Int32.ofInt a3))]) (st1 := [.ref 0]) (H1 := mz_mk g9 x) rfl ?_
      refine mz_fgR (v := 133) rfl fd_11_84 (by decide) (sc_0 _) (rf_0_13 _ _ _) ?_
      refine mm_g 1 (pc1 := 70) (lo1 := [some (.ref 0), some (.int (Int32.ofInt a1)), some (.int (Int32.ofInt a2)), some (.int (Int32.ofInt a3))]) (st1 := [.int (Int32.ofInt a2), .ref 133]) (H1 := mz_mk g9 x) rfl ?_
      refine mz_cv rfl mt_11_228 (by decide) (sc_133 _) rfl (Nat.le_of_ble_eq_true rfl) (by omega) (c_X0_signAt (by omega) hx hIg9 kp_let_133 l_a2 u_a2 (fun v11 l_v11 u_v11 => ⟨_, rfl, ?_⟩))
      show mm_W d mmX11_blend 73 [some (.ref 0), some (.int (Int32.ofInt a1)), some (.int (Int32.ofInt a2)), some (.int (Int32.ofInt a3))] [.int (Int32.ofInt v11)] (mz_mk g9 x) Q
      refine mz_gt (tgt := 77) rfl rfl ?_
      exact mm_rt rfl rfl (hQ _ _ hIg9 (fun k j hk => ((hfg9 k j (fun h => hk (Or.elim h (fun h => (Or.inr (Or.inr (Or.inr (Or.inl h))))) (fun h => (Or.inr (Or.inr (Or.inr (Or.inr h)))))))).trans (hfg8 k j (fun h => hk (Or.elim h (fun h => (Or.inl h)) (fun h => (Or.elim h (fun h => (Or.inr (Or.inl h))) (fun h => (Or.inr (Or.inr (Or.inl h))))))))))) (by omega) (by omega))
def fl_X11_later_38 (x : mm_X) (a1 : Int) (a2 : Int) : Nat → Nat → Prop := fun k j => k = 122 ∨ k = ((x.1 + 36) + 2) ∨ k = ((x.1 + 36) + 3)
def fw_X11_later (x : mm_X) (a1 : Int) (a2 : Int) : Nat → Nat → Prop := fun k j => k = 122 ∨ k = ((x.1 + 36) + 2) ∨ k = ((x.1 + 36) + 3)
theorem c_X11_later {d : Nat} (hd : 16 ≤ d) {x : mm_X} (hx : mk_x x) {g : mz_G} (hI : mz_inv g) {a1 : Int} (l_a1 : (-2147483648) ≤ a1) (u_a1 : a1 ≤ 2147483647) {a2 : Int} (l_a2 : (-2147483648) ≤ a2) (u_a2 : a2 ≤ 2147483647) {Q : (Option Value ⊕ Nat) → mm_H → Prop} (hQ : ∀ (r : Int) (g1 : mz_G), mz_inv g1 → mz_fr (fw_X11_later x a1 a2) g g1 → (-2147483648) ≤ r → r ≤ 2147483647 → Q (.inl (some (.int (Int32.ofInt r)))) (mz_mk g1 x)) (hX : ∀ E, Q (.inr E) (mz_mk g (mz_tx x))) : mm_C d 142 [.ref 0, .int (Int32.ofInt a1), .int (Int32.ofInt a2)] (mz_mk g x) Q := by
  have kx := kn_x hx
  refine ⟨mmX11_later, [some (.ref 0), some (.int (Int32.ofInt a1)), some (.int (Int32.ofInt a2)), none, none, none, none, none, none], rfl, rfl, ?_⟩
  refine mm_g 1 (pc1 := 1) (lo1 := [some (.ref 0), some (.int (Int32.ofInt a1)), some (.int (Int32.ofInt a2)), none, none, none, none, none, none]) (st1 := [.int (Int32.ofInt a2)]) (H1 := mz_mk g x) rfl ?_
  refine mz_if_lt (tgt := 13) rfl rfl (mz_rg l_a2 u_a2) (fun c1_0 => ?_) (fun c1_0 => ?_)
  · skip
    refine mm_g 1 (pc1 := 14) (lo1 := [some (.ref 0), some (.int (Int32.ofInt a1)), some (.int (Int32.ofInt a2)), none, none, none, none, none, none]) (st1 := [.int (Int32.ofInt 0)]) (H1 := mz_mk g x) rfl ?_
    refine mz_csx rfl mt_11_183 rfl (Nat.le_of_ble_eq_true rfl) (by omega) rfl nh_X11_mustBe (c_X11_mustBe (by omega) hx hI (by decide) (by decide) (fun hp1 => ?_) (fun E => hX E))
    show mm_W d mmX11_later 17 [some (.ref 0), some (.int (Int32.ofInt a1)), some (.int (Int32.ofInt a2)), none, none, none, none, none, none] [] (mz_mk g x) Q
    exfalso; omega
  · skip
    refine mm_g 2 (pc1 := 6) (lo1 := [some (.ref 0), some (.int (Int32.ofInt a1)), some (.int (Int32.ofInt a2)), none, none, none, none, none, none]) (st1 := [.int (Int32.ofInt 2), .int (Int32.ofInt a2)]) (H1 := mz_mk g x) rfl ?_
    refine mz_ic_gt (tgt := 13) rfl rfl (mz_rg l_a2 u_a2) ⟨by decide, by decide⟩ (fun c6_1 => ?_) (fun c6_1 => ?_)
    · skip
      refine mm_g 1 (pc1 := 14) (lo1 := [some (.ref 0), some (.int (Int32.ofInt a1)), some (.int (Int32.ofInt a2)), none, none, none, none, none, none]) (st1 := [.int (Int32.ofInt 0)]) (H1 := mz_mk g x) rfl ?_
      refine mz_csx rfl mt_11_183 rfl (Nat.le_of_ble_eq_true rfl) (by omega) rfl nh_X11_mustBe (c_X11_mustBe (by omega) hx hI (by decide) (by decide) (fun hp2 => ?_) (fun E => hX E))
      show mm_W d mmX11_later 17 [some (.ref 0), some (.int (Int32.ofInt a1)), some (.int (Int32.ofInt a2)), none, none, none, none, none, none] [] (mz_mk g x) Q
      exfalso; omega
    · skip
      refine mm_g 1 (pc1 := 10) (lo1 := [some (.ref 0), some (.int (Int32.ofInt a1)), some (.int (Int32.ofInt a2)), none, none, none, none, none, none]) (st1 := [.int (Int32.ofInt 1)]) (H1 := mz_mk g x) rfl ?_
      refine mz_gt (tgt := 14) rfl rfl ?_
      refine mz_csx rfl mt_11_183 rfl (Nat.le_of_ble_eq_true rfl) (by omega) rfl nh_X11_mustBe (c_X11_mustBe (by omega) hx hI (by decide) (by decide) (fun hp3 => ?_) (fun E => hX E))
      show mm_W d mmX11_later 17 [some (.ref 0), some (.int (Int32.ofInt a1)), some (.int (Int32.ofInt a2)), none, none, none, none, none, none] [] (mz_mk g x) Q
      refine mm_g 1 (pc1 := 18) (lo1 := [some (.ref 0), some (.int (Int32.ofInt a1)), some (.int (Int32.ofInt a2)), none, none, none, none, none, none]) (st1 := [.int (Int32.ofInt a1)]) (H1 := mz_mk g x) rfl ?_
      refine mz_cs rfl mt_11_279 (by decide) rfl (Nat.le_of_ble_eq_true rfl) (by omega) (c_X11_isAhead (by omega) hx hI l_a1 u_a1 (fun v4 l_v4 u_v4 => ⟨_, rfl, ?_⟩))
      show mm_W d mmX11_later 21 [some (.ref 0), some (.int (Int32.ofInt a1)), some (.int (Int32.ofInt a2)), none, none, none, none, none, none] [.int (Int32.ofInt v4)] (mz_mk g x) Q
      refine mz_csx rfl mt_11_106 rfl (Nat.le_of_ble_eq_true rfl) (by omega) rfl nh_X11_mustFit (c_X11_mustFit (by omega) hx hI l_v4 u_v4 (fun hp5 => ?_) (fun E => hX E))
      show mm_W d mmX11_later 24 [some (.ref 0), some (.int (Int32.ofInt a1)), some (.int (Int32.ofInt a2)), none, none, none, none, none, none] [] (mz_mk g x) Q
      refine mm_g 10 (pc1 := 38) (lo1 := [some (.ref 0), some (.int (Int32.ofInt a1)), some (.int (Int32.ofInt a2)), some (.int (Int32.ofInt 0)), some (.int (Int32.ofInt (-1))), some (.int (Int32.ofInt 0)), some (.int (Int32.ofInt 0)), some (.int (Int32.ofInt 0)), none]) (st1 := []) (H1 := mz_mk g x) rfl ?_
      have L15 : ∀ n14 : Nat, ∀ (v6 : Int) (v7 : Int) (v8 : Int) (v9 : Int) (v10 : Int) (o11 : Option Value) (g12 : mz_G), (6 - v10).toNat = n14 → 0 ≤ v6 → v6 ≤ 63 → (-1) ≤ v7 → v7 ≤ 5 → (-2147483648) ≤ v8 → v8 ≤ 2147483647 → (-2147483648) ≤ v9 → v9 ≤ 2147483647 → 0 ≤ v10 → v10 ≤ 6 → mz_nl o11 → mz_inv g12 → mz_fr (fl_X11_later_38 x a1 a2) g g12 → mm_W d mmX11_later 38 [some (.ref 0), some (.int (Int32.ofInt a1)), some (.int (Int32.ofInt a2)), some (.int (Int32.ofInt v6)), some (.int (Int32.ofInt v7)), some (.int (Int32.ofInt v8)), some (.int (Int32.ofInt v9)), some (.int (Int32.ofInt v10)), o11] [] (mz_mk g12 x) Q := by
        intro n14
        induction n14 using Nat.strongRecOn with
        | ind n14 ih13 =>
        intro v6 v7 v8 v9 v10 o11 g12 hmn14 l_v6 u_v6 l_v7 u_v7 l_v8 u_v8 l_v9 u_v9 l_v10 u_v10 h_o11 hIg12 hfg12
        refine mm_g 2 (pc1 := 41) (lo1 := [some (.ref 0), some (.int (Int32.ofInt a1)), some (.int (Int32.ofInt a2)), some (.int (Int32.ofInt v6)), some (.int (Int32.ofInt v7)), some (.int (Int32.ofInt v8)), some (.int (Int32.ofInt v9)), some (.int (Int32.ofInt v10)), o11]) (st1 := [.ref 0, .int (Int32.ofInt v10)]) (H1 := mz_mk g12 x) rfl ?_
        refine mz_cv rfl mt_11_155 (by decide) (sc_0 _) rfl (Nat.le_of_ble_eq_true rfl) (by omega) (c_X11_trunkCount (by omega) hx hIg12 (fun v16 l_v16 u_v16 => ⟨_, rfl, ?_⟩))
        show mm_W d mmX11_later 44 [some (.ref 0), some (.int (Int32.ofInt a1)), some (.int (Int32.ofInt a2)), some (.int (Int32.ofInt v6)), some (.int (Int32.ofInt v7)), some (.int (Int32.ofInt v8)), some (.int (Int32.ofInt v9)), some (.int (Int32.ofInt v10)), o11] [.int (Int32.ofInt v16), .int (Int32.ofInt v10)] (mz_mk g12 x) Q
        refine mz_ic_ge (tgt := 155) rfl rfl (mz_rg l_v10 u_v10) (mz_rg l_v16 u_v16) (fun c44_16 => ?_) (fun c44_16 => ?_)
        · skip
          refine mm_g 1 (pc1 := 156) (lo1 := [some (.ref 0), some (.int (Int32.ofInt a1)), some (.int (Int32.ofInt a2)), some (.int (Int32.ofInt v6)), some (.int (Int32.ofInt v7)), some (.int (Int32.ofInt v8)), some (.int (Int32.ofInt v9)), some (.int (Int32.ofInt v10)), o11]) (st1 := [.int (Int32.ofInt a2)]) (H1 := mz_mk g12 x) rfl ?_
          refine mz_if_ne (tgt := 163) rfl rfl (mz_rg l_a2 u_a2) (fun c156_16 => ?_) (fun c156_16 => ?_)
          · skip
            refine mm_g 2 (pc1 := 165) (lo1 := [some (.ref 0), some (.int (Int32.ofInt a1)), some (.int (Int32.ofInt a2)), some (.int (Int32.ofInt v6)), some (.int (Int32.ofInt v7)), some (.int (Int32.ofInt v8)), some (.int (Int32.ofInt v9)), some (.int (Int32.ofInt v10)), o11]) (st1 := [.int (Int32.ofInt 1), .int (Int32.ofInt a2)]) (H1 := mz_mk g12 x) rfl ?_
            refine mz_ic_ne (tgt := 173) rfl rfl (mz_rg l_a2 u_a2) ⟨by decide, by decide⟩ (fun c165_16 => ?_) (fun c165_16 => ?_)
            · skip
              refine mm_g 1 (pc1 := 175) (lo1 := [some (.ref 0), some (.int (Int32.ofInt a1)), some (.int (Int32.ofInt a2)), some (.int (Int32.ofInt v6)), some (.int (Int32.ofInt v7)), some (.int (Int32.ofInt v8)), some (.int (Int32.ofInt v9)), some (.int (Int32.ofInt v10)), o11]) (st1 := [.int (Int32.ofInt v9)]) (H1 := mz_mk g12 x) rfl ?_
              exact mm_rt rfl rfl (hQ _ _ hIg12 (fun k j hk => (hfg12 k j (fun h => hk (Or.elim h (fun h => (Or.inl h)) (fun h => (Or.elim h (fun h => (Or.inr (Or.inl h))) (fun h => (Or.inr (Or.inr h))))))))) (by omega) (by omega))
            · skip
              refine mm_g 1 (pc1 := 170) (lo1 := [some (.ref 0), some (.int (Int32.ofInt a1)), some (.int (Int32.ofInt a2)), some (.int (Int32.ofInt v6)), some (.int (Int32.ofInt v7)), some (.int (Int32.ofInt v8)), some (.int (Int32.ofInt v9)), some (.int (Int32.ofInt v10)), o11]) (st1 := [.int (Int32.ofInt v7)]) (H1 := mz_mk g12 x) rfl ?_
              refine mz_gt (tgt := 175) rfl rfl ?_
              exact mm_rt rfl rfl (hQ _ _ hIg12 (fun k j hk => (hfg12 k j (fun h => hk (Or.elim h (fun h => (Or.inl h)) (fun h => (Or.elim h (fun h => (Or.inr (Or.inl h))) (fun h => (Or.inr (Or.inr h))))))))) (by omega) (by omega))
          · skip
            refine mm_g 1 (pc1 := 160) (lo1 := [some (.ref 0), some (.int (Int32.ofInt a1)), some (.int (Int32.ofInt a2)), some (.int (Int32.ofInt v6)), some (.int (Int32.ofInt v7)), some (.int (Int32.ofInt v8)), some (.int (Int32.ofInt v9)), some (.int (Int32.ofInt v10)), o11]) (st1 := [.int (Int32.ofInt v6)]) (H1 := mz_mk g12 x) rfl ?_
            refine mz_gt (tgt := 175) rfl rfl ?_
            exact mm_rt rfl rfl (hQ _ _ hIg12 (fun k j hk => (hfg12 k j (fun h => hk (Or.elim h (fun h => (Or.inl h)) (fun h => (Or.elim h (fun h => (Or.inr (Or.inl h))) (fun h => (Or.inr (Or.inr h))))))))) (by omega) (by omega))
        · skip
          refine mm_g 1 (pc1 := 48) (lo1 := [some (.ref 0), some (.int (Int32.ofInt a1)), some (.int (Int32.ofInt a2)), some (.int (Int32.ofInt v6)), some (.int (Int32.ofInt v7)), some (.int (Int32.ofInt v8)), some (.int (Int32.ofInt v9)), some (.int (Int32.ofInt v10)), o11]) (st1 := [.ref 0]) (H1 := mz_mk g12 x) rfl ?_
          refine mz_fgR (v := 86) rfl fd_11_37 (by decide) (sc_0 _) (rf_0_5 _ _ _) ?_
          refine mz_fgR (v := 87) rfl fd_11_158 (by decide) (sc_86 _) (rf_86_0 _ _ _) ?_
          refine mm_g 1 (pc1 := 56) (lo1 := [some (.ref 0), some (.int (Int32.ofInt a1)), some (.int (Int32.ofInt a2)), some (.int (Int32.ofInt v6)), some (.int (Int32.ofInt v7)), some (.int (Int32.ofInt v8)), some (.int (Int32.ofInt v9)), some (.int (Int32.ofInt v10)), o11]) (st1 := [.int (Int32.ofInt v10), .ref 87]) (H1 := mz_mk g12 x) rfl ?_
          refine mz_cv rfl mt_11_192 (by decide) (sc_87 _) rfl (Nat.le_of_ble_eq_true rfl) (by omega) (c_X9_get (by omega) hx hIg12 kp_tks_87 (by omega) (by omega) (fun u17 k_u17 hp18 => ⟨_, rfl, ?_⟩))
          show mm_W d mmX11_later 59 [some (.ref 0), some (.int (Int32.ofInt a1)), some (.int (Int32.ofInt a2)), some (.int (Int32.ofInt v6)), some (.int (Int32.ofInt v7)), some (.int (Int32.ofInt v8)), some (.int (Int32.ofInt v9)), some (.int (Int32.ofInt v10)), o11] [.ref u17] (mz_mk g12 x) Q
          refine mm_g 4 (pc1 := 66) (lo1 := [some (.ref 0), some (.int (Int32.ofInt a1)), some (.int (Int32.ofInt a2)), some (.int (Int32.ofInt v6)), some (.int (Int32.ofInt v7)), some (.int (Int32.ofInt v8)), some (.int (Int32.ofInt v9)), some (.int (Int32.ofInt v10)), some (.ref u17)]) (st1 := [.ref u17, .int (Int32.ofInt v10), .ref 0]) (H1 := mz_mk g12 x) rfl ?_
          refine mz_gI rfl fd_11_234 (by decide) (kc_trunk k_u17 _) hIg12 (kb_trunk_2 k_u17) (fun v19 e_v19 l_v19 u_v19 => ?_)
          refine mm_g 1 (pc1 := 70) (lo1 := [some (.ref 0), some (.int (Int32.ofInt a1)), some (.int (Int32.ofInt a2)), some (.int (Int32.ofInt v6)), some (.int (Int32.ofInt v7)), some (.int (Int32.ofInt v8)), some (.int (Int32.ofInt v9)), some (.int (Int32.ofInt v10)), some (.ref u17)]) (st1 := [.int (Int32.ofInt a1), .int (Int32.ofInt v19), .int (Int32.ofInt v10), .ref 0]) (H1 := mz_mk g12 x) rfl ?_
          refine mz_cv rfl mt_11_282 (by decide) (sc_0 _) rfl (Nat.le_of_ble_eq_true rfl) (by omega) (c_X11_growProbe (by omega) hx hIg12 (by omega) (by omega) l_v19 u_v19 l_a1 u_a1 (fun g20 hIg20 hfg20 => ⟨_, rfl, ?_⟩))
          show mm_W d mmX11_later 73 [some (.ref 0), some (.int (Int32.ofInt a1)), some (.int (Int32.ofInt a2)), some (.int (Int32.ofInt v6)), some (.int (Int32.ofInt v7)), some (.int (Int32.ofInt v8)), some (.int (Int32.ofInt v9)), some (.int (Int32.ofInt v10)), some (.ref u17)] [] (mz_mk g20 x) Q
          refine mm_g 2 (pc1 := 75) (lo1 := [some (.ref 0), some (.int (Int32.ofInt a1)), some (.int (Int32.ofInt a2)), some (.int (Int32.ofInt v6)), some (.int (Int32.ofInt v7)), some (.int (Int32.ofInt v8)), some (.int (Int32.ofInt v9)), some (.int (Int32.ofInt v10)), some (.ref u17)]) (st1 := [.ref 0, .int (Int32.ofInt v6)]) (H1 := mz_mk g20 x) rfl ?_
          refine mz_fgR (v := x.1) rfl fd_11_16 (by decide) (sc_0 _) rfl ?_
          refine mm_g 1 (pc1 := 79) (lo1 := [some (.ref 0), some (.int (Int32.ofInt a1)), some (.int (Int32.ofInt a2)), some (.int (Int32.ofInt v6)), some (.int (Int32.ofInt v7)), some (.int (Int32.ofInt v8)), some (.int (Int32.ofInt v9)), some (.int (Int32.ofInt v10)), some (.ref u17)]) (st1 := [.ref 0, .ref x.1, .int (Int32.ofInt v6)]) (H1 := mz_mk g20 x) rfl ?_
          refine mz_fgR (v := 122) rfl fd_11_65 (by decide) (sc_0 _) (rf_0_10 _ _ _) ?_
          refine mz_cv rfl mt_11_259 (by decide) (kc_load (kx_1 hx) _) rfl (Nat.le_of_ble_eq_true rfl) (by omega) (c_X1_isFull (by omega) hx hIg20 (kx_1 hx) kp_trunk_122 (fun v21 l_v21 u_v21 => ⟨_, rfl, ?_⟩))
          show mm_W d mmX11_later 85 [some (.ref 0), some (.int (Int32.ofInt a1)), some (.int (Int32.ofInt a2)), some (.int (Int32.ofInt v6)), some (.int (Int32.ofInt v7)), some (.int (Int32.ofInt v8)), some (.int (Int32.ofInt v9)), some (.int (Int32.ofInt v10)), some (.ref u17)] [.int (Int32.ofInt v21), .int (Int32.ofInt v6)] (mz_mk g20 x) Q
          refine mz_if_eq (tgt := 95) rfl rfl (mz_rg l_v21 u_v21) (fun c85_21 => ?_) (fun c85_21 => ?_)
          · skip
            refine mm_g 1 (pc1 := 96) (lo1 := [some (.ref 0), some (.int (Int32.ofInt a1)), some (.int (Int32.ofInt a2)), some (.int (Int32.ofInt v6)), some (.int (Int32.ofInt v7)), some (.int (Int32.ofInt v8)), some (.int (Int32.ofInt v9)), some (.int (Int32.ofInt v10)), some (.ref u17)]) (st1 := [.int (Int32.ofInt 0), .int (Int32.ofInt v6)]) (H1 := mz_mk g20 x) rfl ?_
            refine mz_ior rfl (fun v22 e_v22 hwv22 => ?_)
            have b_v22 : 0 ≤ v22 ∧ v22 ≤ 63 := by rw [e_v22]; exact mz_or_lt (n := 6) (by decide) (by omega) (by omega) (by omega) (by omega)
            have l_v22 := b_v22.1
            have u_v22 := b_v22.2
            refine mm_g 2 (pc1 := 99) (lo1 := [some (.ref 0), some (.int (Int32.ofInt a1)), some (.int (Int32.ofInt a2)), some (.int (Int32.ofInt v22)), some (.int (Int32.ofInt v7)), some (.int (Int32.ofInt v8)), some (.int (Int32.ofInt v9)), some (.int (Int32.ofInt v10)), some (.ref u17)]) (st1 := [.ref 0]) (H1 := mz_mk g20 x) rfl ?_
            refine mz_fgR (v := x.1) rfl fd_11_16 (by decide) (sc_0 _) rfl ?_
            refine mm_g 1 (pc1 := 103) (lo1 := [some (.ref 0), some (.int (Int32.ofInt a1)), some (.int (Int32.ofInt a2)), some (.int (Int32.ofInt v22)), some (.int (Int32.ofInt v7)), some (.int (Int32.ofInt v8)), some (.int (Int32.ofInt v9)), some (.int (Int32.ofInt v10)), some (.ref u17)]) (st1 := [.ref 0, .ref x.1]) (H1 := mz_mk g20 x) rfl ?_
            refine mz_fgR (v := 122) rfl fd_11_65 (by decide) (sc_0 _) (rf_0_10 _ _ _) ?_
            refine mz_cv rfl mt_11_244 (by decide) (kc_load (kx_1 hx) _) rfl (Nat.le_of_ble_eq_true rfl) (by omega) (c_X1_blendSize (by omega) hx hIg20 (kx_1 hx) kp_trunk_122 (fun v23 l_v23 u_v23 => ⟨_, rfl, ?_⟩))
            show mm_W d mmX11_later 109 [some (.ref 0), some (.int (Int32.ofInt a1)), some (.int (Int32.ofInt a2)), some (.int (Int32.ofInt v22)), some (.int (Int32.ofInt v7)), some (.int (Int32.ofInt v8)), some (.int (Int32.ofInt v9)), some (.int (Int32.ofInt v10)), some (.ref u17)] [.int (Int32.ofInt v23)] (mz_mk g20 x) Q
            refine mm_g 1 (pc1 := 111) (lo1 := [some (.ref 0), some (.int (Int32.ofInt a1)), some (.int (Int32.ofInt a2)), some (.int (Int32.ofInt v22)), some (.int (Int32.ofInt v7)), some (.int (Int32.ofInt v8)), some (.int (Int32.ofInt v9)), some (.int (Int32.ofInt v10)), some (.ref u17)]) (st1 := [.int (Int32.ofInt v8), .int (Int32.ofInt v23)]) (H1 := mz_mk g20 x) rfl ?_
            refine mz_ic_le (tgt := 131) rfl rfl (mz_rg l_v23 u_v23) (mz_rg l_v8 u_v8) (fun c111_23 => ?_) (fun c111_23 => ?_)
            · skip
              refine mm_g 2 (pc1 := 134) (lo1 := [some (.ref 0), some (.int (Int32.ofInt a1)), some (.int (Int32.ofInt a2)), some (.int (Int32.ofInt v22)), some (.int (Int32.ofInt v7)), some (.int (Int32.ofInt v8)), some (.int (Int32.ofInt v9)), some (.int (Int32.ofInt v10)), some (.ref u17)]) (st1 := [.ref 0, .int (Int32.ofInt v9)]) (H1 := mz_mk g20 x) rfl ?_
              refine mz_fgR (v := 122) rfl fd_11_65 (by decide) (sc_0 _) (rf_0_10 _ _ _) ?_
              refine mz_gI rfl fd_11_237 (by decide) (sc_122 _) hIg20 bd_122_3 (fun v24 e_v24 l_v24 u_v24 => ?_)
              refine mm_g 1 (pc1 := 142) (lo1 := [some (.ref 0), some (.int (Int32.ofInt a1)), some (.int (Int32.ofInt a2)), some (.int (Int32.ofInt v22)), some (.int (Int32.ofInt v7)), some (.int (Int32.ofInt v8)), some (.int (Int32.ofInt v9)), some (.int (Int32.ofInt v10)), some (.ref u17)]) (st1 := [.ref u17, .int (Int32.ofInt v24), .int (Int32.ofInt v9)]) (H1 := mz_mk g20 x) rfl ?_
              refine mz_gI rfl fd_11_237 (by decide) (kc_trunk k_u17 _) hIg20 (kb_trunk_3 k_u17) (fun v25 e_v25 l_v25 u_v25 => ?_)
              refine mz_isub_w rfl (fun v26 _ hwv26 => ?_)
              have l_v26 := hwv26.1
              have u_v26 := hwv26.2
              refine mz_iadd_w rfl (fun v27 _ hwv27 => ?_)
              have l_v27 := hwv27.1
              have u_v27 := hwv27.2
              refine mm_g 1 (pc1 := 149) (lo1 := [some (.ref 0), some (.int (Int32.ofInt a1)), some (.int (Int32.ofInt a2)), some (.int (Int32.ofInt v22)), some (.int (Int32.ofInt v7)), some (.int (Int32.ofInt v8)), some (.int (Int32.ofInt v27)), some (.int (Int32.ofInt v10)), some (.ref u17)]) (st1 := []) (H1 := mz_mk g20 x) rfl ?_
              refine mz_iincR (v := v10) (lo2 := [some (.ref 0), some (.int (Int32.ofInt a1)), some (.int (Int32.ofInt a2)), some (.int (Int32.ofInt v22)), some (.int (Int32.ofInt v7)), some (.int (Int32.ofInt v8)), some (.int (Int32.ofInt v27)), some (.int (Int32.ofInt (v10 + 1))), some (.ref u17)]) rfl rfl rfl (Nat.le_of_ble_eq_true rfl) rfl ?_
              refine mz_gt (tgt := 38) rfl rfl ?_
              exact ih13 ((6 - (v10 + 1)).toNat) (by omega) v22 v7 v8 v27 (v10 + 1) (some (.ref u17)) g20 rfl (by omega) (by omega) (by omega) (by omega) (by omega) (by omega) (by omega) (by omega) (by omega) (by omega) (mz_nl_r _) hIg20 (fun k j hk => ((hfg20 k j (fun h => hk (Or.elim h (fun h => (Or.inl h)) (fun h => (Or.elim h (fun h => (Or.inr (Or.inl h))) (fun h => (Or.inr (Or.inr h)))))))).trans (hfg12 k j (fun h => hk (Or.elim h (fun h => (Or.inl h)) (fun h => (Or.elim h (fun h => (Or.inr (Or.inl h))) (fun h => (Or.inr (Or.inr h))))))))))
            · skip
              refine mm_g 3 (pc1 := 119) (lo1 := [some (.ref 0), some (.int (Int32.ofInt a1)), some (.int (Int32.ofInt a2)), some (.int (Int32.ofInt v22)), some (.int (Int32.ofInt v10)), some (.int (Int32.ofInt v8)), some (.int (Int32.ofInt v9)), some (.int (Int32.ofInt v10)), some (.ref u17)]) (st1 := [.ref 0]) (H1 := mz_mk g20 x) rfl ?_
              refine mz_fgR (v := x.1) rfl fd_11_16 (by decide) (sc_0 _) rfl ?_
              refine mm_g 1 (pc1 := 123) (lo1 := [some (.ref 0), some (.int (Int32.ofInt a1)), some (.int (Int32.ofInt a2)), some (.int (Int32.ofInt v22)), some (.int (Int32.ofInt v10)), some (.int (Int32.ofInt v8)), some (.int (Int32.ofInt v9)), some (.int (Int32.ofInt v10)), some (.ref u17)]) (st1 := [.ref 0, .ref x.1]) (H1 := mz_mk g20 x) rfl ?_
              refine mz_fgR (v := 122) rfl fd_11_65 (by decide) (sc_0 _) (rf_0_10 _ _ _) ?_
              refine mz_cv rfl mt_11_244 (by decide) (kc_load (kx_1 hx) _) rfl (Nat.le_of_ble_eq_true rfl) (by omega) (c_X1_blendSize (by omega) hx hIg20 (kx_1 hx) kp_trunk_122 (fun v28 l_v28 u_v28 => ⟨_, rfl, ?_⟩))
              show mm_W d mmX11_later 129 [some (.ref 0), some (.int (Int32.ofInt a1)), some (.int (Int32.ofInt a2)), some (.int (Int32.ofInt v22)), some (.int (Int32.ofInt v10)), some (.int (Int32.ofInt v8)), some (.int (Int32.ofInt v9)), some (.int (Int32.ofInt v10)), some (.ref u17)] [.int (Int32.ofInt v28)] (mz_mk g20 x) Q
              refine mm_g 3 (pc1 := 134) (lo1 := [some (.ref 0), some (.int (Int32.ofInt a1)), some (.int (Int32.ofInt a2)), some (.int (Int32.ofInt v22)), some (.int (Int32.ofInt v10)), some (.int (Int32.ofInt v28)), some (.int (Int32.ofInt v9)), some (.int (Int32.ofInt v10)), some (.ref u17)]) (st1 := [.ref 0, .int (Int32.ofInt v9)]) (H1 := mz_mk g20 x) rfl ?_
              refine mz_fgR (v := 122) rfl fd_11_65 (by decide) (sc_0 _) (rf_0_10 _ _ _) ?_
              refine mz_gI rfl fd_11_237 (by decide) (sc_122 _) hIg20 bd_122_3 (fun v29 e_v29 l_v29 u_v29 => ?_)
              refine mm_g 1 (pc1 := 142) (lo1 := [some (.ref 0), some (.int (Int32.ofInt a1)), some (.int (Int32.ofInt a2)), some (.int (Int32.ofInt v22)), some (.int (Int32.ofInt v10)), some (.int (Int32.ofInt v28)), some (.int (Int32.ofInt v9)), some (.int (Int32.ofInt v10)), some (.ref u17)]) (st1 := [.ref u17, .int (Int32.ofInt v29), .int (Int32.ofInt v9)]) (H1 := mz_mk g20 x) rfl ?_
              refine mz_gI rfl fd_11_237 (by decide) (kc_trunk k_u17 _) hIg20 (kb_trunk_3 k_u17) (fun v30 e_v30 l_v30 u_v30 => ?_)
              refine mz_isub_w rfl (fun v31 _ hwv31 => ?_)
              have l_v31 := hwv31.1
              have u_v31 := hwv31.2
              refine mz_iadd_w rfl (fun v32 _ hwv32 => ?_)
              have l_v32 := hwv32.1
              have u_v32 := hwv32.2
              refine mm_g 1 (pc1 := 149) (lo1 := [some (.ref 0), some (.int (Int32.ofInt a1)), some (.int (Int32.ofInt a2)), some (.int (Int32.ofInt v22)), some (.int (Int32.ofInt v10)), some (.int (Int32.ofInt v28)), some (.int (Int32.ofInt v32)), some (.int (Int32.ofInt v10)), some (.ref u17)]) (st1 := []) (H1 := mz_mk g20 x) rfl ?_
              refine mz_iincR (v := v10) (lo2 := [some (.ref 0), some (.int (Int32.ofInt a1)), some (.int (Int32.ofInt a2)), some (.int (Int32.ofInt v22)), some (.int (Int32.ofInt v10)), some (.int (Int32.ofInt v28)), some (.int (Int32.ofInt v32)), some (.int (Int32.ofInt (v10 + 1))), some (.ref u17)]) rfl rfl rfl (Nat.le_of_ble_eq_true rfl) rfl ?_
              refine mz_gt (tgt := 38) rfl rfl ?_
              exact ih13 ((6 - (v10 + 1)).toNat) (by omega) v22 v10 v28 v32 (v10 + 1) (some (.ref u17)) g20 rfl (by omega) (by omega) (by omega) (by omega) (by omega) (by omega) (by omega) (by omega) (by omega) (by omega) (mz_nl_r _) hIg20 (fun k j hk => ((hfg20 k j (fun h => hk (Or.elim h (fun h => (Or.inl h)) (fun h => (Or.elim h (fun h => (Or.inr (Or.inl h))) (fun h => (Or.inr (Or.inr h)))))))).trans (hfg12 k j (fun h => hk (Or.elim h (fun h => (Or.inl h)) (fun h => (Or.elim h (fun h => (Or.inr (Or.inl h))) (fun h => (Or.inr (Or.inr h))))))))))
          · skip
            refine mm_g 2 (pc1 := 91) (lo1 := [some (.ref 0), some (.int (Int32.ofInt a1)), some (.int (Int32.ofInt a2)), some (.int (Int32.ofInt v6)), some (.int (Int32.ofInt v7)), some (.int (Int32.ofInt v8)), some (.int (Int32.ofInt v9)), some (.int (Int32.ofInt v10)), some (.ref u17)]) (st1 := [.int (Int32.ofInt v10), .int (Int32.ofInt 1), .int (Int32.ofInt v6)]) (H1 := mz_mk g20 x) rfl ?_
            refine mz_ishl rfl (fun v33 e_v33 hwv33 => ?_)
            have b_v33 : 1 ≤ v33 ∧ v33 ≤ 32 := by rw [e_v33]; exact mz_shl_b (lx := 1) (hx := 1) (k := 5) (by decide) (by decide) (by omega) (by omega) (by omega) (by omega)
            have l_v33 := b_v33.1
            have u_v33 := b_v33.2
            refine mz_gt (tgt := 96) rfl rfl ?_
            refine mz_ior rfl (fun v34 e_v34 hwv34 => ?_)
            have b_v34 : 0 ≤ v34 ∧ v34 ≤ 63 := by rw [e_v34]; exact mz_or_lt (n := 6) (by decide) (by omega) (by omega) (by omega) (by omega)
            have l_v34 := b_v34.1
            have u_v34 := b_v34.2
            refine mm_g 2 (pc1 := 99) (lo1 := [some (.ref 0), some (.int (Int32.ofInt a1)), some (.int (Int32.ofInt a2)), some (.int (Int32.ofInt v34)), some (.int (Int32.ofInt v7)), some (.int (Int32.ofInt v8)), some (.int (Int32.ofInt v9)), some (.int (Int32.ofInt v10)), some (.ref u17)]) (st1 := [.ref 0]) (H1 := mz_mk g20 x) rfl ?_
            refine mz_fgR (v := x.1) rfl fd_11_16 (by decide) (sc_0 _) rfl ?_
            refine mm_g 1 (pc1 := 103) (lo1 := [some (.ref 0), some (.int (Int32.ofInt a1)), some (.int (Int32.ofInt a2)), some (.int (Int32.ofInt v34)), some (.int (Int32.ofInt v7)), some (.int (Int32.ofInt v8)), some (.int (Int32.ofInt v9)), some (.int (Int32.ofInt v10)), some (.ref u17)]) (st1 := [.ref 0, .ref x.1]) (H1 := mz_mk g20 x) rfl ?_
            refine mz_fgR (v := 122) rfl fd_11_65 (by decide) (sc_0 _) (rf_0_10 _ _ _) ?_
            refine mz_cv rfl mt_11_244 (by decide) (kc_load (kx_1 hx) _) rfl (Nat.le_of_ble_eq_true rfl) (by omega) (c_X1_blendSize (by omega) hx hIg20 (kx_1 hx) kp_trunk_122 (fun v35 l_v35 u_v35 => ⟨_, rfl, ?_⟩))
            show mm_W d mmX11_later 109 [some (.ref 0), some (.int (Int32.ofInt a1)), some (.int (Int32.ofInt a2)), some (.int (Int32.ofInt v34)), some (.int (Int32.ofInt v7)), some (.int (Int32.ofInt v8)), some (.int (Int32.ofInt v9)), some (.int (Int32.ofInt v10)), some (.ref u17)] [.int (Int32.ofInt v35)] (mz_mk g20 x) Q
            refine mm_g 1 (pc1 := 111) (lo1 := [some (.ref 0), some (.int (Int32.ofInt a1)), some (.int (Int32.ofInt a2)), some (.int (Int32.ofInt v34)), some (.int (Int32.ofInt v7)), some (.int (Int32.ofInt v8)), some (.int (Int32.ofInt v9)), some (.int (Int32.ofInt v10)), some (.ref u17)]) (st1 := [.int (Int32.ofInt v8), .int (Int32.ofInt v35)]) (H1 := mz_mk g20 x) rfl ?_
            refine mz_ic_le (tgt := 131) rfl rfl (mz_rg l_v35 u_v35) (mz_rg l_v8 u_v8) (fun c111_35 => ?_) (fun c111_35 => ?_)
            · skip
              refine mm_g 2 (pc1 := 134) (lo1 := [some (.ref 0), some (.int (Int32.ofInt a1)), some (.int (Int32.ofInt a2)), some (.int (Int32.ofInt v34)), some (.int (Int32.ofInt v7)), some (.int (Int32.ofInt v8)), some (.int (Int32.ofInt v9)), some (.int (Int32.ofInt v10)), some (.ref u17)]) (st1 := [.ref 0, .int (Int32.ofInt v9)]) (H1 := mz_mk g20 x) rfl ?_
              refine mz_fgR (v := 122) rfl fd_11_65 (by decide) (sc_0 _) (rf_0_10 _ _ _) ?_
              refine mz_gI rfl fd_11_237 (by decide) (sc_122 _) hIg20 bd_122_3 (fun v36 e_v36 l_v36 u_v36 => ?_)
              refine mm_g 1 (pc1 := 142) (lo1 := [some (.ref 0), some (.int (Int32.ofInt a1)), some (.int (Int32.ofInt a2)), some (.int (Int32.ofInt v34)), some (.int (Int32.ofInt v7)), some (.int (Int32.ofInt v8)), some (.int (Int32.ofInt v9)), some (.int (Int32.ofInt v10)), some (.ref u17)]) (st1 := [.ref u17, .int (Int32.ofInt v36), .int (Int32.ofInt v9)]) (H1 := mz_mk g20 x) rfl ?_
              refine mz_gI rfl fd_11_237 (by decide) (kc_trunk k_u17 _) hIg20 (kb_trunk_3 k_u17) (fun v37 e_v37 l_v37 u_v37 => ?_)
              refine mz_isub_w rfl (fun v38 _ hwv38 => ?_)
              have l_v38 := hwv38.1
              have u_v38 := hwv38.2
              refine mz_iadd_w rfl (fun v39 _ hwv39 => ?_)
              have l_v39 := hwv39.1
              have u_v39 := hwv39.2
              refine mm_g 1 (pc1 := 149) (lo1 := [some (.ref 0), some (.int (Int32.ofInt a1)), some (.int (Int32.ofInt a2)), some (.int (Int32.ofInt v34)), some (.int (Int32.ofInt v7)), some (.int (Int32.ofInt v8)), some (.int (Int32.ofInt v39)), some (.int (Int32.ofInt v10)), some (.ref u17)]) (st1 := []) (H1 := mz_mk g20 x) rfl ?_
              refine mz_iincR (v := v10) (lo2 := [some (.ref 0), some (.int (Int32.ofInt a1)), some (.int (Int32.ofInt a2)), some (.int (Int32.ofInt v34)), some (.int (Int32.ofInt v7)), some (.int (Int32.ofInt v8)), some (.int (Int32.ofInt v39)), some (.int (Int32.ofInt (v10 + 1))), some (.ref u17)]) rfl rfl rfl (Nat.le_of_ble_eq_true rfl) rfl ?_
              refine mz_gt (tgt := 38) rfl rfl ?_
              exact ih13 ((6 - (v10 + 1)).toNat) (by omega) v34 v7 v8 v39 (v10 + 1) (some (.ref u17)) g20 rfl (by omega) (by omega) (by omega) (by omega) (by omega) (by omega) (by omega) (by omega) (by omega) (by omega) (mz_nl_r _) hIg20 (fun k j hk => ((hfg20 k j (fun h => hk (Or.elim h (fun h => (Or.inl h)) (fun h => (Or.elim h (fun h => (Or.inr (Or.inl h))) (fun h => (Or.inr (Or.inr h)))))))).trans (hfg12 k j (fun h => hk (Or.elim h (fun h => (Or.inl h)) (fun h => (Or.elim h (fun h => (Or.inr (Or.inl h))) (fun h => (Or.inr (Or.inr h))))))))))
            · skip
              refine mm_g 3 (pc1 := 119) (lo1 := [some (.ref 0), some (.int (Int32.ofInt a1)), some (.int (Int32.ofInt a2)), some (.int (Int32.ofInt v34)), some (.int (Int32.ofInt v10)), some (.int (Int32.ofInt v8)), some (.int (Int32.ofInt v9)), some (.int (Int32.ofInt v10)), some (.ref u17)]) (st1 := [.ref 0]) (H1 := mz_mk g20 x) rfl ?_
              refine mz_fgR (v := x.1) rfl fd_11_16 (by decide) (sc_0 _) rfl ?_
              refine mm_g 1 (pc1 := 123) (lo1 := [some (.ref 0), some (.int (Int32.ofInt a1)), some (.int (Int32.ofInt a2)), some (.int (Int32.ofInt v34)), some (.int (Int32.ofInt v10)), some (.int (Int32.ofInt v8)), some (.int (Int32.ofInt v9)), some (.int (Int32.ofInt v10)), some (.ref u17)]) (st1 := [.ref 0, .ref x.1]) (H1 := mz_mk g20 x) rfl ?_
              refine mz_fgR (v := 122) rfl fd_11_65 (by decide) (sc_0 _) (rf_0_10 _ _ _) ?_
              refine mz_cv rfl mt_11_244 (by decide) (kc_load (kx_1 hx) _) rfl (Nat.le_of_ble_eq_true rfl) (by omega) (c_X1_blendSize (by omega) hx hIg20 (kx_1 hx) kp_trunk_122 (fun v40 l_v40 u_v40 => ⟨_, rfl, ?_⟩))
              show mm_W d mmX11_later 129 [some (.ref 0), some (.int (Int32.ofInt a1)), some (.int (Int32.ofInt a2)), some (.int (Int32.ofInt v34)), some (.int (Int32.ofInt v10)), some (.int (Int32.ofInt v8)), some (.int (Int32.ofInt v9)), some (.int (Int32.ofInt v10)), some (.ref u17)] [.int (Int32.ofInt v40)] (mz_mk g20 x) Q
              refine mm_g 3 (pc1 := 134) (lo1 := [some (.ref 0), some (.int (Int32.ofInt a1)), some (.int (Int32.ofInt a2)), some (.int (Int32.ofInt v34)), some (.int (Int32.ofInt v10)), some (.int (Int32.ofInt v40)), some (.int (Int32.ofInt v9)), some (.int (Int32.ofInt v10)), some (.ref u17)]) (st1 := [.ref 0, .int (Int32.ofInt v9)]) (H1 := mz_mk g20 x) rfl ?_
              refine mz_fgR (v := 122) rfl fd_11_65 (by decide) (sc_0 _) (rf_0_10 _ _ _) ?_
              refine mz_gI rfl fd_11_237 (by decide) (sc_122 _) hIg20 bd_122_3 (fun v41 e_v41 l_v41 u_v41 => ?_)
              refine mm_g 1 (pc1 := 142) (lo1 := [some (.ref 0), some (.int (Int32.ofInt a1)), some (.int (Int32.ofInt a2)), some (.int (Int32.ofInt v34)), some (.int (Int32.ofInt v10)), some (.int (Int32.ofInt v40)), some (.int (Int32.ofInt v9)), some (.int (Int32.ofInt v10)), some (.ref u17)]) (st1 := [.ref u17, .int (Int32.ofInt v41), .int (Int32.ofInt v9)]) (H1 := mz_mk g20 x) rfl ?_
              refine mz_gI rfl fd_11_237 (by decide) (kc_trunk k_u17 _) hIg20 (kb_trunk_3 k_u17) (fun v42 e_v42 l_v42 u_v42 => ?_)
              refine mz_isub_w rfl (fun v43 _ hwv43 => ?_)
              have l_v43 := hwv43.1
              have u_v43 := hwv43.2
              refine mz_iadd_w rfl (fun v44 _ hwv44 => ?_)
              have l_v44 := hwv44.1
              have u_v44 := hwv44.2
              refine mm_g 1 (pc1 := 149) (lo1 := [some (.ref 0), some (.int (Int32.ofInt a1)), some (.int (Int32.ofInt a2)), some (.int (Int32.ofInt v34)), some (.int (Int32.ofInt v10)), some (.int (Int32.ofInt v40)), some (.int (Int32.ofInt v44)), some (.int (Int32.ofInt v10)), some (.ref u17)]) (st1 := []) (H1 := mz_mk g20 x) rfl ?_
              refine mz_iincR (v := v10) (lo2 := [some (.ref 0), some (.int (Int32.ofInt a1)), some (.int (Int32.ofInt a2)), some (.int (Int32.ofInt v34)), some (.int (Int32.ofInt v10)), some (.int (Int32.ofInt v40)), some (.int (Int32.ofInt v44)), some (.int (Int32.ofInt (v10 + 1))), some (.ref u17)]) rfl rfl rfl (Nat.le_of_ble_eq_true rfl) rfl ?_
              refine mz_gt (tgt := 38) rfl rfl ?_
              exact ih13 ((6 - (v10 + 1)).toNat) (by omega) v34 v10 v40 v44 (v10 + 1) (some (.ref u17)) g20 rfl (by omega) (by omega) (by omega) (by omega) (by omega) (by omega) (by omega) (by omega) (by omega) (by omega) (mz_nl_r _) hIg20 (fun k j hk => ((hfg20 k j (fun h => hk (Or.elim h (fun h => (Or.inl h)) (fun h => (Or.elim h (fun h => (Or.inr (Or.inl h))) (fun h => (Or.inr (Or.inr h)))))))).trans (hfg12 k j (fun h => hk (Or.elim h (fun h => (Or.inl h)) (fun h => (Or.elim h (fun h => (Or.inr (Or.inl h))) (fun h => (Or.inr (Or.inr h))))))))))
      exact L15 _ 0 (-1) 0 0 0 none g rfl (by decide) (by decide) (by decide) (by decide) (by decide) (by decide) (by decide) (by decide) (by decide) (by decide) mz_nl_n hI (fun _ _ _ => rfl)
def fl_X11_full_28 (x : mm_X) (a1 : Int) : Nat → Nat → Prop := fun k j => k = 122 ∨ k = ((x.1 + 36) + 2) ∨ k = ((x.1 + 36) + 3)
def fw_X11_full (x : mm_X) (a1 : Int) : Nat → Nat → Prop := fun k j => k = 122 ∨ k = ((x.1 + 36) + 2) ∨ k = ((x.1 + 36) + 3)
theorem c_X11_full {d : Nat} (hd : 15 ≤ d) {x : mm_X} (hx : mk_x x) {g : mz_G} (hI : mz_inv g) {a1 : Int} (l_a1 : (-2147483648) ≤ a1) (u_a1 : a1 ≤ 2147483647) {Q : (Option Value ⊕ Nat) → mm_H → Prop} (hQ : ∀ (r : Int) (g1 : mz_G), mz_inv g1 → mz_fr (fw_X11_full x a1) g g1 → (-1) ≤ r → r ≤ 60 → Q (.inl (some (.int (Int32.ofInt r)))) (mz_mk g1 x)) (hX : ∀ E, Q (.inr E) (mz_mk g (mz_tx x))) : mm_C d 143 [.ref 0, .int (Int32.ofInt a1)] (mz_mk g x) Q := by
  have kx := kn_x hx
  refine ⟨mmX11_full, [some (.ref 0), some (.int (Int32.ofInt a1)), none], rfl, rfl, ?_⟩
  refine mm_g 2 (pc1 := 2) (lo1 := [some (.ref 0), some (.int (Int32.ofInt a1)), none]) (st1 := [.int (Int32.ofInt a1), .ref 0]) (H1 := mz_mk g x) rfl ?_
  refine mz_cv rfl mt_11_231 (by decide) (sc_0 _) rfl (Nat.le_of_ble_eq_true rfl) (by omega) (c_X11_isTrunk (by omega) hx hI l_a1 u_a1 (fun v1 l_v1 u_v1 => ⟨_, rfl, ?_⟩))
  show mm_W d mmX11_full 5 [some (.ref 0), some (.int (Int32.ofInt a1)), none] [.int (Int32.ofInt v1)] (mz_mk g x) Q
  refine mz_csx rfl mt_11_183 rfl (Nat.le_of_ble_eq_true rfl) (by omega) rfl nh_X11_mustBe (c_X11_mustBe (by omega) hx hI l_v1 u_v1 (fun hp2 => ?_) (fun E => hX E))
  show mm_W d mmX11_full 8 [some (.ref 0), some (.int (Int32.ofInt a1)), none] [] (mz_mk g x) Q
  refine mm_g 1 (pc1 := 9) (lo1 := [some (.ref 0), some (.int (Int32.ofInt a1)), none]) (st1 := [.ref 0]) (H1 := mz_mk g x) rfl ?_
  refine mz_fgR (v := 122) rfl fd_11_65 (by decide) (sc_0 _) (rf_0_10 _ _ _) ?_
  refine mm_g 1 (pc1 := 13) (lo1 := [some (.ref 0), some (.int (Int32.ofInt a1)), none]) (st1 := [.ref 0, .ref 122]) (H1 := mz_mk g x) rfl ?_
  refine mz_fgR (v := 86) rfl fd_11_37 (by decide) (sc_0 _) (rf_0_5 _ _ _) ?_
  refine mz_fgR (v := 87) rfl fd_11_158 (by decide) (sc_86 _) (rf_86_0 _ _ _) ?_
  refine mm_g 1 (pc1 := 20) (lo1 := [some (.ref 0), some (.int (Int32.ofInt a1)), none]) (st1 := [.int (Int32.ofInt a1), .ref 87, .ref 122]) (H1 := mz_mk g x) rfl ?_
  refine mz_cv rfl mt_11_192 (by decide) (sc_87 _) rfl (Nat.le_of_ble_eq_true rfl) (by omega) (c_X9_get (by omega) hx hI kp_tks_87 l_a1 u_a1 (fun u3 k_u3 hp4 => ⟨_, rfl, ?_⟩))
  show mm_W d mmX11_full 23 [some (.ref 0), some (.int (Int32.ofInt a1)), none] [.ref u3, .ref 122] (mz_mk g x) Q
  refine mz_cv rfl mt_11_297 (by decide) (sc_122 _) rfl (Nat.le_of_ble_eq_true rfl) (by omega) (c_X8_becomeAs (by omega) hx hI kp_trunk_122 k_u3 (fun g5 hIg5 hfg5 => ⟨_, rfl, ?_⟩))
  show mm_W d mmX11_full 26 [some (.ref 0), some (.int (Int32.ofInt a1)), none] [] (mz_mk g5 x) Q
  refine mm_g 2 (pc1 := 28) (lo1 := [some (.ref 0), some (.int (Int32.ofInt a1)), some (.int (Int32.ofInt 0))]) (st1 := []) (H1 := mz_mk g5 x) rfl ?_
  have L10 : ∀ n9 : Nat, ∀ (v6 : Int) (g7 : mz_G), (61 - v6).toNat = n9 → 0 ≤ v6 → v6 ≤ 61 → mz_inv g7 → mz_fr (fl_X11_full_28 x a1) g5 g7 → mm_W d mmX11_full 28 [some (.ref 0), some (.int (Int32.ofInt a1)), some (.int (Int32.ofInt v6))] [] (mz_mk g7 x) Q := by
    intro n9
    induction n9 using Nat.strongRecOn with
    | ind n9 ih8 =>
    intro v6 g7 hmn9 l_v6 u_v6 hIg7 hfg7
    refine mm_g 1 (pc1 := 29) (lo1 := [some (.ref 0), some (.int (Int32.ofInt a1)), some (.int (Int32.ofInt v6))]) (st1 := [.int (Int32.ofInt v6)]) (H1 := mz_mk g7 x) rfl ?_
    refine mz_bip rfl bip_60 ?_
    refine mz_ic_gt (tgt := 65) rfl rfl (mz_rg l_v6 u_v6) ⟨by decide, by decide⟩ (fun c31_10 => ?_) (fun c31_10 => ?_)
    · skip
      refine mm_g 1 (pc1 := 66) (lo1 := [some (.ref 0), some (.int (Int32.ofInt a1)), some (.int (Int32.ofInt v6))]) (st1 := [.int (Int32.ofInt (-1))]) (H1 := mz_mk g7 x) rfl ?_
      exact mm_rt rfl rfl (hQ _ _ hIg7 (fun k j hk => ((hfg7 k j (fun h => hk (Or.elim h (fun h => (Or.inl h)) (fun h => (Or.elim h (fun h => (Or.inr (Or.inl h))) (fun h => (Or.inr (Or.inr h)))))))).trans (hfg5 k j (fun h => hk (Or.inl h))))) (by decide) (by decide))
    · skip
      refine mm_g 1 (pc1 := 35) (lo1 := [some (.ref 0), some (.int (Int32.ofInt a1)), some (.int (Int32.ofInt v6))]) (st1 := [.ref 0]) (H1 := mz_mk g7 x) rfl ?_
      refine mz_fgR (v := x.1) rfl fd_11_16 (by decide) (sc_0 _) rfl ?_
      refine mm_g 1 (pc1 := 39) (lo1 := [some (.ref 0), some (.int (Int32.ofInt a1)), some (.int (Int32.ofInt v6))]) (st1 := [.ref 0, .ref x.1]) (H1 := mz_mk g7 x) rfl ?_
      refine mz_fgR (v := 122) rfl fd_11_65 (by decide) (sc_0 _) (rf_0_10 _ _ _) ?_
      refine mz_cv rfl mt_11_259 (by decide) (kc_load (kx_1 hx) _) rfl (Nat.le_of_ble_eq_true rfl) (by omega) (c_X1_isFull (by omega) hx hIg7 (kx_1 hx) kp_trunk_122 (fun v11 l_v11 u_v11 => ⟨_, rfl, ?_⟩))
      show mm_W d mmX11_full 45 [some (.ref 0), some (.int (Int32.ofInt a1)), some (.int (Int32.ofInt v6))] [.int (Int32.ofInt v11)] (mz_mk g7 x) Q
      refine mz_if_eq (tgt := 50) rfl rfl (mz_rg l_v11 u_v11) (fun c45_11 => ?_) (fun c45_11 => ?_)
      · skip
        refine mm_g 2 (pc1 := 52) (lo1 := [some (.ref 0), some (.int (Int32.ofInt a1)), some (.int (Int32.ofInt v6))]) (st1 := [.ref 0, .ref 0]) (H1 := mz_mk g7 x) rfl ?_
        refine mz_fgR (v := 122) rfl fd_11_65 (by decide) (sc_0 _) (rf_0_10 _ _ _) ?_
        refine mm_g 1 (pc1 := 56) (lo1 := [some (.ref 0), some (.int (Int32.ofInt a1)), some (.int (Int32.ofInt v6))]) (st1 := [.int (Int32.ofInt v6), .ref 122, .ref 0]) (H1 := mz_mk g7 x) rfl ?_
        refine mz_cv rfl mt_11_301 (by decide) (sc_0 _) rfl (Nat.le_of_ble_eq_true rfl) (by omega) (c_X11_growBy (by omega) hx hIg7 kp_trunk_122 (by omega) (by omega) (fun g12 hIg12 hfg12 => ⟨_, rfl, ?_⟩))
        show mm_W d mmX11_full 59 [some (.ref 0), some (.int (Int32.ofInt a1)), some (.int (Int32.ofInt v6))] [] (mz_mk g12 x) Q
        refine mz_iincR (v := v6) (lo2 := [some (.ref 0), some (.int (Int32.ofInt a1)), some (.int (Int32.ofInt (v6 + 1)))]) rfl rfl rfl (Nat.le_of_ble_eq_true rfl) rfl ?_
        refine mz_gt (tgt := 28) rfl rfl ?_
        exact ih8 ((61 - (v6 + 1)).toNat) (by omega) (v6 + 1) g12 rfl (by omega) (by omega) hIg12 (fun k j hk => ((hfg12 k j (fun h => hk (Or.elim h (fun h => (Or.inl h)) (fun h => (Or.elim h (fun h => (Or.inr (Or.inl h))) (fun h => (Or.inr (Or.inr h)))))))).trans (hfg7 k j (fun h => hk (Or.elim h (fun h => (Or.inl h)) (fun h => (Or.elim h (fun h => (Or.inr (Or.inl h))) (fun h => (Or.inr (Or.inr h))))))))))
      · skip
        refine mm_g 1 (pc1 := 49) (lo1 := [some (.ref 0), some (.int (Int32.ofInt a1)), some (.int (Int32.ofInt v6))]) (st1 := [.int (Int32.ofInt v6)]) (H1 := mz_mk g7 x) rfl ?_
        exact mm_rt rfl rfl (hQ _ _ hIg7 (fun k j hk => ((hfg7 k j (fun h => hk (Or.elim h (fun h => (Or.inl h)) (fun h => (Or.elim h (fun h => (Or.inr (Or.inl h))) (fun h => (Or.inr (Or.inr h)))))))).trans (hfg5 k j (fun h => hk (Or.inl h))))) (by omega) (by omega))
  exact L10 _ 0 g5 rfl (by decide) (by decide) hIg5 (fun _ _ _ => rfl)
def fl_X11_read_44 (x : mm_X) (a1 : Int) (a2 : Int) : Nat → Nat → Prop := fun k j => k = 133 ∨ k = 134 ∨ k = 122 ∨ k = ((x.1 + 36) + 2) ∨ k = ((x.1 + 36) + 3)
def fw_X11_read (x : mm_X) (a1 : Int) (a2 : Int) : Nat → Nat → Prop := fun k j => k = 122 ∨ k = 133 ∨ k = 134 ∨ k = ((x.1 + 36) + 2) ∨ k = ((x.1 + 36) + 3)
theorem c_X11_read {d : Nat} (hd : 15 ≤ d) {x : mm_X} (hx : mk_x x) {g : mz_G} (hI : mz_inv g) {a1 : Int} (l_a1 : (-2147483648) ≤ a1) (u_a1 : a1 ≤ 2147483647) {a2 : Int} (l_a2 : (-2147483648) ≤ a2) (u_a2 : a2 ≤ 2147483647) {Q : (Option Value ⊕ Nat) → mm_H → Prop} (hQ : ∀ (r : Int) (g1 : mz_G), mz_inv g1 → mz_fr (fw_X11_read x a1 a2) g g1 → (-1) ≤ r → r ≤ 60 → Q (.inl (some (.int (Int32.ofInt r)))) (mz_mk g1 x)) (hX : ∀ E, Q (.inr E) (mz_mk g (mz_tx x))) : mm_C d 144 [.ref 0, .int (Int32.ofInt a1), .int (Int32.ofInt a2)] (mz_mk g x) Q := by
  have kx := kn_x hx
  refine ⟨mmX11_read, [some (.ref 0), some (.int (Int32.ofInt a1)), some (.int (Int32.ofInt a2)), none], rfl, rfl, ?_⟩
  refine mm_g 2 (pc1 := 2) (lo1 := [some (.ref 0), some (.int (Int32.ofInt a1)), some (.int (Int32.ofInt a2)), none]) (st1 := [.int (Int32.ofInt a1), .ref 0]) (H1 := mz_mk g x) rfl ?_
  refine mz_cv rfl mt_11_231 (by decide) (sc_0 _) rfl (Nat.le_of_ble_eq_true rfl) (by omega) (c_X11_isTrunk (by omega) hx hI l_a1 u_a1 (fun v1 l_v1 u_v1 => ⟨_, rfl, ?_⟩))
  show mm_W d mmX11_read 5 [some (.ref 0), some (.int (Int32.ofInt a1)), some (.int (Int32.ofInt a2)), none] [.int (Int32.ofInt v1)] (mz_mk g x) Q
  refine mz_if_eq (tgt := 20) rfl rfl (mz_rg l_v1 u_v1) (fun c5_1 => ?_) (fun c5_1 => ?_)
  · skip
    refine mm_g 1 (pc1 := 21) (lo1 := [some (.ref 0), some (.int (Int32.ofInt a1)), some (.int (Int32.ofInt a2)), none]) (st1 := [.int (Int32.ofInt 0)]) (H1 := mz_mk g x) rfl ?_
    refine mz_csx rfl mt_11_183 rfl (Nat.le_of_ble_eq_true rfl) (by omega) rfl nh_X11_mustBe (c_X11_mustBe (by omega) hx hI (by decide) (by decide) (fun hp2 => ?_) (fun E => hX E))
    show mm_W d mmX11_read 24 [some (.ref 0), some (.int (Int32.ofInt a1)), some (.int (Int32.ofInt a2)), none] [] (mz_mk g x) Q
    exfalso; omega
  · skip
    refine mm_g 2 (pc1 := 10) (lo1 := [some (.ref 0), some (.int (Int32.ofInt a1)), some (.int (Int32.ofInt a2)), none]) (st1 := [.int (Int32.ofInt a2), .ref 0]) (H1 := mz_mk g x) rfl ?_
    refine mz_cv rfl mt_11_199 (by decide) (sc_0 _) rfl (Nat.le_of_ble_eq_true rfl) (by omega) (c_X11_isWord (by omega) hx hI l_a2 u_a2 (fun v3 l_v3 u_v3 => ⟨_, rfl, ?_⟩))
    show mm_W d mmX11_read 13 [some (.ref 0), some (.int (Int32.ofInt a1)), some (.int (Int32.ofInt a2)), none] [.int (Int32.ofInt v3)] (mz_mk g x) Q
    refine mz_if_eq (tgt := 20) rfl rfl (mz_rg l_v3 u_v3) (fun c13_3 => ?_) (fun c13_3 => ?_)
    · skip
      refine mm_g 1 (pc1 := 21) (lo1 := [some (.ref 0), some (.int (Int32.ofInt a1)), some (.int (Int32.ofInt a2)), none]) (st1 := [.int (Int32.ofInt 0)]) (H1 := mz_mk g x) rfl ?_
      refine mz_csx rfl mt_11_183 rfl (Nat.le_of_ble_eq_true rfl) (by omega) rfl nh_X11_mustBe (c_X11_mustBe (by omega) hx hI (by decide) (by decide) (fun hp4 => ?_) (fun E => hX E))
      show mm_W d mmX11_read 24 [some (.ref 0), some (.int (Int32.ofInt a1)), some (.int (Int32.ofInt a2)), none] [] (mz_mk g x) Q
      exfalso; omega
    · skip
      refine mm_g 1 (pc1 := 17) (lo1 := [some (.ref 0), some (.int (Int32.ofInt a1)), some (.int (Int32.ofInt a2)), none]) (st1 := [.int (Int32.ofInt 1)]) (H1 := mz_mk g x) rfl ?_
      refine mz_gt (tgt := 21) rfl rfl ?_
      refine mz_csx rfl mt_11_183 rfl (Nat.le_of_ble_eq_true rfl) (by omega) rfl nh_X11_mustBe (c_X11_mustBe (by omega) hx hI (by decide) (by decide) (fun hp5 => ?_) (fun E => hX E))
      show mm_W d mmX11_read 24 [some (.ref 0), some (.int (Int32.ofInt a1)), some (.int (Int32.ofInt a2)), none] [] (mz_mk g x) Q
      refine mm_g 1 (pc1 := 25) (lo1 := [some (.ref 0), some (.int (Int32.ofInt a1)), some (.int (Int32.ofInt a2)), none]) (st1 := [.ref 0]) (H1 := mz_mk g x) rfl ?_
      refine mz_fgR (v := 122) rfl fd_11_65 (by decide) (sc_0 _) (rf_0_10 _ _ _) ?_
      refine mm_g 1 (pc1 := 29) (lo1 := [some (.ref 0), some (.int (Int32.ofInt a1)), some (.int (Int32.ofInt a2)), none]) (st1 := [.ref 0, .ref 122]) (H1 := mz_mk g x) rfl ?_
      refine mz_fgR (v := 86) rfl fd_11_37 (by decide) (sc_0 _) (rf_0_5 _ _ _) ?_
      refine mz_fgR (v := 87) rfl fd_11_158 (by decide) (sc_86 _) (rf_86_0 _ _ _) ?_
      refine mm_g 1 (pc1 := 36) (lo1 := [some (.ref 0), some (.int (Int32.ofInt a1)), some (.int (Int32.ofInt a2)), none]) (st1 := [.int (Int32.ofInt a1), .ref 87, .ref 122]) (H1 := mz_mk g x) rfl ?_
      refine mz_cv rfl mt_11_192 (by decide) (sc_87 _) rfl (Nat.le_of_ble_eq_true rfl) (by omega) (c_X9_get (by omega) hx hI kp_tks_87 l_a1 u_a1 (fun u6 k_u6 hp7 => ⟨_, rfl, ?_⟩))
      show mm_W d mmX11_read 39 [some (.ref 0), some (.int (Int32.ofInt a1)), some (.int (Int32.ofInt a2)), none] [.ref u6, .ref 122] (mz_mk g x) Q
      refine mz_cv rfl mt_11_297 (by decide) (sc_122 _) rfl (Nat.le_of_ble_eq_true rfl) (by omega) (c_X8_becomeAs (by omega) hx hI kp_trunk_122 k_u6 (fun g8 hIg8 hfg8 => ⟨_, rfl, ?_⟩))
      show mm_W d mmX11_read 42 [some (.ref 0), some (.int (Int32.ofInt a1)), some (.int (Int32.ofInt a2)), none] [] (mz_mk g8 x) Q
      refine mm_g 2 (pc1 := 44) (lo1 := [some (.ref 0), some (.int (Int32.ofInt a1)), some (.int (Int32.ofInt a2)), some (.int (Int32.ofInt 0))]) (st1 := []) (H1 := mz_mk g8 x) rfl ?_
      have L13 : ∀ n12 : Nat, ∀ (v9 : Int) (g10 : mz_G), (61 - v9).toNat = n12 → 0 ≤ v9 → v9 ≤ 61 → mz_inv g10 → mz_fr (fl_X11_read_44 x a1 a2) g8 g10 → mm_W d mmX11_read 44 [some (.ref 0), some (.int (Int32.ofInt a1)), some (.int (Int32.ofInt a2)), some (.int (Int32.ofInt v9))] [] (mz_mk g10 x) Q := by
        intro n12
        induction n12 using Nat.strongRecOn with
        | ind n12 ih11 =>
        intro v9 g10 hmn12 l_v9 u_v9 hIg10 hfg10
        refine mm_g 1 (pc1 := 45) (lo1 := [some (.ref 0), some (.int (Int32.ofInt a1)), some (.int (Int32.ofInt a2)), some (.int (Int32.ofInt v9))]) (st1 := [.int (Int32.ofInt v9)]) (H1 := mz_mk g10 x) rfl ?_
        refine mz_bip rfl bip_60 ?_
        refine mz_ic_gt (tgt := 103) rfl rfl (mz_rg l_v9 u_v9) ⟨by decide, by decide⟩ (fun c47_13 => ?_) (fun c47_13 => ?_)
        · skip
          refine mm_g 1 (pc1 := 104) (lo1 := [some (.ref 0), some (.int (Int32.ofInt a1)), some (.int (Int32.ofInt a2)), some (.int (Int32.ofInt v9))]) (st1 := [.int (Int32.ofInt (-1))]) (H1 := mz_mk g10 x) rfl ?_
          exact mm_rt rfl rfl (hQ _ _ hIg10 (fun k j hk => ((hfg10 k j (fun h => hk (Or.elim h (fun h => (Or.inr (Or.inl h))) (fun h => (Or.elim h (fun h => (Or.inr (Or.inr (Or.inl h)))) (fun h => (Or.elim h (fun h => (Or.inl h)) (fun h => (Or.elim h (fun h => (Or.inr (Or.inr (Or.inr (Or.inl h))))) (fun h => (Or.inr (Or.inr (Or.inr (Or.inr h)))))))))))))).trans (hfg8 k j (fun h => hk (Or.inl h))))) (by decide) (by decide))
        · skip
          refine mm_g 1 (pc1 := 51) (lo1 := [some (.ref 0), some (.int (Int32.ofInt a1)), some (.int (Int32.ofInt a2)), some (.int (Int32.ofInt v9))]) (st1 := [.ref 0]) (H1 := mz_mk g10 x) rfl ?_
          refine mz_fgR (v := x.1) rfl fd_11_16 (by decide) (sc_0 _) rfl ?_
          refine mm_g 1 (pc1 := 55) (lo1 := [some (.ref 0), some (.int (Int32.ofInt a1)), some (.int (Int32.ofInt a2)), some (.int (Int32.ofInt v9))]) (st1 := [.ref 0, .ref x.1]) (H1 := mz_mk g10 x) rfl ?_
          refine mz_fgR (v := 122) rfl fd_11_65 (by decide) (sc_0 _) (rf_0_10 _ _ _) ?_
          refine mm_g 1 (pc1 := 59) (lo1 := [some (.ref 0), some (.int (Int32.ofInt a1)), some (.int (Int32.ofInt a2)), some (.int (Int32.ofInt v9))]) (st1 := [.ref 0, .ref 122, .ref x.1]) (H1 := mz_mk g10 x) rfl ?_
          refine mz_fgR (v := 133) rfl fd_11_84 (by decide) (sc_0 _) (rf_0_13 _ _ _) ?_
          refine mz_cv rfl mt_11_286 (by decide) (kc_load (kx_1 hx) _) rfl (Nat.le_of_ble_eq_true rfl) (by omega) (c_X1_blendInto (by omega) hx hIg10 (kx_1 hx) kp_trunk_122 kp_let_133 (fun g14 hIg14 hfg14 => ⟨_, rfl, ?_⟩))
          show mm_W d mmX11_read 65 [some (.ref 0), some (.int (Int32.ofInt a1)), some (.int (Int32.ofInt a2)), some (.int (Int32.ofInt v9))] [] (mz_mk g14 x) Q
          refine mm_g 1 (pc1 := 66) (lo1 := [some (.ref 0), some (.int (Int32.ofInt a1)), some (.int (Int32.ofInt a2)), some (.int (Int32.ofInt v9))]) (st1 := [.ref 0]) (H1 := mz_mk g14 x) rfl ?_
          refine mz_fgR (v := 133) rfl fd_11_84 (by decide) (sc_0 _) (rf_0_13 _ _ _) ?_
          refine mm_g 1 (pc1 := 70) (lo1 := [some (.ref 0), some (.int (Int32.ofInt a1)), some (.int (Int32.ofInt a2)), some (.int (Int32.ofInt v9))]) (st1 := [.ref 0, .ref 133]) (H1 := mz_mk g14 x) rfl ?_
          refine mz_fgR (v := x.1) rfl fd_11_16 (by decide) (sc_0 _) rfl ?_
          refine mz_fgR (v := (x.1 + 1)) rfl fd_11_135 (by decide) (kc_load (kx_1 hx) _) (kr_load_0 (kx_1 hx) _ _ _) ?_
          refine mm_g 1 (pc1 := 77) (lo1 := [some (.ref 0), some (.int (Int32.ofInt a1)), some (.int (Int32.ofInt a2)), some (.int (Int32.ofInt v9))]) (st1 := [.int (Int32.ofInt a2), .ref (x.1 + 1), .ref 133]) (H1 := mz_mk g14 x) rfl ?_
          refine mz_cv rfl mt_11_203 (by decide) (kc_words (ks_load_0 (kx_1 hx)) _) rfl (Nat.le_of_ble_eq_true rfl) (by omega) (c_X10_of (by omega) hx hIg14 (ks_load_0 (kx_1 hx)) l_a2 u_a2 (fun u15 k_u15 hp16 => ⟨_, rfl, ?_⟩))
          show mm_W d mmX11_read 80 [some (.ref 0), some (.int (Int32.ofInt a1)), some (.int (Int32.ofInt a2)), some (.int (Int32.ofInt v9))] [.ref u15, .ref 133] (mz_mk g14 x) Q
          refine mz_cv rfl mt_11_305 (by decide) (sc_133 _) rfl (Nat.le_of_ble_eq_true rfl) (by omega) (c_X0_holds (by omega) hx hIg14 kp_let_133 k_u15 (fun v17 l_v17 u_v17 => ⟨_, rfl, ?_⟩))
          show mm_W d mmX11_read 83 [some (.ref 0), some (.int (Int32.ofInt a1)), some (.int (Int32.ofInt a2)), some (.int (Int32.ofInt v9))] [.int (Int32.ofInt v17)] (mz_mk g14 x) Q
          refine mz_if_eq (tgt := 88) rfl rfl (mz_rg l_v17 u_v17) (fun c83_17 => ?_) (fun c83_17 => ?_)
          · skip
            refine mm_g 2 (pc1 := 90) (lo1 := [some (.ref 0), some (.int (Int32.ofInt a1)), some (.int (Int32.ofInt a2)), some (.int (Int32.ofInt v9))]) (st1 := [.ref 0, .ref 0]) (H1 := mz_mk g14 x) rfl ?_
            refine mz_fgR (v := 122) rfl fd_11_65 (by decide) (sc_0 _) (rf_0_10 _ _ _) ?_
            refine mm_g 1 (pc1 := 94) (lo1 := [some (.ref 0), some (.int (Int32.ofInt a1)), some (.int (Int32.ofInt a2)), some (.int (Int32.ofInt v9))]) (st1 := [.int (Int32.ofInt v9), .ref 122, .ref 0]) (H1 := mz_mk g14 x) rfl ?_
            refine mz_cv rfl mt_11_301 (by decide) (sc_0 _) rfl (Nat.le_of_ble_eq_true rfl) (by omega) (c_X11_growBy (by omega) hx hIg14 kp_trunk_122 (by omega) (by omega) (fun g18 hIg18 hfg18 => ⟨_, rfl, ?_⟩))
            show mm_W d mmX11_read 97 [some (.ref 0), some (.int (Int32.ofInt a1)), some (.int (Int32.ofInt a2)), some (.int (Int32.ofInt v9))] [] (mz_mk g18 x) Q
            refine mz_iincR (v := v9) (lo2 := [some (.ref 0), some (.int (Int32.ofInt a1)), some (.int (Int32.ofInt a2)), some (.int (Int32.ofInt (v9 + 1)))]) rfl rfl rfl (Nat.le_of_ble_eq_true rfl) rfl ?_
            refine mz_gt (tgt := 44) rfl rfl ?_
            exact ih11 ((61 - (v9 + 1)).toNat) (by omega) (v9 + 1) g18 rfl (by omega) (by omega) hIg18 (fun k j hk => ((hfg18 k j (fun h => hk (Or.elim h (fun h => (Or.inr (Or.inr (Or.inl h)))) (fun h => (Or.elim h (fun h => (Or.inr (Or.inr (Or.inr (Or.inl h))))) (fun h => (Or.inr (Or.inr (Or.inr (Or.inr h)))))))))).trans ((hfg14 k j (fun h => hk (Or.elim h (fun h => (Or.inl h)) (fun h => (Or.inr (Or.inl h)))))).trans (hfg10 k j (fun h => hk (Or.elim h (fun h => (Or.inl h)) (fun h => (Or.elim h (fun h => (Or.inr (Or.inl h))) (fun h => (Or.elim h (fun h => (Or.inr (Or.inr (Or.inl h)))) (fun h => (Or.elim h (fun h => (Or.inr (Or.inr (Or.inr (Or.inl h))))) (fun h => (Or.inr (Or.inr (Or.inr (Or.inr h)))))))))))))))))
          · skip
            refine mm_g 1 (pc1 := 87) (lo1 := [some (.ref 0), some (.int (Int32.ofInt a1)), some (.int (Int32.ofInt a2)), some (.int (Int32.ofInt v9))]) (st1 := [.int (Int32.ofInt v9)]) (H1 := mz_mk g14 x) rfl ?_
            exact mm_rt rfl rfl (hQ _ _ hIg14 (fun k j hk => ((hfg14 k j (fun h => hk (Or.elim h (fun h => (Or.inr (Or.inl h))) (fun h => (Or.inr (Or.inr (Or.inl h))))))).trans ((hfg10 k j (fun h => hk (Or.elim h (fun h => (Or.inr (Or.inl h))) (fun h => (Or.elim h (fun h => (Or.inr (Or.inr (Or.inl h)))) (fun h => (Or.elim h (fun h => (Or.inl h)) (fun h => (Or.elim h (fun h => (Or.inr (Or.inr (Or.inr (Or.inl h))))) (fun h => (Or.inr (Or.inr (Or.inr (Or.inr h)))))))))))))).trans (hfg8 k j (fun h => hk (Or.inl h)))))) (by omega) (by omega))
      exact L13 _ 0 g8 rfl (by decide) (by decide) hIg8 (fun _ _ _ => rfl)
def fl_X11_alike_69 (x : mm_X) (a1 : Int) (a2 : Int) : Nat → Nat → Prop := fun k j => k = 133 ∨ k = 134 ∨ k = 135 ∨ k = 136 ∨ k = 122 ∨ k = ((x.1 + 36) + 2) ∨ k = ((x.1 + 36) + 3) ∨ k = 123
def fw_X11_alike (x : mm_X) (a1 : Int) (a2 : Int) : Nat → Nat → Prop := fun k j => k = 122 ∨ k = 123 ∨ k = 133 ∨ k = 134 ∨ k = 135 ∨ k = 136 ∨ k = ((x.1 + 36) + 2) ∨ k = ((x.1 + 36) + 3)
theorem c_X11_alike {d : Nat} (hd : 15 ≤ d) {x : mm_X} (hx : mk_x x) {g : mz_G} (hI : mz_inv g) {a1 : Int} (l_a1 : (-2147483648) ≤ a1) (u_a1 : a1 ≤ 2147483647) {a2 : Int} (l_a2 : (-2147483648) ≤ a2) (u_a2 : a2 ≤ 2147483647) {Q : (Option Value ⊕ Nat) → mm_H → Prop} (hQ : ∀ (r : Int) (g1 : mz_G), mz_inv g1 → mz_fr (fw_X11_alike x a1 a2) g g1 → (-1) ≤ r → r ≤ 60 → Q (.inl (some (.int (Int32.ofInt r)))) (mz_mk g1 x)) (hX : ∀ E, Q (.inr E) (mz_mk g (mz_tx x))) : mm_C d 145 [.ref 0, .int (Int32.ofInt a1), .int (Int32.ofInt a2)] (mz_mk g x) Q := by
  have kx := kn_x hx
  refine ⟨mmX11_alike, [some (.ref 0), some (.int (Int32.ofInt a1)), some (.int (Int32.ofInt a2)), none], rfl, rfl, ?_⟩
  refine mm_g 2 (pc1 := 2) (lo1 := [some (.ref 0), some (.int (Int32.ofInt a1)), some (.int (Int32.ofInt a2)), none]) (st1 := [.int (Int32.ofInt a1), .ref 0]) (H1 := mz_mk g x) rfl ?_
  refine mz_cv rfl mt_11_231 (by decide) (sc_0 _) rfl (Nat.le_of_ble_eq_true rfl) (by omega) (c_X11_isTrunk (by omega) hx hI l_a1 u_a1 (fun v1 l_v1 u_v1 => ⟨_, rfl, ?_⟩))
  show mm_W d mmX11_alike 5 [some (.ref 0), some (.int (Int32.ofInt a1)), some (.int (Int32.ofInt a2)), none] [.int (Int32.ofInt v1)] (mz_mk g x) Q
  refine mz_if_eq (tgt := 20) rfl rfl (mz_rg l_v1 u_v1) (fun c5_1 => ?_) (fun c5_1 => ?_)
  · skip
    refine mm_g 1 (pc1 := 21) (lo1 := [some (.ref 0), some (.int (Int32.ofInt a1)), some (.int (Int32.ofInt a2)), none]) (st1 := [.int (Int32.ofInt 0)]) (H1 := mz_mk g x) rfl ?_
    refine mz_csx rfl mt_11_183 rfl (Nat.le_of_ble_eq_true rfl) (by omega) rfl nh_X11_mustBe (c_X11_mustBe (by omega) hx hI (by decide) (by decide) (fun hp2 => ?_) (fun E => hX E))
    show mm_W d mmX11_alike 24 [some (.ref 0), some (.int (Int32.ofInt a1)), some (.int (Int32.ofInt a2)), none] [] (mz_mk g x) Q
    exfalso; omega
  · skip
    refine mm_g 2 (pc1 := 10) (lo1 := [some (.ref 0), some (.int (Int32.ofInt a1)), some (.int (Int32.ofInt a2)), none]) (st1 := [.int (Int32.ofInt a2), .ref 0]) (H1 := mz_mk g x) rfl ?_
    refine mz_cv rfl mt_11_231 (by decide) (sc_0 _) rfl (Nat.le_of_ble_eq_true rfl) (by omega) (c_X11_isTrunk (by omega) hx hI l_a2 u_a2 (fun v3 l_v3 u_v3 => ⟨_, rfl, ?_⟩))
    show mm_W d mmX11_alike 13 [some (.ref 0), some (.int (Int32.ofInt a1)), some (.int (Int32.ofInt a2)), none] [.int (Int32.ofInt v3)] (mz_mk g x) Q
    refine mz_if_eq (tgt := 20) rfl rfl (mz_rg l_v3 u_v3) (fun c13_3 => ?_) (fun c13_3 => ?_)
    · skip
      refine mm_g 1 (pc1 := 21) (lo1 := [some (.ref 0), some (.int (Int32.ofInt a1)), some (.int (Int32.ofInt a2)), none]) (st1 := [.int (Int32.ofInt 0)]) (H1 := mz_mk g x) rfl ?_
      refine mz_csx rfl mt_11_183 rfl (Nat.le_of_ble_eq_true rfl) (by omega) rfl nh_X11_mustBe (c_X11_mustBe (by omega) hx hI (by decide) (by decide) (fun hp4 => ?_) (fun E => hX E))
      show mm_W d mmX11_alike 24 [some (.ref 0), some (.int (Int32.ofInt a1)), some (.int (Int32.ofInt a2)), none] [] (mz_mk g x) Q
      exfalso; omega
    · skip
      refine mm_g 1 (pc1 := 17) (lo1 := [some (.ref 0), some (.int (Int32.ofInt a1)), some (.int (Int32.ofInt a2)), none]) (st1 := [.int (Int32.ofInt 1)]) (H1 := mz_mk g x) rfl ?_
      refine mz_gt (tgt := 21) rfl rfl ?_
      refine mz_csx rfl mt_11_183 rfl (Nat.le_of_ble_eq_true rfl) (by omega) rfl nh_X11_mustBe (c_X11_mustBe (by omega) hx hI (by decide) (by decide) (fun hp5 => ?_) (fun E => hX E))
      show mm_W d mmX11_alike 24 [some (.ref 0), some (.int (Int32.ofInt a1)), some (.int (Int32.ofInt a2)), none] [] (mz_mk g x) Q
      refine mm_g 2 (pc1 := 26) (lo1 := [some (.ref 0), some (.int (Int32.ofInt a1)), some (.int (Int32.ofInt a2)), none]) (st1 := [.int (Int32.ofInt a2), .int (Int32.ofInt a1)]) (H1 := mz_mk g x) rfl ?_
      refine mz_ic_ne (tgt := 31) rfl rfl (mz_rg l_a1 u_a1) (mz_rg l_a2 u_a2) (fun c26_5 => ?_) (fun c26_5 => ?_)
      · skip
        refine mm_g 1 (pc1 := 32) (lo1 := [some (.ref 0), some (.int (Int32.ofInt a1)), some (.int (Int32.ofInt a2)), none]) (st1 := [.ref 0]) (H1 := mz_mk g x) rfl ?_
        refine mz_fgR (v := 122) rfl fd_11_65 (by decide) (sc_0 _) (rf_0_10 _ _ _) ?_
        refine mm_g 1 (pc1 := 36) (lo1 := [some (.ref 0), some (.int (Int32.ofInt a1)), some (.int (Int32.ofInt a2)), none]) (st1 := [.ref 0, .ref 122]) (H1 := mz_mk g x) rfl ?_
        refine mz_fgR (v := 86) rfl fd_11_37 (by decide) (sc_0 _) (rf_0_5 _ _ _) ?_
        refine mz_fgR (v := 87) rfl fd_11_158 (by decide) (sc_86 _) (rf_86_0 _ _ _) ?_
        refine mm_g 1 (pc1 := 43) (lo1 := [some (.ref 0), some (.int (Int32.ofInt a1)), some (.int (Int32.ofInt a2)), none]) (st1 := [.int (Int32.ofInt a1), .ref 87, .ref 122]) (H1 := mz_mk g x) rfl ?_
        refine mz_cv rfl mt_11_192 (by decide) (sc_87 _) rfl (Nat.le_of_ble_eq_true rfl) (by omega) (c_X9_get (by omega) hx hI kp_tks_87 l_a1 u_a1 (fun u6 k_u6 hp7 => ⟨_, rfl, ?_⟩))
        show mm_W d mmX11_alike 46 [some (.ref 0), some (.int (Int32.ofInt a1)), some (.int (Int32.ofInt a2)), none] [.ref u6, .ref 122] (mz_mk g x) Q
        refine mz_cv rfl mt_11_297 (by decide) (sc_122 _) rfl (Nat.le_of_ble_eq_true rfl) (by omega) (c_X8_becomeAs (by omega) hx hI kp_trunk_122 k_u6 (fun g8 hIg8 hfg8 => ⟨_, rfl, ?_⟩))
        show mm_W d mmX11_alike 49 [some (.ref 0), some (.int (Int32.ofInt a1)), some (.int (Int32.ofInt a2)), none] [] (mz_mk g8 x) Q
        refine mm_g 1 (pc1 := 50) (lo1 := [some (.ref 0), some (.int (Int32.ofInt a1)), some (.int (Int32.ofInt a2)), none]) (st1 := [.ref 0]) (H1 := mz_mk g8 x) rfl ?_
        refine mz_fgR (v := 123) rfl fd_11_69 (by decide) (sc_0 _) (rf_0_11 _ _ _) ?_
        refine mm_g 1 (pc1 := 54) (lo1 := [some (.ref 0), some (.int (Int32.ofInt a1)), some (.int (Int32.ofInt a2)), none]) (st1 := [.ref 0, .ref 123]) (H1 := mz_mk g8 x) rfl ?_
        refine mz_fgR (v := 86) rfl fd_11_37 (by decide) (sc_0 _) (rf_0_5 _ _ _) ?_
        refine mz_fgR (v := 87) rfl fd_11_158 (by decide) (sc_86 _) (rf_86_0 _ _ _) ?_
        refine mm_g 1 (pc1 := 61) (lo1 := [some (.ref 0), some (.int (Int32.ofInt a1)), some (.int (Int32.ofInt a2)), none]) (st1 := [.int (Int32.ofInt a2), .ref 87, .ref 123]) (H1 := mz_mk g8 x) rfl ?_
        refine mz_cv rfl mt_11_192 (by decide) (sc_87 _) rfl (Nat.le_of_ble_eq_true rfl) (by omega) (c_X9_get (by omega) hx hIg8 kp_tks_87 l_a2 u_a2 (fun u9 k_u9 hp10 => ⟨_, rfl, ?_⟩))
        show mm_W d mmX11_alike 64 [some (.ref 0), some (.int (Int32.ofInt a1)), some (.int (Int32.ofInt a2)), none] [.ref u9, .ref 123] (mz_mk g8 x) Q
        refine mz_cv rfl mt_11_297 (by decide) (sc_123 _) rfl (Nat.le_of_ble_eq_true rfl) (by omega) (c_X8_becomeAs (by omega) hx hIg8 kp_trunk_123 k_u9 (fun g11 hIg11 hfg11 => ⟨_, rfl, ?_⟩))
        show mm_W d mmX11_alike 67 [some (.ref 0), some (.int (Int32.ofInt a1)), some (.int (Int32.ofInt a2)), none] [] (mz_mk g11 x) Q
        refine mm_g 2 (pc1 := 69) (lo1 := [some (.ref 0), some (.int (Int32.ofInt a1)), some (.int (Int32.ofInt a2)), some (.int (Int32.ofInt 0))]) (st1 := []) (H1 := mz_mk g11 x) rfl ?_
        have L16 : ∀ n15 : Nat, ∀ (v12 : Int) (g13 : mz_G), (61 - v12).toNat = n15 → 0 ≤ v12 → v12 ≤ 61 → mz_inv g13 → mz_fr (fl_X11_alike_69 x a1 a2) g11 g13 → mm_W d mmX11_alike 69 [some (.ref 0), some (.int (Int32.ofInt a1)), some (.int (Int32.ofInt a2)), some (.int (Int32.ofInt v12))] [] (mz_mk g13 x) Q := by
          intro n15
          induction n15 using Nat.strongRecOn with
          | ind n15 ih14 =>
          intro v12 g13 hmn15 l_v12 u_v12 hIg13 hfg13
          refine mm_g 1 (pc1 := 70) (lo1 := [some (.ref 0), some (.int (Int32.ofInt a1)), some (.int (Int32.ofInt a2)), some (.int (Int32.ofInt v12))]) (st1 := [.int (Int32.ofInt v12)]) (H1 := mz_mk g13 x) rfl ?_
          refine mz_bip rfl bip_60 ?_
          refine mz_ic_gt (tgt := 145) rfl rfl (mz_rg l_v12 u_v12) ⟨by decide, by decide⟩ (fun c72_16 => ?_) (fun c72_16 => ?_)
          · skip
            refine mm_g 1 (pc1 := 146) (lo1 := [some (.ref 0), some (.int (Int32.ofInt a1)), some (.int (Int32.ofInt a2)), some (.int (Int32.ofInt v12))]) (st1 := [.int (Int32.ofInt (-1))]) (H1 := mz_mk g13 x) rfl ?_
            exact mm_rt rfl rfl (hQ _ _ hIg13 (fun k j hk => ((hfg13 k j (fun h => hk (Or.elim h (fun h => (Or.inr (Or.inr (Or.inl h)))) (fun h => (Or.elim h (fun h => (Or.inr (Or.inr (Or.inr (Or.inl h))))) (fun h => (Or.elim h (fun h => (Or.inr (Or.inr (Or.inr (Or.inr (Or.inl h)))))) (fun h => (Or.elim h (fun h => (Or.inr (Or.inr (Or.inr (Or.inr (Or.inr (Or.inl h))))))) (fun h => (Or.elim h (fun h => (Or.inl h)) (fun h => (Or.elim h (fun h => (Or.inr (Or.inr (Or.inr (Or.inr (Or.inr (Or.inr (Or.inl h)))))))) (fun h => (Or.elim h (fun h => (Or.inr (Or.inr (Or.inr (Or.inr (Or.inr (Or.inr (Or.inr h)))))))) (fun h => (Or.inr (Or.inl h)))))))))))))))))).trans ((hfg11 k j (fun h => hk (Or.inr (Or.inl h)))).trans (hfg8 k j (fun h => hk (Or.inl h)))))) (by decide) (by decide))
          · skip
            refine mm_g 1 (pc1 := 76) (lo1 := [some (.ref 0), some (.int (Int32.ofInt a1)), some (.int (Int32.ofInt a2)), some (.int (Int32.ofInt v12))]) (st1 := [.ref 0]) (H1 := mz_mk g13 x) rfl ?_
            refine mz_fgR (v := x.1) rfl fd_11_16 (by decide) (sc_0 _) rfl ?_
            refine mm_g 1 (pc1 := 80) (lo1 := [some (.ref 0), some (.int (Int32.ofInt a1)), some (.int (Int32.ofInt a2)), some (.int (Int32.ofInt v12))]) (st1 := [.ref 0, .ref x.1]) (H1 := mz_mk g13 x) rfl ?_
            refine mz_fgR (v := 122) rfl fd_11_65 (by decide) (sc_0 _) (rf_0_10 _ _ _) ?_
            refine mm_g 1 (pc1 := 84) (lo1 := [some (.ref 0), some (.int (Int32.ofInt a1)), some (.int (Int32.ofInt a2)), some (.int (Int32.ofInt v12))]) (st1 := [.ref 0, .ref 122, .ref x.1]) (H1 := mz_mk g13 x) rfl ?_
            refine mz_fgR (v := 133) rfl fd_11_84 (by decide) (sc_0 _) (rf_0_13 _ _ _) ?_
            refine mz_cv rfl mt_11_286 (by decide) (kc_load (kx_1 hx) _) rfl (Nat.le_of_ble_eq_true rfl) (by omega) (c_X1_blendInto (by omega) hx hIg13 (kx_1 hx) kp_trunk_122 kp_let_133 (fun g17 hIg17 hfg17 => ⟨_, rfl, ?_⟩))
            show mm_W d mmX11_alike 90 [some (.ref 0), some (.int (Int32.ofInt a1)), some (.int (Int32.ofInt a2)), some (.int (Int32.ofInt v12))] [] (mz_mk g17 x) Q
            refine mm_g 1 (pc1 := 91) (lo1 := [some (.ref 0), some (.int (Int32.ofInt a1)), some (.int (Int32.ofInt a2)), some (.int (Int32.ofInt v12))]) (st1 := [.ref 0]) (H1 := mz_mk g17 x) rfl ?_
            refine mz_fgR (v := x.1) rfl fd_11_16 (by decide) (sc_0 _) rfl ?_
            refine mm_g 1 (pc1 := 95) (lo1 := [some (.ref 0), some (.int (Int32.ofInt a1)), some (.int (Int32.ofInt a2)), some (.int (Int32.ofInt v12))]) (st1 := [.ref 0, .ref x.1]) (H1 := mz_mk g17 x) rfl ?_
            refine mz_fgR (v := 123) rfl fd_11_69 (by decide) (sc_0 _) (rf_0_11 _ _ _) ?_
            refine mm_g 1 (pc1 := 99) (lo1 := [some (.ref 0), some (.int (Int32.ofInt a1)), some (.int (Int32.ofInt a2)), some (.int (Int32.ofInt v12))]) (st1 := [.ref 0, .ref 123, .ref x.1]) (H1 := mz_mk g17 x) rfl ?_
            refine mz_fgR (v := 135) rfl fd_11_88 (by decide) (sc_0 _) (rf_0_14 _ _ _) ?_
            refine mz_cv rfl mt_11_286 (by decide) (kc_load (kx_1 hx) _) rfl (Nat.le_of_ble_eq_true rfl) (by omega) (c_X1_blendInto (by omega) hx hIg17 (kx_1 hx) kp_trunk_123 kp_let_135 (fun g18 hIg18 hfg18 => ⟨_, rfl, ?_⟩))
            show mm_W d mmX11_alike 105 [some (.ref 0), some (.int (Int32.ofInt a1)), some (.int (Int32.ofInt a2)), some (.int (Int32.ofInt v12))] [] (mz_mk g18 x) Q
            refine mm_g 1 (pc1 := 106) (lo1 := [some (.ref 0), some (.int (Int32.ofInt a1)), some (.int (Int32.ofInt a2)), some (.int (Int32.ofInt v12))]) (st1 := [.ref 0]) (H1 := mz_mk g18 x) rfl ?_
            refine mz_fgR (v := 133) rfl fd_11_84 (by decide) (sc_0 _) (rf_0_13 _ _ _) ?_
            refine mm_g 1 (pc1 := 110) (lo1 := [some (.ref 0), some (.int (Int32.ofInt a1)), some (.int (Int32.ofInt a2)), some (.int (Int32.ofInt v12))]) (st1 := [.ref 0, .ref 133]) (H1 := mz_mk g18 x) rfl ?_
            refine mz_fgR (v := 135) rfl fd_11_88 (by decide) (sc_0 _) (rf_0_14 _ _ _) ?_
            refine mz_cv rfl mt_11_309 (by decide) (sc_133 _) rfl (Nat.le_of_ble_eq_true rfl) (by omega) (c_X0_isSame (by omega) hx hIg18 kp_let_133 kp_let_135 (fun v19 l_v19 u_v19 => ⟨_, rfl, ?_⟩))
            show mm_W d mmX11_alike 116 [some (.ref 0), some (.int (Int32.ofInt a1)), some (.int (Int32.ofInt a2)), some (.int (Int32.ofInt v12))] [.int (Int32.ofInt v19)] (mz_mk g18 x) Q
            refine mz_if_eq (tgt := 121) rfl rfl (mz_rg l_v19 u_v19) (fun c116_19 => ?_) (fun c116_19 => ?_)
            · skip
              refine mm_g 2 (pc1 := 123) (lo1 := [some (.ref 0), some (.int (Int32.ofInt a1)), some (.int (Int32.ofInt a2)), some (.int (Int32.ofInt v12))]) (st1 := [.ref 0, .ref 0]) (H1 := mz_mk g18 x) rfl ?_
              refine mz_fgR (v := 122) rfl fd_11_65 (by decide) (sc_0 _) (rf_0_10 _ _ _) ?_
              refine mm_g 1 (pc1 := 127) (lo1 := [some (.ref 0), some (.int (Int32.ofInt a1)), some (.int (Int32.ofInt a2)), some (.int (Int32.ofInt v12))]) (st1 := [.int (Int32.ofInt v12), .ref 122, .ref 0]) (H1 := mz_mk g18 x) rfl ?_
              refine mz_cv rfl mt_11_301 (by decide) (sc_0 _) rfl (Nat.le_of_ble_eq_true rfl) (by omega) (c_X11_growBy (by omega) hx hIg18 kp_trunk_122 (by omega) (by omega) (fun g20 hIg20 hfg20 => ⟨_, rfl, ?_⟩))
              show mm_W d mmX11_alike 130 [some (.ref 0), some (.int (Int32.ofInt a1)), some (.int (Int32.ofInt a2)), some (.int (Int32.ofInt v12))] [] (mz_mk g20 x) Q
              refine mm_g 2 (pc1 := 132) (lo1 := [some (.ref 0), some (.int (Int32.ofInt a1)), some (.int (Int32.ofInt a2)), some (.int (Int32.ofInt v12))]) (st1 := [.ref 0, .ref 0]) (H1 := mz_mk g20 x) rfl ?_
              refine mz_fgR (v := 123) rfl fd_11_69 (by decide) (sc_0 _) (rf_0_11 _ _ _) ?_
              refine mm_g 1 (pc1 := 136) (lo1 := [some (.ref 0), some (.int (Int32.ofInt a1)), some (.int (Int32.ofInt a2)), some (.int (Int32.ofInt v12))]) (st1 := [.int (Int32.ofInt v12), .ref 123, .ref 0]) (H1 := mz_mk g20 x) rfl ?_
              refine mz_cv rfl mt_11_301 (by decide) (sc_0 _) rfl (Nat.le_of_ble_eq_true rfl) (by omega) (c_X11_growBy (by omega) hx hIg20 kp_trunk_123 (by omega) (by omega) (fun g21 hIg21 hfg21 => ⟨_, rfl, ?_⟩))
              show mm_W d mmX11_alike 139 [some (.ref 0), some (.int (Int32.ofInt a1)), some (.int (Int32.ofInt a2)), some (.int (Int32.ofInt v12))] [] (mz_mk g21 x) Q
              refine mz_iincR (v := v12) (lo2 := [some (.ref 0), some (.int (Int32.ofInt a1)), some (.int (Int32.ofInt a2)), some (.int (Int32.ofInt (v12 + 1)))]) rfl rfl rfl (Nat.le_of_ble_eq_true rfl) rfl ?_
              refine mz_gt (tgt := 69) rfl rfl ?_
              exact ih14 ((61 - (v12 + 1)).toNat) (by omega) (v12 + 1) g21 rfl (by omega) (by omega) hIg21 (fun k j hk => ((hfg21 k j (fun h => hk (Or.elim h (fun h => (Or.inr (Or.inr (Or.inr (Or.inr (Or.inr (Or.inr (Or.inr h)))))))) (fun h => (Or.elim h (fun h => (Or.inr (Or.inr (Or.inr (Or.inr (Or.inr (Or.inl h))))))) (fun h => (Or.inr (Or.inr (Or.inr (Or.inr (Or.inr (Or.inr (Or.inl h))))))))))))).trans ((hfg20 k j (fun h => hk (Or.elim h (fun h => (Or.inr (Or.inr (Or.inr (Or.inr (Or.inl h)))))) (fun h => (Or.elim h (fun h => (Or.inr (Or.inr (Or.inr (Or.inr (Or.inr (Or.inl h))))))) (fun h => (Or.inr (Or.inr (Or.inr (Or.inr (Or.inr (Or.inr (Or.inl h))))))))))))).trans ((hfg18 k j (fun h => hk (Or.elim h (fun h => (Or.inr (Or.inr (Or.inl h)))) (fun h => (Or.inr (Or.inr (Or.inr (Or.inl h)))))))).trans ((hfg17 k j (fun h => hk (Or.elim h (fun h => (Or.inl h)) (fun h => (Or.inr (Or.inl h)))))).trans (hfg13 k j (fun h => hk (Or.elim h (fun h => (Or.inl h)) (fun h => (Or.elim h (fun h => (Or.inr (Or.inl h))) (fun h => (Or.elim h (fun h => (Or.inr (Or.inr (Or.inl h)))) (fun h => (Or.elim h (fun h => (Or.inr (Or.inr (Or.inr (Or.inl h))))) (fun h => (Or.elim h (fun h => (Or.inr (Or.inr (Or.inr (Or.inr (Or.inl h)))))) (fun h => (Or.elim h (fun h => (Or.inr (Or.inr (Or.inr (Or.inr (Or.inr (Or.inl h))))))) (fun h => (Or.elim h (fun h => (Or.inr (Or.inr (Or.inr (Or.inr (Or.inr (Or.inr (Or.inl h)))))))) (fun h => (Or.inr (Or.inr (Or.inr (Or.inr (Or.inr (Or.inr (Or.inr h))))))))))))))))))))))))))))
            · skip
              refine mm_g 1 (pc1 := 120) (lo1 := [some (.ref 0), some (.int (Int32.ofInt a1)), some (.int (Int32.ofInt a2)), some (.int (Int32.ofInt v12))]) (st1 := [.int (Int32.ofInt v12)]) (H1 := mz_mk g18 x) rfl ?_
              exact mm_rt rfl rfl (hQ _ _ hIg18 (fun k j hk => ((hfg18 k j (fun h => hk (Or.elim h (fun h => (Or.inr (Or.inr (Or.inr (Or.inr (Or.inl h)))))) (fun h => (Or.inr (Or.inr (Or.inr (Or.inr (Or.inr (Or.inl h)))))))))).trans ((hfg17 k j (fun h => hk (Or.elim h (fun h => (Or.inr (Or.inr (Or.inl h)))) (fun h => (Or.inr (Or.inr (Or.inr (Or.inl h)))))))).trans ((hfg13 k j (fun h => hk (Or.elim h (fun h => (Or.inr (Or.inr (Or.inl h)))) (fun h => (Or.elim h (fun h => (Or.inr (Or.inr (Or.inr (Or.inl h))))) (fun h => (Or.elim h (fun h => (Or.inr (Or.inr (Or.inr (Or.inr (Or.inl h)))))) (fun h => (Or.elim h (fun h => (Or.inr (Or.inr (Or.inr (Or.inr (Or.inr (Or.inl h))))))) (fun h => (Or.elim h (fun h => (Or.inl h)) (fun h => (Or.elim h (fun h => (Or.inr (Or.inr (Or.inr (Or.inr (Or.inr (Or.inr (Or.inl h)))))))) (fun h => (Or.elim h (fun h => (Or.inr (Or.inr (Or.inr (Or.inr (Or.inr (Or.inr (Or.inr h)))))))) (fun h => (Or.inr (Or.inl h)))))))))))))))))).trans ((hfg11 k j (fun h => hk (Or.inr (Or.inl h)))).trans (hfg8 k j (fun h => hk (Or.inl h)))))))) (by omega) (by omega))
        exact L16 _ 0 g11 rfl (by decide) (by decide) hIg11 (fun _ _ _ => rfl)
      · skip
        refine mm_g 1 (pc1 := 30) (lo1 := [some (.ref 0), some (.int (Int32.ofInt a1)), some (.int (Int32.ofInt a2)), none]) (st1 := [.int (Int32.ofInt (-1))]) (H1 := mz_mk g x) rfl ?_
        exact mm_rt rfl rfl (hQ _ _ hI (fun _ _ _ => rfl) (by decide) (by decide))
def fl_X2_common_2 (x : mm_X) (q1 : Nat) (q2 : Nat) : Nat → Nat → Prop := fun k j => k = 117
def fl_X2_common_27 (x : mm_X) (q1 : Nat) (q2 : Nat) : Nat → Nat → Prop := fun k j => k = 117
def fl_X2_common_41 (x : mm_X) (q1 : Nat) (q2 : Nat) : Nat → Nat → Prop := fun k j => k = 117
def fw_X2_common (x : mm_X) (q1 : Nat) (q2 : Nat) : Nat → Nat → Prop := fun k j => k = 117
theorem c_X2_common {d : Nat} (hd : 12 ≤ d) {x : mm_X} (hx : mk_x x) {g : mz_G} (hI : mz_inv g) {q1 : Nat} (h_q1 : kd_let q1) {q2 : Nat} (h_q2 : kd_let q2) {Q : (Option Value ⊕ Nat) → mm_H → Prop} (hQ : ∀ (r : Int) (g1 : mz_G), mz_inv g1 → mz_fr (fw_X2_common x q1 q2) g g1 → (-2147483648) ≤ r → r ≤ 2147483647 → Q (.inl (some (.int (Int32.ofInt r)))) (mz_mk g1 x)) : mm_C d 26 [.ref 116, .ref q1, .ref q2] (mz_mk g x) Q := by
  have kn_q1 := kn_let h_q1
  have kn_q2 := kn_let h_q2
  refine ⟨mmX2_common, [some (.ref 116), some (.ref q1), some (.ref q2), none, none, none, none, none], rfl, rfl, ?_⟩
  refine mm_g 2 (pc1 := 2) (lo1 := [some (.ref 116), some (.ref q1), some (.ref q2), some (.int (Int32.ofInt 0)), none, none, none, none]) (st1 := []) (H1 := mz_mk g x) rfl ?_
  have L5 : ∀ n4 : Nat, ∀ (v1 : Int) (g2 : mz_G), (17 - v1).toNat = n4 → 0 ≤ v1 → v1 ≤ 17 → mz_inv g2 → mz_fr (fl_X2_common_2 x q1 q2) g g2 → mm_W d mmX2_common 2 [some (.ref 116), some (.ref q1), some (.ref q2), some (.int (Int32.ofInt v1)), none, none, none, none] [] (mz_mk g2 x) Q := by
    intro n4
    induction n4 using Nat.strongRecOn with
    | ind n4 ih3 =>
    intro v1 g2 hmn4 l_v1 u_v1 hIg2 hfg2
    refine mm_g 2 (pc1 := 4) (lo1 := [some (.ref 116), some (.ref q1), some (.ref q2), some (.int (Int32.ofInt v1)), none, none, none, none]) (st1 := [.ref q2, .int (Int32.ofInt v1)]) (H1 := mz_mk g2 x) rfl ?_
    refine mz_cv rfl mt_2_15 (by decide) (kc_let h_q2 _) rfl (Nat.le_of_ble_eq_true rfl) (by omega) (c_X0_length (by omega) hx hIg2 h_q2 (fun v6 l_v6 u_v6 => ⟨_, rfl, ?_⟩))
    show mm_W d mmX2_common 7 [some (.ref 116), some (.ref q1), some (.ref q2), some (.int (Int32.ofInt v1)), none, none, none, none] [.int (Int32.ofInt v6), .int (Int32.ofInt v1)] (mz_mk g2 x) Q
    refine mz_ic_gt (tgt := 25) rfl rfl (mz_rg l_v1 u_v1) (mz_rg l_v6 u_v6) (fun c7_6 => ?_) (fun c7_6 => ?_)
    · skip
      refine mm_g 2 (pc1 := 27) (lo1 := [some (.ref 116), some (.ref q1), some (.ref q2), some (.int (Int32.ofInt 0)), none, none, none, none]) (st1 := []) (H1 := mz_mk g2 x) rfl ?_
      have L15 : ∀ n14 : Nat, ∀ (v7 : Int) (o8 : Option Value) (o9 : Option Value) (o10 : Option Value) (o11 : Option Value) (g12 : mz_G), (16 - v7).toNat = n14 → 0 ≤ v7 → v7 ≤ 16 → mz_nl o8 → mz_nl o9 → mz_nl o10 → mz_nl o11 → mz_inv g12 → mz_fr (fl_X2_common_27 x q1 q2) g2 g12 → mm_W d mmX2_common 27 [some (.ref 116), some (.ref q1), some (.ref q2), some (.int (Int32.ofInt v7)), o8, o9, o10, o11] [] (mz_mk g12 x) Q := by
        intro n14
        induction n14 using Nat.strongRecOn with
        | ind n14 ih13 =>
        intro v7 o8 o9 o10 o11 g12 hmn14 l_v7 u_v7 h_o8 h_o9 h_o10 h_o11 hIg12 hfg12
        refine mm_g 2 (pc1 := 29) (lo1 := [some (.ref 116), some (.ref q1), some (.ref q2), some (.int (Int32.ofInt v7)), o8, o9, o10, o11]) (st1 := [.ref q1, .int (Int32.ofInt v7)]) (H1 := mz_mk g12 x) rfl ?_
        refine mz_cv rfl mt_2_15 (by decide) (kc_let h_q1 _) rfl (Nat.le_of_ble_eq_true rfl) (by omega) (c_X0_length (by omega) hx hIg12 h_q1 (fun v16 l_v16 u_v16 => ⟨_, rfl, ?_⟩))
        show mm_W d mmX2_common 32 [some (.ref 116), some (.ref q1), some (.ref q2), some (.int (Int32.ofInt v7)), o8, o9, o10, o11] [.int (Int32.ofInt v16), .int (Int32.ofInt v7)] (mz_mk g12 x) Q
        refine mz_ic_ge (tgt := 137) rfl rfl (mz_rg l_v7 u_v7) (mz_rg l_v16 u_v16) (fun c32_16 => ?_) (fun c32_16 => ?_)
        · skip
          refine mm_g 1 (pc1 := 138) (lo1 := [some (.ref 116), some (.ref q1), some (.ref q2), some (.int (Int32.ofInt v7)), o8, o9, o10, o11]) (st1 := [.ref 116]) (H1 := mz_mk g12 x) rfl ?_
          refine mz_fgR (v := 117) rfl fd_2_9 (by decide) (sc_116 _) (rf_116_0 _ _ _) ?_
          refine mm_g 1 (pc1 := 142) (lo1 := [some (.ref 116), some (.ref q1), some (.ref q2), some (.int (Int32.ofInt v7)), o8, o9, o10, o11]) (st1 := [.ref q2, .ref 117]) (H1 := mz_mk g12 x) rfl ?_
          refine mz_cv rfl mt_2_15 (by decide) (kc_let h_q2 _) rfl (Nat.le_of_ble_eq_true rfl) (by omega) (c_X0_length (by omega) hx hIg12 h_q2 (fun v17 l_v17 u_v17 => ⟨_, rfl, ?_⟩))
          show mm_W d mmX2_common 145 [some (.ref 116), some (.ref q1), some (.ref q2), some (.int (Int32.ofInt v7)), o8, o9, o10, o11] [.int (Int32.ofInt v17), .ref 117] (mz_mk g12 x) Q
          refine mz_cs rfl mt_2_25 (by decide) rfl (Nat.le_of_ble_eq_true rfl) (by omega) (c_X11_at (by omega) hx hIg12 (sh_117 _) (by decide) ba_117 (by omega) (by omega) (by omega) (by omega) (fun v18 l_v18 u_v18 => ⟨_, rfl, ?_⟩))
          show mm_W d mmX2_common 148 [some (.ref 116), some (.ref q1), some (.ref q2), some (.int (Int32.ofInt v7)), o8, o9, o10, o11] [.int (Int32.ofInt v18)] (mz_mk g12 x) Q
          exact mm_rt rfl rfl (hQ _ _ hIg12 (fun k j hk => ((hfg12 k j (fun h => hk h)).trans (hfg2 k j (fun h => hk h)))) (by omega) (by omega))
        · skip
          refine mm_g 4 (pc1 := 41) (lo1 := [some (.ref 116), some (.ref q1), some (.ref q2), some (.int (Int32.ofInt v7)), some (.int (Int32.ofInt 0)), some (.int (Int32.ofInt 0)), o10, o11]) (st1 := []) (H1 := mz_mk g12 x) rfl ?_
          have L26 : ∀ n25 : Nat, ∀ (v19 : Int) (v20 : Int) (o21 : Option Value) (o22 : Option Value) (g23 : mz_G), (16 - v20).toNat = n25 → (-2147483648) ≤ v19 → v19 ≤ 2147483647 → 0 ≤ v20 → v20 ≤ 16 → mz_nl o21 → mz_nl o22 → mz_inv g23 → mz_fr (fl_X2_common_41 x q1 q2) g12 g23 → mm_W d mmX2_common 41 [some (.ref 116), some (.ref q1), some (.ref q2), some (.int (Int32.ofInt v7)), some (.int (Int32.ofInt v19)), some (.int (Int32.ofInt v20)), o21, o22] [] (mz_mk g23 x) Q := by
            intro n25
            induction n25 using Nat.strongRecOn with
            | ind n25 ih24 =>
            intro v19 v20 o21 o22 g23 hmn25 l_v19 u_v19 l_v20 u_v20 h_o21 h_o22 hIg23 hfg23
            refine mm_g 2 (pc1 := 44) (lo1 := [some (.ref 116), some (.ref q1), some (.ref q2), some (.int (Int32.ofInt v7)), some (.int (Int32.ofInt v19)), some (.int (Int32.ofInt v20)), o21, o22]) (st1 := [.ref q2, .int (Int32.ofInt v20)]) (H1 := mz_mk g23 x) rfl ?_
            refine mz_cv rfl mt_2_15 (by decide) (kc_let h_q2 _) rfl (Nat.le_of_ble_eq_true rfl) (by omega) (c_X0_length (by omega) hx hIg23 h_q2 (fun v27 l_v27 u_v27 => ⟨_, rfl, ?_⟩))
            show mm_W d mmX2_common 47 [some (.ref 116), some (.ref q1), some (.ref q2), some (.int (Int32.ofInt v7)), some (.int (Int32.ofInt v19)), some (.int (Int32.ofInt v20)), o21, o22] [.int (Int32.ofInt v27), .int (Int32.ofInt v20)] (mz_mk g23 x) Q
            refine mz_ic_ge (tgt := 131) rfl rfl (mz_rg l_v20 u_v20) (mz_rg l_v27 u_v27) (fun c47_27 => ?_) (fun c47_27 => ?_)
            · skip
              refine mz_iincR (v := v7) (lo2 := [some (.ref 116), some (.ref q1), some (.ref q2), some (.int (Int32.ofInt (v7 + 1))), some (.int (Int32.ofInt v19)), some (.int (Int32.ofInt v20)), o21, o22]) rfl rfl rfl (Nat.le_of_ble_eq_true rfl) rfl ?_
              refine mz_gt (tgt := 27) rfl rfl ?_
              exact ih13 ((16 - (v7 + 1)).toNat) (by omega) (v7 + 1) (some (.int (Int32.ofInt v19))) (some (.int (Int32.ofInt v20))) o21 o22 g23 rfl (by omega) (by omega) (mz_nl_i _) (mz_nl_i _) h_o21 h_o22 hIg23 (fun k j hk => ((hfg23 k j (fun h => hk h)).trans (hfg12 k j (fun h => hk h))))
            · skip
              refine mm_g 1 (pc1 := 51) (lo1 := [some (.ref 116), some (.ref q1), some (.ref q2), some (.int (Int32.ofInt v7)), some (.int (Int32.ofInt v19)), some (.int (Int32.ofInt v20)), o21, o22]) (st1 := [.ref 116]) (H1 := mz_mk g23 x) rfl ?_
              refine mz_fgR (v := 117) rfl fd_2_9 (by decide) (sc_116 _) (rf_116_0 _ _ _) ?_
              refine mm_g 2 (pc1 := 57) (lo1 := [some (.ref 116), some (.ref q1), some (.ref q2), some (.int (Int32.ofInt v7)), some (.int (Int32.ofInt v19)), some (.int (Int32.ofInt v20)), o21, o22]) (st1 := [.int (Int32.ofInt 1), .int (Int32.ofInt v20), .ref 117]) (H1 := mz_mk g23 x) rfl ?_
              refine mz_iadd rfl ?_
              refine mz_cs rfl mt_2_25 (by decide) rfl (Nat.le_of_ble_eq_true rfl) (by omega) (c_X11_at (by omega) hx hIg23 (sh_117 _) (by decide) ba_117 (by omega) (by omega) (by omega) (by omega) (fun v28 l_v28 u_v28 => ⟨_, rfl, ?_⟩))
              show mm_W d mmX2_common 61 [some (.ref 116), some (.ref q1), some (.ref q2), some (.int (Int32.ofInt v7)), some (.int (Int32.ofInt v19)), some (.int (Int32.ofInt v20)), o21, o22] [.int (Int32.ofInt v28)] (mz_mk g23 x) Q
              refine mm_g 3 (pc1 := 65) (lo1 := [some (.ref 116), some (.ref q1), some (.ref q2), some (.int (Int32.ofInt v7)), some (.int (Int32.ofInt v19)), some (.int (Int32.ofInt v20)), some (.int (Int32.ofInt v28)), o22]) (st1 := [.int (Int32.ofInt v7), .ref q1]) (H1 := mz_mk g23 x) rfl ?_
              refine mz_cv rfl mt_2_29 (by decide) (kc_let h_q1 _) rfl (Nat.le_of_ble_eq_true rfl) (by omega) (c_X0_signAt (by omega) hx hIg23 h_q1 (by omega) (by omega) (fun v29 l_v29 u_v29 => ⟨_, rfl, ?_⟩))
              show mm_W d mmX2_common 68 [some (.ref 116), some (.ref q1), some (.ref q2), some (.int (Int32.ofInt v7)), some (.int (Int32.ofInt v19)), some (.int (Int32.ofInt v20)), some (.int (Int32.ofInt v28)), o22] [.int (Int32.ofInt v29)] (mz_mk g23 x) Q
              refine mm_g 2 (pc1 := 71) (lo1 := [some (.ref 116), some (.ref q1), some (.ref q2), some (.int (Int32.ofInt v7)), some (.int (Int32.ofInt v19)), some (.int (Int32.ofInt v20)), some (.int (Int32.ofInt v28)), o22]) (st1 := [.int (Int32.ofInt v20), .ref q2, .int (Int32.ofInt v29)]) (H1 := mz_mk g23 x) rfl ?_
              refine mz_cv rfl mt_2_29 (by decide) (kc_let h_q2 _) rfl (Nat.le_of_ble_eq_true rfl) (by omega) (c_X0_signAt (by omega) hx hIg23 h_q2 (by omega) (by omega) (fun v30 l_v30 u_v30 => ⟨_, rfl, ?_⟩))
              show mm_W d mmX2_common 74 [some (.ref 116), some (.ref q1), some (.ref q2), some (.int (Int32.ofInt v7)), some (.int (Int32.ofInt v19)), some (.int (Int32.ofInt v20)), some (.int (Int32.ofInt v28)), o22] [.int (Int32.ofInt v30), .int (Int32.ofInt v29)] (mz_mk g23 x) Q
              refine mz_ic_ne (tgt := 81) rfl rfl (mz_rg l_v29 u_v29) (mz_rg l_v30 u_v30) (fun c74_30 => ?_) (fun c74_30 => ?_)
              · skip
                refine mm_g 3 (pc1 := 85) (lo1 := [some (.ref 116), some (.ref q1), some (.ref q2), some (.int (Int32.ofInt v7)), some (.int (Int32.ofInt v19)), some (.int (Int32.ofInt v20)), some (.int (Int32.ofInt v28)), some (.int (Int32.ofInt 0))]) (st1 := [.ref 116]) (H1 := mz_mk g23 x) rfl ?_
                refine mz_fgR (v := 117) rfl fd_2_9 (by decide) (sc_116 _) (rf_116_0 _ _ _) ?_
                refine mm_g 2 (pc1 := 91) (lo1 := [some (.ref 116), some (.ref q1), some (.ref q2), some (.int (Int32.ofInt v7)), some (.int (Int32.ofInt v19)), some (.int (Int32.ofInt v20)), some (.int (Int32.ofInt v28)), some (.int (Int32.ofInt 0))]) (st1 := [.int (Int32.ofInt 1), .int (Int32.ofInt v20), .ref 117]) (H1 := mz_mk g23 x) rfl ?_
                refine mz_iadd rfl ?_
                refine mm_g 1 (pc1 := 94) (lo1 := [some (.ref 116), some (.ref q1), some (.ref q2), some (.int (Int32.ofInt v7)), some (.int (Int32.ofInt v19)), some (.int (Int32.ofInt v20)), some (.int (Int32.ofInt v28)), some (.int (Int32.ofInt 0))]) (st1 := [.int (Int32.ofInt 0), .int (Int32.ofInt (v20 + 1)), .ref 117]) (H1 := mz_mk g23 x) rfl ?_
                refine mz_if_eq (tgt := 104) rfl rfl ⟨by decide, by decide⟩ (fun c94_30 => ?_) (fun c94_30 => ?_)
                · skip
                  refine mm_g 2 (pc1 := 107) (lo1 := [some (.ref 116), some (.ref q1), some (.ref q2), some (.int (Int32.ofInt v7)), some (.int (Int32.ofInt v19)), some (.int (Int32.ofInt v20)), some (.int (Int32.ofInt v28)), some (.int (Int32.ofInt 0))]) (st1 := [.ref 116, .int (Int32.ofInt v28), .int (Int32.ofInt (v20 + 1)), .ref 117]) (H1 := mz_mk g23 x) rfl ?_
                  refine mz_fgR (v := 117) rfl fd_2_9 (by decide) (sc_116 _) (rf_116_0 _ _ _) ?_
                  refine mm_g 1 (pc1 := 112) (lo1 := [some (.ref 116), some (.ref q1), some (.ref q2), some (.int (Int32.ofInt v7)), some (.int (Int32.ofInt v19)), some (.int (Int32.ofInt v20)), some (.int (Int32.ofInt v28)), some (.int (Int32.ofInt 0))]) (st1 := [.int (Int32.ofInt v20), .ref 117, .int (Int32.ofInt v28), .int (Int32.ofInt (v20 + 1)), .ref 117]) (H1 := mz_mk g23 x) rfl ?_
                  refine mz_cs rfl mt_2_25 (by decide) rfl (Nat.le_of_ble_eq_true rfl) (by omega) (c_X11_at (by omega) hx hIg23 (sh_117 _) (by decide) ba_117 (by omega) (by omega) (by omega) (by omega) (fun v31 l_v31 u_v31 => ⟨_, rfl, ?_⟩))
                  show mm_W d mmX2_common 115 [some (.ref 116), some (.ref q1), some (.ref q2), some (.int (Int32.ofInt v7)), some (.int (Int32.ofInt v19)), some (.int (Int32.ofInt v20)), some (.int (Int32.ofInt v28)), some (.int (Int32.ofInt 0))] [.int (Int32.ofInt v31), .int (Int32.ofInt v28), .int (Int32.ofInt (v20 + 1)), .ref 117] (mz_mk g23 x) Q
                  refine mz_mx rfl mt_2_39 (Nat.le_of_ble_eq_true rfl) (by omega) (mz_rg l_v28 u_v28) (mz_rg l_v31 u_v31) (fun v32 e_v32 => ?_)
                  have l_v32 : (-2147483648) ≤ v32 := by omega
                  have u_v32 : v32 ≤ 2147483647 := by omega
                  refine mz_cs rfl mt_2_21 (by decide) rfl (Nat.le_of_ble_eq_true rfl) (by omega) (c_X11_put (by omega) hx hIg23 (sh_117 _) (by decide) ba_117 (by omega) (by omega) (by omega) (by omega) l_v32 u_v32 (by omega) (by omega) (fun g33 hIg33 hfg33 => ⟨_, rfl, ?_⟩))
                  show mm_W d mmX2_common 121 [some (.ref 116), some (.ref q1), some (.ref q2), some (.int (Int32.ofInt v7)), some (.int (Int32.ofInt v19)), some (.int (Int32.ofInt v20)), some (.int (Int32.ofInt v28)), some (.int (Int32.ofInt 0))] [] (mz_mk g33 x) Q
                  refine mm_g 2 (pc1 := 125) (lo1 := [some (.ref 116), some (.ref q1), some (.ref q2), some (.int (Int32.ofInt v7)), some (.int (Int32.ofInt v28)), some (.int (Int32.ofInt v20)), some (.int (Int32.ofInt v28)), some (.int (Int32.ofInt 0))]) (st1 := []) (H1 := mz_mk g33 x) rfl ?_
                  refine mz_iincR (v := v20) (lo2 := [some (.ref 116), some (.ref q1), some (.ref q2), some (.int (Int32.ofInt v7)), some (.int (Int32.ofInt v28)), some (.int (Int32.ofInt (v20 + 1))), some (.int (Int32.ofInt v28)), some (.int (Int32.ofInt 0))]) rfl rfl rfl (Nat.le_of_ble_eq_true rfl) rfl ?_
                  refine mz_gt (tgt := 41) rfl rfl ?_
                  exact ih24 ((16 - (v20 + 1)).toNat) (by omega) v28 (v20 + 1) (some (.int (Int32.ofInt v28))) (some (.int (Int32.ofInt 0))) g33 rfl (by omega) (by omega) (by omega) (by omega) (mz_nl_i _) (mz_nl_i _) hIg33 (fun k j hk => ((hfg33 k j (fun h => hk h)).trans (hfg23 k j (fun h => hk h))))
                · exfalso; omega
              · skip
                refine mm_g 1 (pc1 := 78) (lo1 := [some (.ref 116), some (.ref q1), some (.ref q2), some (.int (Int32.ofInt v7)), some (.int (Int32.ofInt v19)), some (.int (Int32.ofInt v20)), some (.int (Int32.ofInt v28)), o22]) (st1 := [.int (Int32.ofInt 1)]) (H1 := mz_mk g23 x) rfl ?_
                refine mz_gt (tgt := 82) rfl rfl ?_
                refine mm_g 2 (pc1 := 85) (lo1 := [some (.ref 116), some (.ref q1), some (.ref q2), some (.int (Int32.ofInt v7)), some (.int (Int32.ofInt v19)), some (.int (Int32.ofInt v20)), some (.int (Int32.ofInt v28)), some (.int (Int32.ofInt 1))]) (st1 := [.ref 116]) (H1 := mz_mk g23 x) rfl ?_
                refine mz_fgR (v := 117) rfl fd_2_9 (by decide) (sc_116 _) (rf_116_0 _ _ _) ?_
                refine mm_g 2 (pc1 := 91) (lo1 := [some (.ref 116), some (.ref q1), some (.ref q2), some (.int (Int32.ofInt v7)), some (.int (Int32.ofInt v19)), some (.int (Int32.ofInt v20)), some (.int (Int32.ofInt v28)), some (.int (Int32.ofInt 1))]) (st1 := [.int (Int32.ofInt 1), .int (Int32.ofInt v20), .ref 117]) (H1 := mz_mk g23 x) rfl ?_
                refine mz_iadd rfl ?_
                refine mm_g 1 (pc1 := 94) (lo1 := [some (.ref 116), some (.ref q1), some (.ref q2), some (.int (Int32.ofInt v7)), some (.int (Int32.ofInt v19)), some (.int (Int32.ofInt v20)), some (.int (Int32.ofInt v28)), some (.int (Int32.ofInt 1))]) (st1 := [.int (Int32.ofInt 1), .int (Int32.ofInt (v20 + 1)), .ref 117]) (H1 := mz_mk g23 x) rfl ?_
                refine mz_if_eq (tgt := 104) rfl rfl ⟨by decide, by decide⟩ (fun c94_33 => ?_) (fun c94_33 => ?_)
                · exfalso; omega
                · skip
                  refine mm_g 2 (pc1 := 100) (lo1 := [some (.ref 116), some (.ref q1), some (.ref q2), some (.int (Int32.ofInt v7)), some (.int (Int32.ofInt v19)), some (.int (Int32.ofInt v20)), some (.int (Int32.ofInt v28)), some (.int (Int32.ofInt 1))]) (st1 := [.int (Int32.ofInt 1), .int (Int32.ofInt v19), .int (Int32.ofInt (v20 + 1)), .ref 117]) (H1 := mz_mk g23 x) rfl ?_
                  refine mz_iadd_w rfl (fun v34 _ hwv34 => ?_)
                  have l_v34 := hwv34.1
                  have u_v34 := hwv34.2
                  refine mz_gt (tgt := 118) rfl rfl ?_
                  refine mz_cs rfl mt_2_21 (by decide) rfl (Nat.le_of_ble_eq_true rfl) (by omega) (c_X11_put (by omega) hx hIg23 (sh_117 _) (by decide) ba_117 (by omega) (by omega) (by omega) (by omega) l_v34 u_v34 (by omega) (by omega) (fun g35 hIg35 hfg35 => ⟨_, rfl, ?_⟩))
                  show mm_W d mmX2_common 121 [some (.ref 116), some (.ref q1), some (.ref q2), some (.int (Int32.ofInt v7)), some (.int (Int32.ofInt v19)), some (.int (Int32.ofInt v20)), some (.int (Int32.ofInt v28)), some (.int (Int32.ofInt 1))] [] (mz_mk g35 x) Q
                  refine mm_g 2 (pc1 := 125) (lo1 := [some (.ref 116), some (.ref q1), some (.ref q2), some (.int (Int32.ofInt v7)), some (.int (Int32.ofInt v28)), some (.int (Int32.ofInt v20)), some (.int (Int32.ofInt v28)), some (.int (Int32.ofInt 1))]) (st1 := []) (H1 := mz_mk g35 x) rfl ?_
                  refine mz_iincR (v := v20) (lo2 := [some (.ref 116), some (.ref q1), some (.ref q2), some (.int (Int32.ofInt v7)), some (.int (Int32.ofInt v28)), some (.int (Int32.ofInt (v20 + 1))), some (.int (Int32.ofInt v28)), some (.int (Int32.ofInt 1))]) rfl rfl rfl (Nat.le_of_ble_eq_true rfl) rfl ?_
                  refine mz_gt (tgt := 41) rfl rfl ?_
                  exact ih24 ((16 - (v20 + 1)).toNat) (by omega) v28 (v20 + 1) (some (.int (Int32.ofInt v28))) (some (.int (Int32.ofInt 1))) g35 rfl (by omega) (by omega) (by omega) (by omega) (mz_nl_i _) (mz_nl_i _) hIg35 (fun k j hk => ((hfg35 k j (fun h => hk h)).trans (hfg23 k j (fun h => hk h))))
          exact L26 _ 0 0 o10 o11 g12 rfl (by decide) (by decide) (by decide) (by decide) h_o10 h_o11 hIg12 (fun _ _ _ => rfl)
      exact L15 _ 0 none none none none g2 rfl (by decide) (by decide) mz_nl_n mz_nl_n mz_nl_n mz_nl_n hIg2 (fun _ _ _ => rfl)
    · skip
      refine mm_g 1 (pc1 := 11) (lo1 := [some (.ref 116), some (.ref q1), some (.ref q2), some (.int (Int32.ofInt v1)), none, none, none, none]) (st1 := [.ref 116]) (H1 := mz_mk g2 x) rfl ?_
      refine mz_fgR (v := 117) rfl fd_2_9 (by decide) (sc_116 _) (rf_116_0 _ _ _) ?_
      refine mm_g 2 (pc1 := 16) (lo1 := [some (.ref 116), some (.ref q1), some (.ref q2), some (.int (Int32.ofInt v1)), none, none, none, none]) (st1 := [.int (Int32.ofInt 0), .int (Int32.ofInt v1), .ref 117]) (H1 := mz_mk g2 x) rfl ?_
      refine mz_cs rfl mt_2_21 (by decide) rfl (Nat.le_of_ble_eq_true rfl) (by omega) (c_X11_put (by omega) hx hIg2 (sh_117 _) (by decide) ba_117 (by omega) (by omega) (by omega) (by omega) (by decide) (by decide) (by omega) (by omega) (fun g36 hIg36 hfg36 => ⟨_, rfl, ?_⟩))
      show mm_W d mmX2_common 19 [some (.ref 116), some (.ref q1), some (.ref q2), some (.int (Int32.ofInt v1)), none, none, none, none] [] (mz_mk g36 x) Q
      refine mz_iincR (v := v1) (lo2 := [some (.ref 116), some (.ref q1), some (.ref q2), some (.int (Int32.ofInt (v1 + 1))), none, none, none, none]) rfl rfl rfl (Nat.le_of_ble_eq_true rfl) rfl ?_
      refine mz_gt (tgt := 2) rfl rfl ?_
      exact ih3 ((17 - (v1 + 1)).toNat) (by omega) (v1 + 1) g36 rfl (by omega) (by omega) hIg36 (fun k j hk => ((hfg36 k j (fun h => hk h)).trans (hfg2 k j (fun h => hk h))))
  exact L5 _ 0 g rfl (by decide) (by decide) hI (fun _ _ _ => rfl)
