theorem mt_12_464 : mm_tab mm_mthT 12 464 = some (1, 270, 2, 0, 12) := rfl
theorem mt_12_467 : mm_tab mm_mthT 12 467 = some (1, 271, 0, 0, 12) := rfl
/-! CONTRACTS OF THE REFERENCE, by program (wip/p2/tools/gen25.py) -/
def fl_X12_tellChain_11 (x : mm_X) : Nat → Nat → Prop := fun k j => k = 163
def fl_X12_tellChain_17 (x : mm_X) : Nat → Nat → Prop := fun k j => k = 163
def fw_X12_tellChain (x : mm_X) : Nat → Nat → Prop := fun k j => k = 163
set_option maxHeartbeats 20000000 in
theorem c_X12_tellChain {d : Nat} (hd : 12 ≤ d) {x : mm_X} (hx : mk_x x) {g : mz_G} (hI : mz_inv g) (p1 : ∀ j : Nat, (j : Int) < g 140 0 → 1 ≤ g 142 j) {Q : (Option Value ⊕ Nat) → mm_H → Prop} (hQ : ∀ (g1 : mz_G), mz_inv g1 → mz_fr (fw_X12_tellChain x) g g1 → (mz_ET false (mz_fo (g 141) (g 142)) (fun _ _ => (1 : Int)) g1 (g 140 0) 0) → Q (.inl none) (mz_mk g1 x)) : mm_C d 271 [.ref 137] (mz_mk g x) Q := by
  refine ⟨mmX12_tellChain, [some (.ref 137), none, none, none, none], rfl, rfl, ?_⟩
  have bz0 := mz_rd hI bt_140_0
  have hl := p1
  refine mm_g 2 (pc1 := 2) (lo1 := [some (.ref 137), none, none, none, none]) (st1 := [.ref 137, .int (Int32.ofInt 1)]) (H1 := mz_mk g x) rfl ?_
  refine mz_fgR (v := 140) rfl fd_12_36 (by decide) (sc_137 _) (rf_137_3 _ _ _) ?_
  refine mm_g 1 (pc1 := 6) (lo1 := [some (.ref 137), none, none, none, none]) (st1 := [.int (Int32.ofInt 0), .ref 140, .int (Int32.ofInt 1)]) (H1 := mz_mk g x) rfl ?_
  refine mz_ia (v := (g 140 0)) rfl (sh_140 _) (by decide) (by decide) (by decide) (show g 140 0 = (g 140 0) from rfl) ?_
  refine mz_ishl rfl (fun v1 e_v1 hwv1 => ?_)
  have b_v1 : 1 ≤ v1 ∧ v1 ≤ 256 := by rw [e_v1]; exact mz_shl_b (lx := 1) (hx := 1) (k := 8) (by decide) (by decide) (by omega) (by omega) (by omega) (by omega)
  have l_v1 := b_v1.1
  have u_v1 := b_v1.2
  refine mm_g 1 (pc1 := 9) (lo1 := [some (.ref 137), none, none, none, none]) (st1 := [.int (Int32.ofInt 1), .int (Int32.ofInt v1)]) (H1 := mz_mk g x) rfl ?_
  refine mz_isub rfl ?_
  have hA : mz_A (g 140 0) = (v1 - 1) := by unfold mz_A; rw [e_v1]
  have hAb := mz_Ab (T := (g 140 0)) (by omega) (by omega)
  refine mm_g 1 (pc1 := 11) (lo1 := [some (.ref 137), some (.int (Int32.ofInt (v1 - 1))), none, none, none]) (st1 := []) (H1 := mz_mk g x) rfl ?_
  have L9 : ∀ n8 : Nat, ∀ (v2 : Int) (o3 : Option Value) (o4 : Option Value) (o5 : Option Value) (g6 : mz_G), (v2 - 0).toNat = n8 → 0 ≤ v2 → v2 ≤ 255 → mz_nl o3 → mz_nl o4 → mz_nl o5 → mz_inv g6 → mz_fr (fl_X12_tellChain_11 x) g g6 → (mz_ET false (mz_fo (g 141) (g 142)) (fun _ _ => (1 : Int)) g6 (g 140 0) v2) → (v2 ≤ mz_A (g 140 0)) → mm_W d mmX12_tellChain 11 [some (.ref 137), some (.int (Int32.ofInt v2)), o3, o4, o5] [] (mz_mk g6 x) Q := by
    intro n8
    induction n8 using Nat.strongRecOn with
    | ind n8 ih7 =>
    intro v2 o3 o4 o5 g6 hmn8 l_v2 u_v2 h_o3 h_o4 h_o5 hIg6 hfg6 hv10 hv11
    refine mm_g 1 (pc1 := 12) (lo1 := [some (.ref 137), some (.int (Int32.ofInt v2)), o3, o4, o5]) (st1 := [.int (Int32.ofInt v2)]) (H1 := mz_mk g6 x) rfl ?_
    refine mz_if_le (tgt := 117) rfl rfl (mz_rg l_v2 u_v2) (fun c12_11 => ?_) (fun c12_11 => ?_)
    · skip
      exact mm_rt rfl rfl (hQ _ hIg6 (fun k j hk => (hfg6 k j (fun h => hk h))) (by have h9 := hv10; rw [show v2 = 0 by omega] at h9; exact h9))
    · skip
      refine mm_g 2 (pc1 := 17) (lo1 := [some (.ref 137), some (.int (Int32.ofInt v2)), some (.int (Int32.ofInt 0)), o4, o5]) (st1 := []) (H1 := mz_mk g6 x) rfl ?_
      have L18 : ∀ n17 : Nat, ∀ (v12 : Int) (o13 : Option Value) (o14 : Option Value) (g15 : mz_G), (8 - v12).toNat = n17 → 0 ≤ v12 → v12 ≤ 8 → mz_nl o13 → mz_nl o14 → mz_inv g15 → mz_fr (fl_X12_tellChain_17 x) g6 g15 → (mz_ET false (mz_fo (g 141) (g 142)) (fun _ _ => (1 : Int)) g15 (g 140 0) v2) → (mz_EM false (mz_fo (g 141) (g 142)) (fun _ _ => (1 : Int)) g15 (g 140 0) v2 v12) → mm_W d mmX12_tellChain 17 [some (.ref 137), some (.int (Int32.ofInt v2)), some (.int (Int32.ofInt v12)), o13, o14] [] (mz_mk g15 x) Q := by
        intro n17
        induction n17 using Nat.strongRecOn with
        | ind n17 ih16 =>
        intro v12 o13 o14 g15 hmn17 l_v12 u_v12 h_o13 h_o14 hIg15 hfg15 hv19 hv20
        refine mm_g 2 (pc1 := 19) (lo1 := [some (.ref 137), some (.int (Int32.ofInt v2)), some (.int (Int32.ofInt v12)), o13, o14]) (st1 := [.ref 137, .int (Int32.ofInt v12)]) (H1 := mz_mk g15 x) rfl ?_
        refine mz_fgR (v := 140) rfl fd_12_36 (by decide) (sc_137 _) (rf_137_3 _ _ _) ?_
        refine mm_g 1 (pc1 := 23) (lo1 := [some (.ref 137), some (.int (Int32.ofInt v2)), some (.int (Int32.ofInt v12)), o13, o14]) (st1 := [.int (Int32.ofInt 0), .ref 140, .int (Int32.ofInt v12)]) (H1 := mz_mk g15 x) rfl ?_
        refine mz_ia (v := (g 140 0)) rfl (sh_140 _) (by decide) (by decide) (by decide) (show g15 140 0 = (g 140 0) from ((hfg15 140 0 (fun h => (absurd (show 140 = 163 from h) (by decide)))).trans ((hfg6 140 0 (fun h => (absurd (show 140 = 163 from h) (by decide)))).trans rfl))) ?_
        refine mz_ic_ge (tgt := 111) rfl rfl (mz_rg l_v12 u_v12) ⟨by omega, by omega⟩ (fun c24_20 => ?_) (fun c24_20 => ?_)
        · skip
          refine mz_iincR (v := v2) (lo2 := [some (.ref 137), some (.int (Int32.ofInt (v2 + (-1)))), some (.int (Int32.ofInt v12)), o13, o14]) rfl rfl rfl (Nat.le_of_ble_eq_true rfl) rfl ?_
          refine mz_gt (tgt := 11) rfl rfl ?_
          exact ih7 (((v2 + (-1)) - 0).toNat) (by omega) (v2 + (-1)) (some (.int (Int32.ofInt v12))) o13 o14 g15 rfl (by omega) (by omega) (mz_nl_i _) h_o13 h_o14 hIg15 (fun k j hk => ((hfg15 k j (fun h => hk h)).trans (hfg6 k j (fun h => hk h)))) (mz_ET_dn hv19 hv20 (by omega)) (by omega)
        · skip
          refine mm_g 2 (pc1 := 29) (lo1 := [some (.ref 137), some (.int (Int32.ofInt v2)), some (.int (Int32.ofInt v12)), o13, o14]) (st1 := [.int (Int32.ofInt v12), .int (Int32.ofInt v2)]) (H1 := mz_mk g15 x) rfl ?_
          refine mz_cs rfl mt_12_450 (by decide) rfl (Nat.le_of_ble_eq_true rfl) (by omega) (c_X12_isOf (by omega) hx hIg15 (by omega) (by omega) (by omega) (by omega) (fun v21 l_v21 u_v21 hp22 => ⟨_, rfl, ?_⟩))
          show mm_W d mmX12_tellChain 32 [some (.ref 137), some (.int (Int32.ofInt v2)), some (.int (Int32.ofInt v12)), o13, o14] [.int (Int32.ofInt v21)] (mz_mk g15 x) Q
          refine mz_if_ne (tgt := 38) rfl rfl (mz_rg l_v21 u_v21) (fun c32_22 => ?_) (fun c32_22 => ?_)
          · skip
            refine mm_g 4 (pc1 := 43) (lo1 := [some (.ref 137), some (.int (Int32.ofInt v2)), some (.int (Int32.ofInt v12)), some (.int (Int32.ofInt 0)), some (.int (Int32.ofInt 0))]) (st1 := []) (H1 := mz_mk g15 x) rfl ?_
            have L28 : ∀ n27 : Nat, ∀ (v23 : Int) (v24 : Int), (8 - v24).toNat = n27 → 0 ≤ v23 → v23 ≤ 256 → 0 ≤ v24 → v24 ≤ 8 → (mz_CI (mz_fo (g 141) (g 142)) g15 (g 140 0) v2 v12 v23) → mm_W d mmX12_tellChain 43 [some (.ref 137), some (.int (Int32.ofInt v2)), some (.int (Int32.ofInt v12)), some (.int (Int32.ofInt v23)), some (.int (Int32.ofInt v24))] [] (mz_mk g15 x) Q := by
              intro n27
              induction n27 using Nat.strongRecOn with
              | ind n27 ih26 =>
              intro v23 v24 hmn27 l_v23 u_v23 l_v24 u_v24 hv29
              refine mm_g 2 (pc1 := 46) (lo1 := [some (.ref 137), some (.int (Int32.ofInt v2)), some (.int (Int32.ofInt v12)), some (.int (Int32.ofInt v23)), some (.int (Int32.ofInt v24))]) (st1 := [.ref 137, .int (Int32.ofInt v24)]) (H1 := mz_mk g15 x) rfl ?_
              refine mz_fgR (v := 140) rfl fd_12_36 (by decide) (sc_137 _) (rf_137_3 _ _ _) ?_
              refine mm_g 1 (pc1 := 50) (lo1 := [some (.ref 137), some (.int (Int32.ofInt v2)), some (.int (Int32.ofInt v12)), some (.int (Int32.ofInt v23)), some (.int (Int32.ofInt v24))]) (st1 := [.int (Int32.ofInt 0), .ref 140, .int (Int32.ofInt v24)]) (H1 := mz_mk g15 x) rfl ?_
              refine mz_ia (v := (g 140 0)) rfl (sh_140 _) (by decide) (by decide) (by decide) (show g15 140 0 = (g 140 0) from ((hfg15 140 0 (fun h => (absurd (show 140 = 163 from h) (by decide)))).trans ((hfg6 140 0 (fun h => (absurd (show 140 = 163 from h) (by decide)))).trans rfl))) ?_
              refine mz_ic_ge (tgt := 93) rfl rfl (mz_rg l_v24 u_v24) ⟨by omega, by omega⟩ (fun c51_29 => ?_) (fun c51_29 => ?_)
              · skip
                refine mm_g 1 (pc1 := 94) (lo1 := [some (.ref 137), some (.int (Int32.ofInt v2)), some (.int (Int32.ofInt v12)), some (.int (Int32.ofInt v23)), some (.int (Int32.ofInt v24))]) (st1 := [.ref 137]) (H1 := mz_mk g15 x) rfl ?_
                refine mz_fgR (v := 163) rfl fd_12_106 (by decide) (sc_137 _) (rf_137_41 _ _ _) ?_
                refine mm_g 1 (pc1 := 98) (lo1 := [some (.ref 137), some (.int (Int32.ofInt v2)), some (.int (Int32.ofInt v12)), some (.int (Int32.ofInt v23)), some (.int (Int32.ofInt v24))]) (st1 := [.int (Int32.ofInt v12), .ref 163]) (H1 := mz_mk g15 x) rfl ?_
                refine mz_bip rfl bip_8 ?_
                refine mz_ishl rfl (fun v30 e_v30 hwv30 => ?_)
                have b_v30 : 0 ≤ v30 ∧ v30 ≤ 1792 := by rw [e_v30]; exact mz_shl_b (lx := 0) (hx := 7) (k := 8) (by decide) (by decide) (by omega) (by omega) (by omega) (by omega)
                have l_v30 := b_v30.1
                have u_v30 := b_v30.2
                refine mm_g 1 (pc1 := 102) (lo1 := [some (.ref 137), some (.int (Int32.ofInt v2)), some (.int (Int32.ofInt v12)), some (.int (Int32.ofInt v23)), some (.int (Int32.ofInt v24))]) (st1 := [.int (Int32.ofInt v2), .int (Int32.ofInt v30), .ref 163]) (H1 := mz_mk g15 x) rfl ?_
                refine mz_iadd rfl ?_
                refine mm_g 1 (pc1 := 104) (lo1 := [some (.ref 137), some (.int (Int32.ofInt v2)), some (.int (Int32.ofInt v12)), some (.int (Int32.ofInt v23)), some (.int (Int32.ofInt v24))]) (st1 := [.int (Int32.ofInt v23), .int (Int32.ofInt (v30 + v2)), .ref 163]) (H1 := mz_mk g15 x) rfl ?_
                refine mz_sI rfl (sh_163 _) (by omega) (by omega) (by decide) hIg15 (ba_163 _) (by omega) (by omega) (fun g31 hIg31 hug31 => ?_)
                refine mz_iincR (v := v12) (lo2 := [some (.ref 137), some (.int (Int32.ofInt v2)), some (.int (Int32.ofInt (v12 + 1))), some (.int (Int32.ofInt v23)), some (.int (Int32.ofInt v24))]) rfl rfl rfl (Nat.le_of_ble_eq_true rfl) rfl ?_
                refine mz_gt (tgt := 17) rfl rfl ?_
                exact ih16 ((8 - (v12 + 1)).toNat) (by omega) (v12 + 1) (some (.int (Int32.ofInt v23))) (some (.int (Int32.ofInt v24))) g31 rfl (by omega) (by omega) (mz_nl_i _) (mz_nl_i _) hIg31 (fun k j hk => ((hug31.2 k j (fun h => hk h.1)).trans (hfg15 k j (fun h => hk h)))) (mz_ET_up hv19 hug31 (show (v30 + v2) = mz_shlI v12 8 + v2 by rw [e_v30]) (by omega) (by omega) (by omega) (by omega) (by omega) (by omega)) (mz_EM_chain hv20 hug31 (show (v30 + v2) = mz_shlI v12 8 + v2 by rw [e_v30]) (by omega) (by omega) (by omega) (by omega) (by omega) (by omega) hv29)
              · skip
                refine mm_g 2 (pc1 := 57) (lo1 := [some (.ref 137), some (.int (Int32.ofInt v2)), some (.int (Int32.ofInt v12)), some (.int (Int32.ofInt v23)), some (.int (Int32.ofInt v24))]) (st1 := [.int (Int32.ofInt v24), .int (Int32.ofInt v2)]) (H1 := mz_mk g15 x) rfl ?_
                refine mz_cs rfl mt_12_450 (by decide) rfl (Nat.le_of_ble_eq_true rfl) (by omega) (c_X12_isOf (by omega) hx hIg15 (by omega) (by omega) (by omega) (by omega) (fun v32 l_v32 u_v32 hp33 => ⟨_, rfl, ?_⟩))
                show mm_W d mmX12_tellChain 60 [some (.ref 137), some (.int (Int32.ofInt v2)), some (.int (Int32.ofInt v12)), some (.int (Int32.ofInt v23)), some (.int (Int32.ofInt v24))] [.int (Int32.ofInt v32)] (mz_mk g15 x) Q
                refine mz_if_ne (tgt := 87) rfl rfl (mz_rg l_v32 u_v32) (fun c60_33 => ?_) (fun c60_33 => ?_)
                · skip
                  refine mz_iincR (v := v24) (lo2 := [some (.ref 137), some (.int (Int32.ofInt v2)), some (.int (Int32.ofInt v12)), some (.int (Int32.ofInt v23)), some (.int (Int32.ofInt (v24 + 1)))]) rfl rfl rfl (Nat.le_of_ble_eq_true rfl) rfl ?_
                  refine mz_gt (tgt := 43) rfl rfl ?_
                  exact ih26 ((8 - (v24 + 1)).toNat) (by omega) v23 (v24 + 1) rfl (by omega) (by omega) (by omega) (by omega) hv29
                · skip
                  refine mm_g 3 (pc1 := 67) (lo1 := [some (.ref 137), some (.int (Int32.ofInt v2)), some (.int (Int32.ofInt v12)), some (.int (Int32.ofInt v23)), some (.int (Int32.ofInt v24))]) (st1 := [.int (Int32.ofInt v24), .int (Int32.ofInt v12), .ref 137]) (H1 := mz_mk g15 x) rfl ?_
                  refine mz_cv rfl mt_12_464 (by decide) (sc_137 _) rfl (Nat.le_of_ble_eq_true rfl) (by omega) (c_X12_follows (by omega) hx hIg15 (by omega) (by omega) (by omega) (by omega) (by have h8 := hl (v12 : Int).toNat (by omega); have h9 : g15 142 (v12 : Int).toNat = g 142 (v12 : Int).toNat := ((hfg15 142 (v12 : Int).toNat (fun h => (absurd (show 142 = 163 from h) (by decide)))).trans (hfg6 142 (v12 : Int).toNat (fun h => (absurd (show 142 = 163 from h) (by decide))))); omega) (fun v34 l_v34 u_v34 hp35 => ⟨_, rfl, ?_⟩))
                  show mm_W d mmX12_tellChain 70 [some (.ref 137), some (.int (Int32.ofInt v2)), some (.int (Int32.ofInt v12)), some (.int (Int32.ofInt v23)), some (.int (Int32.ofInt v24))] [.int (Int32.ofInt v34)] (mz_mk g15 x) Q
                  have fo35 := hp35
                  rw [show g15 141 = g 141 from funext (fun j => ((hfg15 141 j (fun h => (absurd (show 141 = 163 from h) (by decide)))).trans (hfg6 141 j (fun h => (absurd (show 141 = 163 from h) (by decide)))))), show g15 142 = g 142 from funext (fun j => ((hfg15 142 j (fun h => (absurd (show 142 = 163 from h) (by decide)))).trans (hfg6 142 j (fun h => (absurd (show 142 = 163 from h) (by decide))))))] at fo35
                  refine mz_if_eq (tgt := 87) rfl rfl (mz_rg l_v34 u_v34) (fun c70_35 => ?_) (fun c70_35 => ?_)
                  · skip
                    refine mz_iincR (v := v24) (lo2 := [some (.ref 137), some (.int (Int32.ofInt v2)), some (.int (Int32.ofInt v12)), some (.int (Int32.ofInt v23)), some (.int (Int32.ofInt (v24 + 1)))]) rfl rfl rfl (Nat.le_of_ble_eq_true rfl) rfl ?_
                    refine mz_gt (tgt := 43) rfl rfl ?_
                    exact ih26 ((8 - (v24 + 1)).toNat) (by omega) v23 (v24 + 1) rfl (by omega) (by omega) (by omega) (by omega) hv29
                  · skip
                    refine mm_g 5 (pc1 := 79) (lo1 := [some (.ref 137), some (.int (Int32.ofInt v2)), some (.int (Int32.ofInt v12)), some (.int (Int32.ofInt v23)), some (.int (Int32.ofInt v24))]) (st1 := [.int (Int32.ofInt v2), .int (Int32.ofInt v24), .ref 137, .int (Int32.ofInt 1), .int (Int32.ofInt v23)]) (H1 := mz_mk g15 x) rfl ?_
                    refine mz_cv rfl mt_12_456 (by decide) (sc_137 _) rfl (Nat.le_of_ble_eq_true rfl) (by omega) (c_X12_madeOn (by omega) hx hIg15 (by omega) (by omega) l_v2 u_v2 (fun v36 l_v36 u_v36 hp37 => ⟨_, rfl, ?_⟩))
                    show mm_W d mmX12_tellChain 82 [some (.ref 137), some (.int (Int32.ofInt v2)), some (.int (Int32.ofInt v12)), some (.int (Int32.ofInt v23)), some (.int (Int32.ofInt v24))] [.int (Int32.ofInt v36), .int (Int32.ofInt 1), .int (Int32.ofInt v23)] (mz_mk g15 x) Q
                    have mb37 := mz_ET_made (v := v24) hv19 (by omega) (by omega) (by omega) (by omega) (by omega) (by omega) (by rw [← hp33 (by omega) (by omega) (by omega)]; omega)
                    simp only [mz_cf] at mb37
                    rw [← hp37] at mb37
                    refine mz_iadd rfl ?_
                    refine mz_mx rfl mt_12_329 (Nat.le_of_ble_eq_true rfl) (by omega) (mz_rg l_v23 u_v23) ⟨by omega, by omega⟩ (fun v38 e_v38 => ?_)
                    have l_v38 : 1 ≤ v38 := by omega
                    have u_v38 : v38 ≤ 256 := by omega
                    refine mm_g 1 (pc1 := 87) (lo1 := [some (.ref 137), some (.int (Int32.ofInt v2)), some (.int (Int32.ofInt v12)), some (.int (Int32.ofInt v38)), some (.int (Int32.ofInt v24))]) (st1 := []) (H1 := mz_mk g15 x) rfl ?_
                    refine mz_iincR (v := v24) (lo2 := [some (.ref 137), some (.int (Int32.ofInt v2)), some (.int (Int32.ofInt v12)), some (.int (Int32.ofInt v38)), some (.int (Int32.ofInt (v24 + 1)))]) rfl rfl rfl (Nat.le_of_ble_eq_true rfl) rfl ?_
                    refine mz_gt (tgt := 43) rfl rfl ?_
                    exact ih26 ((8 - (v24 + 1)).toNat) (by omega) v38 (v24 + 1) rfl (by omega) (by omega) (by omega) (by omega) (mz_CI_take hv29 hv19 (by omega) (by omega) (by omega) (by omega) (by omega) (by omega) (by rw [← hp33 (by omega) (by omega) (by omega)]; omega) (fo35.mp (by omega)) hp37 (by omega))
            exact L28 _ 0 0 rfl (by decide) (by decide) (by decide) (by decide) (mz_CI_0 (by omega))
          · skip
            refine mz_gt (tgt := 105) rfl rfl ?_
            refine mz_iincR (v := v12) (lo2 := [some (.ref 137), some (.int (Int32.ofInt v2)), some (.int (Int32.ofInt (v12 + 1))), o13, o14]) rfl rfl rfl (Nat.le_of_ble_eq_true rfl) rfl ?_
            refine mz_gt (tgt := 17) rfl rfl ?_
            exact ih16 ((8 - (v12 + 1)).toNat) (by omega) (v12 + 1) o13 o14 g15 rfl (by omega) (by omega) h_o13 h_o14 hIg15 (fun k j hk => (hfg15 k j (fun h => hk h))) hv19 (mz_EM_skip hv20 (by rw [← hp22 (by omega) (by omega) (by omega)]; omega))
      exact L18 _ 0 o4 o5 g6 rfl (by decide) (by decide) h_o4 h_o5 hIg6 (fun _ _ _ => rfl) hv10 mz_EM_0
  exact L9 _ (v1 - 1) none none none g rfl (by omega) (by omega) mz_nl_n mz_nl_n mz_nl_n hI (fun _ _ _ => rfl) (by rw [← hA]; exact mz_ET_A) (by omega)
def fw_X12_chain (x : mm_X) (a1 : Int) : Nat → Nat → Prop := fun k j => (k = 137 ∧ j = 2) ∨ k = 163
set_option maxHeartbeats 20000000 in
theorem c_X12_chain {d : Nat} (hd : 13 ≤ d) {x : mm_X} (hx : mk_x x) {g : mz_G} (hI : mz_inv g) {a1 : Int} (l_a1 : (-2147483648) ≤ a1) (u_a1 : a1 ≤ 2147483647) (p1 : mz_pv g) (p2 : g 137 30 ≤ 999) (p3 : ∀ j : Nat, (j : Int) < g 140 0 → 1 ≤ g 142 j) {Q : (Option Value ⊕ Nat) → mm_H → Prop} (hQ : ∀ (r : Int) (g1 : mz_G), mz_inv g1 → mz_fr (fw_X12_chain x a1) g g1 → 0 ≤ r → r ≤ 256 → (g1 137 30 ≤ 999) → Q (.inl (some (.int (Int32.ofInt r)))) (mz_mk g1 x)) : mm_C d 272 [.ref 137, .int (Int32.ofInt a1)] (mz_mk g x) Q := by
  refine ⟨mmX12_chain, [some (.ref 137), some (.int (Int32.ofInt a1)), none, none, none, none, none, none], rfl, rfl, ?_⟩
  have bz0 := mz_rd hI bd_137_30
  have bz1 := mz_rd hI bt_140_0
  have bz2 := mz_rd hI bt_140_1
  have hpv := p1
  have hl := p3
  refine mm_g 2 (pc1 := 2) (lo1 := [some (.ref 137), some (.int (Int32.ofInt a1)), none, none, none, none, none, none]) (st1 := [.int (Int32.ofInt 0), .ref 137]) (H1 := mz_mk g x) rfl ?_
  refine mz_pI rfl fd_12_154 (sc_137 _) hI bd_137_2 (by omega) (by omega) (fun g1 hIg1 hug1 => ?_)
  refine mm_g 1 (pc1 := 6) (lo1 := [some (.ref 137), some (.int (Int32.ofInt a1)), none, none, none, none, none, none]) (st1 := [.ref 137]) (H1 := mz_mk g1 x) rfl ?_
  refine mz_cv rfl mt_12_467 (by decide) (sc_137 _) rfl (Nat.le_of_ble_eq_true rfl) (by omega) (c_X12_tellChain (by omega) hx hIg1 (by intro j hj; rw [show g1 140 0 = g 140 0 from (hug1.2 140 0 (fun h => absurd h.1 (by decide)))] at hj; rw [show g1 142 j = g 142 j from (hug1.2 142 j (fun h => absurd h.1 (by decide)))]; exact hl j hj) (fun g2 hIg2 hfg2 hp3 => ⟨_, rfl, ?_⟩))
  show mm_W d mmX12_chain 9 [some (.ref 137), some (.int (Int32.ofInt a1)), none, none, none, none, none, none] [] (mz_mk g2 x) Q
  have rt3 := hp3
  rw [show g1 141 = g 141 from funext (fun j => (hug1.2 141 j (fun h => absurd h.1 (by decide)))), show g1 142 = g 142 from funext (fun j => (hug1.2 142 j (fun h => absurd h.1 (by decide)))), show g1 140 0 = g 140 0 from (hug1.2 140 0 (fun h => absurd h.1 (by decide)))] at rt3
  have hAb := mz_Ab (T := (g 140 0)) (by omega) (by omega)
  refine mm_g 6 (pc1 := 16) (lo1 := [some (.ref 137), some (.int (Int32.ofInt a1)), some (.int (Int32.ofInt (-1))), some (.int (Int32.ofInt 0)), some (.int (Int32.ofInt 0)), none, none, none]) (st1 := []) (H1 := mz_mk g2 x) rfl ?_
  have L11 : ∀ n10 : Nat, ∀ (v4 : Int) (v5 : Int) (v6 : Int) (o7 : Option Value), (8 - v6).toNat = n10 → (-1) ≤ v4 → v4 ≤ 16 → 0 ≤ v5 → v5 ≤ 256 → 0 ≤ v6 → v6 ≤ 8 → mz_nl o7 → ((v6 = 0 ∧ v4 = -1 ∧ v5 = 0) ∨ (0 ≤ v4 ∧ v4 < g 140 0 ∧ 1 ≤ v5 ∧ v5 ≤ 256 ∧ v5 = 1 + mz_go g2 v4 (mz_nx 0 v4))) → mm_W d mmX12_chain 16 [some (.ref 137), some (.int (Int32.ofInt a1)), some (.int (Int32.ofInt v4)), some (.int (Int32.ofInt v5)), some (.int (Int32.ofInt v6)), o7, none, none] [] (mz_mk g2 x) Q := by
    intro n10
    induction n10 using Nat.strongRecOn with
    | ind n10 ih9 =>
    intro v4 v5 v6 o7 hmn10 l_v4 u_v4 l_v5 u_v5 l_v6 u_v6 h_o7 hv12
    refine mm_g 2 (pc1 := 19) (lo1 := [some (.ref 137), some (.int (Int32.ofInt a1)), some (.int (Int32.ofInt v4)), some (.int (Int32.ofInt v5)), some (.int (Int32.ofInt v6)), o7, none, none]) (st1 := [.ref 137, .int (Int32.ofInt v6)]) (H1 := mz_mk g2 x) rfl ?_
    refine mz_fgR (v := 140) rfl fd_12_36 (by decide) (sc_137 _) (rf_137_3 _ _ _) ?_
    refine mm_g 1 (pc1 := 23) (lo1 := [some (.ref 137), some (.int (Int32.ofInt a1)), some (.int (Int32.ofInt v4)), some (.int (Int32.ofInt v5)), some (.int (Int32.ofInt v6)), o7, none, none]) (st1 := [.int (Int32.ofInt 0), .ref 140, .int (Int32.ofInt v6)]) (H1 := mz_mk g2 x) rfl ?_
    refine mz_ia (v := (g 140 0)) rfl (sh_140 _) (by decide) (by decide) (by decide) (show g2 140 0 = (g 140 0) from ((hfg2 140 0 (fun h => (absurd (show 140 = 163 from h) (by decide)))).trans ((hug1.2 140 0 (fun h => absurd h.1 (by decide))).trans rfl))) ?_
    refine mz_ic_ge (tgt := 59) rfl rfl (mz_rg l_v6 u_v6) ⟨by omega, by omega⟩ (fun c24_12 => ?_) (fun c24_12 => ?_)
    · skip
      refine mm_g 1 (pc1 := 60) (lo1 := [some (.ref 137), some (.int (Int32.ofInt a1)), some (.int (Int32.ofInt v4)), some (.int (Int32.ofInt v5)), some (.int (Int32.ofInt v6)), o7, none, none]) (st1 := [.int (Int32.ofInt a1)]) (H1 := mz_mk g2 x) rfl ?_
      refine mz_i2l rfl (mz_rg l_a1 u_a1) ?_
      refine mz_l2w (c := (-1)) rfl rfl rfl ?_
      refine mm_g 2 (pc1 := 66) (lo1 := [some (.ref 137), some (.int (Int32.ofInt a1)), some (.int (Int32.ofInt v4)), some (.int (Int32.ofInt v5)), some (.int (Int32.ofInt v6)), o7, none, none]) (st1 := [.int (Int32.ofInt 1), .int (Int32.ofInt v5), .long (Int64.ofInt (-1)), .long (Int64.ofInt a1)]) (H1 := mz_mk g2 x) rfl ?_
      refine mz_isub rfl ?_
      refine mz_i2l rfl ⟨by omega, by omega⟩ ?_
      refine mz_cs rfl mt_12_157 (by decide) rfl (Nat.le_of_ble_eq_true rfl) (by omega) (c_X12_isIn (by omega) hx hIg2 (by omega) (by omega) (by omega) (by omega) (by omega) (by omega) (fun v13 l_v13 u_v13 hp14 => ⟨_, rfl, ?_⟩))
      show mm_W d mmX12_chain 71 [some (.ref 137), some (.int (Int32.ofInt a1)), some (.int (Int32.ofInt v4)), some (.int (Int32.ofInt v5)), some (.int (Int32.ofInt v6)), o7, none, none] [.int (Int32.ofInt v13)] (mz_mk g2 x) Q
      refine mz_if_ne (tgt := 80) rfl rfl (mz_rg l_v13 u_v13) (fun c71_14 => ?_) (fun c71_14 => ?_)
      · skip
        refine mm_g 2 (pc1 := 82) (lo1 := [some (.ref 137), some (.int (Int32.ofInt a1)), some (.int (Int32.ofInt v4)), some (.int (Int32.ofInt v5)), some (.int (Int32.ofInt v6)), o7, none, none]) (st1 := [.int (Int32.ofInt (-1)), .int (Int32.ofInt a1)]) (H1 := mz_mk g2 x) rfl ?_
        refine mz_ic_ne (tgt := 87) rfl rfl (mz_rg l_a1 u_a1) ⟨by decide, by decide⟩ (fun c82_14 => ?_) (fun c82_14 => ?_)
        · skip
          have w0_v4 : 0 ≤ v4 ∧ v4 ≤ 7 ∧ v4 < (g 140 0) := by omega
          refine mm_g 2 (pc1 := 89) (lo1 := [some (.ref 137), some (.int (Int32.ofInt a1)), some (.int (Int32.ofInt v4)), some (.int (Int32.ofInt v5)), some (.int (Int32.ofInt v6)), o7, none, none]) (st1 := [.int (Int32.ofInt v4), .int (Int32.ofInt 1)]) (H1 := mz_mk g2 x) rfl ?_
          refine mz_ishl rfl (fun v15 e_v15 hwv15 => ?_)
          have b_v15 : 1 ≤ v15 ∧ v15 ≤ 128 := by rw [e_v15]; exact mz_shl_b (lx := 1) (hx := 1) (k := 7) (by decide) (by decide) (by omega) (by omega) (by omega) (by omega)
          have l_v15 := b_v15.1
          have u_v15 := b_v15.2
          have wf := mz_first (T := (g 140 0)) (v := v4) (by omega) (by omega) (by omega) (by omega)
          rw [← e_v15] at wf
          have wf1 := wf.1
          have wf2 := wf.2.1
          have lw_v15 : 1 ≤ v15 := by omega
          have uw_v15 : v15 ≤ 255 := by omega
          refine mm_g 3 (pc1 := 95) (lo1 := [some (.ref 137), some (.int (Int32.ofInt a1)), some (.int (Int32.ofInt v4)), some (.int (Int32.ofInt v5)), some (.int (Int32.ofInt v15)), some (.int (Int32.ofInt 0)), none, none]) (st1 := []) (H1 := mz_mk g2 x) rfl ?_
          have L24 : ∀ n23 : Nat, ∀ (v16 : Int) (v17 : Int) (v18 : Int) (o19 : Option Value) (o20 : Option Value), (255 - v18).toNat = n23 → 0 ≤ v16 → v16 ≤ 7 → 1 ≤ v17 → v17 ≤ 255 → 0 ≤ v18 → v18 ≤ 255 → mz_nl o19 → mz_nl o20 → (0 ≤ v16 ∧ v16 < (g 140 0)) → (0 < v17 ∧ v17 ≤ mz_A (g 140 0)) → (mz_bit v17 v16 = 1) → (a1 ≤ v18 + mz_go g2 v16 v17) → mm_W d mmX12_chain 95 [some (.ref 137), some (.int (Int32.ofInt a1)), some (.int (Int32.ofInt v16)), some (.int (Int32.ofInt v5)), some (.int (Int32.ofInt v17)), some (.int (Int32.ofInt v18)), o19, o20] [] (mz_mk g2 x) Q := by
            intro n23
            induction n23 using Nat.strongRecOn with
            | ind n23 ih22 =>
            intro v16 v17 v18 o19 o20 hmn23 l_v16 u_v16 l_v17 u_v17 l_v18 u_v18 h_o19 h_o20 hv25 hv26 hv27 hv28
            refine mm_g 2 (pc1 := 98) (lo1 := [some (.ref 137), some (.int (Int32.ofInt a1)), some (.int (Int32.ofInt v16)), some (.int (Int32.ofInt v5)), some (.int (Int32.ofInt v17)), some (.int (Int32.ofInt v18)), o19, o20]) (st1 := [.int (Int32.ofInt a1), .int (Int32.ofInt v18)]) (H1 := mz_mk g2 x) rfl ?_
            refine mz_ic_ge (tgt := 192) rfl rfl (mz_rg l_v18 u_v18) (mz_rg l_a1 u_a1) (fun c98_28 => ?_) (fun c98_28 => ?_)
            · skip
              refine mm_g 1 (pc1 := 193) (lo1 := [some (.ref 137), some (.int (Int32.ofInt a1)), some (.int (Int32.ofInt v16)), some (.int (Int32.ofInt v5)), some (.int (Int32.ofInt v17)), some (.int (Int32.ofInt v18)), o19, o20]) (st1 := [.int (Int32.ofInt v16)]) (H1 := mz_mk g2 x) rfl ?_
              exact mm_rt rfl rfl (hQ _ _ hIg2 (fun k j hk => ((hfg2 k j (fun h => hk (Or.inr h))).trans (hug1.2 k j (fun h => hk (Or.inl h))))) (by omega) (by omega) (by have h9 := (show g2 137 30 = (g 137 30) from ((hfg2 137 30 (fun h => (absurd (show 137 = 163 from h) (by decide)))).trans ((hug1.2 137 30 (fun h => absurd h.2 (by decide))).trans rfl))); omega))
            · skip
              refine mm_g 3 (pc1 := 105) (lo1 := [some (.ref 137), some (.int (Int32.ofInt a1)), some (.int (Int32.ofInt v16)), some (.int (Int32.ofInt v5)), some (.int (Int32.ofInt v17)), some (.int (Int32.ofInt v18)), some (.int (Int32.ofInt (-1))), o20]) (st1 := [.ref 137]) (H1 := mz_mk g2 x) rfl ?_
              refine mz_fgR (v := 140) rfl fd_12_36 (by decide) (sc_137 _) (rf_137_3 _ _ _) ?_
              refine mm_g 1 (pc1 := 109) (lo1 := [some (.ref 137), some (.int (Int32.ofInt a1)), some (.int (Int32.ofInt v16)), some (.int (Int32.ofInt v5)), some (.int (Int32.ofInt v17)), some (.int (Int32.ofInt v18)), some (.int (Int32.ofInt (-1))), o20]) (st1 := [.int (Int32.ofInt 0), .ref 140]) (H1 := mz_mk g2 x) rfl ?_
              refine mz_ia (v := (g 140 0)) rfl (sh_140 _) (by decide) (by decide) (by decide) (show g2 140 0 = (g 140 0) from ((hfg2 140 0 (fun h => (absurd (show 140 = 163 from h) (by decide)))).trans ((hug1.2 140 0 (fun h => absurd h.1 (by decide))).trans rfl))) ?_
              refine mm_g 1 (pc1 := 111) (lo1 := [some (.ref 137), some (.int (Int32.ofInt a1)), some (.int (Int32.ofInt v16)), some (.int (Int32.ofInt v5)), some (.int (Int32.ofInt v17)), some (.int (Int32.ofInt v18)), some (.int (Int32.ofInt (-1))), o20]) (st1 := [.int (Int32.ofInt 1), .int (Int32.ofInt (g 140 0))]) (H1 := mz_mk g2 x) rfl ?_
              refine mz_isub rfl ?_
              refine mm_g 1 (pc1 := 114) (lo1 := [some (.ref 137), some (.int (Int32.ofInt a1)), some (.int (Int32.ofInt v16)), some (.int (Int32.ofInt v5)), some (.int (Int32.ofInt v17)), some (.int (Int32.ofInt v18)), some (.int (Int32.ofInt (-1))), some (.int (Int32.ofInt ((g 140 0) - 1)))]) (st1 := []) (H1 := mz_mk g2 x) rfl ?_
              have L34 : ∀ n33 : Nat, ∀ (v29 : Int) (v30 : Int), (v30 - (-1)).toNat = n33 → (-1) ≤ v29 → v29 ≤ 7 → (-1) ≤ v30 → v30 ≤ 7 → (mz_NI (mz_fo (g 141) (g 142)) (fun _ _ => (1 : Int)) g2 (g 140 0) v16 v17 v29 v30) → (v30 + 1 ≤ (g 140 0)) → mm_W d mmX12_chain 114 [some (.ref 137), some (.int (Int32.ofInt a1)), some (.int (Int32.ofInt v16)), some (.int (Int32.ofInt v5)), some (.int (Int32.ofInt v17)), some (.int (Int32.ofInt v18)), some (.int (Int32.ofInt v29)), some (.int (Int32.ofInt v30))] [] (mz_mk g2 x) Q := by
                intro n33
                induction n33 using Nat.strongRecOn with
                | ind n33 ih32 =>
                intro v29 v30 hmn33 l_v29 u_v29 l_v30 u_v30 hv35 hv36
                refine mm_g 1 (pc1 := 116) (lo1 := [some (.ref 137), some (.int (Int32.ofInt a1)), some (.int (Int32.ofInt v16)), some (.int (Int32.ofInt v5)), some (.int (Int32.ofInt v17)), some (.int (Int32.ofInt v18)), some (.int (Int32.ofInt v29)), some (.int (Int32.ofInt v30))]) (st1 := [.int (Int32.ofInt v30)]) (H1 := mz_mk g2 x) rfl ?_
                refine mz_if_lt (tgt := 174) rfl rfl (mz_rg l_v30 u_v30) (fun c116_36 => ?_) (fun c116_36 => ?_)
                · skip
                  obtain ⟨n0_v29, n1_v29, nc_v29⟩ := mz_NI_end (b := false) hv35 (by omega) rt3 (by omega) (by omega) (by omega) (by omega) hv27 (show 0 < mz_go g2 v16 v17 by omega)
                  have n2_v29 : v29 ≤ 7 := by omega
                  refine mm_g 3 (pc1 := 179) (lo1 := [some (.ref 137), some (.int (Int32.ofInt a1)), some (.int (Int32.ofInt v16)), some (.int (Int32.ofInt v5)), some (.int (Int32.ofInt v17)), some (.int (Int32.ofInt v18)), some (.int (Int32.ofInt v29)), some (.int (Int32.ofInt v30))]) (st1 := [.int (Int32.ofInt v29), .int (Int32.ofInt 1), .int (Int32.ofInt v17)]) (H1 := mz_mk g2 x) rfl ?_
                  refine mz_ishl rfl (fun v37 e_v37 hwv37 => ?_)
                  have b_v37 : 1 ≤ v37 ∧ v37 ≤ 128 := by rw [e_v37]; exact mz_shl_b (lx := 1) (hx := 1) (k := 7) (by decide) (by decide) (by omega) (by omega) (by omega) (by omega)
                  have l_v37 := b_v37.1
                  have u_v37 := b_v37.2
                  refine mz_ior rfl (fun v38 e_v38 hwv38 => ?_)
                  have b_v38 : 0 ≤ v38 ∧ v38 ≤ 255 := by rw [e_v38]; exact mz_or_lt (n := 8) (by decide) (by omega) (by omega) (by omega) (by omega)
                  have l_v38 := b_v38.1
                  have u_v38 := b_v38.2
                  have wn_v38 := mz_nxA (T := (g 140 0)) (h := v17) (v := v29) (by omega) (by omega) (by omega) (by omega) (by omega) (by omega) nc_v29.1
                  unfold mz_nx at wn_v38
                  rw [← e_v37, ← e_v38] at wn_v38
                  have wn1_v38 := wn_v38.1
                  have wn2_v38 := wn_v38.2.1
                  have wg_v38 : (1 : Int) + mz_go g2 v29 (mz_nx v17 v29) = mz_go g2 v16 v17 := nc_v29.2.2
                  unfold mz_nx at wg_v38
                  rw [← e_v37, ← e_v38] at wg_v38
                  refine mm_g 3 (pc1 := 186) (lo1 := [some (.ref 137), some (.int (Int32.ofInt a1)), some (.int (Int32.ofInt v29)), some (.int (Int32.ofInt v5)), some (.int (Int32.ofInt v38)), some (.int (Int32.ofInt v18)), some (.int (Int32.ofInt v29)), some (.int (Int32.ofInt v30))]) (st1 := []) (H1 := mz_mk g2 x) rfl ?_
                  refine mz_iincR (v := v18) (lo2 := [some (.ref 137), some (.int (Int32.ofInt a1)), some (.int (Int32.ofInt v29)), some (.int (Int32.ofInt v5)), some (.int (Int32.ofInt v38)), some (.int (Int32.ofInt (v18 + 1))), some (.int (Int32.ofInt v29)), some (.int (Int32.ofInt v30))]) rfl rfl rfl (Nat.le_of_ble_eq_true rfl) rfl ?_
                  refine mz_gt (tgt := 95) rfl rfl ?_
                  exact ih22 ((255 - (v18 + 1)).toNat) (by omega) v29 v38 (v18 + 1) (some (.int (Int32.ofInt v29))) (some (.int (Int32.ofInt v30))) rfl (by omega) (by omega) (by omega) (by omega) (by omega) (by omega) (mz_nl_i _) (mz_nl_i _) (by omega) (by omega) wn_v38.2.2.1 (by omega)
                · skip
                  refine mm_g 2 (pc1 := 123) (lo1 := [some (.ref 137), some (.int (Int32.ofInt a1)), some (.int (Int32.ofInt v16)), some (.int (Int32.ofInt v5)), some (.int (Int32.ofInt v17)), some (.int (Int32.ofInt v18)), some (.int (Int32.ofInt v29)), some (.int (Int32.ofInt v30))]) (st1 := [.int (Int32.ofInt v30), .int (Int32.ofInt v17)]) (H1 := mz_mk g2 x) rfl ?_
                  refine mz_cs rfl mt_12_450 (by decide) rfl (Nat.le_of_ble_eq_true rfl) (by omega) (c_X12_isOf (by omega) hx hIg2 (by omega) (by omega) (by omega) (by omega) (fun v39 l_v39 u_v39 hp40 => ⟨_, rfl, ?_⟩))
                  show mm_W d mmX12_chain 126 [some (.ref 137), some (.int (Int32.ofInt a1)), some (.int (Int32.ofInt v16)), some (.int (Int32.ofInt v5)), some (.int (Int32.ofInt v17)), some (.int (Int32.ofInt v18)), some (.int (Int32.ofInt v29)), some (.int (Int32.ofInt v30))] [.int (Int32.ofInt v39)] (mz_mk g2 x) Q
                  refine mz_if_ne (tgt := 168) rfl rfl (mz_rg l_v39 u_v39) (fun c126_40 => ?_) (fun c126_40 => ?_)
                  · skip
                    refine mz_iincR (v := v30) (lo2 := [some (.ref 137), some (.int (Int32.ofInt a1)), some (.int (Int32.ofInt v16)), some (.int (Int32.ofInt v5)), some (.int (Int32.ofInt v17)), some (.int (Int32.ofInt v18)), some (.int (Int32.ofInt v29)), some (.int (Int32.ofInt (v30 + (-1))))]) rfl rfl rfl (Nat.le_of_ble_eq_true rfl) rfl ?_
                    refine mz_gt (tgt := 114) rfl rfl ?_
                    exact ih32 (((v30 + (-1)) - (-1)).toNat) (by omega) v29 (v30 + (-1)) rfl (by omega) (by omega) (by omega) (by omega) (mz_NI_skip hv35 (fun z => by have h9 := z.1; rw [← hp40 (by omega) (by omega) (by omega)] at h9; omega)) (by omega)
                  · skip
                    refine mm_g 3 (pc1 := 133) (lo1 := [some (.ref 137), some (.int (Int32.ofInt a1)), some (.int (Int32.ofInt v16)), some (.int (Int32.ofInt v5)), some (.int (Int32.ofInt v17)), some (.int (Int32.ofInt v18)), some (.int (Int32.ofInt v29)), some (.int (Int32.ofInt v30))]) (st1 := [.int (Int32.ofInt v30), .int (Int32.ofInt v16), .ref 137]) (H1 := mz_mk g2 x) rfl ?_
                    refine mz_cv rfl mt_12_464 (by decide) (sc_137 _) rfl (Nat.le_of_ble_eq_true rfl) (by omega) (c_X12_follows (by omega) hx hIg2 l_v16 u_v16 (by omega) (by omega) (by have h8 := hl (v16 : Int).toNat (by omega); have h9 : g2 142 (v16 : Int).toNat = g 142 (v16 : Int).toNat := ((hfg2 142 (v16 : Int).toNat (fun h => (absurd (show 142 = 163 from h) (by decide)))).trans (hug1.2 142 (v16 : Int).toNat (fun h => absurd h.1 (by decide)))); omega) (fun v41 l_v41 u_v41 hp42 => ⟨_, rfl, ?_⟩))
                    show mm_W d mmX12_chain 136 [some (.ref 137), some (.int (Int32.ofInt a1)), some (.int (Int32.ofInt v16)), some (.int (Int32.ofInt v5)), some (.int (Int32.ofInt v17)), some (.int (Int32.ofInt v18)), some (.int (Int32.ofInt v29)), some (.int (Int32.ofInt v30))] [.int (Int32.ofInt v41)] (mz_mk g2 x) Q
                    have fo42 := hp42
                    rw [show g2 141 = g 141 from funext (fun j => ((hfg2 141 j (fun h => (absurd (show 141 = 163 from h) (by decide)))).trans (hug1.2 141 j (fun h => absurd h.1 (by decide))))), show g2 142 = g 142 from funext (fun j => ((hfg2 142 j (fun h => (absurd (show 142 = 163 from h) (by decide)))).trans (hug1.2 142 j (fun h => absurd h.1 (by decide)))))] at fo42
                    refine mz_if_eq (tgt := 168) rfl rfl (mz_rg l_v41 u_v41) (fun c136_42 => ?_) (fun c136_42 => ?_)
                    · skip
                      refine mz_iincR (v := v30) (lo2 := [some (.ref 137), some (.int (Int32.ofInt a1)), some (.int (Int32.ofInt v16)), some (.int (Int32.ofInt v5)), some (.int (Int32.ofInt v17)), some (.int (Int32.ofInt v18)), some (.int (Int32.ofInt v29)), some (.int (Int32.ofInt (v30 + (-1))))]) rfl rfl rfl (Nat.le_of_ble_eq_true rfl) rfl ?_
                      refine mz_gt (tgt := 114) rfl rfl ?_
                      exact ih32 (((v30 + (-1)) - (-1)).toNat) (by omega) v29 (v30 + (-1)) rfl (by omega) (by omega) (by omega) (by omega) (mz_NI_skip hv35 (fun z => by have h9 := fo42.mpr z.2.1; omega)) (by omega)
                    · skip
                      refine mm_g 4 (pc1 := 145) (lo1 := [some (.ref 137), some (.int (Int32.ofInt a1)), some (.int (Int32.ofInt v16)), some (.int (Int32.ofInt v5)), some (.int (Int32.ofInt v17)), some (.int (Int32.ofInt v18)), some (.int (Int32.ofInt v29)), some (.int (Int32.ofInt v30))]) (st1 := [.int (Int32.ofInt v17), .int (Int32.ofInt v30), .ref 137, .int (Int32.ofInt 1)]) (H1 := mz_mk g2 x) rfl ?_
                      refine mz_cv rfl mt_12_456 (by decide) (sc_137 _) rfl (Nat.le_of_ble_eq_true rfl) (by omega) (c_X12_madeOn (by omega) hx hIg2 (by omega) (by omega) (by omega) (by omega) (fun v43 l_v43 u_v43 hp44 => ⟨_, rfl, ?_⟩))
                      show mm_W d mmX12_chain 148 [some (.ref 137), some (.int (Int32.ofInt a1)), some (.int (Int32.ofInt v16)), some (.int (Int32.ofInt v5)), some (.int (Int32.ofInt v17)), some (.int (Int32.ofInt v18)), some (.int (Int32.ofInt v29)), some (.int (Int32.ofInt v30))] [.int (Int32.ofInt v43), .int (Int32.ofInt 1)] (mz_mk g2 x) Q
                      have mb44 := mz_ET_made (v := v30) (mz_ET_ge (h := v17) rt3 (by omega)) (by omega) (by omega) (by omega) (by omega) (by omega) (by omega) (by rw [← hp40 (by omega) (by omega) (by omega)]; omega)
                      simp only [mz_cf] at mb44
                      rw [← hp44] at mb44
                      refine mz_iadd rfl ?_
                      refine mm_g 1 (pc1 := 150) (lo1 := [some (.ref 137), some (.int (Int32.ofInt a1)), some (.int (Int32.ofInt v16)), some (.int (Int32.ofInt v5)), some (.int (Int32.ofInt v17)), some (.int (Int32.ofInt v18)), some (.int (Int32.ofInt v29)), some (.int (Int32.ofInt v30))]) (st1 := [.ref 137, .int (Int32.ofInt (1 + v43))]) (H1 := mz_mk g2 x) rfl ?_
                      refine mz_fgR (v := 163) rfl fd_12_106 (by decide) (sc_137 _) (rf_137_41 _ _ _) ?_
                      refine mm_g 1 (pc1 := 154) (lo1 := [some (.ref 137), some (.int (Int32.ofInt a1)), some (.int (Int32.ofInt v16)), some (.int (Int32.ofInt v5)), some (.int (Int32.ofInt v17)), some (.int (Int32.ofInt v18)), some (.int (Int32.ofInt v29)), some (.int (Int32.ofInt v30))]) (st1 := [.int (Int32.ofInt v16), .ref 163, .int (Int32.ofInt (1 + v43))]) (H1 := mz_mk g2 x) rfl ?_
                      refine mz_bip rfl bip_8 ?_
                      refine mz_ishl rfl (fun v45 e_v45 hwv45 => ?_)
                      have b_v45 : 0 ≤ v45 ∧ v45 ≤ 1792 := by rw [e_v45]; exact mz_shl_b (lx := 0) (hx := 7) (k := 8) (by decide) (by decide) (by omega) (by omega) (by omega) (by omega)
                      have l_v45 := b_v45.1
                      have u_v45 := b_v45.2
                      refine mm_g 1 (pc1 := 159) (lo1 := [some (.ref 137), some (.int (Int32.ofInt a1)), some (.int (Int32.ofInt v16)), some (.int (Int32.ofInt v5)), some (.int (Int32.ofInt v17)), some (.int (Int32.ofInt v18)), some (.int (Int32.ofInt v29)), some (.int (Int32.ofInt v30))]) (st1 := [.int (Int32.ofInt v17), .int (Int32.ofInt v45), .ref 163, .int (Int32.ofInt (1 + v43))]) (H1 := mz_mk g2 x) rfl ?_
                      refine mz_iadd rfl ?_
                      refine mz_aI rfl (sh_163 _) (by omega) (by omega) (by decide) hIg2 (ba_163 _) (fun v46 e_v46 l_v46 u_v46 => ?_)
                      have goe46 := mz_go_at (g := g2) (h := v17) e_v45 (by omega) (by omega) e_v46
                      refine mz_ic_ne (tgt := 168) rfl rfl ⟨by omega, by omega⟩ (mz_rg l_v46 u_v46) (fun c161_46 => ?_) (fun c161_46 => ?_)
                      · skip
                        refine mz_iincR (v := v30) (lo2 := [some (.ref 137), some (.int (Int32.ofInt a1)), some (.int (Int32.ofInt v16)), some (.int (Int32.ofInt v5)), some (.int (Int32.ofInt v17)), some (.int (Int32.ofInt v18)), some (.int (Int32.ofInt v29)), some (.int (Int32.ofInt (v30 + (-1))))]) rfl rfl rfl (Nat.le_of_ble_eq_true rfl) rfl ?_
                        refine mz_gt (tgt := 114) rfl rfl ?_
                        exact ih32 (((v30 + (-1)) - (-1)).toNat) (by omega) v29 (v30 + (-1)) rfl (by omega) (by omega) (by omega) (by omega) (mz_NI_skip hv35 (fun z => by have h9 : (1 : Int) + mz_go g2 v30 (mz_nx v17 v30) = mz_go g2 v16 v17 := z.2.2; rw [← hp44, goe46] at h9; omega)) (by omega)
                      · skip
                        refine mm_g 2 (pc1 := 168) (lo1 := [some (.ref 137), some (.int (Int32.ofInt a1)), some (.int (Int32.ofInt v16)), some (.int (Int32.ofInt v5)), some (.int (Int32.ofInt v17)), some (.int (Int32.ofInt v18)), some (.int (Int32.ofInt v30)), some (.int (Int32.ofInt v30))]) (st1 := []) (H1 := mz_mk g2 x) rfl ?_
                        refine mz_iincR (v := v30) (lo2 := [some (.ref 137), some (.int (Int32.ofInt a1)), some (.int (Int32.ofInt v16)), some (.int (Int32.ofInt v5)), some (.int (Int32.ofInt v17)), some (.int (Int32.ofInt v18)), some (.int (Int32.ofInt v30)), some (.int (Int32.ofInt (v30 + (-1))))]) rfl rfl rfl (Nat.le_of_ble_eq_true rfl) rfl ?_
                        refine mz_gt (tgt := 114) rfl rfl ?_
                        exact ih32 (((v30 + (-1)) - (-1)).toNat) (by omega) v30 (v30 + (-1)) rfl (by omega) (by omega) (by omega) (by omega) (mz_NI_take (by omega) (by omega) ⟨(by rw [← hp40 (by omega) (by omega) (by omega)]; omega), fo42.mp (by omega), (show (1 : Int) + mz_go g2 v30 (mz_nx v17 v30) = mz_go g2 v16 v17 by rw [← hp44, goe46]; omega)⟩) (by omega)
              exact L34 _ (-1) ((g 140 0) - 1) rfl (by decide) (by decide) (by omega) (by omega) (mz_NI_0 (by omega)) (by omega)
          exact L24 _ v4 v15 0 none none rfl (by omega) (by omega) (by omega) (by omega) (by decide) (by decide) mz_nl_n mz_nl_n (by omega) (by omega) wf.2.2.1 (by rcases hv12 with q | q; omega; have h8 := q.2.2.2.2; rw [wf.2.2.2.2] at h8; omega)
        · skip
          refine mm_g 1 (pc1 := 86) (lo1 := [some (.ref 137), some (.int (Int32.ofInt a1)), some (.int (Int32.ofInt v4)), some (.int (Int32.ofInt v5)), some (.int (Int32.ofInt v6)), o7, none, none]) (st1 := [.int (Int32.ofInt v5)]) (H1 := mz_mk g2 x) rfl ?_
          exact mm_rt rfl rfl (hQ _ _ hIg2 (fun k j hk => ((hfg2 k j (fun h => hk (Or.inr h))).trans (hug1.2 k j (fun h => hk (Or.inl h))))) (by omega) (by omega) (by have h9 := (show g2 137 30 = (g 137 30) from ((hfg2 137 30 (fun h => (absurd (show 137 = 163 from h) (by decide)))).trans ((hug1.2 137 30 (fun h => absurd h.2 (by decide))).trans rfl))); omega))
      · skip
        refine mm_g 2 (pc1 := 76) (lo1 := [some (.ref 137), some (.int (Int32.ofInt a1)), some (.int (Int32.ofInt v4)), some (.int (Int32.ofInt v5)), some (.int (Int32.ofInt v6)), o7, none, none]) (st1 := [.int (Int32.ofInt 1), .ref 137]) (H1 := mz_mk g2 x) rfl ?_
        refine mz_cv rfl mt_12_294 (by decide) (sc_137 _) rfl (Nat.le_of_ble_eq_true rfl) (by omega) (c_X12_fail (by omega) hx hIg2 (by decide) (by decide) (fun v47 g48 hIg48 hfg48 l_v47 u_v47 => ⟨_, rfl, ?_⟩))
        show mm_W d mmX12_chain 79 [some (.ref 137), some (.int (Int32.ofInt a1)), some (.int (Int32.ofInt v4)), some (.int (Int32.ofInt v5)), some (.int (Int32.ofInt v6)), o7, none, none] [.int (Int32.ofInt v47)] (mz_mk g48 x) Q
        exact mm_rt rfl rfl (hQ _ _ hIg48 (fun k j hk => ((hfg48 k j (fun h => hk (Or.inl h))).trans ((hfg2 k j (fun h => hk (Or.inr h))).trans (hug1.2 k j (fun h => hk (Or.inl h)))))) (by omega) (by omega) (by have h9 := (show g48 137 30 = (g 137 30) from ((hfg48 137 30 (fun h => (absurd (show (137 = 137 ∧ 30 = 2) from h) (by decide)))).trans ((hfg2 137 30 (fun h => (absurd (show 137 = 163 from h) (by decide)))).trans ((hug1.2 137 30 (fun h => absurd h.2 (by decide))).trans rfl)))); omega))
    · skip
      refine mm_g 4 (pc1 := 32) (lo1 := [some (.ref 137), some (.int (Int32.ofInt a1)), some (.int (Int32.ofInt v4)), some (.int (Int32.ofInt v5)), some (.int (Int32.ofInt v6)), o7, none, none]) (st1 := [.int (Int32.ofInt 0), .int (Int32.ofInt v6), .ref 137, .int (Int32.ofInt 1)]) (H1 := mz_mk g2 x) rfl ?_
      refine mz_cv rfl mt_12_456 (by decide) (sc_137 _) rfl (Nat.le_of_ble_eq_true rfl) (by omega) (c_X12_madeOn (by omega) hx hIg2 (by omega) (by omega) (by decide) (by decide) (fun v49 l_v49 u_v49 hp50 => ⟨_, rfl, ?_⟩))
      show mm_W d mmX12_chain 35 [some (.ref 137), some (.int (Int32.ofInt a1)), some (.int (Int32.ofInt v4)), some (.int (Int32.ofInt v5)), some (.int (Int32.ofInt v6)), o7, none, none] [.int (Int32.ofInt v49), .int (Int32.ofInt 1)] (mz_mk g2 x) Q
      have mb50 := mz_ET_made (v := v6) rt3 (by omega) (by omega) (by omega) (by omega) (by omega) (by omega) (mz_bit0 (by omega) (by omega))
      simp only [mz_cf] at mb50
      rw [← hp50] at mb50
      refine mz_iadd rfl ?_
      refine mm_g 3 (pc1 := 41) (lo1 := [some (.ref 137), some (.int (Int32.ofInt a1)), some (.int (Int32.ofInt v4)), some (.int (Int32.ofInt v5)), some (.int (Int32.ofInt v6)), some (.int (Int32.ofInt (1 + v49))), none, none]) (st1 := [.int (Int32.ofInt v5), .int (Int32.ofInt (1 + v49))]) (H1 := mz_mk g2 x) rfl ?_
      refine mz_ic_gt (tgt := 47) rfl rfl ⟨by omega, by omega⟩ (mz_rg l_v5 u_v5) (fun c41_50 => ?_) (fun c41_50 => ?_)
      · skip
        refine mm_g 4 (pc1 := 53) (lo1 := [some (.ref 137), some (.int (Int32.ofInt a1)), some (.int (Int32.ofInt v6)), some (.int (Int32.ofInt (1 + v49))), some (.int (Int32.ofInt v6)), some (.int (Int32.ofInt (1 + v49))), none, none]) (st1 := []) (H1 := mz_mk g2 x) rfl ?_
        refine mz_iincR (v := v6) (lo2 := [some (.ref 137), some (.int (Int32.ofInt a1)), some (.int (Int32.ofInt v6)), some (.int (Int32.ofInt (1 + v49))), some (.int (Int32.ofInt (v6 + 1))), some (.int (Int32.ofInt (1 + v49))), none, none]) rfl rfl rfl (Nat.le_of_ble_eq_true rfl) rfl ?_
        refine mz_gt (tgt := 16) rfl rfl ?_
        exact ih9 ((8 - (v6 + 1)).toNat) (by omega) v6 (1 + v49) (v6 + 1) (some (.int (Int32.ofInt (1 + v49)))) rfl (by omega) (by omega) (by omega) (by omega) (by omega) (by omega) (mz_nl_i _) (by omega)
      · skip
        refine mz_gt (tgt := 53) rfl rfl ?_
        refine mz_iincR (v := v6) (lo2 := [some (.ref 137), some (.int (Int32.ofInt a1)), some (.int (Int32.ofInt v4)), some (.int (Int32.ofInt v5)), some (.int (Int32.ofInt (v6 + 1))), some (.int (Int32.ofInt (1 + v49))), none, none]) rfl rfl rfl (Nat.le_of_ble_eq_true rfl) rfl ?_
        refine mz_gt (tgt := 16) rfl rfl ?_
        exact ih9 ((8 - (v6 + 1)).toNat) (by omega) v4 v5 (v6 + 1) (some (.int (Int32.ofInt (1 + v49)))) rfl (by omega) (by omega) (by omega) (by omega) (by omega) (by omega) (mz_nl_i _) (by omega)
  exact L11 _ (-1) 0 0 none rfl (by decide) (by decide) (by decide) (by decide) (by decide) (by decide) mz_nl_n (by omega)
