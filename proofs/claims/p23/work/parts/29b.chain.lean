/-! EXACT: the reference (wip/p2/tools/gen50.py) -/
theorem mt_12_464 : mm_tab mm_mthT 12 464 = some (1, 271, 2, 0, 12) := rfl
theorem mt_12_467 : mm_tab mm_mthT 12 467 = some (1, 272, 0, 0, 12) := rfl
def fl_X12_tellChain_11 (x : mm_X) : Nat → Nat → Prop := fun k j => k = 163
def fl_X12_tellChain_17 (x : mm_X) : Nat → Nat → Prop := fun k j => k = 163
def fw_X12_tellChain (x : mm_X) : Nat → Nat → Prop := fun k j => k = 163
set_option maxHeartbeats 20000000 in
theorem f_X12_tellChain {d : Nat} (hd : 12 ≤ d) {x : mm_X} (hx : mk_x x) {g : mz_G} (hI : mz_inv g) (p1 : ∀ j : Nat, (j : Int) < g 140 0 → 1 ≤ g 142 j) {Q : (Option Value ⊕ Nat) → mm_H → Prop} (hQ : ∀ (g1 : mz_G), mz_inv g1 → mz_fr (fw_X12_tellChain x) g g1 → (mz_ET false (mz_fo (g 141) (g 142)) (fun _ _ => (1 : Int)) g1 (g 140 0) 0) → zf_E (zF_X12_tellChain g) (g1) → Q (.inl none) (mz_mk g1 x)) : mm_C d 272 [.ref 137] (mz_mk g x) Q := by
  refine ⟨mmX12_tellChain, [some (.ref 137), none, none, none, none], rfl, rfl, ?_⟩
  have bz0 := mz_rd hI bt_140_0
  have hl := p1
  have hE : zf_E (zF_X12_tellChain g) (zF_X12_tellChain g) := zf_rf
  refine mm_g 2 (pc1 := 2) (lo1 := [some (.ref 137), none, none, none, none]) (st1 := [.ref 137, .int (Int32.ofInt 1)]) (H1 := mz_mk g x) rfl ?_
  refine mz_fgR (v := 140) rfl fd_12_36 (by decide) (sc_137 _) (rf_137_3 _ _ _) ?_
  refine mm_g 1 (pc1 := 6) (lo1 := [some (.ref 137), none, none, none, none]) (st1 := [.int (Int32.ofInt 0), .ref 140, .int (Int32.ofInt 1)]) (H1 := mz_mk g x) rfl ?_
  refine mz_ia (v := (g 140 0)) rfl (sh_140 _) (by decide) (by decide) (by decide) (show g 140 0 = (g 140 0) from rfl) ?_
  replace hE := zf_tr hE (zf_le (show g 140 0 = (g 140 0) from rfl))
  refine mz_ishl rfl (fun v1 e_v1 hwv1 => ?_)
  have b_v1 : 1 ≤ v1 ∧ v1 ≤ 256 := by rw [e_v1]; exact mz_shl_b (lx := 1) (hx := 1) (k := 8) (by decide) (by decide) (by omega) (by omega) (by omega) (by omega)
  have l_v1 := b_v1.1
  have u_v1 := b_v1.2
  replace hE := zf_tr hE (zf_le e_v1.symm)
  refine mm_g 1 (pc1 := 9) (lo1 := [some (.ref 137), none, none, none, none]) (st1 := [.int (Int32.ofInt 1), .int (Int32.ofInt v1)]) (H1 := mz_mk g x) rfl ?_
  refine mz_isub rfl ?_
  have hA : mz_A (g 140 0) = (v1 - 1) := by unfold mz_A; rw [e_v1]
  have hAb := mz_Ab (T := (g 140 0)) (by omega) (by omega)
  refine mm_g 1 (pc1 := 11) (lo1 := [some (.ref 137), some (.int (Int32.ofInt (v1 - 1))), none, none, none]) (st1 := []) (H1 := mz_mk g x) rfl ?_
  have L9 : ∀ n8 : Nat, ∀ (v2 : Int) (o3 : Option Value) (o4 : Option Value) (o5 : Option Value) (g6 : mz_G), (v2 - 0).toNat = n8 → 0 ≤ v2 → v2 ≤ 255 → mz_nl o3 → mz_nl o4 → mz_nl o5 → mz_inv g6 → mz_fr (fl_X12_tellChain_11 x) g g6 → (mz_ET false (mz_fo (g 141) (g 142)) (fun _ _ => (1 : Int)) g6 (g 140 0) v2) → (v2 ≤ mz_A (g 140 0)) → (∃ fk : Nat, (v2 - 0).toNat < fk ∧ zf_E (zF_X12_tellChain g) (zL_X12_tellChain_11 fk v2 g6)) → mm_W d mmX12_tellChain 11 [some (.ref 137), some (.int (Int32.ofInt v2)), o3, o4, o5] [] (mz_mk g6 x) Q := by
    intro n8
    induction n8 using Nat.strongRecOn with
    | ind n8 ih7 =>
    intro v2 o3 o4 o5 g6 hmn8 l_v2 u_v2 h_o3 h_o4 h_o5 hIg6 hfg6 hv10 hv11 hF
    obtain ⟨fk, fl, hE⟩ := hF
    obtain ⟨fj12, rfl⟩ : ∃ fj, fk = fj + 1 := ⟨fk - 1, by omega⟩
    have fn13 : n8 ≤ fj12 := by omega
    replace hE := zf_tr hE zL_X12_tellChain_11_s
    refine mm_g 1 (pc1 := 12) (lo1 := [some (.ref 137), some (.int (Int32.ofInt v2)), o3, o4, o5]) (st1 := [.int (Int32.ofInt v2)]) (H1 := mz_mk g6 x) rfl ?_
    refine mz_if_le (tgt := 117) rfl rfl (mz_rg l_v2 u_v2) (fun c12_13 => ?_) (fun c12_13 => ?_)
    · skip
      replace hE := zf_nl hE c12_13
      exact mm_rt rfl rfl (hQ _ hIg6 (fun k j hk => (hfg6 k j (fun h => hk h))) (by have h9 := hv10; rw [show v2 = 0 by omega] at h9; exact h9) hE)
    · skip
      replace hE := zf_ip hE c12_13
      refine mm_g 2 (pc1 := 17) (lo1 := [some (.ref 137), some (.int (Int32.ofInt v2)), some (.int (Int32.ofInt 0)), o4, o5]) (st1 := []) (H1 := mz_mk g6 x) rfl ?_
      have hO20 := hE
      have L21 : ∀ n19 : Nat, ∀ (v14 : Int) (o15 : Option Value) (o16 : Option Value) (g17 : mz_G), (8 - v14).toNat = n19 → 0 ≤ v14 → v14 ≤ 8 → mz_nl o15 → mz_nl o16 → mz_inv g17 → mz_fr (fl_X12_tellChain_17 x) g6 g17 → (mz_ET false (mz_fo (g 141) (g 142)) (fun _ _ => (1 : Int)) g17 (g 140 0) v2) → (mz_EM false (mz_fo (g 141) (g 142)) (fun _ _ => (1 : Int)) g17 (g 140 0) v2 v14) → (∃ fk : Nat, (8 - v14).toNat < fk ∧ zf_E (zL_X12_tellChain_17 3000000000 v2 0 g6) (zL_X12_tellChain_17 fk v2 v14 g17)) → mm_W d mmX12_tellChain 17 [some (.ref 137), some (.int (Int32.ofInt v2)), some (.int (Int32.ofInt v14)), o15, o16] [] (mz_mk g17 x) Q := by
        intro n19
        induction n19 using Nat.strongRecOn with
        | ind n19 ih18 =>
        intro v14 o15 o16 g17 hmn19 l_v14 u_v14 h_o15 h_o16 hIg17 hfg17 hv22 hv23 hF
        obtain ⟨fk, fl, hE⟩ := hF
        obtain ⟨fj24, rfl⟩ : ∃ fj, fk = fj + 1 := ⟨fk - 1, by omega⟩
        have fn25 : n19 ≤ fj24 := by omega
        replace hE := zf_tr hE zL_X12_tellChain_17_s
        refine mm_g 2 (pc1 := 19) (lo1 := [some (.ref 137), some (.int (Int32.ofInt v2)), some (.int (Int32.ofInt v14)), o15, o16]) (st1 := [.ref 137, .int (Int32.ofInt v14)]) (H1 := mz_mk g17 x) rfl ?_
        refine mz_fgR (v := 140) rfl fd_12_36 (by decide) (sc_137 _) (rf_137_3 _ _ _) ?_
        refine mm_g 1 (pc1 := 23) (lo1 := [some (.ref 137), some (.int (Int32.ofInt v2)), some (.int (Int32.ofInt v14)), o15, o16]) (st1 := [.int (Int32.ofInt 0), .ref 140, .int (Int32.ofInt v14)]) (H1 := mz_mk g17 x) rfl ?_
        refine mz_ia (v := (g 140 0)) rfl (sh_140 _) (by decide) (by decide) (by decide) (show g17 140 0 = (g 140 0) from ((hfg17 140 0 (fun h => (absurd (show 140 = 163 from h) (by decide)))).trans ((hfg6 140 0 (fun h => (absurd (show 140 = 163 from h) (by decide)))).trans rfl))) ?_
        replace hE := zf_tr hE (zf_le (show g17 140 0 = (g 140 0) from ((hfg17 140 0 (fun h => (absurd (show 140 = 163 from h) (by decide)))).trans ((hfg6 140 0 (fun h => (absurd (show 140 = 163 from h) (by decide)))).trans rfl))))
        refine mz_ic_ge (tgt := 111) rfl rfl (mz_rg l_v14 u_v14) ⟨by omega, by omega⟩ (fun c24_25 => ?_) (fun c24_25 => ?_)
        · skip
          replace hE := zf_nl hE c24_25
          replace hE := zf_t1 hO20 hE
          refine mz_iincR (v := v2) (lo2 := [some (.ref 137), some (.int (Int32.ofInt (v2 + (-1)))), some (.int (Int32.ofInt v14)), o15, o16]) rfl rfl rfl (Nat.le_of_ble_eq_true rfl) rfl ?_
          refine mz_gt (tgt := 11) rfl rfl ?_
          exact ih7 (((v2 + (-1)) - 0).toNat) (by omega) (v2 + (-1)) (some (.int (Int32.ofInt v14))) o15 o16 g17 rfl (by omega) (by omega) (mz_nl_i _) h_o15 h_o16 hIg17 (fun k j hk => ((hfg17 k j (fun h => hk h)).trans (hfg6 k j (fun h => hk h)))) (mz_ET_dn hv22 hv23 (by omega)) (by omega) ⟨fj12, Nat.lt_of_lt_of_le (show (((v2 + (-1)) - 0).toNat) < n8 from (by omega)) fn13, hE⟩
        · skip
          replace hE := zf_ip hE c24_25
          refine mm_g 2 (pc1 := 29) (lo1 := [some (.ref 137), some (.int (Int32.ofInt v2)), some (.int (Int32.ofInt v14)), o15, o16]) (st1 := [.int (Int32.ofInt v14), .int (Int32.ofInt v2)]) (H1 := mz_mk g17 x) rfl ?_
          refine mz_cs rfl mt_12_450 (by decide) rfl (Nat.le_of_ble_eq_true rfl) (by omega) (f_X12_isOf (by omega) hx hIg17 (by omega) (by omega) (by omega) (by omega) (fun v26 l_v26 u_v26 hp27 hc28 => ⟨_, rfl, ?_⟩))
          show mm_W d mmX12_tellChain 32 [some (.ref 137), some (.int (Int32.ofInt v2)), some (.int (Int32.ofInt v14)), o15, o16] [.int (Int32.ofInt v26)] (mz_mk g17 x) Q
          replace hE := zf_t1 hE hc28
          refine mz_if_ne (tgt := 38) rfl rfl (mz_rg l_v26 u_v26) (fun c32_28 => ?_) (fun c32_28 => ?_)
          · skip
            replace hE := zf_in hE c32_28
            refine mm_g 4 (pc1 := 43) (lo1 := [some (.ref 137), some (.int (Int32.ofInt v2)), some (.int (Int32.ofInt v14)), some (.int (Int32.ofInt 0)), some (.int (Int32.ofInt 0))]) (st1 := []) (H1 := mz_mk g17 x) rfl ?_
            have hO34 := hE
            have L35 : ∀ n33 : Nat, ∀ (v29 : Int) (v30 : Int), (8 - v30).toNat = n33 → 0 ≤ v29 → v29 ≤ 256 → 0 ≤ v30 → v30 ≤ 8 → (mz_CI (mz_fo (g 141) (g 142)) g17 (g 140 0) v2 v14 v29) → (∃ fk : Nat, (8 - v30).toNat < fk ∧ zf_E (zL_X12_tellChain_43 g17 3000000000 v2 v14 0 0) (zL_X12_tellChain_43 g17 fk v2 v14 v29 v30)) → mm_W d mmX12_tellChain 43 [some (.ref 137), some (.int (Int32.ofInt v2)), some (.int (Int32.ofInt v14)), some (.int (Int32.ofInt v29)), some (.int (Int32.ofInt v30))] [] (mz_mk g17 x) Q := by
              intro n33
              induction n33 using Nat.strongRecOn with
              | ind n33 ih32 =>
              intro v29 v30 hmn33 l_v29 u_v29 l_v30 u_v30 hv36 hF
              obtain ⟨fk, fl, hE⟩ := hF
              obtain ⟨fj37, rfl⟩ : ∃ fj, fk = fj + 1 := ⟨fk - 1, by omega⟩
              have fn38 : n33 ≤ fj37 := by omega
              replace hE := zf_tr hE zL_X12_tellChain_43_s
              refine mm_g 2 (pc1 := 46) (lo1 := [some (.ref 137), some (.int (Int32.ofInt v2)), some (.int (Int32.ofInt v14)), some (.int (Int32.ofInt v29)), some (.int (Int32.ofInt v30))]) (st1 := [.ref 137, .int (Int32.ofInt v30)]) (H1 := mz_mk g17 x) rfl ?_
              refine mz_fgR (v := 140) rfl fd_12_36 (by decide) (sc_137 _) (rf_137_3 _ _ _) ?_
              refine mm_g 1 (pc1 := 50) (lo1 := [some (.ref 137), some (.int (Int32.ofInt v2)), some (.int (Int32.ofInt v14)), some (.int (Int32.ofInt v29)), some (.int (Int32.ofInt v30))]) (st1 := [.int (Int32.ofInt 0), .ref 140, .int (Int32.ofInt v30)]) (H1 := mz_mk g17 x) rfl ?_
              refine mz_ia (v := (g 140 0)) rfl (sh_140 _) (by decide) (by decide) (by decide) (show g17 140 0 = (g 140 0) from ((hfg17 140 0 (fun h => (absurd (show 140 = 163 from h) (by decide)))).trans ((hfg6 140 0 (fun h => (absurd (show 140 = 163 from h) (by decide)))).trans rfl))) ?_
              replace hE := zf_tr hE (zf_le (show g17 140 0 = (g 140 0) from ((hfg17 140 0 (fun h => (absurd (show 140 = 163 from h) (by decide)))).trans ((hfg6 140 0 (fun h => (absurd (show 140 = 163 from h) (by decide)))).trans rfl))))
              refine mz_ic_ge (tgt := 93) rfl rfl (mz_rg l_v30 u_v30) ⟨by omega, by omega⟩ (fun c51_38 => ?_) (fun c51_38 => ?_)
              · skip
                replace hE := zf_nl hE c51_38
                replace hE := zf_t1 hO34 hE
                refine mm_g 1 (pc1 := 94) (lo1 := [some (.ref 137), some (.int (Int32.ofInt v2)), some (.int (Int32.ofInt v14)), some (.int (Int32.ofInt v29)), some (.int (Int32.ofInt v30))]) (st1 := [.ref 137]) (H1 := mz_mk g17 x) rfl ?_
                refine mz_fgR (v := 163) rfl fd_12_106 (by decide) (sc_137 _) (rf_137_41 _ _ _) ?_
                refine mm_g 1 (pc1 := 98) (lo1 := [some (.ref 137), some (.int (Int32.ofInt v2)), some (.int (Int32.ofInt v14)), some (.int (Int32.ofInt v29)), some (.int (Int32.ofInt v30))]) (st1 := [.int (Int32.ofInt v14), .ref 163]) (H1 := mz_mk g17 x) rfl ?_
                refine mz_bip rfl bip_8 ?_
                refine mz_ishl rfl (fun v39 e_v39 hwv39 => ?_)
                have b_v39 : 0 ≤ v39 ∧ v39 ≤ 1792 := by rw [e_v39]; exact mz_shl_b (lx := 0) (hx := 7) (k := 8) (by decide) (by decide) (by omega) (by omega) (by omega) (by omega)
                have l_v39 := b_v39.1
                have u_v39 := b_v39.2
                replace hE := zf_tr hE (zf_le e_v39.symm)
                refine mm_g 1 (pc1 := 102) (lo1 := [some (.ref 137), some (.int (Int32.ofInt v2)), some (.int (Int32.ofInt v14)), some (.int (Int32.ofInt v29)), some (.int (Int32.ofInt v30))]) (st1 := [.int (Int32.ofInt v2), .int (Int32.ofInt v39), .ref 163]) (H1 := mz_mk g17 x) rfl ?_
                refine mz_iadd rfl ?_
                refine mm_g 1 (pc1 := 104) (lo1 := [some (.ref 137), some (.int (Int32.ofInt v2)), some (.int (Int32.ofInt v14)), some (.int (Int32.ofInt v29)), some (.int (Int32.ofInt v30))]) (st1 := [.int (Int32.ofInt v29), .int (Int32.ofInt (v39 + v2)), .ref 163]) (H1 := mz_mk g17 x) rfl ?_
                refine mz_sI rfl (sh_163 _) (by omega) (by omega) (by decide) hIg17 (ba_163 _) (by omega) (by omega) (fun g40 hIg40 hug40 => ?_)
                replace hE := zf_tr hE (zf_lg hug40)
                refine mz_iincR (v := v14) (lo2 := [some (.ref 137), some (.int (Int32.ofInt v2)), some (.int (Int32.ofInt (v14 + 1))), some (.int (Int32.ofInt v29)), some (.int (Int32.ofInt v30))]) rfl rfl rfl (Nat.le_of_ble_eq_true rfl) rfl ?_
                refine mz_gt (tgt := 17) rfl rfl ?_
                exact ih18 ((8 - (v14 + 1)).toNat) (by omega) (v14 + 1) (some (.int (Int32.ofInt v29))) (some (.int (Int32.ofInt v30))) g40 rfl (by omega) (by omega) (mz_nl_i _) (mz_nl_i _) hIg40 (fun k j hk => ((hug40.2 k j (fun h => hk h.1)).trans (hfg17 k j (fun h => hk h)))) (mz_ET_up hv22 hug40 (show (v39 + v2) = mz_shlI v14 8 + v2 by rw [e_v39]) (by omega) (by omega) (by omega) (by omega) (by omega) (by omega)) (mz_EM_chain hv23 hug40 (show (v39 + v2) = mz_shlI v14 8 + v2 by rw [e_v39]) (by omega) (by omega) (by omega) (by omega) (by omega) (by omega) hv36) ⟨fj24, Nat.lt_of_lt_of_le (show ((8 - (v14 + 1)).toNat) < n19 from (by omega)) fn25, hE⟩
              · skip
                replace hE := zf_ip hE c51_38
                refine mm_g 2 (pc1 := 57) (lo1 := [some (.ref 137), some (.int (Int32.ofInt v2)), some (.int (Int32.ofInt v14)), some (.int (Int32.ofInt v29)), some (.int (Int32.ofInt v30))]) (st1 := [.int (Int32.ofInt v30), .int (Int32.ofInt v2)]) (H1 := mz_mk g17 x) rfl ?_
                refine mz_cs rfl mt_12_450 (by decide) rfl (Nat.le_of_ble_eq_true rfl) (by omega) (f_X12_isOf (by omega) hx hIg17 (by omega) (by omega) (by omega) (by omega) (fun v41 l_v41 u_v41 hp42 hc43 => ⟨_, rfl, ?_⟩))
                show mm_W d mmX12_tellChain 60 [some (.ref 137), some (.int (Int32.ofInt v2)), some (.int (Int32.ofInt v14)), some (.int (Int32.ofInt v29)), some (.int (Int32.ofInt v30))] [.int (Int32.ofInt v41)] (mz_mk g17 x) Q
                replace hE := zf_t1 hE hc43
                refine mz_if_ne (tgt := 87) rfl rfl (mz_rg l_v41 u_v41) (fun c60_43 => ?_) (fun c60_43 => ?_)
                · skip
                  replace hE := zf_in hE c60_43
                  refine mz_iincR (v := v30) (lo2 := [some (.ref 137), some (.int (Int32.ofInt v2)), some (.int (Int32.ofInt v14)), some (.int (Int32.ofInt v29)), some (.int (Int32.ofInt (v30 + 1)))]) rfl rfl rfl (Nat.le_of_ble_eq_true rfl) rfl ?_
                  refine mz_gt (tgt := 43) rfl rfl ?_
                  exact ih32 ((8 - (v30 + 1)).toNat) (by omega) v29 (v30 + 1) rfl (by omega) (by omega) (by omega) (by omega) hv36 ⟨fj37, Nat.lt_of_lt_of_le (show ((8 - (v30 + 1)).toNat) < n33 from (by omega)) fn38, hE⟩
                · skip
                  replace hE := zf_ip hE c60_43
                  refine mm_g 3 (pc1 := 67) (lo1 := [some (.ref 137), some (.int (Int32.ofInt v2)), some (.int (Int32.ofInt v14)), some (.int (Int32.ofInt v29)), some (.int (Int32.ofInt v30))]) (st1 := [.int (Int32.ofInt v30), .int (Int32.ofInt v14), .ref 137]) (H1 := mz_mk g17 x) rfl ?_
                  refine mz_cv rfl mt_12_464 (by decide) (sc_137 _) rfl (Nat.le_of_ble_eq_true rfl) (by omega) (f_X12_follows (by omega) hx hIg17 (by omega) (by omega) (by omega) (by omega) (by have h8 := hl (v14 : Int).toNat (by omega); have h9 : g17 142 (v14 : Int).toNat = g 142 (v14 : Int).toNat := ((hfg17 142 (v14 : Int).toNat (fun h => (absurd (show 142 = 163 from h) (by decide)))).trans (hfg6 142 (v14 : Int).toNat (fun h => (absurd (show 142 = 163 from h) (by decide))))); omega) (fun v44 l_v44 u_v44 hp45 hc46 => ⟨_, rfl, ?_⟩))
                  show mm_W d mmX12_tellChain 70 [some (.ref 137), some (.int (Int32.ofInt v2)), some (.int (Int32.ofInt v14)), some (.int (Int32.ofInt v29)), some (.int (Int32.ofInt v30))] [.int (Int32.ofInt v44)] (mz_mk g17 x) Q
                  replace hE := zf_t1 hE hc46
                  have fo46 := hp45
                  rw [show g17 141 = g 141 from funext (fun j => ((hfg17 141 j (fun h => (absurd (show 141 = 163 from h) (by decide)))).trans (hfg6 141 j (fun h => (absurd (show 141 = 163 from h) (by decide)))))), show g17 142 = g 142 from funext (fun j => ((hfg17 142 j (fun h => (absurd (show 142 = 163 from h) (by decide)))).trans (hfg6 142 j (fun h => (absurd (show 142 = 163 from h) (by decide))))))] at fo46
                  refine mz_if_eq (tgt := 87) rfl rfl (mz_rg l_v44 u_v44) (fun c70_46 => ?_) (fun c70_46 => ?_)
                  · skip
                    replace hE := zf_ip hE c70_46
                    refine mz_iincR (v := v30) (lo2 := [some (.ref 137), some (.int (Int32.ofInt v2)), some (.int (Int32.ofInt v14)), some (.int (Int32.ofInt v29)), some (.int (Int32.ofInt (v30 + 1)))]) rfl rfl rfl (Nat.le_of_ble_eq_true rfl) rfl ?_
                    refine mz_gt (tgt := 43) rfl rfl ?_
                    exact ih32 ((8 - (v30 + 1)).toNat) (by omega) v29 (v30 + 1) rfl (by omega) (by omega) (by omega) (by omega) hv36 ⟨fj37, Nat.lt_of_lt_of_le (show ((8 - (v30 + 1)).toNat) < n33 from (by omega)) fn38, hE⟩
                  · skip
                    replace hE := zf_in hE c70_46
                    refine mm_g 5 (pc1 := 79) (lo1 := [some (.ref 137), some (.int (Int32.ofInt v2)), some (.int (Int32.ofInt v14)), some (.int (Int32.ofInt v29)), some (.int (Int32.ofInt v30))]) (st1 := [.int (Int32.ofInt v2), .int (Int32.ofInt v30), .ref 137, .int (Int32.ofInt 1), .int (Int32.ofInt v29)]) (H1 := mz_mk g17 x) rfl ?_
                    refine mz_cv rfl mt_12_456 (by decide) (sc_137 _) rfl (Nat.le_of_ble_eq_true rfl) (by omega) (f_X12_madeOn (by omega) hx hIg17 (by omega) (by omega) l_v2 u_v2 (fun v47 l_v47 u_v47 hp48 hc49 => ⟨_, rfl, ?_⟩))
                    show mm_W d mmX12_tellChain 82 [some (.ref 137), some (.int (Int32.ofInt v2)), some (.int (Int32.ofInt v14)), some (.int (Int32.ofInt v29)), some (.int (Int32.ofInt v30))] [.int (Int32.ofInt v47), .int (Int32.ofInt 1), .int (Int32.ofInt v29)] (mz_mk g17 x) Q
                    replace hE := zf_t1 hE hc49
                    have mb49 := mz_ET_made (v := v30) hv22 (by omega) (by omega) (by omega) (by omega) (by omega) (by omega) (by rw [← hp42 (by omega) (by omega) (by omega)]; omega)
                    simp only [mz_cf] at mb49
                    rw [← hp48] at mb49
                    refine mz_iadd rfl ?_
                    refine mz_mx rfl mt_12_329 (Nat.le_of_ble_eq_true rfl) (by omega) (mz_rg l_v29 u_v29) ⟨by omega, by omega⟩ (fun v50 e_v50 => ?_)
                    have l_v50 : 1 ≤ v50 := by omega
                    have u_v50 : v50 ≤ 256 := by omega
                    replace hE := zf_tr hE (zf_le e_v50.symm)
                    refine mm_g 1 (pc1 := 87) (lo1 := [some (.ref 137), some (.int (Int32.ofInt v2)), some (.int (Int32.ofInt v14)), some (.int (Int32.ofInt v50)), some (.int (Int32.ofInt v30))]) (st1 := []) (H1 := mz_mk g17 x) rfl ?_
                    refine mz_iincR (v := v30) (lo2 := [some (.ref 137), some (.int (Int32.ofInt v2)), some (.int (Int32.ofInt v14)), some (.int (Int32.ofInt v50)), some (.int (Int32.ofInt (v30 + 1)))]) rfl rfl rfl (Nat.le_of_ble_eq_true rfl) rfl ?_
                    refine mz_gt (tgt := 43) rfl rfl ?_
                    exact ih32 ((8 - (v30 + 1)).toNat) (by omega) v50 (v30 + 1) rfl (by omega) (by omega) (by omega) (by omega) (mz_CI_take hv36 hv22 (by omega) (by omega) (by omega) (by omega) (by omega) (by omega) (by rw [← hp42 (by omega) (by omega) (by omega)]; omega) (fo46.mp (by omega)) hp48 (by omega)) ⟨fj37, Nat.lt_of_lt_of_le (show ((8 - (v30 + 1)).toNat) < n33 from (by omega)) fn38, hE⟩
            exact L35 _ 0 0 rfl (by decide) (by decide) (by decide) (by decide) (mz_CI_0 (by omega)) ⟨3000000000, by omega, zf_rf⟩
          · skip
            replace hE := zf_ip hE c32_28
            refine mz_gt (tgt := 105) rfl rfl ?_
            refine mz_iincR (v := v14) (lo2 := [some (.ref 137), some (.int (Int32.ofInt v2)), some (.int (Int32.ofInt (v14 + 1))), o15, o16]) rfl rfl rfl (Nat.le_of_ble_eq_true rfl) rfl ?_
            refine mz_gt (tgt := 17) rfl rfl ?_
            exact ih18 ((8 - (v14 + 1)).toNat) (by omega) (v14 + 1) o15 o16 g17 rfl (by omega) (by omega) h_o15 h_o16 hIg17 (fun k j hk => (hfg17 k j (fun h => hk h))) hv22 (mz_EM_skip hv23 (by rw [← hp27 (by omega) (by omega) (by omega)]; omega)) ⟨fj24, Nat.lt_of_lt_of_le (show ((8 - (v14 + 1)).toNat) < n19 from (by omega)) fn25, hE⟩
      exact L21 _ 0 o4 o5 g6 rfl (by decide) (by decide) h_o4 h_o5 hIg6 (fun _ _ _ => rfl) hv10 mz_EM_0 ⟨3000000000, by omega, zf_rf⟩
  exact L9 _ (v1 - 1) none none none g rfl (by omega) (by omega) mz_nl_n mz_nl_n mz_nl_n hI (fun _ _ _ => rfl) (by rw [← hA]; exact mz_ET_A) (by omega) ⟨3000000000, by omega, hE⟩
def fw_X12_chain (x : mm_X) (a1 : Int) : Nat → Nat → Prop := fun k j => (k = 137 ∧ j = 2) ∨ k = 163
set_option maxHeartbeats 20000000 in
theorem f_X12_chain {d : Nat} (hd : 13 ≤ d) {x : mm_X} (hx : mk_x x) {g : mz_G} (hI : mz_inv g) {a1 : Int} (l_a1 : (-2147483648) ≤ a1) (u_a1 : a1 ≤ 2147483647) (p1 : mz_pv g) (p2 : g 137 30 ≤ 999) (p3 : ∀ j : Nat, (j : Int) < g 140 0 → 1 ≤ g 142 j) {Q : (Option Value ⊕ Nat) → mm_H → Prop} (hQ : ∀ (r : Int) (g1 : mz_G), mz_inv g1 → mz_fr (fw_X12_chain x a1) g g1 → 0 ≤ r → r ≤ 256 → (g1 137 30 ≤ 999) → zf_E (zF_X12_chain a1 g) ((r, g1)) → Q (.inl (some (.int (Int32.ofInt r)))) (mz_mk g1 x)) : mm_C d 273 [.ref 137, .int (Int32.ofInt a1)] (mz_mk g x) Q := by
  refine ⟨mmX12_chain, [some (.ref 137), some (.int (Int32.ofInt a1)), none, none, none, none, none, none], rfl, rfl, ?_⟩
  have bz0 := mz_rd hI bd_137_30
  have bz1 := mz_rd hI bt_140_0
  have bz2 := mz_rd hI bt_140_1
  have hpv := p1
  have hl := p3
  have hE : zf_E (zF_X12_chain a1 g) (zF_X12_chain a1 g) := zf_rf
  refine mm_g 2 (pc1 := 2) (lo1 := [some (.ref 137), some (.int (Int32.ofInt a1)), none, none, none, none, none, none]) (st1 := [.int (Int32.ofInt 0), .ref 137]) (H1 := mz_mk g x) rfl ?_
  refine mz_pI rfl fd_12_154 (sc_137 _) hI bd_137_2 (by omega) (by omega) (fun g1 hIg1 hug1 => ?_)
  replace hE := zf_tr hE (zf_lg hug1)
  refine mm_g 1 (pc1 := 6) (lo1 := [some (.ref 137), some (.int (Int32.ofInt a1)), none, none, none, none, none, none]) (st1 := [.ref 137]) (H1 := mz_mk g1 x) rfl ?_
  refine mz_cv rfl mt_12_467 (by decide) (sc_137 _) rfl (Nat.le_of_ble_eq_true rfl) (by omega) (f_X12_tellChain (by omega) hx hIg1 (by intro j hj; rw [show g1 140 0 = g 140 0 from (hug1.2 140 0 (fun h => absurd h.1 (by decide)))] at hj; rw [show g1 142 j = g 142 j from (hug1.2 142 j (fun h => absurd h.1 (by decide)))]; exact hl j hj) (fun g2 hIg2 hfg2 hp3 hc4 => ⟨_, rfl, ?_⟩))
  show mm_W d mmX12_chain 9 [some (.ref 137), some (.int (Int32.ofInt a1)), none, none, none, none, none, none] [] (mz_mk g2 x) Q
  replace hE := zf_t1 hE hc4
  have rt4 := hp3
  rw [show g1 141 = g 141 from funext (fun j => (hug1.2 141 j (fun h => absurd h.1 (by decide)))), show g1 142 = g 142 from funext (fun j => (hug1.2 142 j (fun h => absurd h.1 (by decide)))), show g1 140 0 = g 140 0 from (hug1.2 140 0 (fun h => absurd h.1 (by decide)))] at rt4
  have hAb := mz_Ab (T := (g 140 0)) (by omega) (by omega)
  refine mm_g 6 (pc1 := 16) (lo1 := [some (.ref 137), some (.int (Int32.ofInt a1)), some (.int (Int32.ofInt (-1))), some (.int (Int32.ofInt 0)), some (.int (Int32.ofInt 0)), none, none, none]) (st1 := []) (H1 := mz_mk g2 x) rfl ?_
  have L12 : ∀ n11 : Nat, ∀ (v5 : Int) (v6 : Int) (v7 : Int) (o8 : Option Value), (8 - v7).toNat = n11 → (-1) ≤ v5 → v5 ≤ 16 → 0 ≤ v6 → v6 ≤ 256 → 0 ≤ v7 → v7 ≤ 8 → mz_nl o8 → ((v7 = 0 ∧ v5 = -1 ∧ v6 = 0) ∨ (0 ≤ v5 ∧ v5 < g 140 0 ∧ 1 ≤ v6 ∧ v6 ≤ 256 ∧ v6 = 1 + mz_go g2 v5 (mz_nx 0 v5))) → (∃ fk : Nat, (8 - v7).toNat < fk ∧ zf_E (zF_X12_chain a1 g) (zL_X12_chain_16 a1 g2 fk v5 v6 v7)) → mm_W d mmX12_chain 16 [some (.ref 137), some (.int (Int32.ofInt a1)), some (.int (Int32.ofInt v5)), some (.int (Int32.ofInt v6)), some (.int (Int32.ofInt v7)), o8, none, none] [] (mz_mk g2 x) Q := by
    intro n11
    induction n11 using Nat.strongRecOn with
    | ind n11 ih10 =>
    intro v5 v6 v7 o8 hmn11 l_v5 u_v5 l_v6 u_v6 l_v7 u_v7 h_o8 hv13 hF
    obtain ⟨fk, fl, hE⟩ := hF
    obtain ⟨fj14, rfl⟩ : ∃ fj, fk = fj + 1 := ⟨fk - 1, by omega⟩
    have fn15 : n11 ≤ fj14 := by omega
    replace hE := zf_tr hE zL_X12_chain_16_s
    refine mm_g 2 (pc1 := 19) (lo1 := [some (.ref 137), some (.int (Int32.ofInt a1)), some (.int (Int32.ofInt v5)), some (.int (Int32.ofInt v6)), some (.int (Int32.ofInt v7)), o8, none, none]) (st1 := [.ref 137, .int (Int32.ofInt v7)]) (H1 := mz_mk g2 x) rfl ?_
    refine mz_fgR (v := 140) rfl fd_12_36 (by decide) (sc_137 _) (rf_137_3 _ _ _) ?_
    refine mm_g 1 (pc1 := 23) (lo1 := [some (.ref 137), some (.int (Int32.ofInt a1)), some (.int (Int32.ofInt v5)), some (.int (Int32.ofInt v6)), some (.int (Int32.ofInt v7)), o8, none, none]) (st1 := [.int (Int32.ofInt 0), .ref 140, .int (Int32.ofInt v7)]) (H1 := mz_mk g2 x) rfl ?_
    refine mz_ia (v := (g 140 0)) rfl (sh_140 _) (by decide) (by decide) (by decide) (show g2 140 0 = (g 140 0) from ((hfg2 140 0 (fun h => (absurd (show 140 = 163 from h) (by decide)))).trans ((hug1.2 140 0 (fun h => absurd h.1 (by decide))).trans rfl))) ?_
    replace hE := zf_tr hE (zf_le (show g2 140 0 = (g 140 0) from ((hfg2 140 0 (fun h => (absurd (show 140 = 163 from h) (by decide)))).trans ((hug1.2 140 0 (fun h => absurd h.1 (by decide))).trans rfl))))
    refine mz_ic_ge (tgt := 59) rfl rfl (mz_rg l_v7 u_v7) ⟨by omega, by omega⟩ (fun c24_15 => ?_) (fun c24_15 => ?_)
    · skip
      replace hE := zf_nl hE c24_15
      refine mm_g 1 (pc1 := 60) (lo1 := [some (.ref 137), some (.int (Int32.ofInt a1)), some (.int (Int32.ofInt v5)), some (.int (Int32.ofInt v6)), some (.int (Int32.ofInt v7)), o8, none, none]) (st1 := [.int (Int32.ofInt a1)]) (H1 := mz_mk g2 x) rfl ?_
      refine mz_i2l rfl (mz_rg l_a1 u_a1) ?_
      refine mz_l2w (c := (-1)) rfl rfl rfl ?_
      refine mm_g 2 (pc1 := 66) (lo1 := [some (.ref 137), some (.int (Int32.ofInt a1)), some (.int (Int32.ofInt v5)), some (.int (Int32.ofInt v6)), some (.int (Int32.ofInt v7)), o8, none, none]) (st1 := [.int (Int32.ofInt 1), .int (Int32.ofInt v6), .long (Int64.ofInt (-1)), .long (Int64.ofInt a1)]) (H1 := mz_mk g2 x) rfl ?_
      refine mz_isub rfl ?_
      refine mz_i2l rfl ⟨by omega, by omega⟩ ?_
      refine mz_cs rfl mt_12_157 (by decide) rfl (Nat.le_of_ble_eq_true rfl) (by omega) (f_X12_isIn (by omega) hx hIg2 (by omega) (by omega) (by omega) (by omega) (by omega) (by omega) (fun v16 l_v16 u_v16 hp17 hc18 => ⟨_, rfl, ?_⟩))
      show mm_W d mmX12_chain 71 [some (.ref 137), some (.int (Int32.ofInt a1)), some (.int (Int32.ofInt v5)), some (.int (Int32.ofInt v6)), some (.int (Int32.ofInt v7)), o8, none, none] [.int (Int32.ofInt v16)] (mz_mk g2 x) Q
      replace hE := zf_t1 hE hc18
      refine mz_if_ne (tgt := 80) rfl rfl (mz_rg l_v16 u_v16) (fun c71_18 => ?_) (fun c71_18 => ?_)
      · skip
        replace hE := zf_in hE c71_18
        refine mm_g 2 (pc1 := 82) (lo1 := [some (.ref 137), some (.int (Int32.ofInt a1)), some (.int (Int32.ofInt v5)), some (.int (Int32.ofInt v6)), some (.int (Int32.ofInt v7)), o8, none, none]) (st1 := [.int (Int32.ofInt (-1)), .int (Int32.ofInt a1)]) (H1 := mz_mk g2 x) rfl ?_
        refine mz_ic_ne (tgt := 87) rfl rfl (mz_rg l_a1 u_a1) ⟨by decide, by decide⟩ (fun c82_18 => ?_) (fun c82_18 => ?_)
        · skip
          replace hE := zf_in hE c82_18
          have w0_v5 : 0 ≤ v5 ∧ v5 ≤ 7 ∧ v5 < (g 140 0) := by omega
          refine mm_g 2 (pc1 := 89) (lo1 := [some (.ref 137), some (.int (Int32.ofInt a1)), some (.int (Int32.ofInt v5)), some (.int (Int32.ofInt v6)), some (.int (Int32.ofInt v7)), o8, none, none]) (st1 := [.int (Int32.ofInt v5), .int (Int32.ofInt 1)]) (H1 := mz_mk g2 x) rfl ?_
          refine mz_ishl rfl (fun v19 e_v19 hwv19 => ?_)
          have b_v19 : 1 ≤ v19 ∧ v19 ≤ 128 := by rw [e_v19]; exact mz_shl_b (lx := 1) (hx := 1) (k := 7) (by decide) (by decide) (by omega) (by omega) (by omega) (by omega)
          have l_v19 := b_v19.1
          have u_v19 := b_v19.2
          replace hE := zf_tr hE (zf_le e_v19.symm)
          have wf := mz_first (T := (g 140 0)) (v := v5) (by omega) (by omega) (by omega) (by omega)
          rw [← e_v19] at wf
          have wf1 := wf.1
          have wf2 := wf.2.1
          have lw_v19 : 1 ≤ v19 := by omega
          have uw_v19 : v19 ≤ 255 := by omega
          refine mm_g 3 (pc1 := 95) (lo1 := [some (.ref 137), some (.int (Int32.ofInt a1)), some (.int (Int32.ofInt v5)), some (.int (Int32.ofInt v6)), some (.int (Int32.ofInt v19)), some (.int (Int32.ofInt 0)), none, none]) (st1 := []) (H1 := mz_mk g2 x) rfl ?_
          have L28 : ∀ n27 : Nat, ∀ (v20 : Int) (v21 : Int) (v22 : Int) (o23 : Option Value) (o24 : Option Value), (255 - v22).toNat = n27 → 0 ≤ v20 → v20 ≤ 7 → 1 ≤ v21 → v21 ≤ 255 → 0 ≤ v22 → v22 ≤ 255 → mz_nl o23 → mz_nl o24 → (0 ≤ v20 ∧ v20 < (g 140 0)) → (0 < v21 ∧ v21 ≤ mz_A (g 140 0)) → (mz_bit v21 v20 = 1) → (a1 ≤ v22 + mz_go g2 v20 v21) → (∃ fk : Nat, (255 - v22).toNat < fk ∧ zf_E (zF_X12_chain a1 g) (zL_X12_chain_95 a1 g2 fk v20 v21 v22)) → mm_W d mmX12_chain 95 [some (.ref 137), some (.int (Int32.ofInt a1)), some (.int (Int32.ofInt v20)), some (.int (Int32.ofInt v6)), some (.int (Int32.ofInt v21)), some (.int (Int32.ofInt v22)), o23, o24] [] (mz_mk g2 x) Q := by
            intro n27
            induction n27 using Nat.strongRecOn with
            | ind n27 ih26 =>
            intro v20 v21 v22 o23 o24 hmn27 l_v20 u_v20 l_v21 u_v21 l_v22 u_v22 h_o23 h_o24 hv29 hv30 hv31 hv32 hF
            obtain ⟨fk, fl, hE⟩ := hF
            obtain ⟨fj33, rfl⟩ : ∃ fj, fk = fj + 1 := ⟨fk - 1, by omega⟩
            have fn34 : n27 ≤ fj33 := by omega
            replace hE := zf_tr hE zL_X12_chain_95_s
            refine mm_g 2 (pc1 := 98) (lo1 := [some (.ref 137), some (.int (Int32.ofInt a1)), some (.int (Int32.ofInt v20)), some (.int (Int32.ofInt v6)), some (.int (Int32.ofInt v21)), some (.int (Int32.ofInt v22)), o23, o24]) (st1 := [.int (Int32.ofInt a1), .int (Int32.ofInt v22)]) (H1 := mz_mk g2 x) rfl ?_
            refine mz_ic_ge (tgt := 192) rfl rfl (mz_rg l_v22 u_v22) (mz_rg l_a1 u_a1) (fun c98_34 => ?_) (fun c98_34 => ?_)
            · skip
              replace hE := zf_nl hE c98_34
              refine mm_g 1 (pc1 := 193) (lo1 := [some (.ref 137), some (.int (Int32.ofInt a1)), some (.int (Int32.ofInt v20)), some (.int (Int32.ofInt v6)), some (.int (Int32.ofInt v21)), some (.int (Int32.ofInt v22)), o23, o24]) (st1 := [.int (Int32.ofInt v20)]) (H1 := mz_mk g2 x) rfl ?_
              exact mm_rt rfl rfl (hQ _ _ hIg2 (fun k j hk => ((hfg2 k j (fun h => hk (Or.inr h))).trans (hug1.2 k j (fun h => hk (Or.inl h))))) (by omega) (by omega) (by have h9 := (show g2 137 30 = (g 137 30) from ((hfg2 137 30 (fun h => (absurd (show 137 = 163 from h) (by decide)))).trans ((hug1.2 137 30 (fun h => absurd h.2 (by decide))).trans rfl))); omega) hE)
            · skip
              replace hE := zf_ip hE c98_34
              refine mm_g 3 (pc1 := 105) (lo1 := [some (.ref 137), some (.int (Int32.ofInt a1)), some (.int (Int32.ofInt v20)), some (.int (Int32.ofInt v6)), some (.int (Int32.ofInt v21)), some (.int (Int32.ofInt v22)), some (.int (Int32.ofInt (-1))), o24]) (st1 := [.ref 137]) (H1 := mz_mk g2 x) rfl ?_
              refine mz_fgR (v := 140) rfl fd_12_36 (by decide) (sc_137 _) (rf_137_3 _ _ _) ?_
              refine mm_g 1 (pc1 := 109) (lo1 := [some (.ref 137), some (.int (Int32.ofInt a1)), some (.int (Int32.ofInt v20)), some (.int (Int32.ofInt v6)), some (.int (Int32.ofInt v21)), some (.int (Int32.ofInt v22)), some (.int (Int32.ofInt (-1))), o24]) (st1 := [.int (Int32.ofInt 0), .ref 140]) (H1 := mz_mk g2 x) rfl ?_
              refine mz_ia (v := (g 140 0)) rfl (sh_140 _) (by decide) (by decide) (by decide) (show g2 140 0 = (g 140 0) from ((hfg2 140 0 (fun h => (absurd (show 140 = 163 from h) (by decide)))).trans ((hug1.2 140 0 (fun h => absurd h.1 (by decide))).trans rfl))) ?_
              replace hE := zf_tr hE (zf_le (show g2 140 0 = (g 140 0) from ((hfg2 140 0 (fun h => (absurd (show 140 = 163 from h) (by decide)))).trans ((hug1.2 140 0 (fun h => absurd h.1 (by decide))).trans rfl))))
              refine mm_g 1 (pc1 := 111) (lo1 := [some (.ref 137), some (.int (Int32.ofInt a1)), some (.int (Int32.ofInt v20)), some (.int (Int32.ofInt v6)), some (.int (Int32.ofInt v21)), some (.int (Int32.ofInt v22)), some (.int (Int32.ofInt (-1))), o24]) (st1 := [.int (Int32.ofInt 1), .int (Int32.ofInt (g 140 0))]) (H1 := mz_mk g2 x) rfl ?_
              refine mz_isub rfl ?_
              refine mm_g 1 (pc1 := 114) (lo1 := [some (.ref 137), some (.int (Int32.ofInt a1)), some (.int (Int32.ofInt v20)), some (.int (Int32.ofInt v6)), some (.int (Int32.ofInt v21)), some (.int (Int32.ofInt v22)), some (.int (Int32.ofInt (-1))), some (.int (Int32.ofInt ((g 140 0) - 1)))]) (st1 := []) (H1 := mz_mk g2 x) rfl ?_
              have hO40 := hE
              have L41 : ∀ n39 : Nat, ∀ (v35 : Int) (v36 : Int), (v36 - (-1)).toNat = n39 → (-1) ≤ v35 → v35 ≤ 7 → (-1) ≤ v36 → v36 ≤ 7 → (mz_NI (mz_fo (g 141) (g 142)) (fun _ _ => (1 : Int)) g2 (g 140 0) v20 v21 v35 v36) → (v36 + 1 ≤ (g 140 0)) → (∃ fk : Nat, (v36 - (-1)).toNat < fk ∧ zf_E (zL_X12_chain_114 a1 g2 3000000000 v20 v21 v22 (-1) ((g 140 0) - 1)) (zL_X12_chain_114 a1 g2 fk v20 v21 v22 v35 v36)) → mm_W d mmX12_chain 114 [some (.ref 137), some (.int (Int32.ofInt a1)), some (.int (Int32.ofInt v20)), some (.int (Int32.ofInt v6)), some (.int (Int32.ofInt v21)), some (.int (Int32.ofInt v22)), some (.int (Int32.ofInt v35)), some (.int (Int32.ofInt v36))] [] (mz_mk g2 x) Q := by
                intro n39
                induction n39 using Nat.strongRecOn with
                | ind n39 ih38 =>
                intro v35 v36 hmn39 l_v35 u_v35 l_v36 u_v36 hv42 hv43 hF
                obtain ⟨fk, fl, hE⟩ := hF
                obtain ⟨fj44, rfl⟩ : ∃ fj, fk = fj + 1 := ⟨fk - 1, by omega⟩
                have fn45 : n39 ≤ fj44 := by omega
                replace hE := zf_tr hE zL_X12_chain_114_s
                refine mm_g 1 (pc1 := 116) (lo1 := [some (.ref 137), some (.int (Int32.ofInt a1)), some (.int (Int32.ofInt v20)), some (.int (Int32.ofInt v6)), some (.int (Int32.ofInt v21)), some (.int (Int32.ofInt v22)), some (.int (Int32.ofInt v35)), some (.int (Int32.ofInt v36))]) (st1 := [.int (Int32.ofInt v36)]) (H1 := mz_mk g2 x) rfl ?_
                refine mz_if_lt (tgt := 174) rfl rfl (mz_rg l_v36 u_v36) (fun c116_45 => ?_) (fun c116_45 => ?_)
                · skip
                  replace hE := zf_ip hE c116_45
                  replace hE := zf_t1 hO40 hE
                  obtain ⟨n0_v35, n1_v35, nc_v35⟩ := mz_NI_end (b := false) hv42 (by omega) rt4 (by omega) (by omega) (by omega) (by omega) hv31 (show 0 < mz_go g2 v20 v21 by omega)
                  have n2_v35 : v35 ≤ 7 := by omega
                  refine mm_g 3 (pc1 := 179) (lo1 := [some (.ref 137), some (.int (Int32.ofInt a1)), some (.int (Int32.ofInt v20)), some (.int (Int32.ofInt v6)), some (.int (Int32.ofInt v21)), some (.int (Int32.ofInt v22)), some (.int (Int32.ofInt v35)), some (.int (Int32.ofInt v36))]) (st1 := [.int (Int32.ofInt v35), .int (Int32.ofInt 1), .int (Int32.ofInt v21)]) (H1 := mz_mk g2 x) rfl ?_
                  refine mz_ishl rfl (fun v46 e_v46 hwv46 => ?_)
                  have b_v46 : 1 ≤ v46 ∧ v46 ≤ 128 := by rw [e_v46]; exact mz_shl_b (lx := 1) (hx := 1) (k := 7) (by decide) (by decide) (by omega) (by omega) (by omega) (by omega)
                  have l_v46 := b_v46.1
                  have u_v46 := b_v46.2
                  replace hE := zf_tr hE (zf_le e_v46.symm)
                  refine mz_ior rfl (fun v47 e_v47 hwv47 => ?_)
                  have b_v47 : 0 ≤ v47 ∧ v47 ≤ 255 := by rw [e_v47]; exact mz_or_lt (n := 8) (by decide) (by omega) (by omega) (by omega) (by omega)
                  have l_v47 := b_v47.1
                  have u_v47 := b_v47.2
                  replace hE := zf_tr hE (zf_le e_v47.symm)
                  have wn_v47 := mz_nxA (T := (g 140 0)) (h := v21) (v := v35) (by omega) (by omega) (by omega) (by omega) (by omega) (by omega) nc_v35.1
                  unfold mz_nx at wn_v47
                  rw [← e_v46, ← e_v47] at wn_v47
                  have wn1_v47 := wn_v47.1
                  have wn2_v47 := wn_v47.2.1
                  have wg_v47 : (1 : Int) + mz_go g2 v35 (mz_nx v21 v35) = mz_go g2 v20 v21 := nc_v35.2.2
                  unfold mz_nx at wg_v47
                  rw [← e_v46, ← e_v47] at wg_v47
                  refine mm_g 3 (pc1 := 186) (lo1 := [some (.ref 137), some (.int (Int32.ofInt a1)), some (.int (Int32.ofInt v35)), some (.int (Int32.ofInt v6)), some (.int (Int32.ofInt v47)), some (.int (Int32.ofInt v22)), some (.int (Int32.ofInt v35)), some (.int (Int32.ofInt v36))]) (st1 := []) (H1 := mz_mk g2 x) rfl ?_
                  refine mz_iincR (v := v22) (lo2 := [some (.ref 137), some (.int (Int32.ofInt a1)), some (.int (Int32.ofInt v35)), some (.int (Int32.ofInt v6)), some (.int (Int32.ofInt v47)), some (.int (Int32.ofInt (v22 + 1))), some (.int (Int32.ofInt v35)), some (.int (Int32.ofInt v36))]) rfl rfl rfl (Nat.le_of_ble_eq_true rfl) rfl ?_
                  refine mz_gt (tgt := 95) rfl rfl ?_
                  exact ih26 ((255 - (v22 + 1)).toNat) (by omega) v35 v47 (v22 + 1) (some (.int (Int32.ofInt v35))) (some (.int (Int32.ofInt v36))) rfl (by omega) (by omega) (by omega) (by omega) (by omega) (by omega) (mz_nl_i _) (mz_nl_i _) (by omega) (by omega) wn_v47.2.2.1 (by omega) ⟨fj33, Nat.lt_of_lt_of_le (show ((255 - (v22 + 1)).toNat) < n27 from (by omega)) fn34, hE⟩
                · skip
                  replace hE := zf_nl hE c116_45
                  refine mm_g 2 (pc1 := 123) (lo1 := [some (.ref 137), some (.int (Int32.ofInt a1)), some (.int (Int32.ofInt v20)), some (.int (Int32.ofInt v6)), some (.int (Int32.ofInt v21)), some (.int (Int32.ofInt v22)), some (.int (Int32.ofInt v35)), some (.int (Int32.ofInt v36))]) (st1 := [.int (Int32.ofInt v36), .int (Int32.ofInt v21)]) (H1 := mz_mk g2 x) rfl ?_
                  refine mz_cs rfl mt_12_450 (by decide) rfl (Nat.le_of_ble_eq_true rfl) (by omega) (f_X12_isOf (by omega) hx hIg2 (by omega) (by omega) (by omega) (by omega) (fun v48 l_v48 u_v48 hp49 hc50 => ⟨_, rfl, ?_⟩))
                  show mm_W d mmX12_chain 126 [some (.ref 137), some (.int (Int32.ofInt a1)), some (.int (Int32.ofInt v20)), some (.int (Int32.ofInt v6)), some (.int (Int32.ofInt v21)), some (.int (Int32.ofInt v22)), some (.int (Int32.ofInt v35)), some (.int (Int32.ofInt v36))] [.int (Int32.ofInt v48)] (mz_mk g2 x) Q
                  replace hE := zf_t1 hE hc50
                  refine mz_if_ne (tgt := 168) rfl rfl (mz_rg l_v48 u_v48) (fun c126_50 => ?_) (fun c126_50 => ?_)
                  · skip
                    replace hE := zf_in hE c126_50
                    refine mz_iincR (v := v36) (lo2 := [some (.ref 137), some (.int (Int32.ofInt a1)), some (.int (Int32.ofInt v20)), some (.int (Int32.ofInt v6)), some (.int (Int32.ofInt v21)), some (.int (Int32.ofInt v22)), some (.int (Int32.ofInt v35)), some (.int (Int32.ofInt (v36 + (-1))))]) rfl rfl rfl (Nat.le_of_ble_eq_true rfl) rfl ?_
                    refine mz_gt (tgt := 114) rfl rfl ?_
                    exact ih38 (((v36 + (-1)) - (-1)).toNat) (by omega) v35 (v36 + (-1)) rfl (by omega) (by omega) (by omega) (by omega) (mz_NI_skip hv42 (fun z => by have h9 := z.1; rw [← hp49 (by omega) (by omega) (by omega)] at h9; omega)) (by omega) ⟨fj44, Nat.lt_of_lt_of_le (show (((v36 + (-1)) - (-1)).toNat) < n39 from (by omega)) fn45, hE⟩
                  · skip
                    replace hE := zf_ip hE c126_50
                    refine mm_g 3 (pc1 := 133) (lo1 := [some (.ref 137), some (.int (Int32.ofInt a1)), some (.int (Int32.ofInt v20)), some (.int (Int32.ofInt v6)), some (.int (Int32.ofInt v21)), some (.int (Int32.ofInt v22)), some (.int (Int32.ofInt v35)), some (.int (Int32.ofInt v36))]) (st1 := [.int (Int32.ofInt v36), .int (Int32.ofInt v20), .ref 137]) (H1 := mz_mk g2 x) rfl ?_
                    refine mz_cv rfl mt_12_464 (by decide) (sc_137 _) rfl (Nat.le_of_ble_eq_true rfl) (by omega) (f_X12_follows (by omega) hx hIg2 l_v20 u_v20 (by omega) (by omega) (by have h8 := hl (v20 : Int).toNat (by omega); have h9 : g2 142 (v20 : Int).toNat = g 142 (v20 : Int).toNat := ((hfg2 142 (v20 : Int).toNat (fun h => (absurd (show 142 = 163 from h) (by decide)))).trans (hug1.2 142 (v20 : Int).toNat (fun h => absurd h.1 (by decide)))); omega) (fun v51 l_v51 u_v51 hp52 hc53 => ⟨_, rfl, ?_⟩))
                    show mm_W d mmX12_chain 136 [some (.ref 137), some (.int (Int32.ofInt a1)), some (.int (Int32.ofInt v20)), some (.int (Int32.ofInt v6)), some (.int (Int32.ofInt v21)), some (.int (Int32.ofInt v22)), some (.int (Int32.ofInt v35)), some (.int (Int32.ofInt v36))] [.int (Int32.ofInt v51)] (mz_mk g2 x) Q
                    replace hE := zf_t1 hE hc53
                    have fo53 := hp52
                    rw [show g2 141 = g 141 from funext (fun j => ((hfg2 141 j (fun h => (absurd (show 141 = 163 from h) (by decide)))).trans (hug1.2 141 j (fun h => absurd h.1 (by decide))))), show g2 142 = g 142 from funext (fun j => ((hfg2 142 j (fun h => (absurd (show 142 = 163 from h) (by decide)))).trans (hug1.2 142 j (fun h => absurd h.1 (by decide)))))] at fo53
                    refine mz_if_eq (tgt := 168) rfl rfl (mz_rg l_v51 u_v51) (fun c136_53 => ?_) (fun c136_53 => ?_)
                    · skip
                      replace hE := zf_ip hE c136_53
                      refine mz_iincR (v := v36) (lo2 := [some (.ref 137), some (.int (Int32.ofInt a1)), some (.int (Int32.ofInt v20)), some (.int (Int32.ofInt v6)), some (.int (Int32.ofInt v21)), some (.int (Int32.ofInt v22)), some (.int (Int32.ofInt v35)), some (.int (Int32.ofInt (v36 + (-1))))]) rfl rfl rfl (Nat.le_of_ble_eq_true rfl) rfl ?_
                      refine mz_gt (tgt := 114) rfl rfl ?_
                      exact ih38 (((v36 + (-1)) - (-1)).toNat) (by omega) v35 (v36 + (-1)) rfl (by omega) (by omega) (by omega) (by omega) (mz_NI_skip hv42 (fun z => by have h9 := fo53.mpr z.2.1; omega)) (by omega) ⟨fj44, Nat.lt_of_lt_of_le (show (((v36 + (-1)) - (-1)).toNat) < n39 from (by omega)) fn45, hE⟩
                    · skip
                      replace hE := zf_in hE c136_53
                      refine mm_g 4 (pc1 := 145) (lo1 := [some (.ref 137), some (.int (Int32.ofInt a1)), some (.int (Int32.ofInt v20)), some (.int (Int32.ofInt v6)), some (.int (Int32.ofInt v21)), some (.int (Int32.ofInt v22)), some (.int (Int32.ofInt v35)), some (.int (Int32.ofInt v36))]) (st1 := [.int (Int32.ofInt v21), .int (Int32.ofInt v36), .ref 137, .int (Int32.ofInt 1)]) (H1 := mz_mk g2 x) rfl ?_
                      refine mz_cv rfl mt_12_456 (by decide) (sc_137 _) rfl (Nat.le_of_ble_eq_true rfl) (by omega) (f_X12_madeOn (by omega) hx hIg2 (by omega) (by omega) (by omega) (by omega) (fun v54 l_v54 u_v54 hp55 hc56 => ⟨_, rfl, ?_⟩))
                      show mm_W d mmX12_chain 148 [some (.ref 137), some (.int (Int32.ofInt a1)), some (.int (Int32.ofInt v20)), some (.int (Int32.ofInt v6)), some (.int (Int32.ofInt v21)), some (.int (Int32.ofInt v22)), some (.int (Int32.ofInt v35)), some (.int (Int32.ofInt v36))] [.int (Int32.ofInt v54), .int (Int32.ofInt 1)] (mz_mk g2 x) Q
                      replace hE := zf_t1 hE hc56
                      have mb56 := mz_ET_made (v := v36) (mz_ET_ge (h := v21) rt4 (by omega)) (by omega) (by omega) (by omega) (by omega) (by omega) (by omega) (by rw [← hp49 (by omega) (by omega) (by omega)]; omega)
                      simp only [mz_cf] at mb56
                      rw [← hp55] at mb56
                      refine mz_iadd rfl ?_
                      refine mm_g 1 (pc1 := 150) (lo1 := [some (.ref 137), some (.int (Int32.ofInt a1)), some (.int (Int32.ofInt v20)), some (.int (Int32.ofInt v6)), some (.int (Int32.ofInt v21)), some (.int (Int32.ofInt v22)), some (.int (Int32.ofInt v35)), some (.int (Int32.ofInt v36))]) (st1 := [.ref 137, .int (Int32.ofInt (1 + v54))]) (H1 := mz_mk g2 x) rfl ?_
                      refine mz_fgR (v := 163) rfl fd_12_106 (by decide) (sc_137 _) (rf_137_41 _ _ _) ?_
                      refine mm_g 1 (pc1 := 154) (lo1 := [some (.ref 137), some (.int (Int32.ofInt a1)), some (.int (Int32.ofInt v20)), some (.int (Int32.ofInt v6)), some (.int (Int32.ofInt v21)), some (.int (Int32.ofInt v22)), some (.int (Int32.ofInt v35)), some (.int (Int32.ofInt v36))]) (st1 := [.int (Int32.ofInt v20), .ref 163, .int (Int32.ofInt (1 + v54))]) (H1 := mz_mk g2 x) rfl ?_
                      refine mz_bip rfl bip_8 ?_
                      refine mz_ishl rfl (fun v57 e_v57 hwv57 => ?_)
                      have b_v57 : 0 ≤ v57 ∧ v57 ≤ 1792 := by rw [e_v57]; exact mz_shl_b (lx := 0) (hx := 7) (k := 8) (by decide) (by decide) (by omega) (by omega) (by omega) (by omega)
                      have l_v57 := b_v57.1
                      have u_v57 := b_v57.2
                      replace hE := zf_tr hE (zf_le e_v57.symm)
                      refine mm_g 1 (pc1 := 159) (lo1 := [some (.ref 137), some (.int (Int32.ofInt a1)), some (.int (Int32.ofInt v20)), some (.int (Int32.ofInt v6)), some (.int (Int32.ofInt v21)), some (.int (Int32.ofInt v22)), some (.int (Int32.ofInt v35)), some (.int (Int32.ofInt v36))]) (st1 := [.int (Int32.ofInt v21), .int (Int32.ofInt v57), .ref 163, .int (Int32.ofInt (1 + v54))]) (H1 := mz_mk g2 x) rfl ?_
                      refine mz_iadd rfl ?_
                      refine mz_aI rfl (sh_163 _) (by omega) (by omega) (by decide) hIg2 (ba_163 _) (fun v58 e_v58 l_v58 u_v58 => ?_)
                      replace hE := zf_tr hE (zf_le e_v58)
                      have goe58 := mz_go_at (g := g2) (h := v21) e_v57 (by omega) (by omega) e_v58
                      refine mz_ic_ne (tgt := 168) rfl rfl ⟨by omega, by omega⟩ (mz_rg l_v58 u_v58) (fun c161_58 => ?_) (fun c161_58 => ?_)
                      · skip
                        replace hE := zf_in hE c161_58
                        refine mz_iincR (v := v36) (lo2 := [some (.ref 137), some (.int (Int32.ofInt a1)), some (.int (Int32.ofInt v20)), some (.int (Int32.ofInt v6)), some (.int (Int32.ofInt v21)), some (.int (Int32.ofInt v22)), some (.int (Int32.ofInt v35)), some (.int (Int32.ofInt (v36 + (-1))))]) rfl rfl rfl (Nat.le_of_ble_eq_true rfl) rfl ?_
                        refine mz_gt (tgt := 114) rfl rfl ?_
                        exact ih38 (((v36 + (-1)) - (-1)).toNat) (by omega) v35 (v36 + (-1)) rfl (by omega) (by omega) (by omega) (by omega) (mz_NI_skip hv42 (fun z => by have h9 : (1 : Int) + mz_go g2 v36 (mz_nx v21 v36) = mz_go g2 v20 v21 := z.2.2; rw [← hp55, goe58] at h9; omega)) (by omega) ⟨fj44, Nat.lt_of_lt_of_le (show (((v36 + (-1)) - (-1)).toNat) < n39 from (by omega)) fn45, hE⟩
                      · skip
                        replace hE := zf_ip hE c161_58
                        refine mm_g 2 (pc1 := 168) (lo1 := [some (.ref 137), some (.int (Int32.ofInt a1)), some (.int (Int32.ofInt v20)), some (.int (Int32.ofInt v6)), some (.int (Int32.ofInt v21)), some (.int (Int32.ofInt v22)), some (.int (Int32.ofInt v36)), some (.int (Int32.ofInt v36))]) (st1 := []) (H1 := mz_mk g2 x) rfl ?_
                        refine mz_iincR (v := v36) (lo2 := [some (.ref 137), some (.int (Int32.ofInt a1)), some (.int (Int32.ofInt v20)), some (.int (Int32.ofInt v6)), some (.int (Int32.ofInt v21)), some (.int (Int32.ofInt v22)), some (.int (Int32.ofInt v36)), some (.int (Int32.ofInt (v36 + (-1))))]) rfl rfl rfl (Nat.le_of_ble_eq_true rfl) rfl ?_
                        refine mz_gt (tgt := 114) rfl rfl ?_
                        exact ih38 (((v36 + (-1)) - (-1)).toNat) (by omega) v36 (v36 + (-1)) rfl (by omega) (by omega) (by omega) (by omega) (mz_NI_take (by omega) (by omega) ⟨(by rw [← hp49 (by omega) (by omega) (by omega)]; omega), fo53.mp (by omega), (show (1 : Int) + mz_go g2 v36 (mz_nx v21 v36) = mz_go g2 v20 v21 by rw [← hp55, goe58]; omega)⟩) (by omega) ⟨fj44, Nat.lt_of_lt_of_le (show (((v36 + (-1)) - (-1)).toNat) < n39 from (by omega)) fn45, hE⟩
              exact L41 _ (-1) ((g 140 0) - 1) rfl (by decide) (by decide) (by omega) (by omega) (mz_NI_0 (by omega)) (by omega) ⟨3000000000, by omega, zf_rf⟩
          exact L28 _ v5 v19 0 none none rfl (by omega) (by omega) (by omega) (by omega) (by decide) (by decide) mz_nl_n mz_nl_n (by omega) (by omega) wf.2.2.1 (by rcases hv13 with q | q; omega; have h8 := q.2.2.2.2; rw [wf.2.2.2.2] at h8; omega) ⟨3000000000, by omega, hE⟩
        · skip
          replace hE := zf_ip hE c82_18
          refine mm_g 1 (pc1 := 86) (lo1 := [some (.ref 137), some (.int (Int32.ofInt a1)), some (.int (Int32.ofInt v5)), some (.int (Int32.ofInt v6)), some (.int (Int32.ofInt v7)), o8, none, none]) (st1 := [.int (Int32.ofInt v6)]) (H1 := mz_mk g2 x) rfl ?_
          exact mm_rt rfl rfl (hQ _ _ hIg2 (fun k j hk => ((hfg2 k j (fun h => hk (Or.inr h))).trans (hug1.2 k j (fun h => hk (Or.inl h))))) (by omega) (by omega) (by have h9 := (show g2 137 30 = (g 137 30) from ((hfg2 137 30 (fun h => (absurd (show 137 = 163 from h) (by decide)))).trans ((hug1.2 137 30 (fun h => absurd h.2 (by decide))).trans rfl))); omega) hE)
      · skip
        replace hE := zf_ip hE c71_18
        refine mm_g 2 (pc1 := 76) (lo1 := [some (.ref 137), some (.int (Int32.ofInt a1)), some (.int (Int32.ofInt v5)), some (.int (Int32.ofInt v6)), some (.int (Int32.ofInt v7)), o8, none, none]) (st1 := [.int (Int32.ofInt 1), .ref 137]) (H1 := mz_mk g2 x) rfl ?_
        refine mz_cv rfl mt_12_294 (by decide) (sc_137 _) rfl (Nat.le_of_ble_eq_true rfl) (by omega) (f_X12_fail (by omega) hx hIg2 (by decide) (by decide) (fun v59 g60 hIg60 hfg60 l_v59 u_v59 hc61 => ⟨_, rfl, ?_⟩))
        show mm_W d mmX12_chain 79 [some (.ref 137), some (.int (Int32.ofInt a1)), some (.int (Int32.ofInt v5)), some (.int (Int32.ofInt v6)), some (.int (Int32.ofInt v7)), o8, none, none] [.int (Int32.ofInt v59)] (mz_mk g60 x) Q
        replace hE := zf_t2 hE hc61
        exact mm_rt rfl rfl (hQ _ _ hIg60 (fun k j hk => ((hfg60 k j (fun h => hk (Or.inl h))).trans ((hfg2 k j (fun h => hk (Or.inr h))).trans (hug1.2 k j (fun h => hk (Or.inl h)))))) (by omega) (by omega) (by have h9 := (show g60 137 30 = (g 137 30) from ((hfg60 137 30 (fun h => (absurd (show (137 = 137 ∧ 30 = 2) from h) (by decide)))).trans ((hfg2 137 30 (fun h => (absurd (show 137 = 163 from h) (by decide)))).trans ((hug1.2 137 30 (fun h => absurd h.2 (by decide))).trans rfl)))); omega) hE)
    · skip
      replace hE := zf_ip hE c24_15
      refine mm_g 4 (pc1 := 32) (lo1 := [some (.ref 137), some (.int (Int32.ofInt a1)), some (.int (Int32.ofInt v5)), some (.int (Int32.ofInt v6)), some (.int (Int32.ofInt v7)), o8, none, none]) (st1 := [.int (Int32.ofInt 0), .int (Int32.ofInt v7), .ref 137, .int (Int32.ofInt 1)]) (H1 := mz_mk g2 x) rfl ?_
      refine mz_cv rfl mt_12_456 (by decide) (sc_137 _) rfl (Nat.le_of_ble_eq_true rfl) (by omega) (f_X12_madeOn (by omega) hx hIg2 (by omega) (by omega) (by decide) (by decide) (fun v62 l_v62 u_v62 hp63 hc64 => ⟨_, rfl, ?_⟩))
      show mm_W d mmX12_chain 35 [some (.ref 137), some (.int (Int32.ofInt a1)), some (.int (Int32.ofInt v5)), some (.int (Int32.ofInt v6)), some (.int (Int32.ofInt v7)), o8, none, none] [.int (Int32.ofInt v62), .int (Int32.ofInt 1)] (mz_mk g2 x) Q
      replace hE := zf_t1 hE hc64
      have mb64 := mz_ET_made (v := v7) rt4 (by omega) (by omega) (by omega) (by omega) (by omega) (by omega) (mz_bit0 (by omega) (by omega))
      simp only [mz_cf] at mb64
      rw [← hp63] at mb64
      refine mz_iadd rfl ?_
      refine mm_g 3 (pc1 := 41) (lo1 := [some (.ref 137), some (.int (Int32.ofInt a1)), some (.int (Int32.ofInt v5)), some (.int (Int32.ofInt v6)), some (.int (Int32.ofInt v7)), some (.int (Int32.ofInt (1 + v62))), none, none]) (st1 := [.int (Int32.ofInt v6), .int (Int32.ofInt (1 + v62))]) (H1 := mz_mk g2 x) rfl ?_
      refine mz_ic_gt (tgt := 47) rfl rfl ⟨by omega, by omega⟩ (mz_rg l_v6 u_v6) (fun c41_64 => ?_) (fun c41_64 => ?_)
      · skip
        replace hE := zf_ip hE c41_64
        refine mm_g 4 (pc1 := 53) (lo1 := [some (.ref 137), some (.int (Int32.ofInt a1)), some (.int (Int32.ofInt v7)), some (.int (Int32.ofInt (1 + v62))), some (.int (Int32.ofInt v7)), some (.int (Int32.ofInt (1 + v62))), none, none]) (st1 := []) (H1 := mz_mk g2 x) rfl ?_
        refine mz_iincR (v := v7) (lo2 := [some (.ref 137), some (.int (Int32.ofInt a1)), some (.int (Int32.ofInt v7)), some (.int (Int32.ofInt (1 + v62))), some (.int (Int32.ofInt (v7 + 1))), some (.int (Int32.ofInt (1 + v62))), none, none]) rfl rfl rfl (Nat.le_of_ble_eq_true rfl) rfl ?_
        refine mz_gt (tgt := 16) rfl rfl ?_
        exact ih10 ((8 - (v7 + 1)).toNat) (by omega) v7 (1 + v62) (v7 + 1) (some (.int (Int32.ofInt (1 + v62)))) rfl (by omega) (by omega) (by omega) (by omega) (by omega) (by omega) (mz_nl_i _) (by omega) ⟨fj14, Nat.lt_of_lt_of_le (show ((8 - (v7 + 1)).toNat) < n11 from (by omega)) fn15, hE⟩
      · skip
        replace hE := zf_nl hE c41_64
        refine mz_gt (tgt := 53) rfl rfl ?_
        refine mz_iincR (v := v7) (lo2 := [some (.ref 137), some (.int (Int32.ofInt a1)), some (.int (Int32.ofInt v5)), some (.int (Int32.ofInt v6)), some (.int (Int32.ofInt (v7 + 1))), some (.int (Int32.ofInt (1 + v62))), none, none]) rfl rfl rfl (Nat.le_of_ble_eq_true rfl) rfl ?_
        refine mz_gt (tgt := 16) rfl rfl ?_
        exact ih10 ((8 - (v7 + 1)).toNat) (by omega) v5 v6 (v7 + 1) (some (.int (Int32.ofInt (1 + v62)))) rfl (by omega) (by omega) (by omega) (by omega) (by omega) (by omega) (mz_nl_i _) (by omega) ⟨fj14, Nat.lt_of_lt_of_le (show ((8 - (v7 + 1)).toNat) < n11 from (by omega)) fn15, hE⟩
  exact L12 _ (-1) 0 0 none rfl (by decide) (by decide) (by decide) (by decide) (by decide) (by decide) mz_nl_n (by omega) ⟨3000000000, by omega, hE⟩
