/-! CONTRACTS OF THE REFERENCE, by program (wip/p2/tools/gen25.py) -/
def fl_X12_tellCouples_2 (x : mm_X) : Nat → Nat → Prop := fun k j => k = 157 ∨ (k = 137 ∧ j = 36) ∨ k = 158 ∨ (k = 137 ∧ j = 37) ∨ k = 159 ∨ k = 164
def fl_X12_tellCouples_87 (x : mm_X) : Nat → Nat → Prop := fun k j => k = 165
def fl_X12_tellCouples_144 (x : mm_X) : Nat → Nat → Prop := fun k j => k = 165
def fl_X12_tellCouples_27 (x : mm_X) : Nat → Nat → Prop := fun k j => k = 158 ∨ (k = 137 ∧ j = 37) ∨ k = 159 ∨ k = 164
def fw_X12_tellCouples (x : mm_X) : Nat → Nat → Prop := fun k j => k = 157 ∨ (k = 137 ∧ j = 36) ∨ k = 158 ∨ (k = 137 ∧ j = 37) ∨ k = 159 ∨ k = 164 ∨ k = 165
theorem c_X12_tellCouples {d : Nat} (hd : 13 ≤ d) {x : mm_X} (hx : mk_x x) {g : mz_G} (hI : mz_inv g) {Q : (Option Value ⊕ Nat) → mm_H → Prop} (hQ : ∀ (g1 : mz_G), mz_inv g1 → mz_fr (fw_X12_tellCouples x) g g1 → Q (.inl none) (mz_mk g1 x)) : mm_C d 274 [.ref 137] (mz_mk g x) Q := by
  refine ⟨mmX12_tellCouples, [some (.ref 137), none, none, none, none], rfl, rfl, ?_⟩
  refine mm_g 2 (pc1 := 2) (lo1 := [some (.ref 137), some (.int (Int32.ofInt 0)), none, none, none]) (st1 := []) (H1 := mz_mk g x) rfl ?_
  have L6 : ∀ n5 : Nat, ∀ (v1 : Int) (o2 : Option Value) (g3 : mz_G), (6 - v1).toNat = n5 → 0 ≤ v1 → v1 ≤ 6 → mz_nl o2 → mz_inv g3 → mz_fr (fl_X12_tellCouples_2 x) g g3 → mm_W d mmX12_tellCouples 2 [some (.ref 137), some (.int (Int32.ofInt v1)), o2, none, none] [] (mz_mk g3 x) Q := by
    intro n5
    induction n5 using Nat.strongRecOn with
    | ind n5 ih4 =>
    intro v1 o2 g3 hmn5 l_v1 u_v1 h_o2 hIg3 hfg3
    refine mm_g 2 (pc1 := 4) (lo1 := [some (.ref 137), some (.int (Int32.ofInt v1)), o2, none, none]) (st1 := [.ref 137, .int (Int32.ofInt v1)]) (H1 := mz_mk g3 x) rfl ?_
    refine mz_fgR (v := 140) rfl fd_12_36 (by decide) (sc_137 _) (rf_137_3 _ _ _) ?_
    refine mm_g 1 (pc1 := 8) (lo1 := [some (.ref 137), some (.int (Int32.ofInt v1)), o2, none, none]) (st1 := [.int (Int32.ofInt 1), .ref 140, .int (Int32.ofInt v1)]) (H1 := mz_mk g3 x) rfl ?_
    refine mz_aI rfl (sh_140 _) (by omega) (by omega) (by decide) hIg3 bt_140_1 (fun v7 e_v7 l_v7 u_v7 => ?_)
    have e_v7 : g3 140 1 = v7 := e_v7
    refine mz_ic_ge (tgt := 78) rfl rfl (mz_rg l_v1 u_v1) (mz_rg l_v7 u_v7) (fun c9_7 => ?_) (fun c9_7 => ?_)
    · skip
      refine mm_g 1 (pc1 := 79) (lo1 := [some (.ref 137), some (.int (Int32.ofInt v1)), o2, none, none]) (st1 := [.ref 137]) (H1 := mz_mk g3 x) rfl ?_
      refine mz_fgR (v := 165) rfl fd_12_112 (by decide) (sc_137 _) (rf_137_43 _ _ _) ?_
      refine mm_g 2 (pc1 := 84) (lo1 := [some (.ref 137), some (.int (Int32.ofInt v1)), o2, none, none]) (st1 := [.int (Int32.ofInt 0), .int (Int32.ofInt 0), .ref 165]) (H1 := mz_mk g3 x) rfl ?_
      refine mz_sI rfl (sh_165 _) (by omega) (by omega) (by decide) hIg3 (ba_165 _) (by omega) (by omega) (fun g8 hIg8 hug8 => ?_)
      refine mm_g 2 (pc1 := 87) (lo1 := [some (.ref 137), some (.int (Int32.ofInt 1)), o2, none, none]) (st1 := []) (H1 := mz_mk g8 x) rfl ?_
      have L16 : ∀ n15 : Nat, ∀ (v9 : Int) (o10 : Option Value) (o11 : Option Value) (o12 : Option Value) (g13 : mz_G), (64 - v9).toNat = n15 → 1 ≤ v9 → v9 ≤ 64 → mz_nl o10 → mz_nl o11 → mz_nl o12 → mz_inv g13 → mz_fr (fl_X12_tellCouples_87 x) g8 g13 → mm_W d mmX12_tellCouples 87 [some (.ref 137), some (.int (Int32.ofInt v9)), o10, o11, o12] [] (mz_mk g13 x) Q := by
        intro n15
        induction n15 using Nat.strongRecOn with
        | ind n15 ih14 =>
        intro v9 o10 o11 o12 g13 hmn15 l_v9 u_v9 h_o10 h_o11 h_o12 hIg13 hfg13
        refine mm_g 3 (pc1 := 90) (lo1 := [some (.ref 137), some (.int (Int32.ofInt v9)), o10, o11, o12]) (st1 := [.ref 137, .int (Int32.ofInt 1), .int (Int32.ofInt v9)]) (H1 := mz_mk g13 x) rfl ?_
        refine mz_fgR (v := 140) rfl fd_12_36 (by decide) (sc_137 _) (rf_137_3 _ _ _) ?_
        refine mm_g 1 (pc1 := 94) (lo1 := [some (.ref 137), some (.int (Int32.ofInt v9)), o10, o11, o12]) (st1 := [.int (Int32.ofInt 1), .ref 140, .int (Int32.ofInt 1), .int (Int32.ofInt v9)]) (H1 := mz_mk g13 x) rfl ?_
        refine mz_ia (v := v7) rfl (sh_140 _) (by decide) (by decide) (by decide) (show g13 140 1 = v7 from ((hfg13 140 1 (fun h => (absurd (show 140 = 165 from h) (by decide)))).trans ((hug8.2 140 1 (fun h => absurd h.1 (by decide))).trans e_v7))) ?_
        refine mz_ishl rfl (fun v17 e_v17 hwv17 => ?_)
        have b_v17 : 1 ≤ v17 ∧ v17 ≤ 64 := by rw [e_v17]; exact mz_shl_b (lx := 1) (hx := 1) (k := 6) (by decide) (by decide) (by omega) (by omega) (by omega) (by omega)
        have l_v17 := b_v17.1
        have u_v17 := b_v17.2
        refine mz_ic_ge (tgt := 217) rfl rfl (mz_rg l_v9 u_v9) (mz_rg l_v17 u_v17) (fun c96_17 => ?_) (fun c96_17 => ?_)
        · skip
          exact mm_rt rfl rfl (hQ _ hIg13 (fun k j hk => ((hfg13 k j (fun h => hk (Or.inr (Or.inr (Or.inr (Or.inr (Or.inr (Or.inr h)))))))).trans ((hug8.2 k j (fun h => hk (Or.inr (Or.inr (Or.inr (Or.inr (Or.inr (Or.inr h.1)))))))).trans (hfg3 k j (fun h => hk (Or.elim h (fun h => (Or.inl h)) (fun h => (Or.elim h (fun h => (Or.inr (Or.inl h))) (fun h => (Or.elim h (fun h => (Or.inr (Or.inr (Or.inl h)))) (fun h => (Or.elim h (fun h => (Or.inr (Or.inr (Or.inr (Or.inl h))))) (fun h => (Or.elim h (fun h => (Or.inr (Or.inr (Or.inr (Or.inr (Or.inl h)))))) (fun h => (Or.inr (Or.inr (Or.inr (Or.inr (Or.inr (Or.inl h))))))))))))))))))))))
        · skip
          refine mm_g 2 (pc1 := 101) (lo1 := [some (.ref 137), some (.int (Int32.ofInt v9)), some (.int (Int32.ofInt 0)), o11, o12]) (st1 := []) (H1 := mz_mk g13 x) rfl ?_
          have L22 : ∀ n21 : Nat, ∀ (v18 : Int), (6 - v18).toNat = n21 → 0 ≤ v18 → v18 ≤ 6 → (∀ i_ : Int, 0 ≤ i_ → i_ < v18 → mz_bit v9 i_ = 0) → mm_W d mmX12_tellCouples 101 [some (.ref 137), some (.int (Int32.ofInt v9)), some (.int (Int32.ofInt v18)), o11, o12] [] (mz_mk g13 x) Q := by
            intro n21
            induction n21 using Nat.strongRecOn with
            | ind n21 ih20 =>
            intro v18 hmn21 l_v18 u_v18 hv23
            have hb_v18 := hv23
            have ht_v18 : v18 ≤ 5 := mz_bit_ex (by omega) (by omega) (by omega) hb_v18
            refine mm_g 2 (pc1 := 103) (lo1 := [some (.ref 137), some (.int (Int32.ofInt v9)), some (.int (Int32.ofInt v18)), o11, o12]) (st1 := [.int (Int32.ofInt v18), .int (Int32.ofInt v9)]) (H1 := mz_mk g13 x) rfl ?_
            refine mz_cs rfl mt_12_450 (by decide) rfl (Nat.le_of_ble_eq_true rfl) (by omega) (c_X12_isOf (by omega) hx hIg13 (by omega) (by omega) (by omega) (by omega) (fun v24 l_v24 u_v24 hp25 => ⟨_, rfl, ?_⟩))
            show mm_W d mmX12_tellCouples 106 [some (.ref 137), some (.int (Int32.ofInt v9)), some (.int (Int32.ofInt v18)), o11, o12] [.int (Int32.ofInt v24)] (mz_mk g13 x) Q
            refine mz_if_ne (tgt := 115) rfl rfl (mz_rg l_v24 u_v24) (fun c106_25 => ?_) (fun c106_25 => ?_)
            · skip
              refine mm_g 3 (pc1 := 118) (lo1 := [some (.ref 137), some (.int (Int32.ofInt v9)), some (.int (Int32.ofInt v18)), o11, o12]) (st1 := [.int (Int32.ofInt v18), .int (Int32.ofInt 1), .int (Int32.ofInt v9)]) (H1 := mz_mk g13 x) rfl ?_
              refine mz_ishl rfl (fun v26 e_v26 hwv26 => ?_)
              have b_v26 : 1 ≤ v26 ∧ v26 ≤ 32 := by rw [e_v26]; exact mz_shl_b (lx := 1) (hx := 1) (k := 5) (by decide) (by decide) (by omega) (by omega) (by omega) (by omega)
              have l_v26 := b_v26.1
              have u_v26 := b_v26.2
              refine mm_g 1 (pc1 := 120) (lo1 := [some (.ref 137), some (.int (Int32.ofInt v9)), some (.int (Int32.ofInt v18)), o11, o12]) (st1 := [.int (Int32.ofInt (-1)), .int (Int32.ofInt v26), .int (Int32.ofInt v9)]) (H1 := mz_mk g13 x) rfl ?_
              refine mz_ixor rfl (fun v27 e_v27 hwv27 => ?_)
              have l_v27 := hwv27.1
              have u_v27 := hwv27.2
              refine mz_iand rfl (fun v28 e_v28 hwv28 => ?_)
              have b_v28 : 0 ≤ v28 ∧ v28 ≤ 63 := by rw [e_v28]; exact mz_and_l (by omega) (by omega) (mz_rg l_v27 u_v27)
              have l_v28 := b_v28.1
              have u_v28 := b_v28.2
              have w_v28 : v28 ≤ v9 := by rw [e_v28]; exact (mz_and_l (hi := v9) (by omega) (Int.le_refl _) (mz_rg l_v27 u_v27) (by omega)).2
              refine mm_g 2 (pc1 := 124) (lo1 := [some (.ref 137), some (.int (Int32.ofInt v9)), some (.int (Int32.ofInt v18)), some (.int (Int32.ofInt v28)), o12]) (st1 := [.ref 137]) (H1 := mz_mk g13 x) rfl ?_
              refine mz_fgR (v := 165) rfl fd_12_112 (by decide) (sc_137 _) (rf_137_43 _ _ _) ?_
              refine mm_g 1 (pc1 := 128) (lo1 := [some (.ref 137), some (.int (Int32.ofInt v9)), some (.int (Int32.ofInt v18)), some (.int (Int32.ofInt v28)), o12]) (st1 := [.int (Int32.ofInt v9), .ref 165]) (H1 := mz_mk g13 x) rfl ?_
              refine mz_sip rfl sip_1000 ?_
              refine mm_g 1 (pc1 := 132) (lo1 := [some (.ref 137), some (.int (Int32.ofInt v9)), some (.int (Int32.ofInt v18)), some (.int (Int32.ofInt v28)), o12]) (st1 := [.ref 137, .int (Int32.ofInt 1000), .int (Int32.ofInt v9), .ref 165]) (H1 := mz_mk g13 x) rfl ?_
              refine mz_fgR (v := 165) rfl fd_12_112 (by decide) (sc_137 _) (rf_137_43 _ _ _) ?_
              refine mm_g 1 (pc1 := 136) (lo1 := [some (.ref 137), some (.int (Int32.ofInt v9)), some (.int (Int32.ofInt v18)), some (.int (Int32.ofInt v28)), o12]) (st1 := [.int (Int32.ofInt v28), .ref 165, .int (Int32.ofInt 1000), .int (Int32.ofInt v9), .ref 165]) (H1 := mz_mk g13 x) rfl ?_
              refine mz_aI rfl (sh_165 _) (by omega) (by omega) (by decide) hIg13 (ba_165 _) (fun v29 e_v29 l_v29 u_v29 => ?_)
              refine mz_iadd_w rfl (fun v30 _ hwv30 => ?_)
              have l_v30 := hwv30.1
              have u_v30 := hwv30.2
              refine mz_sI rfl (sh_165 _) (by omega) (by omega) (by decide) hIg13 (ba_165 _) (by omega) (by omega) (fun g31 hIg31 hug31 => ?_)
              refine mm_g 2 (pc1 := 141) (lo1 := [some (.ref 137), some (.int (Int32.ofInt v9)), some (.int (Int32.ofInt v18)), some (.int (Int32.ofInt v28)), o12]) (st1 := [.int (Int32.ofInt 1), .int (Int32.ofInt v18)]) (H1 := mz_mk g31 x) rfl ?_
              refine mz_iadd rfl ?_
              refine mm_g 1 (pc1 := 144) (lo1 := [some (.ref 137), some (.int (Int32.ofInt v9)), some (.int (Int32.ofInt v18)), some (.int (Int32.ofInt v28)), some (.int (Int32.ofInt (v18 + 1)))]) (st1 := []) (H1 := mz_mk g31 x) rfl ?_
              have L36 : ∀ n35 : Nat, ∀ (v32 : Int) (g33 : mz_G), (6 - v32).toNat = n35 → 1 ≤ v32 → v32 ≤ 6 → mz_inv g33 → mz_fr (fl_X12_tellCouples_144 x) g31 g33 → mm_W d mmX12_tellCouples 144 [some (.ref 137), some (.int (Int32.ofInt v9)), some (.int (Int32.ofInt v18)), some (.int (Int32.ofInt v28)), some (.int (Int32.ofInt v32))] [] (mz_mk g33 x) Q := by
                intro n35
                induction n35 using Nat.strongRecOn with
                | ind n35 ih34 =>
                intro v32 g33 hmn35 l_v32 u_v32 hIg33 hfg33
                refine mm_g 2 (pc1 := 147) (lo1 := [some (.ref 137), some (.int (Int32.ofInt v9)), some (.int (Int32.ofInt v18)), some (.int (Int32.ofInt v28)), some (.int (Int32.ofInt v32))]) (st1 := [.ref 137, .int (Int32.ofInt v32)]) (H1 := mz_mk g33 x) rfl ?_
                refine mz_fgR (v := 140) rfl fd_12_36 (by decide) (sc_137 _) (rf_137_3 _ _ _) ?_
                refine mm_g 1 (pc1 := 151) (lo1 := [some (.ref 137), some (.int (Int32.ofInt v9)), some (.int (Int32.ofInt v18)), some (.int (Int32.ofInt v28)), some (.int (Int32.ofInt v32))]) (st1 := [.int (Int32.ofInt 1), .ref 140, .int (Int32.ofInt v32)]) (H1 := mz_mk g33 x) rfl ?_
                refine mz_ia (v := v7) rfl (sh_140 _) (by decide) (by decide) (by decide) (show g33 140 1 = v7 from ((hfg33 140 1 (fun h => (absurd (show 140 = 165 from h) (by decide)))).trans ((hug31.2 140 1 (fun h => absurd h.1 (by decide))).trans ((hfg13 140 1 (fun h => (absurd (show 140 = 165 from h) (by decide)))).trans ((hug8.2 140 1 (fun h => absurd h.1 (by decide))).trans e_v7))))) ?_
                refine mz_ic_ge (tgt := 211) rfl rfl (mz_rg l_v32 u_v32) (mz_rg l_v7 u_v7) (fun c152_36 => ?_) (fun c152_36 => ?_)
                · skip
                  refine mz_iincR (v := v9) (lo2 := [some (.ref 137), some (.int (Int32.ofInt (v9 + 1))), some (.int (Int32.ofInt v18)), some (.int (Int32.ofInt v28)), some (.int (Int32.ofInt v32))]) rfl rfl rfl (Nat.le_of_ble_eq_true rfl) rfl ?_
                  refine mz_gt (tgt := 87) rfl rfl ?_
                  exact ih14 ((64 - (v9 + 1)).toNat) (by omega) (v9 + 1) (some (.int (Int32.ofInt v18))) (some (.int (Int32.ofInt v28))) (some (.int (Int32.ofInt v32))) g33 rfl (by omega) (by omega) (mz_nl_i _) (mz_nl_i _) (mz_nl_i _) hIg33 (fun k j hk => ((hfg33 k j (fun h => hk h)).trans ((hug31.2 k j (fun h => hk h.1)).trans (hfg13 k j (fun h => hk h)))))
                · skip
                  refine mm_g 2 (pc1 := 158) (lo1 := [some (.ref 137), some (.int (Int32.ofInt v9)), some (.int (Int32.ofInt v18)), some (.int (Int32.ofInt v28)), some (.int (Int32.ofInt v32))]) (st1 := [.int (Int32.ofInt v32), .int (Int32.ofInt v28)]) (H1 := mz_mk g33 x) rfl ?_
                  refine mz_cs rfl mt_12_450 (by decide) rfl (Nat.le_of_ble_eq_true rfl) (by omega) (c_X12_isOf (by omega) hx hIg33 (by omega) (by omega) (by omega) (by omega) (fun v37 l_v37 u_v37 hp38 => ⟨_, rfl, ?_⟩))
                  show mm_W d mmX12_tellCouples 161 [some (.ref 137), some (.int (Int32.ofInt v9)), some (.int (Int32.ofInt v18)), some (.int (Int32.ofInt v28)), some (.int (Int32.ofInt v32))] [.int (Int32.ofInt v37)] (mz_mk g33 x) Q
                  refine mz_if_eq (tgt := 205) rfl rfl (mz_rg l_v37 u_v37) (fun c161_38 => ?_) (fun c161_38 => ?_)
                  · skip
                    refine mz_iincR (v := v32) (lo2 := [some (.ref 137), some (.int (Int32.ofInt v9)), some (.int (Int32.ofInt v18)), some (.int (Int32.ofInt v28)), some (.int (Int32.ofInt (v32 + 1)))]) rfl rfl rfl (Nat.le_of_ble_eq_true rfl) rfl ?_
                    refine mz_gt (tgt := 144) rfl rfl ?_
                    exact ih34 ((6 - (v32 + 1)).toNat) (by omega) (v32 + 1) g33 rfl (by omega) (by omega) hIg33 (fun k j hk => (hfg33 k j (fun h => hk h)))
                  · skip
                    refine mm_g 1 (pc1 := 165) (lo1 := [some (.ref 137), some (.int (Int32.ofInt v9)), some (.int (Int32.ofInt v18)), some (.int (Int32.ofInt v28)), some (.int (Int32.ofInt v32))]) (st1 := [.ref 137]) (H1 := mz_mk g33 x) rfl ?_
                    refine mz_fgR (v := 165) rfl fd_12_112 (by decide) (sc_137 _) (rf_137_43 _ _ _) ?_
                    refine mm_g 2 (pc1 := 170) (lo1 := [some (.ref 137), some (.int (Int32.ofInt v9)), some (.int (Int32.ofInt v18)), some (.int (Int32.ofInt v28)), some (.int (Int32.ofInt v32))]) (st1 := [.ref 137, .int (Int32.ofInt v9), .ref 165]) (H1 := mz_mk g33 x) rfl ?_
                    refine mz_fgR (v := 165) rfl fd_12_112 (by decide) (sc_137 _) (rf_137_43 _ _ _) ?_
                    refine mm_g 1 (pc1 := 174) (lo1 := [some (.ref 137), some (.int (Int32.ofInt v9)), some (.int (Int32.ofInt v18)), some (.int (Int32.ofInt v28)), some (.int (Int32.ofInt v32))]) (st1 := [.int (Int32.ofInt v9), .ref 165, .int (Int32.ofInt v9), .ref 165]) (H1 := mz_mk g33 x) rfl ?_
                    refine mz_aI rfl (sh_165 _) (by omega) (by omega) (by decide) hIg33 (ba_165 _) (fun v39 e_v39 l_v39 u_v39 => ?_)
                    refine mm_g 1 (pc1 := 176) (lo1 := [some (.ref 137), some (.int (Int32.ofInt v9)), some (.int (Int32.ofInt v18)), some (.int (Int32.ofInt v28)), some (.int (Int32.ofInt v32))]) (st1 := [.ref 137, .int (Int32.ofInt v39), .int (Int32.ofInt v9), .ref 165]) (H1 := mz_mk g33 x) rfl ?_
                    refine mz_fgR (v := 164) rfl fd_12_109 (by decide) (sc_137 _) (rf_137_42 _ _ _) ?_
                    refine mz_bip rfl bip_6 ?_
                    refine mm_g 1 (pc1 := 182) (lo1 := [some (.ref 137), some (.int (Int32.ofInt v9)), some (.int (Int32.ofInt v18)), some (.int (Int32.ofInt v28)), some (.int (Int32.ofInt v32))]) (st1 := [.int (Int32.ofInt v18), .int (Int32.ofInt 6), .ref 164, .int (Int32.ofInt v39), .int (Int32.ofInt v9), .ref 165]) (H1 := mz_mk g33 x) rfl ?_
                    refine mz_imul rfl ?_
                    refine mm_g 1 (pc1 := 185) (lo1 := [some (.ref 137), some (.int (Int32.ofInt v9)), some (.int (Int32.ofInt v18)), some (.int (Int32.ofInt v28)), some (.int (Int32.ofInt v32))]) (st1 := [.int (Int32.ofInt v32), .int (Int32.ofInt (6 * v18)), .ref 164, .int (Int32.ofInt v39), .int (Int32.ofInt v9), .ref 165]) (H1 := mz_mk g33 x) rfl ?_
                    refine mz_iadd rfl ?_
                    refine mz_aI rfl (sh_164 _) (by omega) (by omega) (by decide) hIg33 (ba_164 _) (fun v40 e_v40 l_v40 u_v40 => ?_)
                    refine mm_g 1 (pc1 := 188) (lo1 := [some (.ref 137), some (.int (Int32.ofInt v9)), some (.int (Int32.ofInt v18)), some (.int (Int32.ofInt v28)), some (.int (Int32.ofInt v32))]) (st1 := [.ref 137, .int (Int32.ofInt v40), .int (Int32.ofInt v39), .int (Int32.ofInt v9), .ref 165]) (H1 := mz_mk g33 x) rfl ?_
                    refine mz_fgR (v := 165) rfl fd_12_112 (by decide) (sc_137 _) (rf_137_43 _ _ _) ?_
                    refine mm_g 3 (pc1 := 195) (lo1 := [some (.ref 137), some (.int (Int32.ofInt v9)), some (.int (Int32.ofInt v18)), some (.int (Int32.ofInt v28)), some (.int (Int32.ofInt v32))]) (st1 := [.int (Int32.ofInt v32), .int (Int32.ofInt 1), .int (Int32.ofInt v28), .ref 165, .int (Int32.ofInt v40), .int (Int32.ofInt v39), .int (Int32.ofInt v9), .ref 165]) (H1 := mz_mk g33 x) rfl ?_
                    refine mz_ishl rfl (fun v41 e_v41 hwv41 => ?_)
                    have b_v41 : 1 ≤ v41 ∧ v41 ≤ 32 := by rw [e_v41]; exact mz_shl_b (lx := 1) (hx := 1) (k := 5) (by decide) (by decide) (by omega) (by omega) (by omega) (by omega)
                    have l_v41 := b_v41.1
                    have u_v41 := b_v41.2
                    refine mm_g 1 (pc1 := 197) (lo1 := [some (.ref 137), some (.int (Int32.ofInt v9)), some (.int (Int32.ofInt v18)), some (.int (Int32.ofInt v28)), some (.int (Int32.ofInt v32))]) (st1 := [.int (Int32.ofInt (-1)), .int (Int32.ofInt v41), .int (Int32.ofInt v28), .ref 165, .int (Int32.ofInt v40), .int (Int32.ofInt v39), .int (Int32.ofInt v9), .ref 165]) (H1 := mz_mk g33 x) rfl ?_
                    refine mz_ixor rfl (fun v42 e_v42 hwv42 => ?_)
                    have l_v42 := hwv42.1
                    have u_v42 := hwv42.2
                    refine mz_iand rfl (fun v43 e_v43 hwv43 => ?_)
                    have b_v43 : 0 ≤ v43 ∧ v43 ≤ 63 := by rw [e_v43]; exact mz_and_l (by omega) (by omega) (mz_rg l_v42 u_v42)
                    have l_v43 := b_v43.1
                    have u_v43 := b_v43.2
                    have w_v43 : v43 ≤ v28 := by rw [e_v43]; exact (mz_and_l (hi := v28) (by omega) (Int.le_refl _) (mz_rg l_v42 u_v42) (by omega)).2
                    refine mz_aI rfl (sh_165 _) (by omega) (by omega) (by decide) hIg33 (ba_165 _) (fun v44 e_v44 l_v44 u_v44 => ?_)
                    refine mz_iadd_w rfl (fun v45 _ hwv45 => ?_)
                    have l_v45 := hwv45.1
                    have u_v45 := hwv45.2
                    refine mz_mn rfl mt_12_191 (Nat.le_of_ble_eq_true rfl) (by omega) (mz_rg l_v39 u_v39) (mz_rg l_v45 u_v45) (fun v46 e_v46 => ?_)
                    have l_v46 : (-2147483648) ≤ v46 := by omega
                    have u_v46 : v46 ≤ 2147483647 := by omega
                    refine mz_sI rfl (sh_165 _) (by omega) (by omega) (by decide) hIg33 (ba_165 _) (by omega) (by omega) (fun g47 hIg47 hug47 => ?_)
                    refine mz_iincR (v := v32) (lo2 := [some (.ref 137), some (.int (Int32.ofInt v9)), some (.int (Int32.ofInt v18)), some (.int (Int32.ofInt v28)), some (.int (Int32.ofInt (v32 + 1)))]) rfl rfl rfl (Nat.le_of_ble_eq_true rfl) rfl ?_
                    refine mz_gt (tgt := 144) rfl rfl ?_
                    exact ih34 ((6 - (v32 + 1)).toNat) (by omega) (v32 + 1) g47 rfl (by omega) (by omega) hIg47 (fun k j hk => ((hug47.2 k j (fun h => hk h.1)).trans (hfg33 k j (fun h => hk h))))
              exact L36 _ (v18 + 1) g31 rfl (by omega) (by omega) hIg31 (fun _ _ _ => rfl)
            · skip
              refine mz_iincR (v := v18) (lo2 := [some (.ref 137), some (.int (Int32.ofInt v9)), some (.int (Int32.ofInt (v18 + 1))), o11, o12]) rfl rfl rfl (Nat.le_of_ble_eq_true rfl) rfl ?_
              refine mz_gt (tgt := 101) rfl rfl ?_
              exact ih20 ((6 - (v18 + 1)).toNat) (by omega) (v18 + 1) rfl (by omega) (by omega) (by intro i_ h0 h1; rcases (by omega : i_ < v18 ∨ i_ = v18) with h2 | h2; exact hb_v18 i_ h0 h2; rw [h2, ← hp25 (by omega) (by omega) (by omega)]; omega)
          exact L22 _ 0 rfl (by decide) (by decide) (by intro i_ h0 h1; omega)
      exact L16 _ 1 o2 none none g8 rfl (by decide) (by decide) h_o2 mz_nl_n mz_nl_n hIg8 (fun _ _ _ => rfl)
    · skip
      refine mm_g 3 (pc1 := 15) (lo1 := [some (.ref 137), some (.int (Int32.ofInt v1)), o2, none, none]) (st1 := [.ref 137, .ref 137, .ref 137]) (H1 := mz_mk g3 x) rfl ?_
      refine mz_fgR (v := 157) rfl fd_12_88 (by decide) (sc_137 _) (rf_137_33 _ _ _) ?_
      refine mm_g 1 (pc1 := 19) (lo1 := [some (.ref 137), some (.int (Int32.ofInt v1)), o2, none, none]) (st1 := [.int (Int32.ofInt v1), .ref 157, .ref 137, .ref 137]) (H1 := mz_mk g3 x) rfl ?_
      refine mz_cv rfl mt_12_424 (by decide) (sc_137 _) rfl (Nat.le_of_ble_eq_true rfl) (by omega) (c_X12_blendInto (by omega) hx hIg3 (sh_157 _) (by decide) ba_157 (by omega) (by omega) (by omega) (fun v48 g49 hIg49 hfg49 l_v48 u_v48 => ⟨_, rfl, ?_⟩))
      show mm_W d mmX12_tellCouples 22 [some (.ref 137), some (.int (Int32.ofInt v1)), o2, none, none] [.int (Int32.ofInt v48), .ref 137] (mz_mk g49 x) Q
      refine mz_pI rfl fd_12_323 (sc_137 _) hIg49 bd_137_36 (by omega) (by omega) (fun g50 hIg50 hug50 => ?_)
      refine mm_g 2 (pc1 := 27) (lo1 := [some (.ref 137), some (.int (Int32.ofInt v1)), some (.int (Int32.ofInt 0)), none, none]) (st1 := []) (H1 := mz_mk g50 x) rfl ?_
      have L55 : ∀ n54 : Nat, ∀ (v51 : Int) (g52 : mz_G), (6 - v51).toNat = n54 → 0 ≤ v51 → v51 ≤ 6 → mz_inv g52 → mz_fr (fl_X12_tellCouples_27 x) g50 g52 → mm_W d mmX12_tellCouples 27 [some (.ref 137), some (.int (Int32.ofInt v1)), some (.int (Int32.ofInt v51)), none, none] [] (mz_mk g52 x) Q := by
        intro n54
        induction n54 using Nat.strongRecOn with
        | ind n54 ih53 =>
        intro v51 g52 hmn54 l_v51 u_v51 hIg52 hfg52
        refine mm_g 2 (pc1 := 29) (lo1 := [some (.ref 137), some (.int (Int32.ofInt v1)), some (.int (Int32.ofInt v51)), none, none]) (st1 := [.ref 137, .int (Int32.ofInt v51)]) (H1 := mz_mk g52 x) rfl ?_
        refine mz_fgR (v := 140) rfl fd_12_36 (by decide) (sc_137 _) (rf_137_3 _ _ _) ?_
        refine mm_g 1 (pc1 := 33) (lo1 := [some (.ref 137), some (.int (Int32.ofInt v1)), some (.int (Int32.ofInt v51)), none, none]) (st1 := [.int (Int32.ofInt 1), .ref 140, .int (Int32.ofInt v51)]) (H1 := mz_mk g52 x) rfl ?_
        refine mz_ia (v := v7) rfl (sh_140 _) (by decide) (by decide) (by decide) (show g52 140 1 = v7 from ((hfg52 140 1 (fun h => (Or.elim h (fun h => (absurd (show 140 = 158 from h) (by decide))) (fun h => (Or.elim h (fun h => (absurd (show 140 = 137 from (h).1) (by decide))) (fun h => (Or.elim h (fun h => (absurd (show 140 = 159 from h) (by decide))) (fun h => (absurd (show 140 = 164 from h) (by decide)))))))))).trans ((hug50.2 140 1 (fun h => absurd h.1 (by decide))).trans ((hfg49 140 1 (fun h => (absurd (show 140 = 157 from h) (by decide)))).trans e_v7)))) ?_
        refine mz_ic_ge (tgt := 72) rfl rfl (mz_rg l_v51 u_v51) (mz_rg l_v7 u_v7) (fun c34_55 => ?_) (fun c34_55 => ?_)
        · skip
          refine mz_iincR (v := v1) (lo2 := [some (.ref 137), some (.int (Int32.ofInt (v1 + 1))), some (.int (Int32.ofInt v51)), none, none]) rfl rfl rfl (Nat.le_of_ble_eq_true rfl) rfl ?_
          refine mz_gt (tgt := 2) rfl rfl ?_
          exact ih4 ((6 - (v1 + 1)).toNat) (by omega) (v1 + 1) (some (.int (Int32.ofInt v51))) g52 rfl (by omega) (by omega) (mz_nl_i _) hIg52 (fun k j hk => ((hfg52 k j (fun h => hk (Or.elim h (fun h => (Or.inr (Or.inr (Or.inl h)))) (fun h => (Or.elim h (fun h => (Or.inr (Or.inr (Or.inr (Or.inl h))))) (fun h => (Or.elim h (fun h => (Or.inr (Or.inr (Or.inr (Or.inr (Or.inl h)))))) (fun h => (Or.inr (Or.inr (Or.inr (Or.inr (Or.inr h))))))))))))).trans ((hug50.2 k j (fun h => hk (Or.inr (Or.inl h)))).trans ((hfg49 k j (fun h => hk (Or.inl h))).trans (hfg3 k j (fun h => hk (Or.elim h (fun h => (Or.inl h)) (fun h => (Or.elim h (fun h => (Or.inr (Or.inl h))) (fun h => (Or.elim h (fun h => (Or.inr (Or.inr (Or.inl h)))) (fun h => (Or.elim h (fun h => (Or.inr (Or.inr (Or.inr (Or.inl h))))) (fun h => (Or.elim h (fun h => (Or.inr (Or.inr (Or.inr (Or.inr (Or.inl h)))))) (fun h => (Or.inr (Or.inr (Or.inr (Or.inr (Or.inr h)))))))))))))))))))))
        · skip
          refine mm_g 3 (pc1 := 40) (lo1 := [some (.ref 137), some (.int (Int32.ofInt v1)), some (.int (Int32.ofInt v51)), none, none]) (st1 := [.ref 137, .ref 137, .ref 137]) (H1 := mz_mk g52 x) rfl ?_
          refine mz_fgR (v := 158) rfl fd_12_91 (by decide) (sc_137 _) (rf_137_34 _ _ _) ?_
          refine mm_g 1 (pc1 := 44) (lo1 := [some (.ref 137), some (.int (Int32.ofInt v1)), some (.int (Int32.ofInt v51)), none, none]) (st1 := [.int (Int32.ofInt v51), .ref 158, .ref 137, .ref 137]) (H1 := mz_mk g52 x) rfl ?_
          refine mz_cv rfl mt_12_424 (by decide) (sc_137 _) rfl (Nat.le_of_ble_eq_true rfl) (by omega) (c_X12_blendInto (by omega) hx hIg52 (sh_158 _) (by decide) ba_158 (by omega) (by omega) (by omega) (fun v56 g57 hIg57 hfg57 l_v56 u_v56 => ⟨_, rfl, ?_⟩))
          show mm_W d mmX12_tellCouples 47 [some (.ref 137), some (.int (Int32.ofInt v1)), some (.int (Int32.ofInt v51)), none, none] [.int (Int32.ofInt v56), .ref 137] (mz_mk g57 x) Q
          refine mz_pI rfl fd_12_326 (sc_137 _) hIg57 bd_137_37 (by omega) (by omega) (fun g58 hIg58 hug58 => ?_)
          refine mm_g 1 (pc1 := 51) (lo1 := [some (.ref 137), some (.int (Int32.ofInt v1)), some (.int (Int32.ofInt v51)), none, none]) (st1 := [.ref 137]) (H1 := mz_mk g58 x) rfl ?_
          refine mz_fgR (v := 164) rfl fd_12_109 (by decide) (sc_137 _) (rf_137_42 _ _ _) ?_
          refine mz_bip rfl bip_6 ?_
          refine mm_g 1 (pc1 := 57) (lo1 := [some (.ref 137), some (.int (Int32.ofInt v1)), some (.int (Int32.ofInt v51)), none, none]) (st1 := [.int (Int32.ofInt v1), .int (Int32.ofInt 6), .ref 164]) (H1 := mz_mk g58 x) rfl ?_
          refine mz_imul rfl ?_
          refine mm_g 1 (pc1 := 59) (lo1 := [some (.ref 137), some (.int (Int32.ofInt v1)), some (.int (Int32.ofInt v51)), none, none]) (st1 := [.int (Int32.ofInt v51), .int (Int32.ofInt (6 * v1)), .ref 164]) (H1 := mz_mk g58 x) rfl ?_
          refine mz_iadd rfl ?_
          refine mm_g 2 (pc1 := 62) (lo1 := [some (.ref 137), some (.int (Int32.ofInt v1)), some (.int (Int32.ofInt v51)), none, none]) (st1 := [.int (Int32.ofInt 1), .ref 137, .int (Int32.ofInt ((6 * v1) + v51)), .ref 164]) (H1 := mz_mk g58 x) rfl ?_
          refine mz_cv rfl mt_12_427 (by decide) (sc_137 _) rfl (Nat.le_of_ble_eq_true rfl) (by omega) (c_X12_compared (by omega) hx hIg58 (by decide) (by decide) (fun v59 g60 hIg60 hfg60 l_v59 u_v59 => ⟨_, rfl, ?_⟩))
          show mm_W d mmX12_tellCouples 65 [some (.ref 137), some (.int (Int32.ofInt v1)), some (.int (Int32.ofInt v51)), none, none] [.int (Int32.ofInt v59), .int (Int32.ofInt ((6 * v1) + v51)), .ref 164] (mz_mk g60 x) Q
          refine mz_sI rfl (sh_164 _) (by omega) (by omega) (by decide) hIg60 (ba_164 _) (by omega) (by omega) (fun g61 hIg61 hug61 => ?_)
          refine mz_iincR (v := v51) (lo2 := [some (.ref 137), some (.int (Int32.ofInt v1)), some (.int (Int32.ofInt (v51 + 1))), none, none]) rfl rfl rfl (Nat.le_of_ble_eq_true rfl) rfl ?_
          refine mz_gt (tgt := 27) rfl rfl ?_
          exact ih53 ((6 - (v51 + 1)).toNat) (by omega) (v51 + 1) g61 rfl (by omega) (by omega) hIg61 (fun k j hk => ((hug61.2 k j (fun h => hk (Or.inr (Or.inr (Or.inr h.1))))).trans ((hfg60 k j (fun h => hk (Or.inr (Or.inr (Or.inl h))))).trans ((hug58.2 k j (fun h => hk (Or.inr (Or.inl h)))).trans ((hfg57 k j (fun h => hk (Or.inl h))).trans (hfg52 k j (fun h => hk (Or.elim h (fun h => (Or.inl h)) (fun h => (Or.elim h (fun h => (Or.inr (Or.inl h))) (fun h => (Or.elim h (fun h => (Or.inr (Or.inr (Or.inl h)))) (fun h => (Or.inr (Or.inr (Or.inr h))))))))))))))))
      exact L55 _ 0 g50 rfl (by decide) (by decide) hIg50 (fun _ _ _ => rfl)
  exact L6 _ 0 none g rfl (by decide) (by decide) mz_nl_n hI (fun _ _ _ => rfl)
def fw_X12_coupleOf (x : mm_X) (a1 : Int) : Nat → Nat → Prop := fun k j => k = 157 ∨ (k = 137 ∧ j = 36) ∨ k = 158 ∨ (k = 137 ∧ j = 37) ∨ k = 159 ∨ k = 164 ∨ k = 165
theorem c_X12_coupleOf {d : Nat} (hd : 14 ≤ d) {x : mm_X} (hx : mk_x x) {g : mz_G} (hI : mz_inv g) {a1 : Int} (l_a1 : 0 ≤ a1) (u_a1 : a1 ≤ 5) {Q : (Option Value ⊕ Nat) → mm_H → Prop} (hQ : ∀ (r : Int) (g1 : mz_G), mz_inv g1 → mz_fr (fw_X12_coupleOf x a1) g g1 → (-1) ≤ r → r ≤ 5 → Q (.inl (some (.int (Int32.ofInt r)))) (mz_mk g1 x)) : mm_C d 276 [.ref 137, .int (Int32.ofInt a1)] (mz_mk g x) Q := by
  refine ⟨mmX12_coupleOf, [some (.ref 137), some (.int (Int32.ofInt a1)), none, none, none, none, none], rfl, rfl, ?_⟩
  refine mm_g 1 (pc1 := 1) (lo1 := [some (.ref 137), some (.int (Int32.ofInt a1)), none, none, none, none, none]) (st1 := [.ref 137]) (H1 := mz_mk g x) rfl ?_
  refine mz_cv rfl mt_12_470 (by decide) (sc_137 _) rfl (Nat.le_of_ble_eq_true rfl) (by omega) (c_X12_tellCouples (by omega) hx hI (fun g1 hIg1 hfg1 => ⟨_, rfl, ?_⟩))
  show mm_W d mmX12_coupleOf 4 [some (.ref 137), some (.int (Int32.ofInt a1)), none, none, none, none, none] [] (mz_mk g1 x) Q
  refine mm_g 2 (pc1 := 6) (lo1 := [some (.ref 137), some (.int (Int32.ofInt a1)), none, none, none, none, none]) (st1 := [.ref 137, .int (Int32.ofInt 1)]) (H1 := mz_mk g1 x) rfl ?_
  refine mz_fgR (v := 140) rfl fd_12_36 (by decide) (sc_137 _) (rf_137_3 _ _ _) ?_
  refine mm_g 1 (pc1 := 10) (lo1 := [some (.ref 137), some (.int (Int32.ofInt a1)), none, none, none, none, none]) (st1 := [.int (Int32.ofInt 1), .ref 140, .int (Int32.ofInt 1)]) (H1 := mz_mk g1 x) rfl ?_
  refine mz_aI rfl (sh_140 _) (by omega) (by omega) (by decide) hIg1 bt_140_1 (fun v2 e_v2 l_v2 u_v2 => ?_)
  have e_v2 : g1 140 1 = v2 := e_v2
  refine mz_ishl rfl (fun v3 e_v3 hwv3 => ?_)
  have b_v3 : 1 ≤ v3 ∧ v3 ≤ 64 := by rw [e_v3]; exact mz_shl_b (lx := 1) (hx := 1) (k := 6) (by decide) (by decide) (by omega) (by omega) (by omega) (by omega)
  have l_v3 := b_v3.1
  have u_v3 := b_v3.2
  refine mm_g 1 (pc1 := 13) (lo1 := [some (.ref 137), some (.int (Int32.ofInt a1)), none, none, none, none, none]) (st1 := [.int (Int32.ofInt 1), .int (Int32.ofInt v3)]) (H1 := mz_mk g1 x) rfl ?_
  refine mz_isub rfl ?_
  refine mm_g 1 (pc1 := 15) (lo1 := [some (.ref 137), some (.int (Int32.ofInt a1)), some (.int (Int32.ofInt (v3 - 1))), none, none, none, none]) (st1 := []) (H1 := mz_mk g1 x) rfl ?_
  have L12 : ∀ n11 : Nat, ∀ (v4 : Int) (o5 : Option Value) (o6 : Option Value) (o7 : Option Value) (o8 : Option Value), (v4).toNat = n11 → 0 ≤ v4 → v4 ≤ 63 → mz_nl o5 → mz_nl o6 → mz_nl o7 → mz_nl o8 → mm_W d mmX12_coupleOf 15 [some (.ref 137), some (.int (Int32.ofInt a1)), some (.int (Int32.ofInt v4)), o5, o6, o7, o8] [] (mz_mk g1 x) Q := by
    intro n11
    induction n11 using Nat.strongRecOn with
    | ind n11 ih10 =>
    intro v4 o5 o6 o7 o8 hmn11 l_v4 u_v4 h_o5 h_o6 h_o7 h_o8
    refine mm_g 1 (pc1 := 16) (lo1 := [some (.ref 137), some (.int (Int32.ofInt a1)), some (.int (Int32.ofInt v4)), o5, o6, o7, o8]) (st1 := [.int (Int32.ofInt v4)]) (H1 := mz_mk g1 x) rfl ?_
    refine mz_if_eq (tgt := 159) rfl rfl (mz_rg l_v4 u_v4) (fun c16_12 => ?_) (fun c16_12 => ?_)
    · skip
      refine mm_g 1 (pc1 := 160) (lo1 := [some (.ref 137), some (.int (Int32.ofInt a1)), some (.int (Int32.ofInt v4)), o5, o6, o7, o8]) (st1 := [.int (Int32.ofInt (-1))]) (H1 := mz_mk g1 x) rfl ?_
      exact mm_rt rfl rfl (hQ _ _ hIg1 (fun k j hk => (hfg1 k j (fun h => hk (Or.elim h (fun h => (Or.inl h)) (fun h => (Or.elim h (fun h => (Or.inr (Or.inl h))) (fun h => (Or.elim h (fun h => (Or.inr (Or.inr (Or.inl h)))) (fun h => (Or.elim h (fun h => (Or.inr (Or.inr (Or.inr (Or.inl h))))) (fun h => (Or.elim h (fun h => (Or.inr (Or.inr (Or.inr (Or.inr (Or.inl h)))))) (fun h => (Or.elim h (fun h => (Or.inr (Or.inr (Or.inr (Or.inr (Or.inr (Or.inl h))))))) (fun h => (Or.inr (Or.inr (Or.inr (Or.inr (Or.inr (Or.inr h))))))))))))))))))))) (by decide) (by decide))
    · skip
      refine mm_g 2 (pc1 := 21) (lo1 := [some (.ref 137), some (.int (Int32.ofInt a1)), some (.int (Int32.ofInt v4)), some (.int (Int32.ofInt 0)), o6, o7, o8]) (st1 := []) (H1 := mz_mk g1 x) rfl ?_
      have L17 : ∀ n16 : Nat, ∀ (v13 : Int), (6 - v13).toNat = n16 → 0 ≤ v13 → v13 ≤ 6 → (∀ i_ : Int, 0 ≤ i_ → i_ < v13 → mz_bit v4 i_ = 0) → mm_W d mmX12_coupleOf 21 [some (.ref 137), some (.int (Int32.ofInt a1)), some (.int (Int32.ofInt v4)), some (.int (Int32.ofInt v13)), o6, o7, o8] [] (mz_mk g1 x) Q := by
        intro n16
        induction n16 using Nat.strongRecOn with
        | ind n16 ih15 =>
        intro v13 hmn16 l_v13 u_v13 hv18
        have hb_v13 := hv18
        have ht_v13 : v13 ≤ 5 := mz_bit_ex (by omega) (by omega) (by omega) hb_v13
        refine mm_g 2 (pc1 := 23) (lo1 := [some (.ref 137), some (.int (Int32.ofInt a1)), some (.int (Int32.ofInt v4)), some (.int (Int32.ofInt v13)), o6, o7, o8]) (st1 := [.int (Int32.ofInt v13), .int (Int32.ofInt v4)]) (H1 := mz_mk g1 x) rfl ?_
        refine mz_cs rfl mt_12_450 (by decide) rfl (Nat.le_of_ble_eq_true rfl) (by omega) (c_X12_isOf (by omega) hx hIg1 (by omega) (by omega) (by omega) (by omega) (fun v19 l_v19 u_v19 hp20 => ⟨_, rfl, ?_⟩))
        show mm_W d mmX12_coupleOf 26 [some (.ref 137), some (.int (Int32.ofInt a1)), some (.int (Int32.ofInt v4)), some (.int (Int32.ofInt v13)), o6, o7, o8] [.int (Int32.ofInt v19)] (mz_mk g1 x) Q
        refine mz_if_ne (tgt := 35) rfl rfl (mz_rg l_v19 u_v19) (fun c26_20 => ?_) (fun c26_20 => ?_)
        · skip
          refine mm_g 3 (pc1 := 38) (lo1 := [some (.ref 137), some (.int (Int32.ofInt a1)), some (.int (Int32.ofInt v4)), some (.int (Int32.ofInt v13)), o6, o7, o8]) (st1 := [.int (Int32.ofInt v13), .int (Int32.ofInt 1), .int (Int32.ofInt v4)]) (H1 := mz_mk g1 x) rfl ?_
          refine mz_ishl rfl (fun v21 e_v21 hwv21 => ?_)
          have b_v21 : 1 ≤ v21 ∧ v21 ≤ 32 := by rw [e_v21]; exact mz_shl_b (lx := 1) (hx := 1) (k := 5) (by decide) (by decide) (by omega) (by omega) (by omega) (by omega)
          have l_v21 := b_v21.1
          have u_v21 := b_v21.2
          refine mm_g 1 (pc1 := 40) (lo1 := [some (.ref 137), some (.int (Int32.ofInt a1)), some (.int (Int32.ofInt v4)), some (.int (Int32.ofInt v13)), o6, o7, o8]) (st1 := [.int (Int32.ofInt (-1)), .int (Int32.ofInt v21), .int (Int32.ofInt v4)]) (H1 := mz_mk g1 x) rfl ?_
          refine mz_ixor rfl (fun v22 e_v22 hwv22 => ?_)
          have l_v22 := hwv22.1
          have u_v22 := hwv22.2
          refine mz_iand rfl (fun v23 e_v23 hwv23 => ?_)
          have b_v23 : 0 ≤ v23 ∧ v23 ≤ 63 := by rw [e_v23]; exact mz_and_l (by omega) (by omega) (mz_rg l_v22 u_v22)
          have l_v23 := b_v23.1
          have u_v23 := b_v23.2
          have w_v23 : v23 ≤ v4 := by rw [e_v23]; exact (mz_and_l (hi := v4) (by omega) (Int.le_refl _) (mz_rg l_v22 u_v22) (by omega)).2
          have hc_v23 : v23 < v4 := mz_clr e_v21 e_v22 e_v23 (by omega) (by omega) (by omega) (by omega) (by rw [← hp20 (by omega) (by omega) (by omega)]; omega)
          refine mm_g 4 (pc1 := 48) (lo1 := [some (.ref 137), some (.int (Int32.ofInt a1)), some (.int (Int32.ofInt v4)), some (.int (Int32.ofInt v13)), some (.int (Int32.ofInt v23)), some (.int (Int32.ofInt (-1))), o8]) (st1 := [.ref 137]) (H1 := mz_mk g1 x) rfl ?_
          refine mz_fgR (v := 140) rfl fd_12_36 (by decide) (sc_137 _) (rf_137_3 _ _ _) ?_
          refine mm_g 1 (pc1 := 52) (lo1 := [some (.ref 137), some (.int (Int32.ofInt a1)), some (.int (Int32.ofInt v4)), some (.int (Int32.ofInt v13)), some (.int (Int32.ofInt v23)), some (.int (Int32.ofInt (-1))), o8]) (st1 := [.int (Int32.ofInt 1), .ref 140]) (H1 := mz_mk g1 x) rfl ?_
          refine mz_ia (v := v2) rfl (sh_140 _) (by decide) (by decide) (by decide) e_v2 ?_
          refine mm_g 1 (pc1 := 54) (lo1 := [some (.ref 137), some (.int (Int32.ofInt a1)), some (.int (Int32.ofInt v4)), some (.int (Int32.ofInt v13)), some (.int (Int32.ofInt v23)), some (.int (Int32.ofInt (-1))), o8]) (st1 := [.int (Int32.ofInt 1), .int (Int32.ofInt v2)]) (H1 := mz_mk g1 x) rfl ?_
          refine mz_isub rfl ?_
          refine mm_g 1 (pc1 := 57) (lo1 := [some (.ref 137), some (.int (Int32.ofInt a1)), some (.int (Int32.ofInt v4)), some (.int (Int32.ofInt v13)), some (.int (Int32.ofInt v23)), some (.int (Int32.ofInt (-1))), some (.int (Int32.ofInt (v2 - 1)))]) (st1 := []) (H1 := mz_mk g1 x) rfl ?_
          have L29 : ∀ n28 : Nat, ∀ (v24 : Int) (v25 : Int), (v25 - 0).toNat = n28 → (-1) ≤ v24 → v24 ≤ 5 → (-1) ≤ v25 → v25 ≤ 5 → mm_W d mmX12_coupleOf 57 [some (.ref 137), some (.int (Int32.ofInt a1)), some (.int (Int32.ofInt v4)), some (.int (Int32.ofInt v13)), some (.int (Int32.ofInt v23)), some (.int (Int32.ofInt v24)), some (.int (Int32.ofInt v25))] [] (mz_mk g1 x) Q := by
            intro n28
            induction n28 using Nat.strongRecOn with
            | ind n28 ih27 =>
            intro v24 v25 hmn28 l_v24 u_v24 l_v25 u_v25
            refine mm_g 2 (pc1 := 60) (lo1 := [some (.ref 137), some (.int (Int32.ofInt a1)), some (.int (Int32.ofInt v4)), some (.int (Int32.ofInt v13)), some (.int (Int32.ofInt v23)), some (.int (Int32.ofInt v24)), some (.int (Int32.ofInt v25))]) (st1 := [.int (Int32.ofInt v13), .int (Int32.ofInt v25)]) (H1 := mz_mk g1 x) rfl ?_
            refine mz_ic_le (tgt := 119) rfl rfl (mz_rg l_v25 u_v25) (mz_rg l_v13 u_v13) (fun c60_29 => ?_) (fun c60_29 => ?_)
            · skip
              refine mm_g 2 (pc1 := 121) (lo1 := [some (.ref 137), some (.int (Int32.ofInt a1)), some (.int (Int32.ofInt v4)), some (.int (Int32.ofInt v13)), some (.int (Int32.ofInt v23)), some (.int (Int32.ofInt v24)), some (.int (Int32.ofInt v25))]) (st1 := [.int (Int32.ofInt a1), .int (Int32.ofInt v13)]) (H1 := mz_mk g1 x) rfl ?_
              refine mz_ic_ne (tgt := 127) rfl rfl (mz_rg l_v13 u_v13) (mz_rg l_a1 u_a1) (fun c121_29 => ?_) (fun c121_29 => ?_)
              · skip
                refine mm_g 2 (pc1 := 130) (lo1 := [some (.ref 137), some (.int (Int32.ofInt a1)), some (.int (Int32.ofInt v4)), some (.int (Int32.ofInt v13)), some (.int (Int32.ofInt v23)), some (.int (Int32.ofInt v24)), some (.int (Int32.ofInt v25))]) (st1 := [.int (Int32.ofInt a1), .int (Int32.ofInt v24)]) (H1 := mz_mk g1 x) rfl ?_
                refine mz_ic_ne (tgt := 135) rfl rfl (mz_rg l_v24 u_v24) (mz_rg l_a1 u_a1) (fun c130_29 => ?_) (fun c130_29 => ?_)
                · skip
                  refine mm_g 2 (pc1 := 138) (lo1 := [some (.ref 137), some (.int (Int32.ofInt a1)), some (.int (Int32.ofInt v4)), some (.int (Int32.ofInt v13)), some (.int (Int32.ofInt v23)), some (.int (Int32.ofInt v24)), some (.int (Int32.ofInt v25))]) (st1 := [.int (Int32.ofInt (-1)), .int (Int32.ofInt v24)]) (H1 := mz_mk g1 x) rfl ?_
                  refine mz_ic_ne (tgt := 146) rfl rfl (mz_rg l_v24 u_v24) ⟨by decide, by decide⟩ (fun c138_29 => ?_) (fun c138_29 => ?_)
                  · skip
                    refine mm_g 3 (pc1 := 151) (lo1 := [some (.ref 137), some (.int (Int32.ofInt a1)), some (.int (Int32.ofInt v4)), some (.int (Int32.ofInt v13)), some (.int (Int32.ofInt v23)), some (.int (Int32.ofInt v24)), some (.int (Int32.ofInt v25))]) (st1 := [.int (Int32.ofInt v24), .int (Int32.ofInt 1), .int (Int32.ofInt v23)]) (H1 := mz_mk g1 x) rfl ?_
                    refine mz_ishl rfl (fun v30 e_v30 hwv30 => ?_)
                    have b_v30 : 1 ≤ v30 ∧ v30 ≤ 32 := by rw [e_v30]; exact mz_shl_b (lx := 1) (hx := 1) (k := 5) (by decide) (by decide) (by omega) (by omega) (by omega) (by omega)
                    have l_v30 := b_v30.1
                    have u_v30 := b_v30.2
                    refine mm_g 1 (pc1 := 153) (lo1 := [some (.ref 137), some (.int (Int32.ofInt a1)), some (.int (Int32.ofInt v4)), some (.int (Int32.ofInt v13)), some (.int (Int32.ofInt v23)), some (.int (Int32.ofInt v24)), some (.int (Int32.ofInt v25))]) (st1 := [.int (Int32.ofInt (-1)), .int (Int32.ofInt v30), .int (Int32.ofInt v23)]) (H1 := mz_mk g1 x) rfl ?_
                    refine mz_ixor rfl (fun v31 e_v31 hwv31 => ?_)
                    have l_v31 := hwv31.1
                    have u_v31 := hwv31.2
                    refine mz_iand rfl (fun v32 e_v32 hwv32 => ?_)
                    have b_v32 : 0 ≤ v32 ∧ v32 ≤ 62 := by rw [e_v32]; exact mz_and_l (by omega) (by omega) (mz_rg l_v31 u_v31)
                    have l_v32 := b_v32.1
                    have u_v32 := b_v32.2
                    have w_v32 : v32 ≤ v23 := by rw [e_v32]; exact (mz_and_l (hi := v23) (by omega) (Int.le_refl _) (mz_rg l_v31 u_v31) (by omega)).2
                    refine mm_g 1 (pc1 := 156) (lo1 := [some (.ref 137), some (.int (Int32.ofInt a1)), some (.int (Int32.ofInt v32)), some (.int (Int32.ofInt v13)), some (.int (Int32.ofInt v23)), some (.int (Int32.ofInt v24)), some (.int (Int32.ofInt v25))]) (st1 := []) (H1 := mz_mk g1 x) rfl ?_
                    refine mz_gt (tgt := 15) rfl rfl ?_
                    exact ih10 ((v32).toNat) (by omega) v32 (some (.int (Int32.ofInt v13))) (some (.int (Int32.ofInt v23))) (some (.int (Int32.ofInt v24))) (some (.int (Int32.ofInt v25))) rfl (by omega) (by omega) (mz_nl_i _) (mz_nl_i _) (mz_nl_i _) (mz_nl_i _)
                  · skip
                    refine mm_g 1 (pc1 := 143) (lo1 := [some (.ref 137), some (.int (Int32.ofInt a1)), some (.int (Int32.ofInt v4)), some (.int (Int32.ofInt v13)), some (.int (Int32.ofInt v23)), some (.int (Int32.ofInt v24)), some (.int (Int32.ofInt v25))]) (st1 := [.int (Int32.ofInt v23)]) (H1 := mz_mk g1 x) rfl ?_
                    refine mz_gt (tgt := 155) rfl rfl ?_
                    refine mm_g 1 (pc1 := 156) (lo1 := [some (.ref 137), some (.int (Int32.ofInt a1)), some (.int (Int32.ofInt v23)), some (.int (Int32.ofInt v13)), some (.int (Int32.ofInt v23)), some (.int (Int32.ofInt v24)), some (.int (Int32.ofInt v25))]) (st1 := []) (H1 := mz_mk g1 x) rfl ?_
                    refine mz_gt (tgt := 15) rfl rfl ?_
                    exact ih10 ((v23).toNat) (by omega) v23 (some (.int (Int32.ofInt v13))) (some (.int (Int32.ofInt v23))) (some (.int (Int32.ofInt v24))) (some (.int (Int32.ofInt v25))) rfl (by omega) (by omega) (mz_nl_i _) (mz_nl_i _) (mz_nl_i _) (mz_nl_i _)
                · skip
                  refine mm_g 1 (pc1 := 134) (lo1 := [some (.ref 137), some (.int (Int32.ofInt a1)), some (.int (Int32.ofInt v4)), some (.int (Int32.ofInt v13)), some (.int (Int32.ofInt v23)), some (.int (Int32.ofInt v24)), some (.int (Int32.ofInt v25))]) (st1 := [.int (Int32.ofInt v13)]) (H1 := mz_mk g1 x) rfl ?_
                  exact mm_rt rfl rfl (hQ _ _ hIg1 (fun k j hk => (hfg1 k j (fun h => hk (Or.elim h (fun h => (Or.inl h)) (fun h => (Or.elim h (fun h => (Or.inr (Or.inl h))) (fun h => (Or.elim h (fun h => (Or.inr (Or.inr (Or.inl h)))) (fun h => (Or.elim h (fun h => (Or.inr (Or.inr (Or.inr (Or.inl h))))) (fun h => (Or.elim h (fun h => (Or.inr (Or.inr (Or.inr (Or.inr (Or.inl h)))))) (fun h => (Or.elim h (fun h => (Or.inr (Or.inr (Or.inr (Or.inr (Or.inr (Or.inl h))))))) (fun h => (Or.inr (Or.inr (Or.inr (Or.inr (Or.inr (Or.inr h))))))))))))))))))))) (by omega) (by omega))
              · skip
                refine mm_g 1 (pc1 := 126) (lo1 := [some (.ref 137), some (.int (Int32.ofInt a1)), some (.int (Int32.ofInt v4)), some (.int (Int32.ofInt v13)), some (.int (Int32.ofInt v23)), some (.int (Int32.ofInt v24)), some (.int (Int32.ofInt v25))]) (st1 := [.int (Int32.ofInt v24)]) (H1 := mz_mk g1 x) rfl ?_
                exact mm_rt rfl rfl (hQ _ _ hIg1 (fun k j hk => (hfg1 k j (fun h => hk (Or.elim h (fun h => (Or.inl h)) (fun h => (Or.elim h (fun h => (Or.inr (Or.inl h))) (fun h => (Or.elim h (fun h => (Or.inr (Or.inr (Or.inl h)))) (fun h => (Or.elim h (fun h => (Or.inr (Or.inr (Or.inr (Or.inl h))))) (fun h => (Or.elim h (fun h => (Or.inr (Or.inr (Or.inr (Or.inr (Or.inl h)))))) (fun h => (Or.elim h (fun h => (Or.inr (Or.inr (Or.inr (Or.inr (Or.inr (Or.inl h))))))) (fun h => (Or.inr (Or.inr (Or.inr (Or.inr (Or.inr (Or.inr h))))))))))))))))))))) (by omega) (by omega))
            · skip
              refine mm_g 2 (pc1 := 67) (lo1 := [some (.ref 137), some (.int (Int32.ofInt a1)), some (.int (Int32.ofInt v4)), some (.int (Int32.ofInt v13)), some (.int (Int32.ofInt v23)), some (.int (Int32.ofInt v24)), some (.int (Int32.ofInt v25))]) (st1 := [.int (Int32.ofInt v25), .int (Int32.ofInt v23)]) (H1 := mz_mk g1 x) rfl ?_
              refine mz_cs rfl mt_12_450 (by decide) rfl (Nat.le_of_ble_eq_true rfl) (by omega) (c_X12_isOf (by omega) hx hIg1 (by omega) (by omega) (by omega) (by omega) (fun v33 l_v33 u_v33 hp34 => ⟨_, rfl, ?_⟩))
              show mm_W d mmX12_coupleOf 70 [some (.ref 137), some (.int (Int32.ofInt a1)), some (.int (Int32.ofInt v4)), some (.int (Int32.ofInt v13)), some (.int (Int32.ofInt v23)), some (.int (Int32.ofInt v24)), some (.int (Int32.ofInt v25))] [.int (Int32.ofInt v33)] (mz_mk g1 x) Q
              refine mz_if_eq (tgt := 113) rfl rfl (mz_rg l_v33 u_v33) (fun c70_34 => ?_) (fun c70_34 => ?_)
              · skip
                refine mz_iincR (v := v25) (lo2 := [some (.ref 137), some (.int (Int32.ofInt a1)), some (.int (Int32.ofInt v4)), some (.int (Int32.ofInt v13)), some (.int (Int32.ofInt v23)), some (.int (Int32.ofInt v24)), some (.int (Int32.ofInt (v25 + (-1))))]) rfl rfl rfl (Nat.le_of_ble_eq_true rfl) rfl ?_
                refine mz_gt (tgt := 57) rfl rfl ?_
                exact ih27 (((v25 + (-1)) - 0).toNat) (by omega) v24 (v25 + (-1)) rfl (by omega) (by omega) (by omega) (by omega)
              · skip
                refine mm_g 1 (pc1 := 74) (lo1 := [some (.ref 137), some (.int (Int32.ofInt a1)), some (.int (Int32.ofInt v4)), some (.int (Int32.ofInt v13)), some (.int (Int32.ofInt v23)), some (.int (Int32.ofInt v24)), some (.int (Int32.ofInt v25))]) (st1 := [.ref 137]) (H1 := mz_mk g1 x) rfl ?_
                refine mz_fgR (v := 164) rfl fd_12_109 (by decide) (sc_137 _) (rf_137_42 _ _ _) ?_
                refine mz_bip rfl bip_6 ?_
                refine mm_g 1 (pc1 := 80) (lo1 := [some (.ref 137), some (.int (Int32.ofInt a1)), some (.int (Int32.ofInt v4)), some (.int (Int32.ofInt v13)), some (.int (Int32.ofInt v23)), some (.int (Int32.ofInt v24)), some (.int (Int32.ofInt v25))]) (st1 := [.int (Int32.ofInt v13), .int (Int32.ofInt 6), .ref 164]) (H1 := mz_mk g1 x) rfl ?_
                refine mz_imul rfl ?_
                refine mm_g 1 (pc1 := 83) (lo1 := [some (.ref 137), some (.int (Int32.ofInt a1)), some (.int (Int32.ofInt v4)), some (.int (Int32.ofInt v13)), some (.int (Int32.ofInt v23)), some (.int (Int32.ofInt v24)), some (.int (Int32.ofInt v25))]) (st1 := [.int (Int32.ofInt v25), .int (Int32.ofInt (6 * v13)), .ref 164]) (H1 := mz_mk g1 x) rfl ?_
                refine mz_iadd rfl ?_
                refine mz_aI rfl (sh_164 _) (by omega) (by omega) (by decide) hIg1 (ba_164 _) (fun v35 e_v35 l_v35 u_v35 => ?_)
                refine mm_g 1 (pc1 := 86) (lo1 := [some (.ref 137), some (.int (Int32.ofInt a1)), some (.int (Int32.ofInt v4)), some (.int (Int32.ofInt v13)), some (.int (Int32.ofInt v23)), some (.int (Int32.ofInt v24)), some (.int (Int32.ofInt v25))]) (st1 := [.ref 137, .int (Int32.ofInt v35)]) (H1 := mz_mk g1 x) rfl ?_
                refine mz_fgR (v := 165) rfl fd_12_112 (by decide) (sc_137 _) (rf_137_43 _ _ _) ?_
                refine mm_g 3 (pc1 := 94) (lo1 := [some (.ref 137), some (.int (Int32.ofInt a1)), some (.int (Int32.ofInt v4)), some (.int (Int32.ofInt v13)), some (.int (Int32.ofInt v23)), some (.int (Int32.ofInt v24)), some (.int (Int32.ofInt v25))]) (st1 := [.int (Int32.ofInt v25), .int (Int32.ofInt 1), .int (Int32.ofInt v23), .ref 165, .int (Int32.ofInt v35)]) (H1 := mz_mk g1 x) rfl ?_
                refine mz_ishl rfl (fun v36 e_v36 hwv36 => ?_)
                have b_v36 : 1 ≤ v36 ∧ v36 ≤ 32 := by rw [e_v36]; exact mz_shl_b (lx := 1) (hx := 1) (k := 5) (by decide) (by decide) (by omega) (by omega) (by omega) (by omega)
                have l_v36 := b_v36.1
                have u_v36 := b_v36.2
                refine mm_g 1 (pc1 := 96) (lo1 := [some (.ref 137), some (.int (Int32.ofInt a1)), some (.int (Int32.ofInt v4)), some (.int (Int32.ofInt v13)), some (.int (Int32.ofInt v23)), some (.int (Int32.ofInt v24)), some (.int (Int32.ofInt v25))]) (st1 := [.int (Int32.ofInt (-1)), .int (Int32.ofInt v36), .int (Int32.ofInt v23), .ref 165, .int (Int32.ofInt v35)]) (H1 := mz_mk g1 x) rfl ?_
                refine mz_ixor rfl (fun v37 e_v37 hwv37 => ?_)
                have l_v37 := hwv37.1
                have u_v37 := hwv37.2
                refine mz_iand rfl (fun v38 e_v38 hwv38 => ?_)
                have b_v38 : 0 ≤ v38 ∧ v38 ≤ 62 := by rw [e_v38]; exact mz_and_l (by omega) (by omega) (mz_rg l_v37 u_v37)
                have l_v38 := b_v38.1
                have u_v38 := b_v38.2
                have w_v38 : v38 ≤ v23 := by rw [e_v38]; exact (mz_and_l (hi := v23) (by omega) (Int.le_refl _) (mz_rg l_v37 u_v37) (by omega)).2
                refine mz_aI rfl (sh_165 _) (by omega) (by omega) (by decide) hIg1 (ba_165 _) (fun v39 e_v39 l_v39 u_v39 => ?_)
                refine mz_iadd_w rfl (fun v40 _ hwv40 => ?_)
                have l_v40 := hwv40.1
                have u_v40 := hwv40.2
                refine mm_g 1 (pc1 := 101) (lo1 := [some (.ref 137), some (.int (Int32.ofInt a1)), some (.int (Int32.ofInt v4)), some (.int (Int32.ofInt v13)), some (.int (Int32.ofInt v23)), some (.int (Int32.ofInt v24)), some (.int (Int32.ofInt v25))]) (st1 := [.ref 137, .int (Int32.ofInt v40)]) (H1 := mz_mk g1 x) rfl ?_
                refine mz_fgR (v := 165) rfl fd_12_112 (by decide) (sc_137 _) (rf_137_43 _ _ _) ?_
                refine mm_g 1 (pc1 := 105) (lo1 := [some (.ref 137), some (.int (Int32.ofInt a1)), some (.int (Int32.ofInt v4)), some (.int (Int32.ofInt v13)), some (.int (Int32.ofInt v23)), some (.int (Int32.ofInt v24)), some (.int (Int32.ofInt v25))]) (st1 := [.int (Int32.ofInt v4), .ref 165, .int (Int32.ofInt v40)]) (H1 := mz_mk g1 x) rfl ?_
                refine mz_aI rfl (sh_165 _) (by omega) (by omega) (by decide) hIg1 (ba_165 _) (fun v41 e_v41 l_v41 u_v41 => ?_)
                refine mz_ic_ne (tgt := 113) rfl rfl (mz_rg l_v40 u_v40) (mz_rg l_v41 u_v41) (fun c106_41 => ?_) (fun c106_41 => ?_)
                · skip
                  refine mz_iincR (v := v25) (lo2 := [some (.ref 137), some (.int (Int32.ofInt a1)), some (.int (Int32.ofInt v4)), some (.int (Int32.ofInt v13)), some (.int (Int32.ofInt v23)), some (.int (Int32.ofInt v24)), some (.int (Int32.ofInt (v25 + (-1))))]) rfl rfl rfl (Nat.le_of_ble_eq_true rfl) rfl ?_
                  refine mz_gt (tgt := 57) rfl rfl ?_
                  exact ih27 (((v25 + (-1)) - 0).toNat) (by omega) v24 (v25 + (-1)) rfl (by omega) (by omega) (by omega) (by omega)
                · skip
                  refine mm_g 2 (pc1 := 113) (lo1 := [some (.ref 137), some (.int (Int32.ofInt a1)), some (.int (Int32.ofInt v4)), some (.int (Int32.ofInt v13)), some (.int (Int32.ofInt v23)), some (.int (Int32.ofInt v25)), some (.int (Int32.ofInt v25))]) (st1 := []) (H1 := mz_mk g1 x) rfl ?_
                  refine mz_iincR (v := v25) (lo2 := [some (.ref 137), some (.int (Int32.ofInt a1)), some (.int (Int32.ofInt v4)), some (.int (Int32.ofInt v13)), some (.int (Int32.ofInt v23)), some (.int (Int32.ofInt v25)), some (.int (Int32.ofInt (v25 + (-1))))]) rfl rfl rfl (Nat.le_of_ble_eq_true rfl) rfl ?_
                  refine mz_gt (tgt := 57) rfl rfl ?_
                  exact ih27 (((v25 + (-1)) - 0).toNat) (by omega) v25 (v25 + (-1)) rfl (by omega) (by omega) (by omega) (by omega)
          exact L29 _ (-1) (v2 - 1) rfl (by decide) (by decide) (by omega) (by omega)
        · skip
          refine mz_iincR (v := v13) (lo2 := [some (.ref 137), some (.int (Int32.ofInt a1)), some (.int (Int32.ofInt v4)), some (.int (Int32.ofInt (v13 + 1))), o6, o7, o8]) rfl rfl rfl (Nat.le_of_ble_eq_true rfl) rfl ?_
          refine mz_gt (tgt := 21) rfl rfl ?_
          exact ih15 ((6 - (v13 + 1)).toNat) (by omega) (v13 + 1) rfl (by omega) (by omega) (by intro i_ h0 h1; rcases (by omega : i_ < v13 ∨ i_ = v13) with h2 | h2; exact hb_v13 i_ h0 h2; rw [h2, ← hp20 (by omega) (by omega) (by omega)]; omega)
      exact L17 _ 0 rfl (by decide) (by decide) (by intro i_ h0 h1; omega)
  exact L12 _ (v3 - 1) none none none none rfl (by omega) (by omega) mz_nl_n mz_nl_n mz_nl_n mz_nl_n
def fw_X12_trunk (x : mm_X) (a1 : Int) (a2 : Int) : Nat → Nat → Prop := fun k j => (k = 137 ∧ j = 2) ∨ k = 157 ∨ (k = 137 ∧ j = 36) ∨ k = 158 ∨ (k = 137 ∧ j = 37) ∨ k = 159 ∨ k = 164 ∨ k = 165
theorem c_X12_trunk {d : Nat} (hd : 15 ≤ d) {x : mm_X} (hx : mk_x x) {g : mz_G} (hI : mz_inv g) {a1 : Int} (l_a1 : (-2147483648) ≤ a1) (u_a1 : a1 ≤ 2147483647) {a2 : Int} (l_a2 : (-2147483648) ≤ a2) (u_a2 : a2 ≤ 2147483647) (p1 : mz_pv g) (p2 : g 137 30 ≤ 999) {Q : (Option Value ⊕ Nat) → mm_H → Prop} (hQ : ∀ (r : Int) (g1 : mz_G), mz_inv g1 → mz_fr (fw_X12_trunk x a1 a2) g g1 → (-2147483648) ≤ r → r ≤ 2147483647 → (g1 137 30 ≤ 999) → Q (.inl (some (.int (Int32.ofInt r)))) (mz_mk g1 x)) : mm_C d 245 [.ref 137, .int (Int32.ofInt a1), .int (Int32.ofInt a2)] (mz_mk g x) Q := by
  refine ⟨mmX12_trunk, [some (.ref 137), some (.int (Int32.ofInt a1)), some (.int (Int32.ofInt a2))], rfl, rfl, ?_⟩
  have bz0 := mz_rd hI bd_137_30
  have hpv := p1
  refine mm_g 2 (pc1 := 2) (lo1 := [some (.ref 137), some (.int (Int32.ofInt a1)), some (.int (Int32.ofInt a2))]) (st1 := [.int (Int32.ofInt 0), .ref 137]) (H1 := mz_mk g x) rfl ?_
  refine mz_pI rfl fd_12_154 (sc_137 _) hI bd_137_2 (by omega) (by omega) (fun g1 hIg1 hug1 => ?_)
  refine mm_g 2 (pc1 := 7) (lo1 := [some (.ref 137), some (.int (Int32.ofInt a1)), some (.int (Int32.ofInt a2))]) (st1 := [.int (Int32.ofInt a1), .ref 137]) (H1 := mz_mk g1 x) rfl ?_
  refine mz_cv rfl mt_12_391 (by decide) (sc_137 _) rfl (Nat.le_of_ble_eq_true rfl) (by omega) (c_X12_isTrunk (by omega) hx hIg1 l_a1 u_a1 (fun v2 l_v2 u_v2 hp3 hp4 => ⟨_, rfl, ?_⟩))
  show mm_W d mmX12_trunk 10 [some (.ref 137), some (.int (Int32.ofInt a1)), some (.int (Int32.ofInt a2))] [.int (Int32.ofInt v2)] (mz_mk g1 x) Q
  refine mz_if_ne (tgt := 19) rfl rfl (mz_rg l_v2 u_v2) (fun c10_4 => ?_) (fun c10_4 => ?_)
  · skip
    refine mm_g 1 (pc1 := 20) (lo1 := [some (.ref 137), some (.int (Int32.ofInt a1)), some (.int (Int32.ofInt a2))]) (st1 := [.int (Int32.ofInt a2)]) (H1 := mz_mk g1 x) rfl ?_
    by_cases c20_0 : a2 = 0
    · refine mz_tsi (tgt := 68) rfl (mz_rg l_a2 u_a2) (by omega) (by omega) (by rw [c20_0]; rfl) rfl ?_
      refine mm_g 1 (pc1 := 69) (lo1 := [some (.ref 137), some (.int (Int32.ofInt a1)), some (.int (Int32.ofInt a2))]) (st1 := [.ref 137]) (H1 := mz_mk g1 x) rfl ?_
      refine mz_fgR (v := 153) rfl fd_12_78 (by decide) (sc_137 _) (rf_137_26 _ _ _) ?_
      refine mm_g 1 (pc1 := 73) (lo1 := [some (.ref 137), some (.int (Int32.ofInt a1)), some (.int (Int32.ofInt a2))]) (st1 := [.int (Int32.ofInt a1), .ref 153]) (H1 := mz_mk g1 x) rfl ?_
      refine mz_aI rfl (sh_153 _) (by omega) (by omega) (by decide) hIg1 (ba_153 _) (fun v5 e_v5 l_v5 u_v5 => ?_)
      exact mm_rt rfl rfl (hQ _ _ hIg1 (fun k j hk => (hug1.2 k j (fun h => hk (Or.inl h)))) (by omega) (by omega) (by have h9 := (show g1 137 30 = (g 137 30) from ((hug1.2 137 30 (fun h => absurd h.2 (by decide))).trans rfl)); omega))
    by_cases c20_1 : a2 = 1
    · refine mz_tsi (tgt := 75) rfl (mz_rg l_a2 u_a2) (by omega) (by omega) (by rw [c20_1]; rfl) rfl ?_
      refine mm_g 1 (pc1 := 76) (lo1 := [some (.ref 137), some (.int (Int32.ofInt a1)), some (.int (Int32.ofInt a2))]) (st1 := [.ref 137]) (H1 := mz_mk g1 x) rfl ?_
      refine mz_fgR (v := 154) rfl fd_12_80 (by decide) (sc_137 _) (rf_137_27 _ _ _) ?_
      refine mm_g 1 (pc1 := 80) (lo1 := [some (.ref 137), some (.int (Int32.ofInt a1)), some (.int (Int32.ofInt a2))]) (st1 := [.int (Int32.ofInt a1), .ref 154]) (H1 := mz_mk g1 x) rfl ?_
      refine mz_aI rfl (sh_154 _) (by omega) (by omega) (by decide) hIg1 (ba_154 _) (fun v6 e_v6 l_v6 u_v6 => ?_)
      exact mm_rt rfl rfl (hQ _ _ hIg1 (fun k j hk => (hug1.2 k j (fun h => hk (Or.inl h)))) (by omega) (by omega) (by have h9 := (show g1 137 30 = (g 137 30) from ((hug1.2 137 30 (fun h => absurd h.2 (by decide))).trans rfl)); omega))
    by_cases c20_2 : a2 = 2
    · refine mz_tsi (tgt := 82) rfl (mz_rg l_a2 u_a2) (by omega) (by omega) (by rw [c20_2]; rfl) rfl ?_
      refine mm_g 1 (pc1 := 83) (lo1 := [some (.ref 137), some (.int (Int32.ofInt a1)), some (.int (Int32.ofInt a2))]) (st1 := [.ref 137]) (H1 := mz_mk g1 x) rfl ?_
      refine mz_fgR (v := 155) rfl fd_12_82 (by decide) (sc_137 _) (rf_137_28 _ _ _) ?_
      refine mm_g 1 (pc1 := 87) (lo1 := [some (.ref 137), some (.int (Int32.ofInt a1)), some (.int (Int32.ofInt a2))]) (st1 := [.int (Int32.ofInt a1), .ref 155]) (H1 := mz_mk g1 x) rfl ?_
      refine mz_aI rfl (sh_155 _) (by omega) (by omega) (by decide) hIg1 (ba_155 _) (fun v7 e_v7 l_v7 u_v7 => ?_)
      exact mm_rt rfl rfl (hQ _ _ hIg1 (fun k j hk => (hug1.2 k j (fun h => hk (Or.inl h)))) (by omega) (by omega) (by have h9 := (show g1 137 30 = (g 137 30) from ((hug1.2 137 30 (fun h => absurd h.2 (by decide))).trans rfl)); omega))
    by_cases c20_3 : a2 = 3
    · refine mz_tsi (tgt := 89) rfl (mz_rg l_a2 u_a2) (by omega) (by omega) (by rw [c20_3]; rfl) rfl ?_
      refine mm_g 1 (pc1 := 90) (lo1 := [some (.ref 137), some (.int (Int32.ofInt a1)), some (.int (Int32.ofInt a2))]) (st1 := [.ref 137]) (H1 := mz_mk g1 x) rfl ?_
      refine mz_fgR (v := 152) rfl fd_12_76 (by decide) (sc_137 _) (rf_137_25 _ _ _) ?_
      refine mm_g 1 (pc1 := 94) (lo1 := [some (.ref 137), some (.int (Int32.ofInt a1)), some (.int (Int32.ofInt a2))]) (st1 := [.int (Int32.ofInt a1), .ref 152]) (H1 := mz_mk g1 x) rfl ?_
      refine mz_aI rfl (sh_152 _) (by omega) (by omega) (by decide) hIg1 (ba_152 _) (fun v8 e_v8 l_v8 u_v8 => ?_)
      exact mm_rt rfl rfl (hQ _ _ hIg1 (fun k j hk => (hug1.2 k j (fun h => hk (Or.inl h)))) (by omega) (by omega) (by have h9 := (show g1 137 30 = (g 137 30) from ((hug1.2 137 30 (fun h => absurd h.2 (by decide))).trans rfl)); omega))
    by_cases c20_4 : a2 = 4
    · refine mz_tsi (tgt := 96) rfl (mz_rg l_a2 u_a2) (by omega) (by omega) (by rw [c20_4]; rfl) rfl ?_
      refine mm_g 2 (pc1 := 98) (lo1 := [some (.ref 137), some (.int (Int32.ofInt a1)), some (.int (Int32.ofInt a2))]) (st1 := [.int (Int32.ofInt a1), .ref 137]) (H1 := mz_mk g1 x) rfl ?_
      refine mz_cv rfl mt_12_347 (by decide) (sc_137 _) rfl (Nat.le_of_ble_eq_true rfl) (by omega) (c_X12_fullOf (by omega) hx hIg1 (by omega) (by omega) (fun v9 l_v9 u_v9 => ⟨_, rfl, ?_⟩))
      show mm_W d mmX12_trunk 101 [some (.ref 137), some (.int (Int32.ofInt a1)), some (.int (Int32.ofInt a2))] [.int (Int32.ofInt v9)] (mz_mk g1 x) Q
      exact mm_rt rfl rfl (hQ _ _ hIg1 (fun k j hk => (hug1.2 k j (fun h => hk (Or.inl h)))) (by omega) (by omega) (by have h9 := (show g1 137 30 = (g 137 30) from ((hug1.2 137 30 (fun h => absurd h.2 (by decide))).trans rfl)); omega))
    by_cases c20_5 : a2 = 5
    · refine mz_tsi (tgt := 102) rfl (mz_rg l_a2 u_a2) (by omega) (by omega) (by rw [c20_5]; rfl) rfl ?_
      refine mm_g 2 (pc1 := 104) (lo1 := [some (.ref 137), some (.int (Int32.ofInt a1)), some (.int (Int32.ofInt a2))]) (st1 := [.int (Int32.ofInt a1), .ref 137]) (H1 := mz_mk g1 x) rfl ?_
      refine mz_cv rfl mt_12_368 (by decide) (sc_137 _) rfl (Nat.le_of_ble_eq_true rfl) (by omega) (c_X12_blendSize (by omega) hx hIg1 (by omega) (by omega) (fun v10 l_v10 u_v10 => ⟨_, rfl, ?_⟩))
      show mm_W d mmX12_trunk 107 [some (.ref 137), some (.int (Int32.ofInt a1)), some (.int (Int32.ofInt a2))] [.int (Int32.ofInt v10)] (mz_mk g1 x) Q
      exact mm_rt rfl rfl (hQ _ _ hIg1 (fun k j hk => (hug1.2 k j (fun h => hk (Or.inl h)))) (by omega) (by omega) (by have h9 := (show g1 137 30 = (g 137 30) from ((hug1.2 137 30 (fun h => absurd h.2 (by decide))).trans rfl)); omega))
    by_cases c20_6 : a2 = 6
    · refine mz_tsi (tgt := 108) rfl (mz_rg l_a2 u_a2) (by omega) (by omega) (by rw [c20_6]; rfl) rfl ?_
      refine mm_g 1 (pc1 := 109) (lo1 := [some (.ref 137), some (.int (Int32.ofInt a1)), some (.int (Int32.ofInt a2))]) (st1 := [.ref 137]) (H1 := mz_mk g1 x) rfl ?_
      refine mz_fgR (v := 144) rfl fd_12_49 (by decide) (sc_137 _) (rf_137_7 _ _ _) ?_
      refine mm_g 1 (pc1 := 113) (lo1 := [some (.ref 137), some (.int (Int32.ofInt a1)), some (.int (Int32.ofInt a2))]) (st1 := [.int (Int32.ofInt a1), .ref 144]) (H1 := mz_mk g1 x) rfl ?_
      refine mz_aI rfl (sh_144 _) (by omega) (by omega) (by decide) hIg1 (ba_144 _) (fun v11 e_v11 l_v11 u_v11 => ?_)
      exact mm_rt rfl rfl (hQ _ _ hIg1 (fun k j hk => (hug1.2 k j (fun h => hk (Or.inl h)))) (by omega) (by omega) (by have h9 := (show g1 137 30 = (g 137 30) from ((hug1.2 137 30 (fun h => absurd h.2 (by decide))).trans rfl)); omega))
    by_cases c20_7 : a2 = 7
    · refine mz_tsi (tgt := 115) rfl (mz_rg l_a2 u_a2) (by omega) (by omega) (by rw [c20_7]; rfl) rfl ?_
      refine mm_g 2 (pc1 := 117) (lo1 := [some (.ref 137), some (.int (Int32.ofInt a1)), some (.int (Int32.ofInt a2))]) (st1 := [.int (Int32.ofInt a1), .ref 137]) (H1 := mz_mk g1 x) rfl ?_
      refine mz_cv rfl mt_12_394 (by decide) (sc_137 _) rfl (Nat.le_of_ble_eq_true rfl) (by omega) (c_X12_coupleOf (by omega) hx hIg1 (by omega) (by omega) (fun v12 g13 hIg13 hfg13 l_v12 u_v12 => ⟨_, rfl, ?_⟩))
      show mm_W d mmX12_trunk 120 [some (.ref 137), some (.int (Int32.ofInt a1)), some (.int (Int32.ofInt a2))] [.int (Int32.ofInt v12)] (mz_mk g13 x) Q
      exact mm_rt rfl rfl (hQ _ _ hIg13 (fun k j hk => ((hfg13 k j (fun h => hk (Or.elim h (fun h => (Or.inr (Or.inl h))) (fun h => (Or.elim h (fun h => (Or.inr (Or.inr (Or.inl h)))) (fun h => (Or.elim h (fun h => (Or.inr (Or.inr (Or.inr (Or.inl h))))) (fun h => (Or.elim h (fun h => (Or.inr (Or.inr (Or.inr (Or.inr (Or.inl h)))))) (fun h => (Or.elim h (fun h => (Or.inr (Or.inr (Or.inr (Or.inr (Or.inr (Or.inl h))))))) (fun h => (Or.elim h (fun h => (Or.inr (Or.inr (Or.inr (Or.inr (Or.inr (Or.inr (Or.inl h)))))))) (fun h => (Or.inr (Or.inr (Or.inr (Or.inr (Or.inr (Or.inr (Or.inr h))))))))))))))))))))).trans (hug1.2 k j (fun h => hk (Or.inl h))))) (by omega) (by omega) (by have h9 := (show g13 137 30 = (g 137 30) from ((hfg13 137 30 (fun h => (Or.elim h (fun h => (absurd (show 137 = 157 from h) (by decide))) (fun h => (Or.elim h (fun h => (absurd (show (137 = 137 ∧ 30 = 36) from h) (by decide))) (fun h => (Or.elim h (fun h => (absurd (show 137 = 158 from h) (by decide))) (fun h => (Or.elim h (fun h => (absurd (show (137 = 137 ∧ 30 = 37) from h) (by decide))) (fun h => (Or.elim h (fun h => (absurd (show 137 = 159 from h) (by decide))) (fun h => (Or.elim h (fun h => (absurd (show 137 = 164 from h) (by decide))) (fun h => (absurd (show 137 = 165 from h) (by decide)))))))))))))))).trans ((hug1.2 137 30 (fun h => absurd h.2 (by decide))).trans rfl))); omega))
    refine mz_tso (tgt := 121) rfl (mz_rg l_a2 u_a2) (by omega) rfl ?_
    refine mm_g 2 (pc1 := 123) (lo1 := [some (.ref 137), some (.int (Int32.ofInt a1)), some (.int (Int32.ofInt a2))]) (st1 := [.int (Int32.ofInt 1), .ref 137]) (H1 := mz_mk g1 x) rfl ?_
    refine mz_cv rfl mt_12_294 (by decide) (sc_137 _) rfl (Nat.le_of_ble_eq_true rfl) (by omega) (c_X12_fail (by omega) hx hIg1 (by decide) (by decide) (fun v14 g15 hIg15 hfg15 l_v14 u_v14 => ⟨_, rfl, ?_⟩))
    show mm_W d mmX12_trunk 126 [some (.ref 137), some (.int (Int32.ofInt a1)), some (.int (Int32.ofInt a2))] [.int (Int32.ofInt v14)] (mz_mk g15 x) Q
    exact mm_rt rfl rfl (hQ _ _ hIg15 (fun k j hk => ((hfg15 k j (fun h => hk (Or.inl h))).trans (hug1.2 k j (fun h => hk (Or.inl h))))) (by omega) (by omega) (by have h9 := (show g15 137 30 = (g 137 30) from ((hfg15 137 30 (fun h => (absurd (show (137 = 137 ∧ 30 = 2) from h) (by decide)))).trans ((hug1.2 137 30 (fun h => absurd h.2 (by decide))).trans rfl))); omega))
  · skip
    refine mm_g 2 (pc1 := 15) (lo1 := [some (.ref 137), some (.int (Int32.ofInt a1)), some (.int (Int32.ofInt a2))]) (st1 := [.int (Int32.ofInt 1), .ref 137]) (H1 := mz_mk g1 x) rfl ?_
    refine mz_cv rfl mt_12_294 (by decide) (sc_137 _) rfl (Nat.le_of_ble_eq_true rfl) (by omega) (c_X12_fail (by omega) hx hIg1 (by decide) (by decide) (fun v16 g17 hIg17 hfg17 l_v16 u_v16 => ⟨_, rfl, ?_⟩))
    show mm_W d mmX12_trunk 18 [some (.ref 137), some (.int (Int32.ofInt a1)), some (.int (Int32.ofInt a2))] [.int (Int32.ofInt v16)] (mz_mk g17 x) Q
    exact mm_rt rfl rfl (hQ _ _ hIg17 (fun k j hk => ((hfg17 k j (fun h => hk (Or.inl h))).trans (hug1.2 k j (fun h => hk (Or.inl h))))) (by omega) (by omega) (by have h9 := (show g17 137 30 = (g 137 30) from ((hfg17 137 30 (fun h => (absurd (show (137 = 137 ∧ 30 = 2) from h) (by decide)))).trans ((hug1.2 137 30 (fun h => absurd h.2 (by decide))).trans rfl))); omega))
def fw_X12_refuse (x : mm_X) (a1 : Int) : Nat → Nat → Prop := fun k j => k = 150
theorem c_X12_refuse {d : Nat} (hd : 1 ≤ d) {x : mm_X} (hx : mk_x x) {g : mz_G} (hI : mz_inv g) {a1 : Int} (l_a1 : 0 ≤ a1) (u_a1 : a1 ≤ 2) {Q : (Option Value ⊕ Nat) → mm_H → Prop} (hQ : ∀ (r : Int) (g1 : mz_G), mz_inv g1 → mz_fr (fw_X12_refuse x a1) g g1 → (-1) ≤ r → r ≤ (-1) → Q (.inl (some (.int (Int32.ofInt r)))) (mz_mk g1 x)) : mm_C d 246 [.ref 137, .int (Int32.ofInt a1)] (mz_mk g x) Q := by
  refine ⟨mmX12_refuse, [some (.ref 137), some (.int (Int32.ofInt a1))], rfl, rfl, ?_⟩
  refine mm_g 1 (pc1 := 1) (lo1 := [some (.ref 137), some (.int (Int32.ofInt a1))]) (st1 := [.ref 137]) (H1 := mz_mk g x) rfl ?_
  refine mz_fgR (v := 150) rfl fd_12_66 (by decide) (sc_137 _) (rf_137_13 _ _ _) ?_
  refine mm_g 2 (pc1 := 6) (lo1 := [some (.ref 137), some (.int (Int32.ofInt a1))]) (st1 := [.int (Int32.ofInt a1), .ref 150, .int (Int32.ofInt a1), .ref 150]) (H1 := mz_mk g x) rfl ?_
  refine mz_aI rfl (sh_150 _) (by omega) (by omega) (by decide) hI (ba_150 _) (fun v1 e_v1 l_v1 u_v1 => ?_)
  refine mm_g 1 (pc1 := 8) (lo1 := [some (.ref 137), some (.int (Int32.ofInt a1))]) (st1 := [.int (Int32.ofInt 1), .int (Int32.ofInt v1), .int (Int32.ofInt a1), .ref 150]) (H1 := mz_mk g x) rfl ?_
  refine mz_iadd_w rfl (fun v2 _ hwv2 => ?_)
  have l_v2 := hwv2.1
  have u_v2 := hwv2.2
  refine mz_sI rfl (sh_150 _) (by omega) (by omega) (by decide) hI (ba_150 _) (by omega) (by omega) (fun g3 hIg3 hug3 => ?_)
  refine mm_g 1 (pc1 := 11) (lo1 := [some (.ref 137), some (.int (Int32.ofInt a1))]) (st1 := [.int (Int32.ofInt (-1))]) (H1 := mz_mk g3 x) rfl ?_
  exact mm_rt rfl rfl (hQ _ _ hIg3 (fun k j hk => (hug3.2 k j (fun h => hk h.1))) (by decide) (by decide))
def fl_X12_keep_12 (x : mm_X) : Nat → Nat → Prop := fun k j => k = 156
def fw_X12_keep (x : mm_X) : Nat → Nat → Prop := fun k j => k = 156 ∨ (k = 137 ∧ j = 31)
theorem c_X12_keep {d : Nat} (hd : 2 ≤ d) {x : mm_X} (hx : mk_x x) {g : mz_G} (hI : mz_inv g) (p1 : g 137 30 ≤ 999) {Q : (Option Value ⊕ Nat) → mm_H → Prop} (hQ : ∀ (g1 : mz_G), mz_inv g1 → mz_fr (fw_X12_keep x) g g1 → Q (.inl none) (mz_mk g1 x)) : mm_C d 247 [.ref 137] (mz_mk g x) Q := by
  refine ⟨mmX12_keep, [some (.ref 137), none], rfl, rfl, ?_⟩
  have bz0 := mz_rd hI bd_137_30
  refine mm_g 1 (pc1 := 1) (lo1 := [some (.ref 137), none]) (st1 := [.ref 137]) (H1 := mz_mk g x) rfl ?_
  refine mz_gI rfl fd_12_310 (by decide) (sc_137 _) hI bd_137_31 (fun v1 e_v1 l_v1 u_v1 => ?_)
  refine mz_bip rfl bip_40 ?_
  refine mz_ic_ne (tgt := 52) rfl rfl (mz_rg l_v1 u_v1) ⟨by decide, by decide⟩ (fun c6_1 => ?_) (fun c6_1 => ?_)
  · skip
    refine mm_g 2 (pc1 := 54) (lo1 := [some (.ref 137), none]) (st1 := [.ref 137, .ref 137]) (H1 := mz_mk g x) rfl ?_
    refine mz_fgR (v := 156) rfl fd_12_85 (by decide) (sc_137 _) (rf_137_29 _ _ _) ?_
    refine mz_bip rfl bip_25 ?_
    refine mm_g 1 (pc1 := 60) (lo1 := [some (.ref 137), none]) (st1 := [.ref 137, .int (Int32.ofInt 25), .ref 156, .ref 137]) (H1 := mz_mk g x) rfl ?_
    refine mz_fgI (v := v1) rfl fd_12_310 (by decide) (sc_137 _) e_v1 ?_
    refine mz_imul rfl ?_
    refine mz_cv rfl mt_12_397 (by decide) (sc_137 _) rfl (Nat.le_of_ble_eq_true rfl) (by omega) (c_X12_store (by omega) hx hI rwp_156 (by omega) (by omega) (by omega) (by omega) (by have h9 := (show g 137 30 = (g 137 30) from rfl); omega) (fun g2 hIg2 hfg2 => ⟨_, rfl, ?_⟩))
    show mm_W d mmX12_keep 67 [some (.ref 137), none] [] (mz_mk g2 x) Q
    refine mm_g 2 (pc1 := 69) (lo1 := [some (.ref 137), none]) (st1 := [.ref 137, .ref 137]) (H1 := mz_mk g2 x) rfl ?_
    refine mz_fgI (v := v1) rfl fd_12_310 (by decide) (sc_137 _) (show g2 137 31 = v1 from ((hfg2 137 31 (fun h => (absurd (show 137 = 156 from h) (by decide)))).trans e_v1)) ?_
    refine mm_g 1 (pc1 := 73) (lo1 := [some (.ref 137), none]) (st1 := [.int (Int32.ofInt 1), .int (Int32.ofInt v1), .ref 137]) (H1 := mz_mk g2 x) rfl ?_
    refine mz_iadd rfl ?_
    refine mz_pI rfl fd_12_310 (sc_137 _) hIg2 bd_137_31 (by omega) (by omega) (fun g3 hIg3 hug3 => ?_)
    exact mm_rt rfl rfl (hQ _ hIg3 (fun k j hk => ((hug3.2 k j (fun h => hk (Or.inr h))).trans (hfg2 k j (fun h => hk (Or.inl h))))))
  · skip
    refine mz_bip rfl bip_25 ?_
    refine mm_g 1 (pc1 := 12) (lo1 := [some (.ref 137), some (.int (Int32.ofInt 25))]) (st1 := []) (H1 := mz_mk g x) rfl ?_
    have L8 : ∀ n7 : Nat, ∀ (v4 : Int) (g5 : mz_G), (1000 - v4).toNat = n7 → 25 ≤ v4 → v4 ≤ 1000 → mz_inv g5 → mz_fr (fl_X12_keep_12 x) g g5 → mm_W d mmX12_keep 12 [some (.ref 137), some (.int (Int32.ofInt v4))] [] (mz_mk g5 x) Q := by
      intro n7
      induction n7 using Nat.strongRecOn with
      | ind n7 ih6 =>
      intro v4 g5 hmn7 l_v4 u_v4 hIg5 hfg5
      refine mm_g 2 (pc1 := 14) (lo1 := [some (.ref 137), some (.int (Int32.ofInt v4))]) (st1 := [.ref 137, .int (Int32.ofInt v4)]) (H1 := mz_mk g5 x) rfl ?_
      refine mz_fgR (v := 156) rfl fd_12_85 (by decide) (sc_137 _) (rf_137_29 _ _ _) ?_
      refine mz_al rfl (sh_156 _) (by decide) ?_
      refine mz_ic_ge (tgt := 42) rfl rfl (mz_rg l_v4 u_v4) ⟨by omega, by omega⟩ (fun c18_8 => ?_) (fun c18_8 => ?_)
      · skip
        refine mm_g 2 (pc1 := 44) (lo1 := [some (.ref 137), some (.int (Int32.ofInt v4))]) (st1 := [.ref 137, .ref 137]) (H1 := mz_mk g5 x) rfl ?_
        refine mz_fgI (v := v1) rfl fd_12_310 (by decide) (sc_137 _) (show g5 137 31 = v1 from ((hfg5 137 31 (fun h => (absurd (show 137 = 156 from h) (by decide)))).trans e_v1)) ?_
        refine mm_g 1 (pc1 := 48) (lo1 := [some (.ref 137), some (.int (Int32.ofInt v4))]) (st1 := [.int (Int32.ofInt 1), .int (Int32.ofInt v1), .ref 137]) (H1 := mz_mk g5 x) rfl ?_
        refine mz_isub rfl ?_
        refine mz_pI rfl fd_12_310 (sc_137 _) hIg5 bd_137_31 (by omega) (by omega) (fun g9 hIg9 hug9 => ?_)
        refine mm_g 2 (pc1 := 54) (lo1 := [some (.ref 137), some (.int (Int32.ofInt v4))]) (st1 := [.ref 137, .ref 137]) (H1 := mz_mk g9 x) rfl ?_
        refine mz_fgR (v := 156) rfl fd_12_85 (by decide) (sc_137 _) (rf_137_29 _ _ _) ?_
        refine mz_bip rfl bip_25 ?_
        refine mm_g 1 (pc1 := 60) (lo1 := [some (.ref 137), some (.int (Int32.ofInt v4))]) (st1 := [.ref 137, .int (Int32.ofInt 25), .ref 156, .ref 137]) (H1 := mz_mk g9 x) rfl ?_
        refine mz_fgI (v := (v1 - 1)) rfl fd_12_310 (by decide) (sc_137 _) (show g9 137 31 = (v1 - 1) from hug9.1) ?_
        refine mz_imul rfl ?_
        refine mz_cv rfl mt_12_397 (by decide) (sc_137 _) rfl (Nat.le_of_ble_eq_true rfl) (by omega) (c_X12_store (by omega) hx hIg9 rwp_156 (by omega) (by omega) (by omega) (by omega) (by have h9 := (show g9 137 30 = (g 137 30) from ((hug9.2 137 30 (fun h => absurd h.2 (by decide))).trans ((hfg5 137 30 (fun h => (absurd (show 137 = 156 from h) (by decide)))).trans rfl))); omega) (fun g10 hIg10 hfg10 => ⟨_, rfl, ?_⟩))
        show mm_W d mmX12_keep 67 [some (.ref 137), some (.int (Int32.ofInt v4))] [] (mz_mk g10 x) Q
        refine mm_g 2 (pc1 := 69) (lo1 := [some (.ref 137), some (.int (Int32.ofInt v4))]) (st1 := [.ref 137, .ref 137]) (H1 := mz_mk g10 x) rfl ?_
        refine mz_fgI (v := (v1 - 1)) rfl fd_12_310 (by decide) (sc_137 _) (show g10 137 31 = (v1 - 1) from ((hfg10 137 31 (fun h => (absurd (show 137 = 156 from h) (by decide)))).trans hug9.1)) ?_
        refine mm_g 1 (pc1 := 73) (lo1 := [some (.ref 137), some (.int (Int32.ofInt v4))]) (st1 := [.int (Int32.ofInt 1), .int (Int32.ofInt (v1 - 1)), .ref 137]) (H1 := mz_mk g10 x) rfl ?_
        refine mz_iadd rfl ?_
        refine mz_pI rfl fd_12_310 (sc_137 _) hIg10 bd_137_31 (by omega) (by omega) (fun g11 hIg11 hug11 => ?_)
        exact mm_rt rfl rfl (hQ _ hIg11 (fun k j hk => ((hug11.2 k j (fun h => hk (Or.inr h))).trans ((hfg10 k j (fun h => hk (Or.inl h))).trans ((hug9.2 k j (fun h => hk (Or.inr h))).trans (hfg5 k j (fun h => hk (Or.inl h))))))))
      · skip
        refine mm_g 1 (pc1 := 22) (lo1 := [some (.ref 137), some (.int (Int32.ofInt v4))]) (st1 := [.ref 137]) (H1 := mz_mk g5 x) rfl ?_
        refine mz_fgR (v := 156) rfl fd_12_85 (by decide) (sc_137 _) (rf_137_29 _ _ _) ?_
        refine mm_g 1 (pc1 := 26) (lo1 := [some (.ref 137), some (.int (Int32.ofInt v4))]) (st1 := [.int (Int32.ofInt v4), .ref 156]) (H1 := mz_mk g5 x) rfl ?_
        refine mz_bip rfl bip_25 ?_
        refine mz_isub rfl ?_
        refine mm_g 1 (pc1 := 30) (lo1 := [some (.ref 137), some (.int (Int32.ofInt v4))]) (st1 := [.ref 137, .int (Int32.ofInt (v4 - 25)), .ref 156]) (H1 := mz_mk g5 x) rfl ?_
        refine mz_fgR (v := 156) rfl fd_12_85 (by decide) (sc_137 _) (rf_137_29 _ _ _) ?_
        refine mm_g 1 (pc1 := 34) (lo1 := [some (.ref 137), some (.int (Int32.ofInt v4))]) (st1 := [.int (Int32.ofInt v4), .ref 156, .int (Int32.ofInt (v4 - 25)), .ref 156]) (H1 := mz_mk g5 x) rfl ?_
        refine mz_aI rfl (sh_156 _) (by omega) (by omega) (by decide) hIg5 (Prod.eta _).symm (fun v12 e_v12 l_v12 u_v12 => ?_)
        refine mz_sI rfl (sh_156 _) (by omega) (by omega) (by decide) hIg5 ((rwk (by omega)).trans (Prod.eta _).symm) (by omega) (by omega) (fun g13 hIg13 hug13 => ?_)
        refine mz_iincR (v := v4) (lo2 := [some (.ref 137), some (.int (Int32.ofInt (v4 + 1)))]) rfl rfl rfl (Nat.le_of_ble_eq_true rfl) rfl ?_
        refine mz_gt (tgt := 12) rfl rfl ?_
        exact ih6 ((1000 - (v4 + 1)).toNat) (by omega) (v4 + 1) g13 rfl (by omega) (by omega) hIg13 (fun k j hk => ((hug13.2 k j (fun h => hk h.1)).trans (hfg5 k j (fun h => hk h))))
    exact L8 _ 25 g rfl (by decide) (by decide) hI (fun _ _ _ => rfl)
def fw_X12_days (x : mm_X) (a1 : Int) : Nat → Nat → Prop := fun k j => (k = 137 ∧ j = 2) ∨ k = 150 ∨ k = 156 ∨ (k = 137 ∧ j = 31) ∨ (k = 160 ∧ j = 0) ∨ (k = 160 ∧ j = 1) ∨ (k = 160 ∧ j = 2) ∨ (k = 160 ∧ j = 3) ∨ (k = 160 ∧ j = 4) ∨ (k = 160 ∧ j = 5) ∨ (k = 160 ∧ j = 6) ∨ k = 161 ∨ k = 152 ∨ (k = 137 ∧ j = 30)
theorem c_X12_days {d : Nat} (hd : 16 ≤ d) {x : mm_X} (hx : mk_x x) {g : mz_G} (hI : mz_inv g) {a1 : Int} (l_a1 : (-2147483648) ≤ a1) (u_a1 : a1 ≤ 2147483647) (p1 : mz_pv g) (p2 : g 137 30 ≤ 999) {Q : (Option Value ⊕ Nat) → mm_H → Prop} (hQ : ∀ (r : Int) (g1 : mz_G), mz_inv g1 → mz_fr (fw_X12_days x a1) g g1 → (-1) ≤ r → r ≤ 1018 → (g1 137 30 ≤ 999) → Q (.inl (some (.int (Int32.ofInt r)))) (mz_mk g1 x)) : mm_C d 248 [.ref 137, .int (Int32.ofInt a1)] (mz_mk g x) Q := by
  refine ⟨mmX12_days, [some (.ref 137), some (.int (Int32.ofInt a1))], rfl, rfl, ?_⟩
  have bz0 := mz_rd hI bd_137_30
  have hpv := p1
  refine mm_g 2 (pc1 := 2) (lo1 := [some (.ref 137), some (.int (Int32.ofInt a1))]) (st1 := [.int (Int32.ofInt 0), .ref 137]) (H1 := mz_mk g x) rfl ?_
  refine mz_pI rfl fd_12_154 (sc_137 _) hI bd_137_2 (by omega) (by omega) (fun g1 hIg1 hug1 => ?_)
  refine mm_g 1 (pc1 := 6) (lo1 := [some (.ref 137), some (.int (Int32.ofInt a1))]) (st1 := [.int (Int32.ofInt a1)]) (H1 := mz_mk g1 x) rfl ?_
  refine mz_i2l rfl (mz_rg l_a1 u_a1) ?_
  refine mz_lcst (c := 1) rfl rfl ?_
  refine mz_l2w (c := 20) rfl rfl rfl ?_
  refine mz_cs rfl mt_12_157 (by decide) rfl (Nat.le_of_ble_eq_true rfl) (by omega) (c_X12_isIn (by omega) hx hIg1 (by omega) (by omega) (by omega) (by omega) (by omega) (by omega) (fun v2 l_v2 u_v2 hp3 => ⟨_, rfl, ?_⟩))
  show mm_W d mmX12_days 14 [some (.ref 137), some (.int (Int32.ofInt a1))] [.int (Int32.ofInt v2)] (mz_mk g1 x) Q
  refine mz_if_eq (tgt := 29) rfl rfl (mz_rg l_v2 u_v2) (fun c14_3 => ?_) (fun c14_3 => ?_)
  · skip
    refine mm_g 2 (pc1 := 31) (lo1 := [some (.ref 137), some (.int (Int32.ofInt a1))]) (st1 := [.int (Int32.ofInt 1), .ref 137]) (H1 := mz_mk g1 x) rfl ?_
    refine mz_cv rfl mt_12_403 (by decide) (sc_137 _) rfl (Nat.le_of_ble_eq_true rfl) (by omega) (c_X12_refuse (by omega) hx hIg1 (by decide) (by decide) (fun v4 g5 hIg5 hfg5 l_v4 u_v4 => ⟨_, rfl, ?_⟩))
    show mm_W d mmX12_days 34 [some (.ref 137), some (.int (Int32.ofInt a1))] [.int (Int32.ofInt v4)] (mz_mk g5 x) Q
    exact mm_rt rfl rfl (hQ _ _ hIg5 (fun k j hk => ((hfg5 k j (fun h => hk (Or.inr (Or.inl h)))).trans (hug1.2 k j (fun h => hk (Or.inl h))))) (by omega) (by omega) (by have h9 := (show g5 137 30 = (g 137 30) from ((hfg5 137 30 (fun h => (absurd (show 137 = 150 from h) (by decide)))).trans ((hug1.2 137 30 (fun h => absurd h.2 (by decide))).trans rfl))); omega))
  · skip
    refine mm_g 1 (pc1 := 18) (lo1 := [some (.ref 137), some (.int (Int32.ofInt a1))]) (st1 := [.ref 137]) (H1 := mz_mk g1 x) rfl ?_
    refine mz_fgI (v := (g 137 30)) rfl fd_12_307 (by decide) (sc_137 _) (show g1 137 30 = (g 137 30) from ((hug1.2 137 30 (fun h => absurd h.2 (by decide))).trans rfl)) ?_
    refine mm_g 1 (pc1 := 22) (lo1 := [some (.ref 137), some (.int (Int32.ofInt a1))]) (st1 := [.int (Int32.ofInt a1), .int (Int32.ofInt (g 137 30))]) (H1 := mz_mk g1 x) rfl ?_
    refine mz_iadd rfl ?_
    refine mz_sip rfl sip_999 ?_
    refine mz_ic_le (tgt := 35) rfl rfl ⟨by omega, by omega⟩ ⟨by decide, by decide⟩ (fun c26_5 => ?_) (fun c26_5 => ?_)
    · skip
      refine mm_g 1 (pc1 := 36) (lo1 := [some (.ref 137), some (.int (Int32.ofInt a1))]) (st1 := [.ref 137]) (H1 := mz_mk g1 x) rfl ?_
      refine mz_cv rfl mt_12_406 (by decide) (sc_137 _) rfl (Nat.le_of_ble_eq_true rfl) (by omega) (c_X12_keep (by omega) hx hIg1 (by have h9 := (show g1 137 30 = (g 137 30) from ((hug1.2 137 30 (fun h => absurd h.2 (by decide))).trans rfl)); omega) (fun g6 hIg6 hfg6 => ⟨_, rfl, ?_⟩))
      show mm_W d mmX12_days 39 [some (.ref 137), some (.int (Int32.ofInt a1))] [] (mz_mk g6 x) Q
      refine mm_g 2 (pc1 := 41) (lo1 := [some (.ref 137), some (.int (Int32.ofInt a1))]) (st1 := [.int (Int32.ofInt a1), .ref 137]) (H1 := mz_mk g6 x) rfl ?_
      have hq7 : g6 137 30 = (g 137 30) := (show g6 137 30 = (g 137 30) from ((hfg6 137 30 (fun h => (Or.elim h (fun h => (absurd (show 137 = 156 from h) (by decide))) (fun h => (absurd (show (137 = 137 ∧ 30 = 31) from h) (by decide)))))).trans ((hug1.2 137 30 (fun h => absurd h.2 (by decide))).trans rfl)))
      refine mz_cv rfl mt_12_409 (by decide) (sc_137 _) rfl (Nat.le_of_ble_eq_true rfl) (by omega) (c_X12_goOn (by omega) hx hIg6 (by omega) (by omega) (mz_pv_fr hpv (fun _j => ((hfg6 149 _j (fun h => (Or.elim h (fun h => (absurd (show 149 = 156 from h) (by decide))) (fun h => (absurd (show 149 = 137 from (h).1) (by decide)))))).trans ((hug1.2 149 _j (fun h => absurd h.1 (by decide))).trans rfl))) ((hfg6 140 3 (fun h => (Or.elim h (fun h => (absurd (show 140 = 156 from h) (by decide))) (fun h => (absurd (show 140 = 137 from (h).1) (by decide)))))).trans ((hug1.2 140 3 (fun h => absurd h.1 (by decide))).trans rfl))) (by have h9 := (show g6 137 30 = (g 137 30) from ((hfg6 137 30 (fun h => (Or.elim h (fun h => (absurd (show 137 = 156 from h) (by decide))) (fun h => (absurd (show (137 = 137 ∧ 30 = 31) from h) (by decide)))))).trans ((hug1.2 137 30 (fun h => absurd h.2 (by decide))).trans rfl))); omega) (fun g8 hIg8 hfg8 hp9 => ⟨_, rfl, ?_⟩))
      show mm_W d mmX12_days 44 [some (.ref 137), some (.int (Int32.ofInt a1))] [] (mz_mk g8 x) Q
      refine mm_g 1 (pc1 := 45) (lo1 := [some (.ref 137), some (.int (Int32.ofInt a1))]) (st1 := [.ref 137]) (H1 := mz_mk g8 x) rfl ?_
      refine mz_fgI (v := (g8 137 30)) rfl fd_12_307 (by decide) (sc_137 _) (show g8 137 30 = (g8 137 30) from rfl) ?_
      exact mm_rt rfl rfl (hQ _ _ hIg8 (fun k j hk => ((hfg8 k j (fun h => hk (Or.elim h (fun h => (Or.inr (Or.inr (Or.inr (Or.inr (Or.inl h)))))) (fun h => (Or.elim h (fun h => (Or.inr (Or.inr (Or.inr (Or.inr (Or.inr (Or.inl h))))))) (fun h => (Or.elim h (fun h => (Or.inr (Or.inr (Or.inr (Or.inr (Or.inr (Or.inr (Or.inl h)))))))) (fun h => (Or.elim h (fun h => (Or.inr (Or.inr (Or.inr (Or.inr (Or.inr (Or.inr (Or.inr (Or.inl h))))))))) (fun h => (Or.elim h (fun h => (Or.inr (Or.inr (Or.inr (Or.inr (Or.inr (Or.inr (Or.inr (Or.inr (Or.inl h)))))))))) (fun h => (Or.elim h (fun h => (Or.inr (Or.inr (Or.inr (Or.inr (Or.inr (Or.inr (Or.inr (Or.inr (Or.inr (Or.inl h))))))))))) (fun h => (Or.elim h (fun h => (Or.inr (Or.inr (Or.inr (Or.inr (Or.inr (Or.inr (Or.inr (Or.inr (Or.inr (Or.inr (Or.inl h)))))))))))) (fun h => (Or.elim h (fun h => (Or.inr (Or.inr (Or.inr (Or.inr (Or.inr (Or.inr (Or.inr (Or.inr (Or.inr (Or.inr (Or.inr (Or.inl h))))))))))))) (fun h => (Or.elim h (fun h => (Or.inr (Or.inr (Or.inr (Or.inr (Or.inr (Or.inr (Or.inr (Or.inr (Or.inr (Or.inr (Or.inr (Or.inr (Or.inl h)))))))))))))) (fun h => (Or.inr (Or.inr (Or.inr (Or.inr (Or.inr (Or.inr (Or.inr (Or.inr (Or.inr (Or.inr (Or.inr (Or.inr (Or.inr h))))))))))))))))))))))))))))))))).trans ((hfg6 k j (fun h => hk (Or.elim h (fun h => (Or.inr (Or.inr (Or.inl h)))) (fun h => (Or.inr (Or.inr (Or.inr (Or.inl h)))))))).trans (hug1.2 k j (fun h => hk (Or.inl h)))))) (by omega) (by omega) (by have h9 := (show g8 137 30 = (g8 137 30) from rfl); omega))
    · skip
      refine mm_g 2 (pc1 := 31) (lo1 := [some (.ref 137), some (.int (Int32.ofInt a1))]) (st1 := [.int (Int32.ofInt 1), .ref 137]) (H1 := mz_mk g1 x) rfl ?_
      refine mz_cv rfl mt_12_403 (by decide) (sc_137 _) rfl (Nat.le_of_ble_eq_true rfl) (by omega) (c_X12_refuse (by omega) hx hIg1 (by decide) (by decide) (fun v10 g11 hIg11 hfg11 l_v10 u_v10 => ⟨_, rfl, ?_⟩))
      show mm_W d mmX12_days 34 [some (.ref 137), some (.int (Int32.ofInt a1))] [.int (Int32.ofInt v10)] (mz_mk g11 x) Q
      exact mm_rt rfl rfl (hQ _ _ hIg11 (fun k j hk => ((hfg11 k j (fun h => hk (Or.inr (Or.inl h)))).trans (hug1.2 k j (fun h => hk (Or.inl h))))) (by omega) (by omega) (by have h9 := (show g11 137 30 = (g 137 30) from ((hfg11 137 30 (fun h => (absurd (show 137 = 150 from h) (by decide)))).trans ((hug1.2 137 30 (fun h => absurd h.2 (by decide))).trans rfl))); omega))
def fw_X12_draw (x : mm_X) (a1 : Int) (a2 : Int) : Nat → Nat → Prop := fun k j => (k = 137 ∧ j = 2) ∨ k = 150 ∨ k = 156 ∨ (k = 137 ∧ j = 31) ∨ k = 155
theorem c_X12_draw {d : Nat} (hd : 3 ≤ d) {x : mm_X} (hx : mk_x x) {g : mz_G} (hI : mz_inv g) {a1 : Int} (l_a1 : (-2147483648) ≤ a1) (u_a1 : a1 ≤ 2147483647) {a2 : Int} (l_a2 : (-2147483648) ≤ a2) (u_a2 : a2 ≤ 2147483647) (p1 : mz_pv g) (p2 : g 137 30 ≤ 999) {Q : (Option Value ⊕ Nat) → mm_H → Prop} (hQ : ∀ (r : Int) (g1 : mz_G), mz_inv g1 → mz_fr (fw_X12_draw x a1 a2) g g1 → (-2147483648) ≤ r → r ≤ 2147483647 → (g1 137 30 ≤ 999) → Q (.inl (some (.int (Int32.ofInt r)))) (mz_mk g1 x)) : mm_C d 249 [.ref 137, .int (Int32.ofInt a1), .int (Int32.ofInt a2)] (mz_mk g x) Q := by
  refine ⟨mmX12_draw, [some (.ref 137), some (.int (Int32.ofInt a1)), some (.int (Int32.ofInt a2)), none], rfl, rfl, ?_⟩
  have bz0 := mz_rd hI bd_137_30
  have hpv := p1
  refine mm_g 2 (pc1 := 2) (lo1 := [some (.ref 137), some (.int (Int32.ofInt a1)), some (.int (Int32.ofInt a2)), none]) (st1 := [.int (Int32.ofInt 0), .ref 137]) (H1 := mz_mk g x) rfl ?_
  refine mz_pI rfl fd_12_154 (sc_137 _) hI bd_137_2 (by omega) (by omega) (fun g1 hIg1 hug1 => ?_)
  refine mm_g 2 (pc1 := 7) (lo1 := [some (.ref 137), some (.int (Int32.ofInt a1)), some (.int (Int32.ofInt a2)), none]) (st1 := [.int (Int32.ofInt a1), .ref 137]) (H1 := mz_mk g1 x) rfl ?_
  refine mz_cv rfl mt_12_391 (by decide) (sc_137 _) rfl (Nat.le_of_ble_eq_true rfl) (by omega) (c_X12_isTrunk (by omega) hx hIg1 l_a1 u_a1 (fun v2 l_v2 u_v2 hp3 hp4 => ⟨_, rfl, ?_⟩))
  show mm_W d mmX12_draw 10 [some (.ref 137), some (.int (Int32.ofInt a1)), some (.int (Int32.ofInt a2)), none] [.int (Int32.ofInt v2)] (mz_mk g1 x) Q
  refine mz_if_ne (tgt := 19) rfl rfl (mz_rg l_v2 u_v2) (fun c10_4 => ?_) (fun c10_4 => ?_)
  · skip
    refine mm_g 1 (pc1 := 20) (lo1 := [some (.ref 137), some (.int (Int32.ofInt a1)), some (.int (Int32.ofInt a2)), none]) (st1 := [.ref 137]) (H1 := mz_mk g1 x) rfl ?_
    refine mz_fgR (v := 155) rfl fd_12_82 (by decide) (sc_137 _) (rf_137_28 _ _ _) ?_
    refine mm_g 1 (pc1 := 24) (lo1 := [some (.ref 137), some (.int (Int32.ofInt a1)), some (.int (Int32.ofInt a2)), none]) (st1 := [.int (Int32.ofInt a1), .ref 155]) (H1 := mz_mk g1 x) rfl ?_
    refine mz_aI rfl (sh_155 _) (by omega) (by omega) (by decide) hIg1 (ba_155 _) (fun v5 e_v5 l_v5 u_v5 => ?_)
    refine mm_g 2 (pc1 := 27) (lo1 := [some (.ref 137), some (.int (Int32.ofInt a1)), some (.int (Int32.ofInt a2)), some (.int (Int32.ofInt v5))]) (st1 := [.int (Int32.ofInt a2)]) (H1 := mz_mk g1 x) rfl ?_
    refine mz_i2l rfl (mz_rg l_a2 u_a2) ?_
    refine mz_lcst (c := 0) rfl rfl ?_
    refine mz_l2w (c := 9) rfl rfl rfl ?_
    refine mz_cs rfl mt_12_157 (by decide) rfl (Nat.le_of_ble_eq_true rfl) (by omega) (c_X12_isIn (by omega) hx hIg1 (by omega) (by omega) (by omega) (by omega) (by omega) (by omega) (fun v6 l_v6 u_v6 hp7 => ⟨_, rfl, ?_⟩))
    show mm_W d mmX12_draw 35 [some (.ref 137), some (.int (Int32.ofInt a1)), some (.int (Int32.ofInt a2)), some (.int (Int32.ofInt v5))] [.int (Int32.ofInt v6)] (mz_mk g1 x) Q
    refine mz_if_eq (tgt := 43) rfl rfl (mz_rg l_v6 u_v6) (fun c35_7 => ?_) (fun c35_7 => ?_)
    · skip
      refine mm_g 2 (pc1 := 45) (lo1 := [some (.ref 137), some (.int (Int32.ofInt a1)), some (.int (Int32.ofInt a2)), some (.int (Int32.ofInt v5))]) (st1 := [.int (Int32.ofInt 1), .ref 137]) (H1 := mz_mk g1 x) rfl ?_
      refine mz_cv rfl mt_12_403 (by decide) (sc_137 _) rfl (Nat.le_of_ble_eq_true rfl) (by omega) (c_X12_refuse (by omega) hx hIg1 (by decide) (by decide) (fun v8 g9 hIg9 hfg9 l_v8 u_v8 => ⟨_, rfl, ?_⟩))
      show mm_W d mmX12_draw 48 [some (.ref 137), some (.int (Int32.ofInt a1)), some (.int (Int32.ofInt a2)), some (.int (Int32.ofInt v5))] [.int (Int32.ofInt v8)] (mz_mk g9 x) Q
      exact mm_rt rfl rfl (hQ _ _ hIg9 (fun k j hk => ((hfg9 k j (fun h => hk (Or.inr (Or.inl h)))).trans (hug1.2 k j (fun h => hk (Or.inl h))))) (by omega) (by omega) (by have h9 := (show g9 137 30 = (g 137 30) from ((hfg9 137 30 (fun h => (absurd (show 137 = 150 from h) (by decide)))).trans ((hug1.2 137 30 (fun h => absurd h.2 (by decide))).trans rfl))); omega))
    · skip
      refine mm_g 2 (pc1 := 40) (lo1 := [some (.ref 137), some (.int (Int32.ofInt a1)), some (.int (Int32.ofInt a2)), some (.int (Int32.ofInt v5))]) (st1 := [.int (Int32.ofInt v5), .int (Int32.ofInt a2)]) (H1 := mz_mk g1 x) rfl ?_
      refine mz_ic_ne (tgt := 49) rfl rfl (mz_rg l_a2 u_a2) (mz_rg l_v5 u_v5) (fun c40_9 => ?_) (fun c40_9 => ?_)
      · skip
        refine mm_g 1 (pc1 := 50) (lo1 := [some (.ref 137), some (.int (Int32.ofInt a1)), some (.int (Int32.ofInt a2)), some (.int (Int32.ofInt v5))]) (st1 := [.ref 137]) (H1 := mz_mk g1 x) rfl ?_
        refine mz_cv rfl mt_12_406 (by decide) (sc_137 _) rfl (Nat.le_of_ble_eq_true rfl) (by omega) (c_X12_keep (by omega) hx hIg1 (by have h9 := (show g1 137 30 = (g 137 30) from ((hug1.2 137 30 (fun h => absurd h.2 (by decide))).trans rfl)); omega) (fun g10 hIg10 hfg10 => ⟨_, rfl, ?_⟩))
        show mm_W d mmX12_draw 53 [some (.ref 137), some (.int (Int32.ofInt a1)), some (.int (Int32.ofInt a2)), some (.int (Int32.ofInt v5))] [] (mz_mk g10 x) Q
        refine mm_g 1 (pc1 := 54) (lo1 := [some (.ref 137), some (.int (Int32.ofInt a1)), some (.int (Int32.ofInt a2)), some (.int (Int32.ofInt v5))]) (st1 := [.ref 137]) (H1 := mz_mk g10 x) rfl ?_
        refine mz_fgR (v := 155) rfl fd_12_82 (by decide) (sc_137 _) (rf_137_28 _ _ _) ?_
        refine mm_g 2 (pc1 := 59) (lo1 := [some (.ref 137), some (.int (Int32.ofInt a1)), some (.int (Int32.ofInt a2)), some (.int (Int32.ofInt v5))]) (st1 := [.int (Int32.ofInt a2), .int (Int32.ofInt a1), .ref 155]) (H1 := mz_mk g10 x) rfl ?_
        refine mz_sI rfl (sh_155 _) (by omega) (by omega) (by decide) hIg10 (ba_155 _) (by omega) (by omega) (fun g11 hIg11 hug11 => ?_)
        refine mm_g 1 (pc1 := 61) (lo1 := [some (.ref 137), some (.int (Int32.ofInt a1)), some (.int (Int32.ofInt a2)), some (.int (Int32.ofInt v5))]) (st1 := [.int (Int32.ofInt v5)]) (H1 := mz_mk g11 x) rfl ?_
        exact mm_rt rfl rfl (hQ _ _ hIg11 (fun k j hk => ((hug11.2 k j (fun h => hk (Or.inr (Or.inr (Or.inr (Or.inr h.1)))))).trans ((hfg10 k j (fun h => hk (Or.elim h (fun h => (Or.inr (Or.inr (Or.inl h)))) (fun h => (Or.inr (Or.inr (Or.inr (Or.inl h)))))))).trans (hug1.2 k j (fun h => hk (Or.inl h)))))) (by omega) (by omega) (by have h9 := (show g11 137 30 = (g 137 30) from ((hug11.2 137 30 (fun h => absurd h.1 (by decide))).trans ((hfg10 137 30 (fun h => (Or.elim h (fun h => (absurd (show 137 = 156 from h) (by decide))) (fun h => (absurd (show (137 = 137 ∧ 30 = 31) from h) (by decide)))))).trans ((hug1.2 137 30 (fun h => absurd h.2 (by decide))).trans rfl)))); omega))
      · skip
        refine mm_g 2 (pc1 := 45) (lo1 := [some (.ref 137), some (.int (Int32.ofInt a1)), some (.int (Int32.ofInt a2)), some (.int (Int32.ofInt v5))]) (st1 := [.int (Int32.ofInt 1), .ref 137]) (H1 := mz_mk g1 x) rfl ?_
        refine mz_cv rfl mt_12_403 (by decide) (sc_137 _) rfl (Nat.le_of_ble_eq_true rfl) (by omega) (c_X12_refuse (by omega) hx hIg1 (by decide) (by decide) (fun v12 g13 hIg13 hfg13 l_v12 u_v12 => ⟨_, rfl, ?_⟩))
        show mm_W d mmX12_draw 48 [some (.ref 137), some (.int (Int32.ofInt a1)), some (.int (Int32.ofInt a2)), some (.int (Int32.ofInt v5))] [.int (Int32.ofInt v12)] (mz_mk g13 x) Q
        exact mm_rt rfl rfl (hQ _ _ hIg13 (fun k j hk => ((hfg13 k j (fun h => hk (Or.inr (Or.inl h)))).trans (hug1.2 k j (fun h => hk (Or.inl h))))) (by omega) (by omega) (by have h9 := (show g13 137 30 = (g 137 30) from ((hfg13 137 30 (fun h => (absurd (show 137 = 150 from h) (by decide)))).trans ((hug1.2 137 30 (fun h => absurd h.2 (by decide))).trans rfl))); omega))
  · skip
    refine mm_g 2 (pc1 := 15) (lo1 := [some (.ref 137), some (.int (Int32.ofInt a1)), some (.int (Int32.ofInt a2)), none]) (st1 := [.int (Int32.ofInt 1), .ref 137]) (H1 := mz_mk g1 x) rfl ?_
    refine mz_cv rfl mt_12_294 (by decide) (sc_137 _) rfl (Nat.le_of_ble_eq_true rfl) (by omega) (c_X12_fail (by omega) hx hIg1 (by decide) (by decide) (fun v14 g15 hIg15 hfg15 l_v14 u_v14 => ⟨_, rfl, ?_⟩))
    show mm_W d mmX12_draw 18 [some (.ref 137), some (.int (Int32.ofInt a1)), some (.int (Int32.ofInt a2)), none] [.int (Int32.ofInt v14)] (mz_mk g15 x) Q
    exact mm_rt rfl rfl (hQ _ _ hIg15 (fun k j hk => ((hfg15 k j (fun h => hk (Or.inl h))).trans (hug1.2 k j (fun h => hk (Or.inl h))))) (by omega) (by omega) (by have h9 := (show g15 137 30 = (g 137 30) from ((hfg15 137 30 (fun h => (absurd (show (137 = 137 ∧ 30 = 2) from h) (by decide)))).trans ((hug1.2 137 30 (fun h => absurd h.2 (by decide))).trans rfl))); omega))
def fw_X12_pull (x : mm_X) (a1 : Int) (a2 : Int) : Nat → Nat → Prop := fun k j => (k = 137 ∧ j = 2) ∨ k = 150 ∨ k = 156 ∨ (k = 137 ∧ j = 31) ∨ k = 152
theorem c_X12_pull {d : Nat} (hd : 14 ≤ d) {x : mm_X} (hx : mk_x x) {g : mz_G} (hI : mz_inv g) {a1 : Int} (l_a1 : (-2147483648) ≤ a1) (u_a1 : a1 ≤ 2147483647) {a2 : Int} (l_a2 : (-2147483648) ≤ a2) (u_a2 : a2 ≤ 2147483647) (p1 : mz_pv g) (p2 : g 137 30 ≤ 999) {Q : (Option Value ⊕ Nat) → mm_H → Prop} (hQ : ∀ (r : Int) (g1 : mz_G), mz_inv g1 → mz_fr (fw_X12_pull x a1 a2) g g1 → (-1) ≤ r → r ≤ 8 → (g1 137 30 ≤ 999) → Q (.inl (some (.int (Int32.ofInt r)))) (mz_mk g1 x)) : mm_C d 250 [.ref 137, .int (Int32.ofInt a1), .int (Int32.ofInt a2)] (mz_mk g x) Q := by
  refine ⟨mmX12_pull, [some (.ref 137), some (.int (Int32.ofInt a1)), some (.int (Int32.ofInt a2))], rfl, rfl, ?_⟩
  have bz0 := mz_rd hI bd_137_30
  have hpv := p1
  refine mm_g 2 (pc1 := 2) (lo1 := [some (.ref 137), some (.int (Int32.ofInt a1)), some (.int (Int32.ofInt a2))]) (st1 := [.int (Int32.ofInt 0), .ref 137]) (H1 := mz_mk g x) rfl ?_
  refine mz_pI rfl fd_12_154 (sc_137 _) hI bd_137_2 (by omega) (by omega) (fun g1 hIg1 hug1 => ?_)
  refine mm_g 2 (pc1 := 7) (lo1 := [some (.ref 137), some (.int (Int32.ofInt a1)), some (.int (Int32.ofInt a2))]) (st1 := [.int (Int32.ofInt a1), .ref 137]) (H1 := mz_mk g1 x) rfl ?_
  refine mz_cv rfl mt_12_391 (by decide) (sc_137 _) rfl (Nat.le_of_ble_eq_true rfl) (by omega) (c_X12_isTrunk (by omega) hx hIg1 l_a1 u_a1 (fun v2 l_v2 u_v2 hp3 hp4 => ⟨_, rfl, ?_⟩))
  show mm_W d mmX12_pull 10 [some (.ref 137), some (.int (Int32.ofInt a1)), some (.int (Int32.ofInt a2))] [.int (Int32.ofInt v2)] (mz_mk g1 x) Q
  refine mz_if_ne (tgt := 19) rfl rfl (mz_rg l_v2 u_v2) (fun c10_4 => ?_) (fun c10_4 => ?_)
  · skip
    refine mm_g 1 (pc1 := 20) (lo1 := [some (.ref 137), some (.int (Int32.ofInt a1)), some (.int (Int32.ofInt a2))]) (st1 := [.int (Int32.ofInt a2)]) (H1 := mz_mk g1 x) rfl ?_
    refine mz_i2l rfl (mz_rg l_a2 u_a2) ?_
    refine mz_lcst (c := 1) rfl rfl ?_
    refine mz_l2w (c := 9) rfl rfl rfl ?_
    refine mz_cs rfl mt_12_157 (by decide) rfl (Nat.le_of_ble_eq_true rfl) (by omega) (c_X12_isIn (by omega) hx hIg1 (by omega) (by omega) (by omega) (by omega) (by omega) (by omega) (fun v5 l_v5 u_v5 hp6 => ⟨_, rfl, ?_⟩))
    show mm_W d mmX12_pull 28 [some (.ref 137), some (.int (Int32.ofInt a1)), some (.int (Int32.ofInt a2))] [.int (Int32.ofInt v5)] (mz_mk g1 x) Q
    refine mz_if_eq (tgt := 58) rfl rfl (mz_rg l_v5 u_v5) (fun c28_6 => ?_) (fun c28_6 => ?_)
    · skip
      refine mm_g 2 (pc1 := 60) (lo1 := [some (.ref 137), some (.int (Int32.ofInt a1)), some (.int (Int32.ofInt a2))]) (st1 := [.int (Int32.ofInt 1), .ref 137]) (H1 := mz_mk g1 x) rfl ?_
      refine mz_cv rfl mt_12_403 (by decide) (sc_137 _) rfl (Nat.le_of_ble_eq_true rfl) (by omega) (c_X12_refuse (by omega) hx hIg1 (by decide) (by decide) (fun v7 g8 hIg8 hfg8 l_v7 u_v7 => ⟨_, rfl, ?_⟩))
      show mm_W d mmX12_pull 63 [some (.ref 137), some (.int (Int32.ofInt a1)), some (.int (Int32.ofInt a2))] [.int (Int32.ofInt v7)] (mz_mk g8 x) Q
      exact mm_rt rfl rfl (hQ _ _ hIg8 (fun k j hk => ((hfg8 k j (fun h => hk (Or.inr (Or.inl h)))).trans (hug1.2 k j (fun h => hk (Or.inl h))))) (by omega) (by omega) (by have h9 := (show g8 137 30 = (g 137 30) from ((hfg8 137 30 (fun h => (absurd (show 137 = 150 from h) (by decide)))).trans ((hug1.2 137 30 (fun h => absurd h.2 (by decide))).trans rfl))); omega))
    · skip
      refine mm_g 1 (pc1 := 32) (lo1 := [some (.ref 137), some (.int (Int32.ofInt a1)), some (.int (Int32.ofInt a2))]) (st1 := [.ref 137]) (H1 := mz_mk g1 x) rfl ?_
      refine mz_fgR (v := 152) rfl fd_12_76 (by decide) (sc_137 _) (rf_137_25 _ _ _) ?_
      refine mm_g 1 (pc1 := 36) (lo1 := [some (.ref 137), some (.int (Int32.ofInt a1)), some (.int (Int32.ofInt a2))]) (st1 := [.int (Int32.ofInt a1), .ref 152]) (H1 := mz_mk g1 x) rfl ?_
      refine mz_aI rfl (sh_152 _) (by omega) (by omega) (by decide) hIg1 (ba_152 _) (fun v9 e_v9 l_v9 u_v9 => ?_)
      refine mz_if_eq (tgt := 58) rfl rfl (mz_rg l_v9 u_v9) (fun c37_9 => ?_) (fun c37_9 => ?_)
      · skip
        refine mm_g 2 (pc1 := 60) (lo1 := [some (.ref 137), some (.int (Int32.ofInt a1)), some (.int (Int32.ofInt a2))]) (st1 := [.int (Int32.ofInt 1), .ref 137]) (H1 := mz_mk g1 x) rfl ?_
        refine mz_cv rfl mt_12_403 (by decide) (sc_137 _) rfl (Nat.le_of_ble_eq_true rfl) (by omega) (c_X12_refuse (by omega) hx hIg1 (by decide) (by decide) (fun v10 g11 hIg11 hfg11 l_v10 u_v10 => ⟨_, rfl, ?_⟩))
        show mm_W d mmX12_pull 63 [some (.ref 137), some (.int (Int32.ofInt a1)), some (.int (Int32.ofInt a2))] [.int (Int32.ofInt v10)] (mz_mk g11 x) Q
        exact mm_rt rfl rfl (hQ _ _ hIg11 (fun k j hk => ((hfg11 k j (fun h => hk (Or.inr (Or.inl h)))).trans (hug1.2 k j (fun h => hk (Or.inl h))))) (by omega) (by omega) (by have h9 := (show g11 137 30 = (g 137 30) from ((hfg11 137 30 (fun h => (absurd (show 137 = 150 from h) (by decide)))).trans ((hug1.2 137 30 (fun h => absurd h.2 (by decide))).trans rfl))); omega))
      · skip
        refine mm_g 2 (pc1 := 42) (lo1 := [some (.ref 137), some (.int (Int32.ofInt a1)), some (.int (Int32.ofInt a2))]) (st1 := [.int (Int32.ofInt a1), .ref 137]) (H1 := mz_mk g1 x) rfl ?_
        refine mz_cv rfl mt_12_365 (by decide) (sc_137 _) rfl (Nat.le_of_ble_eq_true rfl) (by omega) (c_X12_isFull (by omega) hx hIg1 (by omega) (by omega) (fun v12 l_v12 u_v12 => ⟨_, rfl, ?_⟩))
        show mm_W d mmX12_pull 45 [some (.ref 137), some (.int (Int32.ofInt a1)), some (.int (Int32.ofInt a2))] [.int (Int32.ofInt v12)] (mz_mk g1 x) Q
        refine mz_if_ne (tgt := 58) rfl rfl (mz_rg l_v12 u_v12) (fun c45_12 => ?_) (fun c45_12 => ?_)
        · skip
          refine mm_g 2 (pc1 := 60) (lo1 := [some (.ref 137), some (.int (Int32.ofInt a1)), some (.int (Int32.ofInt a2))]) (st1 := [.int (Int32.ofInt 1), .ref 137]) (H1 := mz_mk g1 x) rfl ?_
          refine mz_cv rfl mt_12_403 (by decide) (sc_137 _) rfl (Nat.le_of_ble_eq_true rfl) (by omega) (c_X12_refuse (by omega) hx hIg1 (by decide) (by decide) (fun v13 g14 hIg14 hfg14 l_v13 u_v13 => ⟨_, rfl, ?_⟩))
          show mm_W d mmX12_pull 63 [some (.ref 137), some (.int (Int32.ofInt a1)), some (.int (Int32.ofInt a2))] [.int (Int32.ofInt v13)] (mz_mk g14 x) Q
          exact mm_rt rfl rfl (hQ _ _ hIg14 (fun k j hk => ((hfg14 k j (fun h => hk (Or.inr (Or.inl h)))).trans (hug1.2 k j (fun h => hk (Or.inl h))))) (by omega) (by omega) (by have h9 := (show g14 137 30 = (g 137 30) from ((hfg14 137 30 (fun h => (absurd (show 137 = 150 from h) (by decide)))).trans ((hug1.2 137 30 (fun h => absurd h.2 (by decide))).trans rfl))); omega))
        · skip
          refine mm_g 1 (pc1 := 49) (lo1 := [some (.ref 137), some (.int (Int32.ofInt a1)), some (.int (Int32.ofInt a2))]) (st1 := [.ref 137]) (H1 := mz_mk g1 x) rfl ?_
          refine mz_fgR (v := 144) rfl fd_12_49 (by decide) (sc_137 _) (rf_137_7 _ _ _) ?_
          refine mm_g 1 (pc1 := 53) (lo1 := [some (.ref 137), some (.int (Int32.ofInt a1)), some (.int (Int32.ofInt a2))]) (st1 := [.int (Int32.ofInt a1), .ref 144]) (H1 := mz_mk g1 x) rfl ?_
          refine mz_aI rfl (sh_144 _) (by omega) (by omega) (by decide) hIg1 (ba_144 _) (fun v15 e_v15 l_v15 u_v15 => ?_)
          refine mm_g 1 (pc1 := 55) (lo1 := [some (.ref 137), some (.int (Int32.ofInt a1)), some (.int (Int32.ofInt a2))]) (st1 := [.int (Int32.ofInt 1), .int (Int32.ofInt v15)]) (H1 := mz_mk g1 x) rfl ?_
          refine mz_ic_ne (tgt := 64) rfl rfl (mz_rg l_v15 u_v15) ⟨by decide, by decide⟩ (fun c55_15 => ?_) (fun c55_15 => ?_)
          · skip
            refine mm_g 1 (pc1 := 65) (lo1 := [some (.ref 137), some (.int (Int32.ofInt a1)), some (.int (Int32.ofInt a2))]) (st1 := [.ref 137]) (H1 := mz_mk g1 x) rfl ?_
            refine mz_cv rfl mt_12_406 (by decide) (sc_137 _) rfl (Nat.le_of_ble_eq_true rfl) (by omega) (c_X12_keep (by omega) hx hIg1 (by have h9 := (show g1 137 30 = (g 137 30) from ((hug1.2 137 30 (fun h => absurd h.2 (by decide))).trans rfl)); omega) (fun g16 hIg16 hfg16 => ⟨_, rfl, ?_⟩))
            show mm_W d mmX12_pull 68 [some (.ref 137), some (.int (Int32.ofInt a1)), some (.int (Int32.ofInt a2))] [] (mz_mk g16 x) Q
            refine mm_g 1 (pc1 := 69) (lo1 := [some (.ref 137), some (.int (Int32.ofInt a1)), some (.int (Int32.ofInt a2))]) (st1 := [.ref 137]) (H1 := mz_mk g16 x) rfl ?_
            refine mz_fgR (v := 152) rfl fd_12_76 (by decide) (sc_137 _) (rf_137_25 _ _ _) ?_
            refine mm_g 3 (pc1 := 75) (lo1 := [some (.ref 137), some (.int (Int32.ofInt a1)), some (.int (Int32.ofInt a2))]) (st1 := [.ref 137, .int (Int32.ofInt 0), .int (Int32.ofInt a1), .ref 152]) (H1 := mz_mk g16 x) rfl ?_
            refine mz_fgR (v := 152) rfl fd_12_76 (by decide) (sc_137 _) (rf_137_25 _ _ _) ?_
            refine mm_g 1 (pc1 := 79) (lo1 := [some (.ref 137), some (.int (Int32.ofInt a1)), some (.int (Int32.ofInt a2))]) (st1 := [.int (Int32.ofInt a1), .ref 152, .int (Int32.ofInt 0), .int (Int32.ofInt a1), .ref 152]) (H1 := mz_mk g16 x) rfl ?_
            refine mz_ia (v := v9) rfl (sh_152 _) (by omega) (by omega) (by decide) (show g16 152 (a1 : Int).toNat = v9 from ((hfg16 152 (a1 : Int).toNat (fun h => (Or.elim h (fun h => (absurd (show 152 = 156 from h) (by decide))) (fun h => (absurd (show 152 = 137 from (h).1) (by decide)))))).trans e_v9)) ?_
            refine mm_g 1 (pc1 := 81) (lo1 := [some (.ref 137), some (.int (Int32.ofInt a1)), some (.int (Int32.ofInt a2))]) (st1 := [.int (Int32.ofInt a2), .int (Int32.ofInt v9), .int (Int32.ofInt 0), .int (Int32.ofInt a1), .ref 152]) (H1 := mz_mk g16 x) rfl ?_
            refine mz_isub rfl ?_
            refine mz_mx rfl mt_12_329 (Nat.le_of_ble_eq_true rfl) (by omega) ⟨by decide, by decide⟩ ⟨by omega, by omega⟩ (fun v17 e_v17 => ?_)
            have l_v17 : 0 ≤ v17 := by omega
            have u_v17 : v17 ≤ 7 := by omega
            refine mz_sI rfl (sh_152 _) (by omega) (by omega) (by decide) hIg16 (ba_152 _) (by omega) (by omega) (fun g18 hIg18 hug18 => ?_)
            refine mm_g 1 (pc1 := 87) (lo1 := [some (.ref 137), some (.int (Int32.ofInt a1)), some (.int (Int32.ofInt a2))]) (st1 := [.ref 137]) (H1 := mz_mk g18 x) rfl ?_
            refine mz_fgR (v := 152) rfl fd_12_76 (by decide) (sc_137 _) (rf_137_25 _ _ _) ?_
            refine mm_g 1 (pc1 := 91) (lo1 := [some (.ref 137), some (.int (Int32.ofInt a1)), some (.int (Int32.ofInt a2))]) (st1 := [.int (Int32.ofInt a1), .ref 152]) (H1 := mz_mk g18 x) rfl ?_
            refine mz_aI rfl (sh_152 _) (by omega) (by omega) (by decide) hIg18 (ba_152 _) (fun v19 e_v19 l_v19 u_v19 => ?_)
            exact mm_rt rfl rfl (hQ _ _ hIg18 (fun k j hk => ((hug18.2 k j (fun h => hk (Or.inr (Or.inr (Or.inr (Or.inr h.1)))))).trans ((hfg16 k j (fun h => hk (Or.elim h (fun h => (Or.inr (Or.inr (Or.inl h)))) (fun h => (Or.inr (Or.inr (Or.inr (Or.inl h)))))))).trans (hug1.2 k j (fun h => hk (Or.inl h)))))) (by omega) (by omega) (by have h9 := (show g18 137 30 = (g 137 30) from ((hug18.2 137 30 (fun h => absurd h.1 (by decide))).trans ((hfg16 137 30 (fun h => (Or.elim h (fun h => (absurd (show 137 = 156 from h) (by decide))) (fun h => (absurd (show (137 = 137 ∧ 30 = 31) from h) (by decide)))))).trans ((hug1.2 137 30 (fun h => absurd h.2 (by decide))).trans rfl)))); omega))
          · skip
            refine mm_g 2 (pc1 := 60) (lo1 := [some (.ref 137), some (.int (Int32.ofInt a1)), some (.int (Int32.ofInt a2))]) (st1 := [.int (Int32.ofInt 1), .ref 137]) (H1 := mz_mk g1 x) rfl ?_
            refine mz_cv rfl mt_12_403 (by decide) (sc_137 _) rfl (Nat.le_of_ble_eq_true rfl) (by omega) (c_X12_refuse (by omega) hx hIg1 (by decide) (by decide) (fun v20 g21 hIg21 hfg21 l_v20 u_v20 => ⟨_, rfl, ?_⟩))
            show mm_W d mmX12_pull 63 [some (.ref 137), some (.int (Int32.ofInt a1)), some (.int (Int32.ofInt a2))] [.int (Int32.ofInt v20)] (mz_mk g21 x) Q
            exact mm_rt rfl rfl (hQ _ _ hIg21 (fun k j hk => ((hfg21 k j (fun h => hk (Or.inr (Or.inl h)))).trans (hug1.2 k j (fun h => hk (Or.inl h))))) (by omega) (by omega) (by have h9 := (show g21 137 30 = (g 137 30) from ((hfg21 137 30 (fun h => (absurd (show 137 = 150 from h) (by decide)))).trans ((hug1.2 137 30 (fun h => absurd h.2 (by decide))).trans rfl))); omega))
  · skip
    refine mm_g 2 (pc1 := 15) (lo1 := [some (.ref 137), some (.int (Int32.ofInt a1)), some (.int (Int32.ofInt a2))]) (st1 := [.int (Int32.ofInt 1), .ref 137]) (H1 := mz_mk g1 x) rfl ?_
    refine mz_cv rfl mt_12_294 (by decide) (sc_137 _) rfl (Nat.le_of_ble_eq_true rfl) (by omega) (c_X12_fail (by omega) hx hIg1 (by decide) (by decide) (fun v22 g23 hIg23 hfg23 l_v22 u_v22 => ⟨_, rfl, ?_⟩))
    show mm_W d mmX12_pull 18 [some (.ref 137), some (.int (Int32.ofInt a1)), some (.int (Int32.ofInt a2))] [.int (Int32.ofInt v22)] (mz_mk g23 x) Q
    exact mm_rt rfl rfl (hQ _ _ hIg23 (fun k j hk => ((hfg23 k j (fun h => hk (Or.inl h))).trans (hug1.2 k j (fun h => hk (Or.inl h))))) (by omega) (by omega) (by have h9 := (show g23 137 30 = (g 137 30) from ((hfg23 137 30 (fun h => (absurd (show (137 = 137 ∧ 30 = 2) from h) (by decide)))).trans ((hug1.2 137 30 (fun h => absurd h.2 (by decide))).trans rfl))); omega))
def fw_X12_turnRound (x : mm_X) (a1 : Int) : Nat → Nat → Prop := fun k j => k = 153 ∨ k = 154 ∨ k = 152
theorem c_X12_turnRound {d : Nat} (hd : 1 ≤ d) {x : mm_X} (hx : mk_x x) {g : mz_G} (hI : mz_inv g) {a1 : Int} (l_a1 : 0 ≤ a1) (u_a1 : a1 ≤ 5) {Q : (Option Value ⊕ Nat) → mm_H → Prop} (hQ : ∀ (g1 : mz_G), mz_inv g1 → mz_fr (fw_X12_turnRound x a1) g g1 → Q (.inl none) (mz_mk g1 x)) : mm_C d 251 [.ref 137, .int (Int32.ofInt a1)] (mz_mk g x) Q := by
  refine ⟨mmX12_turnRound, [some (.ref 137), some (.int (Int32.ofInt a1)), none], rfl, rfl, ?_⟩
  refine mm_g 1 (pc1 := 1) (lo1 := [some (.ref 137), some (.int (Int32.ofInt a1)), none]) (st1 := [.ref 137]) (H1 := mz_mk g x) rfl ?_
  refine mz_fgR (v := 153) rfl fd_12_78 (by decide) (sc_137 _) (rf_137_26 _ _ _) ?_
  refine mm_g 1 (pc1 := 5) (lo1 := [some (.ref 137), some (.int (Int32.ofInt a1)), none]) (st1 := [.int (Int32.ofInt a1), .ref 153]) (H1 := mz_mk g x) rfl ?_
  refine mz_aI rfl (sh_153 _) (by omega) (by omega) (by decide) hI (ba_153 _) (fun v1 e_v1 l_v1 u_v1 => ?_)
  refine mm_g 2 (pc1 := 8) (lo1 := [some (.ref 137), some (.int (Int32.ofInt a1)), some (.int (Int32.ofInt v1))]) (st1 := [.ref 137]) (H1 := mz_mk g x) rfl ?_
  refine mz_fgR (v := 153) rfl fd_12_78 (by decide) (sc_137 _) (rf_137_26 _ _ _) ?_
  refine mm_g 2 (pc1 := 13) (lo1 := [some (.ref 137), some (.int (Int32.ofInt a1)), some (.int (Int32.ofInt v1))]) (st1 := [.ref 137, .int (Int32.ofInt a1), .ref 153]) (H1 := mz_mk g x) rfl ?_
  refine mz_fgR (v := 154) rfl fd_12_80 (by decide) (sc_137 _) (rf_137_27 _ _ _) ?_
  refine mm_g 1 (pc1 := 17) (lo1 := [some (.ref 137), some (.int (Int32.ofInt a1)), some (.int (Int32.ofInt v1))]) (st1 := [.int (Int32.ofInt a1), .ref 154, .int (Int32.ofInt a1), .ref 153]) (H1 := mz_mk g x) rfl ?_
  refine mz_aI rfl (sh_154 _) (by omega) (by omega) (by decide) hI (ba_154 _) (fun v2 e_v2 l_v2 u_v2 => ?_)
  refine mz_sI rfl (sh_153 _) (by omega) (by omega) (by decide) hI (ba_153 _) (by omega) (by omega) (fun g3 hIg3 hug3 => ?_)
  refine mm_g 1 (pc1 := 20) (lo1 := [some (.ref 137), some (.int (Int32.ofInt a1)), some (.int (Int32.ofInt v1))]) (st1 := [.ref 137]) (H1 := mz_mk g3 x) rfl ?_
  refine mz_fgR (v := 154) rfl fd_12_80 (by decide) (sc_137 _) (rf_137_27 _ _ _) ?_
  refine mm_g 2 (pc1 := 25) (lo1 := [some (.ref 137), some (.int (Int32.ofInt a1)), some (.int (Int32.ofInt v1))]) (st1 := [.int (Int32.ofInt v1), .int (Int32.ofInt a1), .ref 154]) (H1 := mz_mk g3 x) rfl ?_
  refine mz_sI rfl (sh_154 _) (by omega) (by omega) (by decide) hIg3 (ba_154 _) (by omega) (by omega) (fun g4 hIg4 hug4 => ?_)
  refine mm_g 1 (pc1 := 27) (lo1 := [some (.ref 137), some (.int (Int32.ofInt a1)), some (.int (Int32.ofInt v1))]) (st1 := [.ref 137]) (H1 := mz_mk g4 x) rfl ?_
  refine mz_fgR (v := 152) rfl fd_12_76 (by decide) (sc_137 _) (rf_137_25 _ _ _) ?_
  refine mm_g 2 (pc1 := 32) (lo1 := [some (.ref 137), some (.int (Int32.ofInt a1)), some (.int (Int32.ofInt v1))]) (st1 := [.int (Int32.ofInt 0), .int (Int32.ofInt a1), .ref 152]) (H1 := mz_mk g4 x) rfl ?_
  refine mz_sI rfl (sh_152 _) (by omega) (by omega) (by decide) hIg4 (ba_152 _) (by omega) (by omega) (fun g5 hIg5 hug5 => ?_)
  exact mm_rt rfl rfl (hQ _ hIg5 (fun k j hk => ((hug5.2 k j (fun h => hk (Or.inr (Or.inr h.1)))).trans ((hug4.2 k j (fun h => hk (Or.inr (Or.inl h.1)))).trans (hug3.2 k j (fun h => hk (Or.inl h.1)))))))
def fw_X12_turn (x : mm_X) (a1 : Int) : Nat → Nat → Prop := fun k j => (k = 137 ∧ j = 2) ∨ k = 156 ∨ (k = 137 ∧ j = 31) ∨ k = 153 ∨ k = 154 ∨ k = 152
theorem c_X12_turn {d : Nat} (hd : 3 ≤ d) {x : mm_X} (hx : mk_x x) {g : mz_G} (hI : mz_inv g) {a1 : Int} (l_a1 : (-2147483648) ≤ a1) (u_a1 : a1 ≤ 2147483647) (p1 : mz_pv g) (p2 : g 137 30 ≤ 999) {Q : (Option Value ⊕ Nat) → mm_H → Prop} (hQ : ∀ (r : Int) (g1 : mz_G), mz_inv g1 → mz_fr (fw_X12_turn x a1) g g1 → 0 ≤ r → r ≤ 8 → (g1 137 30 ≤ 999) → Q (.inl (some (.int (Int32.ofInt r)))) (mz_mk g1 x)) : mm_C d 252 [.ref 137, .int (Int32.ofInt a1)] (mz_mk g x) Q := by
  refine ⟨mmX12_turn, [some (.ref 137), some (.int (Int32.ofInt a1)), none], rfl, rfl, ?_⟩
  have bz0 := mz_rd hI bd_137_30
  have hpv := p1
  refine mm_g 2 (pc1 := 2) (lo1 := [some (.ref 137), some (.int (Int32.ofInt a1)), none]) (st1 := [.int (Int32.ofInt 0), .ref 137]) (H1 := mz_mk g x) rfl ?_
  refine mz_pI rfl fd_12_154 (sc_137 _) hI bd_137_2 (by omega) (by omega) (fun g1 hIg1 hug1 => ?_)
  refine mm_g 2 (pc1 := 7) (lo1 := [some (.ref 137), some (.int (Int32.ofInt a1)), none]) (st1 := [.int (Int32.ofInt a1), .ref 137]) (H1 := mz_mk g1 x) rfl ?_
  refine mz_cv rfl mt_12_391 (by decide) (sc_137 _) rfl (Nat.le_of_ble_eq_true rfl) (by omega) (c_X12_isTrunk (by omega) hx hIg1 l_a1 u_a1 (fun v2 l_v2 u_v2 hp3 hp4 => ⟨_, rfl, ?_⟩))
  show mm_W d mmX12_turn 10 [some (.ref 137), some (.int (Int32.ofInt a1)), none] [.int (Int32.ofInt v2)] (mz_mk g1 x) Q
  refine mz_if_ne (tgt := 19) rfl rfl (mz_rg l_v2 u_v2) (fun c10_4 => ?_) (fun c10_4 => ?_)
  · skip
    refine mm_g 1 (pc1 := 20) (lo1 := [some (.ref 137), some (.int (Int32.ofInt a1)), none]) (st1 := [.ref 137]) (H1 := mz_mk g1 x) rfl ?_
    refine mz_cv rfl mt_12_406 (by decide) (sc_137 _) rfl (Nat.le_of_ble_eq_true rfl) (by omega) (c_X12_keep (by omega) hx hIg1 (by have h9 := (show g1 137 30 = (g 137 30) from ((hug1.2 137 30 (fun h => absurd h.2 (by decide))).trans rfl)); omega) (fun g5 hIg5 hfg5 => ⟨_, rfl, ?_⟩))
    show mm_W d mmX12_turn 23 [some (.ref 137), some (.int (Int32.ofInt a1)), none] [] (mz_mk g5 x) Q
    refine mm_g 1 (pc1 := 24) (lo1 := [some (.ref 137), some (.int (Int32.ofInt a1)), none]) (st1 := [.ref 137]) (H1 := mz_mk g5 x) rfl ?_
    refine mz_fgR (v := 152) rfl fd_12_76 (by decide) (sc_137 _) (rf_137_25 _ _ _) ?_
    refine mm_g 1 (pc1 := 28) (lo1 := [some (.ref 137), some (.int (Int32.ofInt a1)), none]) (st1 := [.int (Int32.ofInt a1), .ref 152]) (H1 := mz_mk g5 x) rfl ?_
    refine mz_aI rfl (sh_152 _) (by omega) (by omega) (by decide) hIg5 (ba_152 _) (fun v6 e_v6 l_v6 u_v6 => ?_)
    refine mm_g 3 (pc1 := 32) (lo1 := [some (.ref 137), some (.int (Int32.ofInt a1)), some (.int (Int32.ofInt v6))]) (st1 := [.int (Int32.ofInt a1), .ref 137]) (H1 := mz_mk g5 x) rfl ?_
    refine mz_cv rfl mt_12_414 (by decide) (sc_137 _) rfl (Nat.le_of_ble_eq_true rfl) (by omega) (c_X12_turnRound (by omega) hx hIg5 (by omega) (by omega) (fun g7 hIg7 hfg7 => ⟨_, rfl, ?_⟩))
    show mm_W d mmX12_turn 35 [some (.ref 137), some (.int (Int32.ofInt a1)), some (.int (Int32.ofInt v6))] [] (mz_mk g7 x) Q
    refine mm_g 1 (pc1 := 36) (lo1 := [some (.ref 137), some (.int (Int32.ofInt a1)), some (.int (Int32.ofInt v6))]) (st1 := [.int (Int32.ofInt v6)]) (H1 := mz_mk g7 x) rfl ?_
    exact mm_rt rfl rfl (hQ _ _ hIg7 (fun k j hk => ((hfg7 k j (fun h => hk (Or.elim h (fun h => (Or.inr (Or.inr (Or.inr (Or.inl h))))) (fun h => (Or.elim h (fun h => (Or.inr (Or.inr (Or.inr (Or.inr (Or.inl h)))))) (fun h => (Or.inr (Or.inr (Or.inr (Or.inr (Or.inr h))))))))))).trans ((hfg5 k j (fun h => hk (Or.elim h (fun h => (Or.inr (Or.inl h))) (fun h => (Or.inr (Or.inr (Or.inl h))))))).trans (hug1.2 k j (fun h => hk (Or.inl h)))))) (by omega) (by omega) (by have h9 := (show g7 137 30 = (g 137 30) from ((hfg7 137 30 (fun h => (Or.elim h (fun h => (absurd (show 137 = 153 from h) (by decide))) (fun h => (Or.elim h (fun h => (absurd (show 137 = 154 from h) (by decide))) (fun h => (absurd (show 137 = 152 from h) (by decide)))))))).trans ((hfg5 137 30 (fun h => (Or.elim h (fun h => (absurd (show 137 = 156 from h) (by decide))) (fun h => (absurd (show (137 = 137 ∧ 30 = 31) from h) (by decide)))))).trans ((hug1.2 137 30 (fun h => absurd h.2 (by decide))).trans rfl)))); omega))
  · skip
    refine mm_g 2 (pc1 := 15) (lo1 := [some (.ref 137), some (.int (Int32.ofInt a1)), none]) (st1 := [.int (Int32.ofInt 1), .ref 137]) (H1 := mz_mk g1 x) rfl ?_
    refine mz_cv rfl mt_12_294 (by decide) (sc_137 _) rfl (Nat.le_of_ble_eq_true rfl) (by omega) (c_X12_fail (by omega) hx hIg1 (by decide) (by decide) (fun v8 g9 hIg9 hfg9 l_v8 u_v8 => ⟨_, rfl, ?_⟩))
    show mm_W d mmX12_turn 18 [some (.ref 137), some (.int (Int32.ofInt a1)), none] [.int (Int32.ofInt v8)] (mz_mk g9 x) Q
    exact mm_rt rfl rfl (hQ _ _ hIg9 (fun k j hk => ((hfg9 k j (fun h => hk (Or.inl h))).trans (hug1.2 k j (fun h => hk (Or.inl h))))) (by omega) (by omega) (by have h9 := (show g9 137 30 = (g 137 30) from ((hfg9 137 30 (fun h => (absurd (show (137 = 137 ∧ 30 = 2) from h) (by decide)))).trans ((hug1.2 137 30 (fun h => absurd h.2 (by decide))).trans rfl))); omega))
def fw_X12_packIn (x : mm_X) (a1 : Int) (a2 : Int) (a3 : Int) : Nat → Nat → Prop := fun k j => k = 154 ∨ k = 152 ∨ k = 153
theorem c_X12_packIn {d : Nat} (hd : 1 ≤ d) {x : mm_X} (hx : mk_x x) {g : mz_G} (hI : mz_inv g) {a1 : Int} (l_a1 : 0 ≤ a1) (u_a1 : a1 ≤ 5) {a2 : Int} (l_a2 : (-2147483648) ≤ a2) (u_a2 : a2 ≤ 2147483647) {a3 : Int} (l_a3 : 0 ≤ a3) (u_a3 : a3 ≤ 7) {Q : (Option Value ⊕ Nat) → mm_H → Prop} (hQ : ∀ (g1 : mz_G), mz_inv g1 → mz_fr (fw_X12_packIn x a1 a2 a3) g g1 → Q (.inl none) (mz_mk g1 x)) : mm_C d 253 [.ref 137, .int (Int32.ofInt a1), .int (Int32.ofInt a2), .int (Int32.ofInt a3)] (mz_mk g x) Q := by
  refine ⟨mmX12_packIn, [some (.ref 137), some (.int (Int32.ofInt a1)), some (.int (Int32.ofInt a2)), some (.int (Int32.ofInt a3))], rfl, rfl, ?_⟩
  refine mm_g 1 (pc1 := 1) (lo1 := [some (.ref 137), some (.int (Int32.ofInt a1)), some (.int (Int32.ofInt a2)), some (.int (Int32.ofInt a3))]) (st1 := [.int (Int32.ofInt a2)]) (H1 := mz_mk g x) rfl ?_
  refine mz_if_ne (tgt := 14) rfl rfl (mz_rg l_a2 u_a2) (fun c1_0 => ?_) (fun c1_0 => ?_)
  · skip
    refine mm_g 1 (pc1 := 15) (lo1 := [some (.ref 137), some (.int (Int32.ofInt a1)), some (.int (Int32.ofInt a2)), some (.int (Int32.ofInt a3))]) (st1 := [.ref 137]) (H1 := mz_mk g x) rfl ?_
    refine mz_fgR (v := 154) rfl fd_12_80 (by decide) (sc_137 _) (rf_137_27 _ _ _) ?_
    refine mm_g 2 (pc1 := 20) (lo1 := [some (.ref 137), some (.int (Int32.ofInt a1)), some (.int (Int32.ofInt a2)), some (.int (Int32.ofInt a3))]) (st1 := [.int (Int32.ofInt a3), .int (Int32.ofInt a1), .ref 154]) (H1 := mz_mk g x) rfl ?_
    refine mz_sI rfl (sh_154 _) (by omega) (by omega) (by decide) hI (ba_154 _) (by omega) (by omega) (fun g1 hIg1 hug1 => ?_)
    refine mm_g 1 (pc1 := 22) (lo1 := [some (.ref 137), some (.int (Int32.ofInt a1)), some (.int (Int32.ofInt a2)), some (.int (Int32.ofInt a3))]) (st1 := [.ref 137]) (H1 := mz_mk g1 x) rfl ?_
    refine mz_fgR (v := 152) rfl fd_12_76 (by decide) (sc_137 _) (rf_137_25 _ _ _) ?_
    refine mm_g 2 (pc1 := 27) (lo1 := [some (.ref 137), some (.int (Int32.ofInt a1)), some (.int (Int32.ofInt a2)), some (.int (Int32.ofInt a3))]) (st1 := [.int (Int32.ofInt 0), .int (Int32.ofInt a1), .ref 152]) (H1 := mz_mk g1 x) rfl ?_
    refine mz_sI rfl (sh_152 _) (by omega) (by omega) (by decide) hIg1 (ba_152 _) (by omega) (by omega) (fun g2 hIg2 hug2 => ?_)
    exact mm_rt rfl rfl (hQ _ hIg2 (fun k j hk => ((hug2.2 k j (fun h => hk (Or.inr (Or.inl h.1)))).trans (hug1.2 k j (fun h => hk (Or.inl h.1))))))
  · skip
    refine mm_g 1 (pc1 := 5) (lo1 := [some (.ref 137), some (.int (Int32.ofInt a1)), some (.int (Int32.ofInt a2)), some (.int (Int32.ofInt a3))]) (st1 := [.ref 137]) (H1 := mz_mk g x) rfl ?_
    refine mz_fgR (v := 153) rfl fd_12_78 (by decide) (sc_137 _) (rf_137_26 _ _ _) ?_
    refine mm_g 2 (pc1 := 10) (lo1 := [some (.ref 137), some (.int (Int32.ofInt a1)), some (.int (Int32.ofInt a2)), some (.int (Int32.ofInt a3))]) (st1 := [.int (Int32.ofInt a3), .int (Int32.ofInt a1), .ref 153]) (H1 := mz_mk g x) rfl ?_
    refine mz_sI rfl (sh_153 _) (by omega) (by omega) (by decide) hI (ba_153 _) (by omega) (by omega) (fun g3 hIg3 hug3 => ?_)
    refine mz_gt (tgt := 21) rfl rfl ?_
    refine mm_g 1 (pc1 := 22) (lo1 := [some (.ref 137), some (.int (Int32.ofInt a1)), some (.int (Int32.ofInt a2)), some (.int (Int32.ofInt a3))]) (st1 := [.ref 137]) (H1 := mz_mk g3 x) rfl ?_
    refine mz_fgR (v := 152) rfl fd_12_76 (by decide) (sc_137 _) (rf_137_25 _ _ _) ?_
    refine mm_g 2 (pc1 := 27) (lo1 := [some (.ref 137), some (.int (Int32.ofInt a1)), some (.int (Int32.ofInt a2)), some (.int (Int32.ofInt a3))]) (st1 := [.int (Int32.ofInt 0), .int (Int32.ofInt a1), .ref 152]) (H1 := mz_mk g3 x) rfl ?_
    refine mz_sI rfl (sh_152 _) (by omega) (by omega) (by decide) hIg3 (ba_152 _) (by omega) (by omega) (fun g4 hIg4 hug4 => ?_)
    exact mm_rt rfl rfl (hQ _ hIg4 (fun k j hk => ((hug4.2 k j (fun h => hk (Or.inr (Or.inl h.1)))).trans (hug3.2 k j (fun h => hk (Or.inr (Or.inr h.1)))))))
def fw_X12_pack (x : mm_X) (a1 : Int) (a2 : Int) (a3 : Int) : Nat → Nat → Prop := fun k j => (k = 137 ∧ j = 2) ∨ k = 156 ∨ (k = 137 ∧ j = 31) ∨ k = 154 ∨ k = 152 ∨ k = 153 ∨ k = 150
theorem c_X12_pack {d : Nat} (hd : 3 ≤ d) {x : mm_X} (hx : mk_x x) {g : mz_G} (hI : mz_inv g) {a1 : Int} (l_a1 : (-2147483648) ≤ a1) (u_a1 : a1 ≤ 2147483647) {a2 : Int} (l_a2 : (-2147483648) ≤ a2) (u_a2 : a2 ≤ 2147483647) {a3 : Int} (l_a3 : (-2147483648) ≤ a3) (u_a3 : a3 ≤ 2147483647) (p1 : mz_pv g) (p2 : g 137 30 ≤ 999) {Q : (Option Value ⊕ Nat) → mm_H → Prop} (hQ : ∀ (r : Int) (g1 : mz_G), mz_inv g1 → mz_fr (fw_X12_pack x a1 a2 a3) g g1 → (-1) ≤ r → r ≤ 7 → (g1 137 30 ≤ 999) → Q (.inl (some (.int (Int32.ofInt r)))) (mz_mk g1 x)) : mm_C d 254 [.ref 137, .int (Int32.ofInt a1), .int (Int32.ofInt a2), .int (Int32.ofInt a3)] (mz_mk g x) Q := by
  refine ⟨mmX12_pack, [some (.ref 137), some (.int (Int32.ofInt a1)), some (.int (Int32.ofInt a2)), some (.int (Int32.ofInt a3)), none], rfl, rfl, ?_⟩
  have bz0 := mz_rd hI bd_137_30
  have hpv := p1
  refine mm_g 2 (pc1 := 2) (lo1 := [some (.ref 137), some (.int (Int32.ofInt a1)), some (.int (Int32.ofInt a2)), some (.int (Int32.ofInt a3)), none]) (st1 := [.int (Int32.ofInt 0), .ref 137]) (H1 := mz_mk g x) rfl ?_
  refine mz_pI rfl fd_12_154 (sc_137 _) hI bd_137_2 (by omega) (by omega) (fun g1 hIg1 hug1 => ?_)
  refine mm_g 2 (pc1 := 7) (lo1 := [some (.ref 137), some (.int (Int32.ofInt a1)), some (.int (Int32.ofInt a2)), some (.int (Int32.ofInt a3)), none]) (st1 := [.int (Int32.ofInt a1), .ref 137]) (H1 := mz_mk g1 x) rfl ?_
  refine mz_cv rfl mt_12_391 (by decide) (sc_137 _) rfl (Nat.le_of_ble_eq_true rfl) (by omega) (c_X12_isTrunk (by omega) hx hIg1 l_a1 u_a1 (fun v2 l_v2 u_v2 hp3 hp4 => ⟨_, rfl, ?_⟩))
  show mm_W d mmX12_pack 10 [some (.ref 137), some (.int (Int32.ofInt a1)), some (.int (Int32.ofInt a2)), some (.int (Int32.ofInt a3)), none] [.int (Int32.ofInt v2)] (mz_mk g1 x) Q
  refine mz_if_eq (tgt := 31) rfl rfl (mz_rg l_v2 u_v2) (fun c10_4 => ?_) (fun c10_4 => ?_)
  · skip
    refine mm_g 2 (pc1 := 33) (lo1 := [some (.ref 137), some (.int (Int32.ofInt a1)), some (.int (Int32.ofInt a2)), some (.int (Int32.ofInt a3)), none]) (st1 := [.int (Int32.ofInt 1), .ref 137]) (H1 := mz_mk g1 x) rfl ?_
    refine mz_cv rfl mt_12_294 (by decide) (sc_137 _) rfl (Nat.le_of_ble_eq_true rfl) (by omega) (c_X12_fail (by omega) hx hIg1 (by decide) (by decide) (fun v5 g6 hIg6 hfg6 l_v5 u_v5 => ⟨_, rfl, ?_⟩))
    show mm_W d mmX12_pack 36 [some (.ref 137), some (.int (Int32.ofInt a1)), some (.int (Int32.ofInt a2)), some (.int (Int32.ofInt a3)), none] [.int (Int32.ofInt v5)] (mz_mk g6 x) Q
    exact mm_rt rfl rfl (hQ _ _ hIg6 (fun k j hk => ((hfg6 k j (fun h => hk (Or.inl h))).trans (hug1.2 k j (fun h => hk (Or.inl h))))) (by omega) (by omega) (by have h9 := (show g6 137 30 = (g 137 30) from ((hfg6 137 30 (fun h => (absurd (show (137 = 137 ∧ 30 = 2) from h) (by decide)))).trans ((hug1.2 137 30 (fun h => absurd h.2 (by decide))).trans rfl))); omega))
  · skip
    refine mm_g 1 (pc1 := 14) (lo1 := [some (.ref 137), some (.int (Int32.ofInt a1)), some (.int (Int32.ofInt a2)), some (.int (Int32.ofInt a3)), none]) (st1 := [.int (Int32.ofInt a2)]) (H1 := mz_mk g1 x) rfl ?_
    refine mz_i2l rfl (mz_rg l_a2 u_a2) ?_
    refine mz_lcst (c := 0) rfl rfl ?_
    refine mz_lcst (c := 1) rfl rfl ?_
    refine mz_cs rfl mt_12_157 (by decide) rfl (Nat.le_of_ble_eq_true rfl) (by omega) (c_X12_isIn (by omega) hx hIg1 (by omega) (by omega) (by omega) (by omega) (by omega) (by omega) (fun v7 l_v7 u_v7 hp8 => ⟨_, rfl, ?_⟩))
    show mm_W d mmX12_pack 20 [some (.ref 137), some (.int (Int32.ofInt a1)), some (.int (Int32.ofInt a2)), some (.int (Int32.ofInt a3)), none] [.int (Int32.ofInt v7)] (mz_mk g1 x) Q
    refine mz_if_eq (tgt := 31) rfl rfl (mz_rg l_v7 u_v7) (fun c20_8 => ?_) (fun c20_8 => ?_)
    · skip
      refine mm_g 2 (pc1 := 33) (lo1 := [some (.ref 137), some (.int (Int32.ofInt a1)), some (.int (Int32.ofInt a2)), some (.int (Int32.ofInt a3)), none]) (st1 := [.int (Int32.ofInt 1), .ref 137]) (H1 := mz_mk g1 x) rfl ?_
      refine mz_cv rfl mt_12_294 (by decide) (sc_137 _) rfl (Nat.le_of_ble_eq_true rfl) (by omega) (c_X12_fail (by omega) hx hIg1 (by decide) (by decide) (fun v9 g10 hIg10 hfg10 l_v9 u_v9 => ⟨_, rfl, ?_⟩))
      show mm_W d mmX12_pack 36 [some (.ref 137), some (.int (Int32.ofInt a1)), some (.int (Int32.ofInt a2)), some (.int (Int32.ofInt a3)), none] [.int (Int32.ofInt v9)] (mz_mk g10 x) Q
      exact mm_rt rfl rfl (hQ _ _ hIg10 (fun k j hk => ((hfg10 k j (fun h => hk (Or.inl h))).trans (hug1.2 k j (fun h => hk (Or.inl h))))) (by omega) (by omega) (by have h9 := (show g10 137 30 = (g 137 30) from ((hfg10 137 30 (fun h => (absurd (show (137 = 137 ∧ 30 = 2) from h) (by decide)))).trans ((hug1.2 137 30 (fun h => absurd h.2 (by decide))).trans rfl))); omega))
    · skip
      refine mm_g 2 (pc1 := 25) (lo1 := [some (.ref 137), some (.int (Int32.ofInt a1)), some (.int (Int32.ofInt a2)), some (.int (Int32.ofInt a3)), none]) (st1 := [.int (Int32.ofInt a3), .ref 137]) (H1 := mz_mk g1 x) rfl ?_
      refine mz_cv rfl mt_12_380 (by decide) (sc_137 _) rfl (Nat.le_of_ble_eq_true rfl) (by omega) (c_X12_isWord (by omega) hx hIg1 l_a3 u_a3 (fun v11 l_v11 u_v11 hp12 hp13 => ⟨_, rfl, ?_⟩))
      show mm_W d mmX12_pack 28 [some (.ref 137), some (.int (Int32.ofInt a1)), some (.int (Int32.ofInt a2)), some (.int (Int32.ofInt a3)), none] [.int (Int32.ofInt v11)] (mz_mk g1 x) Q
      refine mz_if_ne (tgt := 37) rfl rfl (mz_rg l_v11 u_v11) (fun c28_13 => ?_) (fun c28_13 => ?_)
      · skip
        refine mm_g 1 (pc1 := 38) (lo1 := [some (.ref 137), some (.int (Int32.ofInt a1)), some (.int (Int32.ofInt a2)), some (.int (Int32.ofInt a3)), none]) (st1 := [.int (Int32.ofInt a2)]) (H1 := mz_mk g1 x) rfl ?_
        refine mz_if_ne (tgt := 50) rfl rfl (mz_rg l_a2 u_a2) (fun c38_13 => ?_) (fun c38_13 => ?_)
        · skip
          refine mm_g 1 (pc1 := 51) (lo1 := [some (.ref 137), some (.int (Int32.ofInt a1)), some (.int (Int32.ofInt a2)), some (.int (Int32.ofInt a3)), none]) (st1 := [.ref 137]) (H1 := mz_mk g1 x) rfl ?_
          refine mz_fgR (v := 154) rfl fd_12_80 (by decide) (sc_137 _) (rf_137_27 _ _ _) ?_
          refine mm_g 1 (pc1 := 55) (lo1 := [some (.ref 137), some (.int (Int32.ofInt a1)), some (.int (Int32.ofInt a2)), some (.int (Int32.ofInt a3)), none]) (st1 := [.int (Int32.ofInt a1), .ref 154]) (H1 := mz_mk g1 x) rfl ?_
          refine mz_aI rfl (sh_154 _) (by omega) (by omega) (by decide) hIg1 (ba_154 _) (fun v14 e_v14 l_v14 u_v14 => ?_)
          refine mm_g 3 (pc1 := 61) (lo1 := [some (.ref 137), some (.int (Int32.ofInt a1)), some (.int (Int32.ofInt a2)), some (.int (Int32.ofInt a3)), some (.int (Int32.ofInt v14))]) (st1 := [.int (Int32.ofInt a3), .int (Int32.ofInt v14)]) (H1 := mz_mk g1 x) rfl ?_
          refine mz_ic_ne (tgt := 70) rfl rfl (mz_rg l_v14 u_v14) (mz_rg l_a3 u_a3) (fun c61_14 => ?_) (fun c61_14 => ?_)
          · skip
            refine mm_g 1 (pc1 := 71) (lo1 := [some (.ref 137), some (.int (Int32.ofInt a1)), some (.int (Int32.ofInt a2)), some (.int (Int32.ofInt a3)), some (.int (Int32.ofInt v14))]) (st1 := [.ref 137]) (H1 := mz_mk g1 x) rfl ?_
            refine mz_cv rfl mt_12_406 (by decide) (sc_137 _) rfl (Nat.le_of_ble_eq_true rfl) (by omega) (c_X12_keep (by omega) hx hIg1 (by have h9 := (show g1 137 30 = (g 137 30) from ((hug1.2 137 30 (fun h => absurd h.2 (by decide))).trans rfl)); omega) (fun g15 hIg15 hfg15 => ⟨_, rfl, ?_⟩))
            show mm_W d mmX12_pack 74 [some (.ref 137), some (.int (Int32.ofInt a1)), some (.int (Int32.ofInt a2)), some (.int (Int32.ofInt a3)), some (.int (Int32.ofInt v14))] [] (mz_mk g15 x) Q
            refine mm_g 4 (pc1 := 78) (lo1 := [some (.ref 137), some (.int (Int32.ofInt a1)), some (.int (Int32.ofInt a2)), some (.int (Int32.ofInt a3)), some (.int (Int32.ofInt v14))]) (st1 := [.int (Int32.ofInt a3), .int (Int32.ofInt a2), .int (Int32.ofInt a1), .ref 137]) (H1 := mz_mk g15 x) rfl ?_
            refine mz_cv rfl mt_12_417 (by decide) (sc_137 _) rfl (Nat.le_of_ble_eq_true rfl) (by omega) (c_X12_packIn (by omega) hx hIg15 (by omega) (by omega) l_a2 u_a2 (by omega) (by omega) (fun g16 hIg16 hfg16 => ⟨_, rfl, ?_⟩))
            show mm_W d mmX12_pack 81 [some (.ref 137), some (.int (Int32.ofInt a1)), some (.int (Int32.ofInt a2)), some (.int (Int32.ofInt a3)), some (.int (Int32.ofInt v14))] [] (mz_mk g16 x) Q
            refine mm_g 1 (pc1 := 83) (lo1 := [some (.ref 137), some (.int (Int32.ofInt a1)), some (.int (Int32.ofInt a2)), some (.int (Int32.ofInt a3)), some (.int (Int32.ofInt v14))]) (st1 := [.int (Int32.ofInt v14)]) (H1 := mz_mk g16 x) rfl ?_
            exact mm_rt rfl rfl (hQ _ _ hIg16 (fun k j hk => ((hfg16 k j (fun h => hk (Or.elim h (fun h => (Or.inr (Or.inr (Or.inr (Or.inl h))))) (fun h => (Or.elim h (fun h => (Or.inr (Or.inr (Or.inr (Or.inr (Or.inl h)))))) (fun h => (Or.inr (Or.inr (Or.inr (Or.inr (Or.inr (Or.inl h)))))))))))).trans ((hfg15 k j (fun h => hk (Or.elim h (fun h => (Or.inr (Or.inl h))) (fun h => (Or.inr (Or.inr (Or.inl h))))))).trans (hug1.2 k j (fun h => hk (Or.inl h)))))) (by omega) (by omega) (by have h9 := (show g16 137 30 = (g 137 30) from ((hfg16 137 30 (fun h => (Or.elim h (fun h => (absurd (show 137 = 154 from h) (by decide))) (fun h => (Or.elim h (fun h => (absurd (show 137 = 152 from h) (by decide))) (fun h => (absurd (show 137 = 153 from h) (by decide)))))))).trans ((hfg15 137 30 (fun h => (Or.elim h (fun h => (absurd (show 137 = 156 from h) (by decide))) (fun h => (absurd (show (137 = 137 ∧ 30 = 31) from h) (by decide)))))).trans ((hug1.2 137 30 (fun h => absurd h.2 (by decide))).trans rfl)))); omega))
          · skip
            refine mm_g 2 (pc1 := 66) (lo1 := [some (.ref 137), some (.int (Int32.ofInt a1)), some (.int (Int32.ofInt a2)), some (.int (Int32.ofInt a3)), some (.int (Int32.ofInt v14))]) (st1 := [.int (Int32.ofInt 1), .ref 137]) (H1 := mz_mk g1 x) rfl ?_
            refine mz_cv rfl mt_12_403 (by decide) (sc_137 _) rfl (Nat.le_of_ble_eq_true rfl) (by omega) (c_X12_refuse (by omega) hx hIg1 (by decide) (by decide) (fun v17 g18 hIg18 hfg18 l_v17 u_v17 => ⟨_, rfl, ?_⟩))
            show mm_W d mmX12_pack 69 [some (.ref 137), some (.int (Int32.ofInt a1)), some (.int (Int32.ofInt a2)), some (.int (Int32.ofInt a3)), some (.int (Int32.ofInt v14))] [.int (Int32.ofInt v17)] (mz_mk g18 x) Q
            exact mm_rt rfl rfl (hQ _ _ hIg18 (fun k j hk => ((hfg18 k j (fun h => hk (Or.inr (Or.inr (Or.inr (Or.inr (Or.inr (Or.inr h)))))))).trans (hug1.2 k j (fun h => hk (Or.inl h))))) (by omega) (by omega) (by have h9 := (show g18 137 30 = (g 137 30) from ((hfg18 137 30 (fun h => (absurd (show 137 = 150 from h) (by decide)))).trans ((hug1.2 137 30 (fun h => absurd h.2 (by decide))).trans rfl))); omega))
        · skip
          refine mm_g 1 (pc1 := 42) (lo1 := [some (.ref 137), some (.int (Int32.ofInt a1)), some (.int (Int32.ofInt a2)), some (.int (Int32.ofInt a3)), none]) (st1 := [.ref 137]) (H1 := mz_mk g1 x) rfl ?_
          refine mz_fgR (v := 153) rfl fd_12_78 (by decide) (sc_137 _) (rf_137_26 _ _ _) ?_
          refine mm_g 1 (pc1 := 46) (lo1 := [some (.ref 137), some (.int (Int32.ofInt a1)), some (.int (Int32.ofInt a2)), some (.int (Int32.ofInt a3)), none]) (st1 := [.int (Int32.ofInt a1), .ref 153]) (H1 := mz_mk g1 x) rfl ?_
          refine mz_aI rfl (sh_153 _) (by omega) (by omega) (by decide) hIg1 (ba_153 _) (fun v19 e_v19 l_v19 u_v19 => ?_)
          refine mz_gt (tgt := 56) rfl rfl ?_
          refine mm_g 3 (pc1 := 61) (lo1 := [some (.ref 137), some (.int (Int32.ofInt a1)), some (.int (Int32.ofInt a2)), some (.int (Int32.ofInt a3)), some (.int (Int32.ofInt v19))]) (st1 := [.int (Int32.ofInt a3), .int (Int32.ofInt v19)]) (H1 := mz_mk g1 x) rfl ?_
          refine mz_ic_ne (tgt := 70) rfl rfl (mz_rg l_v19 u_v19) (mz_rg l_a3 u_a3) (fun c61_19 => ?_) (fun c61_19 => ?_)
          · skip
            refine mm_g 1 (pc1 := 71) (lo1 := [some (.ref 137), some (.int (Int32.ofInt a1)), some (.int (Int32.ofInt a2)), some (.int (Int32.ofInt a3)), some (.int (Int32.ofInt v19))]) (st1 := [.ref 137]) (H1 := mz_mk g1 x) rfl ?_
            refine mz_cv rfl mt_12_406 (by decide) (sc_137 _) rfl (Nat.le_of_ble_eq_true rfl) (by omega) (c_X12_keep (by omega) hx hIg1 (by have h9 := (show g1 137 30 = (g 137 30) from ((hug1.2 137 30 (fun h => absurd h.2 (by decide))).trans rfl)); omega) (fun g20 hIg20 hfg20 => ⟨_, rfl, ?_⟩))
            show mm_W d mmX12_pack 74 [some (.ref 137), some (.int (Int32.ofInt a1)), some (.int (Int32.ofInt a2)), some (.int (Int32.ofInt a3)), some (.int (Int32.ofInt v19))] [] (mz_mk g20 x) Q
            refine mm_g 4 (pc1 := 78) (lo1 := [some (.ref 137), some (.int (Int32.ofInt a1)), some (.int (Int32.ofInt a2)), some (.int (Int32.ofInt a3)), some (.int (Int32.ofInt v19))]) (st1 := [.int (Int32.ofInt a3), .int (Int32.ofInt a2), .int (Int32.ofInt a1), .ref 137]) (H1 := mz_mk g20 x) rfl ?_
            refine mz_cv rfl mt_12_417 (by decide) (sc_137 _) rfl (Nat.le_of_ble_eq_true rfl) (by omega) (c_X12_packIn (by omega) hx hIg20 (by omega) (by omega) l_a2 u_a2 (by omega) (by omega) (fun g21 hIg21 hfg21 => ⟨_, rfl, ?_⟩))
            show mm_W d mmX12_pack 81 [some (.ref 137), some (.int (Int32.ofInt a1)), some (.int (Int32.ofInt a2)), some (.int (Int32.ofInt a3)), some (.int (Int32.ofInt v19))] [] (mz_mk g21 x) Q
            refine mm_g 1 (pc1 := 83) (lo1 := [some (.ref 137), some (.int (Int32.ofInt a1)), some (.int (Int32.ofInt a2)), some (.int (Int32.ofInt a3)), some (.int (Int32.ofInt v19))]) (st1 := [.int (Int32.ofInt v19)]) (H1 := mz_mk g21 x) rfl ?_
            exact mm_rt rfl rfl (hQ _ _ hIg21 (fun k j hk => ((hfg21 k j (fun h => hk (Or.elim h (fun h => (Or.inr (Or.inr (Or.inr (Or.inl h))))) (fun h => (Or.elim h (fun h => (Or.inr (Or.inr (Or.inr (Or.inr (Or.inl h)))))) (fun h => (Or.inr (Or.inr (Or.inr (Or.inr (Or.inr (Or.inl h)))))))))))).trans ((hfg20 k j (fun h => hk (Or.elim h (fun h => (Or.inr (Or.inl h))) (fun h => (Or.inr (Or.inr (Or.inl h))))))).trans (hug1.2 k j (fun h => hk (Or.inl h)))))) (by omega) (by omega) (by have h9 := (show g21 137 30 = (g 137 30) from ((hfg21 137 30 (fun h => (Or.elim h (fun h => (absurd (show 137 = 154 from h) (by decide))) (fun h => (Or.elim h (fun h => (absurd (show 137 = 152 from h) (by decide))) (fun h => (absurd (show 137 = 153 from h) (by decide)))))))).trans ((hfg20 137 30 (fun h => (Or.elim h (fun h => (absurd (show 137 = 156 from h) (by decide))) (fun h => (absurd (show (137 = 137 ∧ 30 = 31) from h) (by decide)))))).trans ((hug1.2 137 30 (fun h => absurd h.2 (by decide))).trans rfl)))); omega))
          · skip
            refine mm_g 2 (pc1 := 66) (lo1 := [some (.ref 137), some (.int (Int32.ofInt a1)), some (.int (Int32.ofInt a2)), some (.int (Int32.ofInt a3)), some (.int (Int32.ofInt v19))]) (st1 := [.int (Int32.ofInt 1), .ref 137]) (H1 := mz_mk g1 x) rfl ?_
            refine mz_cv rfl mt_12_403 (by decide) (sc_137 _) rfl (Nat.le_of_ble_eq_true rfl) (by omega) (c_X12_refuse (by omega) hx hIg1 (by decide) (by decide) (fun v22 g23 hIg23 hfg23 l_v22 u_v22 => ⟨_, rfl, ?_⟩))
            show mm_W d mmX12_pack 69 [some (.ref 137), some (.int (Int32.ofInt a1)), some (.int (Int32.ofInt a2)), some (.int (Int32.ofInt a3)), some (.int (Int32.ofInt v19))] [.int (Int32.ofInt v22)] (mz_mk g23 x) Q
            exact mm_rt rfl rfl (hQ _ _ hIg23 (fun k j hk => ((hfg23 k j (fun h => hk (Or.inr (Or.inr (Or.inr (Or.inr (Or.inr (Or.inr h)))))))).trans (hug1.2 k j (fun h => hk (Or.inl h))))) (by omega) (by omega) (by have h9 := (show g23 137 30 = (g 137 30) from ((hfg23 137 30 (fun h => (absurd (show 137 = 150 from h) (by decide)))).trans ((hug1.2 137 30 (fun h => absurd h.2 (by decide))).trans rfl))); omega))
      · skip
        refine mm_g 2 (pc1 := 33) (lo1 := [some (.ref 137), some (.int (Int32.ofInt a1)), some (.int (Int32.ofInt a2)), some (.int (Int32.ofInt a3)), none]) (st1 := [.int (Int32.ofInt 1), .ref 137]) (H1 := mz_mk g1 x) rfl ?_
        refine mz_cv rfl mt_12_294 (by decide) (sc_137 _) rfl (Nat.le_of_ble_eq_true rfl) (by omega) (c_X12_fail (by omega) hx hIg1 (by decide) (by decide) (fun v24 g25 hIg25 hfg25 l_v24 u_v24 => ⟨_, rfl, ?_⟩))
        show mm_W d mmX12_pack 36 [some (.ref 137), some (.int (Int32.ofInt a1)), some (.int (Int32.ofInt a2)), some (.int (Int32.ofInt a3)), none] [.int (Int32.ofInt v24)] (mz_mk g25 x) Q
        exact mm_rt rfl rfl (hQ _ _ hIg25 (fun k j hk => ((hfg25 k j (fun h => hk (Or.inl h))).trans (hug1.2 k j (fun h => hk (Or.inl h))))) (by omega) (by omega) (by have h9 := (show g25 137 30 = (g 137 30) from ((hfg25 137 30 (fun h => (absurd (show (137 = 137 ∧ 30 = 2) from h) (by decide)))).trans ((hug1.2 137 30 (fun h => absurd h.2 (by decide))).trans rfl))); omega))
def fw_X12_undo (x : mm_X) : Nat → Nat → Prop := fun k j => (k = 137 ∧ j = 2) ∨ (k = 137 ∧ j = 31) ∨ (k = 137 ∧ j = 30) ∨ k = 152 ∨ k = 153 ∨ k = 154 ∨ k = 155
theorem c_X12_undo {d : Nat} (hd : 2 ≤ d) {x : mm_X} (hx : mk_x x) {g : mz_G} (hI : mz_inv g) (p1 : mz_pv g) (p2 : g 137 30 ≤ 999) {Q : (Option Value ⊕ Nat) → mm_H → Prop} (hQ : ∀ (r : Int) (g1 : mz_G), mz_inv g1 → mz_fr (fw_X12_undo x) g g1 → (-1) ≤ r → r ≤ 39 → (g1 137 30 ≤ 999) → Q (.inl (some (.int (Int32.ofInt r)))) (mz_mk g1 x)) : mm_C d 255 [.ref 137] (mz_mk g x) Q := by
  refine ⟨mmX12_undo, [some (.ref 137)], rfl, rfl, ?_⟩
  have bz0 := mz_rd hI bd_137_30
  have hpv := p1
  refine mm_g 2 (pc1 := 2) (lo1 := [some (.ref 137)]) (st1 := [.int (Int32.ofInt 0), .ref 137]) (H1 := mz_mk g x) rfl ?_
  refine mz_pI rfl fd_12_154 (sc_137 _) hI bd_137_2 (by omega) (by omega) (fun g1 hIg1 hug1 => ?_)
  refine mm_g 1 (pc1 := 6) (lo1 := [some (.ref 137)]) (st1 := [.ref 137]) (H1 := mz_mk g1 x) rfl ?_
  refine mz_gI rfl fd_12_310 (by decide) (sc_137 _) hIg1 bd_137_31 (fun v2 e_v2 l_v2 u_v2 => ?_)
  refine mz_if_ne (tgt := 14) rfl rfl (mz_rg l_v2 u_v2) (fun c9_2 => ?_) (fun c9_2 => ?_)
  · skip
    refine mm_g 2 (pc1 := 16) (lo1 := [some (.ref 137)]) (st1 := [.ref 137, .ref 137]) (H1 := mz_mk g1 x) rfl ?_
    refine mz_fgI (v := v2) rfl fd_12_310 (by decide) (sc_137 _) e_v2 ?_
    refine mm_g 1 (pc1 := 20) (lo1 := [some (.ref 137)]) (st1 := [.int (Int32.ofInt 1), .int (Int32.ofInt v2), .ref 137]) (H1 := mz_mk g1 x) rfl ?_
    refine mz_isub rfl ?_
    refine mz_pI rfl fd_12_310 (sc_137 _) hIg1 bd_137_31 (by omega) (by omega) (fun g3 hIg3 hug3 => ?_)
    refine mm_g 2 (pc1 := 26) (lo1 := [some (.ref 137)]) (st1 := [.ref 137, .ref 137]) (H1 := mz_mk g3 x) rfl ?_
    refine mz_fgR (v := 156) rfl fd_12_85 (by decide) (sc_137 _) (rf_137_29 _ _ _) ?_
    refine mz_bip rfl bip_25 ?_
    refine mm_g 1 (pc1 := 32) (lo1 := [some (.ref 137)]) (st1 := [.ref 137, .int (Int32.ofInt 25), .ref 156, .ref 137]) (H1 := mz_mk g3 x) rfl ?_
    refine mz_fgI (v := (v2 - 1)) rfl fd_12_310 (by decide) (sc_137 _) (show g3 137 31 = (v2 - 1) from hug3.1) ?_
    refine mz_imul rfl ?_
    refine mz_cv rfl mt_12_421 (by decide) (sc_137 _) rfl (Nat.le_of_ble_eq_true rfl) (by omega) (c_X12_recall (by omega) hx hIg3 rwp_156 (by omega) (by omega) (by omega) (by omega) (fun g4 hIg4 hfg4 hp5 => ⟨_, rfl, ?_⟩))
    show mm_W d mmX12_undo 39 [some (.ref 137)] [] (mz_mk g4 x) Q
    refine mm_g 1 (pc1 := 40) (lo1 := [some (.ref 137)]) (st1 := [.ref 137]) (H1 := mz_mk g4 x) rfl ?_
    refine mz_fgI (v := (v2 - 1)) rfl fd_12_310 (by decide) (sc_137 _) (show g4 137 31 = (v2 - 1) from ((hfg4 137 31 (fun h => (Or.elim h (fun h => (absurd (show (137 = 137 ∧ 31 = 30) from h) (by decide))) (fun h => (Or.elim h (fun h => (absurd (show 137 = 152 from h) (by decide))) (fun h => (Or.elim h (fun h => (absurd (show 137 = 153 from h) (by decide))) (fun h => (Or.elim h (fun h => (absurd (show 137 = 154 from h) (by decide))) (fun h => (absurd (show 137 = 155 from h) (by decide)))))))))))).trans hug3.1)) ?_
    exact mm_rt rfl rfl (hQ _ _ hIg4 (fun k j hk => ((hfg4 k j (fun h => hk (Or.elim h (fun h => (Or.inr (Or.inr (Or.inl h)))) (fun h => (Or.elim h (fun h => (Or.inr (Or.inr (Or.inr (Or.inl h))))) (fun h => (Or.elim h (fun h => (Or.inr (Or.inr (Or.inr (Or.inr (Or.inl h)))))) (fun h => (Or.elim h (fun h => (Or.inr (Or.inr (Or.inr (Or.inr (Or.inr (Or.inl h))))))) (fun h => (Or.inr (Or.inr (Or.inr (Or.inr (Or.inr (Or.inr h)))))))))))))))).trans ((hug3.2 k j (fun h => hk (Or.inr (Or.inl h)))).trans (hug1.2 k j (fun h => hk (Or.inl h)))))) (by omega) (by omega) (by have h9 := (show g4 137 30 = (g4 137 30) from rfl); omega))
  · skip
    refine mm_g 1 (pc1 := 13) (lo1 := [some (.ref 137)]) (st1 := [.int (Int32.ofInt (-1))]) (H1 := mz_mk g1 x) rfl ?_
    exact mm_rt rfl rfl (hQ _ _ hIg1 (fun k j hk => (hug1.2 k j (fun h => hk (Or.inl h)))) (by decide) (by decide) (by have h9 := (show g1 137 30 = (g 137 30) from ((hug1.2 137 30 (fun h => absurd h.2 (by decide))).trans rfl)); omega))
def fl_X12_nearest_22 (x : mm_X) (a1 : Int) (a2 : Int) : Nat → Nat → Prop := fun k j => k = 158 ∨ (k = 137 ∧ j = 37) ∨ k = 159
def fw_X12_nearest (x : mm_X) (a1 : Int) (a2 : Int) : Nat → Nat → Prop := fun k j => k = 157 ∨ (k = 137 ∧ j = 36) ∨ k = 158 ∨ (k = 137 ∧ j = 37) ∨ k = 159
theorem c_X12_nearest {d : Nat} (hd : 13 ≤ d) {x : mm_X} (hx : mk_x x) {g : mz_G} (hI : mz_inv g) {a1 : Int} (l_a1 : 0 ≤ a1) (u_a1 : a1 ≤ 5) {a2 : Int} (l_a2 : 0 ≤ a2) (u_a2 : a2 ≤ 1) {Q : (Option Value ⊕ Nat) → mm_H → Prop} (hQ : ∀ (r : Int) (g1 : mz_G), mz_inv g1 → mz_fr (fw_X12_nearest x a1 a2) g g1 → (-2147483648) ≤ r → r ≤ 100000 → Q (.inl (some (.int (Int32.ofInt r)))) (mz_mk g1 x)) : mm_C d 256 [.ref 137, .int (Int32.ofInt a1), .int (Int32.ofInt a2)] (mz_mk g x) Q := by
  refine ⟨mmX12_nearest, [some (.ref 137), some (.int (Int32.ofInt a1)), some (.int (Int32.ofInt a2)), none, none, none, none], rfl, rfl, ?_⟩
  refine mm_g 2 (pc1 := 2) (lo1 := [some (.ref 137), some (.int (Int32.ofInt a1)), some (.int (Int32.ofInt a2)), some (.int (Int32.ofInt (-1))), none, none, none]) (st1 := []) (H1 := mz_mk g x) rfl ?_
  refine mz_ldcI (c := 100000) rfl rfl rfl ?_
  refine mm_g 4 (pc1 := 9) (lo1 := [some (.ref 137), some (.int (Int32.ofInt a1)), some (.int (Int32.ofInt a2)), some (.int (Int32.ofInt (-1))), some (.int (Int32.ofInt 100000)), none, none]) (st1 := [.ref 137, .ref 137, .ref 137]) (H1 := mz_mk g x) rfl ?_
  refine mz_fgR (v := 157) rfl fd_12_88 (by decide) (sc_137 _) (rf_137_33 _ _ _) ?_
  refine mm_g 1 (pc1 := 13) (lo1 := [some (.ref 137), some (.int (Int32.ofInt a1)), some (.int (Int32.ofInt a2)), some (.int (Int32.ofInt (-1))), some (.int (Int32.ofInt 100000)), none, none]) (st1 := [.int (Int32.ofInt a1), .ref 157, .ref 137, .ref 137]) (H1 := mz_mk g x) rfl ?_
  refine mz_cv rfl mt_12_424 (by decide) (sc_137 _) rfl (Nat.le_of_ble_eq_true rfl) (by omega) (c_X12_blendInto (by omega) hx hI (sh_157 _) (by decide) ba_157 l_a1 u_a1 (by omega) (fun v1 g2 hIg2 hfg2 l_v1 u_v1 => ⟨_, rfl, ?_⟩))
  show mm_W d mmX12_nearest 16 [some (.ref 137), some (.int (Int32.ofInt a1)), some (.int (Int32.ofInt a2)), some (.int (Int32.ofInt (-1))), some (.int (Int32.ofInt 100000)), none, none] [.int (Int32.ofInt v1), .ref 137] (mz_mk g2 x) Q
  refine mz_pI rfl fd_12_323 (sc_137 _) hIg2 bd_137_36 (by omega) (by omega) (fun g3 hIg3 hug3 => ?_)
  refine mm_g 2 (pc1 := 22) (lo1 := [some (.ref 137), some (.int (Int32.ofInt a1)), some (.int (Int32.ofInt a2)), some (.int (Int32.ofInt (-1))), some (.int (Int32.ofInt 100000)), some (.int (Int32.ofInt 0)), none]) (st1 := []) (H1 := mz_mk g3 x) rfl ?_
  have L11 : ∀ n10 : Nat, ∀ (v4 : Int) (v5 : Int) (v6 : Int) (o7 : Option Value) (g8 : mz_G), (8 - v6).toNat = n10 → (-1) ≤ v4 → v4 ≤ 16 → (-2147483648) ≤ v5 → v5 ≤ 100000 → 0 ≤ v6 → v6 ≤ 8 → mz_nl o7 → mz_inv g8 → mz_fr (fl_X12_nearest_22 x a1 a2) g3 g8 → mm_W d mmX12_nearest 22 [some (.ref 137), some (.int (Int32.ofInt a1)), some (.int (Int32.ofInt a2)), some (.int (Int32.ofInt v4)), some (.int (Int32.ofInt v5)), some (.int (Int32.ofInt v6)), o7] [] (mz_mk g8 x) Q := by
    intro n10
    induction n10 using Nat.strongRecOn with
    | ind n10 ih9 =>
    intro v4 v5 v6 o7 g8 hmn10 l_v4 u_v4 l_v5 u_v5 l_v6 u_v6 h_o7 hIg8 hfg8
    refine mm_g 2 (pc1 := 25) (lo1 := [some (.ref 137), some (.int (Int32.ofInt a1)), some (.int (Int32.ofInt a2)), some (.int (Int32.ofInt v4)), some (.int (Int32.ofInt v5)), some (.int (Int32.ofInt v6)), o7]) (st1 := [.ref 137, .int (Int32.ofInt v6)]) (H1 := mz_mk g8 x) rfl ?_
    refine mz_fgR (v := 140) rfl fd_12_36 (by decide) (sc_137 _) (rf_137_3 _ _ _) ?_
    refine mm_g 1 (pc1 := 29) (lo1 := [some (.ref 137), some (.int (Int32.ofInt a1)), some (.int (Int32.ofInt a2)), some (.int (Int32.ofInt v4)), some (.int (Int32.ofInt v5)), some (.int (Int32.ofInt v6)), o7]) (st1 := [.int (Int32.ofInt 0), .ref 140, .int (Int32.ofInt v6)]) (H1 := mz_mk g8 x) rfl ?_
    refine mz_aI rfl (sh_140 _) (by omega) (by omega) (by decide) hIg8 bt_140_0 (fun v12 e_v12 l_v12 u_v12 => ?_)
    have e_v12 : g8 140 0 = v12 := e_v12
    refine mz_ic_ge (tgt := 77) rfl rfl (mz_rg l_v6 u_v6) (mz_rg l_v12 u_v12) (fun c30_12 => ?_) (fun c30_12 => ?_)
    · skip
      refine mm_g 1 (pc1 := 78) (lo1 := [some (.ref 137), some (.int (Int32.ofInt a1)), some (.int (Int32.ofInt a2)), some (.int (Int32.ofInt v4)), some (.int (Int32.ofInt v5)), some (.int (Int32.ofInt v6)), o7]) (st1 := [.int (Int32.ofInt a2)]) (H1 := mz_mk g8 x) rfl ?_
      refine mz_if_eq (tgt := 85) rfl rfl (mz_rg l_a2 u_a2) (fun c78_12 => ?_) (fun c78_12 => ?_)
      · skip
        refine mm_g 1 (pc1 := 87) (lo1 := [some (.ref 137), some (.int (Int32.ofInt a1)), some (.int (Int32.ofInt a2)), some (.int (Int32.ofInt v4)), some (.int (Int32.ofInt v5)), some (.int (Int32.ofInt v6)), o7]) (st1 := [.int (Int32.ofInt v5)]) (H1 := mz_mk g8 x) rfl ?_
        exact mm_rt rfl rfl (hQ _ _ hIg8 (fun k j hk => ((hfg8 k j (fun h => hk (Or.elim h (fun h => (Or.inr (Or.inr (Or.inl h)))) (fun h => (Or.elim h (fun h => (Or.inr (Or.inr (Or.inr (Or.inl h))))) (fun h => (Or.inr (Or.inr (Or.inr (Or.inr h)))))))))).trans ((hug3.2 k j (fun h => hk (Or.inr (Or.inl h)))).trans (hfg2 k j (fun h => hk (Or.inl h)))))) (by omega) (by omega))
      · skip
        refine mm_g 1 (pc1 := 82) (lo1 := [some (.ref 137), some (.int (Int32.ofInt a1)), some (.int (Int32.ofInt a2)), some (.int (Int32.ofInt v4)), some (.int (Int32.ofInt v5)), some (.int (Int32.ofInt v6)), o7]) (st1 := [.int (Int32.ofInt v4)]) (H1 := mz_mk g8 x) rfl ?_
        refine mz_gt (tgt := 87) rfl rfl ?_
        exact mm_rt rfl rfl (hQ _ _ hIg8 (fun k j hk => ((hfg8 k j (fun h => hk (Or.elim h (fun h => (Or.inr (Or.inr (Or.inl h)))) (fun h => (Or.elim h (fun h => (Or.inr (Or.inr (Or.inr (Or.inl h))))) (fun h => (Or.inr (Or.inr (Or.inr (Or.inr h)))))))))).trans ((hug3.2 k j (fun h => hk (Or.inr (Or.inl h)))).trans (hfg2 k j (fun h => hk (Or.inl h)))))) (by omega) (by omega))
    · skip
      refine mm_g 3 (pc1 := 36) (lo1 := [some (.ref 137), some (.int (Int32.ofInt a1)), some (.int (Int32.ofInt a2)), some (.int (Int32.ofInt v4)), some (.int (Int32.ofInt v5)), some (.int (Int32.ofInt v6)), o7]) (st1 := [.ref 137, .ref 137, .ref 137]) (H1 := mz_mk g8 x) rfl ?_
      refine mz_fgR (v := 158) rfl fd_12_91 (by decide) (sc_137 _) (rf_137_34 _ _ _) ?_
      refine mm_g 1 (pc1 := 41) (lo1 := [some (.ref 137), some (.int (Int32.ofInt a1)), some (.int (Int32.ofInt a2)), some (.int (Int32.ofInt v4)), some (.int (Int32.ofInt v5)), some (.int (Int32.ofInt v6)), o7]) (st1 := [.int (Int32.ofInt v6), .ref 158, .ref 137, .ref 137]) (H1 := mz_mk g8 x) rfl ?_
      refine mz_cv rfl mt_12_336 (by decide) (sc_137 _) rfl (Nat.le_of_ble_eq_true rfl) (by omega) (c_X12_wordInto (by omega) hx hIg8 (sh_158 _) (by decide) ba_158 (by omega) (by omega) (by omega) (fun v13 g14 hIg14 hfg14 l_v13 u_v13 => ⟨_, rfl, ?_⟩))
      show mm_W d mmX12_nearest 44 [some (.ref 137), some (.int (Int32.ofInt a1)), some (.int (Int32.ofInt a2)), some (.int (Int32.ofInt v4)), some (.int (Int32.ofInt v5)), some (.int (Int32.ofInt v6)), o7] [.int (Int32.ofInt v13), .ref 137] (mz_mk g14 x) Q
      refine mz_pI rfl fd_12_326 (sc_137 _) hIg14 bd_137_37 (by omega) (by omega) (fun g15 hIg15 hug15 => ?_)
      refine mm_g 2 (pc1 := 49) (lo1 := [some (.ref 137), some (.int (Int32.ofInt a1)), some (.int (Int32.ofInt a2)), some (.int (Int32.ofInt v4)), some (.int (Int32.ofInt v5)), some (.int (Int32.ofInt v6)), o7]) (st1 := [.int (Int32.ofInt 1), .ref 137]) (H1 := mz_mk g15 x) rfl ?_
      refine mz_cv rfl mt_12_427 (by decide) (sc_137 _) rfl (Nat.le_of_ble_eq_true rfl) (by omega) (c_X12_compared (by omega) hx hIg15 (by decide) (by decide) (fun v16 g17 hIg17 hfg17 l_v16 u_v16 => ⟨_, rfl, ?_⟩))
      show mm_W d mmX12_nearest 52 [some (.ref 137), some (.int (Int32.ofInt a1)), some (.int (Int32.ofInt a2)), some (.int (Int32.ofInt v4)), some (.int (Int32.ofInt v5)), some (.int (Int32.ofInt v6)), o7] [.int (Int32.ofInt v16)] (mz_mk g17 x) Q
      refine mm_g 3 (pc1 := 58) (lo1 := [some (.ref 137), some (.int (Int32.ofInt a1)), some (.int (Int32.ofInt a2)), some (.int (Int32.ofInt v4)), some (.int (Int32.ofInt v5)), some (.int (Int32.ofInt v6)), some (.int (Int32.ofInt v16))]) (st1 := [.int (Int32.ofInt v5), .int (Int32.ofInt v16)]) (H1 := mz_mk g17 x) rfl ?_
      refine mz_ic_lt (tgt := 64) rfl rfl (mz_rg l_v16 u_v16) (mz_rg l_v5 u_v5) (fun c58_17 => ?_) (fun c58_17 => ?_)
      · skip
        refine mm_g 4 (pc1 := 71) (lo1 := [some (.ref 137), some (.int (Int32.ofInt a1)), some (.int (Int32.ofInt a2)), some (.int (Int32.ofInt v6)), some (.int (Int32.ofInt v16)), some (.int (Int32.ofInt v6)), some (.int (Int32.ofInt v16))]) (st1 := []) (H1 := mz_mk g17 x) rfl ?_
        refine mz_iincR (v := v6) (lo2 := [some (.ref 137), some (.int (Int32.ofInt a1)), some (.int (Int32.ofInt a2)), some (.int (Int32.ofInt v6)), some (.int (Int32.ofInt v16)), some (.int (Int32.ofInt (v6 + 1))), some (.int (Int32.ofInt v16))]) rfl rfl rfl (Nat.le_of_ble_eq_true rfl) rfl ?_
        refine mz_gt (tgt := 22) rfl rfl ?_
        exact ih9 ((8 - (v6 + 1)).toNat) (by omega) v6 v16 (v6 + 1) (some (.int (Int32.ofInt v16))) g17 rfl (by omega) (by omega) (by omega) (by omega) (by omega) (by omega) (mz_nl_i _) hIg17 (fun k j hk => ((hfg17 k j (fun h => hk (Or.inr (Or.inr h)))).trans ((hug15.2 k j (fun h => hk (Or.inr (Or.inl h)))).trans ((hfg14 k j (fun h => hk (Or.inl h))).trans (hfg8 k j (fun h => hk (Or.elim h (fun h => (Or.inl h)) (fun h => (Or.elim h (fun h => (Or.inr (Or.inl h))) (fun h => (Or.inr (Or.inr h))))))))))))
      · skip
        refine mz_gt (tgt := 71) rfl rfl ?_
        refine mz_iincR (v := v6) (lo2 := [some (.ref 137), some (.int (Int32.ofInt a1)), some (.int (Int32.ofInt a2)), some (.int (Int32.ofInt v4)), some (.int (Int32.ofInt v5)), some (.int (Int32.ofInt (v6 + 1))), some (.int (Int32.ofInt v16))]) rfl rfl rfl (Nat.le_of_ble_eq_true rfl) rfl ?_
        refine mz_gt (tgt := 22) rfl rfl ?_
        exact ih9 ((8 - (v6 + 1)).toNat) (by omega) v4 v5 (v6 + 1) (some (.int (Int32.ofInt v16))) g17 rfl (by omega) (by omega) (by omega) (by omega) (by omega) (by omega) (mz_nl_i _) hIg17 (fun k j hk => ((hfg17 k j (fun h => hk (Or.inr (Or.inr h)))).trans ((hug15.2 k j (fun h => hk (Or.inr (Or.inl h)))).trans ((hfg14 k j (fun h => hk (Or.inl h))).trans (hfg8 k j (fun h => hk (Or.elim h (fun h => (Or.inl h)) (fun h => (Or.elim h (fun h => (Or.inr (Or.inl h))) (fun h => (Or.inr (Or.inr h))))))))))))
  exact L11 _ (-1) 100000 0 none g3 rfl (by decide) (by decide) (by decide) (by decide) (by decide) (by decide) mz_nl_n hIg3 (fun _ _ _ => rfl)
def fw_X12_then (x : mm_X) (a1 : Int) (a2 : Int) (a3 : Int) : Nat → Nat → Prop := fun k j => (k = 137 ∧ j = 2) ∨ k = 162 ∨ (k = 160 ∧ j = 0) ∨ (k = 160 ∧ j = 1) ∨ (k = 160 ∧ j = 2) ∨ (k = 160 ∧ j = 3) ∨ (k = 160 ∧ j = 4) ∨ (k = 160 ∧ j = 5) ∨ (k = 160 ∧ j = 6) ∨ k = 161 ∨ k = 152 ∨ (k = 137 ∧ j = 30) ∨ k = 157 ∨ (k = 137 ∧ j = 36) ∨ k = 158 ∨ (k = 137 ∧ j = 37) ∨ k = 159 ∨ k = 153 ∨ k = 154 ∨ k = 155
theorem c_X12_then {d : Nat} (hd : 16 ≤ d) {x : mm_X} (hx : mk_x x) {g : mz_G} (hI : mz_inv g) {a1 : Int} (l_a1 : (-2147483648) ≤ a1) (u_a1 : a1 ≤ 2147483647) {a2 : Int} (l_a2 : (-2147483648) ≤ a2) (u_a2 : a2 ≤ 2147483647) {a3 : Int} (l_a3 : (-2147483648) ≤ a3) (u_a3 : a3 ≤ 2147483647) (p1 : mz_pv g) (p2 : g 137 30 ≤ 999) {Q : (Option Value ⊕ Nat) → mm_H → Prop} (hQ : ∀ (r : Int) (g1 : mz_G), mz_inv g1 → mz_fr (fw_X12_then x a1 a2 a3) g g1 → (-2147483648) ≤ r → r ≤ 100000 → (g1 137 30 ≤ 999) → Q (.inl (some (.int (Int32.ofInt r)))) (mz_mk g1 x)) : mm_C d 257 [.ref 137, .int (Int32.ofInt a1), .int (Int32.ofInt a2), .int (Int32.ofInt a3)] (mz_mk g x) Q := by
  refine ⟨mmX12_then, [some (.ref 137), some (.int (Int32.ofInt a1)), some (.int (Int32.ofInt a2)), some (.int (Int32.ofInt a3)), none], rfl, rfl, ?_⟩
  have bz0 := mz_rd hI bd_137_30
  have hpv := p1
  refine mm_g 2 (pc1 := 2) (lo1 := [some (.ref 137), some (.int (Int32.ofInt a1)), some (.int (Int32.ofInt a2)), some (.int (Int32.ofInt a3)), none]) (st1 := [.int (Int32.ofInt 0), .ref 137]) (H1 := mz_mk g x) rfl ?_
  refine mz_pI rfl fd_12_154 (sc_137 _) hI bd_137_2 (by omega) (by omega) (fun g1 hIg1 hug1 => ?_)
  refine mm_g 2 (pc1 := 7) (lo1 := [some (.ref 137), some (.int (Int32.ofInt a1)), some (.int (Int32.ofInt a2)), some (.int (Int32.ofInt a3)), none]) (st1 := [.int (Int32.ofInt a1), .ref 137]) (H1 := mz_mk g1 x) rfl ?_
  refine mz_cv rfl mt_12_391 (by decide) (sc_137 _) rfl (Nat.le_of_ble_eq_true rfl) (by omega) (c_X12_isTrunk (by omega) hx hIg1 l_a1 u_a1 (fun v2 l_v2 u_v2 hp3 hp4 => ⟨_, rfl, ?_⟩))
  show mm_W d mmX12_then 10 [some (.ref 137), some (.int (Int32.ofInt a1)), some (.int (Int32.ofInt a2)), some (.int (Int32.ofInt a3)), none] [.int (Int32.ofInt v2)] (mz_mk g1 x) Q
  refine mz_if_eq (tgt := 25) rfl rfl (mz_rg l_v2 u_v2) (fun c10_4 => ?_) (fun c10_4 => ?_)
  · skip
    refine mm_g 2 (pc1 := 27) (lo1 := [some (.ref 137), some (.int (Int32.ofInt a1)), some (.int (Int32.ofInt a2)), some (.int (Int32.ofInt a3)), none]) (st1 := [.int (Int32.ofInt 1), .ref 137]) (H1 := mz_mk g1 x) rfl ?_
    refine mz_cv rfl mt_12_294 (by decide) (sc_137 _) rfl (Nat.le_of_ble_eq_true rfl) (by omega) (c_X12_fail (by omega) hx hIg1 (by decide) (by decide) (fun v5 g6 hIg6 hfg6 l_v5 u_v5 => ⟨_, rfl, ?_⟩))
    show mm_W d mmX12_then 30 [some (.ref 137), some (.int (Int32.ofInt a1)), some (.int (Int32.ofInt a2)), some (.int (Int32.ofInt a3)), none] [.int (Int32.ofInt v5)] (mz_mk g6 x) Q
    exact mm_rt rfl rfl (hQ _ _ hIg6 (fun k j hk => ((hfg6 k j (fun h => hk (Or.inl h))).trans (hug1.2 k j (fun h => hk (Or.inl h))))) (by omega) (by omega) (by have h9 := (show g6 137 30 = (g 137 30) from ((hfg6 137 30 (fun h => (absurd (show (137 = 137 ∧ 30 = 2) from h) (by decide)))).trans ((hug1.2 137 30 (fun h => absurd h.2 (by decide))).trans rfl))); omega))
  · skip
    refine mm_g 1 (pc1 := 14) (lo1 := [some (.ref 137), some (.int (Int32.ofInt a1)), some (.int (Int32.ofInt a2)), some (.int (Int32.ofInt a3)), none]) (st1 := [.int (Int32.ofInt a3)]) (H1 := mz_mk g1 x) rfl ?_
    refine mz_i2l rfl (mz_rg l_a3 u_a3) ?_
    refine mz_lcst (c := 0) rfl rfl ?_
    refine mz_l2w (c := 3) rfl rfl rfl ?_
    refine mz_cs rfl mt_12_157 (by decide) rfl (Nat.le_of_ble_eq_true rfl) (by omega) (c_X12_isIn (by omega) hx hIg1 (by omega) (by omega) (by omega) (by omega) (by omega) (by omega) (fun v7 l_v7 u_v7 hp8 => ⟨_, rfl, ?_⟩))
    show mm_W d mmX12_then 22 [some (.ref 137), some (.int (Int32.ofInt a1)), some (.int (Int32.ofInt a2)), some (.int (Int32.ofInt a3)), none] [.int (Int32.ofInt v7)] (mz_mk g1 x) Q
    refine mz_if_ne (tgt := 31) rfl rfl (mz_rg l_v7 u_v7) (fun c22_8 => ?_) (fun c22_8 => ?_)
    · skip
      refine mm_g 1 (pc1 := 32) (lo1 := [some (.ref 137), some (.int (Int32.ofInt a1)), some (.int (Int32.ofInt a2)), some (.int (Int32.ofInt a3)), none]) (st1 := [.int (Int32.ofInt a2)]) (H1 := mz_mk g1 x) rfl ?_
      refine mz_i2l rfl (mz_rg l_a2 u_a2) ?_
      refine mz_lcst (c := 0) rfl rfl ?_
      refine mz_l2w (c := 60) rfl rfl rfl ?_
      refine mz_cs rfl mt_12_157 (by decide) rfl (Nat.le_of_ble_eq_true rfl) (by omega) (c_X12_isIn (by omega) hx hIg1 (by omega) (by omega) (by omega) (by omega) (by omega) (by omega) (fun v9 l_v9 u_v9 hp10 => ⟨_, rfl, ?_⟩))
      show mm_W d mmX12_then 40 [some (.ref 137), some (.int (Int32.ofInt a1)), some (.int (Int32.ofInt a2)), some (.int (Int32.ofInt a3)), none] [.int (Int32.ofInt v9)] (mz_mk g1 x) Q
      refine mz_if_ne (tgt := 49) rfl rfl (mz_rg l_v9 u_v9) (fun c40_10 => ?_) (fun c40_10 => ?_)
      · skip
        refine mm_g 2 (pc1 := 51) (lo1 := [some (.ref 137), some (.int (Int32.ofInt a1)), some (.int (Int32.ofInt a2)), some (.int (Int32.ofInt a3)), none]) (st1 := [.ref 137, .ref 137]) (H1 := mz_mk g1 x) rfl ?_
        refine mz_fgR (v := 162) rfl fd_12_103 (by decide) (sc_137 _) (rf_137_40 _ _ _) ?_
        refine mm_g 1 (pc1 := 55) (lo1 := [some (.ref 137), some (.int (Int32.ofInt a1)), some (.int (Int32.ofInt a2)), some (.int (Int32.ofInt a3)), none]) (st1 := [.int (Int32.ofInt 0), .ref 162, .ref 137]) (H1 := mz_mk g1 x) rfl ?_
        refine mz_cv rfl mt_12_397 (by decide) (sc_137 _) rfl (Nat.le_of_ble_eq_true rfl) (by omega) (c_X12_store (by omega) hx hIg1 rwp_162 (by decide) (by decide) (by omega) (by omega) (by have h9 := (show g1 137 30 = (g 137 30) from ((hug1.2 137 30 (fun h => absurd h.2 (by decide))).trans rfl)); omega) (fun g11 hIg11 hfg11 => ⟨_, rfl, ?_⟩))
        show mm_W d mmX12_then 58 [some (.ref 137), some (.int (Int32.ofInt a1)), some (.int (Int32.ofInt a2)), some (.int (Int32.ofInt a3)), none] [] (mz_mk g11 x) Q
        refine mm_g 2 (pc1 := 60) (lo1 := [some (.ref 137), some (.int (Int32.ofInt a1)), some (.int (Int32.ofInt a2)), some (.int (Int32.ofInt a3)), none]) (st1 := [.int (Int32.ofInt a2), .ref 137]) (H1 := mz_mk g11 x) rfl ?_
        have hq12 : g11 137 30 = (g 137 30) := (show g11 137 30 = (g 137 30) from ((hfg11 137 30 (fun h => (absurd (show 137 = 162 from h) (by decide)))).trans ((hug1.2 137 30 (fun h => absurd h.2 (by decide))).trans rfl)))
        refine mz_cv rfl mt_12_409 (by decide) (sc_137 _) rfl (Nat.le_of_ble_eq_true rfl) (by omega) (c_X12_goOn (by omega) hx hIg11 (by omega) (by omega) (mz_pv_fr hpv (fun _j => ((hfg11 149 _j (fun h => (absurd (show 149 = 162 from h) (by decide)))).trans ((hug1.2 149 _j (fun h => absurd h.1 (by decide))).trans rfl))) ((hfg11 140 3 (fun h => (absurd (show 140 = 162 from h) (by decide)))).trans ((hug1.2 140 3 (fun h => absurd h.1 (by decide))).trans rfl))) (by have h9 := (show g11 137 30 = (g 137 30) from ((hfg11 137 30 (fun h => (absurd (show 137 = 162 from h) (by decide)))).trans ((hug1.2 137 30 (fun h => absurd h.2 (by decide))).trans rfl))); omega) (fun g13 hIg13 hfg13 hp14 => ⟨_, rfl, ?_⟩))
        show mm_W d mmX12_then 63 [some (.ref 137), some (.int (Int32.ofInt a1)), some (.int (Int32.ofInt a2)), some (.int (Int32.ofInt a3)), none] [] (mz_mk g13 x) Q
        refine mm_g 1 (pc1 := 64) (lo1 := [some (.ref 137), some (.int (Int32.ofInt a1)), some (.int (Int32.ofInt a2)), some (.int (Int32.ofInt a3)), none]) (st1 := [.int (Int32.ofInt a3)]) (H1 := mz_mk g13 x) rfl ?_
        refine mz_if_ne (tgt := 76) rfl rfl (mz_rg l_a3 u_a3) (fun c64_14 => ?_) (fun c64_14 => ?_)
        · skip
          refine mm_g 2 (pc1 := 78) (lo1 := [some (.ref 137), some (.int (Int32.ofInt a1)), some (.int (Int32.ofInt a2)), some (.int (Int32.ofInt a3)), none]) (st1 := [.int (Int32.ofInt 1), .int (Int32.ofInt a3)]) (H1 := mz_mk g13 x) rfl ?_
          refine mz_ic_ne (tgt := 89) rfl rfl (mz_rg l_a3 u_a3) ⟨by decide, by decide⟩ (fun c78_14 => ?_) (fun c78_14 => ?_)
          · skip
            refine mm_g 4 (pc1 := 93) (lo1 := [some (.ref 137), some (.int (Int32.ofInt a1)), some (.int (Int32.ofInt a2)), some (.int (Int32.ofInt a3)), none]) (st1 := [.int (Int32.ofInt 2), .int (Int32.ofInt a3), .int (Int32.ofInt a1), .ref 137]) (H1 := mz_mk g13 x) rfl ?_
            refine mz_ic_ne (tgt := 100) rfl rfl (mz_rg l_a3 u_a3) ⟨by decide, by decide⟩ (fun c93_14 => ?_) (fun c93_14 => ?_)
            · skip
              refine mm_g 1 (pc1 := 101) (lo1 := [some (.ref 137), some (.int (Int32.ofInt a1)), some (.int (Int32.ofInt a2)), some (.int (Int32.ofInt a3)), none]) (st1 := [.int (Int32.ofInt 0), .int (Int32.ofInt a1), .ref 137]) (H1 := mz_mk g13 x) rfl ?_
              refine mz_cv rfl mt_12_435 (by decide) (sc_137 _) rfl (Nat.le_of_ble_eq_true rfl) (by omega) (c_X12_nearest (by omega) hx hIg13 (by omega) (by omega) (by decide) (by decide) (fun v15 g16 hIg16 hfg16 l_v15 u_v15 => ⟨_, rfl, ?_⟩))
              show mm_W d mmX12_then 104 [some (.ref 137), some (.int (Int32.ofInt a1)), some (.int (Int32.ofInt a2)), some (.int (Int32.ofInt a3)), none] [.int (Int32.ofInt v15)] (mz_mk g16 x) Q
              refine mm_g 3 (pc1 := 108) (lo1 := [some (.ref 137), some (.int (Int32.ofInt a1)), some (.int (Int32.ofInt a2)), some (.int (Int32.ofInt a3)), some (.int (Int32.ofInt v15))]) (st1 := [.ref 137, .ref 137]) (H1 := mz_mk g16 x) rfl ?_
              refine mz_fgR (v := 162) rfl fd_12_103 (by decide) (sc_137 _) (rf_137_40 _ _ _) ?_
              refine mm_g 1 (pc1 := 112) (lo1 := [some (.ref 137), some (.int (Int32.ofInt a1)), some (.int (Int32.ofInt a2)), some (.int (Int32.ofInt a3)), some (.int (Int32.ofInt v15))]) (st1 := [.int (Int32.ofInt 0), .ref 162, .ref 137]) (H1 := mz_mk g16 x) rfl ?_
              refine mz_cv rfl mt_12_421 (by decide) (sc_137 _) rfl (Nat.le_of_ble_eq_true rfl) (by omega) (c_X12_recall (by omega) hx hIg16 rwp_162 (by decide) (by decide) (by omega) (by omega) (fun g17 hIg17 hfg17 hp18 => ⟨_, rfl, ?_⟩))
              show mm_W d mmX12_then 115 [some (.ref 137), some (.int (Int32.ofInt a1)), some (.int (Int32.ofInt a2)), some (.int (Int32.ofInt a3)), some (.int (Int32.ofInt v15))] [] (mz_mk g17 x) Q
              refine mm_g 1 (pc1 := 117) (lo1 := [some (.ref 137), some (.int (Int32.ofInt a1)), some (.int (Int32.ofInt a2)), some (.int (Int32.ofInt a3)), some (.int (Int32.ofInt v15))]) (st1 := [.int (Int32.ofInt v15)]) (H1 := mz_mk g17 x) rfl ?_
              exact mm_rt rfl rfl (hQ _ _ hIg17 (fun k j hk => ((hfg17 k j (fun h => hk (Or.elim h (fun h => (Or.inr (Or.inr (Or.inr (Or.inr (Or.inr (Or.inr (Or.inr (Or.inr (Or.inr (Or.inr (Or.inr (Or.inl h))))))))))))) (fun h => (Or.elim h (fun h => (Or.inr (Or.inr (Or.inr (Or.inr (Or.inr (Or.inr (Or.inr (Or.inr (Or.inr (Or.inr (Or.inl h)))))))))))) (fun h => (Or.elim h (fun h => (Or.inr (Or.inr (Or.inr (Or.inr (Or.inr (Or.inr (Or.inr (Or.inr (Or.inr (Or.inr (Or.inr (Or.inr (Or.inr (Or.inr (Or.inr (Or.inr (Or.inr (Or.inl h))))))))))))))))))) (fun h => (Or.elim h (fun h => (Or.inr (Or.inr (Or.inr (Or.inr (Or.inr (Or.inr (Or.inr (Or.inr (Or.inr (Or.inr (Or.inr (Or.inr (Or.inr (Or.inr (Or.inr (Or.inr (Or.inr (Or.inr (Or.inl h)))))))))))))))))))) (fun h => (Or.inr (Or.inr (Or.inr (Or.inr (Or.inr (Or.inr (Or.inr (Or.inr (Or.inr (Or.inr (Or.inr (Or.inr (Or.inr (Or.inr (Or.inr (Or.inr (Or.inr (Or.inr (Or.inr h))))))))))))))))))))))))))))).trans ((hfg16 k j (fun h => hk (Or.elim h (fun h => (Or.inr (Or.inr (Or.inr (Or.inr (Or.inr (Or.inr (Or.inr (Or.inr (Or.inr (Or.inr (Or.inr (Or.inr (Or.inl h)))))))))))))) (fun h => (Or.elim h (fun h => (Or.inr (Or.inr (Or.inr (Or.inr (Or.inr (Or.inr (Or.inr (Or.inr (Or.inr (Or.inr (Or.inr (Or.inr (Or.inr (Or.inl h))))))))))))))) (fun h => (Or.elim h (fun h => (Or.inr (Or.inr (Or.inr (Or.inr (Or.inr (Or.inr (Or.inr (Or.inr (Or.inr (Or.inr (Or.inr (Or.inr (Or.inr (Or.inr (Or.inl h)))))))))))))))) (fun h => (Or.elim h (fun h => (Or.inr (Or.inr (Or.inr (Or.inr (Or.inr (Or.inr (Or.inr (Or.inr (Or.inr (Or.inr (Or.inr (Or.inr (Or.inr (Or.inr (Or.inr (Or.inl h))))))))))))))))) (fun h => (Or.inr (Or.inr (Or.inr (Or.inr (Or.inr (Or.inr (Or.inr (Or.inr (Or.inr (Or.inr (Or.inr (Or.inr (Or.inr (Or.inr (Or.inr (Or.inr (Or.inl h))))))))))))))))))))))))))).trans ((hfg13 k j (fun h => hk (Or.elim h (fun h => (Or.inr (Or.inr (Or.inl h)))) (fun h => (Or.elim h (fun h => (Or.inr (Or.inr (Or.inr (Or.inl h))))) (fun h => (Or.elim h (fun h => (Or.inr (Or.inr (Or.inr (Or.inr (Or.inl h)))))) (fun h => (Or.elim h (fun h => (Or.inr (Or.inr (Or.inr (Or.inr (Or.inr (Or.inl h))))))) (fun h => (Or.elim h (fun h => (Or.inr (Or.inr (Or.inr (Or.inr (Or.inr (Or.inr (Or.inl h)))))))) (fun h => (Or.elim h (fun h => (Or.inr (Or.inr (Or.inr (Or.inr (Or.inr (Or.inr (Or.inr (Or.inl h))))))))) (fun h => (Or.elim h (fun h => (Or.inr (Or.inr (Or.inr (Or.inr (Or.inr (Or.inr (Or.inr (Or.inr (Or.inl h)))))))))) (fun h => (Or.elim h (fun h => (Or.inr (Or.inr (Or.inr (Or.inr (Or.inr (Or.inr (Or.inr (Or.inr (Or.inr (Or.inl h))))))))))) (fun h => (Or.elim h (fun h => (Or.inr (Or.inr (Or.inr (Or.inr (Or.inr (Or.inr (Or.inr (Or.inr (Or.inr (Or.inr (Or.inl h)))))))))))) (fun h => (Or.inr (Or.inr (Or.inr (Or.inr (Or.inr (Or.inr (Or.inr (Or.inr (Or.inr (Or.inr (Or.inr (Or.inl h)))))))))))))))))))))))))))))))).trans ((hfg11 k j (fun h => hk (Or.inr (Or.inl h)))).trans (hug1.2 k j (fun h => hk (Or.inl h)))))))) (by omega) (by omega) (by have h9 := (show g17 137 30 = (g17 137 30) from rfl); omega))
            · skip
              refine mm_g 1 (pc1 := 97) (lo1 := [some (.ref 137), some (.int (Int32.ofInt a1)), some (.int (Int32.ofInt a2)), some (.int (Int32.ofInt a3)), none]) (st1 := [.int (Int32.ofInt 1), .int (Int32.ofInt a1), .ref 137]) (H1 := mz_mk g13 x) rfl ?_
              refine mz_gt (tgt := 101) rfl rfl ?_
              refine mz_cv rfl mt_12_435 (by decide) (sc_137 _) rfl (Nat.le_of_ble_eq_true rfl) (by omega) (c_X12_nearest (by omega) hx hIg13 (by omega) (by omega) (by decide) (by decide) (fun v19 g20 hIg20 hfg20 l_v19 u_v19 => ⟨_, rfl, ?_⟩))
              show mm_W d mmX12_then 104 [some (.ref 137), some (.int (Int32.ofInt a1)), some (.int (Int32.ofInt a2)), some (.int (Int32.ofInt a3)), none] [.int (Int32.ofInt v19)] (mz_mk g20 x) Q
              refine mm_g 3 (pc1 := 108) (lo1 := [some (.ref 137), some (.int (Int32.ofInt a1)), some (.int (Int32.ofInt a2)), some (.int (Int32.ofInt a3)), some (.int (Int32.ofInt v19))]) (st1 := [.ref 137, .ref 137]) (H1 := mz_mk g20 x) rfl ?_
              refine mz_fgR (v := 162) rfl fd_12_103 (by decide) (sc_137 _) (rf_137_40 _ _ _) ?_
              refine mm_g 1 (pc1 := 112) (lo1 := [some (.ref 137), some (.int (Int32.ofInt a1)), some (.int (Int32.ofInt a2)), some (.int (Int32.ofInt a3)), some (.int (Int32.ofInt v19))]) (st1 := [.int (Int32.ofInt 0), .ref 162, .ref 137]) (H1 := mz_mk g20 x) rfl ?_
              refine mz_cv rfl mt_12_421 (by decide) (sc_137 _) rfl (Nat.le_of_ble_eq_true rfl) (by omega) (c_X12_recall (by omega) hx hIg20 rwp_162 (by decide) (by decide) (by omega) (by omega) (fun g21 hIg21 hfg21 hp22 => ⟨_, rfl, ?_⟩))
              show mm_W d mmX12_then 115 [some (.ref 137), some (.int (Int32.ofInt a1)), some (.int (Int32.ofInt a2)), some (.int (Int32.ofInt a3)), some (.int (Int32.ofInt v19))] [] (mz_mk g21 x) Q
              refine mm_g 1 (pc1 := 117) (lo1 := [some (.ref 137), some (.int (Int32.ofInt a1)), some (.int (Int32.ofInt a2)), some (.int (Int32.ofInt a3)), some (.int (Int32.ofInt v19))]) (st1 := [.int (Int32.ofInt v19)]) (H1 := mz_mk g21 x) rfl ?_
              exact mm_rt rfl rfl (hQ _ _ hIg21 (fun k j hk => ((hfg21 k j (fun h => hk (Or.elim h (fun h => (Or.inr (Or.inr (Or.inr (Or.inr (Or.inr (Or.inr (Or.inr (Or.inr (Or.inr (Or.inr (Or.inr (Or.inl h))))))))))))) (fun h => (Or.elim h (fun h => (Or.inr (Or.inr (Or.inr (Or.inr (Or.inr (Or.inr (Or.inr (Or.inr (Or.inr (Or.inr (Or.inl h)))))))))))) (fun h => (Or.elim h (fun h => (Or.inr (Or.inr (Or.inr (Or.inr (Or.inr (Or.inr (Or.inr (Or.inr (Or.inr (Or.inr (Or.inr (Or.inr (Or.inr (Or.inr (Or.inr (Or.inr (Or.inr (Or.inl h))))))))))))))))))) (fun h => (Or.elim h (fun h => (Or.inr (Or.inr (Or.inr (Or.inr (Or.inr (Or.inr (Or.inr (Or.inr (Or.inr (Or.inr (Or.inr (Or.inr (Or.inr (Or.inr (Or.inr (Or.inr (Or.inr (Or.inr (Or.inl h)))))))))))))))))))) (fun h => (Or.inr (Or.inr (Or.inr (Or.inr (Or.inr (Or.inr (Or.inr (Or.inr (Or.inr (Or.inr (Or.inr (Or.inr (Or.inr (Or.inr (Or.inr (Or.inr (Or.inr (Or.inr (Or.inr h))))))))))))))))))))))))))))).trans ((hfg20 k j (fun h => hk (Or.elim h (fun h => (Or.inr (Or.inr (Or.inr (Or.inr (Or.inr (Or.inr (Or.inr (Or.inr (Or.inr (Or.inr (Or.inr (Or.inr (Or.inl h)))))))))))))) (fun h => (Or.elim h (fun h => (Or.inr (Or.inr (Or.inr (Or.inr (Or.inr (Or.inr (Or.inr (Or.inr (Or.inr (Or.inr (Or.inr (Or.inr (Or.inr (Or.inl h))))))))))))))) (fun h => (Or.elim h (fun h => (Or.inr (Or.inr (Or.inr (Or.inr (Or.inr (Or.inr (Or.inr (Or.inr (Or.inr (Or.inr (Or.inr (Or.inr (Or.inr (Or.inr (Or.inl h)))))))))))))))) (fun h => (Or.elim h (fun h => (Or.inr (Or.inr (Or.inr (Or.inr (Or.inr (Or.inr (Or.inr (Or.inr (Or.inr (Or.inr (Or.inr (Or.inr (Or.inr (Or.inr (Or.inr (Or.inl h))))))))))))))))) (fun h => (Or.inr (Or.inr (Or.inr (Or.inr (Or.inr (Or.inr (Or.inr (Or.inr (Or.inr (Or.inr (Or.inr (Or.inr (Or.inr (Or.inr (Or.inr (Or.inr (Or.inl h))))))))))))))))))))))))))).trans ((hfg13 k j (fun h => hk (Or.elim h (fun h => (Or.inr (Or.inr (Or.inl h)))) (fun h => (Or.elim h (fun h => (Or.inr (Or.inr (Or.inr (Or.inl h))))) (fun h => (Or.elim h (fun h => (Or.inr (Or.inr (Or.inr (Or.inr (Or.inl h)))))) (fun h => (Or.elim h (fun h => (Or.inr (Or.inr (Or.inr (Or.inr (Or.inr (Or.inl h))))))) (fun h => (Or.elim h (fun h => (Or.inr (Or.inr (Or.inr (Or.inr (Or.inr (Or.inr (Or.inl h)))))))) (fun h => (Or.elim h (fun h => (Or.inr (Or.inr (Or.inr (Or.inr (Or.inr (Or.inr (Or.inr (Or.inl h))))))))) (fun h => (Or.elim h (fun h => (Or.inr (Or.inr (Or.inr (Or.inr (Or.inr (Or.inr (Or.inr (Or.inr (Or.inl h)))))))))) (fun h => (Or.elim h (fun h => (Or.inr (Or.inr (Or.inr (Or.inr (Or.inr (Or.inr (Or.inr (Or.inr (Or.inr (Or.inl h))))))))))) (fun h => (Or.elim h (fun h => (Or.inr (Or.inr (Or.inr (Or.inr (Or.inr (Or.inr (Or.inr (Or.inr (Or.inr (Or.inr (Or.inl h)))))))))))) (fun h => (Or.inr (Or.inr (Or.inr (Or.inr (Or.inr (Or.inr (Or.inr (Or.inr (Or.inr (Or.inr (Or.inr (Or.inl h)))))))))))))))))))))))))))))))).trans ((hfg11 k j (fun h => hk (Or.inr (Or.inl h)))).trans (hug1.2 k j (fun h => hk (Or.inl h)))))))) (by omega) (by omega) (by have h9 := (show g21 137 30 = (g21 137 30) from rfl); omega))
          · skip
            refine mm_g 2 (pc1 := 83) (lo1 := [some (.ref 137), some (.int (Int32.ofInt a1)), some (.int (Int32.ofInt a2)), some (.int (Int32.ofInt a3)), none]) (st1 := [.int (Int32.ofInt a1), .ref 137]) (H1 := mz_mk g13 x) rfl ?_
            refine mz_cv rfl mt_12_368 (by decide) (sc_137 _) rfl (Nat.le_of_ble_eq_true rfl) (by omega) (c_X12_blendSize (by omega) hx hIg13 (by omega) (by omega) (fun v23 l_v23 u_v23 => ⟨_, rfl, ?_⟩))
            show mm_W d mmX12_then 86 [some (.ref 137), some (.int (Int32.ofInt a1)), some (.int (Int32.ofInt a2)), some (.int (Int32.ofInt a3)), none] [.int (Int32.ofInt v23)] (mz_mk g13 x) Q
            refine mz_gt (tgt := 104) rfl rfl ?_
            refine mm_g 3 (pc1 := 108) (lo1 := [some (.ref 137), some (.int (Int32.ofInt a1)), some (.int (Int32.ofInt a2)), some (.int (Int32.ofInt a3)), some (.int (Int32.ofInt v23))]) (st1 := [.ref 137, .ref 137]) (H1 := mz_mk g13 x) rfl ?_
            refine mz_fgR (v := 162) rfl fd_12_103 (by decide) (sc_137 _) (rf_137_40 _ _ _) ?_
            refine mm_g 1 (pc1 := 112) (lo1 := [some (.ref 137), some (.int (Int32.ofInt a1)), some (.int (Int32.ofInt a2)), some (.int (Int32.ofInt a3)), some (.int (Int32.ofInt v23))]) (st1 := [.int (Int32.ofInt 0), .ref 162, .ref 137]) (H1 := mz_mk g13 x) rfl ?_
            refine mz_cv rfl mt_12_421 (by decide) (sc_137 _) rfl (Nat.le_of_ble_eq_true rfl) (by omega) (c_X12_recall (by omega) hx hIg13 rwp_162 (by decide) (by decide) (by omega) (by omega) (fun g24 hIg24 hfg24 hp25 => ⟨_, rfl, ?_⟩))
            show mm_W d mmX12_then 115 [some (.ref 137), some (.int (Int32.ofInt a1)), some (.int (Int32.ofInt a2)), some (.int (Int32.ofInt a3)), some (.int (Int32.ofInt v23))] [] (mz_mk g24 x) Q
            refine mm_g 1 (pc1 := 117) (lo1 := [some (.ref 137), some (.int (Int32.ofInt a1)), some (.int (Int32.ofInt a2)), some (.int (Int32.ofInt a3)), some (.int (Int32.ofInt v23))]) (st1 := [.int (Int32.ofInt v23)]) (H1 := mz_mk g24 x) rfl ?_
            exact mm_rt rfl rfl (hQ _ _ hIg24 (fun k j hk => ((hfg24 k j (fun h => hk (Or.elim h (fun h => (Or.inr (Or.inr (Or.inr (Or.inr (Or.inr (Or.inr (Or.inr (Or.inr (Or.inr (Or.inr (Or.inr (Or.inl h))))))))))))) (fun h => (Or.elim h (fun h => (Or.inr (Or.inr (Or.inr (Or.inr (Or.inr (Or.inr (Or.inr (Or.inr (Or.inr (Or.inr (Or.inl h)))))))))))) (fun h => (Or.elim h (fun h => (Or.inr (Or.inr (Or.inr (Or.inr (Or.inr (Or.inr (Or.inr (Or.inr (Or.inr (Or.inr (Or.inr (Or.inr (Or.inr (Or.inr (Or.inr (Or.inr (Or.inr (Or.inl h))))))))))))))))))) (fun h => (Or.elim h (fun h => (Or.inr (Or.inr (Or.inr (Or.inr (Or.inr (Or.inr (Or.inr (Or.inr (Or.inr (Or.inr (Or.inr (Or.inr (Or.inr (Or.inr (Or.inr (Or.inr (Or.inr (Or.inr (Or.inl h)))))))))))))))))))) (fun h => (Or.inr (Or.inr (Or.inr (Or.inr (Or.inr (Or.inr (Or.inr (Or.inr (Or.inr (Or.inr (Or.inr (Or.inr (Or.inr (Or.inr (Or.inr (Or.inr (Or.inr (Or.inr (Or.inr h))))))))))))))))))))))))))))).trans ((hfg13 k j (fun h => hk (Or.elim h (fun h => (Or.inr (Or.inr (Or.inl h)))) (fun h => (Or.elim h (fun h => (Or.inr (Or.inr (Or.inr (Or.inl h))))) (fun h => (Or.elim h (fun h => (Or.inr (Or.inr (Or.inr (Or.inr (Or.inl h)))))) (fun h => (Or.elim h (fun h => (Or.inr (Or.inr (Or.inr (Or.inr (Or.inr (Or.inl h))))))) (fun h => (Or.elim h (fun h => (Or.inr (Or.inr (Or.inr (Or.inr (Or.inr (Or.inr (Or.inl h)))))))) (fun h => (Or.elim h (fun h => (Or.inr (Or.inr (Or.inr (Or.inr (Or.inr (Or.inr (Or.inr (Or.inl h))))))))) (fun h => (Or.elim h (fun h => (Or.inr (Or.inr (Or.inr (Or.inr (Or.inr (Or.inr (Or.inr (Or.inr (Or.inl h)))))))))) (fun h => (Or.elim h (fun h => (Or.inr (Or.inr (Or.inr (Or.inr (Or.inr (Or.inr (Or.inr (Or.inr (Or.inr (Or.inl h))))))))))) (fun h => (Or.elim h (fun h => (Or.inr (Or.inr (Or.inr (Or.inr (Or.inr (Or.inr (Or.inr (Or.inr (Or.inr (Or.inr (Or.inl h)))))))))))) (fun h => (Or.inr (Or.inr (Or.inr (Or.inr (Or.inr (Or.inr (Or.inr (Or.inr (Or.inr (Or.inr (Or.inr (Or.inl h)))))))))))))))))))))))))))))))).trans ((hfg11 k j (fun h => hk (Or.inr (Or.inl h)))).trans (hug1.2 k j (fun h => hk (Or.inl h))))))) (by omega) (by omega) (by have h9 := (show g24 137 30 = (g24 137 30) from rfl); omega))
        · skip
          refine mm_g 1 (pc1 := 68) (lo1 := [some (.ref 137), some (.int (Int32.ofInt a1)), some (.int (Int32.ofInt a2)), some (.int (Int32.ofInt a3)), none]) (st1 := [.ref 137]) (H1 := mz_mk g13 x) rfl ?_
          refine mz_fgR (v := 152) rfl fd_12_76 (by decide) (sc_137 _) (rf_137_25 _ _ _) ?_
          refine mm_g 1 (pc1 := 72) (lo1 := [some (.ref 137), some (.int (Int32.ofInt a1)), some (.int (Int32.ofInt a2)), some (.int (Int32.ofInt a3)), none]) (st1 := [.int (Int32.ofInt a1), .ref 152]) (H1 := mz_mk g13 x) rfl ?_
          refine mz_aI rfl (sh_152 _) (by omega) (by omega) (by decide) hIg13 (ba_152 _) (fun v26 e_v26 l_v26 u_v26 => ?_)
          refine mz_gt (tgt := 104) rfl rfl ?_
          refine mm_g 3 (pc1 := 108) (lo1 := [some (.ref 137), some (.int (Int32.ofInt a1)), some (.int (Int32.ofInt a2)), some (.int (Int32.ofInt a3)), some (.int (Int32.ofInt v26))]) (st1 := [.ref 137, .ref 137]) (H1 := mz_mk g13 x) rfl ?_
          refine mz_fgR (v := 162) rfl fd_12_103 (by decide) (sc_137 _) (rf_137_40 _ _ _) ?_
          refine mm_g 1 (pc1 := 112) (lo1 := [some (.ref 137), some (.int (Int32.ofInt a1)), some (.int (Int32.ofInt a2)), some (.int (Int32.ofInt a3)), some (.int (Int32.ofInt v26))]) (st1 := [.int (Int32.ofInt 0), .ref 162, .ref 137]) (H1 := mz_mk g13 x) rfl ?_
          refine mz_cv rfl mt_12_421 (by decide) (sc_137 _) rfl (Nat.le_of_ble_eq_true rfl) (by omega) (c_X12_recall (by omega) hx hIg13 rwp_162 (by decide) (by decide) (by omega) (by omega) (fun g27 hIg27 hfg27 hp28 => ⟨_, rfl, ?_⟩))
          show mm_W d mmX12_then 115 [some (.ref 137), some (.int (Int32.ofInt a1)), some (.int (Int32.ofInt a2)), some (.int (Int32.ofInt a3)), some (.int (Int32.ofInt v26))] [] (mz_mk g27 x) Q
          refine mm_g 1 (pc1 := 117) (lo1 := [some (.ref 137), some (.int (Int32.ofInt a1)), some (.int (Int32.ofInt a2)), some (.int (Int32.ofInt a3)), some (.int (Int32.ofInt v26))]) (st1 := [.int (Int32.ofInt v26)]) (H1 := mz_mk g27 x) rfl ?_
          exact mm_rt rfl rfl (hQ _ _ hIg27 (fun k j hk => ((hfg27 k j (fun h => hk (Or.elim h (fun h => (Or.inr (Or.inr (Or.inr (Or.inr (Or.inr (Or.inr (Or.inr (Or.inr (Or.inr (Or.inr (Or.inr (Or.inl h))))))))))))) (fun h => (Or.elim h (fun h => (Or.inr (Or.inr (Or.inr (Or.inr (Or.inr (Or.inr (Or.inr (Or.inr (Or.inr (Or.inr (Or.inl h)))))))))))) (fun h => (Or.elim h (fun h => (Or.inr (Or.inr (Or.inr (Or.inr (Or.inr (Or.inr (Or.inr (Or.inr (Or.inr (Or.inr (Or.inr (Or.inr (Or.inr (Or.inr (Or.inr (Or.inr (Or.inr (Or.inl h))))))))))))))))))) (fun h => (Or.elim h (fun h => (Or.inr (Or.inr (Or.inr (Or.inr (Or.inr (Or.inr (Or.inr (Or.inr (Or.inr (Or.inr (Or.inr (Or.inr (Or.inr (Or.inr (Or.inr (Or.inr (Or.inr (Or.inr (Or.inl h)))))))))))))))))))) (fun h => (Or.inr (Or.inr (Or.inr (Or.inr (Or.inr (Or.inr (Or.inr (Or.inr (Or.inr (Or.inr (Or.inr (Or.inr (Or.inr (Or.inr (Or.inr (Or.inr (Or.inr (Or.inr (Or.inr h))))))))))))))))))))))))))))).trans ((hfg13 k j (fun h => hk (Or.elim h (fun h => (Or.inr (Or.inr (Or.inl h)))) (fun h => (Or.elim h (fun h => (Or.inr (Or.inr (Or.inr (Or.inl h))))) (fun h => (Or.elim h (fun h => (Or.inr (Or.inr (Or.inr (Or.inr (Or.inl h)))))) (fun h => (Or.elim h (fun h => (Or.inr (Or.inr (Or.inr (Or.inr (Or.inr (Or.inl h))))))) (fun h => (Or.elim h (fun h => (Or.inr (Or.inr (Or.inr (Or.inr (Or.inr (Or.inr (Or.inl h)))))))) (fun h => (Or.elim h (fun h => (Or.inr (Or.inr (Or.inr (Or.inr (Or.inr (Or.inr (Or.inr (Or.inl h))))))))) (fun h => (Or.elim h (fun h => (Or.inr (Or.inr (Or.inr (Or.inr (Or.inr (Or.inr (Or.inr (Or.inr (Or.inl h)))))))))) (fun h => (Or.elim h (fun h => (Or.inr (Or.inr (Or.inr (Or.inr (Or.inr (Or.inr (Or.inr (Or.inr (Or.inr (Or.inl h))))))))))) (fun h => (Or.elim h (fun h => (Or.inr (Or.inr (Or.inr (Or.inr (Or.inr (Or.inr (Or.inr (Or.inr (Or.inr (Or.inr (Or.inl h)))))))))))) (fun h => (Or.inr (Or.inr (Or.inr (Or.inr (Or.inr (Or.inr (Or.inr (Or.inr (Or.inr (Or.inr (Or.inr (Or.inl h)))))))))))))))))))))))))))))))).trans ((hfg11 k j (fun h => hk (Or.inr (Or.inl h)))).trans (hug1.2 k j (fun h => hk (Or.inl h))))))) (by omega) (by omega) (by have h9 := (show g27 137 30 = (g27 137 30) from rfl); omega))
      · skip
        refine mm_g 2 (pc1 := 45) (lo1 := [some (.ref 137), some (.int (Int32.ofInt a1)), some (.int (Int32.ofInt a2)), some (.int (Int32.ofInt a3)), none]) (st1 := [.int (Int32.ofInt 2), .ref 137]) (H1 := mz_mk g1 x) rfl ?_
        refine mz_cv rfl mt_12_294 (by decide) (sc_137 _) rfl (Nat.le_of_ble_eq_true rfl) (by omega) (c_X12_fail (by omega) hx hIg1 (by decide) (by decide) (fun v29 g30 hIg30 hfg30 l_v29 u_v29 => ⟨_, rfl, ?_⟩))
        show mm_W d mmX12_then 48 [some (.ref 137), some (.int (Int32.ofInt a1)), some (.int (Int32.ofInt a2)), some (.int (Int32.ofInt a3)), none] [.int (Int32.ofInt v29)] (mz_mk g30 x) Q
        exact mm_rt rfl rfl (hQ _ _ hIg30 (fun k j hk => ((hfg30 k j (fun h => hk (Or.inl h))).trans (hug1.2 k j (fun h => hk (Or.inl h))))) (by omega) (by omega) (by have h9 := (show g30 137 30 = (g 137 30) from ((hfg30 137 30 (fun h => (absurd (show (137 = 137 ∧ 30 = 2) from h) (by decide)))).trans ((hug1.2 137 30 (fun h => absurd h.2 (by decide))).trans rfl))); omega))
    · skip
      refine mm_g 2 (pc1 := 27) (lo1 := [some (.ref 137), some (.int (Int32.ofInt a1)), some (.int (Int32.ofInt a2)), some (.int (Int32.ofInt a3)), none]) (st1 := [.int (Int32.ofInt 1), .ref 137]) (H1 := mz_mk g1 x) rfl ?_
      refine mz_cv rfl mt_12_294 (by decide) (sc_137 _) rfl (Nat.le_of_ble_eq_true rfl) (by omega) (c_X12_fail (by omega) hx hIg1 (by decide) (by decide) (fun v31 g32 hIg32 hfg32 l_v31 u_v31 => ⟨_, rfl, ?_⟩))
      show mm_W d mmX12_then 30 [some (.ref 137), some (.int (Int32.ofInt a1)), some (.int (Int32.ofInt a2)), some (.int (Int32.ofInt a3)), none] [.int (Int32.ofInt v31)] (mz_mk g32 x) Q
      exact mm_rt rfl rfl (hQ _ _ hIg32 (fun k j hk => ((hfg32 k j (fun h => hk (Or.inl h))).trans (hug1.2 k j (fun h => hk (Or.inl h))))) (by omega) (by omega) (by have h9 := (show g32 137 30 = (g 137 30) from ((hfg32 137 30 (fun h => (absurd (show (137 = 137 ∧ 30 = 2) from h) (by decide)))).trans ((hug1.2 137 30 (fun h => absurd h.2 (by decide))).trans rfl))); omega))
def fw_X12_blend (x : mm_X) (a1 : Int) (a2 : Int) (a3 : Int) : Nat → Nat → Prop := fun k j => (k = 137 ∧ j = 2) ∨ k = 162 ∨ (k = 160 ∧ j = 0) ∨ (k = 160 ∧ j = 1) ∨ (k = 160 ∧ j = 2) ∨ (k = 160 ∧ j = 3) ∨ (k = 160 ∧ j = 4) ∨ (k = 160 ∧ j = 5) ∨ (k = 160 ∧ j = 6) ∨ k = 161 ∨ k = 152 ∨ (k = 137 ∧ j = 30) ∨ k = 157 ∨ (k = 137 ∧ j = 36) ∨ k = 153 ∨ k = 154 ∨ k = 155
theorem c_X12_blend {d : Nat} (hd : 16 ≤ d) {x : mm_X} (hx : mk_x x) {g : mz_G} (hI : mz_inv g) {a1 : Int} (l_a1 : (-2147483648) ≤ a1) (u_a1 : a1 ≤ 2147483647) {a2 : Int} (l_a2 : (-2147483648) ≤ a2) (u_a2 : a2 ≤ 2147483647) {a3 : Int} (l_a3 : (-2147483648) ≤ a3) (u_a3 : a3 ≤ 2147483647) (p1 : mz_pv g) (p2 : g 137 30 ≤ 999) {Q : (Option Value ⊕ Nat) → mm_H → Prop} (hQ : ∀ (r : Int) (g1 : mz_G), mz_inv g1 → mz_fr (fw_X12_blend x a1 a2 a3) g g1 → (-2147483648) ≤ r → r ≤ 2147483647 → (g1 137 30 ≤ 999) → Q (.inl (some (.int (Int32.ofInt r)))) (mz_mk g1 x)) : mm_C d 258 [.ref 137, .int (Int32.ofInt a1), .int (Int32.ofInt a2), .int (Int32.ofInt a3)] (mz_mk g x) Q := by
  refine ⟨mmX12_blend, [some (.ref 137), some (.int (Int32.ofInt a1)), some (.int (Int32.ofInt a2)), some (.int (Int32.ofInt a3))], rfl, rfl, ?_⟩
  have bz0 := mz_rd hI bd_137_30
  have hpv := p1
  refine mm_g 2 (pc1 := 2) (lo1 := [some (.ref 137), some (.int (Int32.ofInt a1)), some (.int (Int32.ofInt a2)), some (.int (Int32.ofInt a3))]) (st1 := [.int (Int32.ofInt 0), .ref 137]) (H1 := mz_mk g x) rfl ?_
  refine mz_pI rfl fd_12_154 (sc_137 _) hI bd_137_2 (by omega) (by omega) (fun g1 hIg1 hug1 => ?_)
  refine mm_g 2 (pc1 := 7) (lo1 := [some (.ref 137), some (.int (Int32.ofInt a1)), some (.int (Int32.ofInt a2)), some (.int (Int32.ofInt a3))]) (st1 := [.int (Int32.ofInt a1), .ref 137]) (H1 := mz_mk g1 x) rfl ?_
  refine mz_cv rfl mt_12_391 (by decide) (sc_137 _) rfl (Nat.le_of_ble_eq_true rfl) (by omega) (c_X12_isTrunk (by omega) hx hIg1 l_a1 u_a1 (fun v2 l_v2 u_v2 hp3 hp4 => ⟨_, rfl, ?_⟩))
  show mm_W d mmX12_blend 10 [some (.ref 137), some (.int (Int32.ofInt a1)), some (.int (Int32.ofInt a2)), some (.int (Int32.ofInt a3))] [.int (Int32.ofInt v2)] (mz_mk g1 x) Q
  refine mz_if_ne (tgt := 19) rfl rfl (mz_rg l_v2 u_v2) (fun c10_4 => ?_) (fun c10_4 => ?_)
  · skip
    refine mm_g 1 (pc1 := 20) (lo1 := [some (.ref 137), some (.int (Int32.ofInt a1)), some (.int (Int32.ofInt a2)), some (.int (Int32.ofInt a3))]) (st1 := [.int (Int32.ofInt a3)]) (H1 := mz_mk g1 x) rfl ?_
    refine mz_i2l rfl (mz_rg l_a3 u_a3) ?_
    refine mz_lcst (c := 0) rfl rfl ?_
    refine mz_l2w (c := 60) rfl rfl rfl ?_
    refine mz_cs rfl mt_12_157 (by decide) rfl (Nat.le_of_ble_eq_true rfl) (by omega) (c_X12_isIn (by omega) hx hIg1 (by omega) (by omega) (by omega) (by omega) (by omega) (by omega) (fun v5 l_v5 u_v5 hp6 => ⟨_, rfl, ?_⟩))
    show mm_W d mmX12_blend 28 [some (.ref 137), some (.int (Int32.ofInt a1)), some (.int (Int32.ofInt a2)), some (.int (Int32.ofInt a3))] [.int (Int32.ofInt v5)] (mz_mk g1 x) Q
    refine mz_if_ne (tgt := 37) rfl rfl (mz_rg l_v5 u_v5) (fun c28_6 => ?_) (fun c28_6 => ?_)
    · skip
      refine mm_g 2 (pc1 := 39) (lo1 := [some (.ref 137), some (.int (Int32.ofInt a1)), some (.int (Int32.ofInt a2)), some (.int (Int32.ofInt a3))]) (st1 := [.ref 137, .ref 137]) (H1 := mz_mk g1 x) rfl ?_
      refine mz_fgR (v := 162) rfl fd_12_103 (by decide) (sc_137 _) (rf_137_40 _ _ _) ?_
      refine mm_g 1 (pc1 := 43) (lo1 := [some (.ref 137), some (.int (Int32.ofInt a1)), some (.int (Int32.ofInt a2)), some (.int (Int32.ofInt a3))]) (st1 := [.int (Int32.ofInt 0), .ref 162, .ref 137]) (H1 := mz_mk g1 x) rfl ?_
      refine mz_cv rfl mt_12_397 (by decide) (sc_137 _) rfl (Nat.le_of_ble_eq_true rfl) (by omega) (c_X12_store (by omega) hx hIg1 rwp_162 (by decide) (by decide) (by omega) (by omega) (by have h9 := (show g1 137 30 = (g 137 30) from ((hug1.2 137 30 (fun h => absurd h.2 (by decide))).trans rfl)); omega) (fun g7 hIg7 hfg7 => ⟨_, rfl, ?_⟩))
      show mm_W d mmX12_blend 46 [some (.ref 137), some (.int (Int32.ofInt a1)), some (.int (Int32.ofInt a2)), some (.int (Int32.ofInt a3))] [] (mz_mk g7 x) Q
      refine mm_g 2 (pc1 := 48) (lo1 := [some (.ref 137), some (.int (Int32.ofInt a1)), some (.int (Int32.ofInt a2)), some (.int (Int32.ofInt a3))]) (st1 := [.int (Int32.ofInt a3), .ref 137]) (H1 := mz_mk g7 x) rfl ?_
      have hq8 : g7 137 30 = (g 137 30) := (show g7 137 30 = (g 137 30) from ((hfg7 137 30 (fun h => (absurd (show 137 = 162 from h) (by decide)))).trans ((hug1.2 137 30 (fun h => absurd h.2 (by decide))).trans rfl)))
      refine mz_cv rfl mt_12_409 (by decide) (sc_137 _) rfl (Nat.le_of_ble_eq_true rfl) (by omega) (c_X12_goOn (by omega) hx hIg7 (by omega) (by omega) (mz_pv_fr hpv (fun _j => ((hfg7 149 _j (fun h => (absurd (show 149 = 162 from h) (by decide)))).trans ((hug1.2 149 _j (fun h => absurd h.1 (by decide))).trans rfl))) ((hfg7 140 3 (fun h => (absurd (show 140 = 162 from h) (by decide)))).trans ((hug1.2 140 3 (fun h => absurd h.1 (by decide))).trans rfl))) (by have h9 := (show g7 137 30 = (g 137 30) from ((hfg7 137 30 (fun h => (absurd (show 137 = 162 from h) (by decide)))).trans ((hug1.2 137 30 (fun h => absurd h.2 (by decide))).trans rfl))); omega) (fun g9 hIg9 hfg9 hp10 => ⟨_, rfl, ?_⟩))
      show mm_W d mmX12_blend 51 [some (.ref 137), some (.int (Int32.ofInt a1)), some (.int (Int32.ofInt a2)), some (.int (Int32.ofInt a3))] [] (mz_mk g9 x) Q
      refine mm_g 3 (pc1 := 54) (lo1 := [some (.ref 137), some (.int (Int32.ofInt a1)), some (.int (Int32.ofInt a2)), some (.int (Int32.ofInt a3))]) (st1 := [.ref 137, .ref 137, .ref 137]) (H1 := mz_mk g9 x) rfl ?_
      refine mz_fgR (v := 157) rfl fd_12_88 (by decide) (sc_137 _) (rf_137_33 _ _ _) ?_
      refine mm_g 1 (pc1 := 58) (lo1 := [some (.ref 137), some (.int (Int32.ofInt a1)), some (.int (Int32.ofInt a2)), some (.int (Int32.ofInt a3))]) (st1 := [.int (Int32.ofInt a1), .ref 157, .ref 137, .ref 137]) (H1 := mz_mk g9 x) rfl ?_
      refine mz_cv rfl mt_12_424 (by decide) (sc_137 _) rfl (Nat.le_of_ble_eq_true rfl) (by omega) (c_X12_blendInto (by omega) hx hIg9 (sh_157 _) (by decide) ba_157 (by omega) (by omega) (by omega) (fun v11 g12 hIg12 hfg12 l_v11 u_v11 => ⟨_, rfl, ?_⟩))
      show mm_W d mmX12_blend 61 [some (.ref 137), some (.int (Int32.ofInt a1)), some (.int (Int32.ofInt a2)), some (.int (Int32.ofInt a3))] [.int (Int32.ofInt v11), .ref 137] (mz_mk g12 x) Q
      refine mz_pI rfl fd_12_323 (sc_137 _) hIg12 bd_137_36 (by omega) (by omega) (fun g13 hIg13 hug13 => ?_)
      refine mm_g 2 (pc1 := 66) (lo1 := [some (.ref 137), some (.int (Int32.ofInt a1)), some (.int (Int32.ofInt a2)), some (.int (Int32.ofInt a3))]) (st1 := [.ref 137, .ref 137]) (H1 := mz_mk g13 x) rfl ?_
      refine mz_fgR (v := 162) rfl fd_12_103 (by decide) (sc_137 _) (rf_137_40 _ _ _) ?_
      refine mm_g 1 (pc1 := 70) (lo1 := [some (.ref 137), some (.int (Int32.ofInt a1)), some (.int (Int32.ofInt a2)), some (.int (Int32.ofInt a3))]) (st1 := [.int (Int32.ofInt 0), .ref 162, .ref 137]) (H1 := mz_mk g13 x) rfl ?_
      refine mz_cv rfl mt_12_421 (by decide) (sc_137 _) rfl (Nat.le_of_ble_eq_true rfl) (by omega) (c_X12_recall (by omega) hx hIg13 rwp_162 (by decide) (by decide) (by omega) (by omega) (fun g14 hIg14 hfg14 hp15 => ⟨_, rfl, ?_⟩))
      show mm_W d mmX12_blend 73 [some (.ref 137), some (.int (Int32.ofInt a1)), some (.int (Int32.ofInt a2)), some (.int (Int32.ofInt a3))] [] (mz_mk g14 x) Q
      refine mm_g 1 (pc1 := 74) (lo1 := [some (.ref 137), some (.int (Int32.ofInt a1)), some (.int (Int32.ofInt a2)), some (.int (Int32.ofInt a3))]) (st1 := [.int (Int32.ofInt a2)]) (H1 := mz_mk g14 x) rfl ?_
      refine mz_i2l rfl (mz_rg l_a2 u_a2) ?_
      refine mz_lcst (c := 0) rfl rfl ?_
      refine mm_g 1 (pc1 := 77) (lo1 := [some (.ref 137), some (.int (Int32.ofInt a1)), some (.int (Int32.ofInt a2)), some (.int (Int32.ofInt a3))]) (st1 := [.ref 137, .long (Int64.ofInt 0), .long (Int64.ofInt a2)]) (H1 := mz_mk g14 x) rfl ?_
      refine mz_fgI (v := v11) rfl fd_12_323 (by decide) (sc_137 _) (show g14 137 36 = v11 from ((hfg14 137 36 (fun h => (Or.elim h (fun h => (absurd (show (137 = 137 ∧ 36 = 30) from h) (by decide))) (fun h => (Or.elim h (fun h => (absurd (show 137 = 152 from h) (by decide))) (fun h => (Or.elim h (fun h => (absurd (show 137 = 153 from h) (by decide))) (fun h => (Or.elim h (fun h => (absurd (show 137 = 154 from h) (by decide))) (fun h => (absurd (show 137 = 155 from h) (by decide)))))))))))).trans hug13.1)) ?_
      refine mm_g 1 (pc1 := 81) (lo1 := [some (.ref 137), some (.int (Int32.ofInt a1)), some (.int (Int32.ofInt a2)), some (.int (Int32.ofInt a3))]) (st1 := [.int (Int32.ofInt 1), .int (Int32.ofInt v11), .long (Int64.ofInt 0), .long (Int64.ofInt a2)]) (H1 := mz_mk g14 x) rfl ?_
      refine mz_isub rfl ?_
      refine mz_i2l rfl ⟨by omega, by omega⟩ ?_
      refine mz_cs rfl mt_12_157 (by decide) rfl (Nat.le_of_ble_eq_true rfl) (by omega) (c_X12_isIn (by omega) hx hIg14 (by omega) (by omega) (by omega) (by omega) (by omega) (by omega) (fun v16 l_v16 u_v16 hp17 => ⟨_, rfl, ?_⟩))
      show mm_W d mmX12_blend 86 [some (.ref 137), some (.int (Int32.ofInt a1)), some (.int (Int32.ofInt a2)), some (.int (Int32.ofInt a3))] [.int (Int32.ofInt v16)] (mz_mk g14 x) Q
      refine mz_if_eq (tgt := 98) rfl rfl (mz_rg l_v16 u_v16) (fun c86_17 => ?_) (fun c86_17 => ?_)
      · skip
        refine mm_g 1 (pc1 := 99) (lo1 := [some (.ref 137), some (.int (Int32.ofInt a1)), some (.int (Int32.ofInt a2)), some (.int (Int32.ofInt a3))]) (st1 := [.int (Int32.ofInt (-1))]) (H1 := mz_mk g14 x) rfl ?_
        exact mm_rt rfl rfl (hQ _ _ hIg14 (fun k j hk => ((hfg14 k j (fun h => hk (Or.elim h (fun h => (Or.inr (Or.inr (Or.inr (Or.inr (Or.inr (Or.inr (Or.inr (Or.inr (Or.inr (Or.inr (Or.inr (Or.inl h))))))))))))) (fun h => (Or.elim h (fun h => (Or.inr (Or.inr (Or.inr (Or.inr (Or.inr (Or.inr (Or.inr (Or.inr (Or.inr (Or.inr (Or.inl h)))))))))))) (fun h => (Or.elim h (fun h => (Or.inr (Or.inr (Or.inr (Or.inr (Or.inr (Or.inr (Or.inr (Or.inr (Or.inr (Or.inr (Or.inr (Or.inr (Or.inr (Or.inr (Or.inl h)))))))))))))))) (fun h => (Or.elim h (fun h => (Or.inr (Or.inr (Or.inr (Or.inr (Or.inr (Or.inr (Or.inr (Or.inr (Or.inr (Or.inr (Or.inr (Or.inr (Or.inr (Or.inr (Or.inr (Or.inl h))))))))))))))))) (fun h => (Or.inr (Or.inr (Or.inr (Or.inr (Or.inr (Or.inr (Or.inr (Or.inr (Or.inr (Or.inr (Or.inr (Or.inr (Or.inr (Or.inr (Or.inr (Or.inr h)))))))))))))))))))))))))).trans ((hug13.2 k j (fun h => hk (Or.inr (Or.inr (Or.inr (Or.inr (Or.inr (Or.inr (Or.inr (Or.inr (Or.inr (Or.inr (Or.inr (Or.inr (Or.inr (Or.inl h)))))))))))))))).trans ((hfg12 k j (fun h => hk (Or.inr (Or.inr (Or.inr (Or.inr (Or.inr (Or.inr (Or.inr (Or.inr (Or.inr (Or.inr (Or.inr (Or.inr (Or.inl h))))))))))))))).trans ((hfg9 k j (fun h => hk (Or.elim h (fun h => (Or.inr (Or.inr (Or.inl h)))) (fun h => (Or.elim h (fun h => (Or.inr (Or.inr (Or.inr (Or.inl h))))) (fun h => (Or.elim h (fun h => (Or.inr (Or.inr (Or.inr (Or.inr (Or.inl h)))))) (fun h => (Or.elim h (fun h => (Or.inr (Or.inr (Or.inr (Or.inr (Or.inr (Or.inl h))))))) (fun h => (Or.elim h (fun h => (Or.inr (Or.inr (Or.inr (Or.inr (Or.inr (Or.inr (Or.inl h)))))))) (fun h => (Or.elim h (fun h => (Or.inr (Or.inr (Or.inr (Or.inr (Or.inr (Or.inr (Or.inr (Or.inl h))))))))) (fun h => (Or.elim h (fun h => (Or.inr (Or.inr (Or.inr (Or.inr (Or.inr (Or.inr (Or.inr (Or.inr (Or.inl h)))))))))) (fun h => (Or.elim h (fun h => (Or.inr (Or.inr (Or.inr (Or.inr (Or.inr (Or.inr (Or.inr (Or.inr (Or.inr (Or.inl h))))))))))) (fun h => (Or.elim h (fun h => (Or.inr (Or.inr (Or.inr (Or.inr (Or.inr (Or.inr (Or.inr (Or.inr (Or.inr (Or.inr (Or.inl h)))))))))))) (fun h => (Or.inr (Or.inr (Or.inr (Or.inr (Or.inr (Or.inr (Or.inr (Or.inr (Or.inr (Or.inr (Or.inr (Or.inl h)))))))))))))))))))))))))))))))).trans ((hfg7 k j (fun h => hk (Or.inr (Or.inl h)))).trans (hug1.2 k j (fun h => hk (Or.inl h))))))))) (by decide) (by decide) (by have h9 := (show g14 137 30 = (g14 137 30) from rfl); omega))
      · skip
        refine mm_g 1 (pc1 := 90) (lo1 := [some (.ref 137), some (.int (Int32.ofInt a1)), some (.int (Int32.ofInt a2)), some (.int (Int32.ofInt a3))]) (st1 := [.ref 137]) (H1 := mz_mk g14 x) rfl ?_
        refine mz_fgR (v := 157) rfl fd_12_88 (by decide) (sc_137 _) (rf_137_33 _ _ _) ?_
        refine mm_g 1 (pc1 := 94) (lo1 := [some (.ref 137), some (.int (Int32.ofInt a1)), some (.int (Int32.ofInt a2)), some (.int (Int32.ofInt a3))]) (st1 := [.int (Int32.ofInt a2), .ref 157]) (H1 := mz_mk g14 x) rfl ?_
        refine mz_aI rfl (sh_157 _) (by omega) (by omega) (by decide) hIg14 (ba_157 _) (fun v18 e_v18 l_v18 u_v18 => ?_)
        refine mz_gt (tgt := 99) rfl rfl ?_
        exact mm_rt rfl rfl (hQ _ _ hIg14 (fun k j hk => ((hfg14 k j (fun h => hk (Or.elim h (fun h => (Or.inr (Or.inr (Or.inr (Or.inr (Or.inr (Or.inr (Or.inr (Or.inr (Or.inr (Or.inr (Or.inr (Or.inl h))))))))))))) (fun h => (Or.elim h (fun h => (Or.inr (Or.inr (Or.inr (Or.inr (Or.inr (Or.inr (Or.inr (Or.inr (Or.inr (Or.inr (Or.inl h)))))))))))) (fun h => (Or.elim h (fun h => (Or.inr (Or.inr (Or.inr (Or.inr (Or.inr (Or.inr (Or.inr (Or.inr (Or.inr (Or.inr (Or.inr (Or.inr (Or.inr (Or.inr (Or.inl h)))))))))))))))) (fun h => (Or.elim h (fun h => (Or.inr (Or.inr (Or.inr (Or.inr (Or.inr (Or.inr (Or.inr (Or.inr (Or.inr (Or.inr (Or.inr (Or.inr (Or.inr (Or.inr (Or.inr (Or.inl h))))))))))))))))) (fun h => (Or.inr (Or.inr (Or.inr (Or.inr (Or.inr (Or.inr (Or.inr (Or.inr (Or.inr (Or.inr (Or.inr (Or.inr (Or.inr (Or.inr (Or.inr (Or.inr h)))))))))))))))))))))))))).trans ((hug13.2 k j (fun h => hk (Or.inr (Or.inr (Or.inr (Or.inr (Or.inr (Or.inr (Or.inr (Or.inr (Or.inr (Or.inr (Or.inr (Or.inr (Or.inr (Or.inl h)))))))))))))))).trans ((hfg12 k j (fun h => hk (Or.inr (Or.inr (Or.inr (Or.inr (Or.inr (Or.inr (Or.inr (Or.inr (Or.inr (Or.inr (Or.inr (Or.inr (Or.inl h))))))))))))))).trans ((hfg9 k j (fun h => hk (Or.elim h (fun h => (Or.inr (Or.inr (Or.inl h)))) (fun h => (Or.elim h (fun h => (Or.inr (Or.inr (Or.inr (Or.inl h))))) (fun h => (Or.elim h (fun h => (Or.inr (Or.inr (Or.inr (Or.inr (Or.inl h)))))) (fun h => (Or.elim h (fun h => (Or.inr (Or.inr (Or.inr (Or.inr (Or.inr (Or.inl h))))))) (fun h => (Or.elim h (fun h => (Or.inr (Or.inr (Or.inr (Or.inr (Or.inr (Or.inr (Or.inl h)))))))) (fun h => (Or.elim h (fun h => (Or.inr (Or.inr (Or.inr (Or.inr (Or.inr (Or.inr (Or.inr (Or.inl h))))))))) (fun h => (Or.elim h (fun h => (Or.inr (Or.inr (Or.inr (Or.inr (Or.inr (Or.inr (Or.inr (Or.inr (Or.inl h)))))))))) (fun h => (Or.elim h (fun h => (Or.inr (Or.inr (Or.inr (Or.inr (Or.inr (Or.inr (Or.inr (Or.inr (Or.inr (Or.inl h))))))))))) (fun h => (Or.elim h (fun h => (Or.inr (Or.inr (Or.inr (Or.inr (Or.inr (Or.inr (Or.inr (Or.inr (Or.inr (Or.inr (Or.inl h)))))))))))) (fun h => (Or.inr (Or.inr (Or.inr (Or.inr (Or.inr (Or.inr (Or.inr (Or.inr (Or.inr (Or.inr (Or.inr (Or.inl h)))))))))))))))))))))))))))))))).trans ((hfg7 k j (fun h => hk (Or.inr (Or.inl h)))).trans (hug1.2 k j (fun h => hk (Or.inl h))))))))) (by omega) (by omega) (by have h9 := (show g14 137 30 = (g14 137 30) from rfl); omega))
    · skip
      refine mm_g 2 (pc1 := 33) (lo1 := [some (.ref 137), some (.int (Int32.ofInt a1)), some (.int (Int32.ofInt a2)), some (.int (Int32.ofInt a3))]) (st1 := [.int (Int32.ofInt 2), .ref 137]) (H1 := mz_mk g1 x) rfl ?_
      refine mz_cv rfl mt_12_294 (by decide) (sc_137 _) rfl (Nat.le_of_ble_eq_true rfl) (by omega) (c_X12_fail (by omega) hx hIg1 (by decide) (by decide) (fun v19 g20 hIg20 hfg20 l_v19 u_v19 => ⟨_, rfl, ?_⟩))
      show mm_W d mmX12_blend 36 [some (.ref 137), some (.int (Int32.ofInt a1)), some (.int (Int32.ofInt a2)), some (.int (Int32.ofInt a3))] [.int (Int32.ofInt v19)] (mz_mk g20 x) Q
      exact mm_rt rfl rfl (hQ _ _ hIg20 (fun k j hk => ((hfg20 k j (fun h => hk (Or.inl h))).trans (hug1.2 k j (fun h => hk (Or.inl h))))) (by omega) (by omega) (by have h9 := (show g20 137 30 = (g 137 30) from ((hfg20 137 30 (fun h => (absurd (show (137 = 137 ∧ 30 = 2) from h) (by decide)))).trans ((hug1.2 137 30 (fun h => absurd h.2 (by decide))).trans rfl))); omega))
  · skip
    refine mm_g 2 (pc1 := 15) (lo1 := [some (.ref 137), some (.int (Int32.ofInt a1)), some (.int (Int32.ofInt a2)), some (.int (Int32.ofInt a3))]) (st1 := [.int (Int32.ofInt 1), .ref 137]) (H1 := mz_mk g1 x) rfl ?_
    refine mz_cv rfl mt_12_294 (by decide) (sc_137 _) rfl (Nat.le_of_ble_eq_true rfl) (by omega) (c_X12_fail (by omega) hx hIg1 (by decide) (by decide) (fun v21 g22 hIg22 hfg22 l_v21 u_v21 => ⟨_, rfl, ?_⟩))
    show mm_W d mmX12_blend 18 [some (.ref 137), some (.int (Int32.ofInt a1)), some (.int (Int32.ofInt a2)), some (.int (Int32.ofInt a3))] [.int (Int32.ofInt v21)] (mz_mk g22 x) Q
    exact mm_rt rfl rfl (hQ _ _ hIg22 (fun k j hk => ((hfg22 k j (fun h => hk (Or.inl h))).trans (hug1.2 k j (fun h => hk (Or.inl h))))) (by omega) (by omega) (by have h9 := (show g22 137 30 = (g 137 30) from ((hfg22 137 30 (fun h => (absurd (show (137 = 137 ∧ 30 = 2) from h) (by decide)))).trans ((hug1.2 137 30 (fun h => absurd h.2 (by decide))).trans rfl))); omega))
theorem c_X12_allGrown {d : Nat} (hd : 1 ≤ d) {x : mm_X} (hx : mk_x x) {g : mz_G} (hI : mz_inv g) {Q : (Option Value ⊕ Nat) → mm_H → Prop} (hQ : ∀ (r : Int), (-2147483648) ≤ r → r ≤ 2147483647 → Q (.inl (some (.int (Int32.ofInt r)))) (mz_mk g x)) : mm_C d 259 [.ref 137] (mz_mk g x) Q := by
  refine ⟨mmX12_allGrown, [some (.ref 137), none, none], rfl, rfl, ?_⟩
  refine mm_g 4 (pc1 := 4) (lo1 := [some (.ref 137), some (.int (Int32.ofInt 0)), some (.int (Int32.ofInt 0))]) (st1 := []) (H1 := mz_mk g x) rfl ?_
  have L6 : ∀ n5 : Nat, ∀ (v1 : Int) (v2 : Int), (6 - v2).toNat = n5 → (-2147483648) ≤ v1 → v1 ≤ 2147483647 → 0 ≤ v2 → v2 ≤ 6 → mm_W d mmX12_allGrown 4 [some (.ref 137), some (.int (Int32.ofInt v1)), some (.int (Int32.ofInt v2))] [] (mz_mk g x) Q := by
    intro n5
    induction n5 using Nat.strongRecOn with
    | ind n5 ih4 =>
    intro v1 v2 hmn5 l_v1 u_v1 l_v2 u_v2
    refine mm_g 2 (pc1 := 6) (lo1 := [some (.ref 137), some (.int (Int32.ofInt v1)), some (.int (Int32.ofInt v2))]) (st1 := [.ref 137, .int (Int32.ofInt v2)]) (H1 := mz_mk g x) rfl ?_
    refine mz_fgR (v := 140) rfl fd_12_36 (by decide) (sc_137 _) (rf_137_3 _ _ _) ?_
    refine mm_g 1 (pc1 := 10) (lo1 := [some (.ref 137), some (.int (Int32.ofInt v1)), some (.int (Int32.ofInt v2))]) (st1 := [.int (Int32.ofInt 1), .ref 140, .int (Int32.ofInt v2)]) (H1 := mz_mk g x) rfl ?_
    refine mz_aI rfl (sh_140 _) (by omega) (by omega) (by decide) hI bt_140_1 (fun v7 e_v7 l_v7 u_v7 => ?_)
    have e_v7 : g 140 1 = v7 := e_v7
    refine mz_ic_ge (tgt := 29) rfl rfl (mz_rg l_v2 u_v2) (mz_rg l_v7 u_v7) (fun c11_7 => ?_) (fun c11_7 => ?_)
    · skip
      refine mm_g 1 (pc1 := 30) (lo1 := [some (.ref 137), some (.int (Int32.ofInt v1)), some (.int (Int32.ofInt v2))]) (st1 := [.int (Int32.ofInt v1)]) (H1 := mz_mk g x) rfl ?_
      exact mm_rt rfl rfl (hQ _ (by omega) (by omega))
    · skip
      refine mm_g 2 (pc1 := 16) (lo1 := [some (.ref 137), some (.int (Int32.ofInt v1)), some (.int (Int32.ofInt v2))]) (st1 := [.ref 137, .int (Int32.ofInt v1)]) (H1 := mz_mk g x) rfl ?_
      refine mz_fgR (v := 152) rfl fd_12_76 (by decide) (sc_137 _) (rf_137_25 _ _ _) ?_
      refine mm_g 1 (pc1 := 20) (lo1 := [some (.ref 137), some (.int (Int32.ofInt v1)), some (.int (Int32.ofInt v2))]) (st1 := [.int (Int32.ofInt v2), .ref 152, .int (Int32.ofInt v1)]) (H1 := mz_mk g x) rfl ?_
      refine mz_aI rfl (sh_152 _) (by omega) (by omega) (by decide) hI (ba_152 _) (fun v8 e_v8 l_v8 u_v8 => ?_)
      refine mz_iadd_w rfl (fun v9 _ hwv9 => ?_)
      have l_v9 := hwv9.1
      have u_v9 := hwv9.2
      refine mm_g 1 (pc1 := 23) (lo1 := [some (.ref 137), some (.int (Int32.ofInt v9)), some (.int (Int32.ofInt v2))]) (st1 := []) (H1 := mz_mk g x) rfl ?_
      refine mz_iincR (v := v2) (lo2 := [some (.ref 137), some (.int (Int32.ofInt v9)), some (.int (Int32.ofInt (v2 + 1)))]) rfl rfl rfl (Nat.le_of_ble_eq_true rfl) rfl ?_
      refine mz_gt (tgt := 4) rfl rfl ?_
      exact ih4 ((6 - (v2 + 1)).toNat) (by omega) v9 (v2 + 1) rfl (by omega) (by omega) (by omega) (by omega)
  exact L6 _ 0 0 rfl (by decide) (by decide) (by decide) (by decide)
theorem c_X12_longestNow {d : Nat} (hd : 2 ≤ d) {x : mm_X} (hx : mk_x x) {g : mz_G} (hI : mz_inv g) {Q : (Option Value ⊕ Nat) → mm_H → Prop} (hQ : ∀ (r : Int), (-1) ≤ r → r ≤ 5 → Q (.inl (some (.int (Int32.ofInt r)))) (mz_mk g x)) : mm_C d 260 [.ref 137] (mz_mk g x) Q := by
  refine ⟨mmX12_longestNow, [some (.ref 137), none, none], rfl, rfl, ?_⟩
  refine mm_g 4 (pc1 := 4) (lo1 := [some (.ref 137), some (.int (Int32.ofInt (-1))), some (.int (Int32.ofInt 0))]) (st1 := []) (H1 := mz_mk g x) rfl ?_
  have L6 : ∀ n5 : Nat, ∀ (v1 : Int) (v2 : Int), (6 - v2).toNat = n5 → (-1) ≤ v1 → v1 ≤ 5 → 0 ≤ v2 → v2 ≤ 6 → mm_W d mmX12_longestNow 4 [some (.ref 137), some (.int (Int32.ofInt v1)), some (.int (Int32.ofInt v2))] [] (mz_mk g x) Q := by
    intro n5
    induction n5 using Nat.strongRecOn with
    | ind n5 ih4 =>
    intro v1 v2 hmn5 l_v1 u_v1 l_v2 u_v2
    refine mm_g 2 (pc1 := 6) (lo1 := [some (.ref 137), some (.int (Int32.ofInt v1)), some (.int (Int32.ofInt v2))]) (st1 := [.ref 137, .int (Int32.ofInt v2)]) (H1 := mz_mk g x) rfl ?_
    refine mz_fgR (v := 140) rfl fd_12_36 (by decide) (sc_137 _) (rf_137_3 _ _ _) ?_
    refine mm_g 1 (pc1 := 10) (lo1 := [some (.ref 137), some (.int (Int32.ofInt v1)), some (.int (Int32.ofInt v2))]) (st1 := [.int (Int32.ofInt 1), .ref 140, .int (Int32.ofInt v2)]) (H1 := mz_mk g x) rfl ?_
    refine mz_aI rfl (sh_140 _) (by omega) (by omega) (by decide) hI bt_140_1 (fun v7 e_v7 l_v7 u_v7 => ?_)
    have e_v7 : g 140 1 = v7 := e_v7
    refine mz_ic_ge (tgt := 40) rfl rfl (mz_rg l_v2 u_v2) (mz_rg l_v7 u_v7) (fun c11_7 => ?_) (fun c11_7 => ?_)
    · skip
      refine mm_g 1 (pc1 := 41) (lo1 := [some (.ref 137), some (.int (Int32.ofInt v1)), some (.int (Int32.ofInt v2))]) (st1 := [.int (Int32.ofInt v1)]) (H1 := mz_mk g x) rfl ?_
      exact mm_rt rfl rfl (hQ _ (by omega) (by omega))
    · skip
      refine mm_g 2 (pc1 := 16) (lo1 := [some (.ref 137), some (.int (Int32.ofInt v1)), some (.int (Int32.ofInt v2))]) (st1 := [.int (Int32.ofInt (-1)), .int (Int32.ofInt v1)]) (H1 := mz_mk g x) rfl ?_
      refine mz_ic_eq (tgt := 32) rfl rfl (mz_rg l_v1 u_v1) ⟨by decide, by decide⟩ (fun c16_7 => ?_) (fun c16_7 => ?_)
      · skip
        refine mm_g 2 (pc1 := 34) (lo1 := [some (.ref 137), some (.int (Int32.ofInt v2)), some (.int (Int32.ofInt v2))]) (st1 := []) (H1 := mz_mk g x) rfl ?_
        refine mz_iincR (v := v2) (lo2 := [some (.ref 137), some (.int (Int32.ofInt v2)), some (.int (Int32.ofInt (v2 + 1)))]) rfl rfl rfl (Nat.le_of_ble_eq_true rfl) rfl ?_
        refine mz_gt (tgt := 4) rfl rfl ?_
        exact ih4 ((6 - (v2 + 1)).toNat) (by omega) v2 (v2 + 1) rfl (by omega) (by omega) (by omega) (by omega)
      · skip
        refine mm_g 2 (pc1 := 21) (lo1 := [some (.ref 137), some (.int (Int32.ofInt v1)), some (.int (Int32.ofInt v2))]) (st1 := [.int (Int32.ofInt v2), .ref 137]) (H1 := mz_mk g x) rfl ?_
        refine mz_cv rfl mt_12_368 (by decide) (sc_137 _) rfl (Nat.le_of_ble_eq_true rfl) (by omega) (c_X12_blendSize (by omega) hx hI (by omega) (by omega) (fun v8 l_v8 u_v8 => ⟨_, rfl, ?_⟩))
        show mm_W d mmX12_longestNow 24 [some (.ref 137), some (.int (Int32.ofInt v1)), some (.int (Int32.ofInt v2))] [.int (Int32.ofInt v8)] (mz_mk g x) Q
        refine mm_g 2 (pc1 := 26) (lo1 := [some (.ref 137), some (.int (Int32.ofInt v1)), some (.int (Int32.ofInt v2))]) (st1 := [.int (Int32.ofInt v1), .ref 137, .int (Int32.ofInt v8)]) (H1 := mz_mk g x) rfl ?_
        refine mz_cv rfl mt_12_368 (by decide) (sc_137 _) rfl (Nat.le_of_ble_eq_true rfl) (by omega) (c_X12_blendSize (by omega) hx hI (by omega) (by omega) (fun v9 l_v9 u_v9 => ⟨_, rfl, ?_⟩))
        show mm_W d mmX12_longestNow 29 [some (.ref 137), some (.int (Int32.ofInt v1)), some (.int (Int32.ofInt v2))] [.int (Int32.ofInt v9), .int (Int32.ofInt v8)] (mz_mk g x) Q
        refine mz_ic_le (tgt := 34) rfl rfl (mz_rg l_v8 u_v8) (mz_rg l_v9 u_v9) (fun c29_9 => ?_) (fun c29_9 => ?_)
        · skip
          refine mz_iincR (v := v2) (lo2 := [some (.ref 137), some (.int (Int32.ofInt v1)), some (.int (Int32.ofInt (v2 + 1)))]) rfl rfl rfl (Nat.le_of_ble_eq_true rfl) rfl ?_
          refine mz_gt (tgt := 4) rfl rfl ?_
          exact ih4 ((6 - (v2 + 1)).toNat) (by omega) v1 (v2 + 1) rfl (by omega) (by omega) (by omega) (by omega)
        · skip
          refine mm_g 2 (pc1 := 34) (lo1 := [some (.ref 137), some (.int (Int32.ofInt v2)), some (.int (Int32.ofInt v2))]) (st1 := []) (H1 := mz_mk g x) rfl ?_
          refine mz_iincR (v := v2) (lo2 := [some (.ref 137), some (.int (Int32.ofInt v2)), some (.int (Int32.ofInt (v2 + 1)))]) rfl rfl rfl (Nat.le_of_ble_eq_true rfl) rfl ?_
          refine mz_gt (tgt := 4) rfl rfl ?_
          exact ih4 ((6 - (v2 + 1)).toNat) (by omega) v2 (v2 + 1) rfl (by omega) (by omega) (by omega) (by omega)
  exact L6 _ (-1) 0 rfl (by decide) (by decide) (by decide) (by decide)
def fw_X12_later (x : mm_X) (a1 : Int) (a2 : Int) : Nat → Nat → Prop := fun k j => (k = 137 ∧ j = 2) ∨ k = 162 ∨ (k = 160 ∧ j = 0) ∨ (k = 160 ∧ j = 1) ∨ (k = 160 ∧ j = 2) ∨ (k = 160 ∧ j = 3) ∨ (k = 160 ∧ j = 4) ∨ (k = 160 ∧ j = 5) ∨ (k = 160 ∧ j = 6) ∨ k = 161 ∨ k = 152 ∨ (k = 137 ∧ j = 30) ∨ k = 153 ∨ k = 154 ∨ k = 155
theorem c_X12_later {d : Nat} (hd : 16 ≤ d) {x : mm_X} (hx : mk_x x) {g : mz_G} (hI : mz_inv g) {a1 : Int} (l_a1 : (-2147483648) ≤ a1) (u_a1 : a1 ≤ 2147483647) {a2 : Int} (l_a2 : (-2147483648) ≤ a2) (u_a2 : a2 ≤ 2147483647) (p1 : mz_pv g) (p2 : g 137 30 ≤ 999) {Q : (Option Value ⊕ Nat) → mm_H → Prop} (hQ : ∀ (r : Int) (g1 : mz_G), mz_inv g1 → mz_fr (fw_X12_later x a1 a2) g g1 → (-2147483648) ≤ r → r ≤ 2147483647 → (g1 137 30 ≤ 999) → Q (.inl (some (.int (Int32.ofInt r)))) (mz_mk g1 x)) : mm_C d 261 [.ref 137, .int (Int32.ofInt a1), .int (Int32.ofInt a2)] (mz_mk g x) Q := by
  refine ⟨mmX12_later, [some (.ref 137), some (.int (Int32.ofInt a1)), some (.int (Int32.ofInt a2)), none, none], rfl, rfl, ?_⟩
  have bz0 := mz_rd hI bd_137_30
  have hpv := p1
  refine mm_g 2 (pc1 := 2) (lo1 := [some (.ref 137), some (.int (Int32.ofInt a1)), some (.int (Int32.ofInt a2)), none, none]) (st1 := [.int (Int32.ofInt 0), .ref 137]) (H1 := mz_mk g x) rfl ?_
  refine mz_pI rfl fd_12_154 (sc_137 _) hI bd_137_2 (by omega) (by omega) (fun g1 hIg1 hug1 => ?_)
  refine mm_g 1 (pc1 := 6) (lo1 := [some (.ref 137), some (.int (Int32.ofInt a1)), some (.int (Int32.ofInt a2)), none, none]) (st1 := [.int (Int32.ofInt a2)]) (H1 := mz_mk g1 x) rfl ?_
  refine mz_i2l rfl (mz_rg l_a2 u_a2) ?_
  refine mz_lcst (c := 0) rfl rfl ?_
  refine mz_l2w (c := 2) rfl rfl rfl ?_
  refine mz_cs rfl mt_12_157 (by decide) rfl (Nat.le_of_ble_eq_true rfl) (by omega) (c_X12_isIn (by omega) hx hIg1 (by omega) (by omega) (by omega) (by omega) (by omega) (by omega) (fun v2 l_v2 u_v2 hp3 => ⟨_, rfl, ?_⟩))
  show mm_W d mmX12_later 14 [some (.ref 137), some (.int (Int32.ofInt a1)), some (.int (Int32.ofInt a2)), none, none] [.int (Int32.ofInt v2)] (mz_mk g1 x) Q
  refine mz_if_ne (tgt := 23) rfl rfl (mz_rg l_v2 u_v2) (fun c14_3 => ?_) (fun c14_3 => ?_)
  · skip
    refine mm_g 1 (pc1 := 24) (lo1 := [some (.ref 137), some (.int (Int32.ofInt a1)), some (.int (Int32.ofInt a2)), none, none]) (st1 := [.int (Int32.ofInt a1)]) (H1 := mz_mk g1 x) rfl ?_
    refine mz_i2l rfl (mz_rg l_a1 u_a1) ?_
    refine mz_lcst (c := 0) rfl rfl ?_
    refine mz_l2w (c := 60) rfl rfl rfl ?_
    refine mz_cs rfl mt_12_157 (by decide) rfl (Nat.le_of_ble_eq_true rfl) (by omega) (c_X12_isIn (by omega) hx hIg1 (by omega) (by omega) (by omega) (by omega) (by omega) (by omega) (fun v4 l_v4 u_v4 hp5 => ⟨_, rfl, ?_⟩))
    show mm_W d mmX12_later 32 [some (.ref 137), some (.int (Int32.ofInt a1)), some (.int (Int32.ofInt a2)), none, none] [.int (Int32.ofInt v4)] (mz_mk g1 x) Q
    refine mz_if_ne (tgt := 41) rfl rfl (mz_rg l_v4 u_v4) (fun c32_5 => ?_) (fun c32_5 => ?_)
    · skip
      refine mm_g 1 (pc1 := 42) (lo1 := [some (.ref 137), some (.int (Int32.ofInt a1)), some (.int (Int32.ofInt a2)), none, none]) (st1 := [.ref 137]) (H1 := mz_mk g1 x) rfl ?_
      refine mz_cv rfl mt_12_441 (by decide) (sc_137 _) rfl (Nat.le_of_ble_eq_true rfl) (by omega) (c_X12_allGrown (by omega) hx hIg1 (fun v6 l_v6 u_v6 => ⟨_, rfl, ?_⟩))
      show mm_W d mmX12_later 45 [some (.ref 137), some (.int (Int32.ofInt a1)), some (.int (Int32.ofInt a2)), none, none] [.int (Int32.ofInt v6)] (mz_mk g1 x) Q
      refine mm_g 3 (pc1 := 48) (lo1 := [some (.ref 137), some (.int (Int32.ofInt a1)), some (.int (Int32.ofInt a2)), some (.int (Int32.ofInt v6)), none]) (st1 := [.ref 137, .ref 137]) (H1 := mz_mk g1 x) rfl ?_
      refine mz_fgR (v := 162) rfl fd_12_103 (by decide) (sc_137 _) (rf_137_40 _ _ _) ?_
      refine mm_g 1 (pc1 := 52) (lo1 := [some (.ref 137), some (.int (Int32.ofInt a1)), some (.int (Int32.ofInt a2)), some (.int (Int32.ofInt v6)), none]) (st1 := [.int (Int32.ofInt 0), .ref 162, .ref 137]) (H1 := mz_mk g1 x) rfl ?_
      refine mz_cv rfl mt_12_397 (by decide) (sc_137 _) rfl (Nat.le_of_ble_eq_true rfl) (by omega) (c_X12_store (by omega) hx hIg1 rwp_162 (by decide) (by decide) (by omega) (by omega) (by have h9 := (show g1 137 30 = (g 137 30) from ((hug1.2 137 30 (fun h => absurd h.2 (by decide))).trans rfl)); omega) (fun g7 hIg7 hfg7 => ⟨_, rfl, ?_⟩))
      show mm_W d mmX12_later 55 [some (.ref 137), some (.int (Int32.ofInt a1)), some (.int (Int32.ofInt a2)), some (.int (Int32.ofInt v6)), none] [] (mz_mk g7 x) Q
      refine mm_g 2 (pc1 := 57) (lo1 := [some (.ref 137), some (.int (Int32.ofInt a1)), some (.int (Int32.ofInt a2)), some (.int (Int32.ofInt v6)), none]) (st1 := [.int (Int32.ofInt a1), .ref 137]) (H1 := mz_mk g7 x) rfl ?_
      have hq8 : g7 137 30 = (g 137 30) := (show g7 137 30 = (g 137 30) from ((hfg7 137 30 (fun h => (absurd (show 137 = 162 from h) (by decide)))).trans ((hug1.2 137 30 (fun h => absurd h.2 (by decide))).trans rfl)))
      refine mz_cv rfl mt_12_409 (by decide) (sc_137 _) rfl (Nat.le_of_ble_eq_true rfl) (by omega) (c_X12_goOn (by omega) hx hIg7 (by omega) (by omega) (mz_pv_fr hpv (fun _j => ((hfg7 149 _j (fun h => (absurd (show 149 = 162 from h) (by decide)))).trans ((hug1.2 149 _j (fun h => absurd h.1 (by decide))).trans rfl))) ((hfg7 140 3 (fun h => (absurd (show 140 = 162 from h) (by decide)))).trans ((hug1.2 140 3 (fun h => absurd h.1 (by decide))).trans rfl))) (by have h9 := (show g7 137 30 = (g 137 30) from ((hfg7 137 30 (fun h => (absurd (show 137 = 162 from h) (by decide)))).trans ((hug1.2 137 30 (fun h => absurd h.2 (by decide))).trans rfl))); omega) (fun g9 hIg9 hfg9 hp10 => ⟨_, rfl, ?_⟩))
      show mm_W d mmX12_later 60 [some (.ref 137), some (.int (Int32.ofInt a1)), some (.int (Int32.ofInt a2)), some (.int (Int32.ofInt v6)), none] [] (mz_mk g9 x) Q
      refine mm_g 1 (pc1 := 61) (lo1 := [some (.ref 137), some (.int (Int32.ofInt a1)), some (.int (Int32.ofInt a2)), some (.int (Int32.ofInt v6)), none]) (st1 := [.int (Int32.ofInt a2)]) (H1 := mz_mk g9 x) rfl ?_
      refine mz_if_ne (tgt := 71) rfl rfl (mz_rg l_a2 u_a2) (fun c61_10 => ?_) (fun c61_10 => ?_)
      · skip
        refine mm_g 2 (pc1 := 73) (lo1 := [some (.ref 137), some (.int (Int32.ofInt a1)), some (.int (Int32.ofInt a2)), some (.int (Int32.ofInt v6)), none]) (st1 := [.int (Int32.ofInt 1), .int (Int32.ofInt a2)]) (H1 := mz_mk g9 x) rfl ?_
        refine mz_ic_ne (tgt := 83) rfl rfl (mz_rg l_a2 u_a2) ⟨by decide, by decide⟩ (fun c73_10 => ?_) (fun c73_10 => ?_)
        · skip
          refine mm_g 1 (pc1 := 84) (lo1 := [some (.ref 137), some (.int (Int32.ofInt a1)), some (.int (Int32.ofInt a2)), some (.int (Int32.ofInt v6)), none]) (st1 := [.ref 137]) (H1 := mz_mk g9 x) rfl ?_
          refine mz_cv rfl mt_12_441 (by decide) (sc_137 _) rfl (Nat.le_of_ble_eq_true rfl) (by omega) (c_X12_allGrown (by omega) hx hIg9 (fun v11 l_v11 u_v11 => ⟨_, rfl, ?_⟩))
          show mm_W d mmX12_later 87 [some (.ref 137), some (.int (Int32.ofInt a1)), some (.int (Int32.ofInt a2)), some (.int (Int32.ofInt v6)), none] [.int (Int32.ofInt v11)] (mz_mk g9 x) Q
          refine mm_g 1 (pc1 := 88) (lo1 := [some (.ref 137), some (.int (Int32.ofInt a1)), some (.int (Int32.ofInt a2)), some (.int (Int32.ofInt v6)), none]) (st1 := [.int (Int32.ofInt v6), .int (Int32.ofInt v11)]) (H1 := mz_mk g9 x) rfl ?_
          refine mz_isub_w rfl (fun v12 _ hwv12 => ?_)
          have l_v12 := hwv12.1
          have u_v12 := hwv12.2
          refine mm_g 3 (pc1 := 93) (lo1 := [some (.ref 137), some (.int (Int32.ofInt a1)), some (.int (Int32.ofInt a2)), some (.int (Int32.ofInt v6)), some (.int (Int32.ofInt v12))]) (st1 := [.ref 137, .ref 137]) (H1 := mz_mk g9 x) rfl ?_
          refine mz_fgR (v := 162) rfl fd_12_103 (by decide) (sc_137 _) (rf_137_40 _ _ _) ?_
          refine mm_g 1 (pc1 := 97) (lo1 := [some (.ref 137), some (.int (Int32.ofInt a1)), some (.int (Int32.ofInt a2)), some (.int (Int32.ofInt v6)), some (.int (Int32.ofInt v12))]) (st1 := [.int (Int32.ofInt 0), .ref 162, .ref 137]) (H1 := mz_mk g9 x) rfl ?_
          refine mz_cv rfl mt_12_421 (by decide) (sc_137 _) rfl (Nat.le_of_ble_eq_true rfl) (by omega) (c_X12_recall (by omega) hx hIg9 rwp_162 (by decide) (by decide) (by omega) (by omega) (fun g13 hIg13 hfg13 hp14 => ⟨_, rfl, ?_⟩))
          show mm_W d mmX12_later 100 [some (.ref 137), some (.int (Int32.ofInt a1)), some (.int (Int32.ofInt a2)), some (.int (Int32.ofInt v6)), some (.int (Int32.ofInt v12))] [] (mz_mk g13 x) Q
          refine mm_g 1 (pc1 := 102) (lo1 := [some (.ref 137), some (.int (Int32.ofInt a1)), some (.int (Int32.ofInt a2)), some (.int (Int32.ofInt v6)), some (.int (Int32.ofInt v12))]) (st1 := [.int (Int32.ofInt v12)]) (H1 := mz_mk g13 x) rfl ?_
          exact mm_rt rfl rfl (hQ _ _ hIg13 (fun k j hk => ((hfg13 k j (fun h => hk (Or.elim h (fun h => (Or.inr (Or.inr (Or.inr (Or.inr (Or.inr (Or.inr (Or.inr (Or.inr (Or.inr (Or.inr (Or.inr (Or.inl h))))))))))))) (fun h => (Or.elim h (fun h => (Or.inr (Or.inr (Or.inr (Or.inr (Or.inr (Or.inr (Or.inr (Or.inr (Or.inr (Or.inr (Or.inl h)))))))))))) (fun h => (Or.elim h (fun h => (Or.inr (Or.inr (Or.inr (Or.inr (Or.inr (Or.inr (Or.inr (Or.inr (Or.inr (Or.inr (Or.inr (Or.inr (Or.inl h)))))))))))))) (fun h => (Or.elim h (fun h => (Or.inr (Or.inr (Or.inr (Or.inr (Or.inr (Or.inr (Or.inr (Or.inr (Or.inr (Or.inr (Or.inr (Or.inr (Or.inr (Or.inl h))))))))))))))) (fun h => (Or.inr (Or.inr (Or.inr (Or.inr (Or.inr (Or.inr (Or.inr (Or.inr (Or.inr (Or.inr (Or.inr (Or.inr (Or.inr (Or.inr h)))))))))))))))))))))))).trans ((hfg9 k j (fun h => hk (Or.elim h (fun h => (Or.inr (Or.inr (Or.inl h)))) (fun h => (Or.elim h (fun h => (Or.inr (Or.inr (Or.inr (Or.inl h))))) (fun h => (Or.elim h (fun h => (Or.inr (Or.inr (Or.inr (Or.inr (Or.inl h)))))) (fun h => (Or.elim h (fun h => (Or.inr (Or.inr (Or.inr (Or.inr (Or.inr (Or.inl h))))))) (fun h => (Or.elim h (fun h => (Or.inr (Or.inr (Or.inr (Or.inr (Or.inr (Or.inr (Or.inl h)))))))) (fun h => (Or.elim h (fun h => (Or.inr (Or.inr (Or.inr (Or.inr (Or.inr (Or.inr (Or.inr (Or.inl h))))))))) (fun h => (Or.elim h (fun h => (Or.inr (Or.inr (Or.inr (Or.inr (Or.inr (Or.inr (Or.inr (Or.inr (Or.inl h)))))))))) (fun h => (Or.elim h (fun h => (Or.inr (Or.inr (Or.inr (Or.inr (Or.inr (Or.inr (Or.inr (Or.inr (Or.inr (Or.inl h))))))))))) (fun h => (Or.elim h (fun h => (Or.inr (Or.inr (Or.inr (Or.inr (Or.inr (Or.inr (Or.inr (Or.inr (Or.inr (Or.inr (Or.inl h)))))))))))) (fun h => (Or.inr (Or.inr (Or.inr (Or.inr (Or.inr (Or.inr (Or.inr (Or.inr (Or.inr (Or.inr (Or.inr (Or.inl h)))))))))))))))))))))))))))))))).trans ((hfg7 k j (fun h => hk (Or.inr (Or.inl h)))).trans (hug1.2 k j (fun h => hk (Or.inl h))))))) (by omega) (by omega) (by have h9 := (show g13 137 30 = (g13 137 30) from rfl); omega))
        · skip
          refine mm_g 1 (pc1 := 77) (lo1 := [some (.ref 137), some (.int (Int32.ofInt a1)), some (.int (Int32.ofInt a2)), some (.int (Int32.ofInt v6)), none]) (st1 := [.ref 137]) (H1 := mz_mk g9 x) rfl ?_
          refine mz_cv rfl mt_12_444 (by decide) (sc_137 _) rfl (Nat.le_of_ble_eq_true rfl) (by omega) (c_X12_longestNow (by omega) hx hIg9 (fun v15 l_v15 u_v15 => ⟨_, rfl, ?_⟩))
          show mm_W d mmX12_later 80 [some (.ref 137), some (.int (Int32.ofInt a1)), some (.int (Int32.ofInt a2)), some (.int (Int32.ofInt v6)), none] [.int (Int32.ofInt v15)] (mz_mk g9 x) Q
          refine mz_gt (tgt := 89) rfl rfl ?_
          refine mm_g 3 (pc1 := 93) (lo1 := [some (.ref 137), some (.int (Int32.ofInt a1)), some (.int (Int32.ofInt a2)), some (.int (Int32.ofInt v6)), some (.int (Int32.ofInt v15))]) (st1 := [.ref 137, .ref 137]) (H1 := mz_mk g9 x) rfl ?_
          refine mz_fgR (v := 162) rfl fd_12_103 (by decide) (sc_137 _) (rf_137_40 _ _ _) ?_
          refine mm_g 1 (pc1 := 97) (lo1 := [some (.ref 137), some (.int (Int32.ofInt a1)), some (.int (Int32.ofInt a2)), some (.int (Int32.ofInt v6)), some (.int (Int32.ofInt v15))]) (st1 := [.int (Int32.ofInt 0), .ref 162, .ref 137]) (H1 := mz_mk g9 x) rfl ?_
          refine mz_cv rfl mt_12_421 (by decide) (sc_137 _) rfl (Nat.le_of_ble_eq_true rfl) (by omega) (c_X12_recall (by omega) hx hIg9 rwp_162 (by decide) (by decide) (by omega) (by omega) (fun g16 hIg16 hfg16 hp17 => ⟨_, rfl, ?_⟩))
          show mm_W d mmX12_later 100 [some (.ref 137), some (.int (Int32.ofInt a1)), some (.int (Int32.ofInt a2)), some (.int (Int32.ofInt v6)), some (.int (Int32.ofInt v15))] [] (mz_mk g16 x) Q
          refine mm_g 1 (pc1 := 102) (lo1 := [some (.ref 137), some (.int (Int32.ofInt a1)), some (.int (Int32.ofInt a2)), some (.int (Int32.ofInt v6)), some (.int (Int32.ofInt v15))]) (st1 := [.int (Int32.ofInt v15)]) (H1 := mz_mk g16 x) rfl ?_
          exact mm_rt rfl rfl (hQ _ _ hIg16 (fun k j hk => ((hfg16 k j (fun h => hk (Or.elim h (fun h => (Or.inr (Or.inr (Or.inr (Or.inr (Or.inr (Or.inr (Or.inr (Or.inr (Or.inr (Or.inr (Or.inr (Or.inl h))))))))))))) (fun h => (Or.elim h (fun h => (Or.inr (Or.inr (Or.inr (Or.inr (Or.inr (Or.inr (Or.inr (Or.inr (Or.inr (Or.inr (Or.inl h)))))))))))) (fun h => (Or.elim h (fun h => (Or.inr (Or.inr (Or.inr (Or.inr (Or.inr (Or.inr (Or.inr (Or.inr (Or.inr (Or.inr (Or.inr (Or.inr (Or.inl h)))))))))))))) (fun h => (Or.elim h (fun h => (Or.inr (Or.inr (Or.inr (Or.inr (Or.inr (Or.inr (Or.inr (Or.inr (Or.inr (Or.inr (Or.inr (Or.inr (Or.inr (Or.inl h))))))))))))))) (fun h => (Or.inr (Or.inr (Or.inr (Or.inr (Or.inr (Or.inr (Or.inr (Or.inr (Or.inr (Or.inr (Or.inr (Or.inr (Or.inr (Or.inr h)))))))))))))))))))))))).trans ((hfg9 k j (fun h => hk (Or.elim h (fun h => (Or.inr (Or.inr (Or.inl h)))) (fun h => (Or.elim h (fun h => (Or.inr (Or.inr (Or.inr (Or.inl h))))) (fun h => (Or.elim h (fun h => (Or.inr (Or.inr (Or.inr (Or.inr (Or.inl h)))))) (fun h => (Or.elim h (fun h => (Or.inr (Or.inr (Or.inr (Or.inr (Or.inr (Or.inl h))))))) (fun h => (Or.elim h (fun h => (Or.inr (Or.inr (Or.inr (Or.inr (Or.inr (Or.inr (Or.inl h)))))))) (fun h => (Or.elim h (fun h => (Or.inr (Or.inr (Or.inr (Or.inr (Or.inr (Or.inr (Or.inr (Or.inl h))))))))) (fun h => (Or.elim h (fun h => (Or.inr (Or.inr (Or.inr (Or.inr (Or.inr (Or.inr (Or.inr (Or.inr (Or.inl h)))))))))) (fun h => (Or.elim h (fun h => (Or.inr (Or.inr (Or.inr (Or.inr (Or.inr (Or.inr (Or.inr (Or.inr (Or.inr (Or.inl h))))))))))) (fun h => (Or.elim h (fun h => (Or.inr (Or.inr (Or.inr (Or.inr (Or.inr (Or.inr (Or.inr (Or.inr (Or.inr (Or.inr (Or.inl h)))))))))))) (fun h => (Or.inr (Or.inr (Or.inr (Or.inr (Or.inr (Or.inr (Or.inr (Or.inr (Or.inr (Or.inr (Or.inr (Or.inl h)))))))))))))))))))))))))))))))).trans ((hfg7 k j (fun h => hk (Or.inr (Or.inl h)))).trans (hug1.2 k j (fun h => hk (Or.inl h))))))) (by omega) (by omega) (by have h9 := (show g16 137 30 = (g16 137 30) from rfl); omega))
      · skip
        refine mm_g 1 (pc1 := 65) (lo1 := [some (.ref 137), some (.int (Int32.ofInt a1)), some (.int (Int32.ofInt a2)), some (.int (Int32.ofInt v6)), none]) (st1 := [.ref 137]) (H1 := mz_mk g9 x) rfl ?_
        refine mz_cv rfl mt_12_371 (by decide) (sc_137 _) rfl (Nat.le_of_ble_eq_true rfl) (by omega) (c_X12_fullOnes (by omega) hx hIg9 (fun v18 l_v18 u_v18 => ⟨_, rfl, ?_⟩))
        show mm_W d mmX12_later 68 [some (.ref 137), some (.int (Int32.ofInt a1)), some (.int (Int32.ofInt a2)), some (.int (Int32.ofInt v6)), none] [.int (Int32.ofInt v18)] (mz_mk g9 x) Q
        refine mz_gt (tgt := 89) rfl rfl ?_
        refine mm_g 3 (pc1 := 93) (lo1 := [some (.ref 137), some (.int (Int32.ofInt a1)), some (.int (Int32.ofInt a2)), some (.int (Int32.ofInt v6)), some (.int (Int32.ofInt v18))]) (st1 := [.ref 137, .ref 137]) (H1 := mz_mk g9 x) rfl ?_
        refine mz_fgR (v := 162) rfl fd_12_103 (by decide) (sc_137 _) (rf_137_40 _ _ _) ?_
        refine mm_g 1 (pc1 := 97) (lo1 := [some (.ref 137), some (.int (Int32.ofInt a1)), some (.int (Int32.ofInt a2)), some (.int (Int32.ofInt v6)), some (.int (Int32.ofInt v18))]) (st1 := [.int (Int32.ofInt 0), .ref 162, .ref 137]) (H1 := mz_mk g9 x) rfl ?_
        refine mz_cv rfl mt_12_421 (by decide) (sc_137 _) rfl (Nat.le_of_ble_eq_true rfl) (by omega) (c_X12_recall (by omega) hx hIg9 rwp_162 (by decide) (by decide) (by omega) (by omega) (fun g19 hIg19 hfg19 hp20 => ⟨_, rfl, ?_⟩))
        show mm_W d mmX12_later 100 [some (.ref 137), some (.int (Int32.ofInt a1)), some (.int (Int32.ofInt a2)), some (.int (Int32.ofInt v6)), some (.int (Int32.ofInt v18))] [] (mz_mk g19 x) Q
        refine mm_g 1 (pc1 := 102) (lo1 := [some (.ref 137), some (.int (Int32.ofInt a1)), some (.int (Int32.ofInt a2)), some (.int (Int32.ofInt v6)), some (.int (Int32.ofInt v18))]) (st1 := [.int (Int32.ofInt v18)]) (H1 := mz_mk g19 x) rfl ?_
        exact mm_rt rfl rfl (hQ _ _ hIg19 (fun k j hk => ((hfg19 k j (fun h => hk (Or.elim h (fun h => (Or.inr (Or.inr (Or.inr (Or.inr (Or.inr (Or.inr (Or.inr (Or.inr (Or.inr (Or.inr (Or.inr (Or.inl h))))))))))))) (fun h => (Or.elim h (fun h => (Or.inr (Or.inr (Or.inr (Or.inr (Or.inr (Or.inr (Or.inr (Or.inr (Or.inr (Or.inr (Or.inl h)))))))))))) (fun h => (Or.elim h (fun h => (Or.inr (Or.inr (Or.inr (Or.inr (Or.inr (Or.inr (Or.inr (Or.inr (Or.inr (Or.inr (Or.inr (Or.inr (Or.inl h)))))))))))))) (fun h => (Or.elim h (fun h => (Or.inr (Or.inr (Or.inr (Or.inr (Or.inr (Or.inr (Or.inr (Or.inr (Or.inr (Or.inr (Or.inr (Or.inr (Or.inr (Or.inl h))))))))))))))) (fun h => (Or.inr (Or.inr (Or.inr (Or.inr (Or.inr (Or.inr (Or.inr (Or.inr (Or.inr (Or.inr (Or.inr (Or.inr (Or.inr (Or.inr h)))))))))))))))))))))))).trans ((hfg9 k j (fun h => hk (Or.elim h (fun h => (Or.inr (Or.inr (Or.inl h)))) (fun h => (Or.elim h (fun h => (Or.inr (Or.inr (Or.inr (Or.inl h))))) (fun h => (Or.elim h (fun h => (Or.inr (Or.inr (Or.inr (Or.inr (Or.inl h)))))) (fun h => (Or.elim h (fun h => (Or.inr (Or.inr (Or.inr (Or.inr (Or.inr (Or.inl h))))))) (fun h => (Or.elim h (fun h => (Or.inr (Or.inr (Or.inr (Or.inr (Or.inr (Or.inr (Or.inl h)))))))) (fun h => (Or.elim h (fun h => (Or.inr (Or.inr (Or.inr (Or.inr (Or.inr (Or.inr (Or.inr (Or.inl h))))))))) (fun h => (Or.elim h (fun h => (Or.inr (Or.inr (Or.inr (Or.inr (Or.inr (Or.inr (Or.inr (Or.inr (Or.inl h)))))))))) (fun h => (Or.elim h (fun h => (Or.inr (Or.inr (Or.inr (Or.inr (Or.inr (Or.inr (Or.inr (Or.inr (Or.inr (Or.inl h))))))))))) (fun h => (Or.elim h (fun h => (Or.inr (Or.inr (Or.inr (Or.inr (Or.inr (Or.inr (Or.inr (Or.inr (Or.inr (Or.inr (Or.inl h)))))))))))) (fun h => (Or.inr (Or.inr (Or.inr (Or.inr (Or.inr (Or.inr (Or.inr (Or.inr (Or.inr (Or.inr (Or.inr (Or.inl h)))))))))))))))))))))))))))))))).trans ((hfg7 k j (fun h => hk (Or.inr (Or.inl h)))).trans (hug1.2 k j (fun h => hk (Or.inl h))))))) (by omega) (by omega) (by have h9 := (show g19 137 30 = (g19 137 30) from rfl); omega))
    · skip
      refine mm_g 2 (pc1 := 37) (lo1 := [some (.ref 137), some (.int (Int32.ofInt a1)), some (.int (Int32.ofInt a2)), none, none]) (st1 := [.int (Int32.ofInt 2), .ref 137]) (H1 := mz_mk g1 x) rfl ?_
      refine mz_cv rfl mt_12_294 (by decide) (sc_137 _) rfl (Nat.le_of_ble_eq_true rfl) (by omega) (c_X12_fail (by omega) hx hIg1 (by decide) (by decide) (fun v21 g22 hIg22 hfg22 l_v21 u_v21 => ⟨_, rfl, ?_⟩))
      show mm_W d mmX12_later 40 [some (.ref 137), some (.int (Int32.ofInt a1)), some (.int (Int32.ofInt a2)), none, none] [.int (Int32.ofInt v21)] (mz_mk g22 x) Q
      exact mm_rt rfl rfl (hQ _ _ hIg22 (fun k j hk => ((hfg22 k j (fun h => hk (Or.inl h))).trans (hug1.2 k j (fun h => hk (Or.inl h))))) (by omega) (by omega) (by have h9 := (show g22 137 30 = (g 137 30) from ((hfg22 137 30 (fun h => (absurd (show (137 = 137 ∧ 30 = 2) from h) (by decide)))).trans ((hug1.2 137 30 (fun h => absurd h.2 (by decide))).trans rfl))); omega))
  · skip
    refine mm_g 2 (pc1 := 19) (lo1 := [some (.ref 137), some (.int (Int32.ofInt a1)), some (.int (Int32.ofInt a2)), none, none]) (st1 := [.int (Int32.ofInt 1), .ref 137]) (H1 := mz_mk g1 x) rfl ?_
    refine mz_cv rfl mt_12_294 (by decide) (sc_137 _) rfl (Nat.le_of_ble_eq_true rfl) (by omega) (c_X12_fail (by omega) hx hIg1 (by decide) (by decide) (fun v23 g24 hIg24 hfg24 l_v23 u_v23 => ⟨_, rfl, ?_⟩))
    show mm_W d mmX12_later 22 [some (.ref 137), some (.int (Int32.ofInt a1)), some (.int (Int32.ofInt a2)), none, none] [.int (Int32.ofInt v23)] (mz_mk g24 x) Q
    exact mm_rt rfl rfl (hQ _ _ hIg24 (fun k j hk => ((hfg24 k j (fun h => hk (Or.inl h))).trans (hug1.2 k j (fun h => hk (Or.inl h))))) (by omega) (by omega) (by have h9 := (show g24 137 30 = (g 137 30) from ((hfg24 137 30 (fun h => (absurd (show (137 = 137 ∧ 30 = 2) from h) (by decide)))).trans ((hug1.2 137 30 (fun h => absurd h.2 (by decide))).trans rfl))); omega))
def fl_X12_full_32 (x : mm_X) (a1 : Int) : Nat → Nat → Prop := fun k j => (k = 160 ∧ j = 0) ∨ (k = 160 ∧ j = 1) ∨ (k = 160 ∧ j = 2) ∨ (k = 160 ∧ j = 3) ∨ (k = 160 ∧ j = 4) ∨ (k = 160 ∧ j = 5) ∨ (k = 160 ∧ j = 6) ∨ k = 161 ∨ k = 152 ∨ (k = 137 ∧ j = 30)
def fw_X12_full (x : mm_X) (a1 : Int) : Nat → Nat → Prop := fun k j => (k = 137 ∧ j = 2) ∨ k = 162 ∨ (k = 160 ∧ j = 0) ∨ (k = 160 ∧ j = 1) ∨ (k = 160 ∧ j = 2) ∨ (k = 160 ∧ j = 3) ∨ (k = 160 ∧ j = 4) ∨ (k = 160 ∧ j = 5) ∨ (k = 160 ∧ j = 6) ∨ k = 161 ∨ k = 152 ∨ (k = 137 ∧ j = 30) ∨ k = 153 ∨ k = 154 ∨ k = 155
theorem c_X12_full {d : Nat} (hd : 16 ≤ d) {x : mm_X} (hx : mk_x x) {g : mz_G} (hI : mz_inv g) {a1 : Int} (l_a1 : (-2147483648) ≤ a1) (u_a1 : a1 ≤ 2147483647) (p1 : mz_pv g) (p2 : g 137 30 ≤ 999) {Q : (Option Value ⊕ Nat) → mm_H → Prop} (hQ : ∀ (r : Int) (g1 : mz_G), mz_inv g1 → mz_fr (fw_X12_full x a1) g g1 → (-1) ≤ r → r ≤ 60 → (g1 137 30 ≤ 999) → Q (.inl (some (.int (Int32.ofInt r)))) (mz_mk g1 x)) : mm_C d 262 [.ref 137, .int (Int32.ofInt a1)] (mz_mk g x) Q := by
  refine ⟨mmX12_full, [some (.ref 137), some (.int (Int32.ofInt a1)), none, none], rfl, rfl, ?_⟩
  have bz0 := mz_rd hI bd_137_30
  have hpv := p1
  refine mm_g 2 (pc1 := 2) (lo1 := [some (.ref 137), some (.int (Int32.ofInt a1)), none, none]) (st1 := [.int (Int32.ofInt 0), .ref 137]) (H1 := mz_mk g x) rfl ?_
  refine mz_pI rfl fd_12_154 (sc_137 _) hI bd_137_2 (by omega) (by omega) (fun g1 hIg1 hug1 => ?_)
  refine mm_g 2 (pc1 := 7) (lo1 := [some (.ref 137), some (.int (Int32.ofInt a1)), none, none]) (st1 := [.int (Int32.ofInt a1), .ref 137]) (H1 := mz_mk g1 x) rfl ?_
  refine mz_cv rfl mt_12_391 (by decide) (sc_137 _) rfl (Nat.le_of_ble_eq_true rfl) (by omega) (c_X12_isTrunk (by omega) hx hIg1 l_a1 u_a1 (fun v2 l_v2 u_v2 hp3 hp4 => ⟨_, rfl, ?_⟩))
  show mm_W d mmX12_full 10 [some (.ref 137), some (.int (Int32.ofInt a1)), none, none] [.int (Int32.ofInt v2)] (mz_mk g1 x) Q
  refine mz_if_ne (tgt := 19) rfl rfl (mz_rg l_v2 u_v2) (fun c10_4 => ?_) (fun c10_4 => ?_)
  · skip
    refine mm_g 2 (pc1 := 21) (lo1 := [some (.ref 137), some (.int (Int32.ofInt a1)), none, none]) (st1 := [.ref 137, .ref 137]) (H1 := mz_mk g1 x) rfl ?_
    refine mz_fgR (v := 162) rfl fd_12_103 (by decide) (sc_137 _) (rf_137_40 _ _ _) ?_
    refine mm_g 1 (pc1 := 25) (lo1 := [some (.ref 137), some (.int (Int32.ofInt a1)), none, none]) (st1 := [.int (Int32.ofInt 0), .ref 162, .ref 137]) (H1 := mz_mk g1 x) rfl ?_
    refine mz_cv rfl mt_12_397 (by decide) (sc_137 _) rfl (Nat.le_of_ble_eq_true rfl) (by omega) (c_X12_store (by omega) hx hIg1 rwp_162 (by decide) (by decide) (by omega) (by omega) (by have h9 := (show g1 137 30 = (g 137 30) from ((hug1.2 137 30 (fun h => absurd h.2 (by decide))).trans rfl)); omega) (fun g5 hIg5 hfg5 => ⟨_, rfl, ?_⟩))
    show mm_W d mmX12_full 28 [some (.ref 137), some (.int (Int32.ofInt a1)), none, none] [] (mz_mk g5 x) Q
    refine mm_g 4 (pc1 := 32) (lo1 := [some (.ref 137), some (.int (Int32.ofInt a1)), some (.int (Int32.ofInt (-1))), some (.int (Int32.ofInt 0))]) (st1 := []) (H1 := mz_mk g5 x) rfl ?_
    have L11 : ∀ n10 : Nat, ∀ (v6 : Int) (v7 : Int) (g8 : mz_G), (61 - v7).toNat = n10 → (-1) ≤ v6 → v6 ≤ 60 → 0 ≤ v7 → v7 ≤ 61 → mz_inv g8 → mz_fr (fl_X12_full_32 x a1) g5 g8 → (g8 137 30 ≤ 999 + v7) → mm_W d mmX12_full 32 [some (.ref 137), some (.int (Int32.ofInt a1)), some (.int (Int32.ofInt v6)), some (.int (Int32.ofInt v7))] [] (mz_mk g8 x) Q := by
      intro n10
      induction n10 using Nat.strongRecOn with
      | ind n10 ih9 =>
      intro v6 v7 g8 hmn10 l_v6 u_v6 l_v7 u_v7 hIg8 hfg8 hv12
      have bz_g8_30 := mz_rd hIg8 bd_137_30
      refine mm_g 1 (pc1 := 33) (lo1 := [some (.ref 137), some (.int (Int32.ofInt a1)), some (.int (Int32.ofInt v6)), some (.int (Int32.ofInt v7))]) (st1 := [.int (Int32.ofInt v7)]) (H1 := mz_mk g8 x) rfl ?_
      refine mz_bip rfl bip_60 ?_
      refine mz_ic_gt (tgt := 64) rfl rfl (mz_rg l_v7 u_v7) ⟨by decide, by decide⟩ (fun c35_12 => ?_) (fun c35_12 => ?_)
      · skip
        refine mm_g 2 (pc1 := 66) (lo1 := [some (.ref 137), some (.int (Int32.ofInt a1)), some (.int (Int32.ofInt v6)), some (.int (Int32.ofInt v7))]) (st1 := [.ref 137, .ref 137]) (H1 := mz_mk g8 x) rfl ?_
        refine mz_fgR (v := 162) rfl fd_12_103 (by decide) (sc_137 _) (rf_137_40 _ _ _) ?_
        refine mm_g 1 (pc1 := 70) (lo1 := [some (.ref 137), some (.int (Int32.ofInt a1)), some (.int (Int32.ofInt v6)), some (.int (Int32.ofInt v7))]) (st1 := [.int (Int32.ofInt 0), .ref 162, .ref 137]) (H1 := mz_mk g8 x) rfl ?_
        refine mz_cv rfl mt_12_421 (by decide) (sc_137 _) rfl (Nat.le_of_ble_eq_true rfl) (by omega) (c_X12_recall (by omega) hx hIg8 rwp_162 (by decide) (by decide) (by omega) (by omega) (fun g13 hIg13 hfg13 hp14 => ⟨_, rfl, ?_⟩))
        show mm_W d mmX12_full 73 [some (.ref 137), some (.int (Int32.ofInt a1)), some (.int (Int32.ofInt v6)), some (.int (Int32.ofInt v7))] [] (mz_mk g13 x) Q
        refine mm_g 1 (pc1 := 74) (lo1 := [some (.ref 137), some (.int (Int32.ofInt a1)), some (.int (Int32.ofInt v6)), some (.int (Int32.ofInt v7))]) (st1 := [.int (Int32.ofInt v6)]) (H1 := mz_mk g13 x) rfl ?_
        exact mm_rt rfl rfl (hQ _ _ hIg13 (fun k j hk => ((hfg13 k j (fun h => hk (Or.elim h (fun h => (Or.inr (Or.inr (Or.inr (Or.inr (Or.inr (Or.inr (Or.inr (Or.inr (Or.inr (Or.inr (Or.inr (Or.inl h))))))))))))) (fun h => (Or.elim h (fun h => (Or.inr (Or.inr (Or.inr (Or.inr (Or.inr (Or.inr (Or.inr (Or.inr (Or.inr (Or.inr (Or.inl h)))))))))))) (fun h => (Or.elim h (fun h => (Or.inr (Or.inr (Or.inr (Or.inr (Or.inr (Or.inr (Or.inr (Or.inr (Or.inr (Or.inr (Or.inr (Or.inr (Or.inl h)))))))))))))) (fun h => (Or.elim h (fun h => (Or.inr (Or.inr (Or.inr (Or.inr (Or.inr (Or.inr (Or.inr (Or.inr (Or.inr (Or.inr (Or.inr (Or.inr (Or.inr (Or.inl h))))))))))))))) (fun h => (Or.inr (Or.inr (Or.inr (Or.inr (Or.inr (Or.inr (Or.inr (Or.inr (Or.inr (Or.inr (Or.inr (Or.inr (Or.inr (Or.inr h)))))))))))))))))))))))).trans ((hfg8 k j (fun h => hk (Or.elim h (fun h => (Or.inr (Or.inr (Or.inl h)))) (fun h => (Or.elim h (fun h => (Or.inr (Or.inr (Or.inr (Or.inl h))))) (fun h => (Or.elim h (fun h => (Or.inr (Or.inr (Or.inr (Or.inr (Or.inl h)))))) (fun h => (Or.elim h (fun h => (Or.inr (Or.inr (Or.inr (Or.inr (Or.inr (Or.inl h))))))) (fun h => (Or.elim h (fun h => (Or.inr (Or.inr (Or.inr (Or.inr (Or.inr (Or.inr (Or.inl h)))))))) (fun h => (Or.elim h (fun h => (Or.inr (Or.inr (Or.inr (Or.inr (Or.inr (Or.inr (Or.inr (Or.inl h))))))))) (fun h => (Or.elim h (fun h => (Or.inr (Or.inr (Or.inr (Or.inr (Or.inr (Or.inr (Or.inr (Or.inr (Or.inl h)))))))))) (fun h => (Or.elim h (fun h => (Or.inr (Or.inr (Or.inr (Or.inr (Or.inr (Or.inr (Or.inr (Or.inr (Or.inr (Or.inl h))))))))))) (fun h => (Or.elim h (fun h => (Or.inr (Or.inr (Or.inr (Or.inr (Or.inr (Or.inr (Or.inr (Or.inr (Or.inr (Or.inr (Or.inl h)))))))))))) (fun h => (Or.inr (Or.inr (Or.inr (Or.inr (Or.inr (Or.inr (Or.inr (Or.inr (Or.inr (Or.inr (Or.inr (Or.inl h)))))))))))))))))))))))))))))))).trans ((hfg5 k j (fun h => hk (Or.inr (Or.inl h)))).trans (hug1.2 k j (fun h => hk (Or.inl h))))))) (by omega) (by omega) (by have h9 := (show g13 137 30 = (g13 137 30) from rfl); omega))
      · skip
        refine mm_g 2 (pc1 := 40) (lo1 := [some (.ref 137), some (.int (Int32.ofInt a1)), some (.int (Int32.ofInt v6)), some (.int (Int32.ofInt v7))]) (st1 := [.int (Int32.ofInt (-1)), .int (Int32.ofInt v6)]) (H1 := mz_mk g8 x) rfl ?_
        refine mz_ic_ne (tgt := 64) rfl rfl (mz_rg l_v6 u_v6) ⟨by decide, by decide⟩ (fun c40_14 => ?_) (fun c40_14 => ?_)
        · skip
          refine mm_g 2 (pc1 := 66) (lo1 := [some (.ref 137), some (.int (Int32.ofInt a1)), some (.int (Int32.ofInt v6)), some (.int (Int32.ofInt v7))]) (st1 := [.ref 137, .ref 137]) (H1 := mz_mk g8 x) rfl ?_
          refine mz_fgR (v := 162) rfl fd_12_103 (by decide) (sc_137 _) (rf_137_40 _ _ _) ?_
          refine mm_g 1 (pc1 := 70) (lo1 := [some (.ref 137), some (.int (Int32.ofInt a1)), some (.int (Int32.ofInt v6)), some (.int (Int32.ofInt v7))]) (st1 := [.int (Int32.ofInt 0), .ref 162, .ref 137]) (H1 := mz_mk g8 x) rfl ?_
          refine mz_cv rfl mt_12_421 (by decide) (sc_137 _) rfl (Nat.le_of_ble_eq_true rfl) (by omega) (c_X12_recall (by omega) hx hIg8 rwp_162 (by decide) (by decide) (by omega) (by omega) (fun g15 hIg15 hfg15 hp16 => ⟨_, rfl, ?_⟩))
          show mm_W d mmX12_full 73 [some (.ref 137), some (.int (Int32.ofInt a1)), some (.int (Int32.ofInt v6)), some (.int (Int32.ofInt v7))] [] (mz_mk g15 x) Q
          refine mm_g 1 (pc1 := 74) (lo1 := [some (.ref 137), some (.int (Int32.ofInt a1)), some (.int (Int32.ofInt v6)), some (.int (Int32.ofInt v7))]) (st1 := [.int (Int32.ofInt v6)]) (H1 := mz_mk g15 x) rfl ?_
          exact mm_rt rfl rfl (hQ _ _ hIg15 (fun k j hk => ((hfg15 k j (fun h => hk (Or.elim h (fun h => (Or.inr (Or.inr (Or.inr (Or.inr (Or.inr (Or.inr (Or.inr (Or.inr (Or.inr (Or.inr (Or.inr (Or.inl h))))))))))))) (fun h => (Or.elim h (fun h => (Or.inr (Or.inr (Or.inr (Or.inr (Or.inr (Or.inr (Or.inr (Or.inr (Or.inr (Or.inr (Or.inl h)))))))))))) (fun h => (Or.elim h (fun h => (Or.inr (Or.inr (Or.inr (Or.inr (Or.inr (Or.inr (Or.inr (Or.inr (Or.inr (Or.inr (Or.inr (Or.inr (Or.inl h)))))))))))))) (fun h => (Or.elim h (fun h => (Or.inr (Or.inr (Or.inr (Or.inr (Or.inr (Or.inr (Or.inr (Or.inr (Or.inr (Or.inr (Or.inr (Or.inr (Or.inr (Or.inl h))))))))))))))) (fun h => (Or.inr (Or.inr (Or.inr (Or.inr (Or.inr (Or.inr (Or.inr (Or.inr (Or.inr (Or.inr (Or.inr (Or.inr (Or.inr (Or.inr h)))))))))))))))))))))))).trans ((hfg8 k j (fun h => hk (Or.elim h (fun h => (Or.inr (Or.inr (Or.inl h)))) (fun h => (Or.elim h (fun h => (Or.inr (Or.inr (Or.inr (Or.inl h))))) (fun h => (Or.elim h (fun h => (Or.inr (Or.inr (Or.inr (Or.inr (Or.inl h)))))) (fun h => (Or.elim h (fun h => (Or.inr (Or.inr (Or.inr (Or.inr (Or.inr (Or.inl h))))))) (fun h => (Or.elim h (fun h => (Or.inr (Or.inr (Or.inr (Or.inr (Or.inr (Or.inr (Or.inl h)))))))) (fun h => (Or.elim h (fun h => (Or.inr (Or.inr (Or.inr (Or.inr (Or.inr (Or.inr (Or.inr (Or.inl h))))))))) (fun h => (Or.elim h (fun h => (Or.inr (Or.inr (Or.inr (Or.inr (Or.inr (Or.inr (Or.inr (Or.inr (Or.inl h)))))))))) (fun h => (Or.elim h (fun h => (Or.inr (Or.inr (Or.inr (Or.inr (Or.inr (Or.inr (Or.inr (Or.inr (Or.inr (Or.inl h))))))))))) (fun h => (Or.elim h (fun h => (Or.inr (Or.inr (Or.inr (Or.inr (Or.inr (Or.inr (Or.inr (Or.inr (Or.inr (Or.inr (Or.inl h)))))))))))) (fun h => (Or.inr (Or.inr (Or.inr (Or.inr (Or.inr (Or.inr (Or.inr (Or.inr (Or.inr (Or.inr (Or.inr (Or.inl h)))))))))))))))))))))))))))))))).trans ((hfg5 k j (fun h => hk (Or.inr (Or.inl h)))).trans (hug1.2 k j (fun h => hk (Or.inl h))))))) (by omega) (by omega) (by have h9 := (show g15 137 30 = (g15 137 30) from rfl); omega))
        · skip
          refine mm_g 2 (pc1 := 45) (lo1 := [some (.ref 137), some (.int (Int32.ofInt a1)), some (.int (Int32.ofInt v6)), some (.int (Int32.ofInt v7))]) (st1 := [.int (Int32.ofInt a1), .ref 137]) (H1 := mz_mk g8 x) rfl ?_
          refine mz_cv rfl mt_12_365 (by decide) (sc_137 _) rfl (Nat.le_of_ble_eq_true rfl) (by omega) (c_X12_isFull (by omega) hx hIg8 (by omega) (by omega) (fun v17 l_v17 u_v17 => ⟨_, rfl, ?_⟩))
          show mm_W d mmX12_full 48 [some (.ref 137), some (.int (Int32.ofInt a1)), some (.int (Int32.ofInt v6)), some (.int (Int32.ofInt v7))] [.int (Int32.ofInt v17)] (mz_mk g8 x) Q
          refine mz_if_eq (tgt := 53) rfl rfl (mz_rg l_v17 u_v17) (fun c48_17 => ?_) (fun c48_17 => ?_)
          · skip
            refine mm_g 2 (pc1 := 55) (lo1 := [some (.ref 137), some (.int (Int32.ofInt a1)), some (.int (Int32.ofInt v6)), some (.int (Int32.ofInt v7))]) (st1 := [.int (Int32.ofInt 1), .ref 137]) (H1 := mz_mk g8 x) rfl ?_
            have hq18 : g8 137 30 = (g8 137 30) := (show g8 137 30 = (g8 137 30) from rfl)
            refine mz_cv rfl mt_12_409 (by decide) (sc_137 _) rfl (Nat.le_of_ble_eq_true rfl) (by omega) (c_X12_goOn (by omega) hx hIg8 (by decide) (by decide) (mz_pv_fr hpv (fun _j => ((hfg8 149 _j (fun h => (Or.elim h (fun h => (absurd (show 149 = 160 from (h).1) (by decide))) (fun h => (Or.elim h (fun h => (absurd (show 149 = 160 from (h).1) (by decide))) (fun h => (Or.elim h (fun h => (absurd (show 149 = 160 from (h).1) (by decide))) (fun h => (Or.elim h (fun h => (absurd (show 149 = 160 from (h).1) (by decide))) (fun h => (Or.elim h (fun h => (absurd (show 149 = 160 from (h).1) (by decide))) (fun h => (Or.elim h (fun h => (absurd (show 149 = 160 from (h).1) (by decide))) (fun h => (Or.elim h (fun h => (absurd (show 149 = 160 from (h).1) (by decide))) (fun h => (Or.elim h (fun h => (absurd (show 149 = 161 from h) (by decide))) (fun h => (Or.elim h (fun h => (absurd (show 149 = 152 from h) (by decide))) (fun h => (absurd (show 149 = 137 from (h).1) (by decide)))))))))))))))))))))).trans ((hfg5 149 _j (fun h => (absurd (show 149 = 162 from h) (by decide)))).trans ((hug1.2 149 _j (fun h => absurd h.1 (by decide))).trans rfl)))) ((hfg8 140 3 (fun h => (Or.elim h (fun h => (absurd (show 140 = 160 from (h).1) (by decide))) (fun h => (Or.elim h (fun h => (absurd (show 140 = 160 from (h).1) (by decide))) (fun h => (Or.elim h (fun h => (absurd (show 140 = 160 from (h).1) (by decide))) (fun h => (Or.elim h (fun h => (absurd (show 140 = 160 from (h).1) (by decide))) (fun h => (Or.elim h (fun h => (absurd (show 140 = 160 from (h).1) (by decide))) (fun h => (Or.elim h (fun h => (absurd (show 140 = 160 from (h).1) (by decide))) (fun h => (Or.elim h (fun h => (absurd (show 140 = 160 from (h).1) (by decide))) (fun h => (Or.elim h (fun h => (absurd (show 140 = 161 from h) (by decide))) (fun h => (Or.elim h (fun h => (absurd (show 140 = 152 from h) (by decide))) (fun h => (absurd (show 140 = 137 from (h).1) (by decide)))))))))))))))))))))).trans ((hfg5 140 3 (fun h => (absurd (show 140 = 162 from h) (by decide)))).trans ((hug1.2 140 3 (fun h => absurd h.1 (by decide))).trans rfl)))) (by have h9 := (show g8 137 30 = (g8 137 30) from rfl); omega) (fun g19 hIg19 hfg19 hp20 => ⟨_, rfl, ?_⟩))
            show mm_W d mmX12_full 58 [some (.ref 137), some (.int (Int32.ofInt a1)), some (.int (Int32.ofInt v6)), some (.int (Int32.ofInt v7))] [] (mz_mk g19 x) Q
            refine mz_iincR (v := v7) (lo2 := [some (.ref 137), some (.int (Int32.ofInt a1)), some (.int (Int32.ofInt v6)), some (.int (Int32.ofInt (v7 + 1)))]) rfl rfl rfl (Nat.le_of_ble_eq_true rfl) rfl ?_
            refine mz_gt (tgt := 32) rfl rfl ?_
            exact ih9 ((61 - (v7 + 1)).toNat) (by omega) v6 (v7 + 1) g19 rfl (by omega) (by omega) (by omega) (by omega) hIg19 (fun k j hk => ((hfg19 k j (fun h => hk (Or.elim h (fun h => (Or.inl h)) (fun h => (Or.elim h (fun h => (Or.inr (Or.inl h))) (fun h => (Or.elim h (fun h => (Or.inr (Or.inr (Or.inl h)))) (fun h => (Or.elim h (fun h => (Or.inr (Or.inr (Or.inr (Or.inl h))))) (fun h => (Or.elim h (fun h => (Or.inr (Or.inr (Or.inr (Or.inr (Or.inl h)))))) (fun h => (Or.elim h (fun h => (Or.inr (Or.inr (Or.inr (Or.inr (Or.inr (Or.inl h))))))) (fun h => (Or.elim h (fun h => (Or.inr (Or.inr (Or.inr (Or.inr (Or.inr (Or.inr (Or.inl h)))))))) (fun h => (Or.elim h (fun h => (Or.inr (Or.inr (Or.inr (Or.inr (Or.inr (Or.inr (Or.inr (Or.inl h))))))))) (fun h => (Or.elim h (fun h => (Or.inr (Or.inr (Or.inr (Or.inr (Or.inr (Or.inr (Or.inr (Or.inr (Or.inl h)))))))))) (fun h => (Or.inr (Or.inr (Or.inr (Or.inr (Or.inr (Or.inr (Or.inr (Or.inr (Or.inr h))))))))))))))))))))))))))))).trans (hfg8 k j (fun h => hk (Or.elim h (fun h => (Or.inl h)) (fun h => (Or.elim h (fun h => (Or.inr (Or.inl h))) (fun h => (Or.elim h (fun h => (Or.inr (Or.inr (Or.inl h)))) (fun h => (Or.elim h (fun h => (Or.inr (Or.inr (Or.inr (Or.inl h))))) (fun h => (Or.elim h (fun h => (Or.inr (Or.inr (Or.inr (Or.inr (Or.inl h)))))) (fun h => (Or.elim h (fun h => (Or.inr (Or.inr (Or.inr (Or.inr (Or.inr (Or.inl h))))))) (fun h => (Or.elim h (fun h => (Or.inr (Or.inr (Or.inr (Or.inr (Or.inr (Or.inr (Or.inl h)))))))) (fun h => (Or.elim h (fun h => (Or.inr (Or.inr (Or.inr (Or.inr (Or.inr (Or.inr (Or.inr (Or.inl h))))))))) (fun h => (Or.elim h (fun h => (Or.inr (Or.inr (Or.inr (Or.inr (Or.inr (Or.inr (Or.inr (Or.inr (Or.inl h)))))))))) (fun h => (Or.inr (Or.inr (Or.inr (Or.inr (Or.inr (Or.inr (Or.inr (Or.inr (Or.inr h))))))))))))))))))))))))))))))) (by have h9 := (show g19 137 30 = (g19 137 30) from rfl); omega)
          · skip
            refine mm_g 4 (pc1 := 55) (lo1 := [some (.ref 137), some (.int (Int32.ofInt a1)), some (.int (Int32.ofInt v7)), some (.int (Int32.ofInt v7))]) (st1 := [.int (Int32.ofInt 1), .ref 137]) (H1 := mz_mk g8 x) rfl ?_
            have hq21 : g8 137 30 = (g8 137 30) := (show g8 137 30 = (g8 137 30) from rfl)
            refine mz_cv rfl mt_12_409 (by decide) (sc_137 _) rfl (Nat.le_of_ble_eq_true rfl) (by omega) (c_X12_goOn (by omega) hx hIg8 (by decide) (by decide) (mz_pv_fr hpv (fun _j => ((hfg8 149 _j (fun h => (Or.elim h (fun h => (absurd (show 149 = 160 from (h).1) (by decide))) (fun h => (Or.elim h (fun h => (absurd (show 149 = 160 from (h).1) (by decide))) (fun h => (Or.elim h (fun h => (absurd (show 149 = 160 from (h).1) (by decide))) (fun h => (Or.elim h (fun h => (absurd (show 149 = 160 from (h).1) (by decide))) (fun h => (Or.elim h (fun h => (absurd (show 149 = 160 from (h).1) (by decide))) (fun h => (Or.elim h (fun h => (absurd (show 149 = 160 from (h).1) (by decide))) (fun h => (Or.elim h (fun h => (absurd (show 149 = 160 from (h).1) (by decide))) (fun h => (Or.elim h (fun h => (absurd (show 149 = 161 from h) (by decide))) (fun h => (Or.elim h (fun h => (absurd (show 149 = 152 from h) (by decide))) (fun h => (absurd (show 149 = 137 from (h).1) (by decide)))))))))))))))))))))).trans ((hfg5 149 _j (fun h => (absurd (show 149 = 162 from h) (by decide)))).trans ((hug1.2 149 _j (fun h => absurd h.1 (by decide))).trans rfl)))) ((hfg8 140 3 (fun h => (Or.elim h (fun h => (absurd (show 140 = 160 from (h).1) (by decide))) (fun h => (Or.elim h (fun h => (absurd (show 140 = 160 from (h).1) (by decide))) (fun h => (Or.elim h (fun h => (absurd (show 140 = 160 from (h).1) (by decide))) (fun h => (Or.elim h (fun h => (absurd (show 140 = 160 from (h).1) (by decide))) (fun h => (Or.elim h (fun h => (absurd (show 140 = 160 from (h).1) (by decide))) (fun h => (Or.elim h (fun h => (absurd (show 140 = 160 from (h).1) (by decide))) (fun h => (Or.elim h (fun h => (absurd (show 140 = 160 from (h).1) (by decide))) (fun h => (Or.elim h (fun h => (absurd (show 140 = 161 from h) (by decide))) (fun h => (Or.elim h (fun h => (absurd (show 140 = 152 from h) (by decide))) (fun h => (absurd (show 140 = 137 from (h).1) (by decide)))))))))))))))))))))).trans ((hfg5 140 3 (fun h => (absurd (show 140 = 162 from h) (by decide)))).trans ((hug1.2 140 3 (fun h => absurd h.1 (by decide))).trans rfl)))) (by have h9 := (show g8 137 30 = (g8 137 30) from rfl); omega) (fun g22 hIg22 hfg22 hp23 => ⟨_, rfl, ?_⟩))
            show mm_W d mmX12_full 58 [some (.ref 137), some (.int (Int32.ofInt a1)), some (.int (Int32.ofInt v7)), some (.int (Int32.ofInt v7))] [] (mz_mk g22 x) Q
            refine mz_iincR (v := v7) (lo2 := [some (.ref 137), some (.int (Int32.ofInt a1)), some (.int (Int32.ofInt v7)), some (.int (Int32.ofInt (v7 + 1)))]) rfl rfl rfl (Nat.le_of_ble_eq_true rfl) rfl ?_
            refine mz_gt (tgt := 32) rfl rfl ?_
            exact ih9 ((61 - (v7 + 1)).toNat) (by omega) v7 (v7 + 1) g22 rfl (by omega) (by omega) (by omega) (by omega) hIg22 (fun k j hk => ((hfg22 k j (fun h => hk (Or.elim h (fun h => (Or.inl h)) (fun h => (Or.elim h (fun h => (Or.inr (Or.inl h))) (fun h => (Or.elim h (fun h => (Or.inr (Or.inr (Or.inl h)))) (fun h => (Or.elim h (fun h => (Or.inr (Or.inr (Or.inr (Or.inl h))))) (fun h => (Or.elim h (fun h => (Or.inr (Or.inr (Or.inr (Or.inr (Or.inl h)))))) (fun h => (Or.elim h (fun h => (Or.inr (Or.inr (Or.inr (Or.inr (Or.inr (Or.inl h))))))) (fun h => (Or.elim h (fun h => (Or.inr (Or.inr (Or.inr (Or.inr (Or.inr (Or.inr (Or.inl h)))))))) (fun h => (Or.elim h (fun h => (Or.inr (Or.inr (Or.inr (Or.inr (Or.inr (Or.inr (Or.inr (Or.inl h))))))))) (fun h => (Or.elim h (fun h => (Or.inr (Or.inr (Or.inr (Or.inr (Or.inr (Or.inr (Or.inr (Or.inr (Or.inl h)))))))))) (fun h => (Or.inr (Or.inr (Or.inr (Or.inr (Or.inr (Or.inr (Or.inr (Or.inr (Or.inr h))))))))))))))))))))))))))))).trans (hfg8 k j (fun h => hk (Or.elim h (fun h => (Or.inl h)) (fun h => (Or.elim h (fun h => (Or.inr (Or.inl h))) (fun h => (Or.elim h (fun h => (Or.inr (Or.inr (Or.inl h)))) (fun h => (Or.elim h (fun h => (Or.inr (Or.inr (Or.inr (Or.inl h))))) (fun h => (Or.elim h (fun h => (Or.inr (Or.inr (Or.inr (Or.inr (Or.inl h)))))) (fun h => (Or.elim h (fun h => (Or.inr (Or.inr (Or.inr (Or.inr (Or.inr (Or.inl h))))))) (fun h => (Or.elim h (fun h => (Or.inr (Or.inr (Or.inr (Or.inr (Or.inr (Or.inr (Or.inl h)))))))) (fun h => (Or.elim h (fun h => (Or.inr (Or.inr (Or.inr (Or.inr (Or.inr (Or.inr (Or.inr (Or.inl h))))))))) (fun h => (Or.elim h (fun h => (Or.inr (Or.inr (Or.inr (Or.inr (Or.inr (Or.inr (Or.inr (Or.inr (Or.inl h)))))))))) (fun h => (Or.inr (Or.inr (Or.inr (Or.inr (Or.inr (Or.inr (Or.inr (Or.inr (Or.inr h))))))))))))))))))))))))))))))) (by have h9 := (show g22 137 30 = (g22 137 30) from rfl); omega)
    exact L11 _ (-1) 0 g5 rfl (by decide) (by decide) (by decide) (by decide) hIg5 (fun _ _ _ => rfl) (by have h9 := (show g5 137 30 = (g 137 30) from ((hfg5 137 30 (fun h => (absurd (show 137 = 162 from h) (by decide)))).trans ((hug1.2 137 30 (fun h => absurd h.2 (by decide))).trans rfl))); omega)
  · skip
    refine mm_g 2 (pc1 := 15) (lo1 := [some (.ref 137), some (.int (Int32.ofInt a1)), none, none]) (st1 := [.int (Int32.ofInt 1), .ref 137]) (H1 := mz_mk g1 x) rfl ?_
    refine mz_cv rfl mt_12_294 (by decide) (sc_137 _) rfl (Nat.le_of_ble_eq_true rfl) (by omega) (c_X12_fail (by omega) hx hIg1 (by decide) (by decide) (fun v24 g25 hIg25 hfg25 l_v24 u_v24 => ⟨_, rfl, ?_⟩))
    show mm_W d mmX12_full 18 [some (.ref 137), some (.int (Int32.ofInt a1)), none, none] [.int (Int32.ofInt v24)] (mz_mk g25 x) Q
    exact mm_rt rfl rfl (hQ _ _ hIg25 (fun k j hk => ((hfg25 k j (fun h => hk (Or.inl h))).trans (hug1.2 k j (fun h => hk (Or.inl h))))) (by omega) (by omega) (by have h9 := (show g25 137 30 = (g 137 30) from ((hfg25 137 30 (fun h => (absurd (show (137 = 137 ∧ 30 = 2) from h) (by decide)))).trans ((hug1.2 137 30 (fun h => absurd h.2 (by decide))).trans rfl))); omega))
