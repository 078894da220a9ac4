/-! CONTRACTS OF THE CLASS, by program (wip/p2/tools/gen23.py) -/
theorem c_X10_overlapOf {d : Nat} (hd : 2 ≤ d) {x : mm_X} (hx : mk_x x) {g : mz_G} (hI : mz_inv g) {q0 : Nat} (h_q0 : kd_words q0) {a1 : Int} (l_a1 : (-2147483648) ≤ a1) (u_a1 : a1 ≤ 2147483647) {a2 : Int} (l_a2 : (-2147483648) ≤ a2) (u_a2 : a2 ≤ 2147483647) {Q : (Option Value ⊕ Nat) → mm_H → Prop} (hQ : ∀ (r : Int), (-2147483648) ≤ r → r ≤ 2147483647 → Q (.inl (some (.int (Int32.ofInt r)))) (mz_mk g x)) : mm_C d 111 [.ref q0, .int (Int32.ofInt a1), .int (Int32.ofInt a2)] (mz_mk g x) Q := by
  have kn_q0 := kn_words h_q0
  refine ⟨mmX10_overlapOf, [some (.ref q0), some (.int (Int32.ofInt a1)), some (.int (Int32.ofInt a2))], rfl, rfl, ?_⟩
  refine mm_g 1 (pc1 := 1) (lo1 := [some (.ref q0), some (.int (Int32.ofInt a1)), some (.int (Int32.ofInt a2))]) (st1 := [.ref q0]) (H1 := mz_mk g x) rfl ?_
  refine mz_fgR (v := (q0 + 5)) rfl fd_10_32 (by decide) (kc_words h_q0 _) (kr_words_4 h_q0 _ _ _) ?_
  refine mm_g 1 (pc1 := 5) (lo1 := [some (.ref q0), some (.int (Int32.ofInt a1)), some (.int (Int32.ofInt a2))]) (st1 := [.int (Int32.ofInt a1), .ref (q0 + 5)]) (H1 := mz_mk g x) rfl ?_
  refine mz_bip rfl bip_8 ?_
  refine mz_imul_w rfl (fun v1 _ hwv1 => ?_)
  have l_v1 := hwv1.1
  have u_v1 := hwv1.2
  refine mm_g 1 (pc1 := 9) (lo1 := [some (.ref q0), some (.int (Int32.ofInt a1)), some (.int (Int32.ofInt a2))]) (st1 := [.int (Int32.ofInt a2), .int (Int32.ofInt v1), .ref (q0 + 5)]) (H1 := mz_mk g x) rfl ?_
  refine mz_iadd_w rfl (fun v2 _ hwv2 => ?_)
  have l_v2 := hwv2.1
  have u_v2 := hwv2.2
  refine mz_cs rfl mt_10_62 (by decide) rfl (Nat.le_of_ble_eq_true rfl) (by omega) (c_X11_at (by omega) hx hI (ka_words_4 h_q0 _) (by decide) (kba_words_4 h_q0) (by omega) (by omega) l_v2 u_v2 (fun v3 l_v3 u_v3 => ⟨_, rfl, ?_⟩))
  show mm_W d mmX10_overlapOf 13 [some (.ref q0), some (.int (Int32.ofInt a1)), some (.int (Int32.ofInt a2))] [.int (Int32.ofInt v3)] (mz_mk g x) Q
  exact mm_rt rfl rfl (hQ _ (by omega) (by omega))
def fl_X10_settle_2 (x : mm_X) (q0 : Nat) (q1 : Nat) : Nat → Nat → Prop := fun k j => k = (q0 + 5) ∨ k = (q0 + 6)
def fl_X10_settle_134 (x : mm_X) (q0 : Nat) (q1 : Nat) : Nat → Nat → Prop := fun k j => k = q0
def fl_X10_settle_12 (x : mm_X) (q0 : Nat) (q1 : Nat) : Nat → Nat → Prop := fun k j => k = (q0 + 5) ∨ k = (q0 + 6)
def fw_X10_settle (x : mm_X) (q0 : Nat) (q1 : Nat) : Nat → Nat → Prop := fun k j => k = (q0 + 5) ∨ k = (q0 + 6) ∨ k = q1 ∨ k = (q0 + 7) ∨ k = (q0 + 8) ∨ k = q0
theorem c_X10_settle {d : Nat} (hd : 14 ≤ d) {x : mm_X} (hx : mk_x x) {g : mz_G} (hI : mz_inv g) {q0 : Nat} (h_q0 : kd_words q0) {q1 n_q1 : Nat} (h_q1 : mm_SH x.2.2.2.1 q1 = (100, n_q1)) (m_q1 : n_q1 ≤ 2048) (b_q1 : ∀ j, mz_bd q1 j = (-2147483648, 2147483647)) {Q : (Option Value ⊕ Nat) → mm_H → Prop} (hQ : ∀ (g1 : mz_G), mz_inv g1 → mz_fr (fw_X10_settle x q0 q1) g g1 → Q (.inl none) (mz_mk g1 x)) : mm_C d 118 [.ref q0, .ref q1] (mz_mk g x) Q := by
  have kn_q0 := kn_words h_q0
  refine ⟨mmX10_settle, [some (.ref q0), some (.ref q1), none, none], rfl, rfl, ?_⟩
  refine mm_g 2 (pc1 := 2) (lo1 := [some (.ref q0), some (.ref q1), some (.int (Int32.ofInt 0)), none]) (st1 := []) (H1 := mz_mk g x) rfl ?_
  have L6 : ∀ n5 : Nat, ∀ (v1 : Int) (o2 : Option Value) (g3 : mz_G), (8 - v1).toNat = n5 → 0 ≤ v1 → v1 ≤ 8 → mz_nl o2 → mz_inv g3 → mz_fr (fl_X10_settle_2 x q0 q1) g g3 → mm_W d mmX10_settle 2 [some (.ref q0), some (.ref q1), some (.int (Int32.ofInt v1)), o2] [] (mz_mk g3 x) Q := by
    intro n5
    induction n5 using Nat.strongRecOn with
    | ind n5 ih4 =>
    intro v1 o2 g3 hmn5 l_v1 u_v1 h_o2 hIg3 hfg3
    refine mm_g 2 (pc1 := 4) (lo1 := [some (.ref q0), some (.ref q1), some (.int (Int32.ofInt v1)), o2]) (st1 := [.ref q0, .int (Int32.ofInt v1)]) (H1 := mz_mk g3 x) rfl ?_
    refine mz_gI rfl fd_10_28 (by decide) (kc_words h_q0 _) hIg3 (kb_words_3 h_q0) (fun v7 e_v7 l_v7 u_v7 => ?_)
    refine mz_ic_ge (tgt := 96) rfl rfl (mz_rg l_v1 u_v1) (mz_rg l_v7 u_v7) (fun c7_7 => ?_) (fun c7_7 => ?_)
    · skip
      refine mm_g 2 (pc1 := 98) (lo1 := [some (.ref q0), some (.ref q1), some (.int (Int32.ofInt v1)), o2]) (st1 := [.ref q0, .ref q0]) (H1 := mz_mk g3 x) rfl ?_
      refine mz_fgR (v := (q0 + 5)) rfl fd_10_32 (by decide) (kc_words h_q0 _) (kr_words_4 h_q0 _ _ _) ?_
      refine mm_g 1 (pc1 := 102) (lo1 := [some (.ref q0), some (.ref q1), some (.int (Int32.ofInt v1)), o2]) (st1 := [.ref q0, .ref (q0 + 5), .ref q0]) (H1 := mz_mk g3 x) rfl ?_
      refine mz_fgR (v := (q0 + 7)) rfl fd_10_38 (by decide) (kc_words h_q0 _) (kr_words_6 h_q0 _ _ _) ?_
      refine mm_g 1 (pc1 := 106) (lo1 := [some (.ref q0), some (.ref q1), some (.int (Int32.ofInt v1)), o2]) (st1 := [.ref q1, .ref (q0 + 7), .ref (q0 + 5), .ref q0]) (H1 := mz_mk g3 x) rfl ?_
      refine mz_cv rfl mt_10_84 (by decide) (kc_words h_q0 _) rfl (Nat.le_of_ble_eq_true rfl) (by omega) (c_X10_findOrder (by omega) hx hIg3 h_q0 (ka_words_4 h_q0 _) (by decide) (kba_words_4 h_q0) (ka_words_6 h_q0 _) (by decide) (kba_words_6 h_q0) h_q1 (by omega) b_q1 (fun v8 g9 hIg9 hfg9 l_v8 u_v8 => ⟨_, rfl, ?_⟩))
      show mm_W d mmX10_settle 109 [some (.ref q0), some (.ref q1), some (.int (Int32.ofInt v1)), o2] [.int (Int32.ofInt v8)] (mz_mk g9 x) Q
      refine mm_g 4 (pc1 := 113) (lo1 := [some (.ref q0), some (.ref q1), some (.int (Int32.ofInt v1)), o2]) (st1 := [.ref q0, .ref q0, .ref q0]) (H1 := mz_mk g9 x) rfl ?_
      refine mz_fgR (v := (q0 + 6)) rfl fd_10_35 (by decide) (kc_words h_q0 _) (kr_words_5 h_q0 _ _ _) ?_
      refine mm_g 1 (pc1 := 117) (lo1 := [some (.ref q0), some (.ref q1), some (.int (Int32.ofInt v1)), o2]) (st1 := [.ref q0, .ref (q0 + 6), .ref q0, .ref q0]) (H1 := mz_mk g9 x) rfl ?_
      refine mz_fgR (v := (q0 + 8)) rfl fd_10_41 (by decide) (kc_words h_q0 _) (kr_words_7 h_q0 _ _ _) ?_
      refine mm_g 1 (pc1 := 121) (lo1 := [some (.ref q0), some (.ref q1), some (.int (Int32.ofInt v1)), o2]) (st1 := [.ref q1, .ref (q0 + 8), .ref (q0 + 6), .ref q0, .ref q0]) (H1 := mz_mk g9 x) rfl ?_
      refine mz_cv rfl mt_10_84 (by decide) (kc_words h_q0 _) rfl (Nat.le_of_ble_eq_true rfl) (by omega) (c_X10_findOrder (by omega) hx hIg9 h_q0 (ka_words_5 h_q0 _) (by decide) (kba_words_5 h_q0) (ka_words_7 h_q0 _) (by decide) (kba_words_7 h_q0) h_q1 (by omega) b_q1 (fun v10 g11 hIg11 hfg11 l_v10 u_v10 => ⟨_, rfl, ?_⟩))
      show mm_W d mmX10_settle 124 [some (.ref q0), some (.ref q1), some (.int (Int32.ofInt v1)), o2] [.int (Int32.ofInt v10), .ref q0] (mz_mk g11 x) Q
      refine mz_pI rfl fd_10_47 (kc_words h_q0 _) hIg11 (kb_words_9 h_q0) (by omega) (by omega) (fun g12 hIg12 hug12 => ?_)
      refine mm_g 2 (pc1 := 129) (lo1 := [some (.ref q0), some (.ref q1), some (.int (Int32.ofInt v1)), o2]) (st1 := [.int (Int32.ofInt 0), .ref q0]) (H1 := mz_mk g12 x) rfl ?_
      refine mz_pI rfl fd_10_44 (kc_words h_q0 _) hIg12 (kb_words_8 h_q0) (by omega) (by omega) (fun g13 hIg13 hug13 => ?_)
      refine mm_g 2 (pc1 := 134) (lo1 := [some (.ref q0), some (.ref q1), some (.int (Int32.ofInt 0)), o2]) (st1 := []) (H1 := mz_mk g13 x) rfl ?_
      have L18 : ∀ n17 : Nat, ∀ (v14 : Int) (g15 : mz_G), (8 - v14).toNat = n17 → 0 ≤ v14 → v14 ≤ 8 → mz_inv g15 → mz_fr (fl_X10_settle_134 x q0 q1) g13 g15 → mm_W d mmX10_settle 134 [some (.ref q0), some (.ref q1), some (.int (Int32.ofInt v14)), o2] [] (mz_mk g15 x) Q := by
        intro n17
        induction n17 using Nat.strongRecOn with
        | ind n17 ih16 =>
        intro v14 g15 hmn17 l_v14 u_v14 hIg15 hfg15
        refine mm_g 2 (pc1 := 136) (lo1 := [some (.ref q0), some (.ref q1), some (.int (Int32.ofInt v14)), o2]) (st1 := [.ref q0, .int (Int32.ofInt v14)]) (H1 := mz_mk g15 x) rfl ?_
        refine mz_gI rfl fd_10_28 (by decide) (kc_words h_q0 _) hIg15 (kb_words_3 h_q0) (fun v19 e_v19 l_v19 u_v19 => ?_)
        refine mz_ic_ge (tgt := 194) rfl rfl (mz_rg l_v14 u_v14) (mz_rg l_v19 u_v19) (fun c139_19 => ?_) (fun c139_19 => ?_)
        · skip
          exact mm_rt rfl rfl (hQ _ hIg15 (fun k j hk => ((hfg15 k j (fun h => hk (Or.inr (Or.inr (Or.inr (Or.inr (Or.inr h))))))).trans ((hug13.2 k j (fun h => hk (Or.inr (Or.inr (Or.inr (Or.inr (Or.inr h.1))))))).trans ((hug12.2 k j (fun h => hk (Or.inr (Or.inr (Or.inr (Or.inr (Or.inr h.1))))))).trans ((hfg11 k j (fun h => hk (Or.elim h (fun h => (Or.inr (Or.inr (Or.inl h)))) (fun h => (Or.inr (Or.inr (Or.inr (Or.inr (Or.inl h))))))))).trans ((hfg9 k j (fun h => hk (Or.elim h (fun h => (Or.inr (Or.inr (Or.inl h)))) (fun h => (Or.inr (Or.inr (Or.inr (Or.inl h)))))))).trans (hfg3 k j (fun h => hk (Or.elim h (fun h => (Or.inl h)) (fun h => (Or.inr (Or.inl h)))))))))))))
        · skip
          refine mm_g 2 (pc1 := 144) (lo1 := [some (.ref q0), some (.ref q1), some (.int (Int32.ofInt v14)), o2]) (st1 := [.ref q0, .ref q0]) (H1 := mz_mk g15 x) rfl ?_
          refine mz_gI rfl fd_10_44 (by decide) (kc_words h_q0 _) hIg15 (kb_words_8 h_q0) (fun v20 e_v20 l_v20 u_v20 => ?_)
          refine mm_g 3 (pc1 := 150) (lo1 := [some (.ref q0), some (.ref q1), some (.int (Int32.ofInt v14)), o2]) (st1 := [.int (Int32.ofInt v14), .ref q0, .ref q0, .int (Int32.ofInt v20), .ref q0]) (H1 := mz_mk g15 x) rfl ?_
          refine mz_cv rfl mt_10_88 (by decide) (kc_words h_q0 _) rfl (Nat.le_of_ble_eq_true rfl) (by omega) (c_X10_inRow (by omega) hx hIg15 h_q0 (by omega) (by omega) (fun v21 l_v21 u_v21 => ⟨_, rfl, ?_⟩))
          show mm_W d mmX10_settle 153 [some (.ref q0), some (.ref q1), some (.int (Int32.ofInt v14)), o2] [.int (Int32.ofInt v21), .ref q0, .int (Int32.ofInt v20), .ref q0] (mz_mk g15 x) Q
          refine mz_cv rfl mt_10_50 (by decide) (kc_words h_q0 _) rfl (Nat.le_of_ble_eq_true rfl) (by omega) (c_X10_of (by omega) hx hIg15 h_q0 l_v21 u_v21 (fun u22 k_u22 hp23 => ⟨_, rfl, ?_⟩))
          show mm_W d mmX10_settle 156 [some (.ref q0), some (.ref q1), some (.int (Int32.ofInt v14)), o2] [.ref u22, .int (Int32.ofInt v20), .ref q0] (mz_mk g15 x) Q
          refine mz_cv rfl mt_10_91 (by decide) (kc_let k_u22 _) rfl (Nat.le_of_ble_eq_true rfl) (by omega) (c_X0_length (by omega) hx hIg15 k_u22 (fun v24 l_v24 u_v24 => ⟨_, rfl, ?_⟩))
          show mm_W d mmX10_settle 159 [some (.ref q0), some (.ref q1), some (.int (Int32.ofInt v14)), o2] [.int (Int32.ofInt v24), .int (Int32.ofInt v20), .ref q0] (mz_mk g15 x) Q
          refine mm_g 1 (pc1 := 160) (lo1 := [some (.ref q0), some (.ref q1), some (.int (Int32.ofInt v14)), o2]) (st1 := [.int (Int32.ofInt v14), .int (Int32.ofInt v24), .int (Int32.ofInt v20), .ref q0]) (H1 := mz_mk g15 x) rfl ?_
          refine mz_if_ne (tgt := 167) rfl rfl (mz_rg l_v14 u_v14) (fun c160_24 => ?_) (fun c160_24 => ?_)
          · skip
            refine mm_g 4 (pc1 := 171) (lo1 := [some (.ref q0), some (.ref q1), some (.int (Int32.ofInt v14)), o2]) (st1 := [.int (Int32.ofInt 1), .int (Int32.ofInt v14), .ref q0, .ref q0, .int (Int32.ofInt v24), .int (Int32.ofInt v20), .ref q0]) (H1 := mz_mk g15 x) rfl ?_
            refine mz_isub rfl ?_
            refine mz_cv rfl mt_10_88 (by decide) (kc_words h_q0 _) rfl (Nat.le_of_ble_eq_true rfl) (by omega) (c_X10_inRow (by omega) hx hIg15 h_q0 (by omega) (by omega) (fun v25 l_v25 u_v25 => ⟨_, rfl, ?_⟩))
            show mm_W d mmX10_settle 175 [some (.ref q0), some (.ref q1), some (.int (Int32.ofInt v14)), o2] [.int (Int32.ofInt v25), .ref q0, .int (Int32.ofInt v24), .int (Int32.ofInt v20), .ref q0] (mz_mk g15 x) Q
            refine mm_g 2 (pc1 := 177) (lo1 := [some (.ref q0), some (.ref q1), some (.int (Int32.ofInt v14)), o2]) (st1 := [.int (Int32.ofInt v14), .ref q0, .int (Int32.ofInt v25), .ref q0, .int (Int32.ofInt v24), .int (Int32.ofInt v20), .ref q0]) (H1 := mz_mk g15 x) rfl ?_
            refine mz_cv rfl mt_10_88 (by decide) (kc_words h_q0 _) rfl (Nat.le_of_ble_eq_true rfl) (by omega) (c_X10_inRow (by omega) hx hIg15 h_q0 (by omega) (by omega) (fun v26 l_v26 u_v26 => ⟨_, rfl, ?_⟩))
            show mm_W d mmX10_settle 180 [some (.ref q0), some (.ref q1), some (.int (Int32.ofInt v14)), o2] [.int (Int32.ofInt v26), .int (Int32.ofInt v25), .ref q0, .int (Int32.ofInt v24), .int (Int32.ofInt v20), .ref q0] (mz_mk g15 x) Q
            refine mz_cv rfl mt_10_94 (by decide) (kc_words h_q0 _) rfl (Nat.le_of_ble_eq_true rfl) (by omega) (c_X10_overlapOf (by omega) hx hIg15 h_q0 l_v25 u_v25 l_v26 u_v26 (fun v27 l_v27 u_v27 => ⟨_, rfl, ?_⟩))
            show mm_W d mmX10_settle 183 [some (.ref q0), some (.ref q1), some (.int (Int32.ofInt v14)), o2] [.int (Int32.ofInt v27), .int (Int32.ofInt v24), .int (Int32.ofInt v20), .ref q0] (mz_mk g15 x) Q
            refine mz_isub_w rfl (fun v28 _ hwv28 => ?_)
            have l_v28 := hwv28.1
            have u_v28 := hwv28.2
            refine mz_iadd_w rfl (fun v29 _ hwv29 => ?_)
            have l_v29 := hwv29.1
            have u_v29 := hwv29.2
            refine mz_pI rfl fd_10_44 (kc_words h_q0 _) hIg15 (kb_words_8 h_q0) (by omega) (by omega) (fun g30 hIg30 hug30 => ?_)
            refine mz_iincR (v := v14) (lo2 := [some (.ref q0), some (.ref q1), some (.int (Int32.ofInt (v14 + 1))), o2]) rfl rfl rfl (Nat.le_of_ble_eq_true rfl) rfl ?_
            refine mz_gt (tgt := 134) rfl rfl ?_
            exact ih16 ((8 - (v14 + 1)).toNat) (by omega) (v14 + 1) g30 rfl (by omega) (by omega) hIg30 (fun k j hk => ((hug30.2 k j (fun h => hk h.1)).trans (hfg15 k j (fun h => hk h))))
          · skip
            refine mm_g 1 (pc1 := 164) (lo1 := [some (.ref q0), some (.ref q1), some (.int (Int32.ofInt v14)), o2]) (st1 := [.int (Int32.ofInt 0), .int (Int32.ofInt v24), .int (Int32.ofInt v20), .ref q0]) (H1 := mz_mk g15 x) rfl ?_
            refine mz_gt (tgt := 183) rfl rfl ?_
            refine mz_isub rfl ?_
            refine mz_iadd_w rfl (fun v31 _ hwv31 => ?_)
            have l_v31 := hwv31.1
            have u_v31 := hwv31.2
            refine mz_pI rfl fd_10_44 (kc_words h_q0 _) hIg15 (kb_words_8 h_q0) (by omega) (by omega) (fun g32 hIg32 hug32 => ?_)
            refine mz_iincR (v := v14) (lo2 := [some (.ref q0), some (.ref q1), some (.int (Int32.ofInt (v14 + 1))), o2]) rfl rfl rfl (Nat.le_of_ble_eq_true rfl) rfl ?_
            refine mz_gt (tgt := 134) rfl rfl ?_
            exact ih16 ((8 - (v14 + 1)).toNat) (by omega) (v14 + 1) g32 rfl (by omega) (by omega) hIg32 (fun k j hk => ((hug32.2 k j (fun h => hk h.1)).trans (hfg15 k j (fun h => hk h))))
      exact L18 _ 0 g13 rfl (by decide) (by decide) hIg13 (fun _ _ _ => rfl)
    · skip
      refine mm_g 2 (pc1 := 12) (lo1 := [some (.ref q0), some (.ref q1), some (.int (Int32.ofInt v1)), some (.int (Int32.ofInt 0))]) (st1 := []) (H1 := mz_mk g3 x) rfl ?_
      have L37 : ∀ n36 : Nat, ∀ (v33 : Int) (g34 : mz_G), (8 - v33).toNat = n36 → 0 ≤ v33 → v33 ≤ 8 → mz_inv g34 → mz_fr (fl_X10_settle_12 x q0 q1) g3 g34 → mm_W d mmX10_settle 12 [some (.ref q0), some (.ref q1), some (.int (Int32.ofInt v1)), some (.int (Int32.ofInt v33))] [] (mz_mk g34 x) Q := by
        intro n36
        induction n36 using Nat.strongRecOn with
        | ind n36 ih35 =>
        intro v33 g34 hmn36 l_v33 u_v33 hIg34 hfg34
        refine mm_g 2 (pc1 := 14) (lo1 := [some (.ref q0), some (.ref q1), some (.int (Int32.ofInt v1)), some (.int (Int32.ofInt v33))]) (st1 := [.ref q0, .int (Int32.ofInt v33)]) (H1 := mz_mk g34 x) rfl ?_
        refine mz_fgI (v := v7) rfl fd_10_28 (by decide) (kc_words h_q0 _) (show g34 q0 3 = v7 from ((hfg34 q0 3 (fun h => (Or.elim h (fun h => (by have h9 : q0 = (q0 + 5) := h; omega)) (fun h => (by have h9 : q0 = (q0 + 6) := h; omega))))).trans e_v7)) ?_
        refine mz_ic_ge (tgt := 90) rfl rfl (mz_rg l_v33 u_v33) (mz_rg l_v7 u_v7) (fun c17_37 => ?_) (fun c17_37 => ?_)
        · skip
          refine mz_iincR (v := v1) (lo2 := [some (.ref q0), some (.ref q1), some (.int (Int32.ofInt (v1 + 1))), some (.int (Int32.ofInt v33))]) rfl rfl rfl (Nat.le_of_ble_eq_true rfl) rfl ?_
          refine mz_gt (tgt := 2) rfl rfl ?_
          exact ih4 ((8 - (v1 + 1)).toNat) (by omega) (v1 + 1) (some (.int (Int32.ofInt v33))) g34 rfl (by omega) (by omega) (mz_nl_i _) hIg34 (fun k j hk => ((hfg34 k j (fun h => hk (Or.elim h (fun h => (Or.inl h)) (fun h => (Or.inr h))))).trans (hfg3 k j (fun h => hk (Or.elim h (fun h => (Or.inl h)) (fun h => (Or.inr h)))))))
        · skip
          refine mm_g 1 (pc1 := 21) (lo1 := [some (.ref q0), some (.ref q1), some (.int (Int32.ofInt v1)), some (.int (Int32.ofInt v33))]) (st1 := [.ref q0]) (H1 := mz_mk g34 x) rfl ?_
          refine mz_fgR (v := (q0 + 5)) rfl fd_10_32 (by decide) (kc_words h_q0 _) (kr_words_4 h_q0 _ _ _) ?_
          refine mm_g 1 (pc1 := 25) (lo1 := [some (.ref q0), some (.ref q1), some (.int (Int32.ofInt v1)), some (.int (Int32.ofInt v33))]) (st1 := [.int (Int32.ofInt v1), .ref (q0 + 5)]) (H1 := mz_mk g34 x) rfl ?_
          refine mz_bip rfl bip_8 ?_
          refine mz_imul rfl ?_
          refine mm_g 1 (pc1 := 29) (lo1 := [some (.ref q0), some (.ref q1), some (.int (Int32.ofInt v1)), some (.int (Int32.ofInt v33))]) (st1 := [.int (Int32.ofInt v33), .int (Int32.ofInt (v1 * 8)), .ref (q0 + 5)]) (H1 := mz_mk g34 x) rfl ?_
          refine mz_iadd rfl ?_
          refine mm_g 2 (pc1 := 32) (lo1 := [some (.ref q0), some (.ref q1), some (.int (Int32.ofInt v1)), some (.int (Int32.ofInt v33))]) (st1 := [.int (Int32.ofInt v1), .ref q0, .int (Int32.ofInt ((v1 * 8) + v33)), .ref (q0 + 5)]) (H1 := mz_mk g34 x) rfl ?_
          refine mz_cv rfl mt_10_50 (by decide) (kc_words h_q0 _) rfl (Nat.le_of_ble_eq_true rfl) (by omega) (c_X10_of (by omega) hx hIg34 h_q0 (by omega) (by omega) (fun u38 k_u38 hp39 => ⟨_, rfl, ?_⟩))
          show mm_W d mmX10_settle 35 [some (.ref q0), some (.ref q1), some (.int (Int32.ofInt v1)), some (.int (Int32.ofInt v33))] [.ref u38, .int (Int32.ofInt ((v1 * 8) + v33)), .ref (q0 + 5)] (mz_mk g34 x) Q
          refine mm_g 2 (pc1 := 37) (lo1 := [some (.ref q0), some (.ref q1), some (.int (Int32.ofInt v1)), some (.int (Int32.ofInt v33))]) (st1 := [.int (Int32.ofInt v33), .ref q0, .ref u38, .int (Int32.ofInt ((v1 * 8) + v33)), .ref (q0 + 5)]) (H1 := mz_mk g34 x) rfl ?_
          refine mz_cv rfl mt_10_50 (by decide) (kc_words h_q0 _) rfl (Nat.le_of_ble_eq_true rfl) (by omega) (c_X10_of (by omega) hx hIg34 h_q0 (by omega) (by omega) (fun u40 k_u40 hp41 => ⟨_, rfl, ?_⟩))
          show mm_W d mmX10_settle 40 [some (.ref q0), some (.ref q1), some (.int (Int32.ofInt v1)), some (.int (Int32.ofInt v33))] [.ref u40, .ref u38, .int (Int32.ofInt ((v1 * 8) + v33)), .ref (q0 + 5)] (mz_mk g34 x) Q
          refine mz_cv rfl mt_10_72 (by decide) (kc_let k_u38 _) rfl (Nat.le_of_ble_eq_true rfl) (by omega) (c_X0_overlapWith (by omega) hx hIg34 k_u38 k_u40 (fun v42 l_v42 u_v42 => ⟨_, rfl, ?_⟩))
          show mm_W d mmX10_settle 43 [some (.ref q0), some (.ref q1), some (.int (Int32.ofInt v1)), some (.int (Int32.ofInt v33))] [.int (Int32.ofInt v42), .int (Int32.ofInt ((v1 * 8) + v33)), .ref (q0 + 5)] (mz_mk g34 x) Q
          refine mz_cs rfl mt_10_58 (by decide) rfl (Nat.le_of_ble_eq_true rfl) (by omega) (c_X11_put (by omega) hx hIg34 (ka_words_4 h_q0 _) (by decide) (kba_words_4 h_q0) (by omega) (by omega) (by omega) (by omega) (by omega) (by omega) (by omega) (by omega) (fun g43 hIg43 hfg43 => ⟨_, rfl, ?_⟩))
          show mm_W d mmX10_settle 46 [some (.ref q0), some (.ref q1), some (.int (Int32.ofInt v1)), some (.int (Int32.ofInt v33))] [] (mz_mk g43 x) Q
          refine mm_g 1 (pc1 := 47) (lo1 := [some (.ref q0), some (.ref q1), some (.int (Int32.ofInt v1)), some (.int (Int32.ofInt v33))]) (st1 := [.ref q0]) (H1 := mz_mk g43 x) rfl ?_
          refine mz_fgR (v := (q0 + 6)) rfl fd_10_35 (by decide) (kc_words h_q0 _) (kr_words_5 h_q0 _ _ _) ?_
          refine mm_g 1 (pc1 := 51) (lo1 := [some (.ref q0), some (.ref q1), some (.int (Int32.ofInt v1)), some (.int (Int32.ofInt v33))]) (st1 := [.int (Int32.ofInt v1), .ref (q0 + 6)]) (H1 := mz_mk g43 x) rfl ?_
          refine mz_bip rfl bip_8 ?_
          refine mz_imul rfl ?_
          refine mm_g 1 (pc1 := 55) (lo1 := [some (.ref q0), some (.ref q1), some (.int (Int32.ofInt v1)), some (.int (Int32.ofInt v33))]) (st1 := [.int (Int32.ofInt v33), .int (Int32.ofInt (v1 * 8)), .ref (q0 + 6)]) (H1 := mz_mk g43 x) rfl ?_
          refine mz_iadd rfl ?_
          refine mm_g 2 (pc1 := 58) (lo1 := [some (.ref q0), some (.ref q1), some (.int (Int32.ofInt v1)), some (.int (Int32.ofInt v33))]) (st1 := [.int (Int32.ofInt v1), .ref q0, .int (Int32.ofInt ((v1 * 8) + v33)), .ref (q0 + 6)]) (H1 := mz_mk g43 x) rfl ?_
          refine mz_cv rfl mt_10_50 (by decide) (kc_words h_q0 _) rfl (Nat.le_of_ble_eq_true rfl) (by omega) (c_X10_of (by omega) hx hIg43 h_q0 (by omega) (by omega) (fun u44 k_u44 hp45 => ⟨_, rfl, ?_⟩))
          show mm_W d mmX10_settle 61 [some (.ref q0), some (.ref q1), some (.int (Int32.ofInt v1)), some (.int (Int32.ofInt v33))] [.ref u44, .int (Int32.ofInt ((v1 * 8) + v33)), .ref (q0 + 6)] (mz_mk g43 x) Q
          refine mz_cv rfl mt_10_76 (by decide) (kc_let k_u44 _) rfl (Nat.le_of_ble_eq_true rfl) (by omega) (c_X0_last (by omega) hx hIg43 k_u44 (fun v46 l_v46 u_v46 => ⟨_, rfl, ?_⟩))
          show mm_W d mmX10_settle 64 [some (.ref q0), some (.ref q1), some (.int (Int32.ofInt v1)), some (.int (Int32.ofInt v33))] [.int (Int32.ofInt v46), .int (Int32.ofInt ((v1 * 8) + v33)), .ref (q0 + 6)] (mz_mk g43 x) Q
          refine mm_g 2 (pc1 := 66) (lo1 := [some (.ref q0), some (.ref q1), some (.int (Int32.ofInt v1)), some (.int (Int32.ofInt v33))]) (st1 := [.int (Int32.ofInt v33), .ref q0, .int (Int32.ofInt v46), .int (Int32.ofInt ((v1 * 8) + v33)), .ref (q0 + 6)]) (H1 := mz_mk g43 x) rfl ?_
          refine mz_cv rfl mt_10_50 (by decide) (kc_words h_q0 _) rfl (Nat.le_of_ble_eq_true rfl) (by omega) (c_X10_of (by omega) hx hIg43 h_q0 (by omega) (by omega) (fun u47 k_u47 hp48 => ⟨_, rfl, ?_⟩))
          show mm_W d mmX10_settle 69 [some (.ref q0), some (.ref q1), some (.int (Int32.ofInt v1)), some (.int (Int32.ofInt v33))] [.ref u47, .int (Int32.ofInt v46), .int (Int32.ofInt ((v1 * 8) + v33)), .ref (q0 + 6)] (mz_mk g43 x) Q
          refine mm_g 1 (pc1 := 70) (lo1 := [some (.ref q0), some (.ref q1), some (.int (Int32.ofInt v1)), some (.int (Int32.ofInt v33))]) (st1 := [.int (Int32.ofInt 0), .ref u47, .int (Int32.ofInt v46), .int (Int32.ofInt ((v1 * 8) + v33)), .ref (q0 + 6)]) (H1 := mz_mk g43 x) rfl ?_
          refine mz_cv rfl mt_10_80 (by decide) (kc_let k_u47 _) rfl (Nat.le_of_ble_eq_true rfl) (by omega) (c_X0_signAt (by omega) hx hIg43 k_u47 (by decide) (by decide) (fun v49 l_v49 u_v49 => ⟨_, rfl, ?_⟩))
          show mm_W d mmX10_settle 73 [some (.ref q0), some (.ref q1), some (.int (Int32.ofInt v1)), some (.int (Int32.ofInt v33))] [.int (Int32.ofInt v49), .int (Int32.ofInt v46), .int (Int32.ofInt ((v1 * 8) + v33)), .ref (q0 + 6)] (mz_mk g43 x) Q
          refine mz_ic_ne (tgt := 80) rfl rfl (mz_rg l_v46 u_v46) (mz_rg l_v49 u_v49) (fun c73_49 => ?_) (fun c73_49 => ?_)
          · skip
            refine mm_g 1 (pc1 := 81) (lo1 := [some (.ref q0), some (.ref q1), some (.int (Int32.ofInt v1)), some (.int (Int32.ofInt v33))]) (st1 := [.int (Int32.ofInt (-1)), .int (Int32.ofInt ((v1 * 8) + v33)), .ref (q0 + 6)]) (H1 := mz_mk g43 x) rfl ?_
            refine mz_cs rfl mt_10_58 (by decide) rfl (Nat.le_of_ble_eq_true rfl) (by omega) (c_X11_put (by omega) hx hIg43 (ka_words_5 h_q0 _) (by decide) (kba_words_5 h_q0) (by omega) (by omega) (by omega) (by omega) (by decide) (by decide) (by omega) (by omega) (fun g50 hIg50 hfg50 => ⟨_, rfl, ?_⟩))
            show mm_W d mmX10_settle 84 [some (.ref q0), some (.ref q1), some (.int (Int32.ofInt v1)), some (.int (Int32.ofInt v33))] [] (mz_mk g50 x) Q
            refine mz_iincR (v := v33) (lo2 := [some (.ref q0), some (.ref q1), some (.int (Int32.ofInt v1)), some (.int (Int32.ofInt (v33 + 1)))]) rfl rfl rfl (Nat.le_of_ble_eq_true rfl) rfl ?_
            refine mz_gt (tgt := 12) rfl rfl ?_
            exact ih35 ((8 - (v33 + 1)).toNat) (by omega) (v33 + 1) g50 rfl (by omega) (by omega) hIg50 (fun k j hk => ((hfg50 k j (fun h => hk (Or.inr h))).trans ((hfg43 k j (fun h => hk (Or.inl h))).trans (hfg34 k j (fun h => hk (Or.elim h (fun h => (Or.inl h)) (fun h => (Or.inr h))))))))
          · skip
            refine mm_g 1 (pc1 := 77) (lo1 := [some (.ref q0), some (.ref q1), some (.int (Int32.ofInt v1)), some (.int (Int32.ofInt v33))]) (st1 := [.int (Int32.ofInt 1), .int (Int32.ofInt ((v1 * 8) + v33)), .ref (q0 + 6)]) (H1 := mz_mk g43 x) rfl ?_
            refine mz_gt (tgt := 81) rfl rfl ?_
            refine mz_cs rfl mt_10_58 (by decide) rfl (Nat.le_of_ble_eq_true rfl) (by omega) (c_X11_put (by omega) hx hIg43 (ka_words_5 h_q0 _) (by decide) (kba_words_5 h_q0) (by omega) (by omega) (by omega) (by omega) (by decide) (by decide) (by omega) (by omega) (fun g51 hIg51 hfg51 => ⟨_, rfl, ?_⟩))
            show mm_W d mmX10_settle 84 [some (.ref q0), some (.ref q1), some (.int (Int32.ofInt v1)), some (.int (Int32.ofInt v33))] [] (mz_mk g51 x) Q
            refine mz_iincR (v := v33) (lo2 := [some (.ref q0), some (.ref q1), some (.int (Int32.ofInt v1)), some (.int (Int32.ofInt (v33 + 1)))]) rfl rfl rfl (Nat.le_of_ble_eq_true rfl) rfl ?_
            refine mz_gt (tgt := 12) rfl rfl ?_
            exact ih35 ((8 - (v33 + 1)).toNat) (by omega) (v33 + 1) g51 rfl (by omega) (by omega) hIg51 (fun k j hk => ((hfg51 k j (fun h => hk (Or.inr h))).trans ((hfg43 k j (fun h => hk (Or.inl h))).trans (hfg34 k j (fun h => hk (Or.elim h (fun h => (Or.inl h)) (fun h => (Or.inr h))))))))
      exact L37 _ 0 g3 rfl (by decide) (by decide) hIg3 (fun _ _ _ => rfl)
  exact L6 _ 0 none g rfl (by decide) (by decide) mz_nl_n hI (fun _ _ _ => rfl)
def fw_X8_becomeAs (x : mm_X) (q0 : Nat) (q1 : Nat) : Nat → Nat → Prop := fun k j => k = q0
theorem c_X8_becomeAs {d : Nat} (hd : 1 ≤ d) {x : mm_X} (hx : mk_x x) {g : mz_G} (hI : mz_inv g) {q0 : Nat} (h_q0 : kd_trunk q0) {q1 : Nat} (h_q1 : kd_trunk q1) {Q : (Option Value ⊕ Nat) → mm_H → Prop} (hQ : ∀ (g1 : mz_G), mz_inv g1 → mz_fr (fw_X8_becomeAs x q0 q1) g g1 → Q (.inl none) (mz_mk g1 x)) : mm_C d 95 [.ref q0, .ref q1] (mz_mk g x) Q := by
  have kn_q0 := kn_trunk h_q0
  have kn_q1 := kn_trunk h_q1
  refine ⟨mmX8_becomeAs, [some (.ref q0), some (.ref q1)], rfl, rfl, ?_⟩
  refine mm_g 2 (pc1 := 2) (lo1 := [some (.ref q0), some (.ref q1)]) (st1 := [.ref q1, .ref q0]) (H1 := mz_mk g x) rfl ?_
  refine mz_gI rfl fd_8_7 (by decide) (kc_trunk h_q1 _) hI (kb_trunk_0 h_q1) (fun v1 e_v1 l_v1 u_v1 => ?_)
  refine mz_pI rfl fd_8_7 (kc_trunk h_q0 _) hI (kb_trunk_0 h_q0) (by omega) (by omega) (fun g2 hIg2 hug2 => ?_)
  refine mm_g 2 (pc1 := 10) (lo1 := [some (.ref q0), some (.ref q1)]) (st1 := [.ref q1, .ref q0]) (H1 := mz_mk g2 x) rfl ?_
  refine mz_gI rfl fd_8_13 (by decide) (kc_trunk h_q1 _) hIg2 (kb_trunk_1 h_q1) (fun v3 e_v3 l_v3 u_v3 => ?_)
  refine mz_pI rfl fd_8_13 (kc_trunk h_q0 _) hIg2 (kb_trunk_1 h_q0) (by omega) (by omega) (fun g4 hIg4 hug4 => ?_)
  refine mm_g 2 (pc1 := 18) (lo1 := [some (.ref q0), some (.ref q1)]) (st1 := [.ref q1, .ref q0]) (H1 := mz_mk g4 x) rfl ?_
  refine mz_gI rfl fd_8_16 (by decide) (kc_trunk h_q1 _) hIg4 (kb_trunk_2 h_q1) (fun v5 e_v5 l_v5 u_v5 => ?_)
  refine mz_pI rfl fd_8_16 (kc_trunk h_q0 _) hIg4 (kb_trunk_2 h_q0) (by omega) (by omega) (fun g6 hIg6 hug6 => ?_)
  refine mm_g 2 (pc1 := 26) (lo1 := [some (.ref q0), some (.ref q1)]) (st1 := [.ref q1, .ref q0]) (H1 := mz_mk g6 x) rfl ?_
  refine mz_gI rfl fd_8_19 (by decide) (kc_trunk h_q1 _) hIg6 (kb_trunk_3 h_q1) (fun v7 e_v7 l_v7 u_v7 => ?_)
  refine mz_pI rfl fd_8_19 (kc_trunk h_q0 _) hIg6 (kb_trunk_3 h_q0) (by omega) (by omega) (fun g8 hIg8 hug8 => ?_)
  refine mm_g 2 (pc1 := 34) (lo1 := [some (.ref q0), some (.ref q1)]) (st1 := [.ref q1, .ref q0]) (H1 := mz_mk g8 x) rfl ?_
  refine mz_gI rfl fd_8_22 (by decide) (kc_trunk h_q1 _) hIg8 (kb_trunk_4 h_q1) (fun v9 e_v9 l_v9 u_v9 => ?_)
  refine mz_pZ rfl fd_8_22 (kc_trunk h_q0 _) (by omega) hIg8 (kb_trunk_4 h_q0) (by omega) (by omega) (fun g10 hIg10 hug10 => ?_)
  exact mm_rt rfl rfl (hQ _ hIg10 (fun k j hk => ((hug10.2 k j (fun h => hk h.1)).trans ((hug8.2 k j (fun h => hk h.1)).trans ((hug6.2 k j (fun h => hk h.1)).trans ((hug4.2 k j (fun h => hk h.1)).trans (hug2.2 k j (fun h => hk h.1))))))))
def fl_X9_copyAll_18 (x : mm_X) (q0 : Nat) (q1 : Nat) : Nat → Nat → Prop := fun k j => (q0 ≤ k ∧ k < q0 + 9)
def fw_X9_copyAll (x : mm_X) (q0 : Nat) (q1 : Nat) : Nat → Nat → Prop := fun k j => (q0 ≤ k ∧ k < q0 + 9)
theorem c_X9_copyAll {d : Nat} (hd : 2 ≤ d) {x : mm_X} (hx : mk_x x) {g : mz_G} (hI : mz_inv g) {q0 : Nat} (h_q0 : kd_tks q0) {q1 : Nat} (h_q1 : kd_tks q1) {Q : (Option Value ⊕ Nat) → mm_H → Prop} (hQ : ∀ (g1 : mz_G), mz_inv g1 → mz_fr (fw_X9_copyAll x q0 q1) g g1 → Q (.inl none) (mz_mk g1 x)) : mm_C d 101 [.ref q0, .ref q1] (mz_mk g x) Q := by
  have kn_q0 := kn_tks h_q0
  have kn_q1 := kn_tks h_q1
  refine ⟨mmX9_copyAll, [some (.ref q0), some (.ref q1), none], rfl, rfl, ?_⟩
  refine mm_g 2 (pc1 := 2) (lo1 := [some (.ref q0), some (.ref q1), none]) (st1 := [.ref q1, .ref q0]) (H1 := mz_mk g x) rfl ?_
  refine mz_gI rfl fd_9_22 (by decide) (kc_tks h_q1 _) hI (kb_tks_2 h_q1) (fun v1 e_v1 l_v1 u_v1 => ?_)
  refine mz_pI rfl fd_9_22 (kc_tks h_q0 _) hI (kb_tks_2 h_q0) (by omega) (by omega) (fun g2 hIg2 hug2 => ?_)
  refine mm_g 2 (pc1 := 10) (lo1 := [some (.ref q0), some (.ref q1), none]) (st1 := [.ref q1, .ref q0]) (H1 := mz_mk g2 x) rfl ?_
  refine mz_gI rfl fd_9_26 (by decide) (kc_tks h_q1 _) hIg2 (kb_tks_3 h_q1) (fun v3 e_v3 l_v3 u_v3 => ?_)
  refine mz_pI rfl fd_9_26 (kc_tks h_q0 _) hIg2 (kb_tks_3 h_q0) (by omega) (by omega) (fun g4 hIg4 hug4 => ?_)
  refine mm_g 2 (pc1 := 18) (lo1 := [some (.ref q0), some (.ref q1), some (.int (Int32.ofInt 0))]) (st1 := []) (H1 := mz_mk g4 x) rfl ?_
  have L9 : ∀ n8 : Nat, ∀ (v5 : Int) (g6 : mz_G), (6 - v5).toNat = n8 → 0 ≤ v5 → v5 ≤ 6 → mz_inv g6 → mz_fr (fl_X9_copyAll_18 x q0 q1) g4 g6 → mm_W d mmX9_copyAll 18 [some (.ref q0), some (.ref q1), some (.int (Int32.ofInt v5))] [] (mz_mk g6 x) Q := by
    intro n8
    induction n8 using Nat.strongRecOn with
    | ind n8 ih7 =>
    intro v5 g6 hmn8 l_v5 u_v5 hIg6 hfg6
    refine mm_g 2 (pc1 := 20) (lo1 := [some (.ref q0), some (.ref q1), some (.int (Int32.ofInt v5))]) (st1 := [.ref q0, .int (Int32.ofInt v5)]) (H1 := mz_mk g6 x) rfl ?_
    refine mz_gI rfl fd_9_22 (by decide) (kc_tks h_q0 _) hIg6 (kb_tks_2 h_q0) (fun v10 e_v10 l_v10 u_v10 => ?_)
    refine mz_ic_ge (tgt := 45) rfl rfl (mz_rg l_v5 u_v5) (mz_rg l_v10 u_v10) (fun c23_10 => ?_) (fun c23_10 => ?_)
    · skip
      exact mm_rt rfl rfl (hQ _ hIg6 (fun k j hk => ((hfg6 k j (fun h => hk h)).trans ((hug4.2 k j (fun h => hk (show (q0 ≤ k ∧ k < q0 + 9) by have h9 : k = q0 ∧ j = 3 := h; omega))).trans (hug2.2 k j (fun h => hk (show (q0 ≤ k ∧ k < q0 + 9) by have h9 : k = q0 ∧ j = 2 := h; omega)))))))
    · skip
      refine mm_g 2 (pc1 := 28) (lo1 := [some (.ref q0), some (.ref q1), some (.int (Int32.ofInt v5))]) (st1 := [.int (Int32.ofInt v5), .ref q0]) (H1 := mz_mk g6 x) rfl ?_
      refine mz_cv rfl mt_9_29 (by decide) (kc_tks h_q0 _) rfl (Nat.le_of_ble_eq_true rfl) (by omega) (c_X9_get (by omega) hx hIg6 h_q0 (by omega) (by omega) (fun u11 k_u11 hp12 => ⟨_, rfl, ?_⟩))
      show mm_W d mmX9_copyAll 31 [some (.ref q0), some (.ref q1), some (.int (Int32.ofInt v5))] [.ref u11] (mz_mk g6 x) Q
      refine mm_g 2 (pc1 := 33) (lo1 := [some (.ref q0), some (.ref q1), some (.int (Int32.ofInt v5))]) (st1 := [.int (Int32.ofInt v5), .ref q1, .ref u11]) (H1 := mz_mk g6 x) rfl ?_
      refine mz_cv rfl mt_9_29 (by decide) (kc_tks h_q1 _) rfl (Nat.le_of_ble_eq_true rfl) (by omega) (c_X9_get (by omega) hx hIg6 h_q1 (by omega) (by omega) (fun u13 k_u13 hp14 => ⟨_, rfl, ?_⟩))
      show mm_W d mmX9_copyAll 36 [some (.ref q0), some (.ref q1), some (.int (Int32.ofInt v5))] [.ref u13, .ref u11] (mz_mk g6 x) Q
      refine mz_cv rfl mt_9_49 (by decide) (kc_trunk k_u11 _) rfl (Nat.le_of_ble_eq_true rfl) (by omega) (c_X8_becomeAs (by omega) hx hIg6 k_u11 k_u13 (fun g15 hIg15 hfg15 => ⟨_, rfl, ?_⟩))
      show mm_W d mmX9_copyAll 39 [some (.ref q0), some (.ref q1), some (.int (Int32.ofInt v5))] [] (mz_mk g15 x) Q
      refine mz_iincR (v := v5) (lo2 := [some (.ref q0), some (.ref q1), some (.int (Int32.ofInt (v5 + 1)))]) rfl rfl rfl (Nat.le_of_ble_eq_true rfl) rfl ?_
      refine mz_gt (tgt := 18) rfl rfl ?_
      exact ih7 ((6 - (v5 + 1)).toNat) (by omega) (v5 + 1) g15 rfl (by omega) (by omega) hIg15 (fun k j hk => ((hfg15 k j (fun h => hk (show (q0 ≤ k ∧ k < q0 + 9) by have h9 : k = u11 := h; omega))).trans (hfg6 k j (fun h => hk h))))
  exact L9 _ 0 g4 rfl (by decide) (by decide) hIg4 (fun _ _ _ => rfl)
def fw_X6_beginWith (x : mm_X) (q0 : Nat) (q1 : Nat) : Nat → Nat → Prop := fun k j => ((q0 + 1) ≤ k ∧ k < (q0 + 1) + 9) ∨ k = q0
theorem c_X6_beginWith {d : Nat} (hd : 3 ≤ d) {x : mm_X} (hx : mk_x x) {g : mz_G} (hI : mz_inv g) {q0 : Nat} (h_q0 : kd_story q0) {q1 : Nat} (h_q1 : kd_tks q1) {Q : (Option Value ⊕ Nat) → mm_H → Prop} (hQ : ∀ (g1 : mz_G), mz_inv g1 → mz_fr (fw_X6_beginWith x q0 q1) g g1 → Q (.inl none) (mz_mk g1 x)) : mm_C d 67 [.ref q0, .ref q1] (mz_mk g x) Q := by
  have kn_q0 := kn_story h_q0
  have kn_q1 := kn_tks h_q1
  refine ⟨mmX6_beginWith, [some (.ref q0), some (.ref q1)], rfl, rfl, ?_⟩
  refine mm_g 1 (pc1 := 1) (lo1 := [some (.ref q0), some (.ref q1)]) (st1 := [.ref q0]) (H1 := mz_mk g x) rfl ?_
  refine mz_fgR (v := (q0 + 1)) rfl fd_6_12 (by decide) (kc_story h_q0 _) (kr_story_0 h_q0 _ _ _) ?_
  refine mm_g 1 (pc1 := 5) (lo1 := [some (.ref q0), some (.ref q1)]) (st1 := [.ref q1, .ref (q0 + 1)]) (H1 := mz_mk g x) rfl ?_
  refine mz_cv rfl mt_6_44 (by decide) (kc_tks (ks_story_0 h_q0) _) rfl (Nat.le_of_ble_eq_true rfl) (by omega) (c_X9_copyAll (by omega) hx hI (ks_story_0 h_q0) h_q1 (fun g1 hIg1 hfg1 => ⟨_, rfl, ?_⟩))
  show mm_W d mmX6_beginWith 8 [some (.ref q0), some (.ref q1)] [] (mz_mk g1 x) Q
  refine mm_g 2 (pc1 := 10) (lo1 := [some (.ref q0), some (.ref q1)]) (st1 := [.int (Int32.ofInt 0), .ref q0]) (H1 := mz_mk g1 x) rfl ?_
  refine mz_pI rfl fd_6_22 (kc_story h_q0 _) hIg1 (kb_story_2 h_q0) (by omega) (by omega) (fun g2 hIg2 hug2 => ?_)
  refine mm_g 2 (pc1 := 15) (lo1 := [some (.ref q0), some (.ref q1)]) (st1 := [.int (Int32.ofInt 0), .ref q0]) (H1 := mz_mk g2 x) rfl ?_
  refine mz_pI rfl fd_6_26 (kc_story h_q0 _) hIg2 (kb_story_3 h_q0) (by omega) (by omega) (fun g3 hIg3 hug3 => ?_)
  refine mm_g 2 (pc1 := 20) (lo1 := [some (.ref q0), some (.ref q1)]) (st1 := [.int (Int32.ofInt 0), .ref q0]) (H1 := mz_mk g3 x) rfl ?_
  refine mz_pI rfl fd_6_38 (kc_story h_q0 _) hIg3 (kb_story_7 h_q0) (by omega) (by omega) (fun g4 hIg4 hug4 => ?_)
  exact mm_rt rfl rfl (hQ _ hIg4 (fun k j hk => ((hug4.2 k j (fun h => hk (Or.inr h.1))).trans ((hug3.2 k j (fun h => hk (Or.inr h.1))).trans ((hug2.2 k j (fun h => hk (Or.inr h.1))).trans (hfg1 k j (fun h => hk (Or.inl h))))))))
def fl_X11_baggage_43 (x : mm_X) (a1 : Int) : Nat → Nat → Prop := fun k j => (k = 82 ∧ j = 3) ∨ (k = 82 ∧ j = 5) ∨ (k = 82 ∧ j = 6) ∨ (k = 82 ∧ j = 4) ∨ (k = 81 ∧ j = 1) ∨ (k = 81 ∧ j = 2) ∨ (1 ≤ k ∧ k < 81) ∨ (k = 81 ∧ j = 4) ∨ (k = 81 ∧ j = 5) ∨ (k = 81 ∧ j = 7) ∨ (k = 81 ∧ j = 8) ∨ (k = 81 ∧ j = 6) ∨ k = 84
def fw_X11_baggage (x : mm_X) (a1 : Int) : Nat → Nat → Prop := fun k j => (1 ≤ k ∧ k < 81) ∨ (k = 81 ∧ j = 1) ∨ (k = 81 ∧ j = 2) ∨ (k = 82 ∧ j = 1) ∨ (k = 82 ∧ j = 2) ∨ (k = 82 ∧ j = 3) ∨ (k = 82 ∧ j = 5) ∨ (k = 82 ∧ j = 6) ∨ (k = 82 ∧ j = 4) ∨ (k = 81 ∧ j = 4) ∨ (k = 81 ∧ j = 5) ∨ (k = 81 ∧ j = 7) ∨ (k = 81 ∧ j = 8) ∨ (k = 81 ∧ j = 6) ∨ k = 84 ∨ (k = 0 ∧ j = 0) ∨ k = 85 ∨ (87 ≤ k ∧ k < 96) ∨ k = 86 ∨ (k = 0 ∧ j = 7) ∨ k = 100
theorem c_X11_baggage {d : Nat} (hd : 15 ≤ d) {x : mm_X} (hx : mk_x x) {g : mz_G} (hI : mz_inv g) {a1 : Int} (l_a1 : (-2147483648) ≤ a1) (u_a1 : a1 ≤ 2147483647) {Q : (Option Value ⊕ Nat) → mm_H → Prop} (hQ : ∀ (r : Int) (g1 : mz_G) (x1 : mm_X), mk_x x1 → x1.2.2 = x.2.2 → mz_inv g1 → mz_fr (fw_X11_baggage x a1) g g1 → (-2147483648) ≤ r → r ≤ 2147483647 → Q (.inl (some (.int (Int32.ofInt r)))) (mz_mk g1 x1)) (hX : ∀ E, Q (.inr E) (mz_mk g (mz_tx x))) : mm_C d 124 [.ref 0, .int (Int32.ofInt a1)] (mz_mk g x) Q := by
  have kx := kn_x hx
  refine ⟨mmX11_baggage, [some (.ref 0), some (.int (Int32.ofInt a1)), none], rfl, rfl, ?_⟩
  refine mm_g 1 (pc1 := 1) (lo1 := [some (.ref 0), some (.int (Int32.ofInt a1)), none]) (st1 := [.int (Int32.ofInt a1)]) (H1 := mz_mk g x) rfl ?_
  refine mz_if_lt (tgt := 22) rfl rfl (mz_rg l_a1 u_a1) (fun c1_0 => ?_) (fun c1_0 => ?_)
  · skip
    refine mm_g 1 (pc1 := 23) (lo1 := [some (.ref 0), some (.int (Int32.ofInt a1)), none]) (st1 := [.int (Int32.ofInt 0)]) (H1 := mz_mk g x) rfl ?_
    refine mz_csx rfl mt_11_106 rfl (Nat.le_of_ble_eq_true rfl) (by omega) rfl nh_X11_mustFit (c_X11_mustFit (by omega) hx hI (by decide) (by decide) (fun hp1 => ?_) (fun E => hX E))
    show mm_W d mmX11_baggage 26 [some (.ref 0), some (.int (Int32.ofInt a1)), none] [] (mz_mk g x) Q
    exfalso; omega
  · skip
    refine mm_g 2 (pc1 := 6) (lo1 := [some (.ref 0), some (.int (Int32.ofInt a1)), none]) (st1 := [.ref 0, .int (Int32.ofInt a1)]) (H1 := mz_mk g x) rfl ?_
    refine mz_fgR (v := 81) rfl fd_11_26 (by decide) (sc_0 _) (rf_0_3 _ _ _) ?_
    refine mz_fgR (v := 82) rfl fd_11_94 (by decide) (sc_81 _) (rf_81_0 _ _ _) ?_
    refine mz_gI rfl fd_11_98 (by decide) (sc_82 _) hI bd_82_1 (fun v2 e_v2 l_v2 u_v2 => ?_)
    refine mz_ic_gt (tgt := 22) rfl rfl (mz_rg l_a1 u_a1) (mz_rg l_v2 u_v2) (fun c15_2 => ?_) (fun c15_2 => ?_)
    · skip
      refine mm_g 1 (pc1 := 23) (lo1 := [some (.ref 0), some (.int (Int32.ofInt a1)), none]) (st1 := [.int (Int32.ofInt 0)]) (H1 := mz_mk g x) rfl ?_
      refine mz_csx rfl mt_11_106 rfl (Nat.le_of_ble_eq_true rfl) (by omega) rfl nh_X11_mustFit (c_X11_mustFit (by omega) hx hI (by decide) (by decide) (fun hp3 => ?_) (fun E => hX E))
      show mm_W d mmX11_baggage 26 [some (.ref 0), some (.int (Int32.ofInt a1)), none] [] (mz_mk g x) Q
      exfalso; omega
    · skip
      refine mm_g 1 (pc1 := 19) (lo1 := [some (.ref 0), some (.int (Int32.ofInt a1)), none]) (st1 := [.int (Int32.ofInt 1)]) (H1 := mz_mk g x) rfl ?_
      refine mz_gt (tgt := 23) rfl rfl ?_
      refine mz_csx rfl mt_11_106 rfl (Nat.le_of_ble_eq_true rfl) (by omega) rfl nh_X11_mustFit (c_X11_mustFit (by omega) hx hI (by decide) (by decide) (fun hp4 => ?_) (fun E => hX E))
      show mm_W d mmX11_baggage 26 [some (.ref 0), some (.int (Int32.ofInt a1)), none] [] (mz_mk g x) Q
      refine mm_g 1 (pc1 := 27) (lo1 := [some (.ref 0), some (.int (Int32.ofInt a1)), none]) (st1 := [.ref 0]) (H1 := mz_mk g x) rfl ?_
      refine mz_fgR (v := x.2.1) rfl fd_11_20 (by decide) (sc_0 _) rfl ?_
      refine mz_cv rfl mt_11_110 (by decide) (kc_load (kx_2 hx) _) rfl (Nat.le_of_ble_eq_true rfl) (by omega) (c_X1_forgetAll (by omega) hx hI (kx_2 hx) (fun g5 hIg5 hfg5 => ⟨_, rfl, ?_⟩))
      show mm_W d mmX11_baggage 33 [some (.ref 0), some (.int (Int32.ofInt a1)), none] [] (mz_mk g5 x) Q
      refine mm_g 1 (pc1 := 34) (lo1 := [some (.ref 0), some (.int (Int32.ofInt a1)), none]) (st1 := [.ref 0]) (H1 := mz_mk g5 x) rfl ?_
      refine mz_fgR (v := 81) rfl fd_11_26 (by decide) (sc_0 _) (rf_0_3 _ _ _) ?_
      refine mm_g 1 (pc1 := 38) (lo1 := [some (.ref 0), some (.int (Int32.ofInt a1)), none]) (st1 := [.int (Int32.ofInt a1), .ref 81]) (H1 := mz_mk g5 x) rfl ?_
      refine mz_cv rfl mt_11_113 (by decide) (sc_81 _) rfl (Nat.le_of_ble_eq_true rfl) (by omega) (c_X4_begin (by omega) hx hIg5 (by omega) (by omega) (fun g6 hIg6 hfg6 => ⟨_, rfl, ?_⟩))
      show mm_W d mmX11_baggage 41 [some (.ref 0), some (.int (Int32.ofInt a1)), none] [] (mz_mk g6 x) Q
      refine mm_g 2 (pc1 := 43) (lo1 := [some (.ref 0), some (.int (Int32.ofInt a1)), some (.int (Int32.ofInt 0))]) (st1 := []) (H1 := mz_mk g6 x) rfl ?_
      have L11 : ∀ n10 : Nat, ∀ (v7 : Int) (g8 : mz_G), (700 - v7).toNat = n10 → 0 ≤ v7 → v7 ≤ 700 → mz_inv g8 → mz_fr (fl_X11_baggage_43 x a1) g6 g8 → mm_W d mmX11_baggage 43 [some (.ref 0), some (.int (Int32.ofInt a1)), some (.int (Int32.ofInt v7))] [] (mz_mk g8 x) Q := by
        intro n10
        induction n10 using Nat.strongRecOn with
        | ind n10 ih9 =>
        intro v7 g8 hmn10 l_v7 u_v7 hIg8 hfg8
        refine mm_g 1 (pc1 := 44) (lo1 := [some (.ref 0), some (.int (Int32.ofInt a1)), some (.int (Int32.ofInt v7))]) (st1 := [.int (Int32.ofInt v7)]) (H1 := mz_mk g8 x) rfl ?_
        refine mz_sip rfl sip_700 ?_
        refine mz_ic_ge (tgt := 77) rfl rfl (mz_rg l_v7 u_v7) ⟨by decide, by decide⟩ (fun c47_11 => ?_) (fun c47_11 => ?_)
        · skip
          refine mm_g 2 (pc1 := 79) (lo1 := [some (.ref 0), some (.int (Int32.ofInt a1)), some (.int (Int32.ofInt v7))]) (st1 := [.ref 0, .ref 0]) (H1 := mz_mk g8 x) rfl ?_
          refine mz_fgR (v := 81) rfl fd_11_26 (by decide) (sc_0 _) (rf_0_3 _ _ _) ?_
          refine mz_cv rfl mt_11_124 (by decide) (sc_81 _) rfl (Nat.le_of_ble_eq_true rfl) (by omega) (c_X4_place (by omega) hx hIg8 (fun v12 l_v12 u_v12 => ⟨_, rfl, ?_⟩))
          show mm_W d mmX11_baggage 85 [some (.ref 0), some (.int (Int32.ofInt a1)), some (.int (Int32.ofInt v7))] [.int (Int32.ofInt v12), .ref 0] (mz_mk g8 x) Q
          refine mz_pI rfl fd_11_9 (sc_0 _) hIg8 bd_0_0 (by omega) (by omega) (fun g13 hIg13 hug13 => ?_)
          refine mm_g 1 (pc1 := 89) (lo1 := [some (.ref 0), some (.int (Int32.ofInt a1)), some (.int (Int32.ofInt v7))]) (st1 := [.ref 0]) (H1 := mz_mk g13 x) rfl ?_
          refine mz_fgR (v := 81) rfl fd_11_26 (by decide) (sc_0 _) (rf_0_3 _ _ _) ?_
          refine mz_cv rfl mt_11_128 (by decide) (sc_81 _) rfl (Nat.le_of_ble_eq_true rfl) (by omega) (c_X4_faultKind (by omega) hx hIg13 (fun v14 l_v14 u_v14 => ⟨_, rfl, ?_⟩))
          show mm_W d mmX11_baggage 95 [some (.ref 0), some (.int (Int32.ofInt a1)), some (.int (Int32.ofInt v7))] [.int (Int32.ofInt v14)] (mz_mk g13 x) Q
          refine mz_if_eq (tgt := 115) rfl rfl (mz_rg l_v14 u_v14) (fun c95_14 => ?_) (fun c95_14 => ?_)
          · skip
            refine mm_g 1 (pc1 := 116) (lo1 := [some (.ref 0), some (.int (Int32.ofInt a1)), some (.int (Int32.ofInt v7))]) (st1 := [.ref 0]) (H1 := mz_mk g13 x) rfl ?_
            refine mz_fgR (v := x.1) rfl fd_11_16 (by decide) (sc_0 _) rfl ?_
            refine mm_g 3 (pc1 := 122) (lo1 := [some (.ref 0), some (.int (Int32.ofInt a1)), some (.ref x.1)]) (st1 := [.ref 0, .ref 0]) (H1 := mz_mk g13 x) rfl ?_
            refine mz_fgR (v := x.2.1) rfl fd_11_20 (by decide) (sc_0 _) rfl ?_
            refine mz_ld1 rfl fd_11_16 ?_
            refine mm_g 2 (pc1 := 130) (lo1 := [some (.ref 0), some (.int (Int32.ofInt a1)), some (.ref x.1)]) (st1 := [.ref x.1, .ref 0]) (H1 := mz_mk g13 (x.2.1, x.2)) rfl ?_
            refine mz_ld2 rfl fd_11_20 ?_
            obtain ⟨x1, hx1, hq1, hq2⟩ := mz_swap hx
            rw [show mz_mk g13 ((x.2.1, x.2).1, x.1, (x.2.1, x.2).2.2) = mz_mk g13 x1 from congrArg (mz_mk g13) hx1.symm]
            have kx1 := kn_x hq1
            refine mm_g 1 (pc1 := 134) (lo1 := [some (.ref 0), some (.int (Int32.ofInt a1)), some (.ref x.1)]) (st1 := [.ref 0]) (H1 := mz_mk g13 x1) rfl ?_
            refine mz_fgR (v := x1.1) rfl fd_11_16 (by decide) (sc_0 _) rfl ?_
            refine mz_fgR (v := (x1.1 + 1)) rfl fd_11_135 (by decide) (kc_load (kx_1 hq1) _) (kr_load_0 (kx_1 hq1) _ _ _) ?_
            refine mm_g 1 (pc1 := 141) (lo1 := [some (.ref 0), some (.int (Int32.ofInt a1)), some (.ref x.1)]) (st1 := [.ref 0, .ref (x1.1 + 1)]) (H1 := mz_mk g13 x1) rfl ?_
            refine mz_fgR (v := 85) rfl fd_11_30 (by decide) (sc_0 _) (rf_0_4 _ _ _) ?_
            refine mz_cv rfl mt_11_139 (by decide) (kc_words (ks_load_0 (kx_1 hq1)) _) rfl (Nat.le_of_ble_eq_true rfl) (by omega) (c_X10_settle (by omega) hq1 hIg13 (ks_load_0 (kx_1 hq1)) (sh_85 _) (by decide) ba_85 (fun g15 hIg15 hfg15 => ⟨_, rfl, ?_⟩))
            show mm_W d mmX11_baggage 147 [some (.ref 0), some (.int (Int32.ofInt a1)), some (.ref x.1)] [] (mz_mk g15 x1) Q
            refine mm_g 1 (pc1 := 148) (lo1 := [some (.ref 0), some (.int (Int32.ofInt a1)), some (.ref x.1)]) (st1 := [.ref 0]) (H1 := mz_mk g15 x1) rfl ?_
            refine mz_fgR (v := 86) rfl fd_11_37 (by decide) (sc_0 _) (rf_0_5 _ _ _) ?_
            refine mm_g 1 (pc1 := 152) (lo1 := [some (.ref 0), some (.int (Int32.ofInt a1)), some (.ref x.1)]) (st1 := [.ref 0, .ref 86]) (H1 := mz_mk g15 x1) rfl ?_
            refine mz_fgR (v := x1.1) rfl fd_11_16 (by decide) (sc_0 _) rfl ?_
            refine mz_fgR (v := (x1.1 + 26)) rfl fd_11_145 (by decide) (kc_load (kx_1 hq1) _) (kr_load_1 (kx_1 hq1) _ _ _) ?_
            refine mz_cv rfl mt_11_148 (by decide) (sc_86 _) rfl (Nat.le_of_ble_eq_true rfl) (by omega) (c_X6_beginWith (by omega) hq1 hIg15 kp_story_86 (ks_load_1 (kx_1 hq1)) (fun g16 hIg16 hfg16 => ⟨_, rfl, ?_⟩))
            show mm_W d mmX11_baggage 161 [some (.ref 0), some (.int (Int32.ofInt a1)), some (.ref x.1)] [] (mz_mk g16 x1) Q
            refine mm_g 2 (pc1 := 163) (lo1 := [some (.ref 0), some (.int (Int32.ofInt a1)), some (.ref x.1)]) (st1 := [.int (Int32.ofInt 0), .ref 0]) (H1 := mz_mk g16 x1) rfl ?_
            refine mz_pZ rfl fd_11_44 (sc_0 _) (by decide) hIg16 bd_0_7 (by omega) (by omega) (fun g17 hIg17 hug17 => ?_)
            refine mm_g 1 (pc1 := 167) (lo1 := [some (.ref 0), some (.int (Int32.ofInt a1)), some (.ref x.1)]) (st1 := [.int (Int32.ofInt 0)]) (H1 := mz_mk g17 x1) rfl ?_
            exact mm_rt rfl rfl (hQ _ _ _ hq1 hq2 hIg17 (fun k j hk => ((hug17.2 k j (fun h => hk (Or.inr (Or.inr (Or.inr (Or.inr (Or.inr (Or.inr (Or.inr (Or.inr (Or.inr (Or.inr (Or.inr (Or.inr (Or.inr (Or.inr (Or.inr (Or.inr (Or.inr (Or.inr (Or.inr (Or.inl h)))))))))))))))))))))).trans ((hfg16 k j (fun h => hk (Or.elim h (fun h => (Or.inr (Or.inr (Or.inr (Or.inr (Or.inr (Or.inr (Or.inr (Or.inr (Or.inr (Or.inr (Or.inr (Or.inr (Or.inr (Or.inr (Or.inr (Or.inr (Or.inr (Or.inl h))))))))))))))))))) (fun h => (Or.inr (Or.inr (Or.inr (Or.inr (Or.inr (Or.inr (Or.inr (Or.inr (Or.inr (Or.inr (Or.inr (Or.inr (Or.inr (Or.inr (Or.inr (Or.inr (Or.inr (Or.inr (Or.inl h))))))))))))))))))))))).trans ((hfg15 k j (fun h => hk (Or.elim h (fun h => (Or.inl (show (1 ≤ k ∧ k < 81) by have h9 : k = ((x1.1 + 1) + 5) := h; omega))) (fun h => (Or.elim h (fun h => (Or.inl (show (1 ≤ k ∧ k < 81) by have h9 : k = ((x1.1 + 1) + 6) := h; omega))) (fun h => (Or.elim h (fun h => (Or.inr (Or.inr (Or.inr (Or.inr (Or.inr (Or.inr (Or.inr (Or.inr (Or.inr (Or.inr (Or.inr (Or.inr (Or.inr (Or.inr (Or.inr (Or.inr (Or.inl h)))))))))))))))))) (fun h => (Or.elim h (fun h => (Or.inl (show (1 ≤ k ∧ k < 81) by have h9 : k = ((x1.1 + 1) + 7) := h; omega))) (fun h => (Or.elim h (fun h => (Or.inl (show (1 ≤ k ∧ k < 81) by have h9 : k = ((x1.1 + 1) + 8) := h; omega))) (fun h => (Or.inl (show (1 ≤ k ∧ k < 81) by have h9 : k = (x1.1 + 1) := h; omega)))))))))))))).trans ((hug13.2 k j (fun h => hk (Or.inr (Or.inr (Or.inr (Or.inr (Or.inr (Or.inr (Or.inr (Or.inr (Or.inr (Or.inr (Or.inr (Or.inr (Or.inr (Or.inr (Or.inr (Or.inl h)))))))))))))))))).trans ((hfg8 k j (fun h => hk (Or.elim h (fun h => (Or.inr (Or.inr (Or.inr (Or.inr (Or.inr (Or.inl h))))))) (fun h => (Or.elim h (fun h => (Or.inr (Or.inr (Or.inr (Or.inr (Or.inr (Or.inr (Or.inl h)))))))) (fun h => (Or.elim h (fun h => (Or.inr (Or.inr (Or.inr (Or.inr (Or.inr (Or.inr (Or.inr (Or.inl h))))))))) (fun h => (Or.elim h (fun h => (Or.inr (Or.inr (Or.inr (Or.inr (Or.inr (Or.inr (Or.inr (Or.inr (Or.inl h)))))))))) (fun h => (Or.elim h (fun h => (Or.inr (Or.inl h))) (fun h => (Or.elim h (fun h => (Or.inr (Or.inr (Or.inl h)))) (fun h => (Or.elim h (fun h => (Or.inl h)) (fun h => (Or.elim h (fun h => (Or.inr (Or.inr (Or.inr (Or.inr (Or.inr (Or.inr (Or.inr (Or.inr (Or.inr (Or.inl h))))))))))) (fun h => (Or.elim h (fun h => (Or.inr (Or.inr (Or.inr (Or.inr (Or.inr (Or.inr (Or.inr (Or.inr (Or.inr (Or.inr (Or.inl h)))))))))))) (fun h => (Or.elim h (fun h => (Or.inr (Or.inr (Or.inr (Or.inr (Or.inr (Or.inr (Or.inr (Or.inr (Or.inr (Or.inr (Or.inr (Or.inl h))))))))))))) (fun h => (Or.elim h (fun h => (Or.inr (Or.inr (Or.inr (Or.inr (Or.inr (Or.inr (Or.inr (Or.inr (Or.inr (Or.inr (Or.inr (Or.inr (Or.inl h)))))))))))))) (fun h => (Or.elim h (fun h => (Or.inr (Or.inr (Or.inr (Or.inr (Or.inr (Or.inr (Or.inr (Or.inr (Or.inr (Or.inr (Or.inr (Or.inr (Or.inr (Or.inl h))))))))))))))) (fun h => (Or.inr (Or.inr (Or.inr (Or.inr (Or.inr (Or.inr (Or.inr (Or.inr (Or.inr (Or.inr (Or.inr (Or.inr (Or.inr (Or.inr (Or.inl h))))))))))))))))))))))))))))))))))))))))).trans ((hfg6 k j (fun h => hk (Or.elim h (fun h => (Or.inr (Or.inl h))) (fun h => (Or.elim h (fun h => (Or.inr (Or.inr (Or.inl h)))) (fun h => (Or.elim h (fun h => (Or.inr (Or.inr (Or.inr (Or.inl h))))) (fun h => (Or.elim h (fun h => (Or.inr (Or.inr (Or.inr (Or.inr (Or.inl h)))))) (fun h => (Or.elim h (fun h => (Or.inr (Or.inr (Or.inr (Or.inr (Or.inr (Or.inl h))))))) (fun h => (Or.elim h (fun h => (Or.inr (Or.inr (Or.inr (Or.inr (Or.inr (Or.inr (Or.inl h)))))))) (fun h => (Or.elim h (fun h => (Or.inr (Or.inr (Or.inr (Or.inr (Or.inr (Or.inr (Or.inr (Or.inl h))))))))) (fun h => (Or.inr (Or.inr (Or.inr (Or.inr (Or.inr (Or.inr (Or.inr (Or.inr (Or.inl h))))))))))))))))))))))))).trans (hfg5 k j (fun h => hk (Or.elim h (fun h => (Or.inl (show (1 ≤ k ∧ k < 81) by have h9 : k = (x.2.1 + 1) := h; omega))) (fun h => (Or.elim h (fun h => (Or.inl (show (1 ≤ k ∧ k < 81) by have h9 : k = (x.2.1 + 26) := h; omega))) (fun h => (Or.elim h (fun h => (Or.inl (show (1 ≤ k ∧ k < 81) by have h9 : k = x.2.1 := h; omega))) (fun h => (Or.inl (show (1 ≤ k ∧ k < 81) by have h9 : k = (x.2.1 + 36) := h; omega))))))))))))))))) (by decide) (by decide))
          · skip
            refine mm_g 1 (pc1 := 99) (lo1 := [some (.ref 0), some (.int (Int32.ofInt a1)), some (.int (Int32.ofInt v7))]) (st1 := [.ref 0]) (H1 := mz_mk g13 x) rfl ?_
            refine mz_fgR (v := 86) rfl fd_11_37 (by decide) (sc_0 _) (rf_0_5 _ _ _) ?_
            refine mm_g 1 (pc1 := 103) (lo1 := [some (.ref 0), some (.int (Int32.ofInt a1)), some (.int (Int32.ofInt v7))]) (st1 := [.int (Int32.ofInt 0), .ref 86]) (H1 := mz_mk g13 x) rfl ?_
            refine mz_cv rfl mt_11_131 (by decide) (sc_86 _) rfl (Nat.le_of_ble_eq_true rfl) (by omega) (c_X6_refuse (by omega) hx hIg13 kp_story_86 (by decide) (by decide) (fun v18 g19 hIg19 hfg19 l_v18 u_v18 => ⟨_, rfl, ?_⟩))
            show mm_W d mmX11_baggage 106 [some (.ref 0), some (.int (Int32.ofInt a1)), some (.int (Int32.ofInt v7))] [.int (Int32.ofInt v18)] (mz_mk g19 x) Q
            refine mm_g 2 (pc1 := 108) (lo1 := [some (.ref 0), some (.int (Int32.ofInt a1)), some (.int (Int32.ofInt v7))]) (st1 := [.ref 0]) (H1 := mz_mk g19 x) rfl ?_
            refine mz_fgR (v := 81) rfl fd_11_26 (by decide) (sc_0 _) (rf_0_3 _ _ _) ?_
            refine mz_cv rfl mt_11_128 (by decide) (sc_81 _) rfl (Nat.le_of_ble_eq_true rfl) (by omega) (c_X4_faultKind (by omega) hx hIg19 (fun v20 l_v20 u_v20 => ⟨_, rfl, ?_⟩))
            show mm_W d mmX11_baggage 114 [some (.ref 0), some (.int (Int32.ofInt a1)), some (.int (Int32.ofInt v7))] [.int (Int32.ofInt v20)] (mz_mk g19 x) Q
            exact mm_rt rfl rfl (hQ _ _ _ hx rfl hIg19 (fun k j hk => ((hfg19 k j (fun h => hk (Or.inr (Or.inr (Or.inr (Or.inr (Or.inr (Or.inr (Or.inr (Or.inr (Or.inr (Or.inr (Or.inr (Or.inr (Or.inr (Or.inr (Or.inr (Or.inr (Or.inr (Or.inr (Or.inr (Or.inr h)))))))))))))))))))))).trans ((hug13.2 k j (fun h => hk (Or.inr (Or.inr (Or.inr (Or.inr (Or.inr (Or.inr (Or.inr (Or.inr (Or.inr (Or.inr (Or.inr (Or.inr (Or.inr (Or.inr (Or.inr (Or.inl h)))))))))))))))))).trans ((hfg8 k j (fun h => hk (Or.elim h (fun h => (Or.inr (Or.inr (Or.inr (Or.inr (Or.inr (Or.inl h))))))) (fun h => (Or.elim h (fun h => (Or.inr (Or.inr (Or.inr (Or.inr (Or.inr (Or.inr (Or.inl h)))))))) (fun h => (Or.elim h (fun h => (Or.inr (Or.inr (Or.inr (Or.inr (Or.inr (Or.inr (Or.inr (Or.inl h))))))))) (fun h => (Or.elim h (fun h => (Or.inr (Or.inr (Or.inr (Or.inr (Or.inr (Or.inr (Or.inr (Or.inr (Or.inl h)))))))))) (fun h => (Or.elim h (fun h => (Or.inr (Or.inl h))) (fun h => (Or.elim h (fun h => (Or.inr (Or.inr (Or.inl h)))) (fun h => (Or.elim h (fun h => (Or.inl h)) (fun h => (Or.elim h (fun h => (Or.inr (Or.inr (Or.inr (Or.inr (Or.inr (Or.inr (Or.inr (Or.inr (Or.inr (Or.inl h))))))))))) (fun h => (Or.elim h (fun h => (Or.inr (Or.inr (Or.inr (Or.inr (Or.inr (Or.inr (Or.inr (Or.inr (Or.inr (Or.inr (Or.inl h)))))))))))) (fun h => (Or.elim h (fun h => (Or.inr (Or.inr (Or.inr (Or.inr (Or.inr (Or.inr (Or.inr (Or.inr (Or.inr (Or.inr (Or.inr (Or.inl h))))))))))))) (fun h => (Or.elim h (fun h => (Or.inr (Or.inr (Or.inr (Or.inr (Or.inr (Or.inr (Or.inr (Or.inr (Or.inr (Or.inr (Or.inr (Or.inr (Or.inl h)))))))))))))) (fun h => (Or.elim h (fun h => (Or.inr (Or.inr (Or.inr (Or.inr (Or.inr (Or.inr (Or.inr (Or.inr (Or.inr (Or.inr (Or.inr (Or.inr (Or.inr (Or.inl h))))))))))))))) (fun h => (Or.inr (Or.inr (Or.inr (Or.inr (Or.inr (Or.inr (Or.inr (Or.inr (Or.inr (Or.inr (Or.inr (Or.inr (Or.inr (Or.inr (Or.inl h))))))))))))))))))))))))))))))))))))))))).trans ((hfg6 k j (fun h => hk (Or.elim h (fun h => (Or.inr (Or.inl h))) (fun h => (Or.elim h (fun h => (Or.inr (Or.inr (Or.inl h)))) (fun h => (Or.elim h (fun h => (Or.inr (Or.inr (Or.inr (Or.inl h))))) (fun h => (Or.elim h (fun h => (Or.inr (Or.inr (Or.inr (Or.inr (Or.inl h)))))) (fun h => (Or.elim h (fun h => (Or.inr (Or.inr (Or.inr (Or.inr (Or.inr (Or.inl h))))))) (fun h => (Or.elim h (fun h => (Or.inr (Or.inr (Or.inr (Or.inr (Or.inr (Or.inr (Or.inl h)))))))) (fun h => (Or.elim h (fun h => (Or.inr (Or.inr (Or.inr (Or.inr (Or.inr (Or.inr (Or.inr (Or.inl h))))))))) (fun h => (Or.inr (Or.inr (Or.inr (Or.inr (Or.inr (Or.inr (Or.inr (Or.inr (Or.inl h))))))))))))))))))))))))).trans (hfg5 k j (fun h => hk (Or.elim h (fun h => (Or.inl (show (1 ≤ k ∧ k < 81) by have h9 : k = (x.2.1 + 1) := h; omega))) (fun h => (Or.elim h (fun h => (Or.inl (show (1 ≤ k ∧ k < 81) by have h9 : k = (x.2.1 + 26) := h; omega))) (fun h => (Or.elim h (fun h => (Or.inl (show (1 ≤ k ∧ k < 81) by have h9 : k = x.2.1 := h; omega))) (fun h => (Or.inl (show (1 ≤ k ∧ k < 81) by have h9 : k = (x.2.1 + 36) := h; omega))))))))))))))) (by omega) (by omega))
        · skip
          refine mm_g 1 (pc1 := 51) (lo1 := [some (.ref 0), some (.int (Int32.ofInt a1)), some (.int (Int32.ofInt v7))]) (st1 := [.ref 0]) (H1 := mz_mk g8 x) rfl ?_
          refine mz_fgR (v := 81) rfl fd_11_26 (by decide) (sc_0 _) (rf_0_3 _ _ _) ?_
          refine mz_cv rfl mt_11_116 (by decide) (sc_81 _) rfl (Nat.le_of_ble_eq_true rfl) (by omega) (c_X4_goesOn (by omega) hx hIg8 (fun v21 l_v21 u_v21 => ⟨_, rfl, ?_⟩))
          show mm_W d mmX11_baggage 57 [some (.ref 0), some (.int (Int32.ofInt a1)), some (.int (Int32.ofInt v7))] [.int (Int32.ofInt v21)] (mz_mk g8 x) Q
          refine mz_if_eq (tgt := 77) rfl rfl (mz_rg l_v21 u_v21) (fun c57_21 => ?_) (fun c57_21 => ?_)
          · skip
            refine mm_g 2 (pc1 := 79) (lo1 := [some (.ref 0), some (.int (Int32.ofInt a1)), some (.int (Int32.ofInt v7))]) (st1 := [.ref 0, .ref 0]) (H1 := mz_mk g8 x) rfl ?_
            refine mz_fgR (v := 81) rfl fd_11_26 (by decide) (sc_0 _) (rf_0_3 _ _ _) ?_
            refine mz_cv rfl mt_11_124 (by decide) (sc_81 _) rfl (Nat.le_of_ble_eq_true rfl) (by omega) (c_X4_place (by omega) hx hIg8 (fun v22 l_v22 u_v22 => ⟨_, rfl, ?_⟩))
            show mm_W d mmX11_baggage 85 [some (.ref 0), some (.int (Int32.ofInt a1)), some (.int (Int32.ofInt v7))] [.int (Int32.ofInt v22), .ref 0] (mz_mk g8 x) Q
            refine mz_pI rfl fd_11_9 (sc_0 _) hIg8 bd_0_0 (by omega) (by omega) (fun g23 hIg23 hug23 => ?_)
            refine mm_g 1 (pc1 := 89) (lo1 := [some (.ref 0), some (.int (Int32.ofInt a1)), some (.int (Int32.ofInt v7))]) (st1 := [.ref 0]) (H1 := mz_mk g23 x) rfl ?_
            refine mz_fgR (v := 81) rfl fd_11_26 (by decide) (sc_0 _) (rf_0_3 _ _ _) ?_
            refine mz_cv rfl mt_11_128 (by decide) (sc_81 _) rfl (Nat.le_of_ble_eq_true rfl) (by omega) (c_X4_faultKind (by omega) hx hIg23 (fun v24 l_v24 u_v24 => ⟨_, rfl, ?_⟩))
            show mm_W d mmX11_baggage 95 [some (.ref 0), some (.int (Int32.ofInt a1)), some (.int (Int32.ofInt v7))] [.int (Int32.ofInt v24)] (mz_mk g23 x) Q
            refine mz_if_eq (tgt := 115) rfl rfl (mz_rg l_v24 u_v24) (fun c95_24 => ?_) (fun c95_24 => ?_)
            · skip
              refine mm_g 1 (pc1 := 116) (lo1 := [some (.ref 0), some (.int (Int32.ofInt a1)), some (.int (Int32.ofInt v7))]) (st1 := [.ref 0]) (H1 := mz_mk g23 x) rfl ?_
              refine mz_fgR (v := x.1) rfl fd_11_16 (by decide) (sc_0 _) rfl ?_
              refine mm_g 3 (pc1 := 122) (lo1 := [some (.ref 0), some (.int (Int32.ofInt a1)), some (.ref x.1)]) (st1 := [.ref 0, .ref 0]) (H1 := mz_mk g23 x) rfl ?_
              refine mz_fgR (v := x.2.1) rfl fd_11_20 (by decide) (sc_0 _) rfl ?_
              refine mz_ld1 rfl fd_11_16 ?_
              refine mm_g 2 (pc1 := 130) (lo1 := [some (.ref 0), some (.int (Int32.ofInt a1)), some (.ref x.1)]) (st1 := [.ref x.1, .ref 0]) (H1 := mz_mk g23 (x.2.1, x.2)) rfl ?_
              refine mz_ld2 rfl fd_11_20 ?_
              obtain ⟨x1, hx1, hq1, hq2⟩ := mz_swap hx
              rw [show mz_mk g23 ((x.2.1, x.2).1, x.1, (x.2.1, x.2).2.2) = mz_mk g23 x1 from congrArg (mz_mk g23) hx1.symm]
              have kx1 := kn_x hq1
              refine mm_g 1 (pc1 := 134) (lo1 := [some (.ref 0), some (.int (Int32.ofInt a1)), some (.ref x.1)]) (st1 := [.ref 0]) (H1 := mz_mk g23 x1) rfl ?_
              refine mz_fgR (v := x1.1) rfl fd_11_16 (by decide) (sc_0 _) rfl ?_
              refine mz_fgR (v := (x1.1 + 1)) rfl fd_11_135 (by decide) (kc_load (kx_1 hq1) _) (kr_load_0 (kx_1 hq1) _ _ _) ?_
              refine mm_g 1 (pc1 := 141) (lo1 := [some (.ref 0), some (.int (Int32.ofInt a1)), some (.ref x.1)]) (st1 := [.ref 0, .ref (x1.1 + 1)]) (H1 := mz_mk g23 x1) rfl ?_
              refine mz_fgR (v := 85) rfl fd_11_30 (by decide) (sc_0 _) (rf_0_4 _ _ _) ?_
              refine mz_cv rfl mt_11_139 (by decide) (kc_words (ks_load_0 (kx_1 hq1)) _) rfl (Nat.le_of_ble_eq_true rfl) (by omega) (c_X10_settle (by omega) hq1 hIg23 (ks_load_0 (kx_1 hq1)) (sh_85 _) (by decide) ba_85 (fun g25 hIg25 hfg25 => ⟨_, rfl, ?_⟩))
              show mm_W d mmX11_baggage 147 [some (.ref 0), some (.int (Int32.ofInt a1)), some (.ref x.1)] [] (mz_mk g25 x1) Q
              refine mm_g 1 (pc1 := 148) (lo1 := [some (.ref 0), some (.int (Int32.ofInt a1)), some (.ref x.1)]) (st1 := [.ref 0]) (H1 := mz_mk g25 x1) rfl ?_
              refine mz_fgR (v := 86) rfl fd_11_37 (by decide) (sc_0 _) (rf_0_5 _ _ _) ?_
              refine mm_g 1 (pc1 := 152) (lo1 := [some (.ref 0), some (.int (Int32.ofInt a1)), some (.ref x.1)]) (st1 := [.ref 0, .ref 86]) (H1 := mz_mk g25 x1) rfl ?_
              refine mz_fgR (v := x1.1) rfl fd_11_16 (by decide) (sc_0 _) rfl ?_
              refine mz_fgR (v := (x1.1 + 26)) rfl fd_11_145 (by decide) (kc_load (kx_1 hq1) _) (kr_load_1 (kx_1 hq1) _ _ _) ?_
              refine mz_cv rfl mt_11_148 (by decide) (sc_86 _) rfl (Nat.le_of_ble_eq_true rfl) (by omega) (c_X6_beginWith (by omega) hq1 hIg25 kp_story_86 (ks_load_1 (kx_1 hq1)) (fun g26 hIg26 hfg26 => ⟨_, rfl, ?_⟩))
              show mm_W d mmX11_baggage 161 [some (.ref 0), some (.int (Int32.ofInt a1)), some (.ref x.1)] [] (mz_mk g26 x1) Q
              refine mm_g 2 (pc1 := 163) (lo1 := [some (.ref 0), some (.int (Int32.ofInt a1)), some (.ref x.1)]) (st1 := [.int (Int32.ofInt 0), .ref 0]) (H1 := mz_mk g26 x1) rfl ?_
              refine mz_pZ rfl fd_11_44 (sc_0 _) (by decide) hIg26 bd_0_7 (by omega) (by omega) (fun g27 hIg27 hug27 => ?_)
              refine mm_g 1 (pc1 := 167) (lo1 := [some (.ref 0), some (.int (Int32.ofInt a1)), some (.ref x.1)]) (st1 := [.int (Int32.ofInt 0)]) (H1 := mz_mk g27 x1) rfl ?_
              exact mm_rt rfl rfl (hQ _ _ _ hq1 hq2 hIg27 (fun k j hk => ((hug27.2 k j (fun h => hk (Or.inr (Or.inr (Or.inr (Or.inr (Or.inr (Or.inr (Or.inr (Or.inr (Or.inr (Or.inr (Or.inr (Or.inr (Or.inr (Or.inr (Or.inr (Or.inr (Or.inr (Or.inr (Or.inr (Or.inl h)))))))))))))))))))))).trans ((hfg26 k j (fun h => hk (Or.elim h (fun h => (Or.inr (Or.inr (Or.inr (Or.inr (Or.inr (Or.inr (Or.inr (Or.inr (Or.inr (Or.inr (Or.inr (Or.inr (Or.inr (Or.inr (Or.inr (Or.inr (Or.inr (Or.inl h))))))))))))))))))) (fun h => (Or.inr (Or.inr (Or.inr (Or.inr (Or.inr (Or.inr (Or.inr (Or.inr (Or.inr (Or.inr (Or.inr (Or.inr (Or.inr (Or.inr (Or.inr (Or.inr (Or.inr (Or.inr (Or.inl h))))))))))))))))))))))).trans ((hfg25 k j (fun h => hk (Or.elim h (fun h => (Or.inl (show (1 ≤ k ∧ k < 81) by have h9 : k = ((x1.1 + 1) + 5) := h; omega))) (fun h => (Or.elim h (fun h => (Or.inl (show (1 ≤ k ∧ k < 81) by have h9 : k = ((x1.1 + 1) + 6) := h; omega))) (fun h => (Or.elim h (fun h => (Or.inr (Or.inr (Or.inr (Or.inr (Or.inr (Or.inr (Or.inr (Or.inr (Or.inr (Or.inr (Or.inr (Or.inr (Or.inr (Or.inr (Or.inr (Or.inr (Or.inl h)))))))))))))))))) (fun h => (Or.elim h (fun h => (Or.inl (show (1 ≤ k ∧ k < 81) by have h9 : k = ((x1.1 + 1) + 7) := h; omega))) (fun h => (Or.elim h (fun h => (Or.inl (show (1 ≤ k ∧ k < 81) by have h9 : k = ((x1.1 + 1) + 8) := h; omega))) (fun h => (Or.inl (show (1 ≤ k ∧ k < 81) by have h9 : k = (x1.1 + 1) := h; omega)))))))))))))).trans ((hug23.2 k j (fun h => hk (Or.inr (Or.inr (Or.inr (Or.inr (Or.inr (Or.inr (Or.inr (Or.inr (Or.inr (Or.inr (Or.inr (Or.inr (Or.inr (Or.inr (Or.inr (Or.inl h)))))))))))))))))).trans ((hfg8 k j (fun h => hk (Or.elim h (fun h => (Or.inr (Or.inr (Or.inr (Or.inr (Or.inr (Or.inl h))))))) (fun h => (Or.elim h (fun h => (Or.inr (Or.inr (Or.inr (Or.inr (Or.inr (Or.inr (Or.inl h)))))))) (fun h => (Or.elim h (fun h => (Or.inr (Or.inr (Or.inr (Or.inr (Or.inr (Or.inr (Or.inr (Or.inl h))))))))) (fun h => (Or.elim h (fun h => (Or.inr (Or.inr (Or.inr (Or.inr (Or.inr (Or.inr (Or.inr (Or.inr (Or.inl h)))))))))) (fun h => (Or.elim h (fun h => (Or.inr (Or.inl h))) (fun h => (Or.elim h (fun h => (Or.inr (Or.inr (Or.inl h)))) (fun h => (Or.elim h (fun h => (Or.inl h)) (fun h => (Or.elim h (fun h => (Or.inr (Or.inr (Or.inr (Or.inr (Or.inr (Or.inr (Or.inr (Or.inr (Or.inr (Or.inl h))))))))))) (fun h => (Or.elim h (fun h => (Or.inr (Or.inr (Or.inr (Or.inr (Or.inr (Or.inr (Or.inr (Or.inr (Or.inr (Or.inr (Or.inl h)))))))))))) (fun h => (Or.elim h (fun h => (Or.inr (Or.inr (Or.inr (Or.inr (Or.inr (Or.inr (Or.inr (Or.inr (Or.inr (Or.inr (Or.inr (Or.inl h))))))))))))) (fun h => (Or.elim h (fun h => (Or.inr (Or.inr (Or.inr (Or.inr (Or.inr (Or.inr (Or.inr (Or.inr (Or.inr (Or.inr (Or.inr (Or.inr (Or.inl h)))))))))))))) (fun h => (Or.elim h (fun h => (Or.inr (Or.inr (Or.inr (Or.inr (Or.inr (Or.inr (Or.inr (Or.inr (Or.inr (Or.inr (Or.inr (Or.inr (Or.inr (Or.inl h))))))))))))))) (fun h => (Or.inr (Or.inr (Or.inr (Or.inr (Or.inr (Or.inr (Or.inr (Or.inr (Or.inr (Or.inr (Or.inr (Or.inr (Or.inr (Or.inr (Or.inl h))))))))))))))))))))))))))))))))))))))))).trans ((hfg6 k j (fun h => hk (Or.elim h (fun h => (Or.inr (Or.inl h))) (fun h => (Or.elim h (fun h => (Or.inr (Or.inr (Or.inl h)))) (fun h => (Or.elim h (fun h => (Or.inr (Or.inr (Or.inr (Or.inl h))))) (fun h => (Or.elim h (fun h => (Or.inr (Or.inr (Or.inr (Or.inr (Or.inl h)))))) (fun h => (Or.elim h (fun h => (Or.inr (Or.inr (Or.inr (Or.inr (Or.inr (Or.inl h))))))) (fun h => (Or.elim h (fun h => (Or.inr (Or.inr (Or.inr (Or.inr (Or.inr (Or.inr (Or.inl h)))))))) (fun h => (Or.elim h (fun h => (Or.inr (Or.inr (Or.inr (Or.inr (Or.inr (Or.inr (Or.inr (Or.inl h))))))))) (fun h => (Or.inr (Or.inr (Or.inr (Or.inr (Or.inr (Or.inr (Or.inr (Or.inr (Or.inl h))))))))))))))))))))))))).trans (hfg5 k j (fun h => hk (Or.elim h (fun h => (Or.inl (show (1 ≤ k ∧ k < 81) by have h9 : k = (x.2.1 + 1) := h; omega))) (fun h => (Or.elim h (fun h => (Or.inl (show (1 ≤ k ∧ k < 81) by have h9 : k = (x.2.1 + 26) := h; omega))) (fun h => (Or.elim h (fun h => (Or.inl (show (1 ≤ k ∧ k < 81) by have h9 : k = x.2.1 := h; omega))) (fun h => (Or.inl (show (1 ≤ k ∧ k < 81) by have h9 : k = (x.2.1 + 36) := h; omega))))))))))))))))) (by decide) (by decide))
            · skip
              refine mm_g 1 (pc1 := 99) (lo1 := [some (.ref 0), some (.int (Int32.ofInt a1)), some (.int (Int32.ofInt v7))]) (st1 := [.ref 0]) (H1 := mz_mk g23 x) rfl ?_
              refine mz_fgR (v := 86) rfl fd_11_37 (by decide) (sc_0 _) (rf_0_5 _ _ _) ?_
              refine mm_g 1 (pc1 := 103) (lo1 := [some (.ref 0), some (.int (Int32.ofInt a1)), some (.int (Int32.ofInt v7))]) (st1 := [.int (Int32.ofInt 0), .ref 86]) (H1 := mz_mk g23 x) rfl ?_
              refine mz_cv rfl mt_11_131 (by decide) (sc_86 _) rfl (Nat.le_of_ble_eq_true rfl) (by omega) (c_X6_refuse (by omega) hx hIg23 kp_story_86 (by decide) (by decide) (fun v28 g29 hIg29 hfg29 l_v28 u_v28 => ⟨_, rfl, ?_⟩))
              show mm_W d mmX11_baggage 106 [some (.ref 0), some (.int (Int32.ofInt a1)), some (.int (Int32.ofInt v7))] [.int (Int32.ofInt v28)] (mz_mk g29 x) Q
              refine mm_g 2 (pc1 := 108) (lo1 := [some (.ref 0), some (.int (Int32.ofInt a1)), some (.int (Int32.ofInt v7))]) (st1 := [.ref 0]) (H1 := mz_mk g29 x) rfl ?_
              refine mz_fgR (v := 81) rfl fd_11_26 (by decide) (sc_0 _) (rf_0_3 _ _ _) ?_
              refine mz_cv rfl mt_11_128 (by decide) (sc_81 _) rfl (Nat.le_of_ble_eq_true rfl) (by omega) (c_X4_faultKind (by omega) hx hIg29 (fun v30 l_v30 u_v30 => ⟨_, rfl, ?_⟩))
              show mm_W d mmX11_baggage 114 [some (.ref 0), some (.int (Int32.ofInt a1)), some (.int (Int32.ofInt v7))] [.int (Int32.ofInt v30)] (mz_mk g29 x) Q
              exact mm_rt rfl rfl (hQ _ _ _ hx rfl hIg29 (fun k j hk => ((hfg29 k j (fun h => hk (Or.inr (Or.inr (Or.inr (Or.inr (Or.inr (Or.inr (Or.inr (Or.inr (Or.inr (Or.inr (Or.inr (Or.inr (Or.inr (Or.inr (Or.inr (Or.inr (Or.inr (Or.inr (Or.inr (Or.inr h)))))))))))))))))))))).trans ((hug23.2 k j (fun h => hk (Or.inr (Or.inr (Or.inr (Or.inr (Or.inr (Or.inr (Or.inr (Or.inr (Or.inr (Or.inr (Or.inr (Or.inr (Or.inr (Or.inr (Or.inr (Or.inl h)))))))))))))))))).trans ((hfg8 k j (fun h => hk (Or.elim h (fun h => (Or.inr (Or.inr (Or.inr (Or.inr (Or.inr (Or.inl h))))))) (fun h => (Or.elim h (fun h => (Or.inr (Or.inr (Or.inr (Or.inr (Or.inr (Or.inr (Or.inl h)))))))) (fun h => (Or.elim h (fun h => (Or.inr (Or.inr (Or.inr (Or.inr (Or.inr (Or.inr (Or.inr (Or.inl h))))))))) (fun h => (Or.elim h (fun h => (Or.inr (Or.inr (Or.inr (Or.inr (Or.inr (Or.inr (Or.inr (Or.inr (Or.inl h)))))))))) (fun h => (Or.elim h (fun h => (Or.inr (Or.inl h))) (fun h => (Or.elim h (fun h => (Or.inr (Or.inr (Or.inl h)))) (fun h => (Or.elim h (fun h => (Or.inl h)) (fun h => (Or.elim h (fun h => (Or.inr (Or.inr (Or.inr (Or.inr (Or.inr (Or.inr (Or.inr (Or.inr (Or.inr (Or.inl h))))))))))) (fun h => (Or.elim h (fun h => (Or.inr (Or.inr (Or.inr (Or.inr (Or.inr (Or.inr (Or.inr (Or.inr (Or.inr (Or.inr (Or.inl h)))))))))))) (fun h => (Or.elim h (fun h => (Or.inr (Or.inr (Or.inr (Or.inr (Or.inr (Or.inr (Or.inr (Or.inr (Or.inr (Or.inr (Or.inr (Or.inl h))))))))))))) (fun h => (Or.elim h (fun h => (Or.inr (Or.inr (Or.inr (Or.inr (Or.inr (Or.inr (Or.inr (Or.inr (Or.inr (Or.inr (Or.inr (Or.inr (Or.inl h)))))))))))))) (fun h => (Or.elim h (fun h => (Or.inr (Or.inr (Or.inr (Or.inr (Or.inr (Or.inr (Or.inr (Or.inr (Or.inr (Or.inr (Or.inr (Or.inr (Or.inr (Or.inl h))))))))))))))) (fun h => (Or.inr (Or.inr (Or.inr (Or.inr (Or.inr (Or.inr (Or.inr (Or.inr (Or.inr (Or.inr (Or.inr (Or.inr (Or.inr (Or.inr (Or.inl h))))))))))))))))))))))))))))))))))))))))).trans ((hfg6 k j (fun h => hk (Or.elim h (fun h => (Or.inr (Or.inl h))) (fun h => (Or.elim h (fun h => (Or.inr (Or.inr (Or.inl h)))) (fun h => (Or.elim h (fun h => (Or.inr (Or.inr (Or.inr (Or.inl h))))) (fun h => (Or.elim h (fun h => (Or.inr (Or.inr (Or.inr (Or.inr (Or.inl h)))))) (fun h => (Or.elim h (fun h => (Or.inr (Or.inr (Or.inr (Or.inr (Or.inr (Or.inl h))))))) (fun h => (Or.elim h (fun h => (Or.inr (Or.inr (Or.inr (Or.inr (Or.inr (Or.inr (Or.inl h)))))))) (fun h => (Or.elim h (fun h => (Or.inr (Or.inr (Or.inr (Or.inr (Or.inr (Or.inr (Or.inr (Or.inl h))))))))) (fun h => (Or.inr (Or.inr (Or.inr (Or.inr (Or.inr (Or.inr (Or.inr (Or.inr (Or.inl h))))))))))))))))))))))))).trans (hfg5 k j (fun h => hk (Or.elim h (fun h => (Or.inl (show (1 ≤ k ∧ k < 81) by have h9 : k = (x.2.1 + 1) := h; omega))) (fun h => (Or.elim h (fun h => (Or.inl (show (1 ≤ k ∧ k < 81) by have h9 : k = (x.2.1 + 26) := h; omega))) (fun h => (Or.elim h (fun h => (Or.inl (show (1 ≤ k ∧ k < 81) by have h9 : k = x.2.1 := h; omega))) (fun h => (Or.inl (show (1 ≤ k ∧ k < 81) by have h9 : k = (x.2.1 + 36) := h; omega))))))))))))))) (by omega) (by omega))
          · skip
            refine mm_g 1 (pc1 := 61) (lo1 := [some (.ref 0), some (.int (Int32.ofInt a1)), some (.int (Int32.ofInt v7))]) (st1 := [.ref 0]) (H1 := mz_mk g8 x) rfl ?_
            refine mz_fgR (v := 81) rfl fd_11_26 (by decide) (sc_0 _) (rf_0_3 _ _ _) ?_
            refine mm_g 1 (pc1 := 65) (lo1 := [some (.ref 0), some (.int (Int32.ofInt a1)), some (.int (Int32.ofInt v7))]) (st1 := [.ref 0, .ref 81]) (H1 := mz_mk g8 x) rfl ?_
            refine mz_fgR (v := x.2.1) rfl fd_11_20 (by decide) (sc_0 _) rfl ?_
            refine mz_cv rfl mt_11_120 (by decide) (sc_81 _) rfl (Nat.le_of_ble_eq_true rfl) (by omega) (c_X4_readLine (by omega) hx hIg8 (kx_2 hx) (fun g31 hIg31 hfg31 => ⟨_, rfl, ?_⟩))
            show mm_W d mmX11_baggage 71 [some (.ref 0), some (.int (Int32.ofInt a1)), some (.int (Int32.ofInt v7))] [] (mz_mk g31 x) Q
            refine mz_iincR (v := v7) (lo2 := [some (.ref 0), some (.int (Int32.ofInt a1)), some (.int (Int32.ofInt (v7 + 1)))]) rfl rfl rfl (Nat.le_of_ble_eq_true rfl) rfl ?_
            refine mz_gt (tgt := 43) rfl rfl ?_
            exact ih9 ((700 - (v7 + 1)).toNat) (by omega) (v7 + 1) g31 rfl (by omega) (by omega) hIg31 (fun k j hk => ((hfg31 k j (fun h => hk (Or.elim h (fun h => (Or.inl h)) (fun h => (Or.elim h (fun h => (Or.inr (Or.inl h))) (fun h => (Or.elim h (fun h => (Or.inr (Or.inr (Or.inl h)))) (fun h => (Or.elim h (fun h => (Or.inr (Or.inr (Or.inr (Or.inl h))))) (fun h => (Or.elim h (fun h => (Or.inr (Or.inr (Or.inr (Or.inr (Or.inl h)))))) (fun h => (Or.elim h (fun h => (Or.inr (Or.inr (Or.inr (Or.inr (Or.inr (Or.inl h))))))) (fun h => (Or.elim h (fun h => (Or.inr (Or.inr (Or.inr (Or.inr (Or.inr (Or.inr (Or.inl (show (1 ≤ k ∧ k < 81) by have h9 : ((x.2.1 + 26) ≤ k ∧ k < (x.2.1 + 26) + 9) := h; omega))))))))) (fun h => (Or.elim h (fun h => (Or.inr (Or.inr (Or.inr (Or.inr (Or.inr (Or.inr (Or.inr (Or.inl h))))))))) (fun h => (Or.elim h (fun h => (Or.inr (Or.inr (Or.inr (Or.inr (Or.inr (Or.inr (Or.inr (Or.inr (Or.inl h)))))))))) (fun h => (Or.elim h (fun h => (Or.inr (Or.inr (Or.inr (Or.inr (Or.inr (Or.inr (Or.inr (Or.inr (Or.inr (Or.inl h))))))))))) (fun h => (Or.elim h (fun h => (Or.inr (Or.inr (Or.inr (Or.inr (Or.inr (Or.inr (Or.inr (Or.inr (Or.inr (Or.inr (Or.inl h)))))))))))) (fun h => (Or.elim h (fun h => (Or.inr (Or.inr (Or.inr (Or.inr (Or.inr (Or.inr (Or.inr (Or.inr (Or.inr (Or.inr (Or.inr (Or.inl h))))))))))))) (fun h => (Or.elim h (fun h => (Or.inr (Or.inr (Or.inr (Or.inr (Or.inr (Or.inr (Or.inl (show (1 ≤ k ∧ k < 81) by have h9 : k = ((x.2.1 + 36) + 1) := h; omega))))))))) (fun h => (Or.elim h (fun h => (Or.inr (Or.inr (Or.inr (Or.inr (Or.inr (Or.inr (Or.inl (show (1 ≤ k ∧ k < 81) by have h9 : k = (x.2.1 + 36) := h; omega))))))))) (fun h => (Or.elim h (fun h => (Or.inr (Or.inr (Or.inr (Or.inr (Or.inr (Or.inr (Or.inr (Or.inr (Or.inr (Or.inr (Or.inr (Or.inr h))))))))))))) (fun h => (Or.elim h (fun h => (Or.inr (Or.inr (Or.inr (Or.inr (Or.inr (Or.inr (Or.inl (show (1 ≤ k ∧ k < 81) by have h9 : k = (x.2.1 + 35) := h; omega))))))))) (fun h => (Or.elim h (fun h => (Or.inr (Or.inr (Or.inr (Or.inr (Or.inr (Or.inr (Or.inl (show (1 ≤ k ∧ k < 81) by have h9 : k = x.2.1 := h; omega))))))))) (fun h => (Or.inr (Or.inr (Or.inr (Or.inr (Or.inr (Or.inr (Or.inl (show (1 ≤ k ∧ k < 81) by have h9 : ((x.2.1 + 1) ≤ k ∧ k < (x.2.1 + 1) + 25) := h; omega)))))))))))))))))))))))))))))))))))))))))))).trans (hfg8 k j (fun h => hk (Or.elim h (fun h => (Or.inl h)) (fun h => (Or.elim h (fun h => (Or.inr (Or.inl h))) (fun h => (Or.elim h (fun h => (Or.inr (Or.inr (Or.inl h)))) (fun h => (Or.elim h (fun h => (Or.inr (Or.inr (Or.inr (Or.inl h))))) (fun h => (Or.elim h (fun h => (Or.inr (Or.inr (Or.inr (Or.inr (Or.inl h)))))) (fun h => (Or.elim h (fun h => (Or.inr (Or.inr (Or.inr (Or.inr (Or.inr (Or.inl h))))))) (fun h => (Or.elim h (fun h => (Or.inr (Or.inr (Or.inr (Or.inr (Or.inr (Or.inr (Or.inl h)))))))) (fun h => (Or.elim h (fun h => (Or.inr (Or.inr (Or.inr (Or.inr (Or.inr (Or.inr (Or.inr (Or.inl h))))))))) (fun h => (Or.elim h (fun h => (Or.inr (Or.inr (Or.inr (Or.inr (Or.inr (Or.inr (Or.inr (Or.inr (Or.inl h)))))))))) (fun h => (Or.elim h (fun h => (Or.inr (Or.inr (Or.inr (Or.inr (Or.inr (Or.inr (Or.inr (Or.inr (Or.inr (Or.inl h))))))))))) (fun h => (Or.elim h (fun h => (Or.inr (Or.inr (Or.inr (Or.inr (Or.inr (Or.inr (Or.inr (Or.inr (Or.inr (Or.inr (Or.inl h)))))))))))) (fun h => (Or.elim h (fun h => (Or.inr (Or.inr (Or.inr (Or.inr (Or.inr (Or.inr (Or.inr (Or.inr (Or.inr (Or.inr (Or.inr (Or.inl h))))))))))))) (fun h => (Or.inr (Or.inr (Or.inr (Or.inr (Or.inr (Or.inr (Or.inr (Or.inr (Or.inr (Or.inr (Or.inr (Or.inr h))))))))))))))))))))))))))))))))))))))))
      exact L11 _ 0 g6 rfl (by decide) (by decide) hIg6 (fun _ _ _ => rfl)
theorem c_X11_fault {d : Nat} (hd : 1 ≤ d) {x : mm_X} (hx : mk_x x) {g : mz_G} (hI : mz_inv g) {Q : (Option Value ⊕ Nat) → mm_H → Prop} (hQ : ∀ (r : Int), (-2147483648) ≤ r → r ≤ 2147483647 → Q (.inl (some (.int (Int32.ofInt r)))) (mz_mk g x)) : mm_C d 125 [.ref 0] (mz_mk g x) Q := by
  have kx := kn_x hx
  refine ⟨mmX11_fault, [some (.ref 0)], rfl, rfl, ?_⟩
  refine mm_g 1 (pc1 := 1) (lo1 := [some (.ref 0)]) (st1 := [.ref 0]) (H1 := mz_mk g x) rfl ?_
  refine mz_gI rfl fd_11_9 (by decide) (sc_0 _) hI bd_0_0 (fun v1 e_v1 l_v1 u_v1 => ?_)
  exact mm_rt rfl rfl (hQ _ (by omega) (by omega))
theorem c_X11_trunkCount {d : Nat} (hd : 1 ≤ d) {x : mm_X} (hx : mk_x x) {g : mz_G} (hI : mz_inv g) {Q : (Option Value ⊕ Nat) → mm_H → Prop} (hQ : ∀ (r : Int), 0 ≤ r → r ≤ 6 → Q (.inl (some (.int (Int32.ofInt r)))) (mz_mk g x)) : mm_C d 127 [.ref 0] (mz_mk g x) Q := by
  have kx := kn_x hx
  refine ⟨mmX11_trunkCount, [some (.ref 0)], rfl, rfl, ?_⟩
  refine mm_g 1 (pc1 := 1) (lo1 := [some (.ref 0)]) (st1 := [.ref 0]) (H1 := mz_mk g x) rfl ?_
  refine mz_fgR (v := 86) rfl fd_11_37 (by decide) (sc_0 _) (rf_0_5 _ _ _) ?_
  refine mz_fgR (v := 87) rfl fd_11_158 (by decide) (sc_86 _) (rf_86_0 _ _ _) ?_
  refine mz_gI rfl fd_11_189 (by decide) (sc_87 _) hI bd_87_2 (fun v1 e_v1 l_v1 u_v1 => ?_)
  exact mm_rt rfl rfl (hQ _ (by omega) (by omega))
theorem c_X1_heatOf {d : Nat} (hd : 2 ≤ d) {x : mm_X} (hx : mk_x x) {g : mz_G} (hI : mz_inv g) {q0 : Nat} (h_q0 : kd_load q0) {a1 : Int} (l_a1 : (-2147483648) ≤ a1) (u_a1 : a1 ≤ 2147483647) {Q : (Option Value ⊕ Nat) → mm_H → Prop} (hQ : ∀ (r : Int), (-2147483648) ≤ r → r ≤ 2147483647 → Q (.inl (some (.int (Int32.ofInt r)))) (mz_mk g x)) : mm_C d 15 [.ref q0, .int (Int32.ofInt a1)] (mz_mk g x) Q := by
  have kn_q0 := kn_load h_q0
  refine ⟨mmX1_heatOf, [some (.ref q0), some (.int (Int32.ofInt a1))], rfl, rfl, ?_⟩
  refine mm_g 1 (pc1 := 1) (lo1 := [some (.ref q0), some (.int (Int32.ofInt a1))]) (st1 := [.ref q0]) (H1 := mz_mk g x) rfl ?_
  refine mz_gI rfl fd_1_29 (by decide) (kc_load h_q0 _) hI (kb_load_3 h_q0) (fun v1 e_v1 l_v1 u_v1 => ?_)
  refine mz_if_le (tgt := 23) rfl rfl (mz_rg l_v1 u_v1) (fun c4_1 => ?_) (fun c4_1 => ?_)
  · skip
    refine mm_g 1 (pc1 := 24) (lo1 := [some (.ref q0), some (.int (Int32.ofInt a1))]) (st1 := [.int (Int32.ofInt 5)]) (H1 := mz_mk g x) rfl ?_
    exact mm_rt rfl rfl (hQ _ (by decide) (by decide))
  · skip
    refine mm_g 1 (pc1 := 8) (lo1 := [some (.ref q0), some (.int (Int32.ofInt a1))]) (st1 := [.ref q0]) (H1 := mz_mk g x) rfl ?_
    refine mz_fgR (v := (q0 + 35)) rfl fd_1_25 (by decide) (kc_load h_q0 _) (kr_load_2 h_q0 _ _ _) ?_
    refine mm_g 2 (pc1 := 13) (lo1 := [some (.ref q0), some (.int (Int32.ofInt a1))]) (st1 := [.ref q0, .int (Int32.ofInt a1), .ref (q0 + 35)]) (H1 := mz_mk g x) rfl ?_
    refine mz_fgI (v := v1) rfl fd_1_29 (by decide) (kc_load h_q0 _) e_v1 ?_
    refine mz_irem rfl (mz_rg l_v1 u_v1) (by omega) (fun v2 hwv2 => ?_)
    have l_v2 := hwv2.1
    have u_v2 := hwv2.2
    refine mz_cs rfl mt_1_53 (by decide) rfl (Nat.le_of_ble_eq_true rfl) (by omega) (c_X11_at (by omega) hx hI (ka_load_2 h_q0 _) (by decide) (kba_load_2 h_q0) (by omega) (by omega) l_v2 u_v2 (fun v3 l_v3 u_v3 => ⟨_, rfl, ?_⟩))
    show mm_W d mmX1_heatOf 20 [some (.ref q0), some (.int (Int32.ofInt a1))] [.int (Int32.ofInt v3)] (mz_mk g x) Q
    refine mz_gt (tgt := 24) rfl rfl ?_
    exact mm_rt rfl rfl (hQ _ (by omega) (by omega))
theorem c_X1_fullOf {d : Nat} (hd : 12 ≤ d) {x : mm_X} (hx : mk_x x) {g : mz_G} (hI : mz_inv g) {q0 : Nat} (h_q0 : kd_load q0) {q1 : Nat} (h_q1 : kd_trunk q1) {Q : (Option Value ⊕ Nat) → mm_H → Prop} (hQ : ∀ (r : Int), 0 ≤ r → r ≤ 16 → Q (.inl (some (.int (Int32.ofInt r)))) (mz_mk g x)) : mm_C d 16 [.ref q0, .ref q1] (mz_mk g x) Q := by
  have kn_q0 := kn_load h_q0
  have kn_q1 := kn_trunk h_q1
  refine ⟨mmX1_fullOf, [some (.ref q0), some (.ref q1)], rfl, rfl, ?_⟩
  refine mm_g 1 (pc1 := 1) (lo1 := [some (.ref q0), some (.ref q1)]) (st1 := [.ref q0]) (H1 := mz_mk g x) rfl ?_
  refine mz_fgR (v := (q0 + 1)) rfl fd_1_12 (by decide) (kc_load h_q0 _) (kr_load_0 h_q0 _ _ _) ?_
  refine mm_g 1 (pc1 := 5) (lo1 := [some (.ref q0), some (.ref q1)]) (st1 := [.ref q1, .ref (q0 + 1)]) (H1 := mz_mk g x) rfl ?_
  refine mz_gI rfl fd_1_57 (by decide) (kc_trunk h_q1 _) hI (kb_trunk_0 h_q1) (fun v1 e_v1 l_v1 u_v1 => ?_)
  refine mz_cv rfl mt_1_62 (by decide) (kc_words (ks_load_0 h_q0) _) rfl (Nat.le_of_ble_eq_true rfl) (by omega) (c_X10_of (by omega) hx hI (ks_load_0 h_q0) l_v1 u_v1 (fun u2 k_u2 hp3 => ⟨_, rfl, ?_⟩))
  show mm_W d mmX1_fullOf 11 [some (.ref q0), some (.ref q1)] [.ref u2] (mz_mk g x) Q
  refine mz_cv rfl mt_1_66 (by decide) (kc_let k_u2 _) rfl (Nat.le_of_ble_eq_true rfl) (by omega) (c_X0_length (by omega) hx hI k_u2 (fun v4 l_v4 u_v4 => ⟨_, rfl, ?_⟩))
  show mm_W d mmX1_fullOf 14 [some (.ref q0), some (.ref q1)] [.int (Int32.ofInt v4)] (mz_mk g x) Q
  refine mm_g 1 (pc1 := 15) (lo1 := [some (.ref q0), some (.ref q1)]) (st1 := [.ref q0, .int (Int32.ofInt v4)]) (H1 := mz_mk g x) rfl ?_
  refine mz_fgR (v := (q0 + 1)) rfl fd_1_12 (by decide) (kc_load h_q0 _) (kr_load_0 h_q0 _ _ _) ?_
  refine mm_g 1 (pc1 := 19) (lo1 := [some (.ref q0), some (.ref q1)]) (st1 := [.ref q1, .ref (q0 + 1), .int (Int32.ofInt v4)]) (H1 := mz_mk g x) rfl ?_
  refine mz_gI rfl fd_1_72 (by decide) (kc_trunk h_q1 _) hI (kb_trunk_1 h_q1) (fun v5 e_v5 l_v5 u_v5 => ?_)
  refine mz_cv rfl mt_1_62 (by decide) (kc_words (ks_load_0 h_q0) _) rfl (Nat.le_of_ble_eq_true rfl) (by omega) (c_X10_of (by omega) hx hI (ks_load_0 h_q0) l_v5 u_v5 (fun u6 k_u6 hp7 => ⟨_, rfl, ?_⟩))
  show mm_W d mmX1_fullOf 25 [some (.ref q0), some (.ref q1)] [.ref u6, .int (Int32.ofInt v4)] (mz_mk g x) Q
  refine mz_cv rfl mt_1_66 (by decide) (kc_let k_u6 _) rfl (Nat.le_of_ble_eq_true rfl) (by omega) (c_X0_length (by omega) hx hI k_u6 (fun v8 l_v8 u_v8 => ⟨_, rfl, ?_⟩))
  show mm_W d mmX1_fullOf 28 [some (.ref q0), some (.ref q1)] [.int (Int32.ofInt v8), .int (Int32.ofInt v4)] (mz_mk g x) Q
  refine mz_mn rfl mt_1_75 (Nat.le_of_ble_eq_true rfl) (by omega) (mz_rg l_v4 u_v4) (mz_rg l_v8 u_v8) (fun v9 e_v9 => ?_)
  have l_v9 : 0 ≤ v9 := by omega
  have u_v9 : v9 ≤ 16 := by omega
  exact mm_rt rfl rfl (hQ _ (by omega) (by omega))
theorem c_X1_isFull {d : Nat} (hd : 13 ≤ d) {x : mm_X} (hx : mk_x x) {g : mz_G} (hI : mz_inv g) {q0 : Nat} (h_q0 : kd_load q0) {q1 : Nat} (h_q1 : kd_trunk q1) {Q : (Option Value ⊕ Nat) → mm_H → Prop} (hQ : ∀ (r : Int), 0 ≤ r → r ≤ 1 → Q (.inl (some (.int (Int32.ofInt r)))) (mz_mk g x)) : mm_C d 17 [.ref q0, .ref q1] (mz_mk g x) Q := by
  have kn_q0 := kn_load h_q0
  have kn_q1 := kn_trunk h_q1
  refine ⟨mmX1_isFull, [some (.ref q0), some (.ref q1)], rfl, rfl, ?_⟩
  refine mm_g 1 (pc1 := 1) (lo1 := [some (.ref q0), some (.ref q1)]) (st1 := [.ref q1]) (H1 := mz_mk g x) rfl ?_
  refine mz_gI rfl fd_1_81 (by decide) (kc_trunk h_q1 _) hI (kb_trunk_3 h_q1) (fun v1 e_v1 l_v1 u_v1 => ?_)
  refine mm_g 2 (pc1 := 6) (lo1 := [some (.ref q0), some (.ref q1)]) (st1 := [.ref q1, .ref q0, .int (Int32.ofInt v1)]) (H1 := mz_mk g x) rfl ?_
  refine mz_cv rfl mt_1_84 (by decide) (kc_load h_q0 _) rfl (Nat.le_of_ble_eq_true rfl) (by omega) (c_X1_fullOf (by omega) hx hI h_q0 h_q1 (fun v2 l_v2 u_v2 => ⟨_, rfl, ?_⟩))
  show mm_W d mmX1_isFull 9 [some (.ref q0), some (.ref q1)] [.int (Int32.ofInt v2), .int (Int32.ofInt v1)] (mz_mk g x) Q
  refine mz_ic_ne (tgt := 16) rfl rfl (mz_rg l_v1 u_v1) (mz_rg l_v2 u_v2) (fun c9_2 => ?_) (fun c9_2 => ?_)
  · skip
    refine mm_g 1 (pc1 := 17) (lo1 := [some (.ref q0), some (.ref q1)]) (st1 := [.int (Int32.ofInt 0)]) (H1 := mz_mk g x) rfl ?_
    exact mz_rtZ rfl (by decide) (by omega) (hQ _ (by decide) (by decide))
  · skip
    refine mm_g 1 (pc1 := 13) (lo1 := [some (.ref q0), some (.ref q1)]) (st1 := [.int (Int32.ofInt 1)]) (H1 := mz_mk g x) rfl ?_
    refine mz_gt (tgt := 17) rfl rfl ?_
    exact mz_rtZ rfl (by decide) (by omega) (hQ _ (by decide) (by decide))
theorem c_X1_howManyFull {d : Nat} (hd : 14 ≤ d) {x : mm_X} (hx : mk_x x) {g : mz_G} (hI : mz_inv g) {q0 : Nat} (h_q0 : kd_load q0) {q1 : Nat} (h_q1 : kd_tks q1) {Q : (Option Value ⊕ Nat) → mm_H → Prop} (hQ : ∀ (r : Int), (-2147483648) ≤ r → r ≤ 2147483647 → Q (.inl (some (.int (Int32.ofInt r)))) (mz_mk g x)) : mm_C d 20 [.ref q0, .ref q1] (mz_mk g x) Q := by
  have kn_q0 := kn_load h_q0
  have kn_q1 := kn_tks h_q1
  refine ⟨mmX1_howManyFull, [some (.ref q0), some (.ref q1), none, none], rfl, rfl, ?_⟩
  refine mm_g 4 (pc1 := 4) (lo1 := [some (.ref q0), some (.ref q1), some (.int (Int32.ofInt 0)), some (.int (Int32.ofInt 0))]) (st1 := []) (H1 := mz_mk g x) rfl ?_
  have L6 : ∀ n5 : Nat, ∀ (v1 : Int) (v2 : Int), (6 - v2).toNat = n5 → (-2147483648) ≤ v1 → v1 ≤ 2147483647 → 0 ≤ v2 → v2 ≤ 6 → mm_W d mmX1_howManyFull 4 [some (.ref q0), some (.ref q1), some (.int (Int32.ofInt v1)), some (.int (Int32.ofInt v2))] [] (mz_mk g x) Q := by
    intro n5
    induction n5 using Nat.strongRecOn with
    | ind n5 ih4 =>
    intro v1 v2 hmn5 l_v1 u_v1 l_v2 u_v2
    refine mm_g 2 (pc1 := 6) (lo1 := [some (.ref q0), some (.ref q1), some (.int (Int32.ofInt v1)), some (.int (Int32.ofInt v2))]) (st1 := [.ref q1, .int (Int32.ofInt v2)]) (H1 := mz_mk g x) rfl ?_
    refine mz_gI rfl fd_1_43 (by decide) (kc_tks h_q1 _) hI (kb_tks_2 h_q1) (fun v7 e_v7 l_v7 u_v7 => ?_)
    refine mz_ic_ge (tgt := 38) rfl rfl (mz_rg l_v2 u_v2) (mz_rg l_v7 u_v7) (fun c9_7 => ?_) (fun c9_7 => ?_)
    · skip
      refine mm_g 1 (pc1 := 39) (lo1 := [some (.ref q0), some (.ref q1), some (.int (Int32.ofInt v1)), some (.int (Int32.ofInt v2))]) (st1 := [.int (Int32.ofInt v1)]) (H1 := mz_mk g x) rfl ?_
      exact mm_rt rfl rfl (hQ _ (by omega) (by omega))
    · skip
      refine mm_g 4 (pc1 := 16) (lo1 := [some (.ref q0), some (.ref q1), some (.int (Int32.ofInt v1)), some (.int (Int32.ofInt v2))]) (st1 := [.int (Int32.ofInt v2), .ref q1, .ref q0, .int (Int32.ofInt v1)]) (H1 := mz_mk g x) rfl ?_
      refine mz_cv rfl mt_1_99 (by decide) (kc_tks h_q1 _) rfl (Nat.le_of_ble_eq_true rfl) (by omega) (c_X9_get (by omega) hx hI h_q1 (by omega) (by omega) (fun u8 k_u8 hp9 => ⟨_, rfl, ?_⟩))
      show mm_W d mmX1_howManyFull 19 [some (.ref q0), some (.ref q1), some (.int (Int32.ofInt v1)), some (.int (Int32.ofInt v2))] [.ref u8, .ref q0, .int (Int32.ofInt v1)] (mz_mk g x) Q
      refine mz_cv rfl mt_1_103 (by decide) (kc_load h_q0 _) rfl (Nat.le_of_ble_eq_true rfl) (by omega) (c_X1_isFull (by omega) hx hI h_q0 k_u8 (fun v10 l_v10 u_v10 => ⟨_, rfl, ?_⟩))
      show mm_W d mmX1_howManyFull 22 [some (.ref q0), some (.ref q1), some (.int (Int32.ofInt v1)), some (.int (Int32.ofInt v2))] [.int (Int32.ofInt v10), .int (Int32.ofInt v1)] (mz_mk g x) Q
      refine mz_if_eq (tgt := 29) rfl rfl (mz_rg l_v10 u_v10) (fun c22_10 => ?_) (fun c22_10 => ?_)
      · skip
        refine mm_g 1 (pc1 := 30) (lo1 := [some (.ref q0), some (.ref q1), some (.int (Int32.ofInt v1)), some (.int (Int32.ofInt v2))]) (st1 := [.int (Int32.ofInt 0), .int (Int32.ofInt v1)]) (H1 := mz_mk g x) rfl ?_
        refine mz_iadd rfl ?_
        refine mm_g 1 (pc1 := 32) (lo1 := [some (.ref q0), some (.ref q1), some (.int (Int32.ofInt (v1 + 0))), some (.int (Int32.ofInt v2))]) (st1 := []) (H1 := mz_mk g x) rfl ?_
        refine mz_iincR (v := v2) (lo2 := [some (.ref q0), some (.ref q1), some (.int (Int32.ofInt (v1 + 0))), some (.int (Int32.ofInt (v2 + 1)))]) rfl rfl rfl (Nat.le_of_ble_eq_true rfl) rfl ?_
        refine mz_gt (tgt := 4) rfl rfl ?_
        exact ih4 ((6 - (v2 + 1)).toNat) (by omega) (v1 + 0) (v2 + 1) rfl (by omega) (by omega) (by omega) (by omega)
      · skip
        refine mm_g 1 (pc1 := 26) (lo1 := [some (.ref q0), some (.ref q1), some (.int (Int32.ofInt v1)), some (.int (Int32.ofInt v2))]) (st1 := [.int (Int32.ofInt 1), .int (Int32.ofInt v1)]) (H1 := mz_mk g x) rfl ?_
        refine mz_gt (tgt := 30) rfl rfl ?_
        refine mz_iadd_w rfl (fun v11 _ hwv11 => ?_)
        have l_v11 := hwv11.1
        have u_v11 := hwv11.2
        refine mm_g 1 (pc1 := 32) (lo1 := [some (.ref q0), some (.ref q1), some (.int (Int32.ofInt v11)), some (.int (Int32.ofInt v2))]) (st1 := []) (H1 := mz_mk g x) rfl ?_
        refine mz_iincR (v := v2) (lo2 := [some (.ref q0), some (.ref q1), some (.int (Int32.ofInt v11)), some (.int (Int32.ofInt (v2 + 1)))]) rfl rfl rfl (Nat.le_of_ble_eq_true rfl) rfl ?_
        refine mz_gt (tgt := 4) rfl rfl ?_
        exact ih4 ((6 - (v2 + 1)).toNat) (by omega) v11 (v2 + 1) rfl (by omega) (by omega) (by omega) (by omega)
  exact L6 _ 0 0 rfl (by decide) (by decide) (by decide) (by decide)
theorem c_X11_treaties {d : Nat} (hd : 2 ≤ d) {x : mm_X} (hx : mk_x x) {g : mz_G} (hI : mz_inv g) {Q : (Option Value ⊕ Nat) → mm_H → Prop} (hQ : ∀ (r : Int), 0 ≤ r → r ≤ 63 → Q (.inl (some (.int (Int32.ofInt r)))) (mz_mk g x)) : mm_C d 128 [.ref 0] (mz_mk g x) Q := by
  have kx := kn_x hx
  refine ⟨mmX11_treaties, [some (.ref 0), none, none], rfl, rfl, ?_⟩
  refine mm_g 4 (pc1 := 4) (lo1 := [some (.ref 0), some (.int (Int32.ofInt 0)), some (.int (Int32.ofInt 0))]) (st1 := []) (H1 := mz_mk g x) rfl ?_
  have L6 : ∀ n5 : Nat, ∀ (v1 : Int) (v2 : Int), (6 - v2).toNat = n5 → 0 ≤ v1 → v1 ≤ 63 → 0 ≤ v2 → v2 ≤ 6 → mm_W d mmX11_treaties 4 [some (.ref 0), some (.int (Int32.ofInt v1)), some (.int (Int32.ofInt v2))] [] (mz_mk g x) Q := by
    intro n5
    induction n5 using Nat.strongRecOn with
    | ind n5 ih4 =>
    intro v1 v2 hmn5 l_v1 u_v1 l_v2 u_v2
    refine mm_g 2 (pc1 := 6) (lo1 := [some (.ref 0), some (.int (Int32.ofInt v1)), some (.int (Int32.ofInt v2))]) (st1 := [.ref 0, .int (Int32.ofInt v2)]) (H1 := mz_mk g x) rfl ?_
    refine mz_cv rfl mt_11_155 (by decide) (sc_0 _) rfl (Nat.le_of_ble_eq_true rfl) (by omega) (c_X11_trunkCount (by omega) hx hI (fun v7 l_v7 u_v7 => ⟨_, rfl, ?_⟩))
    show mm_W d mmX11_treaties 9 [some (.ref 0), some (.int (Int32.ofInt v1)), some (.int (Int32.ofInt v2))] [.int (Int32.ofInt v7), .int (Int32.ofInt v2)] (mz_mk g x) Q
    refine mz_ic_ge (tgt := 41) rfl rfl (mz_rg l_v2 u_v2) (mz_rg l_v7 u_v7) (fun c9_7 => ?_) (fun c9_7 => ?_)
    · skip
      refine mm_g 1 (pc1 := 42) (lo1 := [some (.ref 0), some (.int (Int32.ofInt v1)), some (.int (Int32.ofInt v2))]) (st1 := [.int (Int32.ofInt v1)]) (H1 := mz_mk g x) rfl ?_
      exact mm_rt rfl rfl (hQ _ (by omega) (by omega))
    · skip
      refine mm_g 1 (pc1 := 13) (lo1 := [some (.ref 0), some (.int (Int32.ofInt v1)), some (.int (Int32.ofInt v2))]) (st1 := [.ref 0]) (H1 := mz_mk g x) rfl ?_
      refine mz_fgR (v := 86) rfl fd_11_37 (by decide) (sc_0 _) (rf_0_5 _ _ _) ?_
      refine mz_fgR (v := 87) rfl fd_11_158 (by decide) (sc_86 _) (rf_86_0 _ _ _) ?_
      refine mm_g 1 (pc1 := 20) (lo1 := [some (.ref 0), some (.int (Int32.ofInt v1)), some (.int (Int32.ofInt v2))]) (st1 := [.int (Int32.ofInt v2), .ref 87]) (H1 := mz_mk g x) rfl ?_
      refine mz_cv rfl mt_11_192 (by decide) (sc_87 _) rfl (Nat.le_of_ble_eq_true rfl) (by omega) (c_X9_get (by omega) hx hI kp_tks_87 (by omega) (by omega) (fun u8 k_u8 hp9 => ⟨_, rfl, ?_⟩))
      show mm_W d mmX11_treaties 23 [some (.ref 0), some (.int (Int32.ofInt v1)), some (.int (Int32.ofInt v2))] [.ref u8] (mz_mk g x) Q
      refine mz_gI rfl fd_11_196 (by decide) (kc_trunk k_u8 _) hI (kb_trunk_4 k_u8) (fun v10 e_v10 l_v10 u_v10 => ?_)
      refine mz_if_eq (tgt := 35) rfl rfl (mz_rg l_v10 u_v10) (fun c26_10 => ?_) (fun c26_10 => ?_)
      · skip
        refine mz_iincR (v := v2) (lo2 := [some (.ref 0), some (.int (Int32.ofInt v1)), some (.int (Int32.ofInt (v2 + 1)))]) rfl rfl rfl (Nat.le_of_ble_eq_true rfl) rfl ?_
        refine mz_gt (tgt := 4) rfl rfl ?_
        exact ih4 ((6 - (v2 + 1)).toNat) (by omega) v1 (v2 + 1) rfl (by omega) (by omega) (by omega) (by omega)
      · skip
        refine mm_g 3 (pc1 := 32) (lo1 := [some (.ref 0), some (.int (Int32.ofInt v1)), some (.int (Int32.ofInt v2))]) (st1 := [.int (Int32.ofInt v2), .int (Int32.ofInt 1), .int (Int32.ofInt v1)]) (H1 := mz_mk g x) rfl ?_
        refine mz_ishl rfl (fun v11 e_v11 hwv11 => ?_)
        have b_v11 : 1 ≤ v11 ∧ v11 ≤ 32 := by rw [e_v11]; exact mz_shl_b (lx := 1) (hx := 1) (k := 5) (by decide) (by decide) (by omega) (by omega) (by omega) (by omega)
        have l_v11 := b_v11.1
        have u_v11 := b_v11.2
        refine mz_ior rfl (fun v12 e_v12 hwv12 => ?_)
        have b_v12 : 0 ≤ v12 ∧ v12 ≤ 63 := by rw [e_v12]; exact mz_or_lt (n := 6) (by decide) (by omega) (by omega) (by omega) (by omega)
        have l_v12 := b_v12.1
        have u_v12 := b_v12.2
        refine mm_g 1 (pc1 := 35) (lo1 := [some (.ref 0), some (.int (Int32.ofInt v12)), some (.int (Int32.ofInt v2))]) (st1 := []) (H1 := mz_mk g x) rfl ?_
        refine mz_iincR (v := v2) (lo2 := [some (.ref 0), some (.int (Int32.ofInt v12)), some (.int (Int32.ofInt (v2 + 1)))]) rfl rfl rfl (Nat.le_of_ble_eq_true rfl) rfl ?_
        refine mz_gt (tgt := 4) rfl rfl ?_
        exact ih4 ((6 - (v2 + 1)).toNat) (by omega) v12 (v2 + 1) rfl (by omega) (by omega) (by omega) (by omega)
  exact L6 _ 0 0 rfl (by decide) (by decide) (by decide) (by decide)
theorem c_X1_blendSize {d : Nat} (hd : 2 ≤ d) {x : mm_X} (hx : mk_x x) {g : mz_G} (hI : mz_inv g) {q0 : Nat} (h_q0 : kd_load q0) {q1 : Nat} (h_q1 : kd_trunk q1) {Q : (Option Value ⊕ Nat) → mm_H → Prop} (hQ : ∀ (r : Int), (-2147483648) ≤ r → r ≤ 2147483647 → Q (.inl (some (.int (Int32.ofInt r)))) (mz_mk g x)) : mm_C d 18 [.ref q0, .ref q1] (mz_mk g x) Q := by
  have kn_q0 := kn_load h_q0
  have kn_q1 := kn_trunk h_q1
  refine ⟨mmX1_blendSize, [some (.ref q0), some (.ref q1)], rfl, rfl, ?_⟩
  refine mm_g 1 (pc1 := 1) (lo1 := [some (.ref q0), some (.ref q1)]) (st1 := [.ref q0]) (H1 := mz_mk g x) rfl ?_
  refine mz_fgR (v := (q0 + 1)) rfl fd_1_12 (by decide) (kc_load h_q0 _) (kr_load_0 h_q0 _ _ _) ?_
  refine mm_g 1 (pc1 := 5) (lo1 := [some (.ref q0), some (.ref q1)]) (st1 := [.ref q1, .ref (q0 + 1)]) (H1 := mz_mk g x) rfl ?_
  refine mz_gI rfl fd_1_57 (by decide) (kc_trunk h_q1 _) hI (kb_trunk_0 h_q1) (fun v1 e_v1 l_v1 u_v1 => ?_)
  refine mz_cv rfl mt_1_62 (by decide) (kc_words (ks_load_0 h_q0) _) rfl (Nat.le_of_ble_eq_true rfl) (by omega) (c_X10_of (by omega) hx hI (ks_load_0 h_q0) l_v1 u_v1 (fun u2 k_u2 hp3 => ⟨_, rfl, ?_⟩))
  show mm_W d mmX1_blendSize 11 [some (.ref q0), some (.ref q1)] [.ref u2] (mz_mk g x) Q
  refine mz_cv rfl mt_1_66 (by decide) (kc_let k_u2 _) rfl (Nat.le_of_ble_eq_true rfl) (by omega) (c_X0_length (by omega) hx hI k_u2 (fun v4 l_v4 u_v4 => ⟨_, rfl, ?_⟩))
  show mm_W d mmX1_blendSize 14 [some (.ref q0), some (.ref q1)] [.int (Int32.ofInt v4)] (mz_mk g x) Q
  refine mm_g 1 (pc1 := 15) (lo1 := [some (.ref q0), some (.ref q1)]) (st1 := [.ref q0, .int (Int32.ofInt v4)]) (H1 := mz_mk g x) rfl ?_
  refine mz_fgR (v := (q0 + 1)) rfl fd_1_12 (by decide) (kc_load h_q0 _) (kr_load_0 h_q0 _ _ _) ?_
  refine mm_g 1 (pc1 := 19) (lo1 := [some (.ref q0), some (.ref q1)]) (st1 := [.ref q1, .ref (q0 + 1), .int (Int32.ofInt v4)]) (H1 := mz_mk g x) rfl ?_
  refine mz_gI rfl fd_1_72 (by decide) (kc_trunk h_q1 _) hI (kb_trunk_1 h_q1) (fun v5 e_v5 l_v5 u_v5 => ?_)
  refine mz_cv rfl mt_1_62 (by decide) (kc_words (ks_load_0 h_q0) _) rfl (Nat.le_of_ble_eq_true rfl) (by omega) (c_X10_of (by omega) hx hI (ks_load_0 h_q0) l_v5 u_v5 (fun u6 k_u6 hp7 => ⟨_, rfl, ?_⟩))
  show mm_W d mmX1_blendSize 25 [some (.ref q0), some (.ref q1)] [.ref u6, .int (Int32.ofInt v4)] (mz_mk g x) Q
  refine mz_cv rfl mt_1_66 (by decide) (kc_let k_u6 _) rfl (Nat.le_of_ble_eq_true rfl) (by omega) (c_X0_length (by omega) hx hI k_u6 (fun v8 l_v8 u_v8 => ⟨_, rfl, ?_⟩))
  show mm_W d mmX1_blendSize 28 [some (.ref q0), some (.ref q1)] [.int (Int32.ofInt v8), .int (Int32.ofInt v4)] (mz_mk g x) Q
  refine mz_iadd rfl ?_
  refine mm_g 1 (pc1 := 30) (lo1 := [some (.ref q0), some (.ref q1)]) (st1 := [.ref q1, .int (Int32.ofInt (v4 + v8))]) (H1 := mz_mk g x) rfl ?_
  refine mz_gI rfl fd_1_81 (by decide) (kc_trunk h_q1 _) hI (kb_trunk_3 h_q1) (fun v9 e_v9 l_v9 u_v9 => ?_)
  refine mz_isub_w rfl (fun v10 _ hwv10 => ?_)
  have l_v10 := hwv10.1
  have u_v10 := hwv10.2
  exact mm_rt rfl rfl (hQ _ (by omega) (by omega))
theorem c_X1_lettersOfAll {d : Nat} (hd : 3 ≤ d) {x : mm_X} (hx : mk_x x) {g : mz_G} (hI : mz_inv g) {q0 : Nat} (h_q0 : kd_load q0) {q1 : Nat} (h_q1 : kd_tks q1) {Q : (Option Value ⊕ Nat) → mm_H → Prop} (hQ : ∀ (r : Int), (-2147483648) ≤ r → r ≤ 2147483647 → Q (.inl (some (.int (Int32.ofInt r)))) (mz_mk g x)) : mm_C d 21 [.ref q0, .ref q1] (mz_mk g x) Q := by
  have kn_q0 := kn_load h_q0
  have kn_q1 := kn_tks h_q1
  refine ⟨mmX1_lettersOfAll, [some (.ref q0), some (.ref q1), none, none], rfl, rfl, ?_⟩
  refine mm_g 4 (pc1 := 4) (lo1 := [some (.ref q0), some (.ref q1), some (.int (Int32.ofInt 0)), some (.int (Int32.ofInt 0))]) (st1 := []) (H1 := mz_mk g x) rfl ?_
  have L6 : ∀ n5 : Nat, ∀ (v1 : Int) (v2 : Int), (6 - v2).toNat = n5 → (-2147483648) ≤ v1 → v1 ≤ 2147483647 → 0 ≤ v2 → v2 ≤ 6 → mm_W d mmX1_lettersOfAll 4 [some (.ref q0), some (.ref q1), some (.int (Int32.ofInt v1)), some (.int (Int32.ofInt v2))] [] (mz_mk g x) Q := by
    intro n5
    induction n5 using Nat.strongRecOn with
    | ind n5 ih4 =>
    intro v1 v2 hmn5 l_v1 u_v1 l_v2 u_v2
    refine mm_g 2 (pc1 := 6) (lo1 := [some (.ref q0), some (.ref q1), some (.int (Int32.ofInt v1)), some (.int (Int32.ofInt v2))]) (st1 := [.ref q1, .int (Int32.ofInt v2)]) (H1 := mz_mk g x) rfl ?_
    refine mz_gI rfl fd_1_43 (by decide) (kc_tks h_q1 _) hI (kb_tks_2 h_q1) (fun v7 e_v7 l_v7 u_v7 => ?_)
    refine mz_ic_ge (tgt := 30) rfl rfl (mz_rg l_v2 u_v2) (mz_rg l_v7 u_v7) (fun c9_7 => ?_) (fun c9_7 => ?_)
    · skip
      refine mm_g 1 (pc1 := 31) (lo1 := [some (.ref q0), some (.ref q1), some (.int (Int32.ofInt v1)), some (.int (Int32.ofInt v2))]) (st1 := [.int (Int32.ofInt v1)]) (H1 := mz_mk g x) rfl ?_
      exact mm_rt rfl rfl (hQ _ (by omega) (by omega))
    · skip
      refine mm_g 4 (pc1 := 16) (lo1 := [some (.ref q0), some (.ref q1), some (.int (Int32.ofInt v1)), some (.int (Int32.ofInt v2))]) (st1 := [.int (Int32.ofInt v2), .ref q1, .ref q0, .int (Int32.ofInt v1)]) (H1 := mz_mk g x) rfl ?_
      refine mz_cv rfl mt_1_99 (by decide) (kc_tks h_q1 _) rfl (Nat.le_of_ble_eq_true rfl) (by omega) (c_X9_get (by omega) hx hI h_q1 (by omega) (by omega) (fun u8 k_u8 hp9 => ⟨_, rfl, ?_⟩))
      show mm_W d mmX1_lettersOfAll 19 [some (.ref q0), some (.ref q1), some (.int (Int32.ofInt v1)), some (.int (Int32.ofInt v2))] [.ref u8, .ref q0, .int (Int32.ofInt v1)] (mz_mk g x) Q
      refine mz_cv rfl mt_1_107 (by decide) (kc_load h_q0 _) rfl (Nat.le_of_ble_eq_true rfl) (by omega) (c_X1_blendSize (by omega) hx hI h_q0 k_u8 (fun v10 l_v10 u_v10 => ⟨_, rfl, ?_⟩))
      show mm_W d mmX1_lettersOfAll 22 [some (.ref q0), some (.ref q1), some (.int (Int32.ofInt v1)), some (.int (Int32.ofInt v2))] [.int (Int32.ofInt v10), .int (Int32.ofInt v1)] (mz_mk g x) Q
      refine mz_iadd_w rfl (fun v11 _ hwv11 => ?_)
      have l_v11 := hwv11.1
      have u_v11 := hwv11.2
      refine mm_g 1 (pc1 := 24) (lo1 := [some (.ref q0), some (.ref q1), some (.int (Int32.ofInt v11)), some (.int (Int32.ofInt v2))]) (st1 := []) (H1 := mz_mk g x) rfl ?_
      refine mz_iincR (v := v2) (lo2 := [some (.ref q0), some (.ref q1), some (.int (Int32.ofInt v11)), some (.int (Int32.ofInt (v2 + 1)))]) rfl rfl rfl (Nat.le_of_ble_eq_true rfl) rfl ?_
      refine mz_gt (tgt := 4) rfl rfl ?_
      exact ih4 ((6 - (v2 + 1)).toNat) (by omega) v11 (v2 + 1) rfl (by omega) (by omega) (by omega) (by omega)
  exact L6 _ 0 0 rfl (by decide) (by decide) (by decide) (by decide)
theorem c_X6_actsKept {d : Nat} (hd : 1 ≤ d) {x : mm_X} (hx : mk_x x) {g : mz_G} (hI : mz_inv g) {q0 : Nat} (h_q0 : kd_story q0) {Q : (Option Value ⊕ Nat) → mm_H → Prop} (hQ : ∀ (r : Int), 0 ≤ r → r ≤ 40 → Q (.inl (some (.int (Int32.ofInt r)))) (mz_mk g x)) : mm_C d 70 [.ref q0] (mz_mk g x) Q := by
  have kn_q0 := kn_story h_q0
  refine ⟨mmX6_actsKept, [some (.ref q0)], rfl, rfl, ?_⟩
  refine mm_g 1 (pc1 := 1) (lo1 := [some (.ref q0)]) (st1 := [.ref q0]) (H1 := mz_mk g x) rfl ?_
  refine mz_gI rfl fd_6_26 (by decide) (kc_story h_q0 _) hI (kb_story_3 h_q0) (fun v1 e_v1 l_v1 u_v1 => ?_)
  exact mm_rt rfl rfl (hQ _ (by omega) (by omega))
theorem c_X6_seenSize {d : Nat} (hd : 1 ≤ d) {x : mm_X} (hx : mk_x x) {g : mz_G} (hI : mz_inv g) {q0 : Nat} (h_q0 : kd_story q0) {Q : (Option Value ⊕ Nat) → mm_H → Prop} (hQ : ∀ (r : Int), 0 ≤ r → r ≤ 8 → Q (.inl (some (.int (Int32.ofInt r)))) (mz_mk g x)) : mm_C d 73 [.ref q0] (mz_mk g x) Q := by
  have kn_q0 := kn_story h_q0
  refine ⟨mmX6_seenSize, [some (.ref q0)], rfl, rfl, ?_⟩
  refine mm_g 1 (pc1 := 1) (lo1 := [some (.ref q0)]) (st1 := [.ref q0]) (H1 := mz_mk g x) rfl ?_
  refine mz_gI rfl fd_6_38 (by decide) (kc_story h_q0 _) hI (kb_story_7 h_q0) (fun v1 e_v1 l_v1 u_v1 => ?_)
  exact mm_rt rfl rfl (hQ _ (by omega) (by omega))
theorem c_X11_mustBe {d : Nat} (hd : 12 ≤ d) {x : mm_X} (hx : mk_x x) {g : mz_G} (hI : mz_inv g) {a1 : Int} (l_a1 : 0 ≤ a1) (u_a1 : a1 ≤ 1) {Q : (Option Value ⊕ Nat) → mm_H → Prop} (hQ : (a1 = 1) → Q (.inl none) (mz_mk g x)) (hX : ∀ E, Q (.inr E) (mz_mk g (mz_tx x))) : mm_C d 174 [.int (Int32.ofInt a1)] (mz_mk g x) Q := by
  have kx := kn_x hx
  refine ⟨mmX11_mustBe, [some (.int (Int32.ofInt a1))], rfl, rfl, ?_⟩
  refine mm_g 1 (pc1 := 1) (lo1 := [some (.int (Int32.ofInt a1))]) (st1 := [.int (Int32.ofInt a1)]) (H1 := mz_mk g x) rfl ?_
  refine mz_if_ne (tgt := 12) rfl rfl (mz_rg l_a1 u_a1) (fun c1_0 => ?_) (fun c1_0 => ?_)
  · skip
    exact mm_rt rfl rfl (hQ (by omega))
  · skip
    exact mz_throw rfl rfl rfl rfl rfl rfl rfl (Nat.le_of_ble_eq_true rfl) (by omega) (hX _)
theorem c_X6_refusals {d : Nat} (hd : 2 ≤ d) {x : mm_X} (hx : mk_x x) {g : mz_G} (hI : mz_inv g) {q0 : Nat} (h_q0 : kd_story q0) {a1 : Int} (l_a1 : (-2147483648) ≤ a1) (u_a1 : a1 ≤ 2147483647) {Q : (Option Value ⊕ Nat) → mm_H → Prop} (hQ : ∀ (r : Int), (-2147483648) ≤ r → r ≤ 2147483647 → Q (.inl (some (.int (Int32.ofInt r)))) (mz_mk g x)) : mm_C d 69 [.ref q0, .int (Int32.ofInt a1)] (mz_mk g x) Q := by
  have kn_q0 := kn_story h_q0
  refine ⟨mmX6_refusals, [some (.ref q0), some (.int (Int32.ofInt a1))], rfl, rfl, ?_⟩
  refine mm_g 1 (pc1 := 1) (lo1 := [some (.ref q0), some (.int (Int32.ofInt a1))]) (st1 := [.ref q0]) (H1 := mz_mk g x) rfl ?_
  refine mz_fgR (v := (q0 + 14)) rfl fd_6_41 (by decide) (kc_story h_q0 _) (kr_story_8 h_q0 _ _ _) ?_
  refine mm_g 1 (pc1 := 5) (lo1 := [some (.ref q0), some (.int (Int32.ofInt a1))]) (st1 := [.int (Int32.ofInt a1), .ref (q0 + 14)]) (H1 := mz_mk g x) rfl ?_
  refine mz_cs rfl mt_6_52 (by decide) rfl (Nat.le_of_ble_eq_true rfl) (by omega) (c_X11_at (by omega) hx hI (ka_story_8 h_q0 _) (by decide) (kba_story_8 h_q0) (by omega) (by omega) l_a1 u_a1 (fun v1 l_v1 u_v1 => ⟨_, rfl, ?_⟩))
  show mm_W d mmX6_refusals 8 [some (.ref q0), some (.int (Int32.ofInt a1))] [.int (Int32.ofInt v1)] (mz_mk g x) Q
  exact mm_rt rfl rfl (hQ _ (by omega) (by omega))
theorem c_X11_count {d : Nat} (hd : 15 ≤ d) {x : mm_X} (hx : mk_x x) {g : mz_G} (hI : mz_inv g) {a1 : Int} (l_a1 : (-2147483648) ≤ a1) (u_a1 : a1 ≤ 2147483647) {Q : (Option Value ⊕ Nat) → mm_H → Prop} (hQ : ∀ (r : Int), (-2147483648) ≤ r → r ≤ 2147483647 → Q (.inl (some (.int (Int32.ofInt r)))) (mz_mk g x)) (hX : ∀ E, Q (.inr E) (mz_mk g (mz_tx x))) : mm_C d 126 [.ref 0, .int (Int32.ofInt a1)] (mz_mk g x) Q := by
  have kx := kn_x hx
  refine ⟨mmX11_count, [some (.ref 0), some (.int (Int32.ofInt a1))], rfl, rfl, ?_⟩
  refine mm_g 1 (pc1 := 1) (lo1 := [some (.ref 0), some (.int (Int32.ofInt a1))]) (st1 := [.int (Int32.ofInt a1)]) (H1 := mz_mk g x) rfl ?_
  by_cases c1_0 : a1 = 0
  · refine mz_tsi (tgt := 56) rfl (mz_rg l_a1 u_a1) (by omega) (by omega) (by rw [c1_0]; rfl) rfl ?_
    refine mm_g 1 (pc1 := 57) (lo1 := [some (.ref 0), some (.int (Int32.ofInt a1))]) (st1 := [.ref 0]) (H1 := mz_mk g x) rfl ?_
    refine mz_fgR (v := x.1) rfl fd_11_16 (by decide) (sc_0 _) rfl ?_
    refine mz_fgR (v := (x.1 + 1)) rfl fd_11_135 (by decide) (kc_load (kx_1 hx) _) (kr_load_0 (kx_1 hx) _ _ _) ?_
    refine mz_cv rfl mt_11_152 (by decide) (kc_words (ks_load_0 (kx_1 hx)) _) rfl (Nat.le_of_ble_eq_true rfl) (by omega) (c_X10_many (by omega) hx hI (ks_load_0 (kx_1 hx)) (fun v1 l_v1 u_v1 => ⟨_, rfl, ?_⟩))
    show mm_W d mmX11_count 66 [some (.ref 0), some (.int (Int32.ofInt a1))] [.int (Int32.ofInt v1)] (mz_mk g x) Q
    exact mm_rt rfl rfl (hQ _ (by omega) (by omega))
  by_cases c1_1 : a1 = 1
  · refine mz_tsi (tgt := 67) rfl (mz_rg l_a1 u_a1) (by omega) (by omega) (by rw [c1_1]; rfl) rfl ?_
    refine mm_g 1 (pc1 := 68) (lo1 := [some (.ref 0), some (.int (Int32.ofInt a1))]) (st1 := [.ref 0]) (H1 := mz_mk g x) rfl ?_
    refine mz_cv rfl mt_11_155 (by decide) (sc_0 _) rfl (Nat.le_of_ble_eq_true rfl) (by omega) (c_X11_trunkCount (by omega) hx hI (fun v2 l_v2 u_v2 => ⟨_, rfl, ?_⟩))
    show mm_W d mmX11_count 71 [some (.ref 0), some (.int (Int32.ofInt a1))] [.int (Int32.ofInt v2)] (mz_mk g x) Q
    exact mm_rt rfl rfl (hQ _ (by omega) (by omega))
  by_cases c1_2 : a1 = 2
  · refine mz_tsi (tgt := 72) rfl (mz_rg l_a1 u_a1) (by omega) (by omega) (by rw [c1_2]; rfl) rfl ?_
    refine mm_g 1 (pc1 := 73) (lo1 := [some (.ref 0), some (.int (Int32.ofInt a1))]) (st1 := [.ref 0]) (H1 := mz_mk g x) rfl ?_
    refine mz_fgR (v := 86) rfl fd_11_37 (by decide) (sc_0 _) (rf_0_5 _ _ _) ?_
    refine mz_fgR (v := 87) rfl fd_11_158 (by decide) (sc_86 _) (rf_86_0 _ _ _) ?_
    refine mz_gI rfl fd_11_161 (by decide) (sc_87 _) hI bd_87_3 (fun v3 e_v3 l_v3 u_v3 => ?_)
    exact mm_rt rfl rfl (hQ _ (by omega) (by omega))
  by_cases c1_3 : a1 = 3
  · refine mz_tsi (tgt := 83) rfl (mz_rg l_a1 u_a1) (by omega) (by omega) (by rw [c1_3]; rfl) rfl ?_
    refine mm_g 1 (pc1 := 84) (lo1 := [some (.ref 0), some (.int (Int32.ofInt a1))]) (st1 := [.ref 0]) (H1 := mz_mk g x) rfl ?_
    refine mz_fgR (v := x.1) rfl fd_11_16 (by decide) (sc_0 _) rfl ?_
    refine mm_g 1 (pc1 := 88) (lo1 := [some (.ref 0), some (.int (Int32.ofInt a1))]) (st1 := [.ref 0, .ref x.1]) (H1 := mz_mk g x) rfl ?_
    refine mz_fgR (v := 86) rfl fd_11_37 (by decide) (sc_0 _) (rf_0_5 _ _ _) ?_
    refine mz_fgR (v := 87) rfl fd_11_158 (by decide) (sc_86 _) (rf_86_0 _ _ _) ?_
    refine mz_gI rfl fd_11_161 (by decide) (sc_87 _) hI bd_87_3 (fun v4 e_v4 l_v4 u_v4 => ?_)
    refine mz_cv rfl mt_11_164 (by decide) (kc_load (kx_1 hx) _) rfl (Nat.le_of_ble_eq_true rfl) (by omega) (c_X1_heatOf (by omega) hx hI (kx_1 hx) l_v4 u_v4 (fun v5 l_v5 u_v5 => ⟨_, rfl, ?_⟩))
    show mm_W d mmX11_count 100 [some (.ref 0), some (.int (Int32.ofInt a1))] [.int (Int32.ofInt v5)] (mz_mk g x) Q
    exact mm_rt rfl rfl (hQ _ (by omega) (by omega))
  by_cases c1_4 : a1 = 4
  · refine mz_tsi (tgt := 101) rfl (mz_rg l_a1 u_a1) (by omega) (by omega) (by rw [c1_4]; rfl) rfl ?_
    refine mm_g 1 (pc1 := 102) (lo1 := [some (.ref 0), some (.int (Int32.ofInt a1))]) (st1 := [.ref 0]) (H1 := mz_mk g x) rfl ?_
    refine mz_fgR (v := x.1) rfl fd_11_16 (by decide) (sc_0 _) rfl ?_
    refine mm_g 1 (pc1 := 106) (lo1 := [some (.ref 0), some (.int (Int32.ofInt a1))]) (st1 := [.ref 0, .ref x.1]) (H1 := mz_mk g x) rfl ?_
    refine mz_fgR (v := 86) rfl fd_11_37 (by decide) (sc_0 _) (rf_0_5 _ _ _) ?_
    refine mz_fgR (v := 87) rfl fd_11_158 (by decide) (sc_86 _) (rf_86_0 _ _ _) ?_
    refine mz_cv rfl mt_11_167 (by decide) (kc_load (kx_1 hx) _) rfl (Nat.le_of_ble_eq_true rfl) (by omega) (c_X1_howManyFull (by omega) hx hI (kx_1 hx) kp_tks_87 (fun v6 l_v6 u_v6 => ⟨_, rfl, ?_⟩))
    show mm_W d mmX11_count 115 [some (.ref 0), some (.int (Int32.ofInt a1))] [.int (Int32.ofInt v6)] (mz_mk g x) Q
    exact mm_rt rfl rfl (hQ _ (by omega) (by omega))
  by_cases c1_5 : a1 = 5
  · refine mz_tsi (tgt := 116) rfl (mz_rg l_a1 u_a1) (by omega) (by omega) (by rw [c1_5]; rfl) rfl ?_
    refine mm_g 1 (pc1 := 117) (lo1 := [some (.ref 0), some (.int (Int32.ofInt a1))]) (st1 := [.ref 0]) (H1 := mz_mk g x) rfl ?_
    refine mz_cv rfl mt_11_171 (by decide) (sc_0 _) rfl (Nat.le_of_ble_eq_true rfl) (by omega) (c_X11_treaties (by omega) hx hI (fun v7 l_v7 u_v7 => ⟨_, rfl, ?_⟩))
    show mm_W d mmX11_count 120 [some (.ref 0), some (.int (Int32.ofInt a1))] [.int (Int32.ofInt v7)] (mz_mk g x) Q
    exact mm_rt rfl rfl (hQ _ (by omega) (by omega))
  by_cases c1_6 : a1 = 6
  · refine mz_tsi (tgt := 121) rfl (mz_rg l_a1 u_a1) (by omega) (by omega) (by rw [c1_6]; rfl) rfl ?_
    refine mm_g 1 (pc1 := 122) (lo1 := [some (.ref 0), some (.int (Int32.ofInt a1))]) (st1 := [.ref 0]) (H1 := mz_mk g x) rfl ?_
    refine mz_fgR (v := x.1) rfl fd_11_16 (by decide) (sc_0 _) rfl ?_
    refine mm_g 1 (pc1 := 126) (lo1 := [some (.ref 0), some (.int (Int32.ofInt a1))]) (st1 := [.ref 0, .ref x.1]) (H1 := mz_mk g x) rfl ?_
    refine mz_fgR (v := 86) rfl fd_11_37 (by decide) (sc_0 _) (rf_0_5 _ _ _) ?_
    refine mz_fgR (v := 87) rfl fd_11_158 (by decide) (sc_86 _) (rf_86_0 _ _ _) ?_
    refine mz_cv rfl mt_11_174 (by decide) (kc_load (kx_1 hx) _) rfl (Nat.le_of_ble_eq_true rfl) (by omega) (c_X1_lettersOfAll (by omega) hx hI (kx_1 hx) kp_tks_87 (fun v8 l_v8 u_v8 => ⟨_, rfl, ?_⟩))
    show mm_W d mmX11_count 135 [some (.ref 0), some (.int (Int32.ofInt a1))] [.int (Int32.ofInt v8)] (mz_mk g x) Q
    exact mm_rt rfl rfl (hQ _ (by omega) (by omega))
  by_cases c1_7 : a1 = 7
  · refine mz_tsi (tgt := 136) rfl (mz_rg l_a1 u_a1) (by omega) (by omega) (by rw [c1_7]; rfl) rfl ?_
    refine mm_g 1 (pc1 := 137) (lo1 := [some (.ref 0), some (.int (Int32.ofInt a1))]) (st1 := [.ref 0]) (H1 := mz_mk g x) rfl ?_
    refine mz_fgR (v := 86) rfl fd_11_37 (by decide) (sc_0 _) (rf_0_5 _ _ _) ?_
    refine mz_cv rfl mt_11_177 (by decide) (sc_86 _) rfl (Nat.le_of_ble_eq_true rfl) (by omega) (c_X6_actsKept (by omega) hx hI kp_story_86 (fun v9 l_v9 u_v9 => ⟨_, rfl, ?_⟩))
    show mm_W d mmX11_count 143 [some (.ref 0), some (.int (Int32.ofInt a1))] [.int (Int32.ofInt v9)] (mz_mk g x) Q
    exact mm_rt rfl rfl (hQ _ (by omega) (by omega))
  by_cases c1_8 : a1 = 8
  · refine mz_tsi (tgt := 144) rfl (mz_rg l_a1 u_a1) (by omega) (by omega) (by rw [c1_8]; rfl) rfl ?_
    refine mm_g 1 (pc1 := 145) (lo1 := [some (.ref 0), some (.int (Int32.ofInt a1))]) (st1 := [.ref 0]) (H1 := mz_mk g x) rfl ?_
    refine mz_fgR (v := 86) rfl fd_11_37 (by decide) (sc_0 _) (rf_0_5 _ _ _) ?_
    refine mz_cv rfl mt_11_180 (by decide) (sc_86 _) rfl (Nat.le_of_ble_eq_true rfl) (by omega) (c_X6_seenSize (by omega) hx hI kp_story_86 (fun v10 l_v10 u_v10 => ⟨_, rfl, ?_⟩))
    show mm_W d mmX11_count 151 [some (.ref 0), some (.int (Int32.ofInt a1))] [.int (Int32.ofInt v10)] (mz_mk g x) Q
    exact mm_rt rfl rfl (hQ _ (by omega) (by omega))
  by_cases c1_9 : a1 = 9
  · refine mz_tsi (tgt := 152) rfl (mz_rg l_a1 u_a1) (by omega) (by omega) (by rw [c1_9]; rfl) rfl ?_
    refine mm_g 1 (pc1 := 153) (lo1 := [some (.ref 0), some (.int (Int32.ofInt a1))]) (st1 := [.ref 0]) (H1 := mz_mk g x) rfl ?_
    refine mz_fgR (v := 81) rfl fd_11_26 (by decide) (sc_0 _) (rf_0_3 _ _ _) ?_
    refine mz_fgR (v := 82) rfl fd_11_94 (by decide) (sc_81 _) (rf_81_0 _ _ _) ?_
    refine mz_gI rfl fd_11_98 (by decide) (sc_82 _) hI bd_82_1 (fun v11 e_v11 l_v11 u_v11 => ?_)
    exact mm_rt rfl rfl (hQ _ (by omega) (by omega))
  refine mz_tso (tgt := 163) rfl (mz_rg l_a1 u_a1) (by omega) rfl ?_
  refine mm_g 1 (pc1 := 164) (lo1 := [some (.ref 0), some (.int (Int32.ofInt a1))]) (st1 := [.int (Int32.ofInt a1)]) (H1 := mz_mk g x) rfl ?_
  refine mz_bip rfl bip_10 ?_
  refine mz_ic_lt (tgt := 179) rfl rfl (mz_rg l_a1 u_a1) ⟨by decide, by decide⟩ (fun c166_11 => ?_) (fun c166_11 => ?_)
  · skip
    refine mm_g 1 (pc1 := 180) (lo1 := [some (.ref 0), some (.int (Int32.ofInt a1))]) (st1 := [.int (Int32.ofInt 0)]) (H1 := mz_mk g x) rfl ?_
    refine mz_csx rfl mt_11_183 rfl (Nat.le_of_ble_eq_true rfl) (by omega) rfl nh_X11_mustBe (c_X11_mustBe (by omega) hx hI (by decide) (by decide) (fun hp12 => ?_) (fun E => hX E))
    show mm_W d mmX11_count 183 [some (.ref 0), some (.int (Int32.ofInt a1))] [] (mz_mk g x) Q
    exfalso; omega
  · skip
    refine mm_g 1 (pc1 := 170) (lo1 := [some (.ref 0), some (.int (Int32.ofInt a1))]) (st1 := [.int (Int32.ofInt a1)]) (H1 := mz_mk g x) rfl ?_
    refine mz_bip rfl bip_12 ?_
    refine mz_ic_gt (tgt := 179) rfl rfl (mz_rg l_a1 u_a1) ⟨by decide, by decide⟩ (fun c172_12 => ?_) (fun c172_12 => ?_)
    · skip
      refine mm_g 1 (pc1 := 180) (lo1 := [some (.ref 0), some (.int (Int32.ofInt a1))]) (st1 := [.int (Int32.ofInt 0)]) (H1 := mz_mk g x) rfl ?_
      refine mz_csx rfl mt_11_183 rfl (Nat.le_of_ble_eq_true rfl) (by omega) rfl nh_X11_mustBe (c_X11_mustBe (by omega) hx hI (by decide) (by decide) (fun hp13 => ?_) (fun E => hX E))
      show mm_W d mmX11_count 183 [some (.ref 0), some (.int (Int32.ofInt a1))] [] (mz_mk g x) Q
      exfalso; omega
    · skip
      refine mm_g 1 (pc1 := 176) (lo1 := [some (.ref 0), some (.int (Int32.ofInt a1))]) (st1 := [.int (Int32.ofInt 1)]) (H1 := mz_mk g x) rfl ?_
      refine mz_gt (tgt := 180) rfl rfl ?_
      refine mz_csx rfl mt_11_183 rfl (Nat.le_of_ble_eq_true rfl) (by omega) rfl nh_X11_mustBe (c_X11_mustBe (by omega) hx hI (by decide) (by decide) (fun hp14 => ?_) (fun E => hX E))
      show mm_W d mmX11_count 183 [some (.ref 0), some (.int (Int32.ofInt a1))] [] (mz_mk g x) Q
      refine mm_g 1 (pc1 := 184) (lo1 := [some (.ref 0), some (.int (Int32.ofInt a1))]) (st1 := [.ref 0]) (H1 := mz_mk g x) rfl ?_
      refine mz_fgR (v := 86) rfl fd_11_37 (by decide) (sc_0 _) (rf_0_5 _ _ _) ?_
      refine mm_g 1 (pc1 := 188) (lo1 := [some (.ref 0), some (.int (Int32.ofInt a1))]) (st1 := [.int (Int32.ofInt a1), .ref 86]) (H1 := mz_mk g x) rfl ?_
      refine mz_bip rfl bip_10 ?_
      refine mz_isub rfl ?_
      refine mz_cv rfl mt_11_186 (by decide) (sc_86 _) rfl (Nat.le_of_ble_eq_true rfl) (by omega) (c_X6_refusals (by omega) hx hI kp_story_86 (by omega) (by omega) (fun v15 l_v15 u_v15 => ⟨_, rfl, ?_⟩))
      show mm_W d mmX11_count 194 [some (.ref 0), some (.int (Int32.ofInt a1))] [.int (Int32.ofInt v15)] (mz_mk g x) Q
      exact mm_rt rfl rfl (hQ _ (by omega) (by omega))
theorem c_X11_isWord {d : Nat} (hd : 2 ≤ d) {x : mm_X} (hx : mk_x x) {g : mz_G} (hI : mz_inv g) {a1 : Int} (l_a1 : (-2147483648) ≤ a1) (u_a1 : a1 ≤ 2147483647) {Q : (Option Value ⊕ Nat) → mm_H → Prop} (hQ : ∀ (r : Int), 0 ≤ r → r ≤ 1 → Q (.inl (some (.int (Int32.ofInt r)))) (mz_mk g x)) : mm_C d 171 [.ref 0, .int (Int32.ofInt a1)] (mz_mk g x) Q := by
  have kx := kn_x hx
  refine ⟨mmX11_isWord, [some (.ref 0), some (.int (Int32.ofInt a1))], rfl, rfl, ?_⟩
  refine mm_g 1 (pc1 := 1) (lo1 := [some (.ref 0), some (.int (Int32.ofInt a1))]) (st1 := [.int (Int32.ofInt a1)]) (H1 := mz_mk g x) rfl ?_
  refine mz_if_lt (tgt := 22) rfl rfl (mz_rg l_a1 u_a1) (fun c1_0 => ?_) (fun c1_0 => ?_)
  · skip
    refine mm_g 1 (pc1 := 23) (lo1 := [some (.ref 0), some (.int (Int32.ofInt a1))]) (st1 := [.int (Int32.ofInt 0)]) (H1 := mz_mk g x) rfl ?_
    exact mz_rtZ rfl (by decide) (by omega) (hQ _ (by decide) (by decide))
  · skip
    refine mm_g 2 (pc1 := 6) (lo1 := [some (.ref 0), some (.int (Int32.ofInt a1))]) (st1 := [.ref 0, .int (Int32.ofInt a1)]) (H1 := mz_mk g x) rfl ?_
    refine mz_fgR (v := x.1) rfl fd_11_16 (by decide) (sc_0 _) rfl ?_
    refine mz_fgR (v := (x.1 + 1)) rfl fd_11_135 (by decide) (kc_load (kx_1 hx) _) (kr_load_0 (kx_1 hx) _ _ _) ?_
    refine mz_cv rfl mt_11_152 (by decide) (kc_words (ks_load_0 (kx_1 hx)) _) rfl (Nat.le_of_ble_eq_true rfl) (by omega) (c_X10_many (by omega) hx hI (ks_load_0 (kx_1 hx)) (fun v1 l_v1 u_v1 => ⟨_, rfl, ?_⟩))
    show mm_W d mmX11_isWord 15 [some (.ref 0), some (.int (Int32.ofInt a1))] [.int (Int32.ofInt v1), .int (Int32.ofInt a1)] (mz_mk g x) Q
    refine mz_ic_ge (tgt := 22) rfl rfl (mz_rg l_a1 u_a1) (mz_rg l_v1 u_v1) (fun c15_1 => ?_) (fun c15_1 => ?_)
    · skip
      refine mm_g 1 (pc1 := 23) (lo1 := [some (.ref 0), some (.int (Int32.ofInt a1))]) (st1 := [.int (Int32.ofInt 0)]) (H1 := mz_mk g x) rfl ?_
      exact mz_rtZ rfl (by decide) (by omega) (hQ _ (by decide) (by decide))
    · skip
      refine mm_g 1 (pc1 := 19) (lo1 := [some (.ref 0), some (.int (Int32.ofInt a1))]) (st1 := [.int (Int32.ofInt 1)]) (H1 := mz_mk g x) rfl ?_
      refine mz_gt (tgt := 23) rfl rfl ?_
      exact mz_rtZ rfl (by decide) (by omega) (hQ _ (by decide) (by decide))
theorem c_X10_firmness {d : Nat} (hd : 2 ≤ d) {x : mm_X} (hx : mk_x x) {g : mz_G} (hI : mz_inv g) {q0 : Nat} (h_q0 : kd_words q0) {a1 : Int} (l_a1 : (-2147483648) ≤ a1) (u_a1 : a1 ≤ 2147483647) {Q : (Option Value ⊕ Nat) → mm_H → Prop} (hQ : ∀ (r : Int), (-2147483648) ≤ r → r ≤ 2147483647 → Q (.inl (some (.int (Int32.ofInt r)))) (mz_mk g x)) : mm_C d 110 [.ref q0, .int (Int32.ofInt a1)] (mz_mk g x) Q := by
  have kn_q0 := kn_words h_q0
  refine ⟨mmX10_firmness, [some (.ref q0), some (.int (Int32.ofInt a1))], rfl, rfl, ?_⟩
  refine mm_g 1 (pc1 := 1) (lo1 := [some (.ref q0), some (.int (Int32.ofInt a1))]) (st1 := [.ref q0]) (H1 := mz_mk g x) rfl ?_
  refine mz_fgR (v := (q0 + 4)) rfl fd_10_24 (by decide) (kc_words h_q0 _) (kr_words_2 h_q0 _ _ _) ?_
  refine mm_g 1 (pc1 := 5) (lo1 := [some (.ref q0), some (.int (Int32.ofInt a1))]) (st1 := [.int (Int32.ofInt a1), .ref (q0 + 4)]) (H1 := mz_mk g x) rfl ?_
  refine mz_cs rfl mt_10_62 (by decide) rfl (Nat.le_of_ble_eq_true rfl) (by omega) (c_X11_at (by omega) hx hI (ka_words_2 h_q0 _) (by decide) (kba_words_2 h_q0) (by omega) (by omega) l_a1 u_a1 (fun v1 l_v1 u_v1 => ⟨_, rfl, ?_⟩))
  show mm_W d mmX10_firmness 8 [some (.ref q0), some (.int (Int32.ofInt a1))] [.int (Int32.ofInt v1)] (mz_mk g x) Q
  exact mm_rt rfl rfl (hQ _ (by omega) (by omega))
theorem c_X0_holds {d : Nat} (hd : 3 ≤ d) {x : mm_X} (hx : mk_x x) {g : mz_G} (hI : mz_inv g) {q0 : Nat} (h_q0 : kd_let q0) {q1 : Nat} (h_q1 : kd_let q1) {Q : (Option Value ⊕ Nat) → mm_H → Prop} (hQ : ∀ (r : Int), 0 ≤ r → r ≤ 1 → Q (.inl (some (.int (Int32.ofInt r)))) (mz_mk g x)) : mm_C d 7 [.ref q0, .ref q1] (mz_mk g x) Q := by
  have kn_q0 := kn_let h_q0
  have kn_q1 := kn_let h_q1
  refine ⟨mmX0_holds, [some (.ref q0), some (.ref q1), none], rfl, rfl, ?_⟩
  refine mm_g 2 (pc1 := 2) (lo1 := [some (.ref q0), some (.ref q1), some (.int (Int32.ofInt 0))]) (st1 := []) (H1 := mz_mk g x) rfl ?_
  have L5 : ∀ n4 : Nat, ∀ (v1 : Int), (17 - v1).toNat = n4 → 0 ≤ v1 → v1 ≤ 17 → mm_W d mmX0_holds 2 [some (.ref q0), some (.ref q1), some (.int (Int32.ofInt v1))] [] (mz_mk g x) Q := by
    intro n4
    induction n4 using Nat.strongRecOn with
    | ind n4 ih3 =>
    intro v1 hmn4 l_v1 u_v1
    refine mm_g 2 (pc1 := 4) (lo1 := [some (.ref q0), some (.ref q1), some (.int (Int32.ofInt v1))]) (st1 := [.ref q1, .int (Int32.ofInt v1)]) (H1 := mz_mk g x) rfl ?_
    refine mz_gI rfl fd_0_7 (by decide) (kc_let h_q1 _) hI (kb_let_1 h_q1) (fun v6 e_v6 l_v6 u_v6 => ?_)
    refine mz_iadd rfl ?_
    refine mm_g 1 (pc1 := 9) (lo1 := [some (.ref q0), some (.ref q1), some (.int (Int32.ofInt v1))]) (st1 := [.ref q0, .int (Int32.ofInt (v1 + v6))]) (H1 := mz_mk g x) rfl ?_
    refine mz_gI rfl fd_0_7 (by decide) (kc_let h_q0 _) hI (kb_let_1 h_q0) (fun v7 e_v7 l_v7 u_v7 => ?_)
    refine mz_ic_gt (tgt := 36) rfl rfl ⟨by omega, by omega⟩ (mz_rg l_v7 u_v7) (fun c12_7 => ?_) (fun c12_7 => ?_)
    · skip
      refine mm_g 1 (pc1 := 37) (lo1 := [some (.ref q0), some (.ref q1), some (.int (Int32.ofInt v1))]) (st1 := [.int (Int32.ofInt 0)]) (H1 := mz_mk g x) rfl ?_
      exact mz_rtZ rfl (by decide) (by omega) (hQ _ (by decide) (by decide))
    · skip
      refine mm_g 4 (pc1 := 19) (lo1 := [some (.ref q0), some (.ref q1), some (.int (Int32.ofInt v1))]) (st1 := [.ref q1, .ref q1, .int (Int32.ofInt v1), .ref q0]) (H1 := mz_mk g x) rfl ?_
      refine mz_fgI (v := v6) rfl fd_0_7 (by decide) (kc_let h_q1 _) e_v6 ?_
      refine mz_cv rfl mt_0_27 (by decide) (kc_let h_q0 _) rfl (Nat.le_of_ble_eq_true rfl) (by omega) (c_X0_matches (by omega) hx hI h_q0 (by omega) (by omega) h_q1 (by omega) (by omega) (fun v8 l_v8 u_v8 => ⟨_, rfl, ?_⟩))
      show mm_W d mmX0_holds 25 [some (.ref q0), some (.ref q1), some (.int (Int32.ofInt v1))] [.int (Int32.ofInt v8)] (mz_mk g x) Q
      refine mz_if_eq (tgt := 30) rfl rfl (mz_rg l_v8 u_v8) (fun c25_8 => ?_) (fun c25_8 => ?_)
      · skip
        refine mz_iincR (v := v1) (lo2 := [some (.ref q0), some (.ref q1), some (.int (Int32.ofInt (v1 + 1)))]) rfl rfl rfl (Nat.le_of_ble_eq_true rfl) rfl ?_
        refine mz_gt (tgt := 2) rfl rfl ?_
        exact ih3 ((17 - (v1 + 1)).toNat) (by omega) (v1 + 1) rfl (by omega) (by omega)
      · skip
        refine mm_g 1 (pc1 := 29) (lo1 := [some (.ref q0), some (.ref q1), some (.int (Int32.ofInt v1))]) (st1 := [.int (Int32.ofInt 1)]) (H1 := mz_mk g x) rfl ?_
        exact mz_rtZ rfl (by decide) (by omega) (hQ _ (by decide) (by decide))
  exact L5 _ 0 rfl (by decide) (by decide)
theorem c_X10_within {d : Nat} (hd : 4 ≤ d) {x : mm_X} (hx : mk_x x) {g : mz_G} (hI : mz_inv g) {q0 : Nat} (h_q0 : kd_words q0) {a1 : Int} (l_a1 : (-2147483648) ≤ a1) (u_a1 : a1 ≤ 2147483647) {Q : (Option Value ⊕ Nat) → mm_H → Prop} (hQ : ∀ (r : Int), (-2147483648) ≤ r → r ≤ 2147483647 → Q (.inl (some (.int (Int32.ofInt r)))) (mz_mk g x)) : mm_C d 116 [.ref q0, .int (Int32.ofInt a1)] (mz_mk g x) Q := by
  have kn_q0 := kn_words h_q0
  refine ⟨mmX10_within, [some (.ref q0), some (.int (Int32.ofInt a1)), none, none], rfl, rfl, ?_⟩
  refine mm_g 4 (pc1 := 4) (lo1 := [some (.ref q0), some (.int (Int32.ofInt a1)), some (.int (Int32.ofInt 0)), some (.int (Int32.ofInt 0))]) (st1 := []) (H1 := mz_mk g x) rfl ?_
  have L6 : ∀ n5 : Nat, ∀ (v1 : Int) (v2 : Int), (8 - v2).toNat = n5 → (-2147483648) ≤ v1 → v1 ≤ 2147483647 → 0 ≤ v2 → v2 ≤ 8 → mm_W d mmX10_within 4 [some (.ref q0), some (.int (Int32.ofInt a1)), some (.int (Int32.ofInt v1)), some (.int (Int32.ofInt v2))] [] (mz_mk g x) Q := by
    intro n5
    induction n5 using Nat.strongRecOn with
    | ind n5 ih4 =>
    intro v1 v2 hmn5 l_v1 u_v1 l_v2 u_v2
    refine mm_g 2 (pc1 := 6) (lo1 := [some (.ref q0), some (.int (Int32.ofInt a1)), some (.int (Int32.ofInt v1)), some (.int (Int32.ofInt v2))]) (st1 := [.ref q0, .int (Int32.ofInt v2)]) (H1 := mz_mk g x) rfl ?_
    refine mz_gI rfl fd_10_28 (by decide) (kc_words h_q0 _) hI (kb_words_3 h_q0) (fun v7 e_v7 l_v7 u_v7 => ?_)
    refine mz_ic_ge (tgt := 44) rfl rfl (mz_rg l_v2 u_v2) (mz_rg l_v7 u_v7) (fun c9_7 => ?_) (fun c9_7 => ?_)
    · skip
      refine mm_g 1 (pc1 := 45) (lo1 := [some (.ref q0), some (.int (Int32.ofInt a1)), some (.int (Int32.ofInt v1)), some (.int (Int32.ofInt v2))]) (st1 := [.int (Int32.ofInt v1)]) (H1 := mz_mk g x) rfl ?_
      exact mm_rt rfl rfl (hQ _ (by omega) (by omega))
    · skip
      refine mm_g 3 (pc1 := 15) (lo1 := [some (.ref q0), some (.int (Int32.ofInt a1)), some (.int (Int32.ofInt v1)), some (.int (Int32.ofInt v2))]) (st1 := [.int (Int32.ofInt v2), .ref q0, .int (Int32.ofInt v1)]) (H1 := mz_mk g x) rfl ?_
      refine mz_cv rfl mt_10_50 (by decide) (kc_words h_q0 _) rfl (Nat.le_of_ble_eq_true rfl) (by omega) (c_X10_of (by omega) hx hI h_q0 (by omega) (by omega) (fun u8 k_u8 hp9 => ⟨_, rfl, ?_⟩))
      show mm_W d mmX10_within 18 [some (.ref q0), some (.int (Int32.ofInt a1)), some (.int (Int32.ofInt v1)), some (.int (Int32.ofInt v2))] [.ref u8, .int (Int32.ofInt v1)] (mz_mk g x) Q
      refine mm_g 2 (pc1 := 20) (lo1 := [some (.ref q0), some (.int (Int32.ofInt a1)), some (.int (Int32.ofInt v1)), some (.int (Int32.ofInt v2))]) (st1 := [.int (Int32.ofInt a1), .ref q0, .ref u8, .int (Int32.ofInt v1)]) (H1 := mz_mk g x) rfl ?_
      refine mz_cv rfl mt_10_50 (by decide) (kc_words h_q0 _) rfl (Nat.le_of_ble_eq_true rfl) (by omega) (c_X10_of (by omega) hx hI h_q0 l_a1 u_a1 (fun u10 k_u10 hp11 => ⟨_, rfl, ?_⟩))
      show mm_W d mmX10_within 23 [some (.ref q0), some (.int (Int32.ofInt a1)), some (.int (Int32.ofInt v1)), some (.int (Int32.ofInt v2))] [.ref u10, .ref u8, .int (Int32.ofInt v1)] (mz_mk g x) Q
      refine mz_cv rfl mt_10_66 (by decide) (kc_let k_u8 _) rfl (Nat.le_of_ble_eq_true rfl) (by omega) (c_X0_holds (by omega) hx hI k_u8 k_u10 (fun v12 l_v12 u_v12 => ⟨_, rfl, ?_⟩))
      show mm_W d mmX10_within 26 [some (.ref q0), some (.int (Int32.ofInt a1)), some (.int (Int32.ofInt v1)), some (.int (Int32.ofInt v2))] [.int (Int32.ofInt v12), .int (Int32.ofInt v1)] (mz_mk g x) Q
      refine mz_if_eq (tgt := 35) rfl rfl (mz_rg l_v12 u_v12) (fun c26_12 => ?_) (fun c26_12 => ?_)
      · skip
        refine mm_g 1 (pc1 := 36) (lo1 := [some (.ref q0), some (.int (Int32.ofInt a1)), some (.int (Int32.ofInt v1)), some (.int (Int32.ofInt v2))]) (st1 := [.int (Int32.ofInt 0), .int (Int32.ofInt v1)]) (H1 := mz_mk g x) rfl ?_
        refine mz_ior rfl (fun v13 e_v13 hwv13 => ?_)
        have l_v13 := hwv13.1
        have u_v13 := hwv13.2
        refine mm_g 1 (pc1 := 38) (lo1 := [some (.ref q0), some (.int (Int32.ofInt a1)), some (.int (Int32.ofInt v13)), some (.int (Int32.ofInt v2))]) (st1 := []) (H1 := mz_mk g x) rfl ?_
        refine mz_iincR (v := v2) (lo2 := [some (.ref q0), some (.int (Int32.ofInt a1)), some (.int (Int32.ofInt v13)), some (.int (Int32.ofInt (v2 + 1)))]) rfl rfl rfl (Nat.le_of_ble_eq_true rfl) rfl ?_
        refine mz_gt (tgt := 4) rfl rfl ?_
        exact ih4 ((8 - (v2 + 1)).toNat) (by omega) v13 (v2 + 1) rfl (by omega) (by omega) (by omega) (by omega)
      · skip
        refine mm_g 2 (pc1 := 31) (lo1 := [some (.ref q0), some (.int (Int32.ofInt a1)), some (.int (Int32.ofInt v1)), some (.int (Int32.ofInt v2))]) (st1 := [.int (Int32.ofInt v2), .int (Int32.ofInt 1), .int (Int32.ofInt v1)]) (H1 := mz_mk g x) rfl ?_
        refine mz_ishl rfl (fun v14 e_v14 hwv14 => ?_)
        have b_v14 : 1 ≤ v14 ∧ v14 ≤ 128 := by rw [e_v14]; exact mz_shl_b (lx := 1) (hx := 1) (k := 7) (by decide) (by decide) (by omega) (by omega) (by omega) (by omega)
        have l_v14 := b_v14.1
        have u_v14 := b_v14.2
        refine mz_gt (tgt := 36) rfl rfl ?_
        refine mz_ior rfl (fun v15 e_v15 hwv15 => ?_)
        have l_v15 := hwv15.1
        have u_v15 := hwv15.2
        refine mm_g 1 (pc1 := 38) (lo1 := [some (.ref q0), some (.int (Int32.ofInt a1)), some (.int (Int32.ofInt v15)), some (.int (Int32.ofInt v2))]) (st1 := []) (H1 := mz_mk g x) rfl ?_
        refine mz_iincR (v := v2) (lo2 := [some (.ref q0), some (.int (Int32.ofInt a1)), some (.int (Int32.ofInt v15)), some (.int (Int32.ofInt (v2 + 1)))]) rfl rfl rfl (Nat.le_of_ble_eq_true rfl) rfl ?_
        refine mz_gt (tgt := 4) rfl rfl ?_
        exact ih4 ((8 - (v2 + 1)).toNat) (by omega) v15 (v2 + 1) rfl (by omega) (by omega) (by omega) (by omega)
  exact L6 _ 0 0 rfl (by decide) (by decide) (by decide) (by decide)
