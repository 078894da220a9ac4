/-! EXACT: the class (wip/p2/tools/gen50.py) -/
theorem bip_12 : (Int8.ofInt 12).toInt32 = Int32.ofInt 12 := by decide
theorem fd_1_57 : mm_tab mm_fldT 1 57 = some (8, 0, 1) ∧ mm_tab mm_ftT 8 0 = some 0 := ⟨rfl, rfl⟩
theorem fd_1_72 : mm_tab mm_fldT 1 72 = some (8, 1, 1) ∧ mm_tab mm_ftT 8 1 = some 0 := ⟨rfl, rfl⟩
theorem fd_1_81 : mm_tab mm_fldT 1 81 = some (8, 3, 1) ∧ mm_tab mm_ftT 8 3 = some 0 := ⟨rfl, rfl⟩
theorem fd_11_161 : mm_tab mm_fldT 11 161 = some (9, 3, 1) ∧ mm_tab mm_ftT 9 3 = some 0 := ⟨rfl, rfl⟩
theorem fd_11_196 : mm_tab mm_fldT 11 196 = some (8, 4, 1) ∧ mm_tab mm_ftT 8 4 = some 1 := ⟨rfl, rfl⟩
theorem mt_1_53 : mm_tab mm_mthT 1 53 = some (0, 176, 2, 1, 11) := rfl
theorem mt_1_62 : mm_tab mm_mthT 1 62 = some (1, 107, 1, 0, 10) := rfl
theorem mt_1_66 : mm_tab mm_mthT 1 66 = some (1, 3, 0, 0, 0) := rfl
theorem mt_1_75 : mm_tab mm_mthT 1 75 = some (5, 0, 2, 0, 0) := rfl
theorem mt_1_84 : mm_tab mm_mthT 1 84 = some (1, 16, 1, 0, 1) := rfl
theorem mt_1_99 : mm_tab mm_mthT 1 99 = some (1, 99, 1, 0, 9) := rfl
theorem mt_1_103 : mm_tab mm_mthT 1 103 = some (1, 17, 1, 0, 1) := rfl
theorem mt_1_107 : mm_tab mm_mthT 1 107 = some (1, 18, 1, 0, 1) := rfl
theorem mt_10_66 : mm_tab mm_mthT 10 66 = some (1, 7, 1, 0, 0) := rfl
theorem mt_11_152 : mm_tab mm_mthT 11 152 = some (1, 106, 0, 0, 10) := rfl
theorem mt_11_155 : mm_tab mm_mthT 11 155 = some (1, 127, 0, 0, 11) := rfl
theorem mt_11_164 : mm_tab mm_mthT 11 164 = some (1, 15, 1, 0, 1) := rfl
theorem mt_11_167 : mm_tab mm_mthT 11 167 = some (1, 20, 1, 0, 1) := rfl
theorem mt_11_171 : mm_tab mm_mthT 11 171 = some (1, 128, 0, 0, 11) := rfl
theorem mt_11_174 : mm_tab mm_mthT 11 174 = some (1, 21, 1, 0, 1) := rfl
theorem mt_11_177 : mm_tab mm_mthT 11 177 = some (1, 70, 0, 0, 6) := rfl
theorem mt_11_180 : mm_tab mm_mthT 11 180 = some (1, 73, 0, 0, 6) := rfl
theorem mt_11_183 : mm_tab mm_mthT 11 183 = some (0, 174, 1, 0, 11) := rfl
theorem mt_11_186 : mm_tab mm_mthT 11 186 = some (1, 69, 1, 0, 6) := rfl
theorem mt_11_192 : mm_tab mm_mthT 11 192 = some (1, 99, 1, 0, 9) := rfl
theorem bd_87_3 : mz_bd 87 3 = ((-2147483648), 2147483647) := rfl
theorem nh_X11_mustBe : ∀ M1, mm_at mm_prog 174 = some M1 → M1.2.2.2.1 = [] := mz_nop (M0 := mmX11_mustBe) rfl rfl
theorem f_X1_heatOf {d : Nat} (hd : 2 ≤ d) {x : mm_X} (hx : mk_x x) {g : mz_G} (hI : mz_inv g) {q0 : Nat} (h_q0 : kd_load q0) {a1 : Int} (l_a1 : (-2147483648) ≤ a1) (u_a1 : a1 ≤ 2147483647) {Q : (Option Value ⊕ Nat) → mm_H → Prop} (hQ : ∀ (r : Int), (-2147483648) ≤ r → r ≤ 2147483647 → zf_E (zF_X1_heatOf q0 a1 g) (r) → Q (.inl (some (.int (Int32.ofInt r)))) (mz_mk g x)) : mm_C d 15 [.ref q0, .int (Int32.ofInt a1)] (mz_mk g x) Q := by
  have kn_q0 := kn_load h_q0
  refine ⟨mmX1_heatOf, [some (.ref q0), some (.int (Int32.ofInt a1))], rfl, rfl, ?_⟩
  have hE : zf_E (zF_X1_heatOf q0 a1 g) (zF_X1_heatOf q0 a1 g) := zf_rf
  refine mm_g 1 (pc1 := 1) (lo1 := [some (.ref q0), some (.int (Int32.ofInt a1))]) (st1 := [.ref q0]) (H1 := mz_mk g x) rfl ?_
  refine mz_gI rfl fd_1_29 (by decide) (kc_load h_q0 _) hI (kb_load_3 h_q0) (fun v1 e_v1 l_v1 u_v1 => ?_)
  replace hE := zf_tr hE (zf_le e_v1)
  refine mz_if_le (tgt := 23) rfl rfl (mz_rg l_v1 u_v1) (fun c4_1 => ?_) (fun c4_1 => ?_)
  · skip
    replace hE := zf_nl hE c4_1
    refine mm_g 1 (pc1 := 24) (lo1 := [some (.ref q0), some (.int (Int32.ofInt a1))]) (st1 := [.int (Int32.ofInt 5)]) (H1 := mz_mk g x) rfl ?_
    exact mm_rt rfl rfl (hQ _ (by decide) (by decide) hE)
  · skip
    replace hE := zf_ip hE c4_1
    refine mm_g 1 (pc1 := 8) (lo1 := [some (.ref q0), some (.int (Int32.ofInt a1))]) (st1 := [.ref q0]) (H1 := mz_mk g x) rfl ?_
    refine mz_fgR (v := (q0 + 35)) rfl fd_1_25 (by decide) (kc_load h_q0 _) (kr_load_2 h_q0 _ _ _) ?_
    refine mm_g 2 (pc1 := 13) (lo1 := [some (.ref q0), some (.int (Int32.ofInt a1))]) (st1 := [.ref q0, .int (Int32.ofInt a1), .ref (q0 + 35)]) (H1 := mz_mk g x) rfl ?_
    refine mz_fgI (v := v1) rfl fd_1_29 (by decide) (kc_load h_q0 _) e_v1 ?_
    replace hE := zf_tr hE (zf_le e_v1)
    refine zf_irem rfl (mz_rg l_v1 u_v1) (by omega) (fun v2 e_v2 hwv2 => ?_)
    replace hE := zf_tr hE (zf_le e_v2.symm)
    have l_v2 := hwv2.1
    have u_v2 := hwv2.2
    refine mz_cs rfl mt_1_53 (by decide) rfl (Nat.le_of_ble_eq_true rfl) (by omega) (f_X11_at (by omega) hx hI (ka_load_2 h_q0 _) (by decide) (kba_load_2 h_q0) (by omega) (by omega) l_v2 u_v2 (fun v3 l_v3 u_v3 hc4 => ⟨_, rfl, ?_⟩))
    show mm_W d mmX1_heatOf 20 [some (.ref q0), some (.int (Int32.ofInt a1))] [.int (Int32.ofInt v3)] (mz_mk g x) Q
    replace hE := zf_t1 hE hc4
    refine mz_gt (tgt := 24) rfl rfl ?_
    exact mm_rt rfl rfl (hQ _ (by omega) (by omega) hE)
theorem f_X1_fullOf {d : Nat} (hd : 12 ≤ d) {x : mm_X} (hx : mk_x x) {g : mz_G} (hI : mz_inv g) {q0 : Nat} (h_q0 : kd_load q0) {q1 : Nat} (h_q1 : kd_trunk q1) {Q : (Option Value ⊕ Nat) → mm_H → Prop} (hQ : ∀ (r : Int), 0 ≤ r → r ≤ 16 → zf_E (zF_X1_fullOf q0 q1 g) (r) → Q (.inl (some (.int (Int32.ofInt r)))) (mz_mk g x)) : mm_C d 16 [.ref q0, .ref q1] (mz_mk g x) Q := by
  have kn_q0 := kn_load h_q0
  have kn_q1 := kn_trunk h_q1
  refine ⟨mmX1_fullOf, [some (.ref q0), some (.ref q1)], rfl, rfl, ?_⟩
  have hE : zf_E (zF_X1_fullOf q0 q1 g) (zF_X1_fullOf q0 q1 g) := zf_rf
  refine mm_g 1 (pc1 := 1) (lo1 := [some (.ref q0), some (.ref q1)]) (st1 := [.ref q0]) (H1 := mz_mk g x) rfl ?_
  refine mz_fgR (v := (q0 + 1)) rfl fd_1_12 (by decide) (kc_load h_q0 _) (kr_load_0 h_q0 _ _ _) ?_
  refine mm_g 1 (pc1 := 5) (lo1 := [some (.ref q0), some (.ref q1)]) (st1 := [.ref q1, .ref (q0 + 1)]) (H1 := mz_mk g x) rfl ?_
  refine mz_gI rfl fd_1_57 (by decide) (kc_trunk h_q1 _) hI (kb_trunk_0 h_q1) (fun v1 e_v1 l_v1 u_v1 => ?_)
  replace hE := zf_tr hE (zf_le e_v1)
  refine mz_cv rfl mt_1_62 (by decide) (kc_words (ks_load_0 h_q0) _) rfl (Nat.le_of_ble_eq_true rfl) (by omega) (f_X10_of (by omega) hx hI (ks_load_0 h_q0) l_v1 u_v1 (fun u2 k_u2 hp3 hc4 => ⟨_, rfl, ?_⟩))
  show mm_W d mmX1_fullOf 11 [some (.ref q0), some (.ref q1)] [.ref u2] (mz_mk g x) Q
  replace hE := zf_t1 hE hc4
  refine mz_cv rfl mt_1_66 (by decide) (kc_let k_u2 _) rfl (Nat.le_of_ble_eq_true rfl) (by omega) (f_X0_length (by omega) hx hI k_u2 (fun v5 l_v5 u_v5 hc6 => ⟨_, rfl, ?_⟩))
  show mm_W d mmX1_fullOf 14 [some (.ref q0), some (.ref q1)] [.int (Int32.ofInt v5)] (mz_mk g x) Q
  replace hE := zf_t1 hE hc6
  refine mm_g 1 (pc1 := 15) (lo1 := [some (.ref q0), some (.ref q1)]) (st1 := [.ref q0, .int (Int32.ofInt v5)]) (H1 := mz_mk g x) rfl ?_
  refine mz_fgR (v := (q0 + 1)) rfl fd_1_12 (by decide) (kc_load h_q0 _) (kr_load_0 h_q0 _ _ _) ?_
  refine mm_g 1 (pc1 := 19) (lo1 := [some (.ref q0), some (.ref q1)]) (st1 := [.ref q1, .ref (q0 + 1), .int (Int32.ofInt v5)]) (H1 := mz_mk g x) rfl ?_
  refine mz_gI rfl fd_1_72 (by decide) (kc_trunk h_q1 _) hI (kb_trunk_1 h_q1) (fun v7 e_v7 l_v7 u_v7 => ?_)
  replace hE := zf_tr hE (zf_le e_v7)
  refine mz_cv rfl mt_1_62 (by decide) (kc_words (ks_load_0 h_q0) _) rfl (Nat.le_of_ble_eq_true rfl) (by omega) (f_X10_of (by omega) hx hI (ks_load_0 h_q0) l_v7 u_v7 (fun u8 k_u8 hp9 hc10 => ⟨_, rfl, ?_⟩))
  show mm_W d mmX1_fullOf 25 [some (.ref q0), some (.ref q1)] [.ref u8, .int (Int32.ofInt v5)] (mz_mk g x) Q
  replace hE := zf_t1 hE hc10
  refine mz_cv rfl mt_1_66 (by decide) (kc_let k_u8 _) rfl (Nat.le_of_ble_eq_true rfl) (by omega) (f_X0_length (by omega) hx hI k_u8 (fun v11 l_v11 u_v11 hc12 => ⟨_, rfl, ?_⟩))
  show mm_W d mmX1_fullOf 28 [some (.ref q0), some (.ref q1)] [.int (Int32.ofInt v11), .int (Int32.ofInt v5)] (mz_mk g x) Q
  replace hE := zf_t1 hE hc12
  refine mz_mn rfl mt_1_75 (Nat.le_of_ble_eq_true rfl) (by omega) (mz_rg l_v5 u_v5) (mz_rg l_v11 u_v11) (fun v13 e_v13 => ?_)
  have l_v13 : 0 ≤ v13 := by omega
  have u_v13 : v13 ≤ 16 := by omega
  replace hE := zf_tr hE (zf_le e_v13.symm)
  exact mm_rt rfl rfl (hQ _ (by omega) (by omega) hE)
theorem f_X1_isFull {d : Nat} (hd : 13 ≤ d) {x : mm_X} (hx : mk_x x) {g : mz_G} (hI : mz_inv g) {q0 : Nat} (h_q0 : kd_load q0) {q1 : Nat} (h_q1 : kd_trunk q1) {Q : (Option Value ⊕ Nat) → mm_H → Prop} (hQ : ∀ (r : Int), 0 ≤ r → r ≤ 1 → zf_E (zF_X1_isFull q0 q1 g) (r) → Q (.inl (some (.int (Int32.ofInt r)))) (mz_mk g x)) : mm_C d 17 [.ref q0, .ref q1] (mz_mk g x) Q := by
  have kn_q0 := kn_load h_q0
  have kn_q1 := kn_trunk h_q1
  refine ⟨mmX1_isFull, [some (.ref q0), some (.ref q1)], rfl, rfl, ?_⟩
  have hE : zf_E (zF_X1_isFull q0 q1 g) (zF_X1_isFull q0 q1 g) := zf_rf
  refine mm_g 1 (pc1 := 1) (lo1 := [some (.ref q0), some (.ref q1)]) (st1 := [.ref q1]) (H1 := mz_mk g x) rfl ?_
  refine mz_gI rfl fd_1_81 (by decide) (kc_trunk h_q1 _) hI (kb_trunk_3 h_q1) (fun v1 e_v1 l_v1 u_v1 => ?_)
  replace hE := zf_tr hE (zf_le e_v1)
  refine mm_g 2 (pc1 := 6) (lo1 := [some (.ref q0), some (.ref q1)]) (st1 := [.ref q1, .ref q0, .int (Int32.ofInt v1)]) (H1 := mz_mk g x) rfl ?_
  refine mz_cv rfl mt_1_84 (by decide) (kc_load h_q0 _) rfl (Nat.le_of_ble_eq_true rfl) (by omega) (f_X1_fullOf (by omega) hx hI h_q0 h_q1 (fun v2 l_v2 u_v2 hc3 => ⟨_, rfl, ?_⟩))
  show mm_W d mmX1_isFull 9 [some (.ref q0), some (.ref q1)] [.int (Int32.ofInt v2), .int (Int32.ofInt v1)] (mz_mk g x) Q
  replace hE := zf_t1 hE hc3
  refine mz_ic_ne (tgt := 16) rfl rfl (mz_rg l_v1 u_v1) (mz_rg l_v2 u_v2) (fun c9_3 => ?_) (fun c9_3 => ?_)
  · skip
    replace hE := zf_in hE c9_3
    refine mm_g 1 (pc1 := 17) (lo1 := [some (.ref q0), some (.ref q1)]) (st1 := [.int (Int32.ofInt 0)]) (H1 := mz_mk g x) rfl ?_
    exact mz_rtZ rfl (by decide) (by omega) (hQ _ (by decide) (by decide) hE)
  · skip
    replace hE := zf_ip hE c9_3
    refine mm_g 1 (pc1 := 13) (lo1 := [some (.ref q0), some (.ref q1)]) (st1 := [.int (Int32.ofInt 1)]) (H1 := mz_mk g x) rfl ?_
    refine mz_gt (tgt := 17) rfl rfl ?_
    exact mz_rtZ rfl (by decide) (by omega) (hQ _ (by decide) (by decide) hE)
theorem f_X1_howManyFull {d : Nat} (hd : 14 ≤ d) {x : mm_X} (hx : mk_x x) {g : mz_G} (hI : mz_inv g) {q0 : Nat} (h_q0 : kd_load q0) {q1 : Nat} (h_q1 : kd_tks q1) {Q : (Option Value ⊕ Nat) → mm_H → Prop} (hQ : ∀ (r : Int), (-2147483648) ≤ r → r ≤ 2147483647 → zf_E (zF_X1_howManyFull q0 q1 g) (r) → Q (.inl (some (.int (Int32.ofInt r)))) (mz_mk g x)) : mm_C d 20 [.ref q0, .ref q1] (mz_mk g x) Q := by
  have kn_q0 := kn_load h_q0
  have kn_q1 := kn_tks h_q1
  refine ⟨mmX1_howManyFull, [some (.ref q0), some (.ref q1), none, none], rfl, rfl, ?_⟩
  have hE : zf_E (zF_X1_howManyFull q0 q1 g) (zF_X1_howManyFull q0 q1 g) := zf_rf
  refine mm_g 4 (pc1 := 4) (lo1 := [some (.ref q0), some (.ref q1), some (.int (Int32.ofInt 0)), some (.int (Int32.ofInt 0))]) (st1 := []) (H1 := mz_mk g x) rfl ?_
  have L6 : ∀ n5 : Nat, ∀ (v1 : Int) (v2 : Int), (6 - v2).toNat = n5 → (-2147483648) ≤ v1 → v1 ≤ 2147483647 → 0 ≤ v2 → v2 ≤ 6 → (∃ fk : Nat, (6 - v2).toNat < fk ∧ zf_E (zF_X1_howManyFull q0 q1 g) (zL_X1_howManyFull_4 q0 q1 g fk v1 v2)) → mm_W d mmX1_howManyFull 4 [some (.ref q0), some (.ref q1), some (.int (Int32.ofInt v1)), some (.int (Int32.ofInt v2))] [] (mz_mk g x) Q := by
    intro n5
    induction n5 using Nat.strongRecOn with
    | ind n5 ih4 =>
    intro v1 v2 hmn5 l_v1 u_v1 l_v2 u_v2 hF
    obtain ⟨fk, fl, hE⟩ := hF
    obtain ⟨fj7, rfl⟩ : ∃ fj, fk = fj + 1 := ⟨fk - 1, by omega⟩
    have fn8 : n5 ≤ fj7 := by omega
    replace hE := zf_tr hE zL_X1_howManyFull_4_s
    refine mm_g 2 (pc1 := 6) (lo1 := [some (.ref q0), some (.ref q1), some (.int (Int32.ofInt v1)), some (.int (Int32.ofInt v2))]) (st1 := [.ref q1, .int (Int32.ofInt v2)]) (H1 := mz_mk g x) rfl ?_
    refine mz_gI rfl fd_1_43 (by decide) (kc_tks h_q1 _) hI (kb_tks_2 h_q1) (fun v9 e_v9 l_v9 u_v9 => ?_)
    replace hE := zf_tr hE (zf_le e_v9)
    refine mz_ic_ge (tgt := 38) rfl rfl (mz_rg l_v2 u_v2) (mz_rg l_v9 u_v9) (fun c9_9 => ?_) (fun c9_9 => ?_)
    · skip
      replace hE := zf_nl hE c9_9
      refine mm_g 1 (pc1 := 39) (lo1 := [some (.ref q0), some (.ref q1), some (.int (Int32.ofInt v1)), some (.int (Int32.ofInt v2))]) (st1 := [.int (Int32.ofInt v1)]) (H1 := mz_mk g x) rfl ?_
      exact mm_rt rfl rfl (hQ _ (by omega) (by omega) hE)
    · skip
      replace hE := zf_ip hE c9_9
      refine mm_g 4 (pc1 := 16) (lo1 := [some (.ref q0), some (.ref q1), some (.int (Int32.ofInt v1)), some (.int (Int32.ofInt v2))]) (st1 := [.int (Int32.ofInt v2), .ref q1, .ref q0, .int (Int32.ofInt v1)]) (H1 := mz_mk g x) rfl ?_
      refine mz_cv rfl mt_1_99 (by decide) (kc_tks h_q1 _) rfl (Nat.le_of_ble_eq_true rfl) (by omega) (f_X9_get (by omega) hx hI h_q1 (by omega) (by omega) (fun u10 k_u10 hp11 hc12 => ⟨_, rfl, ?_⟩))
      show mm_W d mmX1_howManyFull 19 [some (.ref q0), some (.ref q1), some (.int (Int32.ofInt v1)), some (.int (Int32.ofInt v2))] [.ref u10, .ref q0, .int (Int32.ofInt v1)] (mz_mk g x) Q
      replace hE := zf_t1 hE hc12
      refine mz_cv rfl mt_1_103 (by decide) (kc_load h_q0 _) rfl (Nat.le_of_ble_eq_true rfl) (by omega) (f_X1_isFull (by omega) hx hI h_q0 k_u10 (fun v13 l_v13 u_v13 hc14 => ⟨_, rfl, ?_⟩))
      show mm_W d mmX1_howManyFull 22 [some (.ref q0), some (.ref q1), some (.int (Int32.ofInt v1)), some (.int (Int32.ofInt v2))] [.int (Int32.ofInt v13), .int (Int32.ofInt v1)] (mz_mk g x) Q
      replace hE := zf_t1 hE hc14
      refine mz_if_eq (tgt := 29) rfl rfl (mz_rg l_v13 u_v13) (fun c22_14 => ?_) (fun c22_14 => ?_)
      · skip
        replace hE := zf_ip hE c22_14
        refine mm_g 1 (pc1 := 30) (lo1 := [some (.ref q0), some (.ref q1), some (.int (Int32.ofInt v1)), some (.int (Int32.ofInt v2))]) (st1 := [.int (Int32.ofInt 0), .int (Int32.ofInt v1)]) (H1 := mz_mk g x) rfl ?_
        refine mz_iadd rfl ?_
        replace hE := zf_tr hE (zf_lw ⟨by omega, by omega⟩)
        refine mm_g 1 (pc1 := 32) (lo1 := [some (.ref q0), some (.ref q1), some (.int (Int32.ofInt (v1 + 0))), some (.int (Int32.ofInt v2))]) (st1 := []) (H1 := mz_mk g x) rfl ?_
        refine mz_iincR (v := v2) (lo2 := [some (.ref q0), some (.ref q1), some (.int (Int32.ofInt (v1 + 0))), some (.int (Int32.ofInt (v2 + 1)))]) rfl rfl rfl (Nat.le_of_ble_eq_true rfl) rfl ?_
        refine mz_gt (tgt := 4) rfl rfl ?_
        exact ih4 ((6 - (v2 + 1)).toNat) (by omega) (v1 + 0) (v2 + 1) rfl (by omega) (by omega) (by omega) (by omega) ⟨fj7, Nat.lt_of_lt_of_le (show ((6 - (v2 + 1)).toNat) < n5 from (by omega)) fn8, hE⟩
      · skip
        replace hE := zf_in hE c22_14
        refine mm_g 1 (pc1 := 26) (lo1 := [some (.ref q0), some (.ref q1), some (.int (Int32.ofInt v1)), some (.int (Int32.ofInt v2))]) (st1 := [.int (Int32.ofInt 1), .int (Int32.ofInt v1)]) (H1 := mz_mk g x) rfl ?_
        refine mz_gt (tgt := 30) rfl rfl ?_
        refine mz_iadd_w rfl (fun v15 e_v15 hwv15 => ?_)
        have l_v15 := hwv15.1
        have u_v15 := hwv15.2
        replace hE := zf_tr hE (zf_le e_v15.symm)
        refine mm_g 1 (pc1 := 32) (lo1 := [some (.ref q0), some (.ref q1), some (.int (Int32.ofInt v15)), some (.int (Int32.ofInt v2))]) (st1 := []) (H1 := mz_mk g x) rfl ?_
        refine mz_iincR (v := v2) (lo2 := [some (.ref q0), some (.ref q1), some (.int (Int32.ofInt v15)), some (.int (Int32.ofInt (v2 + 1)))]) rfl rfl rfl (Nat.le_of_ble_eq_true rfl) rfl ?_
        refine mz_gt (tgt := 4) rfl rfl ?_
        exact ih4 ((6 - (v2 + 1)).toNat) (by omega) v15 (v2 + 1) rfl (by omega) (by omega) (by omega) (by omega) ⟨fj7, Nat.lt_of_lt_of_le (show ((6 - (v2 + 1)).toNat) < n5 from (by omega)) fn8, hE⟩
  exact L6 _ 0 0 rfl (by decide) (by decide) (by decide) (by decide) ⟨3000000000, by omega, hE⟩
theorem f_X11_treaties {d : Nat} (hd : 2 ≤ d) {x : mm_X} (hx : mk_x x) {g : mz_G} (hI : mz_inv g) {Q : (Option Value ⊕ Nat) → mm_H → Prop} (hQ : ∀ (r : Int), 0 ≤ r → r ≤ 63 → zf_E (zF_X11_treaties x g) (r) → Q (.inl (some (.int (Int32.ofInt r)))) (mz_mk g x)) : mm_C d 128 [.ref 0] (mz_mk g x) Q := by
  have kx := kn_x hx
  refine ⟨mmX11_treaties, [some (.ref 0), none, none], rfl, rfl, ?_⟩
  have hE : zf_E (zF_X11_treaties x g) (zF_X11_treaties x g) := zf_rf
  refine mm_g 4 (pc1 := 4) (lo1 := [some (.ref 0), some (.int (Int32.ofInt 0)), some (.int (Int32.ofInt 0))]) (st1 := []) (H1 := mz_mk g x) rfl ?_
  have L6 : ∀ n5 : Nat, ∀ (v1 : Int) (v2 : Int), (6 - v2).toNat = n5 → 0 ≤ v1 → v1 ≤ 63 → 0 ≤ v2 → v2 ≤ 6 → (∃ fk : Nat, (6 - v2).toNat < fk ∧ zf_E (zF_X11_treaties x g) (zL_X11_treaties_4 x g fk v1 v2)) → mm_W d mmX11_treaties 4 [some (.ref 0), some (.int (Int32.ofInt v1)), some (.int (Int32.ofInt v2))] [] (mz_mk g x) Q := by
    intro n5
    induction n5 using Nat.strongRecOn with
    | ind n5 ih4 =>
    intro v1 v2 hmn5 l_v1 u_v1 l_v2 u_v2 hF
    obtain ⟨fk, fl, hE⟩ := hF
    obtain ⟨fj7, rfl⟩ : ∃ fj, fk = fj + 1 := ⟨fk - 1, by omega⟩
    have fn8 : n5 ≤ fj7 := by omega
    replace hE := zf_tr hE zL_X11_treaties_4_s
    refine mm_g 2 (pc1 := 6) (lo1 := [some (.ref 0), some (.int (Int32.ofInt v1)), some (.int (Int32.ofInt v2))]) (st1 := [.ref 0, .int (Int32.ofInt v2)]) (H1 := mz_mk g x) rfl ?_
    refine mz_cv rfl mt_11_155 (by decide) (sc_0 _) rfl (Nat.le_of_ble_eq_true rfl) (by omega) (f_X11_trunkCount (by omega) hx hI (fun v9 l_v9 u_v9 hc10 => ⟨_, rfl, ?_⟩))
    show mm_W d mmX11_treaties 9 [some (.ref 0), some (.int (Int32.ofInt v1)), some (.int (Int32.ofInt v2))] [.int (Int32.ofInt v9), .int (Int32.ofInt v2)] (mz_mk g x) Q
    replace hE := zf_t1 hE hc10
    refine mz_ic_ge (tgt := 41) rfl rfl (mz_rg l_v2 u_v2) (mz_rg l_v9 u_v9) (fun c9_10 => ?_) (fun c9_10 => ?_)
    · skip
      replace hE := zf_nl hE c9_10
      refine mm_g 1 (pc1 := 42) (lo1 := [some (.ref 0), some (.int (Int32.ofInt v1)), some (.int (Int32.ofInt v2))]) (st1 := [.int (Int32.ofInt v1)]) (H1 := mz_mk g x) rfl ?_
      exact mm_rt rfl rfl (hQ _ (by omega) (by omega) hE)
    · skip
      replace hE := zf_ip hE c9_10
      refine mm_g 1 (pc1 := 13) (lo1 := [some (.ref 0), some (.int (Int32.ofInt v1)), some (.int (Int32.ofInt v2))]) (st1 := [.ref 0]) (H1 := mz_mk g x) rfl ?_
      refine mz_fgR (v := 86) rfl fd_11_37 (by decide) (sc_0 _) (rf_0_5 _ _ _) ?_
      refine mz_fgR (v := 87) rfl fd_11_158 (by decide) (sc_86 _) (rf_86_0 _ _ _) ?_
      refine mm_g 1 (pc1 := 20) (lo1 := [some (.ref 0), some (.int (Int32.ofInt v1)), some (.int (Int32.ofInt v2))]) (st1 := [.int (Int32.ofInt v2), .ref 87]) (H1 := mz_mk g x) rfl ?_
      refine mz_cv rfl mt_11_192 (by decide) (sc_87 _) rfl (Nat.le_of_ble_eq_true rfl) (by omega) (f_X9_get (by omega) hx hI kp_tks_87 (by omega) (by omega) (fun u11 k_u11 hp12 hc13 => ⟨_, rfl, ?_⟩))
      show mm_W d mmX11_treaties 23 [some (.ref 0), some (.int (Int32.ofInt v1)), some (.int (Int32.ofInt v2))] [.ref u11] (mz_mk g x) Q
      replace hE := zf_t1 hE hc13
      refine mz_gI rfl fd_11_196 (by decide) (kc_trunk k_u11 _) hI (kb_trunk_4 k_u11) (fun v14 e_v14 l_v14 u_v14 => ?_)
      replace hE := zf_tr hE (zf_le e_v14)
      refine mz_if_eq (tgt := 35) rfl rfl (mz_rg l_v14 u_v14) (fun c26_14 => ?_) (fun c26_14 => ?_)
      · skip
        replace hE := zf_ip hE c26_14
        refine mz_iincR (v := v2) (lo2 := [some (.ref 0), some (.int (Int32.ofInt v1)), some (.int (Int32.ofInt (v2 + 1)))]) rfl rfl rfl (Nat.le_of_ble_eq_true rfl) rfl ?_
        refine mz_gt (tgt := 4) rfl rfl ?_
        exact ih4 ((6 - (v2 + 1)).toNat) (by omega) v1 (v2 + 1) rfl (by omega) (by omega) (by omega) (by omega) ⟨fj7, Nat.lt_of_lt_of_le (show ((6 - (v2 + 1)).toNat) < n5 from (by omega)) fn8, hE⟩
      · skip
        replace hE := zf_in hE c26_14
        refine mm_g 3 (pc1 := 32) (lo1 := [some (.ref 0), some (.int (Int32.ofInt v1)), some (.int (Int32.ofInt v2))]) (st1 := [.int (Int32.ofInt v2), .int (Int32.ofInt 1), .int (Int32.ofInt v1)]) (H1 := mz_mk g x) rfl ?_
        refine mz_ishl rfl (fun v15 e_v15 hwv15 => ?_)
        have b_v15 : 1 ≤ v15 ∧ v15 ≤ 32 := by rw [e_v15]; exact mz_shl_b (lx := 1) (hx := 1) (k := 5) (by decide) (by decide) (by omega) (by omega) (by omega) (by omega)
        have l_v15 := b_v15.1
        have u_v15 := b_v15.2
        replace hE := zf_tr hE (zf_le e_v15.symm)
        refine mz_ior rfl (fun v16 e_v16 hwv16 => ?_)
        have b_v16 : 0 ≤ v16 ∧ v16 ≤ 63 := by rw [e_v16]; exact mz_or_lt (n := 6) (by decide) (by omega) (by omega) (by omega) (by omega)
        have l_v16 := b_v16.1
        have u_v16 := b_v16.2
        replace hE := zf_tr hE (zf_le e_v16.symm)
        refine mm_g 1 (pc1 := 35) (lo1 := [some (.ref 0), some (.int (Int32.ofInt v16)), some (.int (Int32.ofInt v2))]) (st1 := []) (H1 := mz_mk g x) rfl ?_
        refine mz_iincR (v := v2) (lo2 := [some (.ref 0), some (.int (Int32.ofInt v16)), some (.int (Int32.ofInt (v2 + 1)))]) rfl rfl rfl (Nat.le_of_ble_eq_true rfl) rfl ?_
        refine mz_gt (tgt := 4) rfl rfl ?_
        exact ih4 ((6 - (v2 + 1)).toNat) (by omega) v16 (v2 + 1) rfl (by omega) (by omega) (by omega) (by omega) ⟨fj7, Nat.lt_of_lt_of_le (show ((6 - (v2 + 1)).toNat) < n5 from (by omega)) fn8, hE⟩
  exact L6 _ 0 0 rfl (by decide) (by decide) (by decide) (by decide) ⟨3000000000, by omega, hE⟩
theorem f_X1_blendSize {d : Nat} (hd : 2 ≤ d) {x : mm_X} (hx : mk_x x) {g : mz_G} (hI : mz_inv g) {q0 : Nat} (h_q0 : kd_load q0) {q1 : Nat} (h_q1 : kd_trunk q1) {Q : (Option Value ⊕ Nat) → mm_H → Prop} (hQ : ∀ (r : Int), (-2147483648) ≤ r → r ≤ 2147483647 → zf_E (zF_X1_blendSize q0 q1 g) (r) → Q (.inl (some (.int (Int32.ofInt r)))) (mz_mk g x)) : mm_C d 18 [.ref q0, .ref q1] (mz_mk g x) Q := by
  have kn_q0 := kn_load h_q0
  have kn_q1 := kn_trunk h_q1
  refine ⟨mmX1_blendSize, [some (.ref q0), some (.ref q1)], rfl, rfl, ?_⟩
  have hE : zf_E (zF_X1_blendSize q0 q1 g) (zF_X1_blendSize q0 q1 g) := zf_rf
  refine mm_g 1 (pc1 := 1) (lo1 := [some (.ref q0), some (.ref q1)]) (st1 := [.ref q0]) (H1 := mz_mk g x) rfl ?_
  refine mz_fgR (v := (q0 + 1)) rfl fd_1_12 (by decide) (kc_load h_q0 _) (kr_load_0 h_q0 _ _ _) ?_
  refine mm_g 1 (pc1 := 5) (lo1 := [some (.ref q0), some (.ref q1)]) (st1 := [.ref q1, .ref (q0 + 1)]) (H1 := mz_mk g x) rfl ?_
  refine mz_gI rfl fd_1_57 (by decide) (kc_trunk h_q1 _) hI (kb_trunk_0 h_q1) (fun v1 e_v1 l_v1 u_v1 => ?_)
  replace hE := zf_tr hE (zf_le e_v1)
  refine mz_cv rfl mt_1_62 (by decide) (kc_words (ks_load_0 h_q0) _) rfl (Nat.le_of_ble_eq_true rfl) (by omega) (f_X10_of (by omega) hx hI (ks_load_0 h_q0) l_v1 u_v1 (fun u2 k_u2 hp3 hc4 => ⟨_, rfl, ?_⟩))
  show mm_W d mmX1_blendSize 11 [some (.ref q0), some (.ref q1)] [.ref u2] (mz_mk g x) Q
  replace hE := zf_t1 hE hc4
  refine mz_cv rfl mt_1_66 (by decide) (kc_let k_u2 _) rfl (Nat.le_of_ble_eq_true rfl) (by omega) (f_X0_length (by omega) hx hI k_u2 (fun v5 l_v5 u_v5 hc6 => ⟨_, rfl, ?_⟩))
  show mm_W d mmX1_blendSize 14 [some (.ref q0), some (.ref q1)] [.int (Int32.ofInt v5)] (mz_mk g x) Q
  replace hE := zf_t1 hE hc6
  refine mm_g 1 (pc1 := 15) (lo1 := [some (.ref q0), some (.ref q1)]) (st1 := [.ref q0, .int (Int32.ofInt v5)]) (H1 := mz_mk g x) rfl ?_
  refine mz_fgR (v := (q0 + 1)) rfl fd_1_12 (by decide) (kc_load h_q0 _) (kr_load_0 h_q0 _ _ _) ?_
  refine mm_g 1 (pc1 := 19) (lo1 := [some (.ref q0), some (.ref q1)]) (st1 := [.ref q1, .ref (q0 + 1), .int (Int32.ofInt v5)]) (H1 := mz_mk g x) rfl ?_
  refine mz_gI rfl fd_1_72 (by decide) (kc_trunk h_q1 _) hI (kb_trunk_1 h_q1) (fun v7 e_v7 l_v7 u_v7 => ?_)
  replace hE := zf_tr hE (zf_le e_v7)
  refine mz_cv rfl mt_1_62 (by decide) (kc_words (ks_load_0 h_q0) _) rfl (Nat.le_of_ble_eq_true rfl) (by omega) (f_X10_of (by omega) hx hI (ks_load_0 h_q0) l_v7 u_v7 (fun u8 k_u8 hp9 hc10 => ⟨_, rfl, ?_⟩))
  show mm_W d mmX1_blendSize 25 [some (.ref q0), some (.ref q1)] [.ref u8, .int (Int32.ofInt v5)] (mz_mk g x) Q
  replace hE := zf_t1 hE hc10
  refine mz_cv rfl mt_1_66 (by decide) (kc_let k_u8 _) rfl (Nat.le_of_ble_eq_true rfl) (by omega) (f_X0_length (by omega) hx hI k_u8 (fun v11 l_v11 u_v11 hc12 => ⟨_, rfl, ?_⟩))
  show mm_W d mmX1_blendSize 28 [some (.ref q0), some (.ref q1)] [.int (Int32.ofInt v11), .int (Int32.ofInt v5)] (mz_mk g x) Q
  replace hE := zf_t1 hE hc12
  refine mz_iadd rfl ?_
  refine mm_g 1 (pc1 := 30) (lo1 := [some (.ref q0), some (.ref q1)]) (st1 := [.ref q1, .int (Int32.ofInt (v5 + v11))]) (H1 := mz_mk g x) rfl ?_
  refine mz_gI rfl fd_1_81 (by decide) (kc_trunk h_q1 _) hI (kb_trunk_3 h_q1) (fun v13 e_v13 l_v13 u_v13 => ?_)
  replace hE := zf_tr hE (zf_le e_v13)
  refine mz_isub_w rfl (fun v14 e_v14 hwv14 => ?_)
  have l_v14 := hwv14.1
  have u_v14 := hwv14.2
  replace hE := zf_tr hE (zf_le e_v14.symm)
  exact mm_rt rfl rfl (hQ _ (by omega) (by omega) hE)
theorem f_X1_lettersOfAll {d : Nat} (hd : 3 ≤ d) {x : mm_X} (hx : mk_x x) {g : mz_G} (hI : mz_inv g) {q0 : Nat} (h_q0 : kd_load q0) {q1 : Nat} (h_q1 : kd_tks q1) {Q : (Option Value ⊕ Nat) → mm_H → Prop} (hQ : ∀ (r : Int), (-2147483648) ≤ r → r ≤ 2147483647 → zf_E (zF_X1_lettersOfAll q0 q1 g) (r) → Q (.inl (some (.int (Int32.ofInt r)))) (mz_mk g x)) : mm_C d 21 [.ref q0, .ref q1] (mz_mk g x) Q := by
  have kn_q0 := kn_load h_q0
  have kn_q1 := kn_tks h_q1
  refine ⟨mmX1_lettersOfAll, [some (.ref q0), some (.ref q1), none, none], rfl, rfl, ?_⟩
  have hE : zf_E (zF_X1_lettersOfAll q0 q1 g) (zF_X1_lettersOfAll q0 q1 g) := zf_rf
  refine mm_g 4 (pc1 := 4) (lo1 := [some (.ref q0), some (.ref q1), some (.int (Int32.ofInt 0)), some (.int (Int32.ofInt 0))]) (st1 := []) (H1 := mz_mk g x) rfl ?_
  have L6 : ∀ n5 : Nat, ∀ (v1 : Int) (v2 : Int), (6 - v2).toNat = n5 → (-2147483648) ≤ v1 → v1 ≤ 2147483647 → 0 ≤ v2 → v2 ≤ 6 → (∃ fk : Nat, (6 - v2).toNat < fk ∧ zf_E (zF_X1_lettersOfAll q0 q1 g) (zL_X1_lettersOfAll_4 q0 q1 g fk v1 v2)) → mm_W d mmX1_lettersOfAll 4 [some (.ref q0), some (.ref q1), some (.int (Int32.ofInt v1)), some (.int (Int32.ofInt v2))] [] (mz_mk g x) Q := by
    intro n5
    induction n5 using Nat.strongRecOn with
    | ind n5 ih4 =>
    intro v1 v2 hmn5 l_v1 u_v1 l_v2 u_v2 hF
    obtain ⟨fk, fl, hE⟩ := hF
    obtain ⟨fj7, rfl⟩ : ∃ fj, fk = fj + 1 := ⟨fk - 1, by omega⟩
    have fn8 : n5 ≤ fj7 := by omega
    replace hE := zf_tr hE zL_X1_lettersOfAll_4_s
    refine mm_g 2 (pc1 := 6) (lo1 := [some (.ref q0), some (.ref q1), some (.int (Int32.ofInt v1)), some (.int (Int32.ofInt v2))]) (st1 := [.ref q1, .int (Int32.ofInt v2)]) (H1 := mz_mk g x) rfl ?_
    refine mz_gI rfl fd_1_43 (by decide) (kc_tks h_q1 _) hI (kb_tks_2 h_q1) (fun v9 e_v9 l_v9 u_v9 => ?_)
    replace hE := zf_tr hE (zf_le e_v9)
    refine mz_ic_ge (tgt := 30) rfl rfl (mz_rg l_v2 u_v2) (mz_rg l_v9 u_v9) (fun c9_9 => ?_) (fun c9_9 => ?_)
    · skip
      replace hE := zf_nl hE c9_9
      refine mm_g 1 (pc1 := 31) (lo1 := [some (.ref q0), some (.ref q1), some (.int (Int32.ofInt v1)), some (.int (Int32.ofInt v2))]) (st1 := [.int (Int32.ofInt v1)]) (H1 := mz_mk g x) rfl ?_
      exact mm_rt rfl rfl (hQ _ (by omega) (by omega) hE)
    · skip
      replace hE := zf_ip hE c9_9
      refine mm_g 4 (pc1 := 16) (lo1 := [some (.ref q0), some (.ref q1), some (.int (Int32.ofInt v1)), some (.int (Int32.ofInt v2))]) (st1 := [.int (Int32.ofInt v2), .ref q1, .ref q0, .int (Int32.ofInt v1)]) (H1 := mz_mk g x) rfl ?_
      refine mz_cv rfl mt_1_99 (by decide) (kc_tks h_q1 _) rfl (Nat.le_of_ble_eq_true rfl) (by omega) (f_X9_get (by omega) hx hI h_q1 (by omega) (by omega) (fun u10 k_u10 hp11 hc12 => ⟨_, rfl, ?_⟩))
      show mm_W d mmX1_lettersOfAll 19 [some (.ref q0), some (.ref q1), some (.int (Int32.ofInt v1)), some (.int (Int32.ofInt v2))] [.ref u10, .ref q0, .int (Int32.ofInt v1)] (mz_mk g x) Q
      replace hE := zf_t1 hE hc12
      refine mz_cv rfl mt_1_107 (by decide) (kc_load h_q0 _) rfl (Nat.le_of_ble_eq_true rfl) (by omega) (f_X1_blendSize (by omega) hx hI h_q0 k_u10 (fun v13 l_v13 u_v13 hc14 => ⟨_, rfl, ?_⟩))
      show mm_W d mmX1_lettersOfAll 22 [some (.ref q0), some (.ref q1), some (.int (Int32.ofInt v1)), some (.int (Int32.ofInt v2))] [.int (Int32.ofInt v13), .int (Int32.ofInt v1)] (mz_mk g x) Q
      replace hE := zf_t1 hE hc14
      refine mz_iadd_w rfl (fun v15 e_v15 hwv15 => ?_)
      have l_v15 := hwv15.1
      have u_v15 := hwv15.2
      replace hE := zf_tr hE (zf_le e_v15.symm)
      refine mm_g 1 (pc1 := 24) (lo1 := [some (.ref q0), some (.ref q1), some (.int (Int32.ofInt v15)), some (.int (Int32.ofInt v2))]) (st1 := []) (H1 := mz_mk g x) rfl ?_
      refine mz_iincR (v := v2) (lo2 := [some (.ref q0), some (.ref q1), some (.int (Int32.ofInt v15)), some (.int (Int32.ofInt (v2 + 1)))]) rfl rfl rfl (Nat.le_of_ble_eq_true rfl) rfl ?_
      refine mz_gt (tgt := 4) rfl rfl ?_
      exact ih4 ((6 - (v2 + 1)).toNat) (by omega) v15 (v2 + 1) rfl (by omega) (by omega) (by omega) (by omega) ⟨fj7, Nat.lt_of_lt_of_le (show ((6 - (v2 + 1)).toNat) < n5 from (by omega)) fn8, hE⟩
  exact L6 _ 0 0 rfl (by decide) (by decide) (by decide) (by decide) ⟨3000000000, by omega, hE⟩
theorem f_X6_actsKept {d : Nat} (hd : 1 ≤ d) {x : mm_X} (hx : mk_x x) {g : mz_G} (hI : mz_inv g) {q0 : Nat} (h_q0 : kd_story q0) {Q : (Option Value ⊕ Nat) → mm_H → Prop} (hQ : ∀ (r : Int), 0 ≤ r → r ≤ 40 → zf_E (zF_X6_actsKept q0 g) (r) → Q (.inl (some (.int (Int32.ofInt r)))) (mz_mk g x)) : mm_C d 70 [.ref q0] (mz_mk g x) Q := by
  have kn_q0 := kn_story h_q0
  refine ⟨mmX6_actsKept, [some (.ref q0)], rfl, rfl, ?_⟩
  have hE : zf_E (zF_X6_actsKept q0 g) (zF_X6_actsKept q0 g) := zf_rf
  refine mm_g 1 (pc1 := 1) (lo1 := [some (.ref q0)]) (st1 := [.ref q0]) (H1 := mz_mk g x) rfl ?_
  refine mz_gI rfl fd_6_26 (by decide) (kc_story h_q0 _) hI (kb_story_3 h_q0) (fun v1 e_v1 l_v1 u_v1 => ?_)
  replace hE := zf_tr hE (zf_le e_v1)
  exact mm_rt rfl rfl (hQ _ (by omega) (by omega) hE)
theorem f_X6_seenSize {d : Nat} (hd : 1 ≤ d) {x : mm_X} (hx : mk_x x) {g : mz_G} (hI : mz_inv g) {q0 : Nat} (h_q0 : kd_story q0) {Q : (Option Value ⊕ Nat) → mm_H → Prop} (hQ : ∀ (r : Int), 0 ≤ r → r ≤ 8 → zf_E (zF_X6_seenSize q0 g) (r) → Q (.inl (some (.int (Int32.ofInt r)))) (mz_mk g x)) : mm_C d 73 [.ref q0] (mz_mk g x) Q := by
  have kn_q0 := kn_story h_q0
  refine ⟨mmX6_seenSize, [some (.ref q0)], rfl, rfl, ?_⟩
  have hE : zf_E (zF_X6_seenSize q0 g) (zF_X6_seenSize q0 g) := zf_rf
  refine mm_g 1 (pc1 := 1) (lo1 := [some (.ref q0)]) (st1 := [.ref q0]) (H1 := mz_mk g x) rfl ?_
  refine mz_gI rfl fd_6_38 (by decide) (kc_story h_q0 _) hI (kb_story_7 h_q0) (fun v1 e_v1 l_v1 u_v1 => ?_)
  replace hE := zf_tr hE (zf_le e_v1)
  exact mm_rt rfl rfl (hQ _ (by omega) (by omega) hE)
theorem f_X11_mustBe {d : Nat} (hd : 12 ≤ d) {x : mm_X} (hx : mk_x x) {g : mz_G} (hI : mz_inv g) {a1 : Int} (l_a1 : 0 ≤ a1) (u_a1 : a1 ≤ 1) {Q : (Option Value ⊕ Nat) → mm_H → Prop} (hQ : (a1 = 1) → zf_E (zF_X11_mustBe a1 g) ((0, 0, g)) → Q (.inl none) (mz_mk g x)) (hX0 : (zf_E (zF_X11_mustBe a1 g) ((1, 0, g))) → Q (.inr 0) (mz_mk g (mz_tx x))) : mm_C d 174 [.int (Int32.ofInt a1)] (mz_mk g x) Q := by
  have kx := kn_x hx
  refine ⟨mmX11_mustBe, [some (.int (Int32.ofInt a1))], rfl, rfl, ?_⟩
  have hE : zf_E (zF_X11_mustBe a1 g) (zF_X11_mustBe a1 g) := zf_rf
  refine mm_g 1 (pc1 := 1) (lo1 := [some (.int (Int32.ofInt a1))]) (st1 := [.int (Int32.ofInt a1)]) (H1 := mz_mk g x) rfl ?_
  refine mz_if_ne (tgt := 12) rfl rfl (mz_rg l_a1 u_a1) (fun c1_0 => ?_) (fun c1_0 => ?_)
  · skip
    replace hE := zf_in hE c1_0
    exact mm_rt rfl rfl (hQ (by omega) hE)
  · skip
    replace hE := zf_ip hE c1_0
    exact mz_throw rfl rfl rfl rfl rfl rfl rfl (Nat.le_of_ble_eq_true rfl) (by omega) (hX0 hE)
theorem f_X6_refusals {d : Nat} (hd : 2 ≤ d) {x : mm_X} (hx : mk_x x) {g : mz_G} (hI : mz_inv g) {q0 : Nat} (h_q0 : kd_story q0) {a1 : Int} (l_a1 : (-2147483648) ≤ a1) (u_a1 : a1 ≤ 2147483647) {Q : (Option Value ⊕ Nat) → mm_H → Prop} (hQ : ∀ (r : Int), (-2147483648) ≤ r → r ≤ 2147483647 → zf_E (zF_X6_refusals q0 a1 g) (r) → Q (.inl (some (.int (Int32.ofInt r)))) (mz_mk g x)) : mm_C d 69 [.ref q0, .int (Int32.ofInt a1)] (mz_mk g x) Q := by
  have kn_q0 := kn_story h_q0
  refine ⟨mmX6_refusals, [some (.ref q0), some (.int (Int32.ofInt a1))], rfl, rfl, ?_⟩
  have hE : zf_E (zF_X6_refusals q0 a1 g) (zF_X6_refusals q0 a1 g) := zf_rf
  refine mm_g 1 (pc1 := 1) (lo1 := [some (.ref q0), some (.int (Int32.ofInt a1))]) (st1 := [.ref q0]) (H1 := mz_mk g x) rfl ?_
  refine mz_fgR (v := (q0 + 14)) rfl fd_6_41 (by decide) (kc_story h_q0 _) (kr_story_8 h_q0 _ _ _) ?_
  refine mm_g 1 (pc1 := 5) (lo1 := [some (.ref q0), some (.int (Int32.ofInt a1))]) (st1 := [.int (Int32.ofInt a1), .ref (q0 + 14)]) (H1 := mz_mk g x) rfl ?_
  refine mz_cs rfl mt_6_52 (by decide) rfl (Nat.le_of_ble_eq_true rfl) (by omega) (f_X11_at (by omega) hx hI (ka_story_8 h_q0 _) (by decide) (kba_story_8 h_q0) (by omega) (by omega) l_a1 u_a1 (fun v1 l_v1 u_v1 hc2 => ⟨_, rfl, ?_⟩))
  show mm_W d mmX6_refusals 8 [some (.ref q0), some (.int (Int32.ofInt a1))] [.int (Int32.ofInt v1)] (mz_mk g x) Q
  replace hE := zf_t1 hE hc2
  exact mm_rt rfl rfl (hQ _ (by omega) (by omega) hE)
theorem f_X11_count {d : Nat} (hd : 15 ≤ d) {x : mm_X} (hx : mk_x x) {g : mz_G} (hI : mz_inv g) {a1 : Int} (l_a1 : (-2147483648) ≤ a1) (u_a1 : a1 ≤ 2147483647) {Q : (Option Value ⊕ Nat) → mm_H → Prop} (hQ : ∀ (r : Int), (-2147483648) ≤ r → r ≤ 2147483647 → zf_E (zF_X11_count x a1 g) ((0, r, g)) → Q (.inl (some (.int (Int32.ofInt r)))) (mz_mk g x)) (hX0 : (zf_E (zF_X11_count x a1 g) ((1, 0, g))) → Q (.inr 0) (mz_mk g (mz_tx x))) : mm_C d 126 [.ref 0, .int (Int32.ofInt a1)] (mz_mk g x) Q := by
  have kx := kn_x hx
  refine ⟨mmX11_count, [some (.ref 0), some (.int (Int32.ofInt a1))], rfl, rfl, ?_⟩
  have hE : zf_E (zF_X11_count x a1 g) (zF_X11_count x a1 g) := zf_rf
  refine mm_g 1 (pc1 := 1) (lo1 := [some (.ref 0), some (.int (Int32.ofInt a1))]) (st1 := [.int (Int32.ofInt a1)]) (H1 := mz_mk g x) rfl ?_
  by_cases c1_0 : a1 = 0
  · refine mz_tsi (tgt := 56) rfl (mz_rg l_a1 u_a1) (by omega) (by omega) (by rw [c1_0]; rfl) rfl ?_
    replace hE := zf_ip hE c1_0
    refine mm_g 1 (pc1 := 57) (lo1 := [some (.ref 0), some (.int (Int32.ofInt a1))]) (st1 := [.ref 0]) (H1 := mz_mk g x) rfl ?_
    refine mz_fgR (v := x.1) rfl fd_11_16 (by decide) (sc_0 _) rfl ?_
    refine mz_fgR (v := (x.1 + 1)) rfl fd_11_135 (by decide) (kc_load (kx_1 hx) _) (kr_load_0 (kx_1 hx) _ _ _) ?_
    refine mz_cv rfl mt_11_152 (by decide) (kc_words (ks_load_0 (kx_1 hx)) _) rfl (Nat.le_of_ble_eq_true rfl) (by omega) (f_X10_many (by omega) hx hI (ks_load_0 (kx_1 hx)) (fun v1 l_v1 u_v1 hc2 => ⟨_, rfl, ?_⟩))
    show mm_W d mmX11_count 66 [some (.ref 0), some (.int (Int32.ofInt a1))] [.int (Int32.ofInt v1)] (mz_mk g x) Q
    replace hE := zf_t1 hE hc2
    exact mm_rt rfl rfl (hQ _ (by omega) (by omega) hE)
  replace hE := zf_in hE c1_0
  by_cases c1_1 : a1 = 1
  · refine mz_tsi (tgt := 67) rfl (mz_rg l_a1 u_a1) (by omega) (by omega) (by rw [c1_1]; rfl) rfl ?_
    replace hE := zf_ip hE c1_1
    refine mm_g 1 (pc1 := 68) (lo1 := [some (.ref 0), some (.int (Int32.ofInt a1))]) (st1 := [.ref 0]) (H1 := mz_mk g x) rfl ?_
    refine mz_cv rfl mt_11_155 (by decide) (sc_0 _) rfl (Nat.le_of_ble_eq_true rfl) (by omega) (f_X11_trunkCount (by omega) hx hI (fun v3 l_v3 u_v3 hc4 => ⟨_, rfl, ?_⟩))
    show mm_W d mmX11_count 71 [some (.ref 0), some (.int (Int32.ofInt a1))] [.int (Int32.ofInt v3)] (mz_mk g x) Q
    replace hE := zf_t1 hE hc4
    exact mm_rt rfl rfl (hQ _ (by omega) (by omega) hE)
  replace hE := zf_in hE c1_1
  by_cases c1_2 : a1 = 2
  · refine mz_tsi (tgt := 72) rfl (mz_rg l_a1 u_a1) (by omega) (by omega) (by rw [c1_2]; rfl) rfl ?_
    replace hE := zf_ip hE c1_2
    refine mm_g 1 (pc1 := 73) (lo1 := [some (.ref 0), some (.int (Int32.ofInt a1))]) (st1 := [.ref 0]) (H1 := mz_mk g x) rfl ?_
    refine mz_fgR (v := 86) rfl fd_11_37 (by decide) (sc_0 _) (rf_0_5 _ _ _) ?_
    refine mz_fgR (v := 87) rfl fd_11_158 (by decide) (sc_86 _) (rf_86_0 _ _ _) ?_
    refine mz_gI rfl fd_11_161 (by decide) (sc_87 _) hI bd_87_3 (fun v5 e_v5 l_v5 u_v5 => ?_)
    replace hE := zf_tr hE (zf_le e_v5)
    exact mm_rt rfl rfl (hQ _ (by omega) (by omega) hE)
  replace hE := zf_in hE c1_2
  by_cases c1_3 : a1 = 3
  · refine mz_tsi (tgt := 83) rfl (mz_rg l_a1 u_a1) (by omega) (by omega) (by rw [c1_3]; rfl) rfl ?_
    replace hE := zf_ip hE c1_3
    refine mm_g 1 (pc1 := 84) (lo1 := [some (.ref 0), some (.int (Int32.ofInt a1))]) (st1 := [.ref 0]) (H1 := mz_mk g x) rfl ?_
    refine mz_fgR (v := x.1) rfl fd_11_16 (by decide) (sc_0 _) rfl ?_
    refine mm_g 1 (pc1 := 88) (lo1 := [some (.ref 0), some (.int (Int32.ofInt a1))]) (st1 := [.ref 0, .ref x.1]) (H1 := mz_mk g x) rfl ?_
    refine mz_fgR (v := 86) rfl fd_11_37 (by decide) (sc_0 _) (rf_0_5 _ _ _) ?_
    refine mz_fgR (v := 87) rfl fd_11_158 (by decide) (sc_86 _) (rf_86_0 _ _ _) ?_
    refine mz_gI rfl fd_11_161 (by decide) (sc_87 _) hI bd_87_3 (fun v6 e_v6 l_v6 u_v6 => ?_)
    replace hE := zf_tr hE (zf_le e_v6)
    refine mz_cv rfl mt_11_164 (by decide) (kc_load (kx_1 hx) _) rfl (Nat.le_of_ble_eq_true rfl) (by omega) (f_X1_heatOf (by omega) hx hI (kx_1 hx) l_v6 u_v6 (fun v7 l_v7 u_v7 hc8 => ⟨_, rfl, ?_⟩))
    show mm_W d mmX11_count 100 [some (.ref 0), some (.int (Int32.ofInt a1))] [.int (Int32.ofInt v7)] (mz_mk g x) Q
    replace hE := zf_t1 hE hc8
    exact mm_rt rfl rfl (hQ _ (by omega) (by omega) hE)
  replace hE := zf_in hE c1_3
  by_cases c1_4 : a1 = 4
  · refine mz_tsi (tgt := 101) rfl (mz_rg l_a1 u_a1) (by omega) (by omega) (by rw [c1_4]; rfl) rfl ?_
    replace hE := zf_ip hE c1_4
    refine mm_g 1 (pc1 := 102) (lo1 := [some (.ref 0), some (.int (Int32.ofInt a1))]) (st1 := [.ref 0]) (H1 := mz_mk g x) rfl ?_
    refine mz_fgR (v := x.1) rfl fd_11_16 (by decide) (sc_0 _) rfl ?_
    refine mm_g 1 (pc1 := 106) (lo1 := [some (.ref 0), some (.int (Int32.ofInt a1))]) (st1 := [.ref 0, .ref x.1]) (H1 := mz_mk g x) rfl ?_
    refine mz_fgR (v := 86) rfl fd_11_37 (by decide) (sc_0 _) (rf_0_5 _ _ _) ?_
    refine mz_fgR (v := 87) rfl fd_11_158 (by decide) (sc_86 _) (rf_86_0 _ _ _) ?_
    refine mz_cv rfl mt_11_167 (by decide) (kc_load (kx_1 hx) _) rfl (Nat.le_of_ble_eq_true rfl) (by omega) (f_X1_howManyFull (by omega) hx hI (kx_1 hx) kp_tks_87 (fun v9 l_v9 u_v9 hc10 => ⟨_, rfl, ?_⟩))
    show mm_W d mmX11_count 115 [some (.ref 0), some (.int (Int32.ofInt a1))] [.int (Int32.ofInt v9)] (mz_mk g x) Q
    replace hE := zf_t1 hE hc10
    exact mm_rt rfl rfl (hQ _ (by omega) (by omega) hE)
  replace hE := zf_in hE c1_4
  by_cases c1_5 : a1 = 5
  · refine mz_tsi (tgt := 116) rfl (mz_rg l_a1 u_a1) (by omega) (by omega) (by rw [c1_5]; rfl) rfl ?_
    replace hE := zf_ip hE c1_5
    refine mm_g 1 (pc1 := 117) (lo1 := [some (.ref 0), some (.int (Int32.ofInt a1))]) (st1 := [.ref 0]) (H1 := mz_mk g x) rfl ?_
    refine mz_cv rfl mt_11_171 (by decide) (sc_0 _) rfl (Nat.le_of_ble_eq_true rfl) (by omega) (f_X11_treaties (by omega) hx hI (fun v11 l_v11 u_v11 hc12 => ⟨_, rfl, ?_⟩))
    show mm_W d mmX11_count 120 [some (.ref 0), some (.int (Int32.ofInt a1))] [.int (Int32.ofInt v11)] (mz_mk g x) Q
    replace hE := zf_t1 hE hc12
    exact mm_rt rfl rfl (hQ _ (by omega) (by omega) hE)
  replace hE := zf_in hE c1_5
  by_cases c1_6 : a1 = 6
  · refine mz_tsi (tgt := 121) rfl (mz_rg l_a1 u_a1) (by omega) (by omega) (by rw [c1_6]; rfl) rfl ?_
    replace hE := zf_ip hE c1_6
    refine mm_g 1 (pc1 := 122) (lo1 := [some (.ref 0), some (.int (Int32.ofInt a1))]) (st1 := [.ref 0]) (H1 := mz_mk g x) rfl ?_
    refine mz_fgR (v := x.1) rfl fd_11_16 (by decide) (sc_0 _) rfl ?_
    refine mm_g 1 (pc1 := 126) (lo1 := [some (.ref 0), some (.int (Int32.ofInt a1))]) (st1 := [.ref 0, .ref x.1]) (H1 := mz_mk g x) rfl ?_
    refine mz_fgR (v := 86) rfl fd_11_37 (by decide) (sc_0 _) (rf_0_5 _ _ _) ?_
    refine mz_fgR (v := 87) rfl fd_11_158 (by decide) (sc_86 _) (rf_86_0 _ _ _) ?_
    refine mz_cv rfl mt_11_174 (by decide) (kc_load (kx_1 hx) _) rfl (Nat.le_of_ble_eq_true rfl) (by omega) (f_X1_lettersOfAll (by omega) hx hI (kx_1 hx) kp_tks_87 (fun v13 l_v13 u_v13 hc14 => ⟨_, rfl, ?_⟩))
    show mm_W d mmX11_count 135 [some (.ref 0), some (.int (Int32.ofInt a1))] [.int (Int32.ofInt v13)] (mz_mk g x) Q
    replace hE := zf_t1 hE hc14
    exact mm_rt rfl rfl (hQ _ (by omega) (by omega) hE)
  replace hE := zf_in hE c1_6
  by_cases c1_7 : a1 = 7
  · refine mz_tsi (tgt := 136) rfl (mz_rg l_a1 u_a1) (by omega) (by omega) (by rw [c1_7]; rfl) rfl ?_
    replace hE := zf_ip hE c1_7
    refine mm_g 1 (pc1 := 137) (lo1 := [some (.ref 0), some (.int (Int32.ofInt a1))]) (st1 := [.ref 0]) (H1 := mz_mk g x) rfl ?_
    refine mz_fgR (v := 86) rfl fd_11_37 (by decide) (sc_0 _) (rf_0_5 _ _ _) ?_
    refine mz_cv rfl mt_11_177 (by decide) (sc_86 _) rfl (Nat.le_of_ble_eq_true rfl) (by omega) (f_X6_actsKept (by omega) hx hI kp_story_86 (fun v15 l_v15 u_v15 hc16 => ⟨_, rfl, ?_⟩))
    show mm_W d mmX11_count 143 [some (.ref 0), some (.int (Int32.ofInt a1))] [.int (Int32.ofInt v15)] (mz_mk g x) Q
    replace hE := zf_t1 hE hc16
    exact mm_rt rfl rfl (hQ _ (by omega) (by omega) hE)
  replace hE := zf_in hE c1_7
  by_cases c1_8 : a1 = 8
  · refine mz_tsi (tgt := 144) rfl (mz_rg l_a1 u_a1) (by omega) (by omega) (by rw [c1_8]; rfl) rfl ?_
    replace hE := zf_ip hE c1_8
    refine mm_g 1 (pc1 := 145) (lo1 := [some (.ref 0), some (.int (Int32.ofInt a1))]) (st1 := [.ref 0]) (H1 := mz_mk g x) rfl ?_
    refine mz_fgR (v := 86) rfl fd_11_37 (by decide) (sc_0 _) (rf_0_5 _ _ _) ?_
    refine mz_cv rfl mt_11_180 (by decide) (sc_86 _) rfl (Nat.le_of_ble_eq_true rfl) (by omega) (f_X6_seenSize (by omega) hx hI kp_story_86 (fun v17 l_v17 u_v17 hc18 => ⟨_, rfl, ?_⟩))
    show mm_W d mmX11_count 151 [some (.ref 0), some (.int (Int32.ofInt a1))] [.int (Int32.ofInt v17)] (mz_mk g x) Q
    replace hE := zf_t1 hE hc18
    exact mm_rt rfl rfl (hQ _ (by omega) (by omega) hE)
  replace hE := zf_in hE c1_8
  by_cases c1_9 : a1 = 9
  · refine mz_tsi (tgt := 152) rfl (mz_rg l_a1 u_a1) (by omega) (by omega) (by rw [c1_9]; rfl) rfl ?_
    replace hE := zf_ip hE c1_9
    refine mm_g 1 (pc1 := 153) (lo1 := [some (.ref 0), some (.int (Int32.ofInt a1))]) (st1 := [.ref 0]) (H1 := mz_mk g x) rfl ?_
    refine mz_fgR (v := 81) rfl fd_11_26 (by decide) (sc_0 _) (rf_0_3 _ _ _) ?_
    refine mz_fgR (v := 82) rfl fd_11_94 (by decide) (sc_81 _) (rf_81_0 _ _ _) ?_
    refine mz_gI rfl fd_11_98 (by decide) (sc_82 _) hI bd_82_1 (fun v19 e_v19 l_v19 u_v19 => ?_)
    replace hE := zf_tr hE (zf_le e_v19)
    exact mm_rt rfl rfl (hQ _ (by omega) (by omega) hE)
  replace hE := zf_in hE c1_9
  refine mz_tso (tgt := 163) rfl (mz_rg l_a1 u_a1) (by omega) rfl ?_
  refine mm_g 1 (pc1 := 164) (lo1 := [some (.ref 0), some (.int (Int32.ofInt a1))]) (st1 := [.int (Int32.ofInt a1)]) (H1 := mz_mk g x) rfl ?_
  refine mz_bip rfl bip_10 ?_
  refine mz_ic_lt (tgt := 179) rfl rfl (mz_rg l_a1 u_a1) ⟨by decide, by decide⟩ (fun c166_19 => ?_) (fun c166_19 => ?_)
  · skip
    replace hE := zf_ip hE c166_19
    refine mm_g 1 (pc1 := 180) (lo1 := [some (.ref 0), some (.int (Int32.ofInt a1))]) (st1 := [.int (Int32.ofInt 0)]) (H1 := mz_mk g x) rfl ?_
    (try unfold zJ_X11_count_179 at hE)
    (try unfold zJ_X11_count_180 at hE)
    (try unfold zJ_X11_count_179 at hE)
    (try unfold zJ_X11_count_180 at hE)
    refine mz_csx rfl mt_11_183 rfl (Nat.le_of_ble_eq_true rfl) (by omega) rfl nh_X11_mustBe (f_X11_mustBe (by omega) hx hI (by decide) (by decide) (fun hp20 hc21 => ?_) (fun hc => hX0 (zf_x2 hE hc (by decide))))
    show mm_W d mmX11_count 183 [some (.ref 0), some (.int (Int32.ofInt a1))] [] (mz_mk g x) Q
    replace hE := zf_x1 hE hc21
    exfalso; omega
  · skip
    replace hE := zf_nl hE c166_19
    refine mm_g 1 (pc1 := 170) (lo1 := [some (.ref 0), some (.int (Int32.ofInt a1))]) (st1 := [.int (Int32.ofInt a1)]) (H1 := mz_mk g x) rfl ?_
    refine mz_bip rfl bip_12 ?_
    refine mz_ic_gt (tgt := 179) rfl rfl (mz_rg l_a1 u_a1) ⟨by decide, by decide⟩ (fun c172_21 => ?_) (fun c172_21 => ?_)
    · skip
      replace hE := zf_ip hE c172_21
      refine mm_g 1 (pc1 := 180) (lo1 := [some (.ref 0), some (.int (Int32.ofInt a1))]) (st1 := [.int (Int32.ofInt 0)]) (H1 := mz_mk g x) rfl ?_
      (try unfold zJ_X11_count_179 at hE)
      (try unfold zJ_X11_count_180 at hE)
      (try unfold zJ_X11_count_179 at hE)
      (try unfold zJ_X11_count_180 at hE)
      refine mz_csx rfl mt_11_183 rfl (Nat.le_of_ble_eq_true rfl) (by omega) rfl nh_X11_mustBe (f_X11_mustBe (by omega) hx hI (by decide) (by decide) (fun hp22 hc23 => ?_) (fun hc => hX0 (zf_x2 hE hc (by decide))))
      show mm_W d mmX11_count 183 [some (.ref 0), some (.int (Int32.ofInt a1))] [] (mz_mk g x) Q
      replace hE := zf_x1 hE hc23
      exfalso; omega
    · skip
      replace hE := zf_nl hE c172_21
      refine mm_g 1 (pc1 := 176) (lo1 := [some (.ref 0), some (.int (Int32.ofInt a1))]) (st1 := [.int (Int32.ofInt 1)]) (H1 := mz_mk g x) rfl ?_
      refine mz_gt (tgt := 180) rfl rfl ?_
      (try unfold zJ_X11_count_179 at hE)
      (try unfold zJ_X11_count_180 at hE)
      (try unfold zJ_X11_count_179 at hE)
      (try unfold zJ_X11_count_180 at hE)
      refine mz_csx rfl mt_11_183 rfl (Nat.le_of_ble_eq_true rfl) (by omega) rfl nh_X11_mustBe (f_X11_mustBe (by omega) hx hI (by decide) (by decide) (fun hp24 hc25 => ?_) (fun hc => hX0 (zf_x2 hE hc (by decide))))
      show mm_W d mmX11_count 183 [some (.ref 0), some (.int (Int32.ofInt a1))] [] (mz_mk g x) Q
      replace hE := zf_x1 hE hc25
      refine mm_g 1 (pc1 := 184) (lo1 := [some (.ref 0), some (.int (Int32.ofInt a1))]) (st1 := [.ref 0]) (H1 := mz_mk g x) rfl ?_
      refine mz_fgR (v := 86) rfl fd_11_37 (by decide) (sc_0 _) (rf_0_5 _ _ _) ?_
      refine mm_g 1 (pc1 := 188) (lo1 := [some (.ref 0), some (.int (Int32.ofInt a1))]) (st1 := [.int (Int32.ofInt a1), .ref 86]) (H1 := mz_mk g x) rfl ?_
      refine mz_bip rfl bip_10 ?_
      refine mz_isub rfl ?_
      refine mz_cv rfl mt_11_186 (by decide) (sc_86 _) rfl (Nat.le_of_ble_eq_true rfl) (by omega) (f_X6_refusals (by omega) hx hI kp_story_86 (by omega) (by omega) (fun v26 l_v26 u_v26 hc27 => ⟨_, rfl, ?_⟩))
      show mm_W d mmX11_count 194 [some (.ref 0), some (.int (Int32.ofInt a1))] [.int (Int32.ofInt v26)] (mz_mk g x) Q
      replace hE := zf_t1 hE hc27
      exact mm_rt rfl rfl (hQ _ (by omega) (by omega) hE)
theorem f_X11_isWord {d : Nat} (hd : 2 ≤ d) {x : mm_X} (hx : mk_x x) {g : mz_G} (hI : mz_inv g) {a1 : Int} (l_a1 : (-2147483648) ≤ a1) (u_a1 : a1 ≤ 2147483647) {Q : (Option Value ⊕ Nat) → mm_H → Prop} (hQ : ∀ (r : Int), 0 ≤ r → r ≤ 1 → zf_E (zF_X11_isWord x a1 g) (r) → Q (.inl (some (.int (Int32.ofInt r)))) (mz_mk g x)) : mm_C d 171 [.ref 0, .int (Int32.ofInt a1)] (mz_mk g x) Q := by
  have kx := kn_x hx
  refine ⟨mmX11_isWord, [some (.ref 0), some (.int (Int32.ofInt a1))], rfl, rfl, ?_⟩
  have hE : zf_E (zF_X11_isWord x a1 g) (zF_X11_isWord x a1 g) := zf_rf
  refine mm_g 1 (pc1 := 1) (lo1 := [some (.ref 0), some (.int (Int32.ofInt a1))]) (st1 := [.int (Int32.ofInt a1)]) (H1 := mz_mk g x) rfl ?_
  refine mz_if_lt (tgt := 22) rfl rfl (mz_rg l_a1 u_a1) (fun c1_0 => ?_) (fun c1_0 => ?_)
  · skip
    replace hE := zf_ip hE c1_0
    refine mm_g 1 (pc1 := 23) (lo1 := [some (.ref 0), some (.int (Int32.ofInt a1))]) (st1 := [.int (Int32.ofInt 0)]) (H1 := mz_mk g x) rfl ?_
    exact mz_rtZ rfl (by decide) (by omega) (hQ _ (by decide) (by decide) hE)
  · skip
    replace hE := zf_nl hE c1_0
    refine mm_g 2 (pc1 := 6) (lo1 := [some (.ref 0), some (.int (Int32.ofInt a1))]) (st1 := [.ref 0, .int (Int32.ofInt a1)]) (H1 := mz_mk g x) rfl ?_
    refine mz_fgR (v := x.1) rfl fd_11_16 (by decide) (sc_0 _) rfl ?_
    refine mz_fgR (v := (x.1 + 1)) rfl fd_11_135 (by decide) (kc_load (kx_1 hx) _) (kr_load_0 (kx_1 hx) _ _ _) ?_
    refine mz_cv rfl mt_11_152 (by decide) (kc_words (ks_load_0 (kx_1 hx)) _) rfl (Nat.le_of_ble_eq_true rfl) (by omega) (f_X10_many (by omega) hx hI (ks_load_0 (kx_1 hx)) (fun v1 l_v1 u_v1 hc2 => ⟨_, rfl, ?_⟩))
    show mm_W d mmX11_isWord 15 [some (.ref 0), some (.int (Int32.ofInt a1))] [.int (Int32.ofInt v1), .int (Int32.ofInt a1)] (mz_mk g x) Q
    replace hE := zf_t1 hE hc2
    refine mz_ic_ge (tgt := 22) rfl rfl (mz_rg l_a1 u_a1) (mz_rg l_v1 u_v1) (fun c15_2 => ?_) (fun c15_2 => ?_)
    · skip
      replace hE := zf_nl hE c15_2
      refine mm_g 1 (pc1 := 23) (lo1 := [some (.ref 0), some (.int (Int32.ofInt a1))]) (st1 := [.int (Int32.ofInt 0)]) (H1 := mz_mk g x) rfl ?_
      exact mz_rtZ rfl (by decide) (by omega) (hQ _ (by decide) (by decide) hE)
    · skip
      replace hE := zf_ip hE c15_2
      refine mm_g 1 (pc1 := 19) (lo1 := [some (.ref 0), some (.int (Int32.ofInt a1))]) (st1 := [.int (Int32.ofInt 1)]) (H1 := mz_mk g x) rfl ?_
      refine mz_gt (tgt := 23) rfl rfl ?_
      exact mz_rtZ rfl (by decide) (by omega) (hQ _ (by decide) (by decide) hE)
theorem f_X10_firmness {d : Nat} (hd : 2 ≤ d) {x : mm_X} (hx : mk_x x) {g : mz_G} (hI : mz_inv g) {q0 : Nat} (h_q0 : kd_words q0) {a1 : Int} (l_a1 : (-2147483648) ≤ a1) (u_a1 : a1 ≤ 2147483647) {Q : (Option Value ⊕ Nat) → mm_H → Prop} (hQ : ∀ (r : Int), (-2147483648) ≤ r → r ≤ 2147483647 → zf_E (zF_X10_firmness q0 a1 g) (r) → Q (.inl (some (.int (Int32.ofInt r)))) (mz_mk g x)) : mm_C d 110 [.ref q0, .int (Int32.ofInt a1)] (mz_mk g x) Q := by
  have kn_q0 := kn_words h_q0
  refine ⟨mmX10_firmness, [some (.ref q0), some (.int (Int32.ofInt a1))], rfl, rfl, ?_⟩
  have hE : zf_E (zF_X10_firmness q0 a1 g) (zF_X10_firmness q0 a1 g) := zf_rf
  refine mm_g 1 (pc1 := 1) (lo1 := [some (.ref q0), some (.int (Int32.ofInt a1))]) (st1 := [.ref q0]) (H1 := mz_mk g x) rfl ?_
  refine mz_fgR (v := (q0 + 4)) rfl fd_10_24 (by decide) (kc_words h_q0 _) (kr_words_2 h_q0 _ _ _) ?_
  refine mm_g 1 (pc1 := 5) (lo1 := [some (.ref q0), some (.int (Int32.ofInt a1))]) (st1 := [.int (Int32.ofInt a1), .ref (q0 + 4)]) (H1 := mz_mk g x) rfl ?_
  refine mz_cs rfl mt_10_62 (by decide) rfl (Nat.le_of_ble_eq_true rfl) (by omega) (f_X11_at (by omega) hx hI (ka_words_2 h_q0 _) (by decide) (kba_words_2 h_q0) (by omega) (by omega) l_a1 u_a1 (fun v1 l_v1 u_v1 hc2 => ⟨_, rfl, ?_⟩))
  show mm_W d mmX10_firmness 8 [some (.ref q0), some (.int (Int32.ofInt a1))] [.int (Int32.ofInt v1)] (mz_mk g x) Q
  replace hE := zf_t1 hE hc2
  exact mm_rt rfl rfl (hQ _ (by omega) (by omega) hE)
theorem f_X0_holds {d : Nat} (hd : 3 ≤ d) {x : mm_X} (hx : mk_x x) {g : mz_G} (hI : mz_inv g) {q0 : Nat} (h_q0 : kd_let q0) {q1 : Nat} (h_q1 : kd_let q1) {Q : (Option Value ⊕ Nat) → mm_H → Prop} (hQ : ∀ (r : Int), 0 ≤ r → r ≤ 1 → zf_E (zF_X0_holds q0 q1 g) (r) → Q (.inl (some (.int (Int32.ofInt r)))) (mz_mk g x)) : mm_C d 7 [.ref q0, .ref q1] (mz_mk g x) Q := by
  have kn_q0 := kn_let h_q0
  have kn_q1 := kn_let h_q1
  refine ⟨mmX0_holds, [some (.ref q0), some (.ref q1), none], rfl, rfl, ?_⟩
  have hE : zf_E (zF_X0_holds q0 q1 g) (zF_X0_holds q0 q1 g) := zf_rf
  refine mm_g 2 (pc1 := 2) (lo1 := [some (.ref q0), some (.ref q1), some (.int (Int32.ofInt 0))]) (st1 := []) (H1 := mz_mk g x) rfl ?_
  have L5 : ∀ n4 : Nat, ∀ (v1 : Int), (17 - v1).toNat = n4 → 0 ≤ v1 → v1 ≤ 17 → (∃ fk : Nat, (17 - v1).toNat < fk ∧ zf_E (zF_X0_holds q0 q1 g) (zL_X0_holds_2 q0 q1 g fk v1)) → mm_W d mmX0_holds 2 [some (.ref q0), some (.ref q1), some (.int (Int32.ofInt v1))] [] (mz_mk g x) Q := by
    intro n4
    induction n4 using Nat.strongRecOn with
    | ind n4 ih3 =>
    intro v1 hmn4 l_v1 u_v1 hF
    obtain ⟨fk, fl, hE⟩ := hF
    obtain ⟨fj6, rfl⟩ : ∃ fj, fk = fj + 1 := ⟨fk - 1, by omega⟩
    have fn7 : n4 ≤ fj6 := by omega
    replace hE := zf_tr hE zL_X0_holds_2_s
    refine mm_g 2 (pc1 := 4) (lo1 := [some (.ref q0), some (.ref q1), some (.int (Int32.ofInt v1))]) (st1 := [.ref q1, .int (Int32.ofInt v1)]) (H1 := mz_mk g x) rfl ?_
    refine mz_gI rfl fd_0_7 (by decide) (kc_let h_q1 _) hI (kb_let_1 h_q1) (fun v8 e_v8 l_v8 u_v8 => ?_)
    replace hE := zf_tr hE (zf_le e_v8)
    refine mz_iadd rfl ?_
    refine mm_g 1 (pc1 := 9) (lo1 := [some (.ref q0), some (.ref q1), some (.int (Int32.ofInt v1))]) (st1 := [.ref q0, .int (Int32.ofInt (v1 + v8))]) (H1 := mz_mk g x) rfl ?_
    refine mz_gI rfl fd_0_7 (by decide) (kc_let h_q0 _) hI (kb_let_1 h_q0) (fun v9 e_v9 l_v9 u_v9 => ?_)
    replace hE := zf_tr hE (zf_le e_v9)
    refine mz_ic_gt (tgt := 36) rfl rfl ⟨by omega, by omega⟩ (mz_rg l_v9 u_v9) (fun c12_9 => ?_) (fun c12_9 => ?_)
    · skip
      replace hE := zf_ip hE c12_9
      refine mm_g 1 (pc1 := 37) (lo1 := [some (.ref q0), some (.ref q1), some (.int (Int32.ofInt v1))]) (st1 := [.int (Int32.ofInt 0)]) (H1 := mz_mk g x) rfl ?_
      exact mz_rtZ rfl (by decide) (by omega) (hQ _ (by decide) (by decide) hE)
    · skip
      replace hE := zf_nl hE c12_9
      refine mm_g 4 (pc1 := 19) (lo1 := [some (.ref q0), some (.ref q1), some (.int (Int32.ofInt v1))]) (st1 := [.ref q1, .ref q1, .int (Int32.ofInt v1), .ref q0]) (H1 := mz_mk g x) rfl ?_
      refine mz_fgI (v := v8) rfl fd_0_7 (by decide) (kc_let h_q1 _) e_v8 ?_
      replace hE := zf_tr hE (zf_le e_v8)
      refine mz_cv rfl mt_0_27 (by decide) (kc_let h_q0 _) rfl (Nat.le_of_ble_eq_true rfl) (by omega) (f_X0_matches (by omega) hx hI h_q0 (by omega) (by omega) h_q1 (by omega) (by omega) (fun v10 l_v10 u_v10 hc11 => ⟨_, rfl, ?_⟩))
      show mm_W d mmX0_holds 25 [some (.ref q0), some (.ref q1), some (.int (Int32.ofInt v1))] [.int (Int32.ofInt v10)] (mz_mk g x) Q
      replace hE := zf_t1 hE hc11
      refine mz_if_eq (tgt := 30) rfl rfl (mz_rg l_v10 u_v10) (fun c25_11 => ?_) (fun c25_11 => ?_)
      · skip
        replace hE := zf_ip hE c25_11
        refine mz_iincR (v := v1) (lo2 := [some (.ref q0), some (.ref q1), some (.int (Int32.ofInt (v1 + 1)))]) rfl rfl rfl (Nat.le_of_ble_eq_true rfl) rfl ?_
        refine mz_gt (tgt := 2) rfl rfl ?_
        exact ih3 ((17 - (v1 + 1)).toNat) (by omega) (v1 + 1) rfl (by omega) (by omega) ⟨fj6, Nat.lt_of_lt_of_le (show ((17 - (v1 + 1)).toNat) < n4 from (by omega)) fn7, hE⟩
      · skip
        replace hE := zf_in hE c25_11
        refine mm_g 1 (pc1 := 29) (lo1 := [some (.ref q0), some (.ref q1), some (.int (Int32.ofInt v1))]) (st1 := [.int (Int32.ofInt 1)]) (H1 := mz_mk g x) rfl ?_
        exact mz_rtZ rfl (by decide) (by omega) (hQ _ (by decide) (by decide) hE)
  exact L5 _ 0 rfl (by decide) (by decide) ⟨3000000000, by omega, hE⟩
theorem f_X10_within {d : Nat} (hd : 4 ≤ d) {x : mm_X} (hx : mk_x x) {g : mz_G} (hI : mz_inv g) {q0 : Nat} (h_q0 : kd_words q0) {a1 : Int} (l_a1 : (-2147483648) ≤ a1) (u_a1 : a1 ≤ 2147483647) {Q : (Option Value ⊕ Nat) → mm_H → Prop} (hQ : ∀ (r : Int), (-2147483648) ≤ r → r ≤ 2147483647 → zf_E (zF_X10_within q0 a1 g) (r) → Q (.inl (some (.int (Int32.ofInt r)))) (mz_mk g x)) : mm_C d 116 [.ref q0, .int (Int32.ofInt a1)] (mz_mk g x) Q := by
  have kn_q0 := kn_words h_q0
  refine ⟨mmX10_within, [some (.ref q0), some (.int (Int32.ofInt a1)), none, none], rfl, rfl, ?_⟩
  have hE : zf_E (zF_X10_within q0 a1 g) (zF_X10_within q0 a1 g) := zf_rf
  refine mm_g 4 (pc1 := 4) (lo1 := [some (.ref q0), some (.int (Int32.ofInt a1)), some (.int (Int32.ofInt 0)), some (.int (Int32.ofInt 0))]) (st1 := []) (H1 := mz_mk g x) rfl ?_
  have L6 : ∀ n5 : Nat, ∀ (v1 : Int) (v2 : Int), (8 - v2).toNat = n5 → (-2147483648) ≤ v1 → v1 ≤ 2147483647 → 0 ≤ v2 → v2 ≤ 8 → (∃ fk : Nat, (8 - v2).toNat < fk ∧ zf_E (zF_X10_within q0 a1 g) (zL_X10_within_4 q0 a1 g fk v1 v2)) → mm_W d mmX10_within 4 [some (.ref q0), some (.int (Int32.ofInt a1)), some (.int (Int32.ofInt v1)), some (.int (Int32.ofInt v2))] [] (mz_mk g x) Q := by
    intro n5
    induction n5 using Nat.strongRecOn with
    | ind n5 ih4 =>
    intro v1 v2 hmn5 l_v1 u_v1 l_v2 u_v2 hF
    obtain ⟨fk, fl, hE⟩ := hF
    obtain ⟨fj7, rfl⟩ : ∃ fj, fk = fj + 1 := ⟨fk - 1, by omega⟩
    have fn8 : n5 ≤ fj7 := by omega
    replace hE := zf_tr hE zL_X10_within_4_s
    refine mm_g 2 (pc1 := 6) (lo1 := [some (.ref q0), some (.int (Int32.ofInt a1)), some (.int (Int32.ofInt v1)), some (.int (Int32.ofInt v2))]) (st1 := [.ref q0, .int (Int32.ofInt v2)]) (H1 := mz_mk g x) rfl ?_
    refine mz_gI rfl fd_10_28 (by decide) (kc_words h_q0 _) hI (kb_words_3 h_q0) (fun v9 e_v9 l_v9 u_v9 => ?_)
    replace hE := zf_tr hE (zf_le e_v9)
    refine mz_ic_ge (tgt := 44) rfl rfl (mz_rg l_v2 u_v2) (mz_rg l_v9 u_v9) (fun c9_9 => ?_) (fun c9_9 => ?_)
    · skip
      replace hE := zf_nl hE c9_9
      refine mm_g 1 (pc1 := 45) (lo1 := [some (.ref q0), some (.int (Int32.ofInt a1)), some (.int (Int32.ofInt v1)), some (.int (Int32.ofInt v2))]) (st1 := [.int (Int32.ofInt v1)]) (H1 := mz_mk g x) rfl ?_
      exact mm_rt rfl rfl (hQ _ (by omega) (by omega) hE)
    · skip
      replace hE := zf_ip hE c9_9
      refine mm_g 3 (pc1 := 15) (lo1 := [some (.ref q0), some (.int (Int32.ofInt a1)), some (.int (Int32.ofInt v1)), some (.int (Int32.ofInt v2))]) (st1 := [.int (Int32.ofInt v2), .ref q0, .int (Int32.ofInt v1)]) (H1 := mz_mk g x) rfl ?_
      refine mz_cv rfl mt_10_50 (by decide) (kc_words h_q0 _) rfl (Nat.le_of_ble_eq_true rfl) (by omega) (f_X10_of (by omega) hx hI h_q0 (by omega) (by omega) (fun u10 k_u10 hp11 hc12 => ⟨_, rfl, ?_⟩))
      show mm_W d mmX10_within 18 [some (.ref q0), some (.int (Int32.ofInt a1)), some (.int (Int32.ofInt v1)), some (.int (Int32.ofInt v2))] [.ref u10, .int (Int32.ofInt v1)] (mz_mk g x) Q
      replace hE := zf_t1 hE hc12
      refine mm_g 2 (pc1 := 20) (lo1 := [some (.ref q0), some (.int (Int32.ofInt a1)), some (.int (Int32.ofInt v1)), some (.int (Int32.ofInt v2))]) (st1 := [.int (Int32.ofInt a1), .ref q0, .ref u10, .int (Int32.ofInt v1)]) (H1 := mz_mk g x) rfl ?_
      refine mz_cv rfl mt_10_50 (by decide) (kc_words h_q0 _) rfl (Nat.le_of_ble_eq_true rfl) (by omega) (f_X10_of (by omega) hx hI h_q0 l_a1 u_a1 (fun u13 k_u13 hp14 hc15 => ⟨_, rfl, ?_⟩))
      show mm_W d mmX10_within 23 [some (.ref q0), some (.int (Int32.ofInt a1)), some (.int (Int32.ofInt v1)), some (.int (Int32.ofInt v2))] [.ref u13, .ref u10, .int (Int32.ofInt v1)] (mz_mk g x) Q
      replace hE := zf_t1 hE hc15
      refine mz_cv rfl mt_10_66 (by decide) (kc_let k_u10 _) rfl (Nat.le_of_ble_eq_true rfl) (by omega) (f_X0_holds (by omega) hx hI k_u10 k_u13 (fun v16 l_v16 u_v16 hc17 => ⟨_, rfl, ?_⟩))
      show mm_W d mmX10_within 26 [some (.ref q0), some (.int (Int32.ofInt a1)), some (.int (Int32.ofInt v1)), some (.int (Int32.ofInt v2))] [.int (Int32.ofInt v16), .int (Int32.ofInt v1)] (mz_mk g x) Q
      replace hE := zf_t1 hE hc17
      refine mz_if_eq (tgt := 35) rfl rfl (mz_rg l_v16 u_v16) (fun c26_17 => ?_) (fun c26_17 => ?_)
      · skip
        replace hE := zf_ip hE c26_17
        refine mm_g 1 (pc1 := 36) (lo1 := [some (.ref q0), some (.int (Int32.ofInt a1)), some (.int (Int32.ofInt v1)), some (.int (Int32.ofInt v2))]) (st1 := [.int (Int32.ofInt 0), .int (Int32.ofInt v1)]) (H1 := mz_mk g x) rfl ?_
        refine mz_ior rfl (fun v18 e_v18 hwv18 => ?_)
        have l_v18 := hwv18.1
        have u_v18 := hwv18.2
        replace hE := zf_tr hE (zf_le e_v18.symm)
        refine mm_g 1 (pc1 := 38) (lo1 := [some (.ref q0), some (.int (Int32.ofInt a1)), some (.int (Int32.ofInt v18)), some (.int (Int32.ofInt v2))]) (st1 := []) (H1 := mz_mk g x) rfl ?_
        refine mz_iincR (v := v2) (lo2 := [some (.ref q0), some (.int (Int32.ofInt a1)), some (.int (Int32.ofInt v18)), some (.int (Int32.ofInt (v2 + 1)))]) rfl rfl rfl (Nat.le_of_ble_eq_true rfl) rfl ?_
        refine mz_gt (tgt := 4) rfl rfl ?_
        exact ih4 ((8 - (v2 + 1)).toNat) (by omega) v18 (v2 + 1) rfl (by omega) (by omega) (by omega) (by omega) ⟨fj7, Nat.lt_of_lt_of_le (show ((8 - (v2 + 1)).toNat) < n5 from (by omega)) fn8, hE⟩
      · skip
        replace hE := zf_in hE c26_17
        refine mm_g 2 (pc1 := 31) (lo1 := [some (.ref q0), some (.int (Int32.ofInt a1)), some (.int (Int32.ofInt v1)), some (.int (Int32.ofInt v2))]) (st1 := [.int (Int32.ofInt v2), .int (Int32.ofInt 1), .int (Int32.ofInt v1)]) (H1 := mz_mk g x) rfl ?_
        refine mz_ishl rfl (fun v19 e_v19 hwv19 => ?_)
        have b_v19 : 1 ≤ v19 ∧ v19 ≤ 128 := by rw [e_v19]; exact mz_shl_b (lx := 1) (hx := 1) (k := 7) (by decide) (by decide) (by omega) (by omega) (by omega) (by omega)
        have l_v19 := b_v19.1
        have u_v19 := b_v19.2
        replace hE := zf_tr hE (zf_le e_v19.symm)
        refine mz_gt (tgt := 36) rfl rfl ?_
        refine mz_ior rfl (fun v20 e_v20 hwv20 => ?_)
        have l_v20 := hwv20.1
        have u_v20 := hwv20.2
        replace hE := zf_tr hE (zf_le e_v20.symm)
        refine mm_g 1 (pc1 := 38) (lo1 := [some (.ref q0), some (.int (Int32.ofInt a1)), some (.int (Int32.ofInt v20)), some (.int (Int32.ofInt v2))]) (st1 := []) (H1 := mz_mk g x) rfl ?_
        refine mz_iincR (v := v2) (lo2 := [some (.ref q0), some (.int (Int32.ofInt a1)), some (.int (Int32.ofInt v20)), some (.int (Int32.ofInt (v2 + 1)))]) rfl rfl rfl (Nat.le_of_ble_eq_true rfl) rfl ?_
        refine mz_gt (tgt := 4) rfl rfl ?_
        exact ih4 ((8 - (v2 + 1)).toNat) (by omega) v20 (v2 + 1) rfl (by omega) (by omega) (by omega) (by omega) ⟨fj7, Nat.lt_of_lt_of_le (show ((8 - (v2 + 1)).toNat) < n5 from (by omega)) fn8, hE⟩
  exact L6 _ 0 0 rfl (by decide) (by decide) (by decide) (by decide) ⟨3000000000, by omega, hE⟩
