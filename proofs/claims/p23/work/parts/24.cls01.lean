/-! EXACT: the class (wip/p2/tools/gen50.py) -/
theorem fd_0_7 : mm_tab mm_fldT 0 7 = some (0, 1, 0) ∧ mm_tab mm_ftT 0 1 = some 0 := ⟨rfl, rfl⟩
theorem fd_10_11 : mm_tab mm_fldT 10 11 = some (10, 0, 0) ∧ mm_tab mm_ftT 10 0 = some 6 := ⟨rfl, rfl⟩
theorem fd_10_20 : mm_tab mm_fldT 10 20 = some (10, 1, 0) ∧ mm_tab mm_ftT 10 1 = some 6 := ⟨rfl, rfl⟩
theorem mt_4_48 : mm_tab mm_mthT 4 48 = some (1, 88, 0, 0, 7) := rfl
theorem mt_4_52 : mm_tab mm_mthT 4 52 = some (1, 89, 0, 0, 7) := rfl
theorem mt_7_57 : mm_tab mm_mthT 7 57 = some (1, 90, 0, 0, 7) := rfl
theorem mt_7_61 : mm_tab mm_mthT 7 61 = some (1, 294, 0, 0, 107) := rfl
theorem mt_7_65 : mm_tab mm_mthT 7 65 = some (1, 295, 1, 0, 107) := rfl
theorem mt_16_335 : mm_tab mm_mthT 16 335 = some (1, 296, 0, 0, 107) := rfl
theorem mt_16_492 : mm_tab mm_mthT 16 492 = some (1, 297, 0, 0, 107) := rfl
theorem mt_16_495 : mm_tab mm_mthT 16 495 = some (0, 299, 2, 0, 17) := rfl
theorem mt_16_1059 : mm_tab mm_mthT 16 1059 = some (0, 300, 3, 0, 18) := rfl
theorem mt_17_9 : mm_tab mm_mthT 17 9 = some (0, 298, 2, 0, 107) := rfl
theorem kb_let_1 {q : Nat} (h : kd_let q) : mz_bd q 1 = (0, 16) := by unfold kd_let at h; rcases h with rfl | rfl | rfl | rfl | rfl | rfl | rfl | rfl | rfl | rfl | rfl | rfl | rfl | rfl | rfl | rfl | rfl | rfl | rfl | rfl <;> rfl
theorem kr_words_0 {q : Nat} (h : kd_words q) (a b : Nat) (c : Option Nat) : mm_HR a b c q 0 = some (q + 1) := by unfold kd_words at h; rcases h with rfl | rfl <;> rfl
theorem kr_words_1 {q : Nat} (h : kd_words q) (a b : Nat) (c : Option Nat) : mm_HR a b c q 1 = some (q + 2) := by unfold kd_words at h; rcases h with rfl | rfl <;> rfl
theorem ka_words_0 {q : Nat} (h : kd_words q) (L : Nat) : mm_SH L (q + 1) = (103, 8) := by unfold kd_words at h; rcases h with rfl | rfl <;> rfl
theorem ks_words_1 {q : Nat} (h : kd_words q) : kd_let (q + 2) := by unfold kd_let; unfold kd_words at h; rcases h with rfl | rfl <;> decide
theorem f_X4_goesOn {d : Nat} (hd : 2 ≤ d) {x : mm_X} (hx : mk_x x) {g : mz_G} (hI : mz_inv g) {Q : (Option Value ⊕ Nat) → mm_H → Prop} (hQ : ∀ (r : Int), 0 ≤ r → r ≤ 1 → zf_E (zF_X4_goesOn g) (r) → Q (.inl (some (.int (Int32.ofInt r)))) (mz_mk g x)) : mm_C d 39 [.ref 81] (mz_mk g x) Q := by
  refine ⟨mmX4_goesOn, [some (.ref 81)], rfl, rfl, ?_⟩
  have hE : zf_E (zF_X4_goesOn g) (zF_X4_goesOn g) := zf_rf
  refine mm_g 1 (pc1 := 1) (lo1 := [some (.ref 81)]) (st1 := [.ref 81]) (H1 := mz_mk g x) rfl ?_
  refine mz_gI rfl fd_4_18 (by decide) (sc_81 _) hI bd_81_1 (fun v1 e_v1 l_v1 u_v1 => ?_)
  replace hE := zf_tr hE (zf_le e_v1)
  refine mz_if_ne (tgt := 21) rfl rfl (mz_rg l_v1 u_v1) (fun c4_1 => ?_) (fun c4_1 => ?_)
  · skip
    replace hE := zf_in hE c4_1
    refine mm_g 1 (pc1 := 22) (lo1 := [some (.ref 81)]) (st1 := [.int (Int32.ofInt 0)]) (H1 := mz_mk g x) rfl ?_
    exact mz_rtZ rfl (by decide) (by omega) (hQ _ (by decide) (by decide) hE)
  · skip
    replace hE := zf_ip hE c4_1
    refine mm_g 1 (pc1 := 8) (lo1 := [some (.ref 81)]) (st1 := [.ref 81]) (H1 := mz_mk g x) rfl ?_
    refine mz_fgR (v := 82) rfl fd_4_12 (by decide) (sc_81 _) (rf_81_0 _ _ _) ?_
    refine mz_cv rfl mt_4_48 (by decide) (sc_82 _) rfl (Nat.le_of_ble_eq_true rfl) (by omega) (f_X7_kind (by omega) hx hI (fun v2 l_v2 u_v2 hc3 => ⟨_, rfl, ?_⟩))
    show mm_W d mmX4_goesOn 14 [some (.ref 81)] [.int (Int32.ofInt v2)] (mz_mk g x) Q
    replace hE := zf_t1 hE hc3
    refine mz_if_eq (tgt := 21) rfl rfl (mz_rg l_v2 u_v2) (fun c14_3 => ?_) (fun c14_3 => ?_)
    · skip
      replace hE := zf_ip hE c14_3
      refine mm_g 1 (pc1 := 22) (lo1 := [some (.ref 81)]) (st1 := [.int (Int32.ofInt 0)]) (H1 := mz_mk g x) rfl ?_
      exact mz_rtZ rfl (by decide) (by omega) (hQ _ (by decide) (by decide) hE)
    · skip
      replace hE := zf_in hE c14_3
      refine mm_g 1 (pc1 := 18) (lo1 := [some (.ref 81)]) (st1 := [.int (Int32.ofInt 1)]) (H1 := mz_mk g x) rfl ?_
      refine mz_gt (tgt := 22) rfl rfl ?_
      exact mz_rtZ rfl (by decide) (by omega) (hQ _ (by decide) (by decide) hE)
theorem f_X7_tokenSize {d : Nat} (hd : 1 ≤ d) {x : mm_X} (hx : mk_x x) {g : mz_G} (hI : mz_inv g) {Q : (Option Value ⊕ Nat) → mm_H → Prop} (hQ : ∀ (r : Int), (-700) ≤ r → r ≤ 700 → zf_E (zF_X7_tokenSize g) (r) → Q (.inl (some (.int (Int32.ofInt r)))) (mz_mk g x)) : mm_C d 90 [.ref 82] (mz_mk g x) Q := by
  refine ⟨mmX7_tokenSize, [some (.ref 82)], rfl, rfl, ?_⟩
  have hE : zf_E (zF_X7_tokenSize g) (zF_X7_tokenSize g) := zf_rf
  refine mm_g 1 (pc1 := 1) (lo1 := [some (.ref 82)]) (st1 := [.ref 82]) (H1 := mz_mk g x) rfl ?_
  refine mz_gI rfl fd_7_22 (by decide) (sc_82 _) hI bd_82_3 (fun v1 e_v1 l_v1 u_v1 => ?_)
  replace hE := zf_tr hE (zf_le e_v1)
  refine mm_g 1 (pc1 := 5) (lo1 := [some (.ref 82)]) (st1 := [.ref 82, .int (Int32.ofInt v1)]) (H1 := mz_mk g x) rfl ?_
  refine mz_gI rfl fd_7_28 (by decide) (sc_82 _) hI bd_82_5 (fun v2 e_v2 l_v2 u_v2 => ?_)
  replace hE := zf_tr hE (zf_le e_v2)
  refine mz_isub rfl ?_
  exact mm_rt rfl rfl (hQ _ (by omega) (by omega) hE)
theorem f_J0_coder {d : Nat} (hd : 1 ≤ d) {x : mm_X} (hx : mk_x x) {g : mz_G} (hI : mz_inv g) {q0 : Nat} (h_q0 : q0 < 28) {Q : (Option Value ⊕ Nat) → mm_H → Prop} (hQ : ∀ (r : Int), 0 ≤ r → r ≤ 0 → (r = 0) → zf_E (zF_J0_coder q0 g) (r) → Q (.inl (some (.int (Int32.ofInt r)))) (mz_mk g x)) : mm_C d 296 [.ref (1000 + q0)] (mz_mk g x) Q := by
  refine ⟨mmJ0_coder, [some (.ref (1000 + q0))], rfl, rfl, ?_⟩
  have hE : zf_E (zF_J0_coder q0 g) (zF_J0_coder q0 g) := zf_rf
  refine mz_gs0 rfl rfl ?_
  refine mz_if_eq (tgt := 13) rfl rfl ⟨by decide, by decide⟩ (fun c3_0 => ?_) (fun c3_0 => ?_)
  · exfalso; omega
  · skip
    replace hE := zf_in hE c3_0
    refine mm_g 1 (pc1 := 7) (lo1 := [some (.ref (1000 + q0))]) (st1 := [.ref (1000 + q0)]) (H1 := mz_mk g x) rfl ?_
    refine mz_sfc rfl rfl rfl (kc_str h_q0 _) ?_
    refine mz_gt (tgt := 14) rfl rfl ?_
    exact mz_rtZ rfl (by decide) (by omega) (hQ _ (by decide) (by decide) (by omega) hE)
theorem f_J0_length {d : Nat} (hd : 2 ≤ d) {x : mm_X} (hx : mk_x x) {g : mz_G} (hI : mz_inv g) {q0 : Nat} (h_q0 : q0 < 28) {Q : (Option Value ⊕ Nat) → mm_H → Prop} (hQ : ∀ (r : Int), 0 ≤ r → r ≤ 100 → (r = (mz_sl q0 : Int)) → zf_E (zF_J0_length q0 g) (r) → Q (.inl (some (.int (Int32.ofInt r)))) (mz_mk g x)) : mm_C d 294 [.ref (1000 + q0)] (mz_mk g x) Q := by
  refine ⟨mmJ0_length, [some (.ref (1000 + q0))], rfl, rfl, ?_⟩
  have hE : zf_E (zF_J0_length q0 g) (zF_J0_length q0 g) := zf_rf
  refine mm_g 1 (pc1 := 1) (lo1 := [some (.ref (1000 + q0))]) (st1 := [.ref (1000 + q0)]) (H1 := mz_mk g x) rfl ?_
  refine mz_sfv rfl rfl rfl (kc_str h_q0 _) ?_
  refine mz_al rfl (sb_sh h_q0 _) (by decide) ?_
  have ml := mz_sl_le h_q0
  refine mm_g 1 (pc1 := 6) (lo1 := [some (.ref (1000 + q0))]) (st1 := [.ref (1000 + q0), .int (Int32.ofInt ((mz_sl q0) : Int))]) (H1 := mz_mk g x) rfl ?_
  refine mz_cv rfl mt_16_335 (by decide) (kc_str h_q0 _) rfl (Nat.le_of_ble_eq_true rfl) (by omega) (f_J0_coder (by omega) hx hI h_q0 (fun v1 l_v1 u_v1 hp2 hc3 => ⟨_, rfl, ?_⟩))
  show mm_W d mmJ0_length 9 [some (.ref (1000 + q0))] [.int (Int32.ofInt v1), .int (Int32.ofInt ((mz_sl q0) : Int))] (mz_mk g x) Q
  replace hE := zf_t1 hE hc3
  refine mz_ishr rfl (fun v4 e_v4 hwv4 => ?_)
  have b_v4 : 0 ≤ v4 ∧ v4 ≤ 100 := by rw [e_v4]; exact mz_shr_b (by omega) (by omega) (by omega) (by omega)
  have l_v4 := b_v4.1
  have u_v4 := b_v4.2
  replace hE := zf_tr hE (zf_le e_v4.symm)
  exact mm_rt rfl rfl (hQ _ (by omega) (by omega) (by rw [e_v4]; exact mz_shr0 (by omega) (by omega) (by omega)) hE)
theorem f_J0_isLatin1 {d : Nat} (hd : 1 ≤ d) {x : mm_X} (hx : mk_x x) {g : mz_G} (hI : mz_inv g) {q0 : Nat} (h_q0 : q0 < 28) {Q : (Option Value ⊕ Nat) → mm_H → Prop} (hQ : ∀ (r : Int), 1 ≤ r → r ≤ 1 → (r = 1) → zf_E (zF_J0_isLatin1 q0 g) (r) → Q (.inl (some (.int (Int32.ofInt r)))) (mz_mk g x)) : mm_C d 297 [.ref (1000 + q0)] (mz_mk g x) Q := by
  refine ⟨mmJ0_isLatin1, [some (.ref (1000 + q0))], rfl, rfl, ?_⟩
  have hE : zf_E (zF_J0_isLatin1 q0 g) (zF_J0_isLatin1 q0 g) := zf_rf
  refine mz_gs0 rfl rfl ?_
  refine mz_if_eq (tgt := 17) rfl rfl ⟨by decide, by decide⟩ (fun c3_0 => ?_) (fun c3_0 => ?_)
  · exfalso; omega
  · skip
    (try unfold zJ_J0_isLatin1_17 at hE)
    (try unfold zJ_J0_isLatin1_17 at hE)
    replace hE := zf_in hE c3_0
    refine mm_g 1 (pc1 := 7) (lo1 := [some (.ref (1000 + q0))]) (st1 := [.ref (1000 + q0)]) (H1 := mz_mk g x) rfl ?_
    refine mz_sfc rfl rfl rfl (kc_str h_q0 _) ?_
    refine mz_if_ne (tgt := 17) rfl rfl ⟨by decide, by decide⟩ (fun c10_0 => ?_) (fun c10_0 => ?_)
    · exfalso; omega
    · skip
      (try unfold zJ_J0_isLatin1_17 at hE)
      (try unfold zJ_J0_isLatin1_17 at hE)
      replace hE := zf_ip hE c10_0
      refine mm_g 1 (pc1 := 14) (lo1 := [some (.ref (1000 + q0))]) (st1 := [.int (Int32.ofInt 1)]) (H1 := mz_mk g x) rfl ?_
      refine mz_gt (tgt := 18) rfl rfl ?_
      exact mz_rtZ rfl (by decide) (by omega) (hQ _ (by decide) (by decide) (by omega) hE)
theorem f_J3_checkIndex {d : Nat} (hd : 1 ≤ d) {x : mm_X} (hx : mk_x x) {g : mz_G} (hI : mz_inv g) {a1 : Int} (l_a1 : (-2147483648) ≤ a1) (u_a1 : a1 ≤ 2147483647) {a2 : Int} (l_a2 : (-2147483648) ≤ a2) (u_a2 : a2 ≤ 2147483647) {q3 : Value} (h_q3 : mm_long q3 = false) (p1 : 0 ≤ a1 ∧ a1 < a2) {Q : (Option Value ⊕ Nat) → mm_H → Prop} (hQ : ∀ (r : Int), 0 ≤ r → r ≤ 2147483646 → zf_E (zF_J3_checkIndex a1 a2 g) (r) → Q (.inl (some (.int (Int32.ofInt r)))) (mz_mk g x)) : mm_C d 300 [.int (Int32.ofInt a1), .int (Int32.ofInt a2), q3] (mz_mk g x) Q := by
  refine ⟨mmJ3_checkIndex, [some (.int (Int32.ofInt a1)), some (.int (Int32.ofInt a2)), some (q3)], rfl, (by simp only [mm_enter, mm_slots, mm_pad, h_q3]; rfl), ?_⟩
  have hE : zf_E (zF_J3_checkIndex a1 a2 g) (zF_J3_checkIndex a1 a2 g) := zf_rf
  refine mm_g 1 (pc1 := 1) (lo1 := [some (.int (Int32.ofInt a1)), some (.int (Int32.ofInt a2)), some (q3)]) (st1 := [.int (Int32.ofInt a1)]) (H1 := mz_mk g x) rfl ?_
  refine mz_if_lt (tgt := 9) rfl rfl (mz_rg l_a1 u_a1) (fun c1_0 => ?_) (fun c1_0 => ?_)
  · exfalso; omega
  · skip
    replace hE := zf_nl hE c1_0
    refine mm_g 2 (pc1 := 6) (lo1 := [some (.int (Int32.ofInt a1)), some (.int (Int32.ofInt a2)), some (q3)]) (st1 := [.int (Int32.ofInt a2), .int (Int32.ofInt a1)]) (H1 := mz_mk g x) rfl ?_
    refine mz_ic_lt (tgt := 16) rfl rfl (mz_rg l_a1 u_a1) (mz_rg l_a2 u_a2) (fun c6_0 => ?_) (fun c6_0 => ?_)
    · skip
      replace hE := zf_ip hE c6_0
      refine mm_g 1 (pc1 := 17) (lo1 := [some (.int (Int32.ofInt a1)), some (.int (Int32.ofInt a2)), some (q3)]) (st1 := [.int (Int32.ofInt a1)]) (H1 := mz_mk g x) rfl ?_
      exact mm_rt rfl rfl (hQ _ (by omega) (by omega) hE)
    · exfalso; omega
theorem f_J0_checkIndex {d : Nat} (hd : 2 ≤ d) {x : mm_X} (hx : mk_x x) {g : mz_G} (hI : mz_inv g) {a1 : Int} (l_a1 : (-2147483648) ≤ a1) (u_a1 : a1 ≤ 2147483647) {a2 : Int} (l_a2 : (-2147483648) ≤ a2) (u_a2 : a2 ≤ 2147483647) (p1 : 0 ≤ a1 ∧ a1 < a2) {Q : (Option Value ⊕ Nat) → mm_H → Prop} (hQ : zf_E (zF_J0_checkIndex a1 a2 g) (g) → Q (.inl none) (mz_mk g x)) : mm_C d 298 [.int (Int32.ofInt a1), .int (Int32.ofInt a2)] (mz_mk g x) Q := by
  refine ⟨mmJ0_checkIndex, [some (.int (Int32.ofInt a1)), some (.int (Int32.ofInt a2))], rfl, rfl, ?_⟩
  have hE : zf_E (zF_J0_checkIndex a1 a2 g) (zF_J0_checkIndex a1 a2 g) := zf_rf
  refine mm_g 2 (pc1 := 2) (lo1 := [some (.int (Int32.ofInt a1)), some (.int (Int32.ofInt a2))]) (st1 := [.int (Int32.ofInt a2), .int (Int32.ofInt a1)]) (H1 := mz_mk g x) rfl ?_
  refine mz_gs1 rfl rfl ?_
  refine mz_cs rfl mt_16_1059 (by decide) rfl (Nat.le_of_ble_eq_true rfl) (by omega) (f_J3_checkIndex (by omega) hx hI l_a1 u_a1 l_a2 u_a2 (mz_lrf _) (by omega) (fun v1 l_v1 u_v1 hc2 => ⟨_, rfl, ?_⟩))
  show mm_W d mmJ0_checkIndex 8 [some (.int (Int32.ofInt a1)), some (.int (Int32.ofInt a2))] [.int (Int32.ofInt v1)] (mz_mk g x) Q
  replace hE := zf_t1 hE hc2
  refine mm_g 1 (pc1 := 9) (lo1 := [some (.int (Int32.ofInt a1)), some (.int (Int32.ofInt a2))]) (st1 := []) (H1 := mz_mk g x) rfl ?_
  exact mm_rt rfl rfl (hQ hE)
theorem f_J1_charAt {d : Nat} (hd : 3 ≤ d) {x : mm_X} (hx : mk_x x) {g : mz_G} (hI : mz_inv g) {q1 : Nat} (h_q1 : q1 < 28) {a2 : Int} (l_a2 : (-2147483648) ≤ a2) (u_a2 : a2 ≤ 2147483647) (p1 : 0 ≤ a2 ∧ a2 < (mz_sl q1 : Int)) {Q : (Option Value ⊕ Nat) → mm_H → Prop} (hQ : ∀ (r : Int), 0 ≤ r → r ≤ 255 → zf_E (zF_J1_charAt q1 a2 g) (r) → Q (.inl (some (.int (Int32.ofInt r)))) (mz_mk g x)) : mm_C d 299 [.ref ((1000 + q1) + 1000), .int (Int32.ofInt a2)] (mz_mk g x) Q := by
  refine ⟨mmJ1_charAt, [some (.ref ((1000 + q1) + 1000)), some (.int (Int32.ofInt a2))], rfl, rfl, ?_⟩
  have hE : zf_E (zF_J1_charAt q1 a2 g) (zF_J1_charAt q1 a2 g) := zf_rf
  refine mm_g 2 (pc1 := 2) (lo1 := [some (.ref ((1000 + q1) + 1000)), some (.int (Int32.ofInt a2))]) (st1 := [.ref ((1000 + q1) + 1000), .int (Int32.ofInt a2)]) (H1 := mz_mk g x) rfl ?_
  refine mz_al rfl (sb_sh h_q1 _) (by decide) ?_
  have ml := mz_sl_le h_q1
  refine mz_cs rfl mt_17_9 (by decide) rfl (Nat.le_of_ble_eq_true rfl) (by omega) (f_J0_checkIndex (by omega) hx hI l_a2 u_a2 (by omega) (by omega) (by omega) (fun hc1 => ⟨_, rfl, ?_⟩))
  show mm_W d mmJ1_charAt 6 [some (.ref ((1000 + q1) + 1000)), some (.int (Int32.ofInt a2))] [] (mz_mk g x) Q
  replace hE := zf_t1 hE hc1
  refine mm_g 2 (pc1 := 8) (lo1 := [some (.ref ((1000 + q1) + 1000)), some (.int (Int32.ofInt a2))]) (st1 := [.int (Int32.ofInt a2), .ref ((1000 + q1) + 1000)]) (H1 := mz_mk g x) rfl ?_
  have ml := mz_sl_le h_q1
  refine mz_bI rfl (sb_sh h_q1 _) (Or.inr rfl) (by omega) (by omega) (by omega) hI (sb_bd _ _) (fun v2 e_v2 l_v2 u_v2 => ?_)
  replace hE := zf_tr hE (zf_le e_v2)
  refine mz_sip rfl sip_255 ?_
  refine mz_iand rfl (fun v3 e_v3 hwv3 => ?_)
  have b_v3 : 0 ≤ v3 ∧ v3 ≤ 255 := by rw [e_v3]; exact mz_and_r (by omega) (by omega) (mz_rg l_v2 u_v2)
  have l_v3 := b_v3.1
  have u_v3 := b_v3.2
  replace hE := zf_tr hE (zf_le e_v3.symm)
  refine mz_i2c rfl (by omega) (by omega) ?_
  exact mz_rtC rfl rfl (by omega) (by omega) (hQ _ (by omega) (by omega) hE)
theorem f_J0_charAt {d : Nat} (hd : 4 ≤ d) {x : mm_X} (hx : mk_x x) {g : mz_G} (hI : mz_inv g) {q0 : Nat} (h_q0 : q0 < 28) {a1 : Int} (l_a1 : (-2147483648) ≤ a1) (u_a1 : a1 ≤ 2147483647) (p1 : 0 ≤ a1 ∧ a1 < (mz_sl q0 : Int)) {Q : (Option Value ⊕ Nat) → mm_H → Prop} (hQ : ∀ (r : Int), 0 ≤ r → r ≤ 255 → zf_E (zF_J0_charAt q0 a1 g) (r) → Q (.inl (some (.int (Int32.ofInt r)))) (mz_mk g x)) : mm_C d 295 [.ref (1000 + q0), .int (Int32.ofInt a1)] (mz_mk g x) Q := by
  refine ⟨mmJ0_charAt, [some (.ref (1000 + q0)), some (.int (Int32.ofInt a1))], rfl, rfl, ?_⟩
  have hE : zf_E (zF_J0_charAt q0 a1 g) (zF_J0_charAt q0 a1 g) := zf_rf
  refine mm_g 1 (pc1 := 1) (lo1 := [some (.ref (1000 + q0)), some (.int (Int32.ofInt a1))]) (st1 := [.ref (1000 + q0)]) (H1 := mz_mk g x) rfl ?_
  refine mz_cv rfl mt_16_492 (by decide) (kc_str h_q0 _) rfl (Nat.le_of_ble_eq_true rfl) (by omega) (f_J0_isLatin1 (by omega) hx hI h_q0 (fun v1 l_v1 u_v1 hp2 hc3 => ⟨_, rfl, ?_⟩))
  show mm_W d mmJ0_charAt 4 [some (.ref (1000 + q0)), some (.int (Int32.ofInt a1))] [.int (Int32.ofInt v1)] (mz_mk g x) Q
  replace hE := zf_t1 hE hc3
  refine mz_if_eq (tgt := 16) rfl rfl (mz_rg l_v1 u_v1) (fun c4_3 => ?_) (fun c4_3 => ?_)
  · exfalso; omega
  · skip
    replace hE := zf_in hE c4_3
    refine mm_g 1 (pc1 := 8) (lo1 := [some (.ref (1000 + q0)), some (.int (Int32.ofInt a1))]) (st1 := [.ref (1000 + q0)]) (H1 := mz_mk g x) rfl ?_
    refine mz_sfv rfl rfl rfl (kc_str h_q0 _) ?_
    refine mm_g 1 (pc1 := 12) (lo1 := [some (.ref (1000 + q0)), some (.int (Int32.ofInt a1))]) (st1 := [.int (Int32.ofInt a1), .ref ((1000 + q0) + 1000)]) (H1 := mz_mk g x) rfl ?_
    refine mz_cs rfl mt_16_495 (by decide) rfl (Nat.le_of_ble_eq_true rfl) (by omega) (f_J1_charAt (by omega) hx hI h_q0 l_a1 u_a1 (by omega) (fun v4 l_v4 u_v4 hc5 => ⟨_, rfl, ?_⟩))
    show mm_W d mmJ0_charAt 15 [some (.ref (1000 + q0)), some (.int (Int32.ofInt a1))] [.int (Int32.ofInt v4)] (mz_mk g x) Q
    replace hE := zf_t1 hE hc5
    exact mz_rtC rfl rfl (by omega) (by omega) (hQ _ (by omega) (by omega) hE)
theorem f_X7_spells {d : Nat} (hd : 5 ≤ d) {x : mm_X} (hx : mk_x x) {g : mz_G} (hI : mz_inv g) {q1 : Nat} (h_q1 : q1 < 28) {Q : (Option Value ⊕ Nat) → mm_H → Prop} (hQ : ∀ (r : Int), 0 ≤ r → r ≤ 1 → zf_E (zF_X7_spells q1 g) (r) → Q (.inl (some (.int (Int32.ofInt r)))) (mz_mk g x)) : mm_C d 92 [.ref 82, .ref (1000 + q1)] (mz_mk g x) Q := by
  refine ⟨mmX7_spells, [some (.ref 82), some (.ref (1000 + q1)), none], rfl, rfl, ?_⟩
  have hE : zf_E (zF_X7_spells q1 g) (zF_X7_spells q1 g) := zf_rf
  refine mm_g 1 (pc1 := 1) (lo1 := [some (.ref 82), some (.ref (1000 + q1)), none]) (st1 := [.ref 82]) (H1 := mz_mk g x) rfl ?_
  refine mz_gI rfl fd_7_25 (by decide) (sc_82 _) hI bd_82_4 (fun v1 e_v1 l_v1 u_v1 => ?_)
  replace hE := zf_tr hE (zf_le e_v1)
  refine mm_g 1 (pc1 := 5) (lo1 := [some (.ref 82), some (.ref (1000 + q1)), none]) (st1 := [.int (Int32.ofInt 1), .int (Int32.ofInt v1)]) (H1 := mz_mk g x) rfl ?_
  refine mz_ic_ne (tgt := 19) rfl rfl (mz_rg l_v1 u_v1) ⟨by decide, by decide⟩ (fun c5_1 => ?_) (fun c5_1 => ?_)
  · skip
    replace hE := zf_in hE c5_1
    refine mm_g 1 (pc1 := 20) (lo1 := [some (.ref 82), some (.ref (1000 + q1)), none]) (st1 := [.int (Int32.ofInt 0)]) (H1 := mz_mk g x) rfl ?_
    exact mz_rtZ rfl (by decide) (by omega) (hQ _ (by decide) (by decide) hE)
  · skip
    replace hE := zf_ip hE c5_1
    refine mm_g 1 (pc1 := 9) (lo1 := [some (.ref 82), some (.ref (1000 + q1)), none]) (st1 := [.ref 82]) (H1 := mz_mk g x) rfl ?_
    refine mz_cv rfl mt_7_57 (by decide) (sc_82 _) rfl (Nat.le_of_ble_eq_true rfl) (by omega) (f_X7_tokenSize (by omega) hx hI (fun v2 l_v2 u_v2 hc3 => ⟨_, rfl, ?_⟩))
    show mm_W d mmX7_spells 12 [some (.ref 82), some (.ref (1000 + q1)), none] [.int (Int32.ofInt v2)] (mz_mk g x) Q
    replace hE := zf_t1 hE hc3
    refine mm_g 1 (pc1 := 13) (lo1 := [some (.ref 82), some (.ref (1000 + q1)), none]) (st1 := [.ref (1000 + q1), .int (Int32.ofInt v2)]) (H1 := mz_mk g x) rfl ?_
    refine mz_cv rfl mt_7_61 (by decide) (kc_str h_q1 _) rfl (Nat.le_of_ble_eq_true rfl) (by omega) (f_J0_length (by omega) hx hI h_q1 (fun v4 l_v4 u_v4 hp5 hc6 => ⟨_, rfl, ?_⟩))
    show mm_W d mmX7_spells 16 [some (.ref 82), some (.ref (1000 + q1)), none] [.int (Int32.ofInt v4), .int (Int32.ofInt v2)] (mz_mk g x) Q
    replace hE := zf_t1 hE hc6
    refine mz_ic_eq (tgt := 21) rfl rfl (mz_rg l_v2 u_v2) (mz_rg l_v4 u_v4) (fun c16_6 => ?_) (fun c16_6 => ?_)
    · skip
      replace hE := zf_ip hE c16_6
      refine mm_g 2 (pc1 := 23) (lo1 := [some (.ref 82), some (.ref (1000 + q1)), some (.int (Int32.ofInt 0))]) (st1 := []) (H1 := mz_mk g x) rfl ?_
      have L11 : ∀ n10 : Nat, ∀ (v7 : Int), (100 - v7).toNat = n10 → 0 ≤ v7 → v7 ≤ 100 → (∃ fk : Nat, (100 - v7).toNat < fk ∧ zf_E (zF_X7_spells q1 g) (zL_X7_spells_23 q1 g fk v7)) → mm_W d mmX7_spells 23 [some (.ref 82), some (.ref (1000 + q1)), some (.int (Int32.ofInt v7))] [] (mz_mk g x) Q := by
        intro n10
        induction n10 using Nat.strongRecOn with
        | ind n10 ih9 =>
        intro v7 hmn10 l_v7 u_v7 hF
        obtain ⟨fk, fl, hE⟩ := hF
        obtain ⟨fj12, rfl⟩ : ∃ fj, fk = fj + 1 := ⟨fk - 1, by omega⟩
        have fn13 : n10 ≤ fj12 := by omega
        replace hE := zf_tr hE zL_X7_spells_23_s
        refine mm_g 2 (pc1 := 25) (lo1 := [some (.ref 82), some (.ref (1000 + q1)), some (.int (Int32.ofInt v7))]) (st1 := [.ref (1000 + q1), .int (Int32.ofInt v7)]) (H1 := mz_mk g x) rfl ?_
        refine mz_cv rfl mt_7_61 (by decide) (kc_str h_q1 _) rfl (Nat.le_of_ble_eq_true rfl) (by omega) (f_J0_length (by omega) hx hI h_q1 (fun v14 l_v14 u_v14 hp15 hc16 => ⟨_, rfl, ?_⟩))
        show mm_W d mmX7_spells 28 [some (.ref 82), some (.ref (1000 + q1)), some (.int (Int32.ofInt v7))] [.int (Int32.ofInt v14), .int (Int32.ofInt v7)] (mz_mk g x) Q
        replace hE := zf_t1 hE hc16
        refine mz_ic_ge (tgt := 57) rfl rfl (mz_rg l_v7 u_v7) (mz_rg l_v14 u_v14) (fun c28_16 => ?_) (fun c28_16 => ?_)
        · skip
          replace hE := zf_nl hE c28_16
          refine mm_g 1 (pc1 := 58) (lo1 := [some (.ref 82), some (.ref (1000 + q1)), some (.int (Int32.ofInt v7))]) (st1 := [.int (Int32.ofInt 1)]) (H1 := mz_mk g x) rfl ?_
          exact mz_rtZ rfl (by decide) (by omega) (hQ _ (by decide) (by decide) hE)
        · skip
          replace hE := zf_ip hE c28_16
          refine mm_g 2 (pc1 := 33) (lo1 := [some (.ref 82), some (.ref (1000 + q1)), some (.int (Int32.ofInt v7))]) (st1 := [.ref 82, .ref 82]) (H1 := mz_mk g x) rfl ?_
          refine mz_gI rfl fd_7_28 (by decide) (sc_82 _) hI bd_82_5 (fun v17 e_v17 l_v17 u_v17 => ?_)
          replace hE := zf_tr hE (zf_le e_v17)
          refine mm_g 1 (pc1 := 37) (lo1 := [some (.ref 82), some (.ref (1000 + q1)), some (.int (Int32.ofInt v7))]) (st1 := [.int (Int32.ofInt v7), .int (Int32.ofInt v17), .ref 82]) (H1 := mz_mk g x) rfl ?_
          refine mz_iadd rfl ?_
          refine mz_cv rfl mt_7_37 (by decide) (sc_82 _) rfl (Nat.le_of_ble_eq_true rfl) (by omega) (f_X7_byteAt (by omega) hx hI (by omega) (by omega) (fun v18 l_v18 u_v18 hc19 => ⟨_, rfl, ?_⟩))
          show mm_W d mmX7_spells 41 [some (.ref 82), some (.ref (1000 + q1)), some (.int (Int32.ofInt v7))] [.int (Int32.ofInt v18)] (mz_mk g x) Q
          replace hE := zf_t1 hE hc19
          refine mm_g 2 (pc1 := 43) (lo1 := [some (.ref 82), some (.ref (1000 + q1)), some (.int (Int32.ofInt v7))]) (st1 := [.int (Int32.ofInt v7), .ref (1000 + q1), .int (Int32.ofInt v18)]) (H1 := mz_mk g x) rfl ?_
          refine mz_cv rfl mt_7_65 (by decide) (kc_str h_q1 _) rfl (Nat.le_of_ble_eq_true rfl) (by omega) (f_J0_charAt (by omega) hx hI h_q1 (by omega) (by omega) (by omega) (fun v20 l_v20 u_v20 hc21 => ⟨_, rfl, ?_⟩))
          show mm_W d mmX7_spells 46 [some (.ref 82), some (.ref (1000 + q1)), some (.int (Int32.ofInt v7))] [.int (Int32.ofInt v20), .int (Int32.ofInt v18)] (mz_mk g x) Q
          replace hE := zf_t1 hE hc21
          refine mz_ic_eq (tgt := 51) rfl rfl (mz_rg l_v18 u_v18) (mz_rg l_v20 u_v20) (fun c46_21 => ?_) (fun c46_21 => ?_)
          · skip
            replace hE := zf_ip hE c46_21
            refine mz_iincR (v := v7) (lo2 := [some (.ref 82), some (.ref (1000 + q1)), some (.int (Int32.ofInt (v7 + 1)))]) rfl rfl rfl (Nat.le_of_ble_eq_true rfl) rfl ?_
            refine mz_gt (tgt := 23) rfl rfl ?_
            exact ih9 ((100 - (v7 + 1)).toNat) (by omega) (v7 + 1) rfl (by omega) (by omega) ⟨fj12, Nat.lt_of_lt_of_le (show ((100 - (v7 + 1)).toNat) < n10 from (by omega)) fn13, hE⟩
          · skip
            replace hE := zf_in hE c46_21
            refine mm_g 1 (pc1 := 50) (lo1 := [some (.ref 82), some (.ref (1000 + q1)), some (.int (Int32.ofInt v7))]) (st1 := [.int (Int32.ofInt 0)]) (H1 := mz_mk g x) rfl ?_
            exact mz_rtZ rfl (by decide) (by omega) (hQ _ (by decide) (by decide) hE)
      exact L11 _ 0 rfl (by decide) (by decide) ⟨3000000000, by omega, hE⟩
    · skip
      replace hE := zf_in hE c16_6
      refine mm_g 1 (pc1 := 20) (lo1 := [some (.ref 82), some (.ref (1000 + q1)), none]) (st1 := [.int (Int32.ofInt 0)]) (H1 := mz_mk g x) rfl ?_
      exact mz_rtZ rfl (by decide) (by omega) (hQ _ (by decide) (by decide) hE)
theorem f_X10_many {d : Nat} (hd : 1 ≤ d) {x : mm_X} (hx : mk_x x) {g : mz_G} (hI : mz_inv g) {q0 : Nat} (h_q0 : kd_words q0) {Q : (Option Value ⊕ Nat) → mm_H → Prop} (hQ : ∀ (r : Int), 0 ≤ r → r ≤ 8 → zf_E (zF_X10_many q0 g) (r) → Q (.inl (some (.int (Int32.ofInt r)))) (mz_mk g x)) : mm_C d 106 [.ref q0] (mz_mk g x) Q := by
  have kn_q0 := kn_words h_q0
  refine ⟨mmX10_many, [some (.ref q0)], rfl, rfl, ?_⟩
  have hE : zf_E (zF_X10_many q0 g) (zF_X10_many q0 g) := zf_rf
  refine mm_g 1 (pc1 := 1) (lo1 := [some (.ref q0)]) (st1 := [.ref q0]) (H1 := mz_mk g x) rfl ?_
  refine mz_gI rfl fd_10_28 (by decide) (kc_words h_q0 _) hI (kb_words_3 h_q0) (fun v1 e_v1 l_v1 u_v1 => ?_)
  replace hE := zf_tr hE (zf_le e_v1)
  exact mm_rt rfl rfl (hQ _ (by omega) (by omega) hE)
theorem f_X7_start {d : Nat} (hd : 1 ≤ d) {x : mm_X} (hx : mk_x x) {g : mz_G} (hI : mz_inv g) {Q : (Option Value ⊕ Nat) → mm_H → Prop} (hQ : ∀ (r : Int), 0 ≤ r → r ≤ 700 → zf_E (zF_X7_start g) (r) → Q (.inl (some (.int (Int32.ofInt r)))) (mz_mk g x)) : mm_C d 89 [.ref 82] (mz_mk g x) Q := by
  refine ⟨mmX7_start, [some (.ref 82)], rfl, rfl, ?_⟩
  have hE : zf_E (zF_X7_start g) (zF_X7_start g) := zf_rf
  refine mm_g 1 (pc1 := 1) (lo1 := [some (.ref 82)]) (st1 := [.ref 82]) (H1 := mz_mk g x) rfl ?_
  refine mz_gI rfl fd_7_28 (by decide) (sc_82 _) hI bd_82_5 (fun v1 e_v1 l_v1 u_v1 => ?_)
  replace hE := zf_tr hE (zf_le e_v1)
  exact mm_rt rfl rfl (hQ _ (by omega) (by omega) hE)
def fw_X4_blame (x : mm_X) (a1 : Int) : Nat → Nat → Prop := fun k j => (k = 81 ∧ j = 1) ∨ (k = 81 ∧ j = 2)
theorem f_X4_blame {d : Nat} (hd : 2 ≤ d) {x : mm_X} (hx : mk_x x) {g : mz_G} (hI : mz_inv g) {a1 : Int} (l_a1 : (-2147483648) ≤ a1) (u_a1 : a1 ≤ 2147483647) {Q : (Option Value ⊕ Nat) → mm_H → Prop} (hQ : ∀ (r : Int) (g1 : mz_G), mz_inv g1 → mz_fr (fw_X4_blame x a1) g g1 → 0 ≤ r → r ≤ 0 → zf_E (zF_X4_blame a1 g) ((r, g1)) → Q (.inl (some (.int (Int32.ofInt r)))) (mz_mk g1 x)) : mm_C d 40 [.ref 81, .int (Int32.ofInt a1)] (mz_mk g x) Q := by
  refine ⟨mmX4_blame, [some (.ref 81), some (.int (Int32.ofInt a1))], rfl, rfl, ?_⟩
  have hE : zf_E (zF_X4_blame a1 g) (zF_X4_blame a1 g) := zf_rf
  refine mm_g 2 (pc1 := 2) (lo1 := [some (.ref 81), some (.int (Int32.ofInt a1))]) (st1 := [.int (Int32.ofInt a1), .ref 81]) (H1 := mz_mk g x) rfl ?_
  refine mz_pI rfl fd_4_18 (sc_81 _) hI bd_81_1 (by omega) (by omega) (fun g1 hIg1 hug1 => ?_)
  replace hE := zf_tr hE (zf_lg hug1)
  refine mm_g 2 (pc1 := 7) (lo1 := [some (.ref 81), some (.int (Int32.ofInt a1))]) (st1 := [.ref 81, .ref 81]) (H1 := mz_mk g1 x) rfl ?_
  refine mz_fgR (v := 82) rfl fd_4_12 (by decide) (sc_81 _) (rf_81_0 _ _ _) ?_
  refine mz_cv rfl mt_4_52 (by decide) (sc_82 _) rfl (Nat.le_of_ble_eq_true rfl) (by omega) (f_X7_start (by omega) hx hIg1 (fun v2 l_v2 u_v2 hc3 => ⟨_, rfl, ?_⟩))
  show mm_W d mmX4_blame 13 [some (.ref 81), some (.int (Int32.ofInt a1))] [.int (Int32.ofInt v2), .ref 81] (mz_mk g1 x) Q
  replace hE := zf_t1 hE hc3
  refine mz_pI rfl fd_4_22 (sc_81 _) hIg1 bd_81_2 (by omega) (by omega) (fun g4 hIg4 hug4 => ?_)
  replace hE := zf_tr hE (zf_lg hug4)
  refine mm_g 1 (pc1 := 17) (lo1 := [some (.ref 81), some (.int (Int32.ofInt a1))]) (st1 := [.int (Int32.ofInt 0)]) (H1 := mz_mk g4 x) rfl ?_
  exact mz_rtZ rfl (by decide) (by omega) (hQ _ _ hIg4 (fun k j hk => ((hug4.2 k j (fun h => hk (Or.inr h))).trans (hug1.2 k j (fun h => hk (Or.inl h))))) (by decide) (by decide) hE)
theorem f_X10_of {d : Nat} (hd : 1 ≤ d) {x : mm_X} (hx : mk_x x) {g : mz_G} (hI : mz_inv g) {q0 : Nat} (h_q0 : kd_words q0) {a1 : Int} (l_a1 : (-2147483648) ≤ a1) (u_a1 : a1 ≤ 2147483647) {Q : (Option Value ⊕ Nat) → mm_H → Prop} (hQ : ∀ (r : Nat), kd_let r → (q0 + 2 ≤ r ∧ r ≤ q0 + 23) → zf_E (zF_X10_of q0 a1 g) (r) → Q (.inl (some (.ref r))) (mz_mk g x)) : mm_C d 107 [.ref q0, .int (Int32.ofInt a1)] (mz_mk g x) Q := by
  have kn_q0 := kn_words h_q0
  refine ⟨mmX10_of, [some (.ref q0), some (.int (Int32.ofInt a1))], rfl, rfl, ?_⟩
  have hE : zf_E (zF_X10_of q0 a1 g) (zF_X10_of q0 a1 g) := zf_rf
  refine mm_g 1 (pc1 := 1) (lo1 := [some (.ref q0), some (.int (Int32.ofInt a1))]) (st1 := [.int (Int32.ofInt a1)]) (H1 := mz_mk g x) rfl ?_
  refine mz_if_lt (tgt := 22) rfl rfl (mz_rg l_a1 u_a1) (fun c1_0 => ?_) (fun c1_0 => ?_)
  · skip
    replace hE := zf_ip hE c1_0
    refine mm_g 1 (pc1 := 23) (lo1 := [some (.ref q0), some (.int (Int32.ofInt a1))]) (st1 := [.ref q0]) (H1 := mz_mk g x) rfl ?_
    refine mz_fgR (v := (q0 + 2)) rfl fd_10_20 (by decide) (kc_words h_q0 _) (kr_words_1 h_q0 _ _ _) ?_
    exact mm_rt rfl rfl (hQ _ (ks_words_1 h_q0) (by omega) hE)
  · skip
    replace hE := zf_nl hE c1_0
    refine mm_g 2 (pc1 := 6) (lo1 := [some (.ref q0), some (.int (Int32.ofInt a1))]) (st1 := [.ref q0, .int (Int32.ofInt a1)]) (H1 := mz_mk g x) rfl ?_
    refine mz_fgR (v := (q0 + 1)) rfl fd_10_11 (by decide) (kc_words h_q0 _) (kr_words_0 h_q0 _ _ _) ?_
    refine mz_al rfl (ka_words_0 h_q0 _) (by decide) ?_
    refine mz_ic_ge (tgt := 22) rfl rfl (mz_rg l_a1 u_a1) ⟨by omega, by omega⟩ (fun c10_0 => ?_) (fun c10_0 => ?_)
    · skip
      replace hE := zf_nl hE c10_0
      refine mm_g 1 (pc1 := 23) (lo1 := [some (.ref q0), some (.int (Int32.ofInt a1))]) (st1 := [.ref q0]) (H1 := mz_mk g x) rfl ?_
      refine mz_fgR (v := (q0 + 2)) rfl fd_10_20 (by decide) (kc_words h_q0 _) (kr_words_1 h_q0 _ _ _) ?_
      exact mm_rt rfl rfl (hQ _ (ks_words_1 h_q0) (by omega) hE)
    · skip
      replace hE := zf_ip hE c10_0
      refine mm_g 1 (pc1 := 14) (lo1 := [some (.ref q0), some (.int (Int32.ofInt a1))]) (st1 := [.ref q0]) (H1 := mz_mk g x) rfl ?_
      refine mz_fgR (v := (q0 + 1)) rfl fd_10_11 (by decide) (kc_words h_q0 _) (kr_words_0 h_q0 _ _ _) ?_
      refine mm_g 1 (pc1 := 18) (lo1 := [some (.ref q0), some (.int (Int32.ofInt a1))]) (st1 := [.int (Int32.ofInt a1), .ref (q0 + 1)]) (H1 := mz_mk g x) rfl ?_
      obtain ⟨u1, e_u1, k_u1, r1_u1, r2_u1⟩ := kw_words x h_q0 (a := a1) (by omega) (by omega)
      refine mz_aa rfl (ka_words_0 h_q0 _) (by decide) (by omega) (by omega) (by decide) e_u1 ?_
      replace hE := zf_tr hE (zf_le (zf_words x h_q0 (by omega) (by omega) e_u1))
      refine mz_nn (tgt := 27) rfl rfl ?_
      refine mm_g 1 (pc1 := 28) (lo1 := [some (.ref q0), some (.int (Int32.ofInt a1))]) (st1 := [.ref q0]) (H1 := mz_mk g x) rfl ?_
      refine mz_fgR (v := (q0 + 1)) rfl fd_10_11 (by decide) (kc_words h_q0 _) (kr_words_0 h_q0 _ _ _) ?_
      refine mm_g 1 (pc1 := 32) (lo1 := [some (.ref q0), some (.int (Int32.ofInt a1))]) (st1 := [.int (Int32.ofInt a1), .ref (q0 + 1)]) (H1 := mz_mk g x) rfl ?_
      obtain ⟨u2, e_u2, k_u2, r1_u2, r2_u2⟩ := kw_words x h_q0 (a := a1) (by omega) (by omega)
      refine mz_aa rfl (ka_words_0 h_q0 _) (by decide) (by omega) (by omega) (by decide) e_u2 ?_
      replace hE := zf_tr hE (zf_le (zf_words x h_q0 (by omega) (by omega) e_u2))
      exact mm_rt rfl rfl (hQ _ k_u2 (by omega) hE)
def fw_X0_empty (x : mm_X) (q0 : Nat) : Nat → Nat → Prop := fun k j => k = q0
theorem f_X0_empty {d : Nat} (hd : 1 ≤ d) {x : mm_X} (hx : mk_x x) {g : mz_G} (hI : mz_inv g) {q0 : Nat} (h_q0 : kd_let q0) {Q : (Option Value ⊕ Nat) → mm_H → Prop} (hQ : ∀ (g1 : mz_G), mz_inv g1 → mz_fr (fw_X0_empty x q0) g g1 → zf_E (zF_X0_empty q0 g) (g1) → Q (.inl none) (mz_mk g1 x)) : mm_C d 1 [.ref q0] (mz_mk g x) Q := by
  have kn_q0 := kn_let h_q0
  refine ⟨mmX0_empty, [some (.ref q0)], rfl, rfl, ?_⟩
  have hE : zf_E (zF_X0_empty q0 g) (zF_X0_empty q0 g) := zf_rf
  refine mm_g 2 (pc1 := 2) (lo1 := [some (.ref q0)]) (st1 := [.int (Int32.ofInt 0), .ref q0]) (H1 := mz_mk g x) rfl ?_
  refine mz_pI rfl fd_0_7 (kc_let h_q0 _) hI (kb_let_1 h_q0) (by omega) (by omega) (fun g1 hIg1 hug1 => ?_)
  replace hE := zf_tr hE (zf_lg hug1)
  exact mm_rt rfl rfl (hQ _ hIg1 (fun k j hk => (hug1.2 k j (fun h => hk h.1))) hE)
def fw_X11_put (x : mm_X) (q1 : Nat) (a2 : Int) (a3 : Int) : Nat → Nat → Prop := fun k j => k = q1
theorem f_X11_put {d : Nat} (hd : 1 ≤ d) {x : mm_X} (hx : mk_x x) {g : mz_G} (hI : mz_inv g) {q1 n_q1 : Nat} {lb_q1 ub_q1 : Int} (h_q1 : mm_SH x.2.2.2.1 q1 = (100, n_q1)) (m_q1 : n_q1 ≤ 2048) (b_q1 : ∀ j, mz_bd q1 j = (lb_q1, ub_q1)) (y_q1 : lb_q1 ≤ 0) (z_q1 : 0 ≤ ub_q1) {a2 : Int} (l_a2 : (-2147483648) ≤ a2) (u_a2 : a2 ≤ 2147483647) {a3 : Int} (l_a3 : (-2147483648) ≤ a3) (u_a3 : a3 ≤ 2147483647) (p1 : lb_q1 ≤ a3) (p2 : a3 ≤ ub_q1) {Q : (Option Value ⊕ Nat) → mm_H → Prop} (hQ : ∀ (g1 : mz_G), mz_inv g1 → mz_fr (fw_X11_put x q1 a2 a3) g g1 → zf_E (zF_X11_put q1 n_q1 a2 a3 g) (g1) → Q (.inl none) (mz_mk g1 x)) : mm_C d 177 [.ref q1, .int (Int32.ofInt a2), .int (Int32.ofInt a3)] (mz_mk g x) Q := by
  have kx := kn_x hx
  refine ⟨mmX11_put, [some (.ref q1), some (.int (Int32.ofInt a2)), some (.int (Int32.ofInt a3))], rfl, rfl, ?_⟩
  have hE : zf_E (zF_X11_put q1 n_q1 a2 a3 g) (zF_X11_put q1 n_q1 a2 a3 g) := zf_rf
  refine mm_g 1 (pc1 := 1) (lo1 := [some (.ref q1), some (.int (Int32.ofInt a2)), some (.int (Int32.ofInt a3))]) (st1 := [.ref q1]) (H1 := mz_mk g x) rfl ?_
  refine mz_nu rfl ?_
  refine mm_g 1 (pc1 := 5) (lo1 := [some (.ref q1), some (.int (Int32.ofInt a2)), some (.int (Int32.ofInt a3))]) (st1 := [.int (Int32.ofInt a2)]) (H1 := mz_mk g x) rfl ?_
  refine mz_if_lt (tgt := 18) rfl rfl (mz_rg l_a2 u_a2) (fun c5_0 => ?_) (fun c5_0 => ?_)
  · skip
    replace hE := zf_ip hE c5_0
    exact mm_rt rfl rfl (hQ _ hI (fun _ _ _ => rfl) hE)
  · skip
    replace hE := zf_nl hE c5_0
    refine mm_g 2 (pc1 := 10) (lo1 := [some (.ref q1), some (.int (Int32.ofInt a2)), some (.int (Int32.ofInt a3))]) (st1 := [.ref q1, .int (Int32.ofInt a2)]) (H1 := mz_mk g x) rfl ?_
    refine mz_al rfl h_q1 (by decide) ?_
    refine mz_ic_ge (tgt := 18) rfl rfl (mz_rg l_a2 u_a2) ⟨by omega, by omega⟩ (fun c11_0 => ?_) (fun c11_0 => ?_)
    · skip
      replace hE := zf_nl hE c11_0
      exact mm_rt rfl rfl (hQ _ hI (fun _ _ _ => rfl) hE)
    · skip
      replace hE := zf_ip hE c11_0
      refine mm_g 3 (pc1 := 17) (lo1 := [some (.ref q1), some (.int (Int32.ofInt a2)), some (.int (Int32.ofInt a3))]) (st1 := [.int (Int32.ofInt a3), .int (Int32.ofInt a2), .ref q1]) (H1 := mz_mk g x) rfl ?_
      refine mz_sI rfl h_q1 (by omega) (by omega) (by omega) hI (b_q1 _) (by omega) (by omega) (fun g1 hIg1 hug1 => ?_)
      replace hE := zf_tr hE (zf_lg hug1)
      exact mm_rt rfl rfl (hQ _ hIg1 (fun k j hk => (hug1.2 k j (fun h => hk h.1))) hE)
