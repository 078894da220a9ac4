/-! EXACT: the class (wip/p2/tools/gen50.py) -/
theorem bip_16 : (Int8.ofInt 16).toInt32 = Int32.ofInt 16 := by decide
theorem bip_26 : (Int8.ofInt 26).toInt32 = Int32.ofInt 26 := by decide
theorem bip_63 : (Int8.ofInt 63).toInt32 = Int32.ofInt 63 := by decide
theorem fd_2_9 : mm_tab mm_fldT 2 9 = some (2, 0, 0) ∧ mm_tab mm_ftT 2 0 = some 6 := ⟨rfl, rfl⟩
theorem fd_3_9 : mm_tab mm_fldT 3 9 = some (3, 0, 0) ∧ mm_tab mm_ftT 3 0 = some 6 := ⟨rfl, rfl⟩
theorem fd_3_15 : mm_tab mm_fldT 3 15 = some (3, 1, 0) ∧ mm_tab mm_ftT 3 1 = some 6 := ⟨rfl, rfl⟩
theorem fd_3_18 : mm_tab mm_fldT 3 18 = some (3, 2, 0) ∧ mm_tab mm_ftT 3 2 = some 6 := ⟨rfl, rfl⟩
theorem fd_3_21 : mm_tab mm_fldT 3 21 = some (3, 3, 0) ∧ mm_tab mm_ftT 3 3 = some 0 := ⟨rfl, rfl⟩
theorem fd_11_222 : mm_tab mm_fldT 11 222 = some (8, 0, 1) ∧ mm_tab mm_ftT 8 0 = some 0 := ⟨rfl, rfl⟩
theorem fd_11_225 : mm_tab mm_fldT 11 225 = some (8, 1, 1) ∧ mm_tab mm_ftT 8 1 = some 0 := ⟨rfl, rfl⟩
theorem mt_0_40 : mm_tab mm_mthT 0 40 = some (1, 11, 1, 0, 0) := rfl
theorem mt_1_88 : mm_tab mm_mthT 1 88 = some (1, 1, 0, 0, 0) := rfl
theorem mt_1_91 : mm_tab mm_mthT 1 91 = some (1, 4, 1, 0, 0) := rfl
theorem mt_1_95 : mm_tab mm_mthT 1 95 = some (1, 2, 1, 0, 0) := rfl
theorem mt_2_15 : mm_tab mm_mthT 2 15 = some (1, 3, 0, 0, 0) := rfl
theorem mt_2_21 : mm_tab mm_mthT 2 21 = some (0, 177, 3, 1, 11) := rfl
theorem mt_2_25 : mm_tab mm_mthT 2 25 = some (0, 176, 2, 1, 11) := rfl
theorem mt_2_29 : mm_tab mm_mthT 2 29 = some (1, 4, 1, 0, 0) := rfl
theorem mt_2_33 : mm_tab mm_mthT 2 33 = some (5, 0, 2, 0, 0) := rfl
theorem mt_3_25 : mm_tab mm_mthT 3 25 = some (0, 177, 3, 1, 11) := rfl
theorem mt_3_29 : mm_tab mm_mthT 3 29 = some (0, 176, 2, 1, 11) := rfl
theorem mt_3_33 : mm_tab mm_mthT 3 33 = some (1, 32, 2, 0, 3) := rfl
theorem mt_3_37 : mm_tab mm_mthT 3 37 = some (1, 34, 2, 0, 3) := rfl
theorem mt_3_41 : mm_tab mm_mthT 3 41 = some (0, 179, 1, 1, 11) := rfl
theorem mt_3_45 : mm_tab mm_mthT 3 45 = some (0, 293, 1, 0, 14) := rfl
theorem mt_3_51 : mm_tab mm_mthT 3 51 = some (1, 33, 3, 0, 3) := rfl
theorem mt_3_55 : mm_tab mm_mthT 3 55 = some (5, 0, 2, 0, 0) := rfl
theorem mt_10_69 : mm_tab mm_mthT 10 69 = some (1, 10, 1, 0, 0) := rfl
theorem mt_11_199 : mm_tab mm_mthT 11 199 = some (1, 171, 1, 0, 11) := rfl
theorem mt_11_203 : mm_tab mm_mthT 11 203 = some (1, 107, 1, 0, 10) := rfl
theorem mt_11_207 : mm_tab mm_mthT 11 207 = some (1, 3, 0, 0, 0) := rfl
theorem mt_11_210 : mm_tab mm_mthT 11 210 = some (1, 110, 1, 0, 10) := rfl
theorem mt_11_213 : mm_tab mm_mthT 11 213 = some (1, 116, 1, 0, 10) := rfl
theorem mt_11_216 : mm_tab mm_mthT 11 216 = some (1, 117, 1, 0, 10) := rfl
theorem mt_11_219 : mm_tab mm_mthT 11 219 = some (1, 130, 1, 0, 11) := rfl
theorem mt_11_228 : mm_tab mm_mthT 11 228 = some (1, 4, 1, 0, 0) := rfl
theorem sc_116 (L : Nat) : (mm_SH L 116).1 = 2 := rfl
theorem sc_118 (L : Nat) : (mm_SH L 118).1 = 3 := rfl
theorem sh_117 (L : Nat) : mm_SH L 117 = (100, 17) := rfl
theorem sh_119 (L : Nat) : mm_SH L 119 = (100, 36) := rfl
theorem sh_120 (L : Nat) : mm_SH L 120 = (100, 64) := rfl
theorem sh_121 (L : Nat) : mm_SH L 121 = (100, 6) := rfl
theorem bd_118_3 : mz_bd 118 3 = ((-2147483648), 2147483647) := rfl
theorem ba_117 (j : Nat) : mz_bd 117 j = ((-2147483648), 2147483647) := rfl
theorem ba_119 (j : Nat) : mz_bd 119 j = ((-2147483648), 2147483647) := rfl
theorem ba_120 (j : Nat) : mz_bd 120 j = ((-2147483648), 2147483647) := rfl
theorem ba_121 (j : Nat) : mz_bd 121 j = ((-2147483648), 2147483647) := rfl
theorem rf_116_0 (a b : Nat) (c : Option Nat) : mm_HR a b c 116 0 = some 117 := rfl
theorem rf_118_0 (a b : Nat) (c : Option Nat) : mm_HR a b c 118 0 = some 119 := rfl
theorem rf_118_1 (a b : Nat) (c : Option Nat) : mm_HR a b c 118 1 = some 120 := rfl
theorem rf_118_2 (a b : Nat) (c : Option Nat) : mm_HR a b c 118 2 = some 121 := rfl
theorem f_X0_howOften {d : Nat} (hd : 2 ≤ d) {x : mm_X} (hx : mk_x x) {g : mz_G} (hI : mz_inv g) {q0 : Nat} (h_q0 : kd_let q0) {a1 : Int} (l_a1 : (-2147483648) ≤ a1) (u_a1 : a1 ≤ 2147483647) {Q : (Option Value ⊕ Nat) → mm_H → Prop} (hQ : ∀ (r : Int), (-2147483648) ≤ r → r ≤ 2147483647 → zf_E (zF_X0_howOften q0 a1 g) (r) → Q (.inl (some (.int (Int32.ofInt r)))) (mz_mk g x)) : mm_C d 11 [.ref q0, .int (Int32.ofInt a1)] (mz_mk g x) Q := by
  have kn_q0 := kn_let h_q0
  refine ⟨mmX0_howOften, [some (.ref q0), some (.int (Int32.ofInt a1)), none, none], rfl, rfl, ?_⟩
  have hE : zf_E (zF_X0_howOften q0 a1 g) (zF_X0_howOften q0 a1 g) := zf_rf
  refine mm_g 4 (pc1 := 4) (lo1 := [some (.ref q0), some (.int (Int32.ofInt a1)), some (.int (Int32.ofInt 0)), some (.int (Int32.ofInt 0))]) (st1 := []) (H1 := mz_mk g x) rfl ?_
  have L6 : ∀ n5 : Nat, ∀ (v1 : Int) (v2 : Int), (16 - v2).toNat = n5 → (-2147483648) ≤ v1 → v1 ≤ 2147483647 → 0 ≤ v2 → v2 ≤ 16 → (∃ fk : Nat, (16 - v2).toNat < fk ∧ zf_E (zF_X0_howOften q0 a1 g) (zL_X0_howOften_4 q0 a1 g fk v1 v2)) → mm_W d mmX0_howOften 4 [some (.ref q0), some (.int (Int32.ofInt a1)), some (.int (Int32.ofInt v1)), some (.int (Int32.ofInt v2))] [] (mz_mk g x) Q := by
    intro n5
    induction n5 using Nat.strongRecOn with
    | ind n5 ih4 =>
    intro v1 v2 hmn5 l_v1 u_v1 l_v2 u_v2 hF
    obtain ⟨fk, fl, hE⟩ := hF
    obtain ⟨fj7, rfl⟩ : ∃ fj, fk = fj + 1 := ⟨fk - 1, by omega⟩
    have fn8 : n5 ≤ fj7 := by omega
    replace hE := zf_tr hE zL_X0_howOften_4_s
    refine mm_g 2 (pc1 := 6) (lo1 := [some (.ref q0), some (.int (Int32.ofInt a1)), some (.int (Int32.ofInt v1)), some (.int (Int32.ofInt v2))]) (st1 := [.ref q0, .int (Int32.ofInt v2)]) (H1 := mz_mk g x) rfl ?_
    refine mz_gI rfl fd_0_7 (by decide) (kc_let h_q0 _) hI (kb_let_1 h_q0) (fun v9 e_v9 l_v9 u_v9 => ?_)
    replace hE := zf_tr hE (zf_le e_v9)
    refine mz_ic_ge (tgt := 38) rfl rfl (mz_rg l_v2 u_v2) (mz_rg l_v9 u_v9) (fun c9_9 => ?_) (fun c9_9 => ?_)
    · skip
      replace hE := zf_nl hE c9_9
      refine mm_g 1 (pc1 := 39) (lo1 := [some (.ref q0), some (.int (Int32.ofInt a1)), some (.int (Int32.ofInt v1)), some (.int (Int32.ofInt v2))]) (st1 := [.int (Int32.ofInt v1)]) (H1 := mz_mk g x) rfl ?_
      exact mm_rt rfl rfl (hQ _ (by omega) (by omega) hE)
    · skip
      replace hE := zf_ip hE c9_9
      refine mm_g 2 (pc1 := 14) (lo1 := [some (.ref q0), some (.int (Int32.ofInt a1)), some (.int (Int32.ofInt v1)), some (.int (Int32.ofInt v2))]) (st1 := [.ref q0, .int (Int32.ofInt v1)]) (H1 := mz_mk g x) rfl ?_
      refine mz_fgR (v := (q0 + 1)) rfl fd_0_13 (by decide) (kc_let h_q0 _) (kr_let_0 h_q0 _ _ _) ?_
      have hn_n10 := zf_let h_q0 x.2.2.2.1
      have m_n10 := zf_ln_le q0
      have mm_n10 : (zf_ln q0) ≤ 100000 := by omega
      refine mm_g 1 (pc1 := 18) (lo1 := [some (.ref q0), some (.int (Int32.ofInt a1)), some (.int (Int32.ofInt v1)), some (.int (Int32.ofInt v2))]) (st1 := [.int (Int32.ofInt v2), .ref (q0 + 1), .int (Int32.ofInt v1)]) (H1 := mz_mk g x) rfl ?_
      refine mz_cs rfl mt_0_23 (by decide) rfl (Nat.le_of_ble_eq_true rfl) (by omega) (f_X11_at (by omega) hx hI hn_n10 (by omega) (kba_let_0 h_q0) (by omega) (by omega) (by omega) (by omega) (fun v11 l_v11 u_v11 hc12 => ⟨_, rfl, ?_⟩))
      show mm_W d mmX0_howOften 21 [some (.ref q0), some (.int (Int32.ofInt a1)), some (.int (Int32.ofInt v1)), some (.int (Int32.ofInt v2))] [.int (Int32.ofInt v11), .int (Int32.ofInt v1)] (mz_mk g x) Q
      replace hE := zf_t1 hE hc12
      refine mm_g 1 (pc1 := 22) (lo1 := [some (.ref q0), some (.int (Int32.ofInt a1)), some (.int (Int32.ofInt v1)), some (.int (Int32.ofInt v2))]) (st1 := [.int (Int32.ofInt a1), .int (Int32.ofInt v11), .int (Int32.ofInt v1)]) (H1 := mz_mk g x) rfl ?_
      refine mz_ic_ne (tgt := 29) rfl rfl (mz_rg l_v11 u_v11) (mz_rg l_a1 u_a1) (fun c22_12 => ?_) (fun c22_12 => ?_)
      · skip
        replace hE := zf_in hE c22_12
        refine mm_g 1 (pc1 := 30) (lo1 := [some (.ref q0), some (.int (Int32.ofInt a1)), some (.int (Int32.ofInt v1)), some (.int (Int32.ofInt v2))]) (st1 := [.int (Int32.ofInt 0), .int (Int32.ofInt v1)]) (H1 := mz_mk g x) rfl ?_
        refine mz_iadd rfl ?_
        replace hE := zf_tr hE (zf_lw ⟨by omega, by omega⟩)
        refine mm_g 1 (pc1 := 32) (lo1 := [some (.ref q0), some (.int (Int32.ofInt a1)), some (.int (Int32.ofInt (v1 + 0))), some (.int (Int32.ofInt v2))]) (st1 := []) (H1 := mz_mk g x) rfl ?_
        refine mz_iincR (v := v2) (lo2 := [some (.ref q0), some (.int (Int32.ofInt a1)), some (.int (Int32.ofInt (v1 + 0))), some (.int (Int32.ofInt (v2 + 1)))]) rfl rfl rfl (Nat.le_of_ble_eq_true rfl) rfl ?_
        refine mz_gt (tgt := 4) rfl rfl ?_
        exact ih4 ((16 - (v2 + 1)).toNat) (by omega) (v1 + 0) (v2 + 1) rfl (by omega) (by omega) (by omega) (by omega) ⟨fj7, Nat.lt_of_lt_of_le (show ((16 - (v2 + 1)).toNat) < n5 from (by omega)) fn8, hE⟩
      · skip
        replace hE := zf_ip hE c22_12
        refine mm_g 1 (pc1 := 26) (lo1 := [some (.ref q0), some (.int (Int32.ofInt a1)), some (.int (Int32.ofInt v1)), some (.int (Int32.ofInt v2))]) (st1 := [.int (Int32.ofInt 1), .int (Int32.ofInt v1)]) (H1 := mz_mk g x) rfl ?_
        refine mz_gt (tgt := 30) rfl rfl ?_
        refine mz_iadd_w rfl (fun v13 e_v13 hwv13 => ?_)
        have l_v13 := hwv13.1
        have u_v13 := hwv13.2
        replace hE := zf_tr hE (zf_le e_v13.symm)
        refine mm_g 1 (pc1 := 32) (lo1 := [some (.ref q0), some (.int (Int32.ofInt a1)), some (.int (Int32.ofInt v13)), some (.int (Int32.ofInt v2))]) (st1 := []) (H1 := mz_mk g x) rfl ?_
        refine mz_iincR (v := v2) (lo2 := [some (.ref q0), some (.int (Int32.ofInt a1)), some (.int (Int32.ofInt v13)), some (.int (Int32.ofInt (v2 + 1)))]) rfl rfl rfl (Nat.le_of_ble_eq_true rfl) rfl ?_
        refine mz_gt (tgt := 4) rfl rfl ?_
        exact ih4 ((16 - (v2 + 1)).toNat) (by omega) v13 (v2 + 1) rfl (by omega) (by omega) (by omega) (by omega) ⟨fj7, Nat.lt_of_lt_of_le (show ((16 - (v2 + 1)).toNat) < n5 from (by omega)) fn8, hE⟩
  exact L6 _ 0 0 rfl (by decide) (by decide) (by decide) (by decide) ⟨3000000000, by omega, hE⟩
theorem f_X0_isAnagram {d : Nat} (hd : 3 ≤ d) {x : mm_X} (hx : mk_x x) {g : mz_G} (hI : mz_inv g) {q0 : Nat} (h_q0 : kd_let q0) {q1 : Nat} (h_q1 : kd_let q1) {Q : (Option Value ⊕ Nat) → mm_H → Prop} (hQ : ∀ (r : Int), 0 ≤ r → r ≤ 1 → zf_E (zF_X0_isAnagram q0 q1 g) (r) → Q (.inl (some (.int (Int32.ofInt r)))) (mz_mk g x)) : mm_C d 10 [.ref q0, .ref q1] (mz_mk g x) Q := by
  have kn_q0 := kn_let h_q0
  have kn_q1 := kn_let h_q1
  refine ⟨mmX0_isAnagram, [some (.ref q0), some (.ref q1), none], rfl, rfl, ?_⟩
  have hE : zf_E (zF_X0_isAnagram q0 q1 g) (zF_X0_isAnagram q0 q1 g) := zf_rf
  refine mm_g 2 (pc1 := 2) (lo1 := [some (.ref q0), some (.ref q1), some (.int (Int32.ofInt 1))]) (st1 := []) (H1 := mz_mk g x) rfl ?_
  have L5 : ∀ n4 : Nat, ∀ (v1 : Int), (27 - v1).toNat = n4 → 1 ≤ v1 → v1 ≤ 27 → (∃ fk : Nat, (27 - v1).toNat < fk ∧ zf_E (zF_X0_isAnagram q0 q1 g) (zL_X0_isAnagram_2 q0 q1 g fk v1)) → mm_W d mmX0_isAnagram 2 [some (.ref q0), some (.ref q1), some (.int (Int32.ofInt v1))] [] (mz_mk g x) Q := by
    intro n4
    induction n4 using Nat.strongRecOn with
    | ind n4 ih3 =>
    intro v1 hmn4 l_v1 u_v1 hF
    obtain ⟨fk, fl, hE⟩ := hF
    obtain ⟨fj6, rfl⟩ : ∃ fj, fk = fj + 1 := ⟨fk - 1, by omega⟩
    have fn7 : n4 ≤ fj6 := by omega
    replace hE := zf_tr hE zL_X0_isAnagram_2_s
    refine mm_g 1 (pc1 := 3) (lo1 := [some (.ref q0), some (.ref q1), some (.int (Int32.ofInt v1))]) (st1 := [.int (Int32.ofInt v1)]) (H1 := mz_mk g x) rfl ?_
    refine mz_bip rfl bip_26 ?_
    refine mz_ic_gt (tgt := 29) rfl rfl (mz_rg l_v1 u_v1) ⟨by decide, by decide⟩ (fun c5_7 => ?_) (fun c5_7 => ?_)
    · skip
      replace hE := zf_ip hE c5_7
      refine mm_g 1 (pc1 := 30) (lo1 := [some (.ref q0), some (.ref q1), some (.int (Int32.ofInt v1))]) (st1 := [.int (Int32.ofInt 1)]) (H1 := mz_mk g x) rfl ?_
      exact mz_rtZ rfl (by decide) (by omega) (hQ _ (by decide) (by decide) hE)
    · skip
      replace hE := zf_nl hE c5_7
      refine mm_g 2 (pc1 := 10) (lo1 := [some (.ref q0), some (.ref q1), some (.int (Int32.ofInt v1))]) (st1 := [.int (Int32.ofInt v1), .ref q0]) (H1 := mz_mk g x) rfl ?_
      refine mz_cv rfl mt_0_40 (by decide) (kc_let h_q0 _) rfl (Nat.le_of_ble_eq_true rfl) (by omega) (f_X0_howOften (by omega) hx hI h_q0 (by omega) (by omega) (fun v8 l_v8 u_v8 hc9 => ⟨_, rfl, ?_⟩))
      show mm_W d mmX0_isAnagram 13 [some (.ref q0), some (.ref q1), some (.int (Int32.ofInt v1))] [.int (Int32.ofInt v8)] (mz_mk g x) Q
      replace hE := zf_t1 hE hc9
      refine mm_g 2 (pc1 := 15) (lo1 := [some (.ref q0), some (.ref q1), some (.int (Int32.ofInt v1))]) (st1 := [.int (Int32.ofInt v1), .ref q1, .int (Int32.ofInt v8)]) (H1 := mz_mk g x) rfl ?_
      refine mz_cv rfl mt_0_40 (by decide) (kc_let h_q1 _) rfl (Nat.le_of_ble_eq_true rfl) (by omega) (f_X0_howOften (by omega) hx hI h_q1 (by omega) (by omega) (fun v10 l_v10 u_v10 hc11 => ⟨_, rfl, ?_⟩))
      show mm_W d mmX0_isAnagram 18 [some (.ref q0), some (.ref q1), some (.int (Int32.ofInt v1))] [.int (Int32.ofInt v10), .int (Int32.ofInt v8)] (mz_mk g x) Q
      replace hE := zf_t1 hE hc11
      refine mz_ic_eq (tgt := 23) rfl rfl (mz_rg l_v8 u_v8) (mz_rg l_v10 u_v10) (fun c18_11 => ?_) (fun c18_11 => ?_)
      · skip
        replace hE := zf_ip hE c18_11
        refine mz_iincR (v := v1) (lo2 := [some (.ref q0), some (.ref q1), some (.int (Int32.ofInt (v1 + 1)))]) rfl rfl rfl (Nat.le_of_ble_eq_true rfl) rfl ?_
        refine mz_gt (tgt := 2) rfl rfl ?_
        exact ih3 ((27 - (v1 + 1)).toNat) (by omega) (v1 + 1) rfl (by omega) (by omega) ⟨fj6, Nat.lt_of_lt_of_le (show ((27 - (v1 + 1)).toNat) < n4 from (by omega)) fn7, hE⟩
      · skip
        replace hE := zf_in hE c18_11
        refine mm_g 1 (pc1 := 22) (lo1 := [some (.ref q0), some (.ref q1), some (.int (Int32.ofInt v1))]) (st1 := [.int (Int32.ofInt 0)]) (H1 := mz_mk g x) rfl ?_
        exact mz_rtZ rfl (by decide) (by omega) (hQ _ (by decide) (by decide) hE)
  exact L5 _ 1 rfl (by decide) (by decide) ⟨3000000000, by omega, hE⟩
theorem f_X10_anagrams {d : Nat} (hd : 4 ≤ d) {x : mm_X} (hx : mk_x x) {g : mz_G} (hI : mz_inv g) {q0 : Nat} (h_q0 : kd_words q0) {a1 : Int} (l_a1 : (-2147483648) ≤ a1) (u_a1 : a1 ≤ 2147483647) {Q : (Option Value ⊕ Nat) → mm_H → Prop} (hQ : ∀ (r : Int), (-2147483648) ≤ r → r ≤ 2147483647 → zf_E (zF_X10_anagrams q0 a1 g) (r) → Q (.inl (some (.int (Int32.ofInt r)))) (mz_mk g x)) : mm_C d 117 [.ref q0, .int (Int32.ofInt a1)] (mz_mk g x) Q := by
  have kn_q0 := kn_words h_q0
  refine ⟨mmX10_anagrams, [some (.ref q0), some (.int (Int32.ofInt a1)), none, none], rfl, rfl, ?_⟩
  have hE : zf_E (zF_X10_anagrams q0 a1 g) (zF_X10_anagrams q0 a1 g) := zf_rf
  refine mm_g 4 (pc1 := 4) (lo1 := [some (.ref q0), some (.int (Int32.ofInt a1)), some (.int (Int32.ofInt 0)), some (.int (Int32.ofInt 0))]) (st1 := []) (H1 := mz_mk g x) rfl ?_
  have L6 : ∀ n5 : Nat, ∀ (v1 : Int) (v2 : Int), (8 - v2).toNat = n5 → (-2147483648) ≤ v1 → v1 ≤ 2147483647 → 0 ≤ v2 → v2 ≤ 8 → (∃ fk : Nat, (8 - v2).toNat < fk ∧ zf_E (zF_X10_anagrams q0 a1 g) (zL_X10_anagrams_4 q0 a1 g fk v1 v2)) → mm_W d mmX10_anagrams 4 [some (.ref q0), some (.int (Int32.ofInt a1)), some (.int (Int32.ofInt v1)), some (.int (Int32.ofInt v2))] [] (mz_mk g x) Q := by
    intro n5
    induction n5 using Nat.strongRecOn with
    | ind n5 ih4 =>
    intro v1 v2 hmn5 l_v1 u_v1 l_v2 u_v2 hF
    obtain ⟨fk, fl, hE⟩ := hF
    obtain ⟨fj7, rfl⟩ : ∃ fj, fk = fj + 1 := ⟨fk - 1, by omega⟩
    have fn8 : n5 ≤ fj7 := by omega
    replace hE := zf_tr hE zL_X10_anagrams_4_s
    refine mm_g 2 (pc1 := 6) (lo1 := [some (.ref q0), some (.int (Int32.ofInt a1)), some (.int (Int32.ofInt v1)), some (.int (Int32.ofInt v2))]) (st1 := [.ref q0, .int (Int32.ofInt v2)]) (H1 := mz_mk g x) rfl ?_
    refine mz_gI rfl fd_10_28 (by decide) (kc_words h_q0 _) hI (kb_words_3 h_q0) (fun v9 e_v9 l_v9 u_v9 => ?_)
    replace hE := zf_tr hE (zf_le e_v9)
    refine mz_ic_ge (tgt := 44) rfl rfl (mz_rg l_v2 u_v2) (mz_rg l_v9 u_v9) (fun c9_9 => ?_) (fun c9_9 => ?_)
    · skip
      replace hE := zf_nl hE c9_9
      refine mm_g 1 (pc1 := 45) (lo1 := [some (.ref q0), some (.int (Int32.ofInt a1)), some (.int (Int32.ofInt v1)), some (.int (Int32.ofInt v2))]) (st1 := [.int (Int32.ofInt v1)]) (H1 := mz_mk g x) rfl ?_
      exact mm_rt rfl rfl (hQ _ (by omega) (by omega) hE)
    · skip
      replace hE := zf_ip hE c9_9
      refine mm_g 3 (pc1 := 15) (lo1 := [some (.ref q0), some (.int (Int32.ofInt a1)), some (.int (Int32.ofInt v1)), some (.int (Int32.ofInt v2))]) (st1 := [.int (Int32.ofInt v2), .ref q0, .int (Int32.ofInt v1)]) (H1 := mz_mk g x) rfl ?_
      refine mz_cv rfl mt_10_50 (by decide) (kc_words h_q0 _) rfl (Nat.le_of_ble_eq_true rfl) (by omega) (f_X10_of (by omega) hx hI h_q0 (by omega) (by omega) (fun u10 k_u10 hp11 hc12 => ⟨_, rfl, ?_⟩))
      show mm_W d mmX10_anagrams 18 [some (.ref q0), some (.int (Int32.ofInt a1)), some (.int (Int32.ofInt v1)), some (.int (Int32.ofInt v2))] [.ref u10, .int (Int32.ofInt v1)] (mz_mk g x) Q
      replace hE := zf_t1 hE hc12
      refine mm_g 2 (pc1 := 20) (lo1 := [some (.ref q0), some (.int (Int32.ofInt a1)), some (.int (Int32.ofInt v1)), some (.int (Int32.ofInt v2))]) (st1 := [.int (Int32.ofInt a1), .ref q0, .ref u10, .int (Int32.ofInt v1)]) (H1 := mz_mk g x) rfl ?_
      refine mz_cv rfl mt_10_50 (by decide) (kc_words h_q0 _) rfl (Nat.le_of_ble_eq_true rfl) (by omega) (f_X10_of (by omega) hx hI h_q0 l_a1 u_a1 (fun u13 k_u13 hp14 hc15 => ⟨_, rfl, ?_⟩))
      show mm_W d mmX10_anagrams 23 [some (.ref q0), some (.int (Int32.ofInt a1)), some (.int (Int32.ofInt v1)), some (.int (Int32.ofInt v2))] [.ref u13, .ref u10, .int (Int32.ofInt v1)] (mz_mk g x) Q
      replace hE := zf_t1 hE hc15
      refine mz_cv rfl mt_10_69 (by decide) (kc_let k_u10 _) rfl (Nat.le_of_ble_eq_true rfl) (by omega) (f_X0_isAnagram (by omega) hx hI k_u10 k_u13 (fun v16 l_v16 u_v16 hc17 => ⟨_, rfl, ?_⟩))
      show mm_W d mmX10_anagrams 26 [some (.ref q0), some (.int (Int32.ofInt a1)), some (.int (Int32.ofInt v1)), some (.int (Int32.ofInt v2))] [.int (Int32.ofInt v16), .int (Int32.ofInt v1)] (mz_mk g x) Q
      replace hE := zf_t1 hE hc17
      refine mz_if_eq (tgt := 35) rfl rfl (mz_rg l_v16 u_v16) (fun c26_17 => ?_) (fun c26_17 => ?_)
      · skip
        replace hE := zf_ip hE c26_17
        refine mm_g 1 (pc1 := 36) (lo1 := [some (.ref q0), some (.int (Int32.ofInt a1)), some (.int (Int32.ofInt v1)), some (.int (Int32.ofInt v2))]) (st1 := [.int (Int32.ofInt 0), .int (Int32.ofInt v1)]) (H1 := mz_mk g x) rfl ?_
        refine mz_ior rfl (fun v18 e_v18 hwv18 => ?_)
        have l_v18 := hwv18.1
        have u_v18 := hwv18.2
        replace hE := zf_tr hE (zf_le e_v18.symm)
        refine mm_g 1 (pc1 := 38) (lo1 := [some (.ref q0), some (.int (Int32.ofInt a1)), some (.int (Int32.ofInt v18)), some (.int (Int32.ofInt v2))]) (st1 := []) (H1 := mz_mk g x) rfl ?_
        refine mz_iincR (v := v2) (lo2 := [some (.ref q0), some (.int (Int32.ofInt a1)), some (.int (Int32.ofInt v18)), some (.int (Int32.ofInt (v2 + 1)))]) rfl rfl rfl (Nat.le_of_ble_eq_true rfl) rfl ?_
        refine mz_gt (tgt := 4) rfl rfl ?_
        exact ih4 ((8 - (v2 + 1)).toNat) (by omega) v18 (v2 + 1) rfl (by omega) (by omega) (by omega) (by omega) ⟨fj7, Nat.lt_of_lt_of_le (show ((8 - (v2 + 1)).toNat) < n5 from (by omega)) fn8, hE⟩
      · skip
        replace hE := zf_in hE c26_17
        refine mm_g 2 (pc1 := 31) (lo1 := [some (.ref q0), some (.int (Int32.ofInt a1)), some (.int (Int32.ofInt v1)), some (.int (Int32.ofInt v2))]) (st1 := [.int (Int32.ofInt v2), .int (Int32.ofInt 1), .int (Int32.ofInt v1)]) (H1 := mz_mk g x) rfl ?_
        refine mz_ishl rfl (fun v19 e_v19 hwv19 => ?_)
        have b_v19 : 1 ≤ v19 ∧ v19 ≤ 128 := by rw [e_v19]; exact mz_shl_b (lx := 1) (hx := 1) (k := 7) (by decide) (by decide) (by omega) (by omega) (by omega) (by omega)
        have l_v19 := b_v19.1
        have u_v19 := b_v19.2
        replace hE := zf_tr hE (zf_le e_v19.symm)
        refine mz_gt (tgt := 36) rfl rfl ?_
        refine mz_ior rfl (fun v20 e_v20 hwv20 => ?_)
        have l_v20 := hwv20.1
        have u_v20 := hwv20.2
        replace hE := zf_tr hE (zf_le e_v20.symm)
        refine mm_g 1 (pc1 := 38) (lo1 := [some (.ref q0), some (.int (Int32.ofInt a1)), some (.int (Int32.ofInt v20)), some (.int (Int32.ofInt v2))]) (st1 := []) (H1 := mz_mk g x) rfl ?_
        refine mz_iincR (v := v2) (lo2 := [some (.ref q0), some (.int (Int32.ofInt a1)), some (.int (Int32.ofInt v20)), some (.int (Int32.ofInt (v2 + 1)))]) rfl rfl rfl (Nat.le_of_ble_eq_true rfl) rfl ?_
        refine mz_gt (tgt := 4) rfl rfl ?_
        exact ih4 ((8 - (v2 + 1)).toNat) (by omega) v20 (v2 + 1) rfl (by omega) (by omega) (by omega) (by omega) ⟨fj7, Nat.lt_of_lt_of_le (show ((8 - (v2 + 1)).toNat) < n5 from (by omega)) fn8, hE⟩
  exact L6 _ 0 0 rfl (by decide) (by decide) (by decide) (by decide) ⟨3000000000, by omega, hE⟩
theorem f_X11_trunksWith {d : Nat} (hd : 2 ≤ d) {x : mm_X} (hx : mk_x x) {g : mz_G} (hI : mz_inv g) {a1 : Int} (l_a1 : (-2147483648) ≤ a1) (u_a1 : a1 ≤ 2147483647) {Q : (Option Value ⊕ Nat) → mm_H → Prop} (hQ : ∀ (r : Int), 0 ≤ r → r ≤ 63 → zf_E (zF_X11_trunksWith x a1 g) (r) → Q (.inl (some (.int (Int32.ofInt r)))) (mz_mk g x)) : mm_C d 130 [.ref 0, .int (Int32.ofInt a1)] (mz_mk g x) Q := by
  have kx := kn_x hx
  refine ⟨mmX11_trunksWith, [some (.ref 0), some (.int (Int32.ofInt a1)), none, none, none], rfl, rfl, ?_⟩
  have hE : zf_E (zF_X11_trunksWith x a1 g) (zF_X11_trunksWith x a1 g) := zf_rf
  refine mm_g 4 (pc1 := 4) (lo1 := [some (.ref 0), some (.int (Int32.ofInt a1)), some (.int (Int32.ofInt 0)), some (.int (Int32.ofInt 0)), none]) (st1 := []) (H1 := mz_mk g x) rfl ?_
  have L7 : ∀ n6 : Nat, ∀ (v1 : Int) (v2 : Int) (o3 : Option Value), (6 - v2).toNat = n6 → 0 ≤ v1 → v1 ≤ 63 → 0 ≤ v2 → v2 ≤ 6 → mz_nl o3 → (∃ fk : Nat, (6 - v2).toNat < fk ∧ zf_E (zF_X11_trunksWith x a1 g) (zL_X11_trunksWith_4 x a1 g fk v1 v2)) → mm_W d mmX11_trunksWith 4 [some (.ref 0), some (.int (Int32.ofInt a1)), some (.int (Int32.ofInt v1)), some (.int (Int32.ofInt v2)), o3] [] (mz_mk g x) Q := by
    intro n6
    induction n6 using Nat.strongRecOn with
    | ind n6 ih5 =>
    intro v1 v2 o3 hmn6 l_v1 u_v1 l_v2 u_v2 h_o3 hF
    obtain ⟨fk, fl, hE⟩ := hF
    obtain ⟨fj8, rfl⟩ : ∃ fj, fk = fj + 1 := ⟨fk - 1, by omega⟩
    have fn9 : n6 ≤ fj8 := by omega
    replace hE := zf_tr hE zL_X11_trunksWith_4_s
    refine mm_g 2 (pc1 := 6) (lo1 := [some (.ref 0), some (.int (Int32.ofInt a1)), some (.int (Int32.ofInt v1)), some (.int (Int32.ofInt v2)), o3]) (st1 := [.ref 0, .int (Int32.ofInt v2)]) (H1 := mz_mk g x) rfl ?_
    refine mz_cv rfl mt_11_155 (by decide) (sc_0 _) rfl (Nat.le_of_ble_eq_true rfl) (by omega) (f_X11_trunkCount (by omega) hx hI (fun v10 l_v10 u_v10 hc11 => ⟨_, rfl, ?_⟩))
    show mm_W d mmX11_trunksWith 9 [some (.ref 0), some (.int (Int32.ofInt a1)), some (.int (Int32.ofInt v1)), some (.int (Int32.ofInt v2)), o3] [.int (Int32.ofInt v10), .int (Int32.ofInt v2)] (mz_mk g x) Q
    replace hE := zf_t1 hE hc11
    refine mz_ic_ge (tgt := 55) rfl rfl (mz_rg l_v2 u_v2) (mz_rg l_v10 u_v10) (fun c9_11 => ?_) (fun c9_11 => ?_)
    · skip
      replace hE := zf_nl hE c9_11
      refine mm_g 1 (pc1 := 56) (lo1 := [some (.ref 0), some (.int (Int32.ofInt a1)), some (.int (Int32.ofInt v1)), some (.int (Int32.ofInt v2)), o3]) (st1 := [.int (Int32.ofInt v1)]) (H1 := mz_mk g x) rfl ?_
      exact mm_rt rfl rfl (hQ _ (by omega) (by omega) hE)
    · skip
      replace hE := zf_ip hE c9_11
      refine mm_g 1 (pc1 := 13) (lo1 := [some (.ref 0), some (.int (Int32.ofInt a1)), some (.int (Int32.ofInt v1)), some (.int (Int32.ofInt v2)), o3]) (st1 := [.ref 0]) (H1 := mz_mk g x) rfl ?_
      refine mz_fgR (v := 86) rfl fd_11_37 (by decide) (sc_0 _) (rf_0_5 _ _ _) ?_
      refine mz_fgR (v := 87) rfl fd_11_158 (by decide) (sc_86 _) (rf_86_0 _ _ _) ?_
      refine mm_g 1 (pc1 := 20) (lo1 := [some (.ref 0), some (.int (Int32.ofInt a1)), some (.int (Int32.ofInt v1)), some (.int (Int32.ofInt v2)), o3]) (st1 := [.int (Int32.ofInt v2), .ref 87]) (H1 := mz_mk g x) rfl ?_
      refine mz_cv rfl mt_11_192 (by decide) (sc_87 _) rfl (Nat.le_of_ble_eq_true rfl) (by omega) (f_X9_get (by omega) hx hI kp_tks_87 (by omega) (by omega) (fun u12 k_u12 hp13 hc14 => ⟨_, rfl, ?_⟩))
      show mm_W d mmX11_trunksWith 23 [some (.ref 0), some (.int (Int32.ofInt a1)), some (.int (Int32.ofInt v1)), some (.int (Int32.ofInt v2)), o3] [.ref u12] (mz_mk g x) Q
      replace hE := zf_t1 hE hc14
      refine mm_g 2 (pc1 := 27) (lo1 := [some (.ref 0), some (.int (Int32.ofInt a1)), some (.int (Int32.ofInt v1)), some (.int (Int32.ofInt v2)), some (.ref u12)]) (st1 := [.ref u12]) (H1 := mz_mk g x) rfl ?_
      refine mz_gI rfl fd_11_222 (by decide) (kc_trunk k_u12 _) hI (kb_trunk_0 k_u12) (fun v15 e_v15 l_v15 u_v15 => ?_)
      replace hE := zf_tr hE (zf_le e_v15)
      refine mm_g 1 (pc1 := 31) (lo1 := [some (.ref 0), some (.int (Int32.ofInt a1)), some (.int (Int32.ofInt v1)), some (.int (Int32.ofInt v2)), some (.ref u12)]) (st1 := [.int (Int32.ofInt a1), .int (Int32.ofInt v15)]) (H1 := mz_mk g x) rfl ?_
      refine mz_ic_eq (tgt := 43) rfl rfl (mz_rg l_v15 u_v15) (mz_rg l_a1 u_a1) (fun c31_15 => ?_) (fun c31_15 => ?_)
      · skip
        replace hE := zf_ip hE c31_15
        refine mm_g 3 (pc1 := 46) (lo1 := [some (.ref 0), some (.int (Int32.ofInt a1)), some (.int (Int32.ofInt v1)), some (.int (Int32.ofInt v2)), some (.ref u12)]) (st1 := [.int (Int32.ofInt v2), .int (Int32.ofInt 1), .int (Int32.ofInt v1)]) (H1 := mz_mk g x) rfl ?_
        refine mz_ishl rfl (fun v16 e_v16 hwv16 => ?_)
        have b_v16 : 1 ≤ v16 ∧ v16 ≤ 32 := by rw [e_v16]; exact mz_shl_b (lx := 1) (hx := 1) (k := 5) (by decide) (by decide) (by omega) (by omega) (by omega) (by omega)
        have l_v16 := b_v16.1
        have u_v16 := b_v16.2
        replace hE := zf_tr hE (zf_le e_v16.symm)
        refine mz_ior rfl (fun v17 e_v17 hwv17 => ?_)
        have b_v17 : 0 ≤ v17 ∧ v17 ≤ 63 := by rw [e_v17]; exact mz_or_lt (n := 6) (by decide) (by omega) (by omega) (by omega) (by omega)
        have l_v17 := b_v17.1
        have u_v17 := b_v17.2
        replace hE := zf_tr hE (zf_le e_v17.symm)
        refine mm_g 1 (pc1 := 49) (lo1 := [some (.ref 0), some (.int (Int32.ofInt a1)), some (.int (Int32.ofInt v17)), some (.int (Int32.ofInt v2)), some (.ref u12)]) (st1 := []) (H1 := mz_mk g x) rfl ?_
        refine mz_iincR (v := v2) (lo2 := [some (.ref 0), some (.int (Int32.ofInt a1)), some (.int (Int32.ofInt v17)), some (.int (Int32.ofInt (v2 + 1))), some (.ref u12)]) rfl rfl rfl (Nat.le_of_ble_eq_true rfl) rfl ?_
        refine mz_gt (tgt := 4) rfl rfl ?_
        exact ih5 ((6 - (v2 + 1)).toNat) (by omega) v17 (v2 + 1) (some (.ref u12)) rfl (by omega) (by omega) (by omega) (by omega) (mz_nl_r _) ⟨fj8, Nat.lt_of_lt_of_le (show ((6 - (v2 + 1)).toNat) < n6 from (by omega)) fn9, hE⟩
      · skip
        replace hE := zf_in hE c31_15
        refine mm_g 1 (pc1 := 36) (lo1 := [some (.ref 0), some (.int (Int32.ofInt a1)), some (.int (Int32.ofInt v1)), some (.int (Int32.ofInt v2)), some (.ref u12)]) (st1 := [.ref u12]) (H1 := mz_mk g x) rfl ?_
        refine mz_gI rfl fd_11_225 (by decide) (kc_trunk k_u12 _) hI (kb_trunk_1 k_u12) (fun v18 e_v18 l_v18 u_v18 => ?_)
        replace hE := zf_tr hE (zf_le e_v18)
        refine mm_g 1 (pc1 := 40) (lo1 := [some (.ref 0), some (.int (Int32.ofInt a1)), some (.int (Int32.ofInt v1)), some (.int (Int32.ofInt v2)), some (.ref u12)]) (st1 := [.int (Int32.ofInt a1), .int (Int32.ofInt v18)]) (H1 := mz_mk g x) rfl ?_
        refine mz_ic_ne (tgt := 49) rfl rfl (mz_rg l_v18 u_v18) (mz_rg l_a1 u_a1) (fun c40_18 => ?_) (fun c40_18 => ?_)
        · skip
          replace hE := zf_in hE c40_18
          refine mz_iincR (v := v2) (lo2 := [some (.ref 0), some (.int (Int32.ofInt a1)), some (.int (Int32.ofInt v1)), some (.int (Int32.ofInt (v2 + 1))), some (.ref u12)]) rfl rfl rfl (Nat.le_of_ble_eq_true rfl) rfl ?_
          refine mz_gt (tgt := 4) rfl rfl ?_
          exact ih5 ((6 - (v2 + 1)).toNat) (by omega) v1 (v2 + 1) (some (.ref u12)) rfl (by omega) (by omega) (by omega) (by omega) (mz_nl_r _) ⟨fj8, Nat.lt_of_lt_of_le (show ((6 - (v2 + 1)).toNat) < n6 from (by omega)) fn9, hE⟩
        · skip
          replace hE := zf_ip hE c40_18
          refine mm_g 3 (pc1 := 46) (lo1 := [some (.ref 0), some (.int (Int32.ofInt a1)), some (.int (Int32.ofInt v1)), some (.int (Int32.ofInt v2)), some (.ref u12)]) (st1 := [.int (Int32.ofInt v2), .int (Int32.ofInt 1), .int (Int32.ofInt v1)]) (H1 := mz_mk g x) rfl ?_
          refine mz_ishl rfl (fun v19 e_v19 hwv19 => ?_)
          have b_v19 : 1 ≤ v19 ∧ v19 ≤ 32 := by rw [e_v19]; exact mz_shl_b (lx := 1) (hx := 1) (k := 5) (by decide) (by decide) (by omega) (by omega) (by omega) (by omega)
          have l_v19 := b_v19.1
          have u_v19 := b_v19.2
          replace hE := zf_tr hE (zf_le e_v19.symm)
          refine mz_ior rfl (fun v20 e_v20 hwv20 => ?_)
          have b_v20 : 0 ≤ v20 ∧ v20 ≤ 63 := by rw [e_v20]; exact mz_or_lt (n := 6) (by decide) (by omega) (by omega) (by omega) (by omega)
          have l_v20 := b_v20.1
          have u_v20 := b_v20.2
          replace hE := zf_tr hE (zf_le e_v20.symm)
          refine mm_g 1 (pc1 := 49) (lo1 := [some (.ref 0), some (.int (Int32.ofInt a1)), some (.int (Int32.ofInt v20)), some (.int (Int32.ofInt v2)), some (.ref u12)]) (st1 := []) (H1 := mz_mk g x) rfl ?_
          refine mz_iincR (v := v2) (lo2 := [some (.ref 0), some (.int (Int32.ofInt a1)), some (.int (Int32.ofInt v20)), some (.int (Int32.ofInt (v2 + 1))), some (.ref u12)]) rfl rfl rfl (Nat.le_of_ble_eq_true rfl) rfl ?_
          refine mz_gt (tgt := 4) rfl rfl ?_
          exact ih5 ((6 - (v2 + 1)).toNat) (by omega) v20 (v2 + 1) (some (.ref u12)) rfl (by omega) (by omega) (by omega) (by omega) (mz_nl_r _) ⟨fj8, Nat.lt_of_lt_of_le (show ((6 - (v2 + 1)).toNat) < n6 from (by omega)) fn9, hE⟩
  exact L7 _ 0 0 none rfl (by decide) (by decide) (by decide) (by decide) mz_nl_n ⟨3000000000, by omega, hE⟩
theorem f_X11_word {d : Nat} (hd : 13 ≤ d) {x : mm_X} (hx : mk_x x) {g : mz_G} (hI : mz_inv g) {a1 : Int} (l_a1 : (-2147483648) ≤ a1) (u_a1 : a1 ≤ 2147483647) {a2 : Int} (l_a2 : (-2147483648) ≤ a2) (u_a2 : a2 ≤ 2147483647) {Q : (Option Value ⊕ Nat) → mm_H → Prop} (hQ : ∀ (r : Int), (-2147483648) ≤ r → r ≤ 2147483647 → zf_E (zF_X11_word x a1 a2 g) ((0, r, g)) → Q (.inl (some (.int (Int32.ofInt r)))) (mz_mk g x)) (hX0 : (zf_E (zF_X11_word x a1 a2 g) ((1, 0, g))) → Q (.inr 0) (mz_mk g (mz_tx x))) : mm_C d 129 [.ref 0, .int (Int32.ofInt a1), .int (Int32.ofInt a2)] (mz_mk g x) Q := by
  have kx := kn_x hx
  refine ⟨mmX11_word, [some (.ref 0), some (.int (Int32.ofInt a1)), some (.int (Int32.ofInt a2))], rfl, rfl, ?_⟩
  have hE : zf_E (zF_X11_word x a1 a2 g) (zF_X11_word x a1 a2 g) := zf_rf
  refine mm_g 2 (pc1 := 2) (lo1 := [some (.ref 0), some (.int (Int32.ofInt a1)), some (.int (Int32.ofInt a2))]) (st1 := [.int (Int32.ofInt a1), .ref 0]) (H1 := mz_mk g x) rfl ?_
  refine mz_cv rfl mt_11_199 (by decide) (sc_0 _) rfl (Nat.le_of_ble_eq_true rfl) (by omega) (f_X11_isWord (by omega) hx hI l_a1 u_a1 (fun v1 l_v1 u_v1 hc2 => ⟨_, rfl, ?_⟩))
  show mm_W d mmX11_word 5 [some (.ref 0), some (.int (Int32.ofInt a1)), some (.int (Int32.ofInt a2))] [.int (Int32.ofInt v1)] (mz_mk g x) Q
  replace hE := zf_t1 hE hc2
  refine mz_if_eq (tgt := 21) rfl rfl (mz_rg l_v1 u_v1) (fun c5_2 => ?_) (fun c5_2 => ?_)
  · skip
    replace hE := zf_ip hE c5_2
    refine mm_g 1 (pc1 := 22) (lo1 := [some (.ref 0), some (.int (Int32.ofInt a1)), some (.int (Int32.ofInt a2))]) (st1 := [.int (Int32.ofInt 0)]) (H1 := mz_mk g x) rfl ?_
    (try unfold zJ_X11_word_21 at hE)
    (try unfold zJ_X11_word_22 at hE)
    (try unfold zJ_X11_word_21 at hE)
    (try unfold zJ_X11_word_22 at hE)
    refine mz_csx rfl mt_11_183 rfl (Nat.le_of_ble_eq_true rfl) (by omega) rfl nh_X11_mustBe (f_X11_mustBe (by omega) hx hI (by decide) (by decide) (fun hp3 hc4 => ?_) (fun hc => hX0 (zf_x2 hE hc (by decide))))
    show mm_W d mmX11_word 25 [some (.ref 0), some (.int (Int32.ofInt a1)), some (.int (Int32.ofInt a2))] [] (mz_mk g x) Q
    replace hE := zf_x1 hE hc4
    exfalso; omega
  · skip
    replace hE := zf_in hE c5_2
    refine mm_g 1 (pc1 := 9) (lo1 := [some (.ref 0), some (.int (Int32.ofInt a1)), some (.int (Int32.ofInt a2))]) (st1 := [.int (Int32.ofInt a2)]) (H1 := mz_mk g x) rfl ?_
    refine mz_if_lt (tgt := 21) rfl rfl (mz_rg l_a2 u_a2) (fun c9_4 => ?_) (fun c9_4 => ?_)
    · skip
      replace hE := zf_ip hE c9_4
      refine mm_g 1 (pc1 := 22) (lo1 := [some (.ref 0), some (.int (Int32.ofInt a1)), some (.int (Int32.ofInt a2))]) (st1 := [.int (Int32.ofInt 0)]) (H1 := mz_mk g x) rfl ?_
      (try unfold zJ_X11_word_21 at hE)
      (try unfold zJ_X11_word_22 at hE)
      (try unfold zJ_X11_word_21 at hE)
      (try unfold zJ_X11_word_22 at hE)
      refine mz_csx rfl mt_11_183 rfl (Nat.le_of_ble_eq_true rfl) (by omega) rfl nh_X11_mustBe (f_X11_mustBe (by omega) hx hI (by decide) (by decide) (fun hp5 hc6 => ?_) (fun hc => hX0 (zf_x2 hE hc (by decide))))
      show mm_W d mmX11_word 25 [some (.ref 0), some (.int (Int32.ofInt a1)), some (.int (Int32.ofInt a2))] [] (mz_mk g x) Q
      replace hE := zf_x1 hE hc6
      exfalso; omega
    · skip
      replace hE := zf_nl hE c9_4
      refine mm_g 2 (pc1 := 14) (lo1 := [some (.ref 0), some (.int (Int32.ofInt a1)), some (.int (Int32.ofInt a2))]) (st1 := [.int (Int32.ofInt 4), .int (Int32.ofInt a2)]) (H1 := mz_mk g x) rfl ?_
      refine mz_ic_gt (tgt := 21) rfl rfl (mz_rg l_a2 u_a2) ⟨by decide, by decide⟩ (fun c14_6 => ?_) (fun c14_6 => ?_)
      · skip
        replace hE := zf_ip hE c14_6
        refine mm_g 1 (pc1 := 22) (lo1 := [some (.ref 0), some (.int (Int32.ofInt a1)), some (.int (Int32.ofInt a2))]) (st1 := [.int (Int32.ofInt 0)]) (H1 := mz_mk g x) rfl ?_
        (try unfold zJ_X11_word_21 at hE)
        (try unfold zJ_X11_word_22 at hE)
        (try unfold zJ_X11_word_21 at hE)
        (try unfold zJ_X11_word_22 at hE)
        refine mz_csx rfl mt_11_183 rfl (Nat.le_of_ble_eq_true rfl) (by omega) rfl nh_X11_mustBe (f_X11_mustBe (by omega) hx hI (by decide) (by decide) (fun hp7 hc8 => ?_) (fun hc => hX0 (zf_x2 hE hc (by decide))))
        show mm_W d mmX11_word 25 [some (.ref 0), some (.int (Int32.ofInt a1)), some (.int (Int32.ofInt a2))] [] (mz_mk g x) Q
        replace hE := zf_x1 hE hc8
        exfalso; omega
      · skip
        replace hE := zf_nl hE c14_6
        refine mm_g 1 (pc1 := 18) (lo1 := [some (.ref 0), some (.int (Int32.ofInt a1)), some (.int (Int32.ofInt a2))]) (st1 := [.int (Int32.ofInt 1)]) (H1 := mz_mk g x) rfl ?_
        refine mz_gt (tgt := 22) rfl rfl ?_
        (try unfold zJ_X11_word_21 at hE)
        (try unfold zJ_X11_word_22 at hE)
        (try unfold zJ_X11_word_21 at hE)
        (try unfold zJ_X11_word_22 at hE)
        refine mz_csx rfl mt_11_183 rfl (Nat.le_of_ble_eq_true rfl) (by omega) rfl nh_X11_mustBe (f_X11_mustBe (by omega) hx hI (by decide) (by decide) (fun hp9 hc10 => ?_) (fun hc => hX0 (zf_x2 hE hc (by decide))))
        show mm_W d mmX11_word 25 [some (.ref 0), some (.int (Int32.ofInt a1)), some (.int (Int32.ofInt a2))] [] (mz_mk g x) Q
        replace hE := zf_x1 hE hc10
        refine mm_g 1 (pc1 := 26) (lo1 := [some (.ref 0), some (.int (Int32.ofInt a1)), some (.int (Int32.ofInt a2))]) (st1 := [.int (Int32.ofInt a2)]) (H1 := mz_mk g x) rfl ?_
        by_cases c26_0 : a2 = 0
        · refine mz_tsi (tgt := 56) rfl (mz_rg l_a2 u_a2) (by omega) (by omega) (by rw [c26_0]; rfl) rfl ?_
          replace hE := zf_ip hE c26_0
          refine mm_g 1 (pc1 := 57) (lo1 := [some (.ref 0), some (.int (Int32.ofInt a1)), some (.int (Int32.ofInt a2))]) (st1 := [.ref 0]) (H1 := mz_mk g x) rfl ?_
          refine mz_fgR (v := x.1) rfl fd_11_16 (by decide) (sc_0 _) rfl ?_
          refine mz_fgR (v := (x.1 + 1)) rfl fd_11_135 (by decide) (kc_load (kx_1 hx) _) (kr_load_0 (kx_1 hx) _ _ _) ?_
          refine mm_g 1 (pc1 := 64) (lo1 := [some (.ref 0), some (.int (Int32.ofInt a1)), some (.int (Int32.ofInt a2))]) (st1 := [.int (Int32.ofInt a1), .ref (x.1 + 1)]) (H1 := mz_mk g x) rfl ?_
          refine mz_cv rfl mt_11_203 (by decide) (kc_words (ks_load_0 (kx_1 hx)) _) rfl (Nat.le_of_ble_eq_true rfl) (by omega) (f_X10_of (by omega) hx hI (ks_load_0 (kx_1 hx)) l_a1 u_a1 (fun u11 k_u11 hp12 hc13 => ⟨_, rfl, ?_⟩))
          show mm_W d mmX11_word 67 [some (.ref 0), some (.int (Int32.ofInt a1)), some (.int (Int32.ofInt a2))] [.ref u11] (mz_mk g x) Q
          replace hE := zf_t1 hE hc13
          refine mz_cv rfl mt_11_207 (by decide) (kc_let k_u11 _) rfl (Nat.le_of_ble_eq_true rfl) (by omega) (f_X0_length (by omega) hx hI k_u11 (fun v14 l_v14 u_v14 hc15 => ⟨_, rfl, ?_⟩))
          show mm_W d mmX11_word 70 [some (.ref 0), some (.int (Int32.ofInt a1)), some (.int (Int32.ofInt a2))] [.int (Int32.ofInt v14)] (mz_mk g x) Q
          replace hE := zf_t1 hE hc15
          exact mm_rt rfl rfl (hQ _ (by omega) (by omega) hE)
        replace hE := zf_in hE c26_0
        by_cases c26_1 : a2 = 1
        · refine mz_tsi (tgt := 71) rfl (mz_rg l_a2 u_a2) (by omega) (by omega) (by rw [c26_1]; rfl) rfl ?_
          replace hE := zf_ip hE c26_1
          refine mm_g 1 (pc1 := 72) (lo1 := [some (.ref 0), some (.int (Int32.ofInt a1)), some (.int (Int32.ofInt a2))]) (st1 := [.ref 0]) (H1 := mz_mk g x) rfl ?_
          refine mz_fgR (v := x.1) rfl fd_11_16 (by decide) (sc_0 _) rfl ?_
          refine mz_fgR (v := (x.1 + 1)) rfl fd_11_135 (by decide) (kc_load (kx_1 hx) _) (kr_load_0 (kx_1 hx) _ _ _) ?_
          refine mm_g 1 (pc1 := 79) (lo1 := [some (.ref 0), some (.int (Int32.ofInt a1)), some (.int (Int32.ofInt a2))]) (st1 := [.int (Int32.ofInt a1), .ref (x.1 + 1)]) (H1 := mz_mk g x) rfl ?_
          refine mz_cv rfl mt_11_210 (by decide) (kc_words (ks_load_0 (kx_1 hx)) _) rfl (Nat.le_of_ble_eq_true rfl) (by omega) (f_X10_firmness (by omega) hx hI (ks_load_0 (kx_1 hx)) l_a1 u_a1 (fun v16 l_v16 u_v16 hc17 => ⟨_, rfl, ?_⟩))
          show mm_W d mmX11_word 82 [some (.ref 0), some (.int (Int32.ofInt a1)), some (.int (Int32.ofInt a2))] [.int (Int32.ofInt v16)] (mz_mk g x) Q
          replace hE := zf_t1 hE hc17
          exact mm_rt rfl rfl (hQ _ (by omega) (by omega) hE)
        replace hE := zf_in hE c26_1
        by_cases c26_2 : a2 = 2
        · refine mz_tsi (tgt := 83) rfl (mz_rg l_a2 u_a2) (by omega) (by omega) (by rw [c26_2]; rfl) rfl ?_
          replace hE := zf_ip hE c26_2
          refine mm_g 1 (pc1 := 84) (lo1 := [some (.ref 0), some (.int (Int32.ofInt a1)), some (.int (Int32.ofInt a2))]) (st1 := [.ref 0]) (H1 := mz_mk g x) rfl ?_
          refine mz_fgR (v := x.1) rfl fd_11_16 (by decide) (sc_0 _) rfl ?_
          refine mz_fgR (v := (x.1 + 1)) rfl fd_11_135 (by decide) (kc_load (kx_1 hx) _) (kr_load_0 (kx_1 hx) _ _ _) ?_
          refine mm_g 1 (pc1 := 91) (lo1 := [some (.ref 0), some (.int (Int32.ofInt a1)), some (.int (Int32.ofInt a2))]) (st1 := [.int (Int32.ofInt a1), .ref (x.1 + 1)]) (H1 := mz_mk g x) rfl ?_
          refine mz_cv rfl mt_11_213 (by decide) (kc_words (ks_load_0 (kx_1 hx)) _) rfl (Nat.le_of_ble_eq_true rfl) (by omega) (f_X10_within (by omega) hx hI (ks_load_0 (kx_1 hx)) l_a1 u_a1 (fun v18 l_v18 u_v18 hc19 => ⟨_, rfl, ?_⟩))
          show mm_W d mmX11_word 94 [some (.ref 0), some (.int (Int32.ofInt a1)), some (.int (Int32.ofInt a2))] [.int (Int32.ofInt v18)] (mz_mk g x) Q
          replace hE := zf_t1 hE hc19
          exact mm_rt rfl rfl (hQ _ (by omega) (by omega) hE)
        replace hE := zf_in hE c26_2
        by_cases c26_3 : a2 = 3
        · refine mz_tsi (tgt := 95) rfl (mz_rg l_a2 u_a2) (by omega) (by omega) (by rw [c26_3]; rfl) rfl ?_
          replace hE := zf_ip hE c26_3
          refine mm_g 1 (pc1 := 96) (lo1 := [some (.ref 0), some (.int (Int32.ofInt a1)), some (.int (Int32.ofInt a2))]) (st1 := [.ref 0]) (H1 := mz_mk g x) rfl ?_
          refine mz_fgR (v := x.1) rfl fd_11_16 (by decide) (sc_0 _) rfl ?_
          refine mz_fgR (v := (x.1 + 1)) rfl fd_11_135 (by decide) (kc_load (kx_1 hx) _) (kr_load_0 (kx_1 hx) _ _ _) ?_
          refine mm_g 1 (pc1 := 103) (lo1 := [some (.ref 0), some (.int (Int32.ofInt a1)), some (.int (Int32.ofInt a2))]) (st1 := [.int (Int32.ofInt a1), .ref (x.1 + 1)]) (H1 := mz_mk g x) rfl ?_
          refine mz_cv rfl mt_11_216 (by decide) (kc_words (ks_load_0 (kx_1 hx)) _) rfl (Nat.le_of_ble_eq_true rfl) (by omega) (f_X10_anagrams (by omega) hx hI (ks_load_0 (kx_1 hx)) l_a1 u_a1 (fun v20 l_v20 u_v20 hc21 => ⟨_, rfl, ?_⟩))
          show mm_W d mmX11_word 106 [some (.ref 0), some (.int (Int32.ofInt a1)), some (.int (Int32.ofInt a2))] [.int (Int32.ofInt v20)] (mz_mk g x) Q
          replace hE := zf_t1 hE hc21
          exact mm_rt rfl rfl (hQ _ (by omega) (by omega) hE)
        replace hE := zf_in hE c26_3
        refine mz_tso (tgt := 107) rfl (mz_rg l_a2 u_a2) (by omega) rfl ?_
        refine mm_g 2 (pc1 := 109) (lo1 := [some (.ref 0), some (.int (Int32.ofInt a1)), some (.int (Int32.ofInt a2))]) (st1 := [.int (Int32.ofInt a1), .ref 0]) (H1 := mz_mk g x) rfl ?_
        refine mz_cv rfl mt_11_219 (by decide) (sc_0 _) rfl (Nat.le_of_ble_eq_true rfl) (by omega) (f_X11_trunksWith (by omega) hx hI l_a1 u_a1 (fun v22 l_v22 u_v22 hc23 => ⟨_, rfl, ?_⟩))
        show mm_W d mmX11_word 112 [some (.ref 0), some (.int (Int32.ofInt a1)), some (.int (Int32.ofInt a2))] [.int (Int32.ofInt v22)] (mz_mk g x) Q
        replace hE := zf_t1 hE hc23
        exact mm_rt rfl rfl (hQ _ (by omega) (by omega) hE)
theorem f_X11_letter {d : Nat} (hd : 13 ≤ d) {x : mm_X} (hx : mk_x x) {g : mz_G} (hI : mz_inv g) {a1 : Int} (l_a1 : (-2147483648) ≤ a1) (u_a1 : a1 ≤ 2147483647) {a2 : Int} (l_a2 : (-2147483648) ≤ a2) (u_a2 : a2 ≤ 2147483647) {Q : (Option Value ⊕ Nat) → mm_H → Prop} (hQ : ∀ (r : Int), (-2147483648) ≤ r → r ≤ 2147483647 → zf_E (zF_X11_letter x a1 a2 g) ((0, r, g)) → Q (.inl (some (.int (Int32.ofInt r)))) (mz_mk g x)) (hX0 : (zf_E (zF_X11_letter x a1 a2 g) ((1, 0, g))) → Q (.inr 0) (mz_mk g (mz_tx x))) : mm_C d 131 [.ref 0, .int (Int32.ofInt a1), .int (Int32.ofInt a2)] (mz_mk g x) Q := by
  have kx := kn_x hx
  refine ⟨mmX11_letter, [some (.ref 0), some (.int (Int32.ofInt a1)), some (.int (Int32.ofInt a2)), none], rfl, rfl, ?_⟩
  have hE : zf_E (zF_X11_letter x a1 a2 g) (zF_X11_letter x a1 a2 g) := zf_rf
  refine mm_g 2 (pc1 := 2) (lo1 := [some (.ref 0), some (.int (Int32.ofInt a1)), some (.int (Int32.ofInt a2)), none]) (st1 := [.int (Int32.ofInt a1), .ref 0]) (H1 := mz_mk g x) rfl ?_
  refine mz_cv rfl mt_11_199 (by decide) (sc_0 _) rfl (Nat.le_of_ble_eq_true rfl) (by omega) (f_X11_isWord (by omega) hx hI l_a1 u_a1 (fun v1 l_v1 u_v1 hc2 => ⟨_, rfl, ?_⟩))
  show mm_W d mmX11_letter 5 [some (.ref 0), some (.int (Int32.ofInt a1)), some (.int (Int32.ofInt a2)), none] [.int (Int32.ofInt v1)] (mz_mk g x) Q
  replace hE := zf_t1 hE hc2
  (try unfold zJ_X11_letter_36 at hE)
  (try unfold zJ_X11_letter_37 at hE)
  (try unfold zJ_X11_letter_36 at hE)
  (try unfold zJ_X11_letter_37 at hE)
  refine mz_csx rfl mt_11_183 rfl (Nat.le_of_ble_eq_true rfl) (by omega) rfl nh_X11_mustBe (f_X11_mustBe (by omega) hx hI l_v1 u_v1 (fun hp3 hc4 => ?_) (fun hc => hX0 (zf_x2 hE hc (by decide))))
  show mm_W d mmX11_letter 8 [some (.ref 0), some (.int (Int32.ofInt a1)), some (.int (Int32.ofInt a2)), none] [] (mz_mk g x) Q
  replace hE := zf_x1 hE hc4
  refine mm_g 1 (pc1 := 9) (lo1 := [some (.ref 0), some (.int (Int32.ofInt a1)), some (.int (Int32.ofInt a2)), none]) (st1 := [.ref 0]) (H1 := mz_mk g x) rfl ?_
  refine mz_fgR (v := x.1) rfl fd_11_16 (by decide) (sc_0 _) rfl ?_
  refine mz_fgR (v := (x.1 + 1)) rfl fd_11_135 (by decide) (kc_load (kx_1 hx) _) (kr_load_0 (kx_1 hx) _ _ _) ?_
  refine mm_g 1 (pc1 := 16) (lo1 := [some (.ref 0), some (.int (Int32.ofInt a1)), some (.int (Int32.ofInt a2)), none]) (st1 := [.int (Int32.ofInt a1), .ref (x.1 + 1)]) (H1 := mz_mk g x) rfl ?_
  refine mz_cv rfl mt_11_203 (by decide) (kc_words (ks_load_0 (kx_1 hx)) _) rfl (Nat.le_of_ble_eq_true rfl) (by omega) (f_X10_of (by omega) hx hI (ks_load_0 (kx_1 hx)) l_a1 u_a1 (fun u5 k_u5 hp6 hc7 => ⟨_, rfl, ?_⟩))
  show mm_W d mmX11_letter 19 [some (.ref 0), some (.int (Int32.ofInt a1)), some (.int (Int32.ofInt a2)), none] [.ref u5] (mz_mk g x) Q
  replace hE := zf_t1 hE hc7
  refine mm_g 2 (pc1 := 21) (lo1 := [some (.ref 0), some (.int (Int32.ofInt a1)), some (.int (Int32.ofInt a2)), some (.ref u5)]) (st1 := [.int (Int32.ofInt a2)]) (H1 := mz_mk g x) rfl ?_
  refine mz_if_lt (tgt := 36) rfl rfl (mz_rg l_a2 u_a2) (fun c21_7 => ?_) (fun c21_7 => ?_)
  · skip
    replace hE := zf_ip hE c21_7
    refine mm_g 1 (pc1 := 37) (lo1 := [some (.ref 0), some (.int (Int32.ofInt a1)), some (.int (Int32.ofInt a2)), some (.ref u5)]) (st1 := [.int (Int32.ofInt 0)]) (H1 := mz_mk g x) rfl ?_
    (try unfold zJ_X11_letter_36 at hE)
    (try unfold zJ_X11_letter_37 at hE)
    (try unfold zJ_X11_letter_36 at hE)
    (try unfold zJ_X11_letter_37 at hE)
    refine mz_csx rfl mt_11_183 rfl (Nat.le_of_ble_eq_true rfl) (by omega) rfl nh_X11_mustBe (f_X11_mustBe (by omega) hx hI (by decide) (by decide) (fun hp8 hc9 => ?_) (fun hc => hX0 (zf_x2 hE hc (by decide))))
    show mm_W d mmX11_letter 40 [some (.ref 0), some (.int (Int32.ofInt a1)), some (.int (Int32.ofInt a2)), some (.ref u5)] [] (mz_mk g x) Q
    replace hE := zf_x1 hE hc9
    exfalso; omega
  · skip
    replace hE := zf_nl hE c21_7
    refine mm_g 2 (pc1 := 26) (lo1 := [some (.ref 0), some (.int (Int32.ofInt a1)), some (.int (Int32.ofInt a2)), some (.ref u5)]) (st1 := [.ref u5, .int (Int32.ofInt a2)]) (H1 := mz_mk g x) rfl ?_
    refine mz_cv rfl mt_11_207 (by decide) (kc_let k_u5 _) rfl (Nat.le_of_ble_eq_true rfl) (by omega) (f_X0_length (by omega) hx hI k_u5 (fun v10 l_v10 u_v10 hc11 => ⟨_, rfl, ?_⟩))
    show mm_W d mmX11_letter 29 [some (.ref 0), some (.int (Int32.ofInt a1)), some (.int (Int32.ofInt a2)), some (.ref u5)] [.int (Int32.ofInt v10), .int (Int32.ofInt a2)] (mz_mk g x) Q
    replace hE := zf_t1 hE hc11
    refine mz_ic_ge (tgt := 36) rfl rfl (mz_rg l_a2 u_a2) (mz_rg l_v10 u_v10) (fun c29_11 => ?_) (fun c29_11 => ?_)
    · skip
      replace hE := zf_nl hE c29_11
      refine mm_g 1 (pc1 := 37) (lo1 := [some (.ref 0), some (.int (Int32.ofInt a1)), some (.int (Int32.ofInt a2)), some (.ref u5)]) (st1 := [.int (Int32.ofInt 0)]) (H1 := mz_mk g x) rfl ?_
      (try unfold zJ_X11_letter_36 at hE)
      (try unfold zJ_X11_letter_37 at hE)
      (try unfold zJ_X11_letter_36 at hE)
      (try unfold zJ_X11_letter_37 at hE)
      refine mz_csx rfl mt_11_183 rfl (Nat.le_of_ble_eq_true rfl) (by omega) rfl nh_X11_mustBe (f_X11_mustBe (by omega) hx hI (by decide) (by decide) (fun hp12 hc13 => ?_) (fun hc => hX0 (zf_x2 hE hc (by decide))))
      show mm_W d mmX11_letter 40 [some (.ref 0), some (.int (Int32.ofInt a1)), some (.int (Int32.ofInt a2)), some (.ref u5)] [] (mz_mk g x) Q
      replace hE := zf_x1 hE hc13
      exfalso; omega
    · skip
      replace hE := zf_ip hE c29_11
      refine mm_g 1 (pc1 := 33) (lo1 := [some (.ref 0), some (.int (Int32.ofInt a1)), some (.int (Int32.ofInt a2)), some (.ref u5)]) (st1 := [.int (Int32.ofInt 1)]) (H1 := mz_mk g x) rfl ?_
      refine mz_gt (tgt := 37) rfl rfl ?_
      (try unfold zJ_X11_letter_36 at hE)
      (try unfold zJ_X11_letter_37 at hE)
      (try unfold zJ_X11_letter_36 at hE)
      (try unfold zJ_X11_letter_37 at hE)
      refine mz_csx rfl mt_11_183 rfl (Nat.le_of_ble_eq_true rfl) (by omega) rfl nh_X11_mustBe (f_X11_mustBe (by omega) hx hI (by decide) (by decide) (fun hp14 hc15 => ?_) (fun hc => hX0 (zf_x2 hE hc (by decide))))
      show mm_W d mmX11_letter 40 [some (.ref 0), some (.int (Int32.ofInt a1)), some (.int (Int32.ofInt a2)), some (.ref u5)] [] (mz_mk g x) Q
      replace hE := zf_x1 hE hc15
      refine mm_g 2 (pc1 := 42) (lo1 := [some (.ref 0), some (.int (Int32.ofInt a1)), some (.int (Int32.ofInt a2)), some (.ref u5)]) (st1 := [.int (Int32.ofInt a2), .ref u5]) (H1 := mz_mk g x) rfl ?_
      refine mz_cv rfl mt_11_228 (by decide) (kc_let k_u5 _) rfl (Nat.le_of_ble_eq_true rfl) (by omega) (f_X0_signAt (by omega) hx hI k_u5 l_a2 u_a2 (fun v16 l_v16 u_v16 hc17 => ⟨_, rfl, ?_⟩))
      show mm_W d mmX11_letter 45 [some (.ref 0), some (.int (Int32.ofInt a1)), some (.int (Int32.ofInt a2)), some (.ref u5)] [.int (Int32.ofInt v16)] (mz_mk g x) Q
      replace hE := zf_t1 hE hc17
      exact mm_rt rfl rfl (hQ _ (by omega) (by omega) hE)
theorem f_X11_isTrunk {d : Nat} (hd : 2 ≤ d) {x : mm_X} (hx : mk_x x) {g : mz_G} (hI : mz_inv g) {a1 : Int} (l_a1 : (-2147483648) ≤ a1) (u_a1 : a1 ≤ 2147483647) {Q : (Option Value ⊕ Nat) → mm_H → Prop} (hQ : ∀ (r : Int), 0 ≤ r → r ≤ 1 → zf_E (zF_X11_isTrunk x a1 g) (r) → Q (.inl (some (.int (Int32.ofInt r)))) (mz_mk g x)) : mm_C d 172 [.ref 0, .int (Int32.ofInt a1)] (mz_mk g x) Q := by
  have kx := kn_x hx
  refine ⟨mmX11_isTrunk, [some (.ref 0), some (.int (Int32.ofInt a1))], rfl, rfl, ?_⟩
  have hE : zf_E (zF_X11_isTrunk x a1 g) (zF_X11_isTrunk x a1 g) := zf_rf
  refine mm_g 1 (pc1 := 1) (lo1 := [some (.ref 0), some (.int (Int32.ofInt a1))]) (st1 := [.int (Int32.ofInt a1)]) (H1 := mz_mk g x) rfl ?_
  refine mz_if_lt (tgt := 16) rfl rfl (mz_rg l_a1 u_a1) (fun c1_0 => ?_) (fun c1_0 => ?_)
  · skip
    replace hE := zf_ip hE c1_0
    refine mm_g 1 (pc1 := 17) (lo1 := [some (.ref 0), some (.int (Int32.ofInt a1))]) (st1 := [.int (Int32.ofInt 0)]) (H1 := mz_mk g x) rfl ?_
    exact mz_rtZ rfl (by decide) (by omega) (hQ _ (by decide) (by decide) hE)
  · skip
    replace hE := zf_nl hE c1_0
    refine mm_g 2 (pc1 := 6) (lo1 := [some (.ref 0), some (.int (Int32.ofInt a1))]) (st1 := [.ref 0, .int (Int32.ofInt a1)]) (H1 := mz_mk g x) rfl ?_
    refine mz_cv rfl mt_11_155 (by decide) (sc_0 _) rfl (Nat.le_of_ble_eq_true rfl) (by omega) (f_X11_trunkCount (by omega) hx hI (fun v1 l_v1 u_v1 hc2 => ⟨_, rfl, ?_⟩))
    show mm_W d mmX11_isTrunk 9 [some (.ref 0), some (.int (Int32.ofInt a1))] [.int (Int32.ofInt v1), .int (Int32.ofInt a1)] (mz_mk g x) Q
    replace hE := zf_t1 hE hc2
    refine mz_ic_ge (tgt := 16) rfl rfl (mz_rg l_a1 u_a1) (mz_rg l_v1 u_v1) (fun c9_2 => ?_) (fun c9_2 => ?_)
    · skip
      replace hE := zf_nl hE c9_2
      refine mm_g 1 (pc1 := 17) (lo1 := [some (.ref 0), some (.int (Int32.ofInt a1))]) (st1 := [.int (Int32.ofInt 0)]) (H1 := mz_mk g x) rfl ?_
      exact mz_rtZ rfl (by decide) (by omega) (hQ _ (by decide) (by decide) hE)
    · skip
      replace hE := zf_ip hE c9_2
      refine mm_g 1 (pc1 := 13) (lo1 := [some (.ref 0), some (.int (Int32.ofInt a1))]) (st1 := [.int (Int32.ofInt 1)]) (H1 := mz_mk g x) rfl ?_
      refine mz_gt (tgt := 17) rfl rfl ?_
      exact mz_rtZ rfl (by decide) (by omega) (hQ _ (by decide) (by decide) hE)
def fl_X1_blendInto_47 (x : mm_X) (q0 : Nat) (q1 : Nat) (q2 : Nat) : Nat → Nat → Prop := fun k j => k = (q2 + 1) ∨ k = q2
def fl_X1_blendInto_78 (x : mm_X) (q0 : Nat) (q1 : Nat) (q2 : Nat) : Nat → Nat → Prop := fun k j => k = (q2 + 1) ∨ k = q2
def fw_X1_blendInto (x : mm_X) (q0 : Nat) (q1 : Nat) (q2 : Nat) : Nat → Nat → Prop := fun k j => k = q2 ∨ k = (q2 + 1)
theorem f_X1_blendInto {d : Nat} (hd : 3 ≤ d) {x : mm_X} (hx : mk_x x) {g : mz_G} (hI : mz_inv g) {q0 : Nat} (h_q0 : kd_load q0) {q1 : Nat} (h_q1 : kd_trunk q1) {q2 : Nat} (h_q2 : kd_let q2) {Q : (Option Value ⊕ Nat) → mm_H → Prop} (hQ : ∀ (g1 : mz_G), mz_inv g1 → mz_fr (fw_X1_blendInto x q0 q1 q2) g g1 → zf_E (zF_X1_blendInto q0 q1 q2 g) (g1) → Q (.inl none) (mz_mk g1 x)) : mm_C d 19 [.ref q0, .ref q1, .ref q2] (mz_mk g x) Q := by
  have kn_q0 := kn_load h_q0
  have kn_q1 := kn_trunk h_q1
  have kn_q2 := kn_let h_q2
  refine ⟨mmX1_blendInto, [some (.ref q0), some (.ref q1), some (.ref q2), none, none, none, none], rfl, rfl, ?_⟩
  have hE : zf_E (zF_X1_blendInto q0 q1 q2 g) (zF_X1_blendInto q0 q1 q2 g) := zf_rf
  refine mm_g 1 (pc1 := 1) (lo1 := [some (.ref q0), some (.ref q1), some (.ref q2), none, none, none, none]) (st1 := [.ref q0]) (H1 := mz_mk g x) rfl ?_
  refine mz_fgR (v := (q0 + 1)) rfl fd_1_12 (by decide) (kc_load h_q0 _) (kr_load_0 h_q0 _ _ _) ?_
  refine mm_g 1 (pc1 := 5) (lo1 := [some (.ref q0), some (.ref q1), some (.ref q2), none, none, none, none]) (st1 := [.ref q1, .ref (q0 + 1)]) (H1 := mz_mk g x) rfl ?_
  refine mz_gI rfl fd_1_57 (by decide) (kc_trunk h_q1 _) hI (kb_trunk_0 h_q1) (fun v1 e_v1 l_v1 u_v1 => ?_)
  replace hE := zf_tr hE (zf_le e_v1)
  refine mz_cv rfl mt_1_62 (by decide) (kc_words (ks_load_0 h_q0) _) rfl (Nat.le_of_ble_eq_true rfl) (by omega) (f_X10_of (by omega) hx hI (ks_load_0 h_q0) l_v1 u_v1 (fun u2 k_u2 hp3 hc4 => ⟨_, rfl, ?_⟩))
  show mm_W d mmX1_blendInto 11 [some (.ref q0), some (.ref q1), some (.ref q2), none, none, none, none] [.ref u2] (mz_mk g x) Q
  replace hE := zf_t1 hE hc4
  refine mm_g 2 (pc1 := 13) (lo1 := [some (.ref q0), some (.ref q1), some (.ref q2), some (.ref u2), none, none, none]) (st1 := [.ref q0]) (H1 := mz_mk g x) rfl ?_
  refine mz_fgR (v := (q0 + 1)) rfl fd_1_12 (by decide) (kc_load h_q0 _) (kr_load_0 h_q0 _ _ _) ?_
  refine mm_g 1 (pc1 := 17) (lo1 := [some (.ref q0), some (.ref q1), some (.ref q2), some (.ref u2), none, none, none]) (st1 := [.ref q1, .ref (q0 + 1)]) (H1 := mz_mk g x) rfl ?_
  refine mz_gI rfl fd_1_72 (by decide) (kc_trunk h_q1 _) hI (kb_trunk_1 h_q1) (fun v5 e_v5 l_v5 u_v5 => ?_)
  replace hE := zf_tr hE (zf_le e_v5)
  refine mz_cv rfl mt_1_62 (by decide) (kc_words (ks_load_0 h_q0) _) rfl (Nat.le_of_ble_eq_true rfl) (by omega) (f_X10_of (by omega) hx hI (ks_load_0 h_q0) l_v5 u_v5 (fun u6 k_u6 hp7 hc8 => ⟨_, rfl, ?_⟩))
  show mm_W d mmX1_blendInto 23 [some (.ref q0), some (.ref q1), some (.ref q2), some (.ref u2), none, none, none] [.ref u6] (mz_mk g x) Q
  replace hE := zf_t1 hE hc8
  refine mm_g 2 (pc1 := 26) (lo1 := [some (.ref q0), some (.ref q1), some (.ref q2), some (.ref u2), some (.ref u6), none, none]) (st1 := [.ref u2]) (H1 := mz_mk g x) rfl ?_
  refine mz_cv rfl mt_1_66 (by decide) (kc_let k_u2 _) rfl (Nat.le_of_ble_eq_true rfl) (by omega) (f_X0_length (by omega) hx hI k_u2 (fun v9 l_v9 u_v9 hc10 => ⟨_, rfl, ?_⟩))
  show mm_W d mmX1_blendInto 29 [some (.ref q0), some (.ref q1), some (.ref q2), some (.ref u2), some (.ref u6), none, none] [.int (Int32.ofInt v9)] (mz_mk g x) Q
  replace hE := zf_t1 hE hc10
  refine mm_g 1 (pc1 := 30) (lo1 := [some (.ref q0), some (.ref q1), some (.ref q2), some (.ref u2), some (.ref u6), none, none]) (st1 := [.ref q1, .int (Int32.ofInt v9)]) (H1 := mz_mk g x) rfl ?_
  refine mz_gI rfl fd_1_81 (by decide) (kc_trunk h_q1 _) hI (kb_trunk_3 h_q1) (fun v11 e_v11 l_v11 u_v11 => ?_)
  replace hE := zf_tr hE (zf_le e_v11)
  refine mm_g 1 (pc1 := 34) (lo1 := [some (.ref q0), some (.ref q1), some (.ref q2), some (.ref u2), some (.ref u6), none, none]) (st1 := [.int (Int32.ofInt 1), .int (Int32.ofInt v11), .int (Int32.ofInt v9)]) (H1 := mz_mk g x) rfl ?_
  refine mz_iadd_w rfl (fun v12 e_v12 hwv12 => ?_)
  have l_v12 := hwv12.1
  have u_v12 := hwv12.2
  replace hE := zf_tr hE (zf_le e_v12.symm)
  refine mm_g 1 (pc1 := 36) (lo1 := [some (.ref q0), some (.ref q1), some (.ref q2), some (.ref u2), some (.ref u6), none, none]) (st1 := [.int (Int32.ofInt 2), .int (Int32.ofInt v12), .int (Int32.ofInt v9)]) (H1 := mz_mk g x) rfl ?_
  refine mz_idiv rfl ⟨by decide, by decide⟩ (by decide) (fun v13 e_v13 hwv13 => ?_)
  replace hE := zf_tr hE (zf_le e_v13.symm)
  have l_v13 := hwv13.1
  have u_v13 := hwv13.2
  refine mz_isub_w rfl (fun v14 e_v14 hwv14 => ?_)
  have l_v14 := hwv14.1
  have u_v14 := hwv14.2
  replace hE := zf_tr hE (zf_le e_v14.symm)
  refine mm_g 2 (pc1 := 41) (lo1 := [some (.ref q0), some (.ref q1), some (.ref q2), some (.ref u2), some (.ref u6), some (.int (Int32.ofInt v14)), none]) (st1 := [.ref q2]) (H1 := mz_mk g x) rfl ?_
  refine mz_cv rfl mt_1_88 (by decide) (kc_let h_q2 _) rfl (Nat.le_of_ble_eq_true rfl) (by omega) (f_X0_empty (by omega) hx hI h_q2 (fun g15 hIg15 hfg15 hc16 => ⟨_, rfl, ?_⟩))
  show mm_W d mmX1_blendInto 44 [some (.ref q0), some (.ref q1), some (.ref q2), some (.ref u2), some (.ref u6), some (.int (Int32.ofInt v14)), none] [] (mz_mk g15 x) Q
  replace hE := zf_t1 hE hc16
  refine mm_g 2 (pc1 := 47) (lo1 := [some (.ref q0), some (.ref q1), some (.ref q2), some (.ref u2), some (.ref u6), some (.int (Int32.ofInt v14)), some (.int (Int32.ofInt 0))]) (st1 := []) (H1 := mz_mk g15 x) rfl ?_
  have L21 : ∀ n20 : Nat, ∀ (v17 : Int) (g18 : mz_G), (2147483647 - v17).toNat = n20 → 0 ≤ v17 → v17 ≤ 2147483647 → mz_inv g18 → mz_fr (fl_X1_blendInto_47 x q0 q1 q2) g15 g18 → (∃ fk : Nat, (2147483647 - v17).toNat < fk ∧ zf_E (zF_X1_blendInto q0 q1 q2 g) (zL_X1_blendInto_47 q0 q1 q2 fk u2 u6 v14 v17 g18)) → mm_W d mmX1_blendInto 47 [some (.ref q0), some (.ref q1), some (.ref q2), some (.ref u2), some (.ref u6), some (.int (Int32.ofInt v14)), some (.int (Int32.ofInt v17))] [] (mz_mk g18 x) Q := by
    intro n20
    induction n20 using Nat.strongRecOn with
    | ind n20 ih19 =>
    intro v17 g18 hmn20 l_v17 u_v17 hIg18 hfg18 hF
    obtain ⟨fk, fl, hE⟩ := hF
    obtain ⟨fj22, rfl⟩ : ∃ fj, fk = fj + 1 := ⟨fk - 1, by omega⟩
    have fn23 : n20 ≤ fj22 := by omega
    replace hE := zf_tr hE zL_X1_blendInto_47_s
    refine mm_g 2 (pc1 := 51) (lo1 := [some (.ref q0), some (.ref q1), some (.ref q2), some (.ref u2), some (.ref u6), some (.int (Int32.ofInt v14)), some (.int (Int32.ofInt v17))]) (st1 := [.int (Int32.ofInt v14), .int (Int32.ofInt v17)]) (H1 := mz_mk g18 x) rfl ?_
    refine mz_ic_ge (tgt := 70) rfl rfl (mz_rg l_v17 u_v17) (mz_rg l_v14 u_v14) (fun c51_23 => ?_) (fun c51_23 => ?_)
    · skip
      replace hE := zf_nl hE c51_23
      refine mm_g 1 (pc1 := 71) (lo1 := [some (.ref q0), some (.ref q1), some (.ref q2), some (.ref u2), some (.ref u6), some (.int (Int32.ofInt v14)), some (.int (Int32.ofInt v17))]) (st1 := [.ref q1]) (H1 := mz_mk g18 x) rfl ?_
      refine mz_fgI (v := v11) rfl fd_1_81 (by decide) (kc_trunk h_q1 _) (show g18 q1 3 = v11 from ((hfg18 q1 3 (fun h => (Or.elim h (fun h => (by have h9 : q1 = (q2 + 1) := h; omega)) (fun h => (by have h9 : q1 = q2 := h; omega))))).trans ((hfg15 q1 3 (fun h => (by have h9 : q1 = q2 := h; omega))).trans e_v11))) ?_
      replace hE := zf_tr hE (zf_le (show g18 q1 3 = v11 from ((hfg18 q1 3 (fun h => (Or.elim h (fun h => (by have h9 : q1 = (q2 + 1) := h; omega)) (fun h => (by have h9 : q1 = q2 := h; omega))))).trans ((hfg15 q1 3 (fun h => (by have h9 : q1 = q2 := h; omega))).trans e_v11))))
      refine mm_g 1 (pc1 := 75) (lo1 := [some (.ref q0), some (.ref q1), some (.ref q2), some (.ref u2), some (.ref u6), some (.int (Int32.ofInt v14)), some (.int (Int32.ofInt v17))]) (st1 := [.int (Int32.ofInt 2), .int (Int32.ofInt v11)]) (H1 := mz_mk g18 x) rfl ?_
      refine mz_idiv rfl ⟨by decide, by decide⟩ (by decide) (fun v24 e_v24 hwv24 => ?_)
      replace hE := zf_tr hE (zf_le e_v24.symm)
      have l_v24 := hwv24.1
      have u_v24 := hwv24.2
      refine mm_g 1 (pc1 := 78) (lo1 := [some (.ref q0), some (.ref q1), some (.ref q2), some (.ref u2), some (.ref u6), some (.int (Int32.ofInt v14)), some (.int (Int32.ofInt v24))]) (st1 := []) (H1 := mz_mk g18 x) rfl ?_
      have L29 : ∀ n28 : Nat, ∀ (v25 : Int) (g26 : mz_G), (16 - v25).toNat = n28 → (-2147483648) ≤ v25 → v25 ≤ 2147483647 → mz_inv g26 → mz_fr (fl_X1_blendInto_78 x q0 q1 q2) g18 g26 → (∃ fk : Nat, (16 - v25).toNat < fk ∧ zf_E (zF_X1_blendInto q0 q1 q2 g) (zL_X1_blendInto_78 q0 q1 q2 fk u6 v25 g26)) → mm_W d mmX1_blendInto 78 [some (.ref q0), some (.ref q1), some (.ref q2), some (.ref u2), some (.ref u6), some (.int (Int32.ofInt v14)), some (.int (Int32.ofInt v25))] [] (mz_mk g26 x) Q := by
        intro n28
        induction n28 using Nat.strongRecOn with
        | ind n28 ih27 =>
        intro v25 g26 hmn28 l_v25 u_v25 hIg26 hfg26 hF
        obtain ⟨fk, fl, hE⟩ := hF
        obtain ⟨fj30, rfl⟩ : ∃ fj, fk = fj + 1 := ⟨fk - 1, by omega⟩
        have fn31 : n28 ≤ fj30 := by omega
        replace hE := zf_tr hE zL_X1_blendInto_78_s
        refine mm_g 2 (pc1 := 82) (lo1 := [some (.ref q0), some (.ref q1), some (.ref q2), some (.ref u2), some (.ref u6), some (.int (Int32.ofInt v14)), some (.int (Int32.ofInt v25))]) (st1 := [.ref u6, .int (Int32.ofInt v25)]) (H1 := mz_mk g26 x) rfl ?_
        refine mz_cv rfl mt_1_66 (by decide) (kc_let k_u6 _) rfl (Nat.le_of_ble_eq_true rfl) (by omega) (f_X0_length (by omega) hx hIg26 k_u6 (fun v32 l_v32 u_v32 hc33 => ⟨_, rfl, ?_⟩))
        show mm_W d mmX1_blendInto 85 [some (.ref q0), some (.ref q1), some (.ref q2), some (.ref u2), some (.ref u6), some (.int (Int32.ofInt v14)), some (.int (Int32.ofInt v25))] [.int (Int32.ofInt v32), .int (Int32.ofInt v25)] (mz_mk g26 x) Q
        replace hE := zf_t1 hE hc33
        refine mz_ic_ge (tgt := 105) rfl rfl (mz_rg l_v25 u_v25) (mz_rg l_v32 u_v32) (fun c85_33 => ?_) (fun c85_33 => ?_)
        · skip
          replace hE := zf_nl hE c85_33
          exact mm_rt rfl rfl (hQ _ hIg26 (fun k j hk => ((hfg26 k j (fun h => hk (Or.elim h (fun h => (Or.inr h)) (fun h => (Or.inl h))))).trans ((hfg18 k j (fun h => hk (Or.elim h (fun h => (Or.inr h)) (fun h => (Or.inl h))))).trans (hfg15 k j (fun h => hk (Or.inl h)))))) hE)
        · skip
          replace hE := zf_ip hE c85_33
          refine mm_g 3 (pc1 := 93) (lo1 := [some (.ref q0), some (.ref q1), some (.ref q2), some (.ref u2), some (.ref u6), some (.int (Int32.ofInt v14)), some (.int (Int32.ofInt v25))]) (st1 := [.int (Int32.ofInt v25), .ref u6, .ref q2]) (H1 := mz_mk g26 x) rfl ?_
          refine mz_cv rfl mt_1_91 (by decide) (kc_let k_u6 _) rfl (Nat.le_of_ble_eq_true rfl) (by omega) (f_X0_signAt (by omega) hx hIg26 k_u6 l_v25 u_v25 (fun v34 l_v34 u_v34 hc35 => ⟨_, rfl, ?_⟩))
          show mm_W d mmX1_blendInto 96 [some (.ref q0), some (.ref q1), some (.ref q2), some (.ref u2), some (.ref u6), some (.int (Int32.ofInt v14)), some (.int (Int32.ofInt v25))] [.int (Int32.ofInt v34), .ref q2] (mz_mk g26 x) Q
          replace hE := zf_t1 hE hc35
          refine mz_cv rfl mt_1_95 (by decide) (kc_let h_q2 _) rfl (Nat.le_of_ble_eq_true rfl) (by omega) (f_X0_addLetter (by omega) hx hIg26 h_q2 l_v34 u_v34 (fun g36 hIg36 hfg36 hc37 => ⟨_, rfl, ?_⟩))
          show mm_W d mmX1_blendInto 99 [some (.ref q0), some (.ref q1), some (.ref q2), some (.ref u2), some (.ref u6), some (.int (Int32.ofInt v14)), some (.int (Int32.ofInt v25))] [] (mz_mk g36 x) Q
          replace hE := zf_t1 hE hc37
          refine mz_iincR (v := v25) (lo2 := [some (.ref q0), some (.ref q1), some (.ref q2), some (.ref u2), some (.ref u6), some (.int (Int32.ofInt v14)), some (.int (Int32.ofInt (v25 + 1)))]) rfl rfl rfl (Nat.le_of_ble_eq_true rfl) rfl ?_
          refine mz_gt (tgt := 78) rfl rfl ?_
          exact ih27 ((16 - (v25 + 1)).toNat) (by omega) (v25 + 1) g36 rfl (by omega) (by omega) hIg36 (fun k j hk => ((hfg36 k j (fun h => hk (Or.elim h (fun h => (Or.inl h)) (fun h => (Or.inr h))))).trans (hfg26 k j (fun h => hk (Or.elim h (fun h => (Or.inl h)) (fun h => (Or.inr h))))))) ⟨fj30, Nat.lt_of_lt_of_le (show ((16 - (v25 + 1)).toNat) < n28 from (by omega)) fn31, hE⟩
      exact L29 _ v24 g18 rfl (by omega) (by omega) hIg18 (fun _ _ _ => rfl) ⟨3000000000, by omega, hE⟩
    · skip
      replace hE := zf_ip hE c51_23
      refine mm_g 3 (pc1 := 58) (lo1 := [some (.ref q0), some (.ref q1), some (.ref q2), some (.ref u2), some (.ref u6), some (.int (Int32.ofInt v14)), some (.int (Int32.ofInt v17))]) (st1 := [.int (Int32.ofInt v17), .ref u2, .ref q2]) (H1 := mz_mk g18 x) rfl ?_
      refine mz_cv rfl mt_1_91 (by decide) (kc_let k_u2 _) rfl (Nat.le_of_ble_eq_true rfl) (by omega) (f_X0_signAt (by omega) hx hIg18 k_u2 (by omega) (by omega) (fun v38 l_v38 u_v38 hc39 => ⟨_, rfl, ?_⟩))
      show mm_W d mmX1_blendInto 61 [some (.ref q0), some (.ref q1), some (.ref q2), some (.ref u2), some (.ref u6), some (.int (Int32.ofInt v14)), some (.int (Int32.ofInt v17))] [.int (Int32.ofInt v38), .ref q2] (mz_mk g18 x) Q
      replace hE := zf_t1 hE hc39
      refine mz_cv rfl mt_1_95 (by decide) (kc_let h_q2 _) rfl (Nat.le_of_ble_eq_true rfl) (by omega) (f_X0_addLetter (by omega) hx hIg18 h_q2 l_v38 u_v38 (fun g40 hIg40 hfg40 hc41 => ⟨_, rfl, ?_⟩))
      show mm_W d mmX1_blendInto 64 [some (.ref q0), some (.ref q1), some (.ref q2), some (.ref u2), some (.ref u6), some (.int (Int32.ofInt v14)), some (.int (Int32.ofInt v17))] [] (mz_mk g40 x) Q
      replace hE := zf_t1 hE hc41
      refine mz_iincR (v := v17) (lo2 := [some (.ref q0), some (.ref q1), some (.ref q2), some (.ref u2), some (.ref u6), some (.int (Int32.ofInt v14)), some (.int (Int32.ofInt (v17 + 1)))]) rfl rfl rfl (Nat.le_of_ble_eq_true rfl) rfl ?_
      refine mz_gt (tgt := 47) rfl rfl ?_
      exact ih19 ((2147483647 - (v17 + 1)).toNat) (by omega) (v17 + 1) g40 rfl (by omega) (by omega) hIg40 (fun k j hk => ((hfg40 k j (fun h => hk (Or.elim h (fun h => (Or.inl h)) (fun h => (Or.inr h))))).trans (hfg18 k j (fun h => hk (Or.elim h (fun h => (Or.inl h)) (fun h => (Or.inr h))))))) ⟨fj22, Nat.lt_of_lt_of_le (show ((2147483647 - (v17 + 1)).toNat) < n20 from (by omega)) fn23, hE⟩
  exact L21 _ 0 g15 rfl (by decide) (by decide) hIg15 (fun _ _ _ => rfl) ⟨3000000000, by omega, hE⟩
def fl_X2_changes_2 (x : mm_X) (q1 : Nat) (q2 : Nat) : Nat → Nat → Prop := fun k j => k = 117
def fl_X2_changes_27 (x : mm_X) (q1 : Nat) (q2 : Nat) : Nat → Nat → Prop := fun k j => k = 117
def fl_X2_changes_59 (x : mm_X) (q1 : Nat) (q2 : Nat) : Nat → Nat → Prop := fun k j => k = 117
def fw_X2_changes (x : mm_X) (q1 : Nat) (q2 : Nat) : Nat → Nat → Prop := fun k j => k = 117
theorem f_X2_changes {d : Nat} (hd : 12 ≤ d) {x : mm_X} (hx : mk_x x) {g : mz_G} (hI : mz_inv g) {q1 : Nat} (h_q1 : kd_let q1) {q2 : Nat} (h_q2 : kd_let q2) {Q : (Option Value ⊕ Nat) → mm_H → Prop} (hQ : ∀ (r : Int) (g1 : mz_G), mz_inv g1 → mz_fr (fw_X2_changes x q1 q2) g g1 → (-2147483648) ≤ r → r ≤ 2147483647 → zf_E (zF_X2_changes q1 q2 g) ((r, g1)) → Q (.inl (some (.int (Int32.ofInt r)))) (mz_mk g1 x)) : mm_C d 25 [.ref 116, .ref q1, .ref q2] (mz_mk g x) Q := by
  have kn_q1 := kn_let h_q1
  have kn_q2 := kn_let h_q2
  refine ⟨mmX2_changes, [some (.ref 116), some (.ref q1), some (.ref q2), none, none, none, none, none], rfl, rfl, ?_⟩
  have hE : zf_E (zF_X2_changes q1 q2 g) (zF_X2_changes q1 q2 g) := zf_rf
  refine mm_g 2 (pc1 := 2) (lo1 := [some (.ref 116), some (.ref q1), some (.ref q2), some (.int (Int32.ofInt 0)), none, none, none, none]) (st1 := []) (H1 := mz_mk g x) rfl ?_
  have L5 : ∀ n4 : Nat, ∀ (v1 : Int) (g2 : mz_G), (17 - v1).toNat = n4 → 0 ≤ v1 → v1 ≤ 17 → mz_inv g2 → mz_fr (fl_X2_changes_2 x q1 q2) g g2 → (∃ fk : Nat, (17 - v1).toNat < fk ∧ zf_E (zF_X2_changes q1 q2 g) (zL_X2_changes_2 q1 q2 fk v1 g2)) → mm_W d mmX2_changes 2 [some (.ref 116), some (.ref q1), some (.ref q2), some (.int (Int32.ofInt v1)), none, none, none, none] [] (mz_mk g2 x) Q := by
    intro n4
    induction n4 using Nat.strongRecOn with
    | ind n4 ih3 =>
    intro v1 g2 hmn4 l_v1 u_v1 hIg2 hfg2 hF
    obtain ⟨fk, fl, hE⟩ := hF
    obtain ⟨fj6, rfl⟩ : ∃ fj, fk = fj + 1 := ⟨fk - 1, by omega⟩
    have fn7 : n4 ≤ fj6 := by omega
    replace hE := zf_tr hE zL_X2_changes_2_s
    refine mm_g 2 (pc1 := 4) (lo1 := [some (.ref 116), some (.ref q1), some (.ref q2), some (.int (Int32.ofInt v1)), none, none, none, none]) (st1 := [.ref q2, .int (Int32.ofInt v1)]) (H1 := mz_mk g2 x) rfl ?_
    refine mz_cv rfl mt_2_15 (by decide) (kc_let h_q2 _) rfl (Nat.le_of_ble_eq_true rfl) (by omega) (f_X0_length (by omega) hx hIg2 h_q2 (fun v8 l_v8 u_v8 hc9 => ⟨_, rfl, ?_⟩))
    show mm_W d mmX2_changes 7 [some (.ref 116), some (.ref q1), some (.ref q2), some (.int (Int32.ofInt v1)), none, none, none, none] [.int (Int32.ofInt v8), .int (Int32.ofInt v1)] (mz_mk g2 x) Q
    replace hE := zf_t1 hE hc9
    refine mz_ic_gt (tgt := 25) rfl rfl (mz_rg l_v1 u_v1) (mz_rg l_v8 u_v8) (fun c7_9 => ?_) (fun c7_9 => ?_)
    · skip
      replace hE := zf_ip hE c7_9
      refine mm_g 2 (pc1 := 27) (lo1 := [some (.ref 116), some (.ref q1), some (.ref q2), some (.int (Int32.ofInt 0)), none, none, none, none]) (st1 := []) (H1 := mz_mk g2 x) rfl ?_
      have L18 : ∀ n17 : Nat, ∀ (v10 : Int) (o11 : Option Value) (o12 : Option Value) (o13 : Option Value) (o14 : Option Value) (g15 : mz_G), (16 - v10).toNat = n17 → 0 ≤ v10 → v10 ≤ 16 → mz_nl o11 → mz_nl o12 → mz_nl o13 → mz_nl o14 → mz_inv g15 → mz_fr (fl_X2_changes_27 x q1 q2) g2 g15 → (∃ fk : Nat, (16 - v10).toNat < fk ∧ zf_E (zF_X2_changes q1 q2 g) (zL_X2_changes_27 q1 q2 fk v10 g15)) → mm_W d mmX2_changes 27 [some (.ref 116), some (.ref q1), some (.ref q2), some (.int (Int32.ofInt v10)), o11, o12, o13, o14] [] (mz_mk g15 x) Q := by
        intro n17
        induction n17 using Nat.strongRecOn with
        | ind n17 ih16 =>
        intro v10 o11 o12 o13 o14 g15 hmn17 l_v10 u_v10 h_o11 h_o12 h_o13 h_o14 hIg15 hfg15 hF
        obtain ⟨fk, fl, hE⟩ := hF
        obtain ⟨fj19, rfl⟩ : ∃ fj, fk = fj + 1 := ⟨fk - 1, by omega⟩
        have fn20 : n17 ≤ fj19 := by omega
        replace hE := zf_tr hE zL_X2_changes_27_s
        refine mm_g 2 (pc1 := 29) (lo1 := [some (.ref 116), some (.ref q1), some (.ref q2), some (.int (Int32.ofInt v10)), o11, o12, o13, o14]) (st1 := [.ref q1, .int (Int32.ofInt v10)]) (H1 := mz_mk g15 x) rfl ?_
        refine mz_cv rfl mt_2_15 (by decide) (kc_let h_q1 _) rfl (Nat.le_of_ble_eq_true rfl) (by omega) (f_X0_length (by omega) hx hIg15 h_q1 (fun v21 l_v21 u_v21 hc22 => ⟨_, rfl, ?_⟩))
        show mm_W d mmX2_changes 32 [some (.ref 116), some (.ref q1), some (.ref q2), some (.int (Int32.ofInt v10)), o11, o12, o13, o14] [.int (Int32.ofInt v21), .int (Int32.ofInt v10)] (mz_mk g15 x) Q
        replace hE := zf_t1 hE hc22
        refine mz_ic_ge (tgt := 153) rfl rfl (mz_rg l_v10 u_v10) (mz_rg l_v21 u_v21) (fun c32_22 => ?_) (fun c32_22 => ?_)
        · skip
          replace hE := zf_nl hE c32_22
          refine mm_g 1 (pc1 := 154) (lo1 := [some (.ref 116), some (.ref q1), some (.ref q2), some (.int (Int32.ofInt v10)), o11, o12, o13, o14]) (st1 := [.ref 116]) (H1 := mz_mk g15 x) rfl ?_
          refine mz_fgR (v := 117) rfl fd_2_9 (by decide) (sc_116 _) (rf_116_0 _ _ _) ?_
          refine mm_g 1 (pc1 := 158) (lo1 := [some (.ref 116), some (.ref q1), some (.ref q2), some (.int (Int32.ofInt v10)), o11, o12, o13, o14]) (st1 := [.ref q2, .ref 117]) (H1 := mz_mk g15 x) rfl ?_
          refine mz_cv rfl mt_2_15 (by decide) (kc_let h_q2 _) rfl (Nat.le_of_ble_eq_true rfl) (by omega) (f_X0_length (by omega) hx hIg15 h_q2 (fun v23 l_v23 u_v23 hc24 => ⟨_, rfl, ?_⟩))
          show mm_W d mmX2_changes 161 [some (.ref 116), some (.ref q1), some (.ref q2), some (.int (Int32.ofInt v10)), o11, o12, o13, o14] [.int (Int32.ofInt v23), .ref 117] (mz_mk g15 x) Q
          replace hE := zf_t1 hE hc24
          refine mz_cs rfl mt_2_25 (by decide) rfl (Nat.le_of_ble_eq_true rfl) (by omega) (f_X11_at (by omega) hx hIg15 (sh_117 _) (by decide) ba_117 (by omega) (by omega) (by omega) (by omega) (fun v25 l_v25 u_v25 hc26 => ⟨_, rfl, ?_⟩))
          show mm_W d mmX2_changes 164 [some (.ref 116), some (.ref q1), some (.ref q2), some (.int (Int32.ofInt v10)), o11, o12, o13, o14] [.int (Int32.ofInt v25)] (mz_mk g15 x) Q
          replace hE := zf_t1 hE hc26
          exact mm_rt rfl rfl (hQ _ _ hIg15 (fun k j hk => ((hfg15 k j (fun h => hk h)).trans (hfg2 k j (fun h => hk h)))) (by omega) (by omega) hE)
        · skip
          replace hE := zf_ip hE c32_22
          refine mm_g 1 (pc1 := 36) (lo1 := [some (.ref 116), some (.ref q1), some (.ref q2), some (.int (Int32.ofInt v10)), o11, o12, o13, o14]) (st1 := [.ref 116]) (H1 := mz_mk g15 x) rfl ?_
          refine mz_fgR (v := 117) rfl fd_2_9 (by decide) (sc_116 _) (rf_116_0 _ _ _) ?_
          refine mm_g 1 (pc1 := 40) (lo1 := [some (.ref 116), some (.ref q1), some (.ref q2), some (.int (Int32.ofInt v10)), o11, o12, o13, o14]) (st1 := [.int (Int32.ofInt 0), .ref 117]) (H1 := mz_mk g15 x) rfl ?_
          refine mz_cs rfl mt_2_25 (by decide) rfl (Nat.le_of_ble_eq_true rfl) (by omega) (f_X11_at (by omega) hx hIg15 (sh_117 _) (by decide) ba_117 (by omega) (by omega) (by decide) (by decide) (fun v27 l_v27 u_v27 hc28 => ⟨_, rfl, ?_⟩))
          show mm_W d mmX2_changes 43 [some (.ref 116), some (.ref q1), some (.ref q2), some (.int (Int32.ofInt v10)), o11, o12, o13, o14] [.int (Int32.ofInt v27)] (mz_mk g15 x) Q
          replace hE := zf_t1 hE hc28
          refine mm_g 2 (pc1 := 46) (lo1 := [some (.ref 116), some (.ref q1), some (.ref q2), some (.int (Int32.ofInt v10)), some (.int (Int32.ofInt v27)), o12, o13, o14]) (st1 := [.ref 116]) (H1 := mz_mk g15 x) rfl ?_
          refine mz_fgR (v := 117) rfl fd_2_9 (by decide) (sc_116 _) (rf_116_0 _ _ _) ?_
          refine mm_g 3 (pc1 := 52) (lo1 := [some (.ref 116), some (.ref q1), some (.ref q2), some (.int (Int32.ofInt v10)), some (.int (Int32.ofInt v27)), o12, o13, o14]) (st1 := [.int (Int32.ofInt 1), .int (Int32.ofInt v10), .int (Int32.ofInt 0), .ref 117]) (H1 := mz_mk g15 x) rfl ?_
          refine mz_iadd rfl ?_
          refine mz_cs rfl mt_2_21 (by decide) rfl (Nat.le_of_ble_eq_true rfl) (by omega) (f_X11_put (by omega) hx hIg15 (sh_117 _) (by decide) ba_117 (by omega) (by omega) (by decide) (by decide) (by omega) (by omega) (by omega) (by omega) (fun g29 hIg29 hfg29 hc30 => ⟨_, rfl, ?_⟩))
          show mm_W d mmX2_changes 56 [some (.ref 116), some (.ref q1), some (.ref q2), some (.int (Int32.ofInt v10)), some (.int (Int32.ofInt v27)), o12, o13, o14] [] (mz_mk g29 x) Q
          replace hE := zf_t1 hE hc30
          refine mm_g 2 (pc1 := 59) (lo1 := [some (.ref 116), some (.ref q1), some (.ref q2), some (.int (Int32.ofInt v10)), some (.int (Int32.ofInt v27)), some (.int (Int32.ofInt 0)), o13, o14]) (st1 := []) (H1 := mz_mk g29 x) rfl ?_
          have hO38 := hE
          have L39 : ∀ n37 : Nat, ∀ (v31 : Int) (v32 : Int) (o33 : Option Value) (o34 : Option Value) (g35 : mz_G), (16 - v32).toNat = n37 → (-2147483648) ≤ v31 → v31 ≤ 2147483647 → 0 ≤ v32 → v32 ≤ 16 → mz_nl o33 → mz_nl o34 → mz_inv g35 → mz_fr (fl_X2_changes_59 x q1 q2) g29 g35 → (∃ fk : Nat, (16 - v32).toNat < fk ∧ zf_E (zL_X2_changes_59 q1 q2 3000000000 v10 v27 0 g29) (zL_X2_changes_59 q1 q2 fk v10 v31 v32 g35)) → mm_W d mmX2_changes 59 [some (.ref 116), some (.ref q1), some (.ref q2), some (.int (Int32.ofInt v10)), some (.int (Int32.ofInt v31)), some (.int (Int32.ofInt v32)), o33, o34] [] (mz_mk g35 x) Q := by
            intro n37
            induction n37 using Nat.strongRecOn with
            | ind n37 ih36 =>
            intro v31 v32 o33 o34 g35 hmn37 l_v31 u_v31 l_v32 u_v32 h_o33 h_o34 hIg35 hfg35 hF
            obtain ⟨fk, fl, hE⟩ := hF
            obtain ⟨fj40, rfl⟩ : ∃ fj, fk = fj + 1 := ⟨fk - 1, by omega⟩
            have fn41 : n37 ≤ fj40 := by omega
            replace hE := zf_tr hE zL_X2_changes_59_s
            refine mm_g 2 (pc1 := 62) (lo1 := [some (.ref 116), some (.ref q1), some (.ref q2), some (.int (Int32.ofInt v10)), some (.int (Int32.ofInt v31)), some (.int (Int32.ofInt v32)), o33, o34]) (st1 := [.ref q2, .int (Int32.ofInt v32)]) (H1 := mz_mk g35 x) rfl ?_
            refine mz_cv rfl mt_2_15 (by decide) (kc_let h_q2 _) rfl (Nat.le_of_ble_eq_true rfl) (by omega) (f_X0_length (by omega) hx hIg35 h_q2 (fun v42 l_v42 u_v42 hc43 => ⟨_, rfl, ?_⟩))
            show mm_W d mmX2_changes 65 [some (.ref 116), some (.ref q1), some (.ref q2), some (.int (Int32.ofInt v10)), some (.int (Int32.ofInt v31)), some (.int (Int32.ofInt v32)), o33, o34] [.int (Int32.ofInt v42), .int (Int32.ofInt v32)] (mz_mk g35 x) Q
            replace hE := zf_t1 hE hc43
            refine mz_ic_ge (tgt := 147) rfl rfl (mz_rg l_v32 u_v32) (mz_rg l_v42 u_v42) (fun c65_43 => ?_) (fun c65_43 => ?_)
            · skip
              replace hE := zf_nl hE c65_43
              replace hE := zf_t1 hO38 hE
              refine mz_iincR (v := v10) (lo2 := [some (.ref 116), some (.ref q1), some (.ref q2), some (.int (Int32.ofInt (v10 + 1))), some (.int (Int32.ofInt v31)), some (.int (Int32.ofInt v32)), o33, o34]) rfl rfl rfl (Nat.le_of_ble_eq_true rfl) rfl ?_
              refine mz_gt (tgt := 27) rfl rfl ?_
              exact ih16 ((16 - (v10 + 1)).toNat) (by omega) (v10 + 1) (some (.int (Int32.ofInt v31))) (some (.int (Int32.ofInt v32))) o33 o34 g35 rfl (by omega) (by omega) (mz_nl_i _) (mz_nl_i _) h_o33 h_o34 hIg35 (fun k j hk => ((hfg35 k j (fun h => hk h)).trans ((hfg29 k j (fun h => hk h)).trans (hfg15 k j (fun h => hk h))))) ⟨fj19, Nat.lt_of_lt_of_le (show ((16 - (v10 + 1)).toNat) < n17 from (by omega)) fn20, hE⟩
            · skip
              replace hE := zf_ip hE c65_43
              refine mm_g 1 (pc1 := 69) (lo1 := [some (.ref 116), some (.ref q1), some (.ref q2), some (.int (Int32.ofInt v10)), some (.int (Int32.ofInt v31)), some (.int (Int32.ofInt v32)), o33, o34]) (st1 := [.ref 116]) (H1 := mz_mk g35 x) rfl ?_
              refine mz_fgR (v := 117) rfl fd_2_9 (by decide) (sc_116 _) (rf_116_0 _ _ _) ?_
              refine mm_g 2 (pc1 := 75) (lo1 := [some (.ref 116), some (.ref q1), some (.ref q2), some (.int (Int32.ofInt v10)), some (.int (Int32.ofInt v31)), some (.int (Int32.ofInt v32)), o33, o34]) (st1 := [.int (Int32.ofInt 1), .int (Int32.ofInt v32), .ref 117]) (H1 := mz_mk g35 x) rfl ?_
              refine mz_iadd rfl ?_
              refine mz_cs rfl mt_2_25 (by decide) rfl (Nat.le_of_ble_eq_true rfl) (by omega) (f_X11_at (by omega) hx hIg35 (sh_117 _) (by decide) ba_117 (by omega) (by omega) (by omega) (by omega) (fun v44 l_v44 u_v44 hc45 => ⟨_, rfl, ?_⟩))
              show mm_W d mmX2_changes 79 [some (.ref 116), some (.ref q1), some (.ref q2), some (.int (Int32.ofInt v10)), some (.int (Int32.ofInt v31)), some (.int (Int32.ofInt v32)), o33, o34] [.int (Int32.ofInt v44)] (mz_mk g35 x) Q
              replace hE := zf_t1 hE hc45
              refine mm_g 4 (pc1 := 85) (lo1 := [some (.ref 116), some (.ref q1), some (.ref q2), some (.int (Int32.ofInt v10)), some (.int (Int32.ofInt v31)), some (.int (Int32.ofInt v32)), some (.int (Int32.ofInt v44)), o34]) (st1 := [.int (Int32.ofInt v10), .ref q1, .int (Int32.ofInt v31)]) (H1 := mz_mk g35 x) rfl ?_
              refine mz_cv rfl mt_2_29 (by decide) (kc_let h_q1 _) rfl (Nat.le_of_ble_eq_true rfl) (by omega) (f_X0_signAt (by omega) hx hIg35 h_q1 (by omega) (by omega) (fun v46 l_v46 u_v46 hc47 => ⟨_, rfl, ?_⟩))
              show mm_W d mmX2_changes 88 [some (.ref 116), some (.ref q1), some (.ref q2), some (.int (Int32.ofInt v10)), some (.int (Int32.ofInt v31)), some (.int (Int32.ofInt v32)), some (.int (Int32.ofInt v44)), o34] [.int (Int32.ofInt v46), .int (Int32.ofInt v31)] (mz_mk g35 x) Q
              replace hE := zf_t1 hE hc47
              refine mm_g 2 (pc1 := 91) (lo1 := [some (.ref 116), some (.ref q1), some (.ref q2), some (.int (Int32.ofInt v10)), some (.int (Int32.ofInt v31)), some (.int (Int32.ofInt v32)), some (.int (Int32.ofInt v44)), o34]) (st1 := [.int (Int32.ofInt v32), .ref q2, .int (Int32.ofInt v46), .int (Int32.ofInt v31)]) (H1 := mz_mk g35 x) rfl ?_
              refine mz_cv rfl mt_2_29 (by decide) (kc_let h_q2 _) rfl (Nat.le_of_ble_eq_true rfl) (by omega) (f_X0_signAt (by omega) hx hIg35 h_q2 (by omega) (by omega) (fun v48 l_v48 u_v48 hc49 => ⟨_, rfl, ?_⟩))
              show mm_W d mmX2_changes 94 [some (.ref 116), some (.ref q1), some (.ref q2), some (.int (Int32.ofInt v10)), some (.int (Int32.ofInt v31)), some (.int (Int32.ofInt v32)), some (.int (Int32.ofInt v44)), o34] [.int (Int32.ofInt v48), .int (Int32.ofInt v46), .int (Int32.ofInt v31)] (mz_mk g35 x) Q
              replace hE := zf_t1 hE hc49
              refine mz_ic_ne (tgt := 101) rfl rfl (mz_rg l_v46 u_v46) (mz_rg l_v48 u_v48) (fun c94_49 => ?_) (fun c94_49 => ?_)
              · skip
                replace hE := zf_in hE c94_49
                refine mm_g 1 (pc1 := 102) (lo1 := [some (.ref 116), some (.ref q1), some (.ref q2), some (.int (Int32.ofInt v10)), some (.int (Int32.ofInt v31)), some (.int (Int32.ofInt v32)), some (.int (Int32.ofInt v44)), o34]) (st1 := [.int (Int32.ofInt 1), .int (Int32.ofInt v31)]) (H1 := mz_mk g35 x) rfl ?_
                refine mz_iadd_w rfl (fun v50 e_v50 hwv50 => ?_)
                have l_v50 := hwv50.1
                have u_v50 := hwv50.2
                replace hE := zf_tr hE (zf_le e_v50.symm)
                refine mm_g 2 (pc1 := 106) (lo1 := [some (.ref 116), some (.ref q1), some (.ref q2), some (.int (Int32.ofInt v10)), some (.int (Int32.ofInt v31)), some (.int (Int32.ofInt v32)), some (.int (Int32.ofInt v44)), some (.int (Int32.ofInt v50))]) (st1 := [.ref 116]) (H1 := mz_mk g35 x) rfl ?_
                refine mz_fgR (v := 117) rfl fd_2_9 (by decide) (sc_116 _) (rf_116_0 _ _ _) ?_
                refine mm_g 2 (pc1 := 112) (lo1 := [some (.ref 116), some (.ref q1), some (.ref q2), some (.int (Int32.ofInt v10)), some (.int (Int32.ofInt v31)), some (.int (Int32.ofInt v32)), some (.int (Int32.ofInt v44)), some (.int (Int32.ofInt v50))]) (st1 := [.int (Int32.ofInt 1), .int (Int32.ofInt v32), .ref 117]) (H1 := mz_mk g35 x) rfl ?_
                refine mz_iadd rfl ?_
                refine mm_g 3 (pc1 := 118) (lo1 := [some (.ref 116), some (.ref q1), some (.ref q2), some (.int (Int32.ofInt v10)), some (.int (Int32.ofInt v31)), some (.int (Int32.ofInt v32)), some (.int (Int32.ofInt v44)), some (.int (Int32.ofInt v50))]) (st1 := [.ref 116, .int (Int32.ofInt v44), .int (Int32.ofInt v50), .int (Int32.ofInt (v32 + 1)), .ref 117]) (H1 := mz_mk g35 x) rfl ?_
                refine mz_fgR (v := 117) rfl fd_2_9 (by decide) (sc_116 _) (rf_116_0 _ _ _) ?_
                refine mm_g 1 (pc1 := 123) (lo1 := [some (.ref 116), some (.ref q1), some (.ref q2), some (.int (Int32.ofInt v10)), some (.int (Int32.ofInt v31)), some (.int (Int32.ofInt v32)), some (.int (Int32.ofInt v44)), some (.int (Int32.ofInt v50))]) (st1 := [.int (Int32.ofInt v32), .ref 117, .int (Int32.ofInt v44), .int (Int32.ofInt v50), .int (Int32.ofInt (v32 + 1)), .ref 117]) (H1 := mz_mk g35 x) rfl ?_
                refine mz_cs rfl mt_2_25 (by decide) rfl (Nat.le_of_ble_eq_true rfl) (by omega) (f_X11_at (by omega) hx hIg35 (sh_117 _) (by decide) ba_117 (by omega) (by omega) (by omega) (by omega) (fun v51 l_v51 u_v51 hc52 => ⟨_, rfl, ?_⟩))
                show mm_W d mmX2_changes 126 [some (.ref 116), some (.ref q1), some (.ref q2), some (.int (Int32.ofInt v10)), some (.int (Int32.ofInt v31)), some (.int (Int32.ofInt v32)), some (.int (Int32.ofInt v44)), some (.int (Int32.ofInt v50))] [.int (Int32.ofInt v51), .int (Int32.ofInt v44), .int (Int32.ofInt v50), .int (Int32.ofInt (v32 + 1)), .ref 117] (mz_mk g35 x) Q
                replace hE := zf_t1 hE hc52
                refine mz_mn rfl mt_2_33 (Nat.le_of_ble_eq_true rfl) (by omega) (mz_rg l_v44 u_v44) (mz_rg l_v51 u_v51) (fun v53 e_v53 => ?_)
                have l_v53 : (-2147483648) ≤ v53 := by omega
                have u_v53 : v53 ≤ 2147483647 := by omega
                replace hE := zf_tr hE (zf_le e_v53.symm)
                refine mm_g 1 (pc1 := 130) (lo1 := [some (.ref 116), some (.ref q1), some (.ref q2), some (.int (Int32.ofInt v10)), some (.int (Int32.ofInt v31)), some (.int (Int32.ofInt v32)), some (.int (Int32.ofInt v44)), some (.int (Int32.ofInt v50))]) (st1 := [.int (Int32.ofInt 1), .int (Int32.ofInt v53), .int (Int32.ofInt v50), .int (Int32.ofInt (v32 + 1)), .ref 117]) (H1 := mz_mk g35 x) rfl ?_
                refine mz_iadd_w rfl (fun v54 e_v54 hwv54 => ?_)
                have l_v54 := hwv54.1
                have u_v54 := hwv54.2
                replace hE := zf_tr hE (zf_le e_v54.symm)
                refine mz_mn rfl mt_2_33 (Nat.le_of_ble_eq_true rfl) (by omega) (mz_rg l_v50 u_v50) (mz_rg l_v54 u_v54) (fun v55 e_v55 => ?_)
                have l_v55 : (-2147483648) ≤ v55 := by omega
                have u_v55 : v55 ≤ 2147483647 := by omega
                replace hE := zf_tr hE (zf_le e_v55.symm)
                refine mz_cs rfl mt_2_21 (by decide) rfl (Nat.le_of_ble_eq_true rfl) (by omega) (f_X11_put (by omega) hx hIg35 (sh_117 _) (by decide) ba_117 (by omega) (by omega) (by omega) (by omega) l_v55 u_v55 (by omega) (by omega) (fun g56 hIg56 hfg56 hc57 => ⟨_, rfl, ?_⟩))
                show mm_W d mmX2_changes 137 [some (.ref 116), some (.ref q1), some (.ref q2), some (.int (Int32.ofInt v10)), some (.int (Int32.ofInt v31)), some (.int (Int32.ofInt v32)), some (.int (Int32.ofInt v44)), some (.int (Int32.ofInt v50))] [] (mz_mk g56 x) Q
                replace hE := zf_t1 hE hc57
                refine mm_g 2 (pc1 := 141) (lo1 := [some (.ref 116), some (.ref q1), some (.ref q2), some (.int (Int32.ofInt v10)), some (.int (Int32.ofInt v44)), some (.int (Int32.ofInt v32)), some (.int (Int32.ofInt v44)), some (.int (Int32.ofInt v50))]) (st1 := []) (H1 := mz_mk g56 x) rfl ?_
                refine mz_iincR (v := v32) (lo2 := [some (.ref 116), some (.ref q1), some (.ref q2), some (.int (Int32.ofInt v10)), some (.int (Int32.ofInt v44)), some (.int (Int32.ofInt (v32 + 1))), some (.int (Int32.ofInt v44)), some (.int (Int32.ofInt v50))]) rfl rfl rfl (Nat.le_of_ble_eq_true rfl) rfl ?_
                refine mz_gt (tgt := 59) rfl rfl ?_
                exact ih36 ((16 - (v32 + 1)).toNat) (by omega) v44 (v32 + 1) (some (.int (Int32.ofInt v44))) (some (.int (Int32.ofInt v50))) g56 rfl (by omega) (by omega) (by omega) (by omega) (mz_nl_i _) (mz_nl_i _) hIg56 (fun k j hk => ((hfg56 k j (fun h => hk h)).trans (hfg35 k j (fun h => hk h)))) ⟨fj40, Nat.lt_of_lt_of_le (show ((16 - (v32 + 1)).toNat) < n37 from (by omega)) fn41, hE⟩
              · skip
                replace hE := zf_ip hE c94_49
                refine mm_g 1 (pc1 := 98) (lo1 := [some (.ref 116), some (.ref q1), some (.ref q2), some (.int (Int32.ofInt v10)), some (.int (Int32.ofInt v31)), some (.int (Int32.ofInt v32)), some (.int (Int32.ofInt v44)), o34]) (st1 := [.int (Int32.ofInt 0), .int (Int32.ofInt v31)]) (H1 := mz_mk g35 x) rfl ?_
                refine mz_gt (tgt := 102) rfl rfl ?_
                refine mz_iadd rfl ?_
                replace hE := zf_tr hE (zf_lw ⟨by omega, by omega⟩)
                refine mm_g 2 (pc1 := 106) (lo1 := [some (.ref 116), some (.ref q1), some (.ref q2), some (.int (Int32.ofInt v10)), some (.int (Int32.ofInt v31)), some (.int (Int32.ofInt v32)), some (.int (Int32.ofInt v44)), some (.int (Int32.ofInt (v31 + 0)))]) (st1 := [.ref 116]) (H1 := mz_mk g35 x) rfl ?_
                refine mz_fgR (v := 117) rfl fd_2_9 (by decide) (sc_116 _) (rf_116_0 _ _ _) ?_
                refine mm_g 2 (pc1 := 112) (lo1 := [some (.ref 116), some (.ref q1), some (.ref q2), some (.int (Int32.ofInt v10)), some (.int (Int32.ofInt v31)), some (.int (Int32.ofInt v32)), some (.int (Int32.ofInt v44)), some (.int (Int32.ofInt (v31 + 0)))]) (st1 := [.int (Int32.ofInt 1), .int (Int32.ofInt v32), .ref 117]) (H1 := mz_mk g35 x) rfl ?_
                refine mz_iadd rfl ?_
                refine mm_g 3 (pc1 := 118) (lo1 := [some (.ref 116), some (.ref q1), some (.ref q2), some (.int (Int32.ofInt v10)), some (.int (Int32.ofInt v31)), some (.int (Int32.ofInt v32)), some (.int (Int32.ofInt v44)), some (.int (Int32.ofInt (v31 + 0)))]) (st1 := [.ref 116, .int (Int32.ofInt v44), .int (Int32.ofInt (v31 + 0)), .int (Int32.ofInt (v32 + 1)), .ref 117]) (H1 := mz_mk g35 x) rfl ?_
                refine mz_fgR (v := 117) rfl fd_2_9 (by decide) (sc_116 _) (rf_116_0 _ _ _) ?_
                refine mm_g 1 (pc1 := 123) (lo1 := [some (.ref 116), some (.ref q1), some (.ref q2), some (.int (Int32.ofInt v10)), some (.int (Int32.ofInt v31)), some (.int (Int32.ofInt v32)), some (.int (Int32.ofInt v44)), some (.int (Int32.ofInt (v31 + 0)))]) (st1 := [.int (Int32.ofInt v32), .ref 117, .int (Int32.ofInt v44), .int (Int32.ofInt (v31 + 0)), .int (Int32.ofInt (v32 + 1)), .ref 117]) (H1 := mz_mk g35 x) rfl ?_
                refine mz_cs rfl mt_2_25 (by decide) rfl (Nat.le_of_ble_eq_true rfl) (by omega) (f_X11_at (by omega) hx hIg35 (sh_117 _) (by decide) ba_117 (by omega) (by omega) (by omega) (by omega) (fun v58 l_v58 u_v58 hc59 => ⟨_, rfl, ?_⟩))
                show mm_W d mmX2_changes 126 [some (.ref 116), some (.ref q1), some (.ref q2), some (.int (Int32.ofInt v10)), some (.int (Int32.ofInt v31)), some (.int (Int32.ofInt v32)), some (.int (Int32.ofInt v44)), some (.int (Int32.ofInt (v31 + 0)))] [.int (Int32.ofInt v58), .int (Int32.ofInt v44), .int (Int32.ofInt (v31 + 0)), .int (Int32.ofInt (v32 + 1)), .ref 117] (mz_mk g35 x) Q
                replace hE := zf_t1 hE hc59
                refine mz_mn rfl mt_2_33 (Nat.le_of_ble_eq_true rfl) (by omega) (mz_rg l_v44 u_v44) (mz_rg l_v58 u_v58) (fun v60 e_v60 => ?_)
                have l_v60 : (-2147483648) ≤ v60 := by omega
                have u_v60 : v60 ≤ 2147483647 := by omega
                replace hE := zf_tr hE (zf_le e_v60.symm)
                refine mm_g 1 (pc1 := 130) (lo1 := [some (.ref 116), some (.ref q1), some (.ref q2), some (.int (Int32.ofInt v10)), some (.int (Int32.ofInt v31)), some (.int (Int32.ofInt v32)), some (.int (Int32.ofInt v44)), some (.int (Int32.ofInt (v31 + 0)))]) (st1 := [.int (Int32.ofInt 1), .int (Int32.ofInt v60), .int (Int32.ofInt (v31 + 0)), .int (Int32.ofInt (v32 + 1)), .ref 117]) (H1 := mz_mk g35 x) rfl ?_
                refine mz_iadd_w rfl (fun v61 e_v61 hwv61 => ?_)
                have l_v61 := hwv61.1
                have u_v61 := hwv61.2
                replace hE := zf_tr hE (zf_le e_v61.symm)
                refine mz_mn rfl mt_2_33 (Nat.le_of_ble_eq_true rfl) (by omega) ⟨by omega, by omega⟩ (mz_rg l_v61 u_v61) (fun v62 e_v62 => ?_)
                have l_v62 : (-2147483648) ≤ v62 := by omega
                have u_v62 : v62 ≤ 2147483647 := by omega
                replace hE := zf_tr hE (zf_le e_v62.symm)
                refine mz_cs rfl mt_2_21 (by decide) rfl (Nat.le_of_ble_eq_true rfl) (by omega) (f_X11_put (by omega) hx hIg35 (sh_117 _) (by decide) ba_117 (by omega) (by omega) (by omega) (by omega) l_v62 u_v62 (by omega) (by omega) (fun g63 hIg63 hfg63 hc64 => ⟨_, rfl, ?_⟩))
                show mm_W d mmX2_changes 137 [some (.ref 116), some (.ref q1), some (.ref q2), some (.int (Int32.ofInt v10)), some (.int (Int32.ofInt v31)), some (.int (Int32.ofInt v32)), some (.int (Int32.ofInt v44)), some (.int (Int32.ofInt (v31 + 0)))] [] (mz_mk g63 x) Q
                replace hE := zf_t1 hE hc64
                refine mm_g 2 (pc1 := 141) (lo1 := [some (.ref 116), some (.ref q1), some (.ref q2), some (.int (Int32.ofInt v10)), some (.int (Int32.ofInt v44)), some (.int (Int32.ofInt v32)), some (.int (Int32.ofInt v44)), some (.int (Int32.ofInt (v31 + 0)))]) (st1 := []) (H1 := mz_mk g63 x) rfl ?_
                refine mz_iincR (v := v32) (lo2 := [some (.ref 116), some (.ref q1), some (.ref q2), some (.int (Int32.ofInt v10)), some (.int (Int32.ofInt v44)), some (.int (Int32.ofInt (v32 + 1))), some (.int (Int32.ofInt v44)), some (.int (Int32.ofInt (v31 + 0)))]) rfl rfl rfl (Nat.le_of_ble_eq_true rfl) rfl ?_
                refine mz_gt (tgt := 59) rfl rfl ?_
                exact ih36 ((16 - (v32 + 1)).toNat) (by omega) v44 (v32 + 1) (some (.int (Int32.ofInt v44))) (some (.int (Int32.ofInt (v31 + 0)))) g63 rfl (by omega) (by omega) (by omega) (by omega) (mz_nl_i _) (mz_nl_i _) hIg63 (fun k j hk => ((hfg63 k j (fun h => hk h)).trans (hfg35 k j (fun h => hk h)))) ⟨fj40, Nat.lt_of_lt_of_le (show ((16 - (v32 + 1)).toNat) < n37 from (by omega)) fn41, hE⟩
          exact L39 _ v27 0 o13 o14 g29 rfl (by omega) (by omega) (by decide) (by decide) h_o13 h_o14 hIg29 (fun _ _ _ => rfl) ⟨3000000000, by omega, zf_rf⟩
      exact L18 _ 0 none none none none g2 rfl (by decide) (by decide) mz_nl_n mz_nl_n mz_nl_n mz_nl_n hIg2 (fun _ _ _ => rfl) ⟨3000000000, by omega, hE⟩
    · skip
      replace hE := zf_nl hE c7_9
      refine mm_g 1 (pc1 := 11) (lo1 := [some (.ref 116), some (.ref q1), some (.ref q2), some (.int (Int32.ofInt v1)), none, none, none, none]) (st1 := [.ref 116]) (H1 := mz_mk g2 x) rfl ?_
      refine mz_fgR (v := 117) rfl fd_2_9 (by decide) (sc_116 _) (rf_116_0 _ _ _) ?_
      refine mm_g 2 (pc1 := 16) (lo1 := [some (.ref 116), some (.ref q1), some (.ref q2), some (.int (Int32.ofInt v1)), none, none, none, none]) (st1 := [.int (Int32.ofInt v1), .int (Int32.ofInt v1), .ref 117]) (H1 := mz_mk g2 x) rfl ?_
      refine mz_cs rfl mt_2_21 (by decide) rfl (Nat.le_of_ble_eq_true rfl) (by omega) (f_X11_put (by omega) hx hIg2 (sh_117 _) (by decide) ba_117 (by omega) (by omega) (by omega) (by omega) (by omega) (by omega) (by omega) (by omega) (fun g65 hIg65 hfg65 hc66 => ⟨_, rfl, ?_⟩))
      show mm_W d mmX2_changes 19 [some (.ref 116), some (.ref q1), some (.ref q2), some (.int (Int32.ofInt v1)), none, none, none, none] [] (mz_mk g65 x) Q
      replace hE := zf_t1 hE hc66
      refine mz_iincR (v := v1) (lo2 := [some (.ref 116), some (.ref q1), some (.ref q2), some (.int (Int32.ofInt (v1 + 1))), none, none, none, none]) rfl rfl rfl (Nat.le_of_ble_eq_true rfl) rfl ?_
      refine mz_gt (tgt := 2) rfl rfl ?_
      exact ih3 ((17 - (v1 + 1)).toNat) (by omega) (v1 + 1) g65 rfl (by omega) (by omega) hIg65 (fun k j hk => ((hfg65 k j (fun h => hk h)).trans (hfg2 k j (fun h => hk h)))) ⟨fj6, Nat.lt_of_lt_of_le (show ((17 - (v1 + 1)).toNat) < n4 from (by omega)) fn7, hE⟩
  exact L5 _ 0 g rfl (by decide) (by decide) hI (fun _ _ _ => rfl) ⟨3000000000, by omega, hE⟩
def fw_X3_setCost (x : mm_X) (a1 : Int) (a2 : Int) (a3 : Int) : Nat → Nat → Prop := fun k j => k = 119
theorem f_X3_setCost {d : Nat} (hd : 2 ≤ d) {x : mm_X} (hx : mk_x x) {g : mz_G} (hI : mz_inv g) {a1 : Int} (l_a1 : (-2147483648) ≤ a1) (u_a1 : a1 ≤ 2147483647) {a2 : Int} (l_a2 : (-2147483648) ≤ a2) (u_a2 : a2 ≤ 2147483647) {a3 : Int} (l_a3 : (-2147483648) ≤ a3) (u_a3 : a3 ≤ 2147483647) {Q : (Option Value ⊕ Nat) → mm_H → Prop} (hQ : ∀ (g1 : mz_G), mz_inv g1 → mz_fr (fw_X3_setCost x a1 a2 a3) g g1 → zf_E (zF_X3_setCost a1 a2 a3 g) (g1) → Q (.inl none) (mz_mk g1 x)) : mm_C d 28 [.ref 118, .int (Int32.ofInt a1), .int (Int32.ofInt a2), .int (Int32.ofInt a3)] (mz_mk g x) Q := by
  refine ⟨mmX3_setCost, [some (.ref 118), some (.int (Int32.ofInt a1)), some (.int (Int32.ofInt a2)), some (.int (Int32.ofInt a3))], rfl, rfl, ?_⟩
  have hE : zf_E (zF_X3_setCost a1 a2 a3 g) (zF_X3_setCost a1 a2 a3 g) := zf_rf
  refine mm_g 1 (pc1 := 1) (lo1 := [some (.ref 118), some (.int (Int32.ofInt a1)), some (.int (Int32.ofInt a2)), some (.int (Int32.ofInt a3))]) (st1 := [.ref 118]) (H1 := mz_mk g x) rfl ?_
  refine mz_fgR (v := 119) rfl fd_3_9 (by decide) (sc_118 _) (rf_118_0 _ _ _) ?_
  refine mm_g 1 (pc1 := 5) (lo1 := [some (.ref 118), some (.int (Int32.ofInt a1)), some (.int (Int32.ofInt a2)), some (.int (Int32.ofInt a3))]) (st1 := [.int (Int32.ofInt a1), .ref 119]) (H1 := mz_mk g x) rfl ?_
  refine mz_bip rfl bip_6 ?_
  refine mz_imul_w rfl (fun v1 e_v1 hwv1 => ?_)
  have l_v1 := hwv1.1
  have u_v1 := hwv1.2
  replace hE := zf_tr hE (zf_le e_v1.symm)
  refine mm_g 1 (pc1 := 9) (lo1 := [some (.ref 118), some (.int (Int32.ofInt a1)), some (.int (Int32.ofInt a2)), some (.int (Int32.ofInt a3))]) (st1 := [.int (Int32.ofInt a2), .int (Int32.ofInt v1), .ref 119]) (H1 := mz_mk g x) rfl ?_
  refine mz_iadd_w rfl (fun v2 e_v2 hwv2 => ?_)
  have l_v2 := hwv2.1
  have u_v2 := hwv2.2
  replace hE := zf_tr hE (zf_le e_v2.symm)
  refine mm_g 1 (pc1 := 11) (lo1 := [some (.ref 118), some (.int (Int32.ofInt a1)), some (.int (Int32.ofInt a2)), some (.int (Int32.ofInt a3))]) (st1 := [.int (Int32.ofInt a3), .int (Int32.ofInt v2), .ref 119]) (H1 := mz_mk g x) rfl ?_
  refine mz_cs rfl mt_3_25 (by decide) rfl (Nat.le_of_ble_eq_true rfl) (by omega) (f_X11_put (by omega) hx hI (sh_119 _) (by decide) ba_119 (by omega) (by omega) l_v2 u_v2 l_a3 u_a3 (by omega) (by omega) (fun g3 hIg3 hfg3 hc4 => ⟨_, rfl, ?_⟩))
  show mm_W d mmX3_setCost 14 [some (.ref 118), some (.int (Int32.ofInt a1)), some (.int (Int32.ofInt a2)), some (.int (Int32.ofInt a3))] [] (mz_mk g3 x) Q
  replace hE := zf_t1 hE hc4
  exact mm_rt rfl rfl (hQ _ hIg3 (fun k j hk => (hfg3 k j (fun h => hk h))) hE)
theorem f_X11_lowestBit {d : Nat} (hd : 1 ≤ d) {x : mm_X} (hx : mk_x x) {g : mz_G} (hI : mz_inv g) {a1 : Int} (l_a1 : (-2147483648) ≤ a1) (u_a1 : a1 ≤ 2147483647) {Q : (Option Value ⊕ Nat) → mm_H → Prop} (hQ : ∀ (r : Int), 0 ≤ r → r ≤ 32 → zf_E (zF_X11_lowestBit a1 g) (r) → Q (.inl (some (.int (Int32.ofInt r)))) (mz_mk g x)) : mm_C d 179 [.int (Int32.ofInt a1)] (mz_mk g x) Q := by
  have kx := kn_x hx
  refine ⟨mmX11_lowestBit, [some (.int (Int32.ofInt a1)), none], rfl, rfl, ?_⟩
  have hE : zf_E (zF_X11_lowestBit a1 g) (zF_X11_lowestBit a1 g) := zf_rf
  refine mm_g 2 (pc1 := 2) (lo1 := [some (.int (Int32.ofInt a1)), some (.int (Int32.ofInt 0))]) (st1 := []) (H1 := mz_mk g x) rfl ?_
  have L5 : ∀ n4 : Nat, ∀ (v1 : Int), (32 - v1).toNat = n4 → 0 ≤ v1 → v1 ≤ 32 → (∃ fk : Nat, (32 - v1).toNat < fk ∧ zf_E (zF_X11_lowestBit a1 g) (zL_X11_lowestBit_2 a1 g fk v1)) → mm_W d mmX11_lowestBit 2 [some (.int (Int32.ofInt a1)), some (.int (Int32.ofInt v1))] [] (mz_mk g x) Q := by
    intro n4
    induction n4 using Nat.strongRecOn with
    | ind n4 ih3 =>
    intro v1 hmn4 l_v1 u_v1 hF
    obtain ⟨fk, fl, hE⟩ := hF
    obtain ⟨fj6, rfl⟩ : ∃ fj, fk = fj + 1 := ⟨fk - 1, by omega⟩
    have fn7 : n4 ≤ fj6 := by omega
    replace hE := zf_tr hE zL_X11_lowestBit_2_s
    refine mm_g 1 (pc1 := 3) (lo1 := [some (.int (Int32.ofInt a1)), some (.int (Int32.ofInt v1))]) (st1 := [.int (Int32.ofInt v1)]) (H1 := mz_mk g x) rfl ?_
    refine mz_bip rfl bip_32 ?_
    refine mz_ic_ge (tgt := 22) rfl rfl (mz_rg l_v1 u_v1) ⟨by decide, by decide⟩ (fun c5_7 => ?_) (fun c5_7 => ?_)
    · skip
      replace hE := zf_nl hE c5_7
      refine mm_g 1 (pc1 := 23) (lo1 := [some (.int (Int32.ofInt a1)), some (.int (Int32.ofInt v1))]) (st1 := [.int (Int32.ofInt v1)]) (H1 := mz_mk g x) rfl ?_
      exact mm_rt rfl rfl (hQ _ (by omega) (by omega) hE)
    · skip
      replace hE := zf_ip hE c5_7
      refine mm_g 3 (pc1 := 11) (lo1 := [some (.int (Int32.ofInt a1)), some (.int (Int32.ofInt v1))]) (st1 := [.int (Int32.ofInt v1), .int (Int32.ofInt 1), .int (Int32.ofInt a1)]) (H1 := mz_mk g x) rfl ?_
      refine mz_ishl rfl (fun v8 e_v8 hwv8 => ?_)
      have l_v8 := hwv8.1
      have u_v8 := hwv8.2
      replace hE := zf_tr hE (zf_le e_v8.symm)
      refine mz_iand rfl (fun v9 e_v9 hwv9 => ?_)
      have l_v9 := hwv9.1
      have u_v9 := hwv9.2
      replace hE := zf_tr hE (zf_le e_v9.symm)
      refine mz_if_ne (tgt := 22) rfl rfl (mz_rg l_v9 u_v9) (fun c13_9 => ?_) (fun c13_9 => ?_)
      · skip
        replace hE := zf_in hE c13_9
        refine mm_g 1 (pc1 := 23) (lo1 := [some (.int (Int32.ofInt a1)), some (.int (Int32.ofInt v1))]) (st1 := [.int (Int32.ofInt v1)]) (H1 := mz_mk g x) rfl ?_
        exact mm_rt rfl rfl (hQ _ (by omega) (by omega) hE)
      · skip
        replace hE := zf_ip hE c13_9
        refine mz_iincR (v := v1) (lo2 := [some (.int (Int32.ofInt a1)), some (.int (Int32.ofInt (v1 + 1)))]) rfl rfl rfl (Nat.le_of_ble_eq_true rfl) rfl ?_
        refine mz_gt (tgt := 2) rfl rfl ?_
        exact ih3 ((32 - (v1 + 1)).toNat) (by omega) (v1 + 1) rfl (by omega) (by omega) ⟨fj6, Nat.lt_of_lt_of_le (show ((32 - (v1 + 1)).toNat) < n4 from (by omega)) fn7, hE⟩
  exact L5 _ 0 rfl (by decide) (by decide) ⟨3000000000, by omega, hE⟩
theorem f_J6_bitCount {d : Nat} (hd : 1 ≤ d) {x : mm_X} (hx : mk_x x) {g : mz_G} (hI : mz_inv g) {a1 : Int} (l_a1 : (-2147483648) ≤ a1) (u_a1 : a1 ≤ 2147483647) {Q : (Option Value ⊕ Nat) → mm_H → Prop} (hQ : ∀ (r : Int), 0 ≤ r → r ≤ 63 → zf_E (zF_J6_bitCount a1 g) (r) → Q (.inl (some (.int (Int32.ofInt r)))) (mz_mk g x)) : mm_C d 293 [.int (Int32.ofInt a1)] (mz_mk g x) Q := by
  refine ⟨mmJ6_bitCount, [some (.int (Int32.ofInt a1))], rfl, rfl, ?_⟩
  have hE : zf_E (zF_J6_bitCount a1 g) (zF_J6_bitCount a1 g) := zf_rf
  refine mm_g 3 (pc1 := 3) (lo1 := [some (.int (Int32.ofInt a1))]) (st1 := [.int (Int32.ofInt 1), .int (Int32.ofInt a1), .int (Int32.ofInt a1)]) (H1 := mz_mk g x) rfl ?_
  refine mz_iushr rfl (fun v1 e_v1 hwv1 => ?_)
  have l_v1 := hwv1.1
  have u_v1 := hwv1.2
  replace hE := zf_tr hE (zf_le e_v1.symm)
  refine mz_ldcwI (c := 1431655765) rfl rfl rfl ?_
  refine mz_iand rfl (fun v2 e_v2 hwv2 => ?_)
  have b_v2 : 0 ≤ v2 ∧ v2 ≤ 1431655765 := by rw [e_v2]; exact mz_and_r (by omega) (by omega) (mz_rg l_v1 u_v1)
  have l_v2 := b_v2.1
  have u_v2 := b_v2.2
  replace hE := zf_tr hE (zf_le e_v2.symm)
  refine mz_isub_w rfl (fun v3 e_v3 hwv3 => ?_)
  have l_v3 := hwv3.1
  have u_v3 := hwv3.2
  replace hE := zf_tr hE (zf_le e_v3.symm)
  refine mm_g 2 (pc1 := 11) (lo1 := [some (.int (Int32.ofInt v3))]) (st1 := [.int (Int32.ofInt v3)]) (H1 := mz_mk g x) rfl ?_
  refine mz_ldcwI (c := 858993459) rfl rfl rfl ?_
  refine mz_iand rfl (fun v4 e_v4 hwv4 => ?_)
  have b_v4 : 0 ≤ v4 ∧ v4 ≤ 858993459 := by rw [e_v4]; exact mz_and_r (by omega) (by omega) (mz_rg l_v3 u_v3)
  have l_v4 := b_v4.1
  have u_v4 := b_v4.2
  replace hE := zf_tr hE (zf_le e_v4.symm)
  refine mm_g 2 (pc1 := 17) (lo1 := [some (.int (Int32.ofInt v3))]) (st1 := [.int (Int32.ofInt 2), .int (Int32.ofInt v3), .int (Int32.ofInt v4)]) (H1 := mz_mk g x) rfl ?_
  refine mz_iushr rfl (fun v5 e_v5 hwv5 => ?_)
  have l_v5 := hwv5.1
  have u_v5 := hwv5.2
  replace hE := zf_tr hE (zf_le e_v5.symm)
  refine mz_ldcwI (c := 858993459) rfl rfl rfl ?_
  refine mz_iand rfl (fun v6 e_v6 hwv6 => ?_)
  have b_v6 : 0 ≤ v6 ∧ v6 ≤ 858993459 := by rw [e_v6]; exact mz_and_r (by omega) (by omega) (mz_rg l_v5 u_v5)
  have l_v6 := b_v6.1
  have u_v6 := b_v6.2
  replace hE := zf_tr hE (zf_le e_v6.symm)
  refine mz_iadd rfl ?_
  refine mm_g 4 (pc1 := 27) (lo1 := [some (.int (Int32.ofInt (v4 + v6)))]) (st1 := [.int (Int32.ofInt 4), .int (Int32.ofInt (v4 + v6)), .int (Int32.ofInt (v4 + v6))]) (H1 := mz_mk g x) rfl ?_
  refine mz_iushr rfl (fun v7 e_v7 hwv7 => ?_)
  have l_v7 := hwv7.1
  have u_v7 := hwv7.2
  replace hE := zf_tr hE (zf_le e_v7.symm)
  refine mz_iadd_w rfl (fun v8 e_v8 hwv8 => ?_)
  have l_v8 := hwv8.1
  have u_v8 := hwv8.2
  replace hE := zf_tr hE (zf_le e_v8.symm)
  refine mz_ldcwI (c := 252645135) rfl rfl rfl ?_
  refine mz_iand rfl (fun v9 e_v9 hwv9 => ?_)
  have b_v9 : 0 ≤ v9 ∧ v9 ≤ 252645135 := by rw [e_v9]; exact mz_and_r (by omega) (by omega) (mz_rg l_v8 u_v8)
  have l_v9 := b_v9.1
  have u_v9 := b_v9.2
  replace hE := zf_tr hE (zf_le e_v9.symm)
  refine mm_g 3 (pc1 := 36) (lo1 := [some (.int (Int32.ofInt v9))]) (st1 := [.int (Int32.ofInt v9), .int (Int32.ofInt v9)]) (H1 := mz_mk g x) rfl ?_
  refine mz_bip rfl bip_8 ?_
  refine mz_iushr rfl (fun v10 e_v10 hwv10 => ?_)
  have l_v10 := hwv10.1
  have u_v10 := hwv10.2
  replace hE := zf_tr hE (zf_le e_v10.symm)
  refine mz_iadd_w rfl (fun v11 e_v11 hwv11 => ?_)
  have l_v11 := hwv11.1
  have u_v11 := hwv11.2
  replace hE := zf_tr hE (zf_le e_v11.symm)
  refine mm_g 3 (pc1 := 43) (lo1 := [some (.int (Int32.ofInt v11))]) (st1 := [.int (Int32.ofInt v11), .int (Int32.ofInt v11)]) (H1 := mz_mk g x) rfl ?_
  refine mz_bip rfl bip_16 ?_
  refine mz_iushr rfl (fun v12 e_v12 hwv12 => ?_)
  have l_v12 := hwv12.1
  have u_v12 := hwv12.2
  replace hE := zf_tr hE (zf_le e_v12.symm)
  refine mz_iadd_w rfl (fun v13 e_v13 hwv13 => ?_)
  have l_v13 := hwv13.1
  have u_v13 := hwv13.2
  replace hE := zf_tr hE (zf_le e_v13.symm)
  refine mm_g 2 (pc1 := 49) (lo1 := [some (.int (Int32.ofInt v13))]) (st1 := [.int (Int32.ofInt v13)]) (H1 := mz_mk g x) rfl ?_
  refine mz_bip rfl bip_63 ?_
  refine mz_iand rfl (fun v14 e_v14 hwv14 => ?_)
  have b_v14 : 0 ≤ v14 ∧ v14 ≤ 63 := by rw [e_v14]; exact mz_and_r (by omega) (by omega) (mz_rg l_v13 u_v13)
  have l_v14 := b_v14.1
  have u_v14 := b_v14.2
  replace hE := zf_tr hE (zf_le e_v14.symm)
  exact mm_rt rfl rfl (hQ _ (by omega) (by omega) hE)
theorem f_X3_withCouple {d : Nat} (hd : 2 ≤ d) {x : mm_X} (hx : mk_x x) {g : mz_G} (hI : mz_inv g) {a1 : Int} (l_a1 : (-2147483648) ≤ a1) (u_a1 : a1 ≤ 2147483647) {a2 : Int} (l_a2 : (-2147483648) ≤ a2) (u_a2 : a2 ≤ 2147483647) {a3 : Int} (l_a3 : (-2147483648) ≤ a3) (u_a3 : a3 ≤ 2147483647) {Q : (Option Value ⊕ Nat) → mm_H → Prop} (hQ : ∀ (r : Int), (-2147483648) ≤ r → r ≤ 2147483647 → zf_E (zF_X3_withCouple a1 a2 a3 g) (r) → Q (.inl (some (.int (Int32.ofInt r)))) (mz_mk g x)) : mm_C d 33 [.ref 118, .int (Int32.ofInt a1), .int (Int32.ofInt a2), .int (Int32.ofInt a3)] (mz_mk g x) Q := by
  refine ⟨mmX3_withCouple, [some (.ref 118), some (.int (Int32.ofInt a1)), some (.int (Int32.ofInt a2)), some (.int (Int32.ofInt a3))], rfl, rfl, ?_⟩
  have hE : zf_E (zF_X3_withCouple a1 a2 a3 g) (zF_X3_withCouple a1 a2 a3 g) := zf_rf
  refine mm_g 1 (pc1 := 1) (lo1 := [some (.ref 118), some (.int (Int32.ofInt a1)), some (.int (Int32.ofInt a2)), some (.int (Int32.ofInt a3))]) (st1 := [.ref 118]) (H1 := mz_mk g x) rfl ?_
  refine mz_fgR (v := 119) rfl fd_3_9 (by decide) (sc_118 _) (rf_118_0 _ _ _) ?_
  refine mm_g 1 (pc1 := 5) (lo1 := [some (.ref 118), some (.int (Int32.ofInt a1)), some (.int (Int32.ofInt a2)), some (.int (Int32.ofInt a3))]) (st1 := [.int (Int32.ofInt a1), .ref 119]) (H1 := mz_mk g x) rfl ?_
  refine mz_bip rfl bip_6 ?_
  refine mz_imul_w rfl (fun v1 e_v1 hwv1 => ?_)
  have l_v1 := hwv1.1
  have u_v1 := hwv1.2
  replace hE := zf_tr hE (zf_le e_v1.symm)
  refine mm_g 1 (pc1 := 9) (lo1 := [some (.ref 118), some (.int (Int32.ofInt a1)), some (.int (Int32.ofInt a2)), some (.int (Int32.ofInt a3))]) (st1 := [.int (Int32.ofInt a2), .int (Int32.ofInt v1), .ref 119]) (H1 := mz_mk g x) rfl ?_
  refine mz_iadd_w rfl (fun v2 e_v2 hwv2 => ?_)
  have l_v2 := hwv2.1
  have u_v2 := hwv2.2
  replace hE := zf_tr hE (zf_le e_v2.symm)
  refine mz_cs rfl mt_3_29 (by decide) rfl (Nat.le_of_ble_eq_true rfl) (by omega) (f_X11_at (by omega) hx hI (sh_119 _) (by decide) ba_119 (by omega) (by omega) l_v2 u_v2 (fun v3 l_v3 u_v3 hc4 => ⟨_, rfl, ?_⟩))
  show mm_W d mmX3_withCouple 13 [some (.ref 118), some (.int (Int32.ofInt a1)), some (.int (Int32.ofInt a2)), some (.int (Int32.ofInt a3))] [.int (Int32.ofInt v3)] (mz_mk g x) Q
  replace hE := zf_t1 hE hc4
  refine mm_g 1 (pc1 := 14) (lo1 := [some (.ref 118), some (.int (Int32.ofInt a1)), some (.int (Int32.ofInt a2)), some (.int (Int32.ofInt a3))]) (st1 := [.ref 118, .int (Int32.ofInt v3)]) (H1 := mz_mk g x) rfl ?_
  refine mz_fgR (v := 120) rfl fd_3_15 (by decide) (sc_118 _) (rf_118_1 _ _ _) ?_
  refine mm_g 3 (pc1 := 20) (lo1 := [some (.ref 118), some (.int (Int32.ofInt a1)), some (.int (Int32.ofInt a2)), some (.int (Int32.ofInt a3))]) (st1 := [.int (Int32.ofInt a2), .int (Int32.ofInt 1), .int (Int32.ofInt a3), .ref 120, .int (Int32.ofInt v3)]) (H1 := mz_mk g x) rfl ?_
  refine mz_ishl rfl (fun v5 e_v5 hwv5 => ?_)
  have l_v5 := hwv5.1
  have u_v5 := hwv5.2
  replace hE := zf_tr hE (zf_le e_v5.symm)
  refine mm_g 1 (pc1 := 22) (lo1 := [some (.ref 118), some (.int (Int32.ofInt a1)), some (.int (Int32.ofInt a2)), some (.int (Int32.ofInt a3))]) (st1 := [.int (Int32.ofInt (-1)), .int (Int32.ofInt v5), .int (Int32.ofInt a3), .ref 120, .int (Int32.ofInt v3)]) (H1 := mz_mk g x) rfl ?_
  refine mz_ixor rfl (fun v6 e_v6 hwv6 => ?_)
  have l_v6 := hwv6.1
  have u_v6 := hwv6.2
  replace hE := zf_tr hE (zf_le e_v6.symm)
  refine mz_iand rfl (fun v7 e_v7 hwv7 => ?_)
  have l_v7 := hwv7.1
  have u_v7 := hwv7.2
  replace hE := zf_tr hE (zf_le e_v7.symm)
  refine mz_cs rfl mt_3_29 (by decide) rfl (Nat.le_of_ble_eq_true rfl) (by omega) (f_X11_at (by omega) hx hI (sh_120 _) (by decide) ba_120 (by omega) (by omega) l_v7 u_v7 (fun v8 l_v8 u_v8 hc9 => ⟨_, rfl, ?_⟩))
  show mm_W d mmX3_withCouple 27 [some (.ref 118), some (.int (Int32.ofInt a1)), some (.int (Int32.ofInt a2)), some (.int (Int32.ofInt a3))] [.int (Int32.ofInt v8), .int (Int32.ofInt v3)] (mz_mk g x) Q
  replace hE := zf_t1 hE hc9
  refine mz_iadd_w rfl (fun v10 e_v10 hwv10 => ?_)
  have l_v10 := hwv10.1
  have u_v10 := hwv10.2
  replace hE := zf_tr hE (zf_le e_v10.symm)
  exact mm_rt rfl rfl (hQ _ (by omega) (by omega) hE)
theorem f_X3_fewestOf {d : Nat} (hd : 12 ≤ d) {x : mm_X} (hx : mk_x x) {g : mz_G} (hI : mz_inv g) {a1 : Int} (l_a1 : (-2147483648) ≤ a1) (u_a1 : a1 ≤ 2147483647) {a2 : Int} (l_a2 : (-2147483648) ≤ a2) (u_a2 : a2 ≤ 2147483647) {Q : (Option Value ⊕ Nat) → mm_H → Prop} (hQ : ∀ (r : Int), (-2147483648) ≤ r → r ≤ 2147483647 → zf_E (zF_X3_fewestOf a1 a2 g) (r) → Q (.inl (some (.int (Int32.ofInt r)))) (mz_mk g x)) : mm_C d 32 [.ref 118, .int (Int32.ofInt a1), .int (Int32.ofInt a2)] (mz_mk g x) Q := by
  refine ⟨mmX3_fewestOf, [some (.ref 118), some (.int (Int32.ofInt a1)), some (.int (Int32.ofInt a2)), none, none, none, none], rfl, rfl, ?_⟩
  have hE : zf_E (zF_X3_fewestOf a1 a2 g) (zF_X3_fewestOf a1 a2 g) := zf_rf
  refine mm_g 1 (pc1 := 1) (lo1 := [some (.ref 118), some (.int (Int32.ofInt a1)), some (.int (Int32.ofInt a2)), none, none, none, none]) (st1 := [.int (Int32.ofInt a1)]) (H1 := mz_mk g x) rfl ?_
  refine mz_cs rfl mt_3_41 (by decide) rfl (Nat.le_of_ble_eq_true rfl) (by omega) (f_X11_lowestBit (by omega) hx hI l_a1 u_a1 (fun v1 l_v1 u_v1 hc2 => ⟨_, rfl, ?_⟩))
  show mm_W d mmX3_fewestOf 4 [some (.ref 118), some (.int (Int32.ofInt a1)), some (.int (Int32.ofInt a2)), none, none, none, none] [.int (Int32.ofInt v1)] (mz_mk g x) Q
  replace hE := zf_t1 hE hc2
  refine mm_g 4 (pc1 := 8) (lo1 := [some (.ref 118), some (.int (Int32.ofInt a1)), some (.int (Int32.ofInt a2)), some (.int (Int32.ofInt v1)), none, none, none]) (st1 := [.int (Int32.ofInt v1), .int (Int32.ofInt 1), .int (Int32.ofInt a1)]) (H1 := mz_mk g x) rfl ?_
  refine mz_ishl rfl (fun v3 e_v3 hwv3 => ?_)
  have l_v3 := hwv3.1
  have u_v3 := hwv3.2
  replace hE := zf_tr hE (zf_le e_v3.symm)
  refine mm_g 1 (pc1 := 10) (lo1 := [some (.ref 118), some (.int (Int32.ofInt a1)), some (.int (Int32.ofInt a2)), some (.int (Int32.ofInt v1)), none, none, none]) (st1 := [.int (Int32.ofInt (-1)), .int (Int32.ofInt v3), .int (Int32.ofInt a1)]) (H1 := mz_mk g x) rfl ?_
  refine mz_ixor rfl (fun v4 e_v4 hwv4 => ?_)
  have l_v4 := hwv4.1
  have u_v4 := hwv4.2
  replace hE := zf_tr hE (zf_le e_v4.symm)
  refine mz_iand rfl (fun v5 e_v5 hwv5 => ?_)
  have l_v5 := hwv5.1
  have u_v5 := hwv5.2
  replace hE := zf_tr hE (zf_le e_v5.symm)
  refine mm_g 2 (pc1 := 15) (lo1 := [some (.ref 118), some (.int (Int32.ofInt a1)), some (.int (Int32.ofInt a2)), some (.int (Int32.ofInt v1)), some (.int (Int32.ofInt v5)), none, none]) (st1 := [.int (Int32.ofInt a1)]) (H1 := mz_mk g x) rfl ?_
  refine mz_cs rfl mt_3_45 (by decide) rfl (Nat.le_of_ble_eq_true rfl) (by omega) (f_J6_bitCount (by omega) hx hI l_a1 u_a1 (fun v6 l_v6 u_v6 hc7 => ⟨_, rfl, ?_⟩))
  show mm_W d mmX3_fewestOf 18 [some (.ref 118), some (.int (Int32.ofInt a1)), some (.int (Int32.ofInt a2)), some (.int (Int32.ofInt v1)), some (.int (Int32.ofInt v5)), none, none] [.int (Int32.ofInt v6)] (mz_mk g x) Q
  replace hE := zf_t1 hE hc7
  refine mm_g 1 (pc1 := 19) (lo1 := [some (.ref 118), some (.int (Int32.ofInt a1)), some (.int (Int32.ofInt a2)), some (.int (Int32.ofInt v1)), some (.int (Int32.ofInt v5)), none, none]) (st1 := [.int (Int32.ofInt 2), .int (Int32.ofInt v6)]) (H1 := mz_mk g x) rfl ?_
  refine mz_iremq rfl (mz_rg l_v6 u_v6) ⟨by decide, by decide⟩ (by omega) (by omega) (fun v8 e_v8 l_v8 w_v8 z_v8 => ?_)
  have u_v8 : v8 ≤ 1 := by omega
  replace hE := zf_tr hE (zf_le e_v8.symm)
  refine mm_g 1 (pc1 := 21) (lo1 := [some (.ref 118), some (.int (Int32.ofInt a1)), some (.int (Int32.ofInt a2)), some (.int (Int32.ofInt v1)), some (.int (Int32.ofInt v5)), none, none]) (st1 := [.int (Int32.ofInt 1), .int (Int32.ofInt v8)]) (H1 := mz_mk g x) rfl ?_
  refine mz_ic_ne (tgt := 36) rfl rfl (mz_rg l_v8 u_v8) ⟨by decide, by decide⟩ (fun c21_8 => ?_) (fun c21_8 => ?_)
  · skip
    replace hE := zf_in hE c21_8
    refine mz_ldcI (c := 2147483647) rfl rfl rfl ?_
    refine mm_g 3 (pc1 := 42) (lo1 := [some (.ref 118), some (.int (Int32.ofInt a1)), some (.int (Int32.ofInt a2)), some (.int (Int32.ofInt v1)), some (.int (Int32.ofInt v5)), some (.int (Int32.ofInt 2147483647)), none]) (st1 := [.int (Int32.ofInt 1), .int (Int32.ofInt v1)]) (H1 := mz_mk g x) rfl ?_
    refine mz_iadd rfl ?_
    refine mm_g 1 (pc1 := 45) (lo1 := [some (.ref 118), some (.int (Int32.ofInt a1)), some (.int (Int32.ofInt a2)), some (.int (Int32.ofInt v1)), some (.int (Int32.ofInt v5)), some (.int (Int32.ofInt 2147483647)), some (.int (Int32.ofInt (v1 + 1)))]) (st1 := []) (H1 := mz_mk g x) rfl ?_
    have L14 : ∀ n13 : Nat, ∀ (v9 : Int) (v10 : Int), (2147483647 - v10).toNat = n13 → (-2147483648) ≤ v9 → v9 ≤ 2147483647 → 1 ≤ v10 → v10 ≤ 2147483647 → (∃ fk : Nat, (2147483647 - v10).toNat < fk ∧ zf_E (zF_X3_fewestOf a1 a2 g) (zL_X3_fewestOf_45 a1 a2 g fk v1 v5 v9 v10)) → mm_W d mmX3_fewestOf 45 [some (.ref 118), some (.int (Int32.ofInt a1)), some (.int (Int32.ofInt a2)), some (.int (Int32.ofInt v1)), some (.int (Int32.ofInt v5)), some (.int (Int32.ofInt v9)), some (.int (Int32.ofInt v10))] [] (mz_mk g x) Q := by
      intro n13
      induction n13 using Nat.strongRecOn with
      | ind n13 ih12 =>
      intro v9 v10 hmn13 l_v9 u_v9 l_v10 u_v10 hF
      obtain ⟨fk, fl, hE⟩ := hF
      obtain ⟨fj15, rfl⟩ : ∃ fj, fk = fj + 1 := ⟨fk - 1, by omega⟩
      have fn16 : n13 ≤ fj15 := by omega
      replace hE := zf_tr hE zL_X3_fewestOf_45_s
      refine mm_g 2 (pc1 := 48) (lo1 := [some (.ref 118), some (.int (Int32.ofInt a1)), some (.int (Int32.ofInt a2)), some (.int (Int32.ofInt v1)), some (.int (Int32.ofInt v5)), some (.int (Int32.ofInt v9)), some (.int (Int32.ofInt v10))]) (st1 := [.int (Int32.ofInt a2), .int (Int32.ofInt v10)]) (H1 := mz_mk g x) rfl ?_
      refine mz_ic_ge (tgt := 83) rfl rfl (mz_rg l_v10 u_v10) (mz_rg l_a2 u_a2) (fun c48_16 => ?_) (fun c48_16 => ?_)
      · skip
        replace hE := zf_nl hE c48_16
        refine mm_g 1 (pc1 := 85) (lo1 := [some (.ref 118), some (.int (Int32.ofInt a1)), some (.int (Int32.ofInt a2)), some (.int (Int32.ofInt v1)), some (.int (Int32.ofInt v5)), some (.int (Int32.ofInt v9)), some (.int (Int32.ofInt v10))]) (st1 := [.int (Int32.ofInt v9)]) (H1 := mz_mk g x) rfl ?_
        exact mm_rt rfl rfl (hQ _ (by omega) (by omega) hE)
      · skip
        replace hE := zf_ip hE c48_16
        refine mm_g 3 (pc1 := 56) (lo1 := [some (.ref 118), some (.int (Int32.ofInt a1)), some (.int (Int32.ofInt a2)), some (.int (Int32.ofInt v1)), some (.int (Int32.ofInt v5)), some (.int (Int32.ofInt v9)), some (.int (Int32.ofInt v10))]) (st1 := [.int (Int32.ofInt v10), .int (Int32.ofInt 1), .int (Int32.ofInt v5)]) (H1 := mz_mk g x) rfl ?_
        refine mz_ishl rfl (fun v17 e_v17 hwv17 => ?_)
        have l_v17 := hwv17.1
        have u_v17 := hwv17.2
        replace hE := zf_tr hE (zf_le e_v17.symm)
        refine mz_iand rfl (fun v18 e_v18 hwv18 => ?_)
        have l_v18 := hwv18.1
        have u_v18 := hwv18.2
        replace hE := zf_tr hE (zf_le e_v18.symm)
        refine mz_if_eq (tgt := 77) rfl rfl (mz_rg l_v18 u_v18) (fun c58_18 => ?_) (fun c58_18 => ?_)
        · skip
          replace hE := zf_ip hE c58_18
          refine mz_iincR (v := v10) (lo2 := [some (.ref 118), some (.int (Int32.ofInt a1)), some (.int (Int32.ofInt a2)), some (.int (Int32.ofInt v1)), some (.int (Int32.ofInt v5)), some (.int (Int32.ofInt v9)), some (.int (Int32.ofInt (v10 + 1)))]) rfl rfl rfl (Nat.le_of_ble_eq_true rfl) rfl ?_
          refine mz_gt (tgt := 45) rfl rfl ?_
          exact ih12 ((2147483647 - (v10 + 1)).toNat) (by omega) v9 (v10 + 1) rfl (by omega) (by omega) (by omega) (by omega) ⟨fj15, Nat.lt_of_lt_of_le (show ((2147483647 - (v10 + 1)).toNat) < n13 from (by omega)) fn16, hE⟩
        · skip
          replace hE := zf_in hE c58_18
          refine mm_g 5 (pc1 := 69) (lo1 := [some (.ref 118), some (.int (Int32.ofInt a1)), some (.int (Int32.ofInt a2)), some (.int (Int32.ofInt v1)), some (.int (Int32.ofInt v5)), some (.int (Int32.ofInt v9)), some (.int (Int32.ofInt v10))]) (st1 := [.int (Int32.ofInt v5), .int (Int32.ofInt v10), .int (Int32.ofInt v1), .ref 118, .int (Int32.ofInt v9)]) (H1 := mz_mk g x) rfl ?_
          refine mz_cv rfl mt_3_51 (by decide) (sc_118 _) rfl (Nat.le_of_ble_eq_true rfl) (by omega) (f_X3_withCouple (by omega) hx hI (by omega) (by omega) (by omega) (by omega) l_v5 u_v5 (fun v19 l_v19 u_v19 hc20 => ⟨_, rfl, ?_⟩))
          show mm_W d mmX3_fewestOf 72 [some (.ref 118), some (.int (Int32.ofInt a1)), some (.int (Int32.ofInt a2)), some (.int (Int32.ofInt v1)), some (.int (Int32.ofInt v5)), some (.int (Int32.ofInt v9)), some (.int (Int32.ofInt v10))] [.int (Int32.ofInt v19), .int (Int32.ofInt v9)] (mz_mk g x) Q
          replace hE := zf_t1 hE hc20
          refine mz_mn rfl mt_3_55 (Nat.le_of_ble_eq_true rfl) (by omega) (mz_rg l_v9 u_v9) (mz_rg l_v19 u_v19) (fun v21 e_v21 => ?_)
          have l_v21 : (-2147483648) ≤ v21 := by omega
          have u_v21 : v21 ≤ 2147483647 := by omega
          replace hE := zf_tr hE (zf_le e_v21.symm)
          refine mm_g 1 (pc1 := 77) (lo1 := [some (.ref 118), some (.int (Int32.ofInt a1)), some (.int (Int32.ofInt a2)), some (.int (Int32.ofInt v1)), some (.int (Int32.ofInt v5)), some (.int (Int32.ofInt v21)), some (.int (Int32.ofInt v10))]) (st1 := []) (H1 := mz_mk g x) rfl ?_
          refine mz_iincR (v := v10) (lo2 := [some (.ref 118), some (.int (Int32.ofInt a1)), some (.int (Int32.ofInt a2)), some (.int (Int32.ofInt v1)), some (.int (Int32.ofInt v5)), some (.int (Int32.ofInt v21)), some (.int (Int32.ofInt (v10 + 1)))]) rfl rfl rfl (Nat.le_of_ble_eq_true rfl) rfl ?_
          refine mz_gt (tgt := 45) rfl rfl ?_
          exact ih12 ((2147483647 - (v10 + 1)).toNat) (by omega) v21 (v10 + 1) rfl (by omega) (by omega) (by omega) (by omega) ⟨fj15, Nat.lt_of_lt_of_le (show ((2147483647 - (v10 + 1)).toNat) < n13 from (by omega)) fn16, hE⟩
    exact L14 _ 2147483647 (v1 + 1) rfl (by decide) (by decide) (by omega) (by omega) ⟨3000000000, by omega, hE⟩
  · skip
    replace hE := zf_ip hE c21_8
    refine mm_g 1 (pc1 := 25) (lo1 := [some (.ref 118), some (.int (Int32.ofInt a1)), some (.int (Int32.ofInt a2)), some (.int (Int32.ofInt v1)), some (.int (Int32.ofInt v5)), none, none]) (st1 := [.ref 118]) (H1 := mz_mk g x) rfl ?_
    refine mz_fgR (v := 120) rfl fd_3_15 (by decide) (sc_118 _) (rf_118_1 _ _ _) ?_
    refine mm_g 1 (pc1 := 30) (lo1 := [some (.ref 118), some (.int (Int32.ofInt a1)), some (.int (Int32.ofInt a2)), some (.int (Int32.ofInt v1)), some (.int (Int32.ofInt v5)), none, none]) (st1 := [.int (Int32.ofInt v5), .ref 120]) (H1 := mz_mk g x) rfl ?_
    refine mz_cs rfl mt_3_29 (by decide) rfl (Nat.le_of_ble_eq_true rfl) (by omega) (f_X11_at (by omega) hx hI (sh_120 _) (by decide) ba_120 (by omega) (by omega) l_v5 u_v5 (fun v22 l_v22 u_v22 hc23 => ⟨_, rfl, ?_⟩))
    show mm_W d mmX3_fewestOf 33 [some (.ref 118), some (.int (Int32.ofInt a1)), some (.int (Int32.ofInt a2)), some (.int (Int32.ofInt v1)), some (.int (Int32.ofInt v5)), none, none] [.int (Int32.ofInt v22)] (mz_mk g x) Q
    replace hE := zf_t1 hE hc23
    refine mz_gt (tgt := 38) rfl rfl ?_
    refine mm_g 3 (pc1 := 42) (lo1 := [some (.ref 118), some (.int (Int32.ofInt a1)), some (.int (Int32.ofInt a2)), some (.int (Int32.ofInt v1)), some (.int (Int32.ofInt v5)), some (.int (Int32.ofInt v22)), none]) (st1 := [.int (Int32.ofInt 1), .int (Int32.ofInt v1)]) (H1 := mz_mk g x) rfl ?_
    refine mz_iadd rfl ?_
    refine mm_g 1 (pc1 := 45) (lo1 := [some (.ref 118), some (.int (Int32.ofInt a1)), some (.int (Int32.ofInt a2)), some (.int (Int32.ofInt v1)), some (.int (Int32.ofInt v5)), some (.int (Int32.ofInt v22)), some (.int (Int32.ofInt (v1 + 1)))]) (st1 := []) (H1 := mz_mk g x) rfl ?_
    have L29 : ∀ n28 : Nat, ∀ (v24 : Int) (v25 : Int), (2147483647 - v25).toNat = n28 → (-2147483648) ≤ v24 → v24 ≤ 2147483647 → 1 ≤ v25 → v25 ≤ 2147483647 → (∃ fk : Nat, (2147483647 - v25).toNat < fk ∧ zf_E (zF_X3_fewestOf a1 a2 g) (zL_X3_fewestOf_45 a1 a2 g fk v1 v5 v24 v25)) → mm_W d mmX3_fewestOf 45 [some (.ref 118), some (.int (Int32.ofInt a1)), some (.int (Int32.ofInt a2)), some (.int (Int32.ofInt v1)), some (.int (Int32.ofInt v5)), some (.int (Int32.ofInt v24)), some (.int (Int32.ofInt v25))] [] (mz_mk g x) Q := by
      intro n28
      induction n28 using Nat.strongRecOn with
      | ind n28 ih27 =>
      intro v24 v25 hmn28 l_v24 u_v24 l_v25 u_v25 hF
      obtain ⟨fk, fl, hE⟩ := hF
      obtain ⟨fj30, rfl⟩ : ∃ fj, fk = fj + 1 := ⟨fk - 1, by omega⟩
      have fn31 : n28 ≤ fj30 := by omega
      replace hE := zf_tr hE zL_X3_fewestOf_45_s
      refine mm_g 2 (pc1 := 48) (lo1 := [some (.ref 118), some (.int (Int32.ofInt a1)), some (.int (Int32.ofInt a2)), some (.int (Int32.ofInt v1)), some (.int (Int32.ofInt v5)), some (.int (Int32.ofInt v24)), some (.int (Int32.ofInt v25))]) (st1 := [.int (Int32.ofInt a2), .int (Int32.ofInt v25)]) (H1 := mz_mk g x) rfl ?_
      refine mz_ic_ge (tgt := 83) rfl rfl (mz_rg l_v25 u_v25) (mz_rg l_a2 u_a2) (fun c48_31 => ?_) (fun c48_31 => ?_)
      · skip
        replace hE := zf_nl hE c48_31
        refine mm_g 1 (pc1 := 85) (lo1 := [some (.ref 118), some (.int (Int32.ofInt a1)), some (.int (Int32.ofInt a2)), some (.int (Int32.ofInt v1)), some (.int (Int32.ofInt v5)), some (.int (Int32.ofInt v24)), some (.int (Int32.ofInt v25))]) (st1 := [.int (Int32.ofInt v24)]) (H1 := mz_mk g x) rfl ?_
        exact mm_rt rfl rfl (hQ _ (by omega) (by omega) hE)
      · skip
        replace hE := zf_ip hE c48_31
        refine mm_g 3 (pc1 := 56) (lo1 := [some (.ref 118), some (.int (Int32.ofInt a1)), some (.int (Int32.ofInt a2)), some (.int (Int32.ofInt v1)), some (.int (Int32.ofInt v5)), some (.int (Int32.ofInt v24)), some (.int (Int32.ofInt v25))]) (st1 := [.int (Int32.ofInt v25), .int (Int32.ofInt 1), .int (Int32.ofInt v5)]) (H1 := mz_mk g x) rfl ?_
        refine mz_ishl rfl (fun v32 e_v32 hwv32 => ?_)
        have l_v32 := hwv32.1
        have u_v32 := hwv32.2
        replace hE := zf_tr hE (zf_le e_v32.symm)
        refine mz_iand rfl (fun v33 e_v33 hwv33 => ?_)
        have l_v33 := hwv33.1
        have u_v33 := hwv33.2
        replace hE := zf_tr hE (zf_le e_v33.symm)
        refine mz_if_eq (tgt := 77) rfl rfl (mz_rg l_v33 u_v33) (fun c58_33 => ?_) (fun c58_33 => ?_)
        · skip
          replace hE := zf_ip hE c58_33
          refine mz_iincR (v := v25) (lo2 := [some (.ref 118), some (.int (Int32.ofInt a1)), some (.int (Int32.ofInt a2)), some (.int (Int32.ofInt v1)), some (.int (Int32.ofInt v5)), some (.int (Int32.ofInt v24)), some (.int (Int32.ofInt (v25 + 1)))]) rfl rfl rfl (Nat.le_of_ble_eq_true rfl) rfl ?_
          refine mz_gt (tgt := 45) rfl rfl ?_
          exact ih27 ((2147483647 - (v25 + 1)).toNat) (by omega) v24 (v25 + 1) rfl (by omega) (by omega) (by omega) (by omega) ⟨fj30, Nat.lt_of_lt_of_le (show ((2147483647 - (v25 + 1)).toNat) < n28 from (by omega)) fn31, hE⟩
        · skip
          replace hE := zf_in hE c58_33
          refine mm_g 5 (pc1 := 69) (lo1 := [some (.ref 118), some (.int (Int32.ofInt a1)), some (.int (Int32.ofInt a2)), some (.int (Int32.ofInt v1)), some (.int (Int32.ofInt v5)), some (.int (Int32.ofInt v24)), some (.int (Int32.ofInt v25))]) (st1 := [.int (Int32.ofInt v5), .int (Int32.ofInt v25), .int (Int32.ofInt v1), .ref 118, .int (Int32.ofInt v24)]) (H1 := mz_mk g x) rfl ?_
          refine mz_cv rfl mt_3_51 (by decide) (sc_118 _) rfl (Nat.le_of_ble_eq_true rfl) (by omega) (f_X3_withCouple (by omega) hx hI (by omega) (by omega) (by omega) (by omega) l_v5 u_v5 (fun v34 l_v34 u_v34 hc35 => ⟨_, rfl, ?_⟩))
          show mm_W d mmX3_fewestOf 72 [some (.ref 118), some (.int (Int32.ofInt a1)), some (.int (Int32.ofInt a2)), some (.int (Int32.ofInt v1)), some (.int (Int32.ofInt v5)), some (.int (Int32.ofInt v24)), some (.int (Int32.ofInt v25))] [.int (Int32.ofInt v34), .int (Int32.ofInt v24)] (mz_mk g x) Q
          replace hE := zf_t1 hE hc35
          refine mz_mn rfl mt_3_55 (Nat.le_of_ble_eq_true rfl) (by omega) (mz_rg l_v24 u_v24) (mz_rg l_v34 u_v34) (fun v36 e_v36 => ?_)
          have l_v36 : (-2147483648) ≤ v36 := by omega
          have u_v36 : v36 ≤ 2147483647 := by omega
          replace hE := zf_tr hE (zf_le e_v36.symm)
          refine mm_g 1 (pc1 := 77) (lo1 := [some (.ref 118), some (.int (Int32.ofInt a1)), some (.int (Int32.ofInt a2)), some (.int (Int32.ofInt v1)), some (.int (Int32.ofInt v5)), some (.int (Int32.ofInt v36)), some (.int (Int32.ofInt v25))]) (st1 := []) (H1 := mz_mk g x) rfl ?_
          refine mz_iincR (v := v25) (lo2 := [some (.ref 118), some (.int (Int32.ofInt a1)), some (.int (Int32.ofInt a2)), some (.int (Int32.ofInt v1)), some (.int (Int32.ofInt v5)), some (.int (Int32.ofInt v36)), some (.int (Int32.ofInt (v25 + 1)))]) rfl rfl rfl (Nat.le_of_ble_eq_true rfl) rfl ?_
          refine mz_gt (tgt := 45) rfl rfl ?_
          exact ih27 ((2147483647 - (v25 + 1)).toNat) (by omega) v36 (v25 + 1) rfl (by omega) (by omega) (by omega) (by omega) ⟨fj30, Nat.lt_of_lt_of_le (show ((2147483647 - (v25 + 1)).toNat) < n28 from (by omega)) fn31, hE⟩
    exact L29 _ v22 (v1 + 1) rfl (by omega) (by omega) (by omega) (by omega) ⟨3000000000, by omega, hE⟩
def fl_X3_choosePartners_5 (x : mm_X) (a1 : Int) (a2 : Int) : Nat → Nat → Prop := fun k j => k = 121
def fw_X3_choosePartners (x : mm_X) (a1 : Int) (a2 : Int) : Nat → Nat → Prop := fun k j => k = 121
theorem f_X3_choosePartners {d : Nat} (hd : 3 ≤ d) {x : mm_X} (hx : mk_x x) {g : mz_G} (hI : mz_inv g) {a1 : Int} (l_a1 : (-2147483648) ≤ a1) (u_a1 : a1 ≤ 2147483647) {a2 : Int} (l_a2 : (-2147483648) ≤ a2) (u_a2 : a2 ≤ 2147483647) {Q : (Option Value ⊕ Nat) → mm_H → Prop} (hQ : ∀ (g1 : mz_G), mz_inv g1 → mz_fr (fw_X3_choosePartners x a1 a2) g g1 → zf_E (zF_X3_choosePartners a1 a2 g) (g1) → Q (.inl none) (mz_mk g1 x)) : mm_C d 34 [.ref 118, .int (Int32.ofInt a1), .int (Int32.ofInt a2)] (mz_mk g x) Q := by
  refine ⟨mmX3_choosePartners, [some (.ref 118), some (.int (Int32.ofInt a1)), some (.int (Int32.ofInt a2)), none, none, none, none], rfl, rfl, ?_⟩
  have hE : zf_E (zF_X3_choosePartners a1 a2 g) (zF_X3_choosePartners a1 a2 g) := zf_rf
  refine mm_g 4 (pc1 := 5) (lo1 := [some (.ref 118), some (.int (Int32.ofInt a1)), some (.int (Int32.ofInt a2)), some (.int (Int32.ofInt a1)), some (.int (Int32.ofInt 0)), none, none]) (st1 := []) (H1 := mz_mk g x) rfl ?_
  have L8 : ∀ n7 : Nat, ∀ (v1 : Int) (v2 : Int) (o3 : Option Value) (o4 : Option Value) (g5 : mz_G), (2147483647 - v2).toNat = n7 → (-2147483648) ≤ v1 → v1 ≤ 2147483647 → 0 ≤ v2 → v2 ≤ 2147483647 → mz_nl o3 → mz_nl o4 → mz_inv g5 → mz_fr (fl_X3_choosePartners_5 x a1 a2) g g5 → (∃ fk : Nat, (2147483647 - v2).toNat < fk ∧ zf_E (zF_X3_choosePartners a1 a2 g) (zL_X3_choosePartners_5 a1 a2 fk v1 v2 g5)) → mm_W d mmX3_choosePartners 5 [some (.ref 118), some (.int (Int32.ofInt a1)), some (.int (Int32.ofInt a2)), some (.int (Int32.ofInt v1)), some (.int (Int32.ofInt v2)), o3, o4] [] (mz_mk g5 x) Q := by
    intro n7
    induction n7 using Nat.strongRecOn with
    | ind n7 ih6 =>
    intro v1 v2 o3 o4 g5 hmn7 l_v1 u_v1 l_v2 u_v2 h_o3 h_o4 hIg5 hfg5 hF
    obtain ⟨fk, fl, hE⟩ := hF
    obtain ⟨fj9, rfl⟩ : ∃ fj, fk = fj + 1 := ⟨fk - 1, by omega⟩
    have fn10 : n7 ≤ fj9 := by omega
    replace hE := zf_tr hE zL_X3_choosePartners_5_s
    refine mm_g 2 (pc1 := 8) (lo1 := [some (.ref 118), some (.int (Int32.ofInt a1)), some (.int (Int32.ofInt a2)), some (.int (Int32.ofInt v1)), some (.int (Int32.ofInt v2)), o3, o4]) (st1 := [.int (Int32.ofInt a2), .int (Int32.ofInt v2)]) (H1 := mz_mk g5 x) rfl ?_
    refine mz_ic_ge (tgt := 140) rfl rfl (mz_rg l_v2 u_v2) (mz_rg l_a2 u_a2) (fun c8_10 => ?_) (fun c8_10 => ?_)
    · skip
      replace hE := zf_nl hE c8_10
      exact mm_rt rfl rfl (hQ _ hIg5 (fun k j hk => (hfg5 k j (fun h => hk h))) hE)
    · skip
      replace hE := zf_ip hE c8_10
      refine mm_g 3 (pc1 := 15) (lo1 := [some (.ref 118), some (.int (Int32.ofInt a1)), some (.int (Int32.ofInt a2)), some (.int (Int32.ofInt v1)), some (.int (Int32.ofInt v2)), o3, o4]) (st1 := [.int (Int32.ofInt v2), .int (Int32.ofInt 1), .int (Int32.ofInt v1)]) (H1 := mz_mk g5 x) rfl ?_
      refine mz_ishl rfl (fun v11 e_v11 hwv11 => ?_)
      have l_v11 := hwv11.1
      have u_v11 := hwv11.2
      replace hE := zf_tr hE (zf_le e_v11.symm)
      refine mz_iand rfl (fun v12 e_v12 hwv12 => ?_)
      have l_v12 := hwv12.1
      have u_v12 := hwv12.2
      replace hE := zf_tr hE (zf_le e_v12.symm)
      refine mz_if_ne (tgt := 23) rfl rfl (mz_rg l_v12 u_v12) (fun c17_12 => ?_) (fun c17_12 => ?_)
      · skip
        replace hE := zf_in hE c17_12
        refine mm_g 3 (pc1 := 27) (lo1 := [some (.ref 118), some (.int (Int32.ofInt a1)), some (.int (Int32.ofInt a2)), some (.int (Int32.ofInt v1)), some (.int (Int32.ofInt v2)), o3, o4]) (st1 := [.int (Int32.ofInt v2), .int (Int32.ofInt 1), .int (Int32.ofInt v1)]) (H1 := mz_mk g5 x) rfl ?_
        refine mz_ishl rfl (fun v13 e_v13 hwv13 => ?_)
        have l_v13 := hwv13.1
        have u_v13 := hwv13.2
        replace hE := zf_tr hE (zf_le e_v13.symm)
        refine mm_g 1 (pc1 := 29) (lo1 := [some (.ref 118), some (.int (Int32.ofInt a1)), some (.int (Int32.ofInt a2)), some (.int (Int32.ofInt v1)), some (.int (Int32.ofInt v2)), o3, o4]) (st1 := [.int (Int32.ofInt (-1)), .int (Int32.ofInt v13), .int (Int32.ofInt v1)]) (H1 := mz_mk g5 x) rfl ?_
        refine mz_ixor rfl (fun v14 e_v14 hwv14 => ?_)
        have l_v14 := hwv14.1
        have u_v14 := hwv14.2
        replace hE := zf_tr hE (zf_le e_v14.symm)
        refine mz_iand rfl (fun v15 e_v15 hwv15 => ?_)
        have l_v15 := hwv15.1
        have u_v15 := hwv15.2
        replace hE := zf_tr hE (zf_le e_v15.symm)
        refine mm_g 3 (pc1 := 36) (lo1 := [some (.ref 118), some (.int (Int32.ofInt a1)), some (.int (Int32.ofInt a2)), some (.int (Int32.ofInt v1)), some (.int (Int32.ofInt v2)), some (.int (Int32.ofInt v15)), o4]) (st1 := [.int (Int32.ofInt 1), .int (Int32.ofInt v2)]) (H1 := mz_mk g5 x) rfl ?_
        refine mz_iadd rfl ?_
        refine mm_g 1 (pc1 := 39) (lo1 := [some (.ref 118), some (.int (Int32.ofInt a1)), some (.int (Int32.ofInt a2)), some (.int (Int32.ofInt v1)), some (.int (Int32.ofInt v2)), some (.int (Int32.ofInt v15)), some (.int (Int32.ofInt (v2 + 1)))]) (st1 := []) (H1 := mz_mk g5 x) rfl ?_
        have hO20 := hE
        have L21 : ∀ n19 : Nat, ∀ (v16 : Int), (2147483647 - v16).toNat = n19 → 1 ≤ v16 → v16 ≤ 2147483647 → (∃ fk : Nat, (2147483647 - v16).toNat < fk ∧ zf_E (zL_X3_choosePartners_39 a1 a2 g5 3000000000 v1 v2 v15 (v2 + 1)) (zL_X3_choosePartners_39 a1 a2 g5 fk v1 v2 v15 v16)) → mm_W d mmX3_choosePartners 39 [some (.ref 118), some (.int (Int32.ofInt a1)), some (.int (Int32.ofInt a2)), some (.int (Int32.ofInt v1)), some (.int (Int32.ofInt v2)), some (.int (Int32.ofInt v15)), some (.int (Int32.ofInt v16))] [] (mz_mk g5 x) Q := by
          intro n19
          induction n19 using Nat.strongRecOn with
          | ind n19 ih18 =>
          intro v16 hmn19 l_v16 u_v16 hF
          obtain ⟨fk, fl, hE⟩ := hF
          obtain ⟨fj22, rfl⟩ : ∃ fj, fk = fj + 1 := ⟨fk - 1, by omega⟩
          have fn23 : n19 ≤ fj22 := by omega
          replace hE := zf_tr hE zL_X3_choosePartners_39_s
          refine mm_g 2 (pc1 := 42) (lo1 := [some (.ref 118), some (.int (Int32.ofInt a1)), some (.int (Int32.ofInt a2)), some (.int (Int32.ofInt v1)), some (.int (Int32.ofInt v2)), some (.int (Int32.ofInt v15)), some (.int (Int32.ofInt v16))]) (st1 := [.int (Int32.ofInt a2), .int (Int32.ofInt v16)]) (H1 := mz_mk g5 x) rfl ?_
          refine mz_ic_ge (tgt := 82) rfl rfl (mz_rg l_v16 u_v16) (mz_rg l_a2 u_a2) (fun c42_23 => ?_) (fun c42_23 => ?_)
          · skip
            replace hE := zf_nl hE c42_23
            replace hE := zf_t1 hO20 hE
            refine mm_g 1 (pc1 := 83) (lo1 := [some (.ref 118), some (.int (Int32.ofInt a1)), some (.int (Int32.ofInt a2)), some (.int (Int32.ofInt v1)), some (.int (Int32.ofInt v2)), some (.int (Int32.ofInt v15)), some (.int (Int32.ofInt v16))]) (st1 := [.ref 118]) (H1 := mz_mk g5 x) rfl ?_
            refine mz_fgR (v := 121) rfl fd_3_18 (by decide) (sc_118 _) (rf_118_2 _ _ _) ?_
            refine mm_g 3 (pc1 := 91) (lo1 := [some (.ref 118), some (.int (Int32.ofInt a1)), some (.int (Int32.ofInt a2)), some (.int (Int32.ofInt v1)), some (.int (Int32.ofInt v2)), some (.int (Int32.ofInt v15)), some (.int (Int32.ofInt v16))]) (st1 := [.int (Int32.ofInt a2), .int (Int32.ofInt v16), .int (Int32.ofInt v2), .ref 121]) (H1 := mz_mk g5 x) rfl ?_
            refine mz_ic_ge (tgt := 99) rfl rfl (mz_rg l_v16 u_v16) (mz_rg l_a2 u_a2) (fun c91_23 => ?_) (fun c91_23 => ?_)
            · skip
              replace hE := zf_nl hE c91_23
              refine mm_g 1 (pc1 := 100) (lo1 := [some (.ref 118), some (.int (Int32.ofInt a1)), some (.int (Int32.ofInt a2)), some (.int (Int32.ofInt v1)), some (.int (Int32.ofInt v2)), some (.int (Int32.ofInt v15)), some (.int (Int32.ofInt v16))]) (st1 := [.int (Int32.ofInt (-1)), .int (Int32.ofInt v2), .ref 121]) (H1 := mz_mk g5 x) rfl ?_
              refine mz_cs rfl mt_3_25 (by decide) rfl (Nat.le_of_ble_eq_true rfl) (by omega) (f_X11_put (by omega) hx hIg5 (sh_121 _) (by decide) ba_121 (by omega) (by omega) (by omega) (by omega) (by decide) (by decide) (by omega) (by omega) (fun g24 hIg24 hfg24 hc25 => ⟨_, rfl, ?_⟩))
              show mm_W d mmX3_choosePartners 103 [some (.ref 118), some (.int (Int32.ofInt a1)), some (.int (Int32.ofInt a2)), some (.int (Int32.ofInt v1)), some (.int (Int32.ofInt v2)), some (.int (Int32.ofInt v15)), some (.int (Int32.ofInt v16))] [] (mz_mk g24 x) Q
              replace hE := zf_t1 hE hc25
              refine mm_g 2 (pc1 := 106) (lo1 := [some (.ref 118), some (.int (Int32.ofInt a1)), some (.int (Int32.ofInt a2)), some (.int (Int32.ofInt v1)), some (.int (Int32.ofInt v2)), some (.int (Int32.ofInt v15)), some (.int (Int32.ofInt v16))]) (st1 := [.int (Int32.ofInt a2), .int (Int32.ofInt v16)]) (H1 := mz_mk g24 x) rfl ?_
              refine mz_ic_ge (tgt := 131) rfl rfl (mz_rg l_v16 u_v16) (mz_rg l_a2 u_a2) (fun c106_25 => ?_) (fun c106_25 => ?_)
              · skip
                replace hE := zf_nl hE c106_25
                refine mm_g 2 (pc1 := 134) (lo1 := [some (.ref 118), some (.int (Int32.ofInt a1)), some (.int (Int32.ofInt a2)), some (.int (Int32.ofInt v15)), some (.int (Int32.ofInt v2)), some (.int (Int32.ofInt v15)), some (.int (Int32.ofInt v16))]) (st1 := []) (H1 := mz_mk g24 x) rfl ?_
                refine mz_iincR (v := v2) (lo2 := [some (.ref 118), some (.int (Int32.ofInt a1)), some (.int (Int32.ofInt a2)), some (.int (Int32.ofInt v15)), some (.int (Int32.ofInt (v2 + 1))), some (.int (Int32.ofInt v15)), some (.int (Int32.ofInt v16))]) rfl rfl rfl (Nat.le_of_ble_eq_true rfl) rfl ?_
                refine mz_gt (tgt := 5) rfl rfl ?_
                exact ih6 ((2147483647 - (v2 + 1)).toNat) (by omega) v15 (v2 + 1) (some (.int (Int32.ofInt v15))) (some (.int (Int32.ofInt v16))) g24 rfl (by omega) (by omega) (by omega) (by omega) (mz_nl_i _) (mz_nl_i _) hIg24 (fun k j hk => ((hfg24 k j (fun h => hk h)).trans (hfg5 k j (fun h => hk h)))) ⟨fj9, Nat.lt_of_lt_of_le (show ((2147483647 - (v2 + 1)).toNat) < n7 from (by omega)) fn10, hE⟩
              · exfalso; omega
            · exfalso; omega
          · skip
            replace hE := zf_ip hE c42_23
            refine mm_g 3 (pc1 := 50) (lo1 := [some (.ref 118), some (.int (Int32.ofInt a1)), some (.int (Int32.ofInt a2)), some (.int (Int32.ofInt v1)), some (.int (Int32.ofInt v2)), some (.int (Int32.ofInt v15)), some (.int (Int32.ofInt v16))]) (st1 := [.int (Int32.ofInt v16), .int (Int32.ofInt 1), .int (Int32.ofInt v15)]) (H1 := mz_mk g5 x) rfl ?_
            refine mz_ishl rfl (fun v26 e_v26 hwv26 => ?_)
            have l_v26 := hwv26.1
            have u_v26 := hwv26.2
            replace hE := zf_tr hE (zf_le e_v26.symm)
            refine mz_iand rfl (fun v27 e_v27 hwv27 => ?_)
            have l_v27 := hwv27.1
            have u_v27 := hwv27.2
            replace hE := zf_tr hE (zf_le e_v27.symm)
            refine mz_if_eq (tgt := 76) rfl rfl (mz_rg l_v27 u_v27) (fun c52_27 => ?_) (fun c52_27 => ?_)
            · skip
              replace hE := zf_ip hE c52_27
              refine mz_iincR (v := v16) (lo2 := [some (.ref 118), some (.int (Int32.ofInt a1)), some (.int (Int32.ofInt a2)), some (.int (Int32.ofInt v1)), some (.int (Int32.ofInt v2)), some (.int (Int32.ofInt v15)), some (.int (Int32.ofInt (v16 + 1)))]) rfl rfl rfl (Nat.le_of_ble_eq_true rfl) rfl ?_
              refine mz_gt (tgt := 39) rfl rfl ?_
              exact ih18 ((2147483647 - (v16 + 1)).toNat) (by omega) (v16 + 1) rfl (by omega) (by omega) ⟨fj22, Nat.lt_of_lt_of_le (show ((2147483647 - (v16 + 1)).toNat) < n19 from (by omega)) fn23, hE⟩
            · skip
              replace hE := zf_in hE c52_27
              refine mm_g 4 (pc1 := 62) (lo1 := [some (.ref 118), some (.int (Int32.ofInt a1)), some (.int (Int32.ofInt a2)), some (.int (Int32.ofInt v1)), some (.int (Int32.ofInt v2)), some (.int (Int32.ofInt v15)), some (.int (Int32.ofInt v16))]) (st1 := [.int (Int32.ofInt v15), .int (Int32.ofInt v16), .int (Int32.ofInt v2), .ref 118]) (H1 := mz_mk g5 x) rfl ?_
              refine mz_cv rfl mt_3_51 (by decide) (sc_118 _) rfl (Nat.le_of_ble_eq_true rfl) (by omega) (f_X3_withCouple (by omega) hx hIg5 (by omega) (by omega) (by omega) (by omega) l_v15 u_v15 (fun v28 l_v28 u_v28 hc29 => ⟨_, rfl, ?_⟩))
              show mm_W d mmX3_choosePartners 65 [some (.ref 118), some (.int (Int32.ofInt a1)), some (.int (Int32.ofInt a2)), some (.int (Int32.ofInt v1)), some (.int (Int32.ofInt v2)), some (.int (Int32.ofInt v15)), some (.int (Int32.ofInt v16))] [.int (Int32.ofInt v28)] (mz_mk g5 x) Q
              replace hE := zf_t1 hE hc29
              refine mm_g 1 (pc1 := 66) (lo1 := [some (.ref 118), some (.int (Int32.ofInt a1)), some (.int (Int32.ofInt a2)), some (.int (Int32.ofInt v1)), some (.int (Int32.ofInt v2)), some (.int (Int32.ofInt v15)), some (.int (Int32.ofInt v16))]) (st1 := [.ref 118, .int (Int32.ofInt v28)]) (H1 := mz_mk g5 x) rfl ?_
              refine mz_fgR (v := 120) rfl fd_3_15 (by decide) (sc_118 _) (rf_118_1 _ _ _) ?_
              refine mm_g 1 (pc1 := 70) (lo1 := [some (.ref 118), some (.int (Int32.ofInt a1)), some (.int (Int32.ofInt a2)), some (.int (Int32.ofInt v1)), some (.int (Int32.ofInt v2)), some (.int (Int32.ofInt v15)), some (.int (Int32.ofInt v16))]) (st1 := [.int (Int32.ofInt v1), .ref 120, .int (Int32.ofInt v28)]) (H1 := mz_mk g5 x) rfl ?_
              refine mz_cs rfl mt_3_29 (by decide) rfl (Nat.le_of_ble_eq_true rfl) (by omega) (f_X11_at (by omega) hx hIg5 (sh_120 _) (by decide) ba_120 (by omega) (by omega) l_v1 u_v1 (fun v30 l_v30 u_v30 hc31 => ⟨_, rfl, ?_⟩))
              show mm_W d mmX3_choosePartners 73 [some (.ref 118), some (.int (Int32.ofInt a1)), some (.int (Int32.ofInt a2)), some (.int (Int32.ofInt v1)), some (.int (Int32.ofInt v2)), some (.int (Int32.ofInt v15)), some (.int (Int32.ofInt v16))] [.int (Int32.ofInt v30), .int (Int32.ofInt v28)] (mz_mk g5 x) Q
              replace hE := zf_t1 hE hc31
              refine mz_ic_eq (tgt := 82) rfl rfl (mz_rg l_v28 u_v28) (mz_rg l_v30 u_v30) (fun c73_31 => ?_) (fun c73_31 => ?_)
              · skip
                replace hE := zf_ip hE c73_31
                replace hE := zf_t1 hO20 hE
                refine mm_g 1 (pc1 := 83) (lo1 := [some (.ref 118), some (.int (Int32.ofInt a1)), some (.int (Int32.ofInt a2)), some (.int (Int32.ofInt v1)), some (.int (Int32.ofInt v2)), some (.int (Int32.ofInt v15)), some (.int (Int32.ofInt v16))]) (st1 := [.ref 118]) (H1 := mz_mk g5 x) rfl ?_
                refine mz_fgR (v := 121) rfl fd_3_18 (by decide) (sc_118 _) (rf_118_2 _ _ _) ?_
                refine mm_g 3 (pc1 := 91) (lo1 := [some (.ref 118), some (.int (Int32.ofInt a1)), some (.int (Int32.ofInt a2)), some (.int (Int32.ofInt v1)), some (.int (Int32.ofInt v2)), some (.int (Int32.ofInt v15)), some (.int (Int32.ofInt v16))]) (st1 := [.int (Int32.ofInt a2), .int (Int32.ofInt v16), .int (Int32.ofInt v2), .ref 121]) (H1 := mz_mk g5 x) rfl ?_
                refine mz_ic_ge (tgt := 99) rfl rfl (mz_rg l_v16 u_v16) (mz_rg l_a2 u_a2) (fun c91_31 => ?_) (fun c91_31 => ?_)
                · exfalso; omega
                · skip
                  replace hE := zf_ip hE c91_31
                  refine mm_g 1 (pc1 := 96) (lo1 := [some (.ref 118), some (.int (Int32.ofInt a1)), some (.int (Int32.ofInt a2)), some (.int (Int32.ofInt v1)), some (.int (Int32.ofInt v2)), some (.int (Int32.ofInt v15)), some (.int (Int32.ofInt v16))]) (st1 := [.int (Int32.ofInt v16), .int (Int32.ofInt v2), .ref 121]) (H1 := mz_mk g5 x) rfl ?_
                  refine mz_gt (tgt := 100) rfl rfl ?_
                  refine mz_cs rfl mt_3_25 (by decide) rfl (Nat.le_of_ble_eq_true rfl) (by omega) (f_X11_put (by omega) hx hIg5 (sh_121 _) (by decide) ba_121 (by omega) (by omega) (by omega) (by omega) (by omega) (by omega) (by omega) (by omega) (fun g32 hIg32 hfg32 hc33 => ⟨_, rfl, ?_⟩))
                  show mm_W d mmX3_choosePartners 103 [some (.ref 118), some (.int (Int32.ofInt a1)), some (.int (Int32.ofInt a2)), some (.int (Int32.ofInt v1)), some (.int (Int32.ofInt v2)), some (.int (Int32.ofInt v15)), some (.int (Int32.ofInt v16))] [] (mz_mk g32 x) Q
                  replace hE := zf_t1 hE hc33
                  refine mm_g 2 (pc1 := 106) (lo1 := [some (.ref 118), some (.int (Int32.ofInt a1)), some (.int (Int32.ofInt a2)), some (.int (Int32.ofInt v1)), some (.int (Int32.ofInt v2)), some (.int (Int32.ofInt v15)), some (.int (Int32.ofInt v16))]) (st1 := [.int (Int32.ofInt a2), .int (Int32.ofInt v16)]) (H1 := mz_mk g32 x) rfl ?_
                  refine mz_ic_ge (tgt := 131) rfl rfl (mz_rg l_v16 u_v16) (mz_rg l_a2 u_a2) (fun c106_33 => ?_) (fun c106_33 => ?_)
                  · exfalso; omega
                  · skip
                    replace hE := zf_ip hE c106_33
                    refine mm_g 1 (pc1 := 110) (lo1 := [some (.ref 118), some (.int (Int32.ofInt a1)), some (.int (Int32.ofInt a2)), some (.int (Int32.ofInt v1)), some (.int (Int32.ofInt v2)), some (.int (Int32.ofInt v15)), some (.int (Int32.ofInt v16))]) (st1 := [.ref 118]) (H1 := mz_mk g32 x) rfl ?_
                    refine mz_fgR (v := 121) rfl fd_3_18 (by decide) (sc_118 _) (rf_118_2 _ _ _) ?_
                    refine mm_g 2 (pc1 := 117) (lo1 := [some (.ref 118), some (.int (Int32.ofInt a1)), some (.int (Int32.ofInt a2)), some (.int (Int32.ofInt v1)), some (.int (Int32.ofInt v2)), some (.int (Int32.ofInt v15)), some (.int (Int32.ofInt v16))]) (st1 := [.int (Int32.ofInt v2), .int (Int32.ofInt v16), .ref 121]) (H1 := mz_mk g32 x) rfl ?_
                    refine mz_cs rfl mt_3_25 (by decide) rfl (Nat.le_of_ble_eq_true rfl) (by omega) (f_X11_put (by omega) hx hIg32 (sh_121 _) (by decide) ba_121 (by omega) (by omega) (by omega) (by omega) (by omega) (by omega) (by omega) (by omega) (fun g34 hIg34 hfg34 hc35 => ⟨_, rfl, ?_⟩))
                    show mm_W d mmX3_choosePartners 120 [some (.ref 118), some (.int (Int32.ofInt a1)), some (.int (Int32.ofInt a2)), some (.int (Int32.ofInt v1)), some (.int (Int32.ofInt v2)), some (.int (Int32.ofInt v15)), some (.int (Int32.ofInt v16))] [] (mz_mk g34 x) Q
                    replace hE := zf_t1 hE hc35
                    refine mm_g 3 (pc1 := 125) (lo1 := [some (.ref 118), some (.int (Int32.ofInt a1)), some (.int (Int32.ofInt a2)), some (.int (Int32.ofInt v1)), some (.int (Int32.ofInt v2)), some (.int (Int32.ofInt v15)), some (.int (Int32.ofInt v16))]) (st1 := [.int (Int32.ofInt v16), .int (Int32.ofInt 1), .int (Int32.ofInt v15)]) (H1 := mz_mk g34 x) rfl ?_
                    refine mz_ishl rfl (fun v36 e_v36 hwv36 => ?_)
                    have l_v36 := hwv36.1
                    have u_v36 := hwv36.2
                    replace hE := zf_tr hE (zf_le e_v36.symm)
                    refine mm_g 1 (pc1 := 127) (lo1 := [some (.ref 118), some (.int (Int32.ofInt a1)), some (.int (Int32.ofInt a2)), some (.int (Int32.ofInt v1)), some (.int (Int32.ofInt v2)), some (.int (Int32.ofInt v15)), some (.int (Int32.ofInt v16))]) (st1 := [.int (Int32.ofInt (-1)), .int (Int32.ofInt v36), .int (Int32.ofInt v15)]) (H1 := mz_mk g34 x) rfl ?_
                    refine mz_ixor rfl (fun v37 e_v37 hwv37 => ?_)
                    have l_v37 := hwv37.1
                    have u_v37 := hwv37.2
                    replace hE := zf_tr hE (zf_le e_v37.symm)
                    refine mz_iand rfl (fun v38 e_v38 hwv38 => ?_)
                    have l_v38 := hwv38.1
                    have u_v38 := hwv38.2
                    replace hE := zf_tr hE (zf_le e_v38.symm)
                    refine mm_g 3 (pc1 := 134) (lo1 := [some (.ref 118), some (.int (Int32.ofInt a1)), some (.int (Int32.ofInt a2)), some (.int (Int32.ofInt v38)), some (.int (Int32.ofInt v2)), some (.int (Int32.ofInt v38)), some (.int (Int32.ofInt v16))]) (st1 := []) (H1 := mz_mk g34 x) rfl ?_
                    refine mz_iincR (v := v2) (lo2 := [some (.ref 118), some (.int (Int32.ofInt a1)), some (.int (Int32.ofInt a2)), some (.int (Int32.ofInt v38)), some (.int (Int32.ofInt (v2 + 1))), some (.int (Int32.ofInt v38)), some (.int (Int32.ofInt v16))]) rfl rfl rfl (Nat.le_of_ble_eq_true rfl) rfl ?_
                    refine mz_gt (tgt := 5) rfl rfl ?_
                    exact ih6 ((2147483647 - (v2 + 1)).toNat) (by omega) v38 (v2 + 1) (some (.int (Int32.ofInt v38))) (some (.int (Int32.ofInt v16))) g34 rfl (by omega) (by omega) (by omega) (by omega) (mz_nl_i _) (mz_nl_i _) hIg34 (fun k j hk => ((hfg34 k j (fun h => hk h)).trans ((hfg32 k j (fun h => hk h)).trans (hfg5 k j (fun h => hk h))))) ⟨fj9, Nat.lt_of_lt_of_le (show ((2147483647 - (v2 + 1)).toNat) < n7 from (by omega)) fn10, hE⟩
              · skip
                replace hE := zf_in hE c73_31
                refine mz_iincR (v := v16) (lo2 := [some (.ref 118), some (.int (Int32.ofInt a1)), some (.int (Int32.ofInt a2)), some (.int (Int32.ofInt v1)), some (.int (Int32.ofInt v2)), some (.int (Int32.ofInt v15)), some (.int (Int32.ofInt (v16 + 1)))]) rfl rfl rfl (Nat.le_of_ble_eq_true rfl) rfl ?_
                refine mz_gt (tgt := 39) rfl rfl ?_
                exact ih18 ((2147483647 - (v16 + 1)).toNat) (by omega) (v16 + 1) rfl (by omega) (by omega) ⟨fj22, Nat.lt_of_lt_of_le (show ((2147483647 - (v16 + 1)).toNat) < n19 from (by omega)) fn23, hE⟩
        exact L21 _ (v2 + 1) rfl (by omega) (by omega) ⟨3000000000, by omega, zf_rf⟩
      · skip
        replace hE := zf_ip hE c17_12
        refine mz_gt (tgt := 134) rfl rfl ?_
        refine mz_iincR (v := v2) (lo2 := [some (.ref 118), some (.int (Int32.ofInt a1)), some (.int (Int32.ofInt a2)), some (.int (Int32.ofInt v1)), some (.int (Int32.ofInt (v2 + 1))), o3, o4]) rfl rfl rfl (Nat.le_of_ble_eq_true rfl) rfl ?_
        refine mz_gt (tgt := 5) rfl rfl ?_
        exact ih6 ((2147483647 - (v2 + 1)).toNat) (by omega) v1 (v2 + 1) o3 o4 g5 rfl (by omega) (by omega) (by omega) (by omega) h_o3 h_o4 hIg5 (fun k j hk => (hfg5 k j (fun h => hk h))) ⟨fj9, Nat.lt_of_lt_of_le (show ((2147483647 - (v2 + 1)).toNat) < n7 from (by omega)) fn10, hE⟩
  exact L8 _ a1 0 none none g rfl (by omega) (by omega) (by decide) (by decide) mz_nl_n mz_nl_n hI (fun _ _ _ => rfl) ⟨3000000000, by omega, hE⟩
def fl_X3_find_17 (x : mm_X) (a1 : Int) : Nat → Nat → Prop := fun k j => k = 120
def fw_X3_find (x : mm_X) (a1 : Int) : Nat → Nat → Prop := fun k j => k = 120 ∨ (k = 118 ∧ j = 3) ∨ k = 121
theorem f_X3_find {d : Nat} (hd : 13 ≤ d) {x : mm_X} (hx : mk_x x) {g : mz_G} (hI : mz_inv g) {a1 : Int} (l_a1 : 0 ≤ a1) (u_a1 : a1 ≤ 6) {Q : (Option Value ⊕ Nat) → mm_H → Prop} (hQ : ∀ (g1 : mz_G), mz_inv g1 → mz_fr (fw_X3_find x a1) g g1 → zf_E (zF_X3_find a1 g) (g1) → Q (.inl none) (mz_mk g1 x)) : mm_C d 31 [.ref 118, .int (Int32.ofInt a1)] (mz_mk g x) Q := by
  refine ⟨mmX3_find, [some (.ref 118), some (.int (Int32.ofInt a1)), none, none], rfl, rfl, ?_⟩
  have hE : zf_E (zF_X3_find a1 g) (zF_X3_find a1 g) := zf_rf
  refine mm_g 2 (pc1 := 2) (lo1 := [some (.ref 118), some (.int (Int32.ofInt a1)), none, none]) (st1 := [.int (Int32.ofInt a1), .int (Int32.ofInt 1)]) (H1 := mz_mk g x) rfl ?_
  refine mz_ishl rfl (fun v1 e_v1 hwv1 => ?_)
  have b_v1 : 1 ≤ v1 ∧ v1 ≤ 64 := by rw [e_v1]; exact mz_shl_b (lx := 1) (hx := 1) (k := 6) (by decide) (by decide) (by omega) (by omega) (by omega) (by omega)
  have l_v1 := b_v1.1
  have u_v1 := b_v1.2
  replace hE := zf_tr hE (zf_le e_v1.symm)
  refine mm_g 1 (pc1 := 4) (lo1 := [some (.ref 118), some (.int (Int32.ofInt a1)), none, none]) (st1 := [.int (Int32.ofInt 1), .int (Int32.ofInt v1)]) (H1 := mz_mk g x) rfl ?_
  refine mz_isub rfl ?_
  refine mm_g 2 (pc1 := 7) (lo1 := [some (.ref 118), some (.int (Int32.ofInt a1)), some (.int (Int32.ofInt (v1 - 1))), none]) (st1 := [.ref 118]) (H1 := mz_mk g x) rfl ?_
  refine mz_fgR (v := 120) rfl fd_3_15 (by decide) (sc_118 _) (rf_118_1 _ _ _) ?_
  refine mm_g 2 (pc1 := 12) (lo1 := [some (.ref 118), some (.int (Int32.ofInt a1)), some (.int (Int32.ofInt (v1 - 1))), none]) (st1 := [.int (Int32.ofInt 0), .int (Int32.ofInt 0), .ref 120]) (H1 := mz_mk g x) rfl ?_
  refine mz_cs rfl mt_3_25 (by decide) rfl (Nat.le_of_ble_eq_true rfl) (by omega) (f_X11_put (by omega) hx hI (sh_120 _) (by decide) ba_120 (by omega) (by omega) (by decide) (by decide) (by decide) (by decide) (by omega) (by omega) (fun g2 hIg2 hfg2 hc3 => ⟨_, rfl, ?_⟩))
  show mm_W d mmX3_find 15 [some (.ref 118), some (.int (Int32.ofInt a1)), some (.int (Int32.ofInt (v1 - 1))), none] [] (mz_mk g2 x) Q
  replace hE := zf_t1 hE hc3
  refine mm_g 2 (pc1 := 17) (lo1 := [some (.ref 118), some (.int (Int32.ofInt a1)), some (.int (Int32.ofInt (v1 - 1))), some (.int (Int32.ofInt 1))]) (st1 := []) (H1 := mz_mk g2 x) rfl ?_
  have L8 : ∀ n7 : Nat, ∀ (v4 : Int) (g5 : mz_G), (64 - v4).toNat = n7 → 1 ≤ v4 → v4 ≤ 64 → mz_inv g5 → mz_fr (fl_X3_find_17 x a1) g2 g5 → (∃ fk : Nat, (64 - v4).toNat < fk ∧ zf_E (zF_X3_find a1 g) (zL_X3_find_17 a1 fk (v1 - 1) v4 g5)) → mm_W d mmX3_find 17 [some (.ref 118), some (.int (Int32.ofInt a1)), some (.int (Int32.ofInt (v1 - 1))), some (.int (Int32.ofInt v4))] [] (mz_mk g5 x) Q := by
    intro n7
    induction n7 using Nat.strongRecOn with
    | ind n7 ih6 =>
    intro v4 g5 hmn7 l_v4 u_v4 hIg5 hfg5 hF
    obtain ⟨fk, fl, hE⟩ := hF
    obtain ⟨fj9, rfl⟩ : ∃ fj, fk = fj + 1 := ⟨fk - 1, by omega⟩
    have fn10 : n7 ≤ fj9 := by omega
    replace hE := zf_tr hE zL_X3_find_17_s
    refine mm_g 2 (pc1 := 19) (lo1 := [some (.ref 118), some (.int (Int32.ofInt a1)), some (.int (Int32.ofInt (v1 - 1))), some (.int (Int32.ofInt v4))]) (st1 := [.int (Int32.ofInt (v1 - 1)), .int (Int32.ofInt v4)]) (H1 := mz_mk g5 x) rfl ?_
    refine mz_ic_gt (tgt := 42) rfl rfl (mz_rg l_v4 u_v4) ⟨by omega, by omega⟩ (fun c19_10 => ?_) (fun c19_10 => ?_)
    · skip
      replace hE := zf_ip hE c19_10
      refine mm_g 2 (pc1 := 44) (lo1 := [some (.ref 118), some (.int (Int32.ofInt a1)), some (.int (Int32.ofInt (v1 - 1))), some (.int (Int32.ofInt v4))]) (st1 := [.ref 118, .ref 118]) (H1 := mz_mk g5 x) rfl ?_
      refine mz_fgR (v := 120) rfl fd_3_15 (by decide) (sc_118 _) (rf_118_1 _ _ _) ?_
      refine mm_g 1 (pc1 := 48) (lo1 := [some (.ref 118), some (.int (Int32.ofInt a1)), some (.int (Int32.ofInt (v1 - 1))), some (.int (Int32.ofInt v4))]) (st1 := [.int (Int32.ofInt (v1 - 1)), .ref 120, .ref 118]) (H1 := mz_mk g5 x) rfl ?_
      refine mz_cs rfl mt_3_29 (by decide) rfl (Nat.le_of_ble_eq_true rfl) (by omega) (f_X11_at (by omega) hx hIg5 (sh_120 _) (by decide) ba_120 (by omega) (by omega) (by omega) (by omega) (fun v11 l_v11 u_v11 hc12 => ⟨_, rfl, ?_⟩))
      show mm_W d mmX3_find 51 [some (.ref 118), some (.int (Int32.ofInt a1)), some (.int (Int32.ofInt (v1 - 1))), some (.int (Int32.ofInt v4))] [.int (Int32.ofInt v11), .ref 118] (mz_mk g5 x) Q
      replace hE := zf_t1 hE hc12
      refine mz_pI rfl fd_3_21 (sc_118 _) hIg5 bd_118_3 (by omega) (by omega) (fun g13 hIg13 hug13 => ?_)
      replace hE := zf_tr hE (zf_lg hug13)
      refine mm_g 3 (pc1 := 57) (lo1 := [some (.ref 118), some (.int (Int32.ofInt a1)), some (.int (Int32.ofInt (v1 - 1))), some (.int (Int32.ofInt v4))]) (st1 := [.int (Int32.ofInt a1), .int (Int32.ofInt (v1 - 1)), .ref 118]) (H1 := mz_mk g13 x) rfl ?_
      refine mz_cv rfl mt_3_37 (by decide) (sc_118 _) rfl (Nat.le_of_ble_eq_true rfl) (by omega) (f_X3_choosePartners (by omega) hx hIg13 (by omega) (by omega) (by omega) (by omega) (fun g14 hIg14 hfg14 hc15 => ⟨_, rfl, ?_⟩))
      show mm_W d mmX3_find 60 [some (.ref 118), some (.int (Int32.ofInt a1)), some (.int (Int32.ofInt (v1 - 1))), some (.int (Int32.ofInt v4))] [] (mz_mk g14 x) Q
      replace hE := zf_t1 hE hc15
      exact mm_rt rfl rfl (hQ _ hIg14 (fun k j hk => ((hfg14 k j (fun h => hk (Or.inr (Or.inr h)))).trans ((hug13.2 k j (fun h => hk (Or.inr (Or.inl h)))).trans ((hfg5 k j (fun h => hk (Or.inl h))).trans (hfg2 k j (fun h => hk (Or.inl h))))))) hE)
    · skip
      replace hE := zf_nl hE c19_10
      refine mm_g 1 (pc1 := 23) (lo1 := [some (.ref 118), some (.int (Int32.ofInt a1)), some (.int (Int32.ofInt (v1 - 1))), some (.int (Int32.ofInt v4))]) (st1 := [.ref 118]) (H1 := mz_mk g5 x) rfl ?_
      refine mz_fgR (v := 120) rfl fd_3_15 (by decide) (sc_118 _) (rf_118_1 _ _ _) ?_
      refine mm_g 4 (pc1 := 30) (lo1 := [some (.ref 118), some (.int (Int32.ofInt a1)), some (.int (Int32.ofInt (v1 - 1))), some (.int (Int32.ofInt v4))]) (st1 := [.int (Int32.ofInt a1), .int (Int32.ofInt v4), .ref 118, .int (Int32.ofInt v4), .ref 120]) (H1 := mz_mk g5 x) rfl ?_
      refine mz_cv rfl mt_3_33 (by decide) (sc_118 _) rfl (Nat.le_of_ble_eq_true rfl) (by omega) (f_X3_fewestOf (by omega) hx hIg5 (by omega) (by omega) (by omega) (by omega) (fun v16 l_v16 u_v16 hc17 => ⟨_, rfl, ?_⟩))
      show mm_W d mmX3_find 33 [some (.ref 118), some (.int (Int32.ofInt a1)), some (.int (Int32.ofInt (v1 - 1))), some (.int (Int32.ofInt v4))] [.int (Int32.ofInt v16), .int (Int32.ofInt v4), .ref 120] (mz_mk g5 x) Q
      replace hE := zf_t1 hE hc17
      refine mz_cs rfl mt_3_25 (by decide) rfl (Nat.le_of_ble_eq_true rfl) (by omega) (f_X11_put (by omega) hx hIg5 (sh_120 _) (by decide) ba_120 (by omega) (by omega) (by omega) (by omega) l_v16 u_v16 (by omega) (by omega) (fun g18 hIg18 hfg18 hc19 => ⟨_, rfl, ?_⟩))
      show mm_W d mmX3_find 36 [some (.ref 118), some (.int (Int32.ofInt a1)), some (.int (Int32.ofInt (v1 - 1))), some (.int (Int32.ofInt v4))] [] (mz_mk g18 x) Q
      replace hE := zf_t1 hE hc19
      refine mz_iincR (v := v4) (lo2 := [some (.ref 118), some (.int (Int32.ofInt a1)), some (.int (Int32.ofInt (v1 - 1))), some (.int (Int32.ofInt (v4 + 1)))]) rfl rfl rfl (Nat.le_of_ble_eq_true rfl) rfl ?_
      refine mz_gt (tgt := 17) rfl rfl ?_
      exact ih6 ((64 - (v4 + 1)).toNat) (by omega) (v4 + 1) g18 rfl (by omega) (by omega) hIg18 (fun k j hk => ((hfg18 k j (fun h => hk h)).trans (hfg5 k j (fun h => hk h)))) ⟨fj9, Nat.lt_of_lt_of_le (show ((64 - (v4 + 1)).toNat) < n7 from (by omega)) fn10, hE⟩
  exact L8 _ 1 g2 rfl (by decide) (by decide) hIg2 (fun _ _ _ => rfl) ⟨3000000000, by omega, hE⟩
