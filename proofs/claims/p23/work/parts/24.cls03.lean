/-! EXACT: the class (wip/p2/tools/gen50.py) -/
theorem nj_2 : ¬ ((81 : Nat) = 84 ∨ ((81 : Nat) = 81 ∧ (5 : Nat) = 4)) := (fun h => (Or.elim h (fun h => (absurd (show 81 = 84 from h) (by decide))) (fun h => (absurd (show (81 = 81 ∧ 5 = 4) from h) (by decide)))))
theorem bip_m20 : (Int8.ofInt (-20)).toInt32 = Int32.ofInt (-20) := by decide
theorem bip_m19 : (Int8.ofInt (-19)).toInt32 = Int32.ofInt (-19) := by decide
theorem bip_m18 : (Int8.ofInt (-18)).toInt32 = Int32.ofInt (-18) := by decide
theorem bip_m17 : (Int8.ofInt (-17)).toInt32 = Int32.ofInt (-17) := by decide
theorem bip_m16 : (Int8.ofInt (-16)).toInt32 = Int32.ofInt (-16) := by decide
theorem bip_m15 : (Int8.ofInt (-15)).toInt32 = Int32.ofInt (-15) := by decide
theorem bip_m14 : (Int8.ofInt (-14)).toInt32 = Int32.ofInt (-14) := by decide
theorem bip_m13 : (Int8.ofInt (-13)).toInt32 = Int32.ofInt (-13) := by decide
theorem bip_m12 : (Int8.ofInt (-12)).toInt32 = Int32.ofInt (-12) := by decide
theorem bip_m11 : (Int8.ofInt (-11)).toInt32 = Int32.ofInt (-11) := by decide
theorem bip_m7 : (Int8.ofInt (-7)).toInt32 = Int32.ofInt (-7) := by decide
theorem bip_m6 : (Int8.ofInt (-6)).toInt32 = Int32.ofInt (-6) := by decide
theorem bip_m5 : (Int8.ofInt (-5)).toInt32 = Int32.ofInt (-5) := by decide
theorem bip_m4 : (Int8.ofInt (-4)).toInt32 = Int32.ofInt (-4) := by decide
theorem bip_m3 : (Int8.ofInt (-3)).toInt32 = Int32.ofInt (-3) := by decide
theorem bip_m2 : (Int8.ofInt (-2)).toInt32 = Int32.ofInt (-2) := by decide
theorem fd_4_25 : mm_tab mm_fldT 4 25 = some (4, 3, 0) ∧ mm_tab mm_ftT 4 3 = some 6 := ⟨rfl, rfl⟩
theorem fd_4_29 : mm_tab mm_fldT 4 29 = some (4, 4, 0) ∧ mm_tab mm_ftT 4 4 = some 0 := ⟨rfl, rfl⟩
theorem fd_4_32 : mm_tab mm_fldT 4 32 = some (4, 5, 0) ∧ mm_tab mm_ftT 4 5 = some 0 := ⟨rfl, rfl⟩
theorem fd_4_35 : mm_tab mm_fldT 4 35 = some (4, 6, 0) ∧ mm_tab mm_ftT 4 6 = some 0 := ⟨rfl, rfl⟩
theorem fd_4_38 : mm_tab mm_fldT 4 38 = some (4, 7, 0) ∧ mm_tab mm_ftT 4 7 = some 1 := ⟨rfl, rfl⟩
theorem fd_4_42 : mm_tab mm_fldT 4 42 = some (4, 8, 0) ∧ mm_tab mm_ftT 4 8 = some 1 := ⟨rfl, rfl⟩
theorem fd_4_87 : mm_tab mm_fldT 4 87 = some (1, 4, 1) ∧ mm_tab mm_ftT 1 4 = some 6 := ⟨rfl, rfl⟩
theorem fd_5_9 : mm_tab mm_fldT 5 9 = some (5, 0, 0) ∧ mm_tab mm_ftT 5 0 = some 6 := ⟨rfl, rfl⟩
theorem fd_6_41 : mm_tab mm_fldT 6 41 = some (6, 8, 0) ∧ mm_tab mm_ftT 6 8 = some 6 := ⟨rfl, rfl⟩
theorem mt_4_57 : mm_tab mm_mthT 4 57 = some (1, 92, 1, 0, 7) := rfl
theorem mt_4_67 : mm_tab mm_mthT 4 67 = some (1, 42, 1, 0, 4) := rfl
theorem mt_4_75 : mm_tab mm_mthT 4 75 = some (1, 44, 2, 0, 4) := rfl
theorem mt_4_81 : mm_tab mm_mthT 4 81 = some (1, 45, 1, 0, 4) := rfl
theorem mt_4_91 : mm_tab mm_mthT 4 91 = some (1, 46, 1, 0, 4) := rfl
theorem mt_4_151 : mm_tab mm_mthT 4 151 = some (1, 59, 0, 0, 5) := rfl
theorem mt_4_157 : mm_tab mm_mthT 4 157 = some (1, 49, 1, 0, 4) := rfl
theorem mt_4_161 : mm_tab mm_mthT 4 161 = some (1, 47, 0, 0, 4) := rfl
theorem mt_4_164 : mm_tab mm_mthT 4 164 = some (1, 48, 1, 0, 4) := rfl
theorem mt_4_167 : mm_tab mm_mthT 4 167 = some (1, 50, 1, 0, 4) := rfl
theorem mt_4_170 : mm_tab mm_mthT 4 170 = some (1, 53, 2, 0, 4) := rfl
theorem mt_4_174 : mm_tab mm_mthT 4 174 = some (1, 51, 1, 0, 4) := rfl
theorem mt_4_179 : mm_tab mm_mthT 4 179 = some (1, 54, 0, 0, 4) := rfl
theorem mt_4_182 : mm_tab mm_mthT 4 182 = some (1, 60, 1, 0, 5) := rfl
theorem mt_4_185 : mm_tab mm_mthT 4 185 = some (1, 55, 0, 0, 4) := rfl
theorem mt_4_188 : mm_tab mm_mthT 4 188 = some (0, 56, 1, 0, 4) := rfl
theorem mt_4_192 : mm_tab mm_mthT 4 192 = some (1, 52, 0, 0, 4) := rfl
theorem mt_4_195 : mm_tab mm_mthT 4 195 = some (0, 177, 3, 1, 11) := rfl
theorem mt_4_199 : mm_tab mm_mthT 4 199 = some (0, 176, 2, 1, 11) := rfl
theorem mt_5_25 : mm_tab mm_mthT 5 25 = some (0, 177, 3, 1, 11) := rfl
theorem mt_6_52 : mm_tab mm_mthT 6 52 = some (0, 176, 2, 1, 11) := rfl
theorem mt_6_56 : mm_tab mm_mthT 6 56 = some (0, 177, 3, 1, 11) := rfl
theorem sh_84 (L : Nat) : mm_SH L 84 = (100, 84) := rfl
theorem bd_81_4 : mz_bd 81 4 = ((-2147483648), 2147483647) := rfl
theorem bd_81_5 : mz_bd 81 5 = ((-2147483648), 2147483647) := rfl
theorem bd_81_6 : mz_bd 81 6 = ((-2147483648), 2147483647) := rfl
theorem bd_81_7 : mz_bd 81 7 = (0, 1) := rfl
theorem bd_81_8 : mz_bd 81 8 = (0, 1) := rfl
theorem ba_84 (j : Nat) : mz_bd 84 j = ((-2147483648), 2147483647) := rfl
theorem rf_81_3 (a b : Nat) (c : Option Nat) : mm_HR a b c 81 3 = some 84 := rfl
theorem kr_rule_0 {q : Nat} (h : kd_rule q) (a b : Nat) (c : Option Nat) : mm_HR a b c q 0 = some (q + 1) := by unfold kd_rule at h; rcases h with rfl | rfl <;> rfl
theorem kr_story_8 {q : Nat} (h : kd_story q) (a b : Nat) (c : Option Nat) : mm_HR a b c q 8 = some (q + 14) := by unfold kd_story at h; rcases h with rfl | rfl <;> rfl
theorem ka_rule_0 {q : Nat} (h : kd_rule q) (L : Nat) : mm_SH L (q + 1) = (100, 700) := by unfold kd_rule at h; rcases h with rfl | rfl <;> rfl
theorem kba_rule_0 {q : Nat} (h : kd_rule q) (j : Nat) : mz_bd (q + 1) j = ((-2147483648), 2147483647) := by unfold kd_rule at h; rcases h with rfl | rfl <;> rfl
theorem ka_story_8 {q : Nat} (h : kd_story q) (L : Nat) : mm_SH L (q + 14) = (100, 3) := by unfold kd_story at h; rcases h with rfl | rfl <;> rfl
theorem kba_story_8 {q : Nat} (h : kd_story q) (j : Nat) : mz_bd (q + 14) j = ((-2147483648), 2147483647) := by unfold kd_story at h; rcases h with rfl | rfl <;> rfl
def fw_X4_notsAnew (x : mm_X) (a1 : Int) : Nat → Nat → Prop := fun k j => (k = 81 ∧ j = 8) ∨ (k = 81 ∧ j = 6)
theorem f_X4_notsAnew {d : Nat} (hd : 1 ≤ d) {x : mm_X} (hx : mk_x x) {g : mz_G} (hI : mz_inv g) {a1 : Int} (l_a1 : 0 ≤ a1) (u_a1 : a1 ≤ 1) {Q : (Option Value ⊕ Nat) → mm_H → Prop} (hQ : ∀ (g1 : mz_G), mz_inv g1 → mz_fr (fw_X4_notsAnew x a1) g g1 → zf_E (zF_X4_notsAnew a1 g) (g1) → Q (.inl none) (mz_mk g1 x)) : mm_C d 49 [.ref 81, .int (Int32.ofInt a1)] (mz_mk g x) Q := by
  refine ⟨mmX4_notsAnew, [some (.ref 81), some (.int (Int32.ofInt a1))], rfl, rfl, ?_⟩
  have hE : zf_E (zF_X4_notsAnew a1 g) (zF_X4_notsAnew a1 g) := zf_rf
  refine mm_g 2 (pc1 := 2) (lo1 := [some (.ref 81), some (.int (Int32.ofInt a1))]) (st1 := [.int (Int32.ofInt a1), .ref 81]) (H1 := mz_mk g x) rfl ?_
  refine mz_pZ rfl fd_4_42 (sc_81 _) (by omega) hI bd_81_8 (by omega) (by omega) (fun g1 hIg1 hug1 => ?_)
  replace hE := zf_tr hE (zf_lg hug1)
  refine mm_g 2 (pc1 := 7) (lo1 := [some (.ref 81), some (.int (Int32.ofInt a1))]) (st1 := [.int (Int32.ofInt 0), .ref 81]) (H1 := mz_mk g1 x) rfl ?_
  refine mz_pI rfl fd_4_35 (sc_81 _) hIg1 bd_81_6 (by omega) (by omega) (fun g2 hIg2 hug2 => ?_)
  replace hE := zf_tr hE (zf_lg hug2)
  exact mm_rt rfl rfl (hQ _ hIg2 (fun k j hk => ((hug2.2 k j (fun h => hk (Or.inr h))).trans (hug1.2 k j (fun h => hk (Or.inl h))))) hE)
theorem f_X4_exprEnds {d : Nat} (hd : 2 ≤ d) {x : mm_X} (hx : mk_x x) {g : mz_G} (hI : mz_inv g) {Q : (Option Value ⊕ Nat) → mm_H → Prop} (hQ : ∀ (r : Int), 0 ≤ r → r ≤ 1 → zf_E (zF_X4_exprEnds g) (r) → Q (.inl (some (.int (Int32.ofInt r)))) (mz_mk g x)) : mm_C d 47 [.ref 81] (mz_mk g x) Q := by
  refine ⟨mmX4_exprEnds, [some (.ref 81)], rfl, rfl, ?_⟩
  have hE : zf_E (zF_X4_exprEnds g) (zF_X4_exprEnds g) := zf_rf
  refine mm_g 1 (pc1 := 1) (lo1 := [some (.ref 81)]) (st1 := [.ref 81]) (H1 := mz_mk g x) rfl ?_
  refine mz_gI rfl fd_4_38 (by decide) (sc_81 _) hI bd_81_7 (fun v1 e_v1 l_v1 u_v1 => ?_)
  replace hE := zf_tr hE (zf_le e_v1)
  refine mz_if_ne (tgt := 30) rfl rfl (mz_rg l_v1 u_v1) (fun c4_1 => ?_) (fun c4_1 => ?_)
  · skip
    replace hE := zf_in hE c4_1
    refine mm_g 1 (pc1 := 31) (lo1 := [some (.ref 81)]) (st1 := [.int (Int32.ofInt 0)]) (H1 := mz_mk g x) rfl ?_
    exact mz_rtZ rfl (by decide) (by omega) (hQ _ (by decide) (by decide) hE)
  · skip
    replace hE := zf_ip hE c4_1
    refine mm_g 1 (pc1 := 8) (lo1 := [some (.ref 81)]) (st1 := [.ref 81]) (H1 := mz_mk g x) rfl ?_
    refine mz_gI rfl fd_4_32 (by decide) (sc_81 _) hI bd_81_5 (fun v2 e_v2 l_v2 u_v2 => ?_)
    replace hE := zf_tr hE (zf_le e_v2)
    refine mz_if_ne (tgt := 30) rfl rfl (mz_rg l_v2 u_v2) (fun c11_2 => ?_) (fun c11_2 => ?_)
    · skip
      replace hE := zf_in hE c11_2
      refine mm_g 1 (pc1 := 31) (lo1 := [some (.ref 81)]) (st1 := [.int (Int32.ofInt 0)]) (H1 := mz_mk g x) rfl ?_
      exact mz_rtZ rfl (by decide) (by omega) (hQ _ (by decide) (by decide) hE)
    · skip
      replace hE := zf_ip hE c11_2
      refine mm_g 1 (pc1 := 15) (lo1 := [some (.ref 81)]) (st1 := [.ref 81]) (H1 := mz_mk g x) rfl ?_
      refine mz_fgR (v := 82) rfl fd_4_12 (by decide) (sc_81 _) (rf_81_0 _ _ _) ?_
      refine mz_cv rfl mt_4_48 (by decide) (sc_82 _) rfl (Nat.le_of_ble_eq_true rfl) (by omega) (f_X7_kind (by omega) hx hI (fun v3 l_v3 u_v3 hc4 => ⟨_, rfl, ?_⟩))
      show mm_W d mmX4_exprEnds 21 [some (.ref 81)] [.int (Int32.ofInt v3)] (mz_mk g x) Q
      replace hE := zf_t1 hE hc4
      refine mz_bip rfl bip_59 ?_
      refine mz_ic_ne (tgt := 30) rfl rfl (mz_rg l_v3 u_v3) ⟨by decide, by decide⟩ (fun c23_4 => ?_) (fun c23_4 => ?_)
      · skip
        replace hE := zf_in hE c23_4
        refine mm_g 1 (pc1 := 31) (lo1 := [some (.ref 81)]) (st1 := [.int (Int32.ofInt 0)]) (H1 := mz_mk g x) rfl ?_
        exact mz_rtZ rfl (by decide) (by omega) (hQ _ (by decide) (by decide) hE)
      · skip
        replace hE := zf_ip hE c23_4
        refine mm_g 1 (pc1 := 27) (lo1 := [some (.ref 81)]) (st1 := [.int (Int32.ofInt 1)]) (H1 := mz_mk g x) rfl ?_
        refine mz_gt (tgt := 31) rfl rfl ?_
        exact mz_rtZ rfl (by decide) (by omega) (hQ _ (by decide) (by decide) hE)
def fw_X4_openSign (x : mm_X) (a1 : Int) : Nat → Nat → Prop := fun k j => k = 84 ∨ (k = 81 ∧ j = 4)
theorem f_X4_openSign {d : Nat} (hd : 2 ≤ d) {x : mm_X} (hx : mk_x x) {g : mz_G} (hI : mz_inv g) {a1 : Int} (l_a1 : (-2147483648) ≤ a1) (u_a1 : a1 ≤ 2147483647) {Q : (Option Value ⊕ Nat) → mm_H → Prop} (hQ : ∀ (g1 : mz_G), mz_inv g1 → mz_fr (fw_X4_openSign x a1) g g1 → zf_E (zF_X4_openSign a1 g) (g1) → Q (.inl none) (mz_mk g1 x)) : mm_C d 51 [.ref 81, .int (Int32.ofInt a1)] (mz_mk g x) Q := by
  refine ⟨mmX4_openSign, [some (.ref 81), some (.int (Int32.ofInt a1))], rfl, rfl, ?_⟩
  have hE : zf_E (zF_X4_openSign a1 g) (zF_X4_openSign a1 g) := zf_rf
  refine mm_g 1 (pc1 := 1) (lo1 := [some (.ref 81), some (.int (Int32.ofInt a1))]) (st1 := [.ref 81]) (H1 := mz_mk g x) rfl ?_
  refine mz_fgR (v := 84) rfl fd_4_25 (by decide) (sc_81 _) (rf_81_3 _ _ _) ?_
  refine mm_g 1 (pc1 := 5) (lo1 := [some (.ref 81), some (.int (Int32.ofInt a1))]) (st1 := [.ref 81, .ref 84]) (H1 := mz_mk g x) rfl ?_
  refine mz_gI rfl fd_4_29 (by decide) (sc_81 _) hI bd_81_4 (fun v1 e_v1 l_v1 u_v1 => ?_)
  replace hE := zf_tr hE (zf_le e_v1)
  refine mm_g 1 (pc1 := 9) (lo1 := [some (.ref 81), some (.int (Int32.ofInt a1))]) (st1 := [.int (Int32.ofInt a1), .int (Int32.ofInt v1), .ref 84]) (H1 := mz_mk g x) rfl ?_
  refine mz_cs rfl mt_4_195 (by decide) rfl (Nat.le_of_ble_eq_true rfl) (by omega) (f_X11_put (by omega) hx hI (sh_84 _) (by decide) ba_84 (by omega) (by omega) l_v1 u_v1 l_a1 u_a1 (by omega) (by omega) (fun g2 hIg2 hfg2 hc3 => ⟨_, rfl, ?_⟩))
  show mm_W d mmX4_openSign 12 [some (.ref 81), some (.int (Int32.ofInt a1))] [] (mz_mk g2 x) Q
  replace hE := zf_t1 hE hc3
  refine mm_g 2 (pc1 := 14) (lo1 := [some (.ref 81), some (.int (Int32.ofInt a1))]) (st1 := [.ref 81, .ref 81]) (H1 := mz_mk g2 x) rfl ?_
  refine mz_fgI (v := v1) rfl fd_4_29 (by decide) (sc_81 _) (show g2 81 4 = v1 from ((hfg2 81 4 (fun h => (absurd (show 81 = 84 from h) (by decide)))).trans e_v1)) ?_
  replace hE := zf_tr hE (zf_le (show g2 81 4 = v1 from ((hfg2 81 4 (fun h => (absurd (show 81 = 84 from h) (by decide)))).trans e_v1)))
  refine mm_g 1 (pc1 := 18) (lo1 := [some (.ref 81), some (.int (Int32.ofInt a1))]) (st1 := [.int (Int32.ofInt 1), .int (Int32.ofInt v1), .ref 81]) (H1 := mz_mk g2 x) rfl ?_
  refine mz_iadd_w rfl (fun v4 e_v4 hwv4 => ?_)
  have l_v4 := hwv4.1
  have u_v4 := hwv4.2
  replace hE := zf_tr hE (zf_le e_v4.symm)
  refine mz_pI rfl fd_4_29 (sc_81 _) hIg2 bd_81_4 (by omega) (by omega) (fun g5 hIg5 hug5 => ?_)
  replace hE := zf_tr hE (zf_lg hug5)
  exact mm_rt rfl rfl (hQ _ hIg5 (fun k j hk => ((hug5.2 k j (fun h => hk (Or.inr h))).trans (hfg2 k j (fun h => hk (Or.inl h))))) hE)
theorem f_X4_valueOfWord {d : Nat} (hd : 6 ≤ d) {x : mm_X} (hx : mk_x x) {g : mz_G} (hI : mz_inv g) {Q : (Option Value ⊕ Nat) → mm_H → Prop} (hQ : ∀ (r : Int), (-7) ≤ r → r ≤ 0 → zf_E (zF_X4_valueOfWord g) (r) → Q (.inl (some (.int (Int32.ofInt r)))) (mz_mk g x)) : mm_C d 54 [.ref 81] (mz_mk g x) Q := by
  refine ⟨mmX4_valueOfWord, [some (.ref 81)], rfl, rfl, ?_⟩
  have hE : zf_E (zF_X4_valueOfWord g) (zF_X4_valueOfWord g) := zf_rf
  refine mm_g 1 (pc1 := 1) (lo1 := [some (.ref 81)]) (st1 := [.ref 81]) (H1 := mz_mk g x) rfl ?_
  refine mz_fgR (v := 82) rfl fd_4_12 (by decide) (sc_81 _) (rf_81_0 _ _ _) ?_
  refine mz_ldcS (j := 6) rfl rfl rfl ?_
  refine mz_cv rfl mt_4_57 (by decide) (sc_82 _) rfl (Nat.le_of_ble_eq_true rfl) (by omega) (f_X7_spells (by omega) hx hI (by decide) (fun v1 l_v1 u_v1 hc2 => ⟨_, rfl, ?_⟩))
  show mm_W d mmX4_valueOfWord 9 [some (.ref 81)] [.int (Int32.ofInt v1)] (mz_mk g x) Q
  replace hE := zf_t1 hE hc2
  refine mz_if_eq (tgt := 16) rfl rfl (mz_rg l_v1 u_v1) (fun c9_2 => ?_) (fun c9_2 => ?_)
  · skip
    replace hE := zf_ip hE c9_2
    refine mm_g 1 (pc1 := 17) (lo1 := [some (.ref 81)]) (st1 := [.ref 81]) (H1 := mz_mk g x) rfl ?_
    refine mz_fgR (v := 82) rfl fd_4_12 (by decide) (sc_81 _) (rf_81_0 _ _ _) ?_
    refine mz_ldcS (j := 3) rfl rfl rfl ?_
    refine mz_cv rfl mt_4_57 (by decide) (sc_82 _) rfl (Nat.le_of_ble_eq_true rfl) (by omega) (f_X7_spells (by omega) hx hI (by decide) (fun v3 l_v3 u_v3 hc4 => ⟨_, rfl, ?_⟩))
    show mm_W d mmX4_valueOfWord 25 [some (.ref 81)] [.int (Int32.ofInt v3)] (mz_mk g x) Q
    replace hE := zf_t1 hE hc4
    refine mz_if_eq (tgt := 33) rfl rfl (mz_rg l_v3 u_v3) (fun c25_4 => ?_) (fun c25_4 => ?_)
    · skip
      replace hE := zf_ip hE c25_4
      refine mm_g 1 (pc1 := 34) (lo1 := [some (.ref 81)]) (st1 := [.ref 81]) (H1 := mz_mk g x) rfl ?_
      refine mz_fgR (v := 82) rfl fd_4_12 (by decide) (sc_81 _) (rf_81_0 _ _ _) ?_
      refine mz_ldcS (j := 7) rfl rfl rfl ?_
      refine mz_cv rfl mt_4_57 (by decide) (sc_82 _) rfl (Nat.le_of_ble_eq_true rfl) (by omega) (f_X7_spells (by omega) hx hI (by decide) (fun v5 l_v5 u_v5 hc6 => ⟨_, rfl, ?_⟩))
      show mm_W d mmX4_valueOfWord 42 [some (.ref 81)] [.int (Int32.ofInt v5)] (mz_mk g x) Q
      replace hE := zf_t1 hE hc6
      refine mz_if_eq (tgt := 50) rfl rfl (mz_rg l_v5 u_v5) (fun c42_6 => ?_) (fun c42_6 => ?_)
      · skip
        replace hE := zf_ip hE c42_6
        refine mm_g 1 (pc1 := 51) (lo1 := [some (.ref 81)]) (st1 := [.ref 81]) (H1 := mz_mk g x) rfl ?_
        refine mz_fgR (v := 82) rfl fd_4_12 (by decide) (sc_81 _) (rf_81_0 _ _ _) ?_
        refine mz_ldcS (j := 8) rfl rfl rfl ?_
        refine mz_cv rfl mt_4_57 (by decide) (sc_82 _) rfl (Nat.le_of_ble_eq_true rfl) (by omega) (f_X7_spells (by omega) hx hI (by decide) (fun v7 l_v7 u_v7 hc8 => ⟨_, rfl, ?_⟩))
        show mm_W d mmX4_valueOfWord 59 [some (.ref 81)] [.int (Int32.ofInt v7)] (mz_mk g x) Q
        replace hE := zf_t1 hE hc8
        refine mz_if_eq (tgt := 67) rfl rfl (mz_rg l_v7 u_v7) (fun c59_8 => ?_) (fun c59_8 => ?_)
        · skip
          replace hE := zf_ip hE c59_8
          refine mm_g 1 (pc1 := 68) (lo1 := [some (.ref 81)]) (st1 := [.ref 81]) (H1 := mz_mk g x) rfl ?_
          refine mz_fgR (v := 82) rfl fd_4_12 (by decide) (sc_81 _) (rf_81_0 _ _ _) ?_
          refine mz_ldcS (j := 9) rfl rfl rfl ?_
          refine mz_cv rfl mt_4_57 (by decide) (sc_82 _) rfl (Nat.le_of_ble_eq_true rfl) (by omega) (f_X7_spells (by omega) hx hI (by decide) (fun v9 l_v9 u_v9 hc10 => ⟨_, rfl, ?_⟩))
          show mm_W d mmX4_valueOfWord 76 [some (.ref 81)] [.int (Int32.ofInt v9)] (mz_mk g x) Q
          replace hE := zf_t1 hE hc10
          refine mz_if_eq (tgt := 84) rfl rfl (mz_rg l_v9 u_v9) (fun c76_10 => ?_) (fun c76_10 => ?_)
          · skip
            replace hE := zf_ip hE c76_10
            refine mm_g 1 (pc1 := 85) (lo1 := [some (.ref 81)]) (st1 := [.ref 81]) (H1 := mz_mk g x) rfl ?_
            refine mz_fgR (v := 82) rfl fd_4_12 (by decide) (sc_81 _) (rf_81_0 _ _ _) ?_
            refine mz_ldcS (j := 10) rfl rfl rfl ?_
            refine mz_cv rfl mt_4_57 (by decide) (sc_82 _) rfl (Nat.le_of_ble_eq_true rfl) (by omega) (f_X7_spells (by omega) hx hI (by decide) (fun v11 l_v11 u_v11 hc12 => ⟨_, rfl, ?_⟩))
            show mm_W d mmX4_valueOfWord 93 [some (.ref 81)] [.int (Int32.ofInt v11)] (mz_mk g x) Q
            replace hE := zf_t1 hE hc12
            refine mz_if_eq (tgt := 101) rfl rfl (mz_rg l_v11 u_v11) (fun c93_12 => ?_) (fun c93_12 => ?_)
            · skip
              replace hE := zf_ip hE c93_12
              refine mm_g 1 (pc1 := 102) (lo1 := [some (.ref 81)]) (st1 := [.ref 81]) (H1 := mz_mk g x) rfl ?_
              refine mz_fgR (v := 82) rfl fd_4_12 (by decide) (sc_81 _) (rf_81_0 _ _ _) ?_
              refine mz_ldcS (j := 11) rfl rfl rfl ?_
              refine mz_cv rfl mt_4_57 (by decide) (sc_82 _) rfl (Nat.le_of_ble_eq_true rfl) (by omega) (f_X7_spells (by omega) hx hI (by decide) (fun v13 l_v13 u_v13 hc14 => ⟨_, rfl, ?_⟩))
              show mm_W d mmX4_valueOfWord 110 [some (.ref 81)] [.int (Int32.ofInt v13)] (mz_mk g x) Q
              replace hE := zf_t1 hE hc14
              refine mz_if_eq (tgt := 118) rfl rfl (mz_rg l_v13 u_v13) (fun c110_14 => ?_) (fun c110_14 => ?_)
              · skip
                replace hE := zf_ip hE c110_14
                refine mm_g 1 (pc1 := 119) (lo1 := [some (.ref 81)]) (st1 := [.int (Int32.ofInt 0)]) (H1 := mz_mk g x) rfl ?_
                exact mm_rt rfl rfl (hQ _ (by decide) (by decide) hE)
              · skip
                replace hE := zf_in hE c110_14
                refine mz_bip rfl bip_m7 ?_
                refine mz_gt (tgt := 119) rfl rfl ?_
                exact mm_rt rfl rfl (hQ _ (by decide) (by decide) hE)
            · skip
              replace hE := zf_in hE c93_12
              refine mz_bip rfl bip_m6 ?_
              refine mz_gt (tgt := 119) rfl rfl ?_
              exact mm_rt rfl rfl (hQ _ (by decide) (by decide) hE)
          · skip
            replace hE := zf_in hE c76_10
            refine mz_bip rfl bip_m5 ?_
            refine mz_gt (tgt := 119) rfl rfl ?_
            exact mm_rt rfl rfl (hQ _ (by decide) (by decide) hE)
        · skip
          replace hE := zf_in hE c59_8
          refine mz_bip rfl bip_m4 ?_
          refine mz_gt (tgt := 119) rfl rfl ?_
          exact mm_rt rfl rfl (hQ _ (by decide) (by decide) hE)
      · skip
        replace hE := zf_in hE c42_6
        refine mz_bip rfl bip_m3 ?_
        refine mz_gt (tgt := 119) rfl rfl ?_
        exact mm_rt rfl rfl (hQ _ (by decide) (by decide) hE)
    · skip
      replace hE := zf_in hE c25_4
      refine mz_bip rfl bip_m2 ?_
      refine mz_gt (tgt := 119) rfl rfl ?_
      exact mm_rt rfl rfl (hQ _ (by decide) (by decide) hE)
  · skip
    replace hE := zf_in hE c9_2
    refine mm_g 1 (pc1 := 13) (lo1 := [some (.ref 81)]) (st1 := [.int (Int32.ofInt (-1))]) (H1 := mz_mk g x) rfl ?_
    refine mz_gt (tgt := 119) rfl rfl ?_
    exact mm_rt rfl rfl (hQ _ (by decide) (by decide) hE)
def fw_X5_addStep (x : mm_X) (q0 : Nat) (a1 : Int) : Nat → Nat → Prop := fun k j => k = (q0 + 1) ∨ k = q0
theorem f_X5_addStep {d : Nat} (hd : 2 ≤ d) {x : mm_X} (hx : mk_x x) {g : mz_G} (hI : mz_inv g) {q0 : Nat} (h_q0 : kd_rule q0) {a1 : Int} (l_a1 : (-2147483648) ≤ a1) (u_a1 : a1 ≤ 2147483647) {Q : (Option Value ⊕ Nat) → mm_H → Prop} (hQ : ∀ (g1 : mz_G), mz_inv g1 → mz_fr (fw_X5_addStep x q0 a1) g g1 → zf_E (zF_X5_addStep q0 a1 g) (g1) → Q (.inl none) (mz_mk g1 x)) : mm_C d 60 [.ref q0, .int (Int32.ofInt a1)] (mz_mk g x) Q := by
  have kn_q0 := kn_rule h_q0
  refine ⟨mmX5_addStep, [some (.ref q0), some (.int (Int32.ofInt a1))], rfl, rfl, ?_⟩
  have hE : zf_E (zF_X5_addStep q0 a1 g) (zF_X5_addStep q0 a1 g) := zf_rf
  refine mm_g 1 (pc1 := 1) (lo1 := [some (.ref q0), some (.int (Int32.ofInt a1))]) (st1 := [.ref q0]) (H1 := mz_mk g x) rfl ?_
  refine mz_gI rfl fd_5_15 (by decide) (kc_rule h_q0 _) hI (kb_rule_1 h_q0) (fun v1 e_v1 l_v1 u_v1 => ?_)
  replace hE := zf_tr hE (zf_le e_v1)
  refine mz_sip rfl sip_700 ?_
  refine mz_ic_ge (tgt := 32) rfl rfl (mz_rg l_v1 u_v1) ⟨by decide, by decide⟩ (fun c7_1 => ?_) (fun c7_1 => ?_)
  · skip
    replace hE := zf_nl hE c7_1
    exact mm_rt rfl rfl (hQ _ hI (fun _ _ _ => rfl) hE)
  · skip
    replace hE := zf_ip hE c7_1
    refine mm_g 1 (pc1 := 11) (lo1 := [some (.ref q0), some (.int (Int32.ofInt a1))]) (st1 := [.ref q0]) (H1 := mz_mk g x) rfl ?_
    refine mz_fgR (v := (q0 + 1)) rfl fd_5_9 (by decide) (kc_rule h_q0 _) (kr_rule_0 h_q0 _ _ _) ?_
    refine mm_g 1 (pc1 := 15) (lo1 := [some (.ref q0), some (.int (Int32.ofInt a1))]) (st1 := [.ref q0, .ref (q0 + 1)]) (H1 := mz_mk g x) rfl ?_
    refine mz_fgI (v := v1) rfl fd_5_15 (by decide) (kc_rule h_q0 _) e_v1 ?_
    replace hE := zf_tr hE (zf_le e_v1)
    refine mm_g 1 (pc1 := 19) (lo1 := [some (.ref q0), some (.int (Int32.ofInt a1))]) (st1 := [.int (Int32.ofInt a1), .int (Int32.ofInt v1), .ref (q0 + 1)]) (H1 := mz_mk g x) rfl ?_
    refine mz_cs rfl mt_5_25 (by decide) rfl (Nat.le_of_ble_eq_true rfl) (by omega) (f_X11_put (by omega) hx hI (ka_rule_0 h_q0 _) (by decide) (kba_rule_0 h_q0) (by omega) (by omega) (by omega) (by omega) l_a1 u_a1 (by omega) (by omega) (fun g2 hIg2 hfg2 hc3 => ⟨_, rfl, ?_⟩))
    show mm_W d mmX5_addStep 22 [some (.ref q0), some (.int (Int32.ofInt a1))] [] (mz_mk g2 x) Q
    replace hE := zf_t1 hE hc3
    refine mm_g 2 (pc1 := 24) (lo1 := [some (.ref q0), some (.int (Int32.ofInt a1))]) (st1 := [.ref q0, .ref q0]) (H1 := mz_mk g2 x) rfl ?_
    refine mz_fgI (v := v1) rfl fd_5_15 (by decide) (kc_rule h_q0 _) (show g2 q0 1 = v1 from ((hfg2 q0 1 (fun h => (by have h9 : q0 = (q0 + 1) := h; omega))).trans e_v1)) ?_
    replace hE := zf_tr hE (zf_le (show g2 q0 1 = v1 from ((hfg2 q0 1 (fun h => (by have h9 : q0 = (q0 + 1) := h; omega))).trans e_v1)))
    refine mm_g 1 (pc1 := 28) (lo1 := [some (.ref q0), some (.int (Int32.ofInt a1))]) (st1 := [.int (Int32.ofInt 1), .int (Int32.ofInt v1), .ref q0]) (H1 := mz_mk g2 x) rfl ?_
    refine mz_iadd rfl ?_
    refine mz_pI rfl fd_5_15 (kc_rule h_q0 _) hIg2 (kb_rule_1 h_q0) (by omega) (by omega) (fun g4 hIg4 hug4 => ?_)
    replace hE := zf_tr hE (zf_lg hug4)
    exact mm_rt rfl rfl (hQ _ hIg4 (fun k j hk => ((hug4.2 k j (fun h => hk (Or.inr h.1))).trans (hfg2 k j (fun h => hk (Or.inl h))))) hE)
def fw_X4_readPart (x : mm_X) (q1 : Nat) : Nat → Nat → Prop := fun k j => k = (q1 + 1) ∨ k = q1 ∨ (k = 81 ∧ j = 7) ∨ (k = 82 ∧ j = 3) ∨ (k = 82 ∧ j = 5) ∨ (k = 82 ∧ j = 6) ∨ (k = 82 ∧ j = 4) ∨ (k = 81 ∧ j = 1) ∨ (k = 81 ∧ j = 2) ∨ (k = 81 ∧ j = 6) ∨ k = 84 ∨ (k = 81 ∧ j = 4) ∨ (k = 81 ∧ j = 5) ∨ (k = 81 ∧ j = 8)
theorem f_X4_readPart {d : Nat} (hd : 7 ≤ d) {x : mm_X} (hx : mk_x x) {g : mz_G} (hI : mz_inv g) {q1 : Nat} (h_q1 : kd_rule q1) {Q : (Option Value ⊕ Nat) → mm_H → Prop} (hQ : ∀ (r : Int) (g1 : mz_G), mz_inv g1 → mz_fr (fw_X4_readPart x q1) g g1 → 0 ≤ r → r ≤ 1 → zf_E (zF_X4_readPart q1 g) ((r, g1)) → Q (.inl (some (.int (Int32.ofInt r)))) (mz_mk g1 x)) : mm_C d 48 [.ref 81, .ref q1] (mz_mk g x) Q := by
  have kn_q1 := kn_rule h_q1
  refine ⟨mmX4_readPart, [some (.ref 81), some (.ref q1), none, none], rfl, rfl, ?_⟩
  have hE : zf_E (zF_X4_readPart q1 g) (zF_X4_readPart q1 g) := zf_rf
  refine mm_g 1 (pc1 := 1) (lo1 := [some (.ref 81), some (.ref q1), none, none]) (st1 := [.ref 81]) (H1 := mz_mk g x) rfl ?_
  refine mz_fgR (v := 82) rfl fd_4_12 (by decide) (sc_81 _) (rf_81_0 _ _ _) ?_
  refine mz_cv rfl mt_4_48 (by decide) (sc_82 _) rfl (Nat.le_of_ble_eq_true rfl) (by omega) (f_X7_kind (by omega) hx hI (fun v1 l_v1 u_v1 hc2 => ⟨_, rfl, ?_⟩))
  show mm_W d mmX4_readPart 7 [some (.ref 81), some (.ref q1), none, none] [.int (Int32.ofInt v1)] (mz_mk g x) Q
  replace hE := zf_t1 hE hc2
  refine mm_g 3 (pc1 := 10) (lo1 := [some (.ref 81), some (.ref q1), some (.int (Int32.ofInt v1)), none]) (st1 := [.int (Int32.ofInt 2), .int (Int32.ofInt v1)]) (H1 := mz_mk g x) rfl ?_
  refine mz_ic_eq (tgt := 30) rfl rfl (mz_rg l_v1 u_v1) ⟨by decide, by decide⟩ (fun c10_2 => ?_) (fun c10_2 => ?_)
  · skip
    replace hE := zf_ip hE c10_2
    refine mm_g 1 (pc1 := 31) (lo1 := [some (.ref 81), some (.ref q1), some (.int (Int32.ofInt v1)), none]) (st1 := [.ref 81]) (H1 := mz_mk g x) rfl ?_
    refine mz_gI rfl fd_4_32 (by decide) (sc_81 _) hI bd_81_5 (fun v3 e_v3 l_v3 u_v3 => ?_)
    replace hE := zf_tr hE (zf_le e_v3)
    refine mz_bip rfl bip_6 ?_
    refine mz_ic_lt (tgt := 45) rfl rfl (mz_rg l_v3 u_v3) ⟨by decide, by decide⟩ (fun c36_3 => ?_) (fun c36_3 => ?_)
    · skip
      replace hE := zf_ip hE c36_3
      refine mm_g 1 (pc1 := 46) (lo1 := [some (.ref 81), some (.ref q1), some (.int (Int32.ofInt v1)), none]) (st1 := [.int (Int32.ofInt v1)]) (H1 := mz_mk g x) rfl ?_
      refine mz_bip rfl bip_40 ?_
      refine mz_ic_ne (tgt := 75) rfl rfl (mz_rg l_v1 u_v1) ⟨by decide, by decide⟩ (fun c48_3 => ?_) (fun c48_3 => ?_)
      · skip
        replace hE := zf_in hE c48_3
        refine mm_g 1 (pc1 := 76) (lo1 := [some (.ref 81), some (.ref q1), some (.int (Int32.ofInt v1)), none]) (st1 := [.ref 81]) (H1 := mz_mk g x) rfl ?_
        refine mz_gI rfl fd_4_42 (by decide) (sc_81 _) hI bd_81_8 (fun v4 e_v4 l_v4 u_v4 => ?_)
        replace hE := zf_tr hE (zf_le e_v4)
        refine mz_if_eq (tgt := 128) rfl rfl (mz_rg l_v4 u_v4) (fun c79_4 => ?_) (fun c79_4 => ?_)
        · skip
          replace hE := zf_ip hE c79_4
          refine mm_g 2 (pc1 := 130) (lo1 := [some (.ref 81), some (.ref q1), some (.int (Int32.ofInt v1)), none]) (st1 := [.int (Int32.ofInt 2), .int (Int32.ofInt v1)]) (H1 := mz_mk g x) rfl ?_
          refine mz_ic_ne (tgt := 143) rfl rfl (mz_rg l_v1 u_v1) ⟨by decide, by decide⟩ (fun c130_4 => ?_) (fun c130_4 => ?_)
          · exfalso; omega
          · skip
            replace hE := zf_ip hE c130_4
            refine mm_g 1 (pc1 := 134) (lo1 := [some (.ref 81), some (.ref q1), some (.int (Int32.ofInt v1)), none]) (st1 := [.ref 81]) (H1 := mz_mk g x) rfl ?_
            refine mz_fgR (v := 82) rfl fd_4_12 (by decide) (sc_81 _) (rf_81_0 _ _ _) ?_
            refine mz_cv rfl mt_4_129 (by decide) (sc_82 _) rfl (Nat.le_of_ble_eq_true rfl) (by omega) (f_X7_number (by omega) hx hI (fun v5 l_v5 u_v5 hc6 => ⟨_, rfl, ?_⟩))
            show mm_W d mmX4_readPart 140 [some (.ref 81), some (.ref q1), some (.int (Int32.ofInt v1)), none] [.int (Int32.ofInt v5)] (mz_mk g x) Q
            replace hE := zf_t1 hE hc6
            refine mz_gt (tgt := 147) rfl rfl ?_
            refine mm_g 3 (pc1 := 150) (lo1 := [some (.ref 81), some (.ref q1), some (.int (Int32.ofInt v1)), some (.int (Int32.ofInt v5))]) (st1 := [.int (Int32.ofInt 2), .int (Int32.ofInt v1)]) (H1 := mz_mk g x) rfl ?_
            refine mz_ic_ne (tgt := 170) rfl rfl (mz_rg l_v1 u_v1) ⟨by decide, by decide⟩ (fun c150_6 => ?_) (fun c150_6 => ?_)
            · exfalso; omega
            · skip
              replace hE := zf_ip hE c150_6
              refine mm_g 1 (pc1 := 154) (lo1 := [some (.ref 81), some (.ref q1), some (.int (Int32.ofInt v1)), some (.int (Int32.ofInt v5))]) (st1 := [.ref 81]) (H1 := mz_mk g x) rfl ?_
              refine mz_fgR (v := 82) rfl fd_4_12 (by decide) (sc_81 _) (rf_81_0 _ _ _) ?_
              refine mz_cv rfl mt_4_107 (by decide) (sc_82 _) rfl (Nat.le_of_ble_eq_true rfl) (by omega) (f_X7_tokenSize (by omega) hx hI (fun v7 l_v7 u_v7 hc8 => ⟨_, rfl, ?_⟩))
              show mm_W d mmX4_readPart 160 [some (.ref 81), some (.ref q1), some (.int (Int32.ofInt v1)), some (.int (Int32.ofInt v5))] [.int (Int32.ofInt v7)] (mz_mk g x) Q
              replace hE := zf_t1 hE hc8
              refine mm_g 1 (pc1 := 161) (lo1 := [some (.ref 81), some (.ref q1), some (.int (Int32.ofInt v1)), some (.int (Int32.ofInt v5))]) (st1 := [.int (Int32.ofInt 4), .int (Int32.ofInt v7)]) (H1 := mz_mk g x) rfl ?_
              refine mz_ic_le (tgt := 170) rfl rfl (mz_rg l_v7 u_v7) ⟨by decide, by decide⟩ (fun c161_8 => ?_) (fun c161_8 => ?_)
              · skip
                replace hE := zf_nl hE c161_8
                refine mm_g 2 (pc1 := 172) (lo1 := [some (.ref 81), some (.ref q1), some (.int (Int32.ofInt v1)), some (.int (Int32.ofInt v5))]) (st1 := [.int (Int32.ofInt 1), .int (Int32.ofInt v1)]) (H1 := mz_mk g x) rfl ?_
                refine mz_ic_ne (tgt := 185) rfl rfl (mz_rg l_v1 u_v1) ⟨by decide, by decide⟩ (fun c172_8 => ?_) (fun c172_8 => ?_)
                · skip
                  replace hE := zf_in hE c172_8
                  refine mm_g 2 (pc1 := 187) (lo1 := [some (.ref 81), some (.ref q1), some (.int (Int32.ofInt v1)), some (.int (Int32.ofInt v5))]) (st1 := [.int (Int32.ofInt v5), .ref q1]) (H1 := mz_mk g x) rfl ?_
                  refine mz_cv rfl mt_4_182 (by decide) (kc_rule h_q1 _) rfl (Nat.le_of_ble_eq_true rfl) (by omega) (f_X5_addStep (by omega) hx hI h_q1 l_v5 u_v5 (fun g9 hIg9 hfg9 hc10 => ⟨_, rfl, ?_⟩))
                  show mm_W d mmX4_readPart 190 [some (.ref 81), some (.ref q1), some (.int (Int32.ofInt v1)), some (.int (Int32.ofInt v5))] [] (mz_mk g9 x) Q
                  replace hE := zf_t1 hE hc10
                  refine mm_g 2 (pc1 := 192) (lo1 := [some (.ref 81), some (.ref q1), some (.int (Int32.ofInt v1)), some (.int (Int32.ofInt v5))]) (st1 := [.int (Int32.ofInt 0), .ref 81]) (H1 := mz_mk g9 x) rfl ?_
                  refine mz_pZ rfl fd_4_38 (sc_81 _) (by decide) hIg9 bd_81_7 (by omega) (by omega) (fun g11 hIg11 hug11 => ?_)
                  replace hE := zf_tr hE (zf_lg hug11)
                  refine mm_g 1 (pc1 := 196) (lo1 := [some (.ref 81), some (.ref q1), some (.int (Int32.ofInt v1)), some (.int (Int32.ofInt v5))]) (st1 := [.ref 81]) (H1 := mz_mk g11 x) rfl ?_
                  refine mz_fgR (v := 82) rfl fd_4_12 (by decide) (sc_81 _) (rf_81_0 _ _ _) ?_
                  refine mz_cv rfl mt_4_99 (by decide) (sc_82 _) rfl (Nat.le_of_ble_eq_true rfl) (by omega) (f_X7_step (by omega) hx hIg11 (fun g12 hIg12 hfg12 hc13 => ⟨_, rfl, ?_⟩))
                  show mm_W d mmX4_readPart 202 [some (.ref 81), some (.ref q1), some (.int (Int32.ofInt v1)), some (.int (Int32.ofInt v5))] [] (mz_mk g12 x) Q
                  replace hE := zf_t1 hE hc13
                  refine mm_g 1 (pc1 := 203) (lo1 := [some (.ref 81), some (.ref q1), some (.int (Int32.ofInt v1)), some (.int (Int32.ofInt v5))]) (st1 := [.int (Int32.ofInt 1)]) (H1 := mz_mk g12 x) rfl ?_
                  exact mz_rtZ rfl (by decide) (by omega) (hQ _ _ hIg12 (fun k j hk => ((hfg12 k j (fun h => hk (Or.elim h (fun h => (Or.inr (Or.inr (Or.inr (Or.inl h))))) (fun h => (Or.elim h (fun h => (Or.inr (Or.inr (Or.inr (Or.inr (Or.inl h)))))) (fun h => (Or.elim h (fun h => (Or.inr (Or.inr (Or.inr (Or.inr (Or.inr (Or.inl h))))))) (fun h => (Or.inr (Or.inr (Or.inr (Or.inr (Or.inr (Or.inr (Or.inl h))))))))))))))).trans ((hug11.2 k j (fun h => hk (Or.inr (Or.inr (Or.inl h))))).trans (hfg9 k j (fun h => hk (Or.elim h (fun h => (Or.inl h)) (fun h => (Or.inr (Or.inl h))))))))) (by decide) (by decide) hE)
                · exfalso; omega
              · skip
                replace hE := zf_ip hE c161_8
                refine mm_g 2 (pc1 := 166) (lo1 := [some (.ref 81), some (.ref q1), some (.int (Int32.ofInt v1)), some (.int (Int32.ofInt v5))]) (st1 := [.int (Int32.ofInt 2), .ref 81]) (H1 := mz_mk g x) rfl ?_
                refine mz_cv rfl mt_4_95 (by decide) (sc_81 _) rfl (Nat.le_of_ble_eq_true rfl) (by omega) (f_X4_blame (by omega) hx hI (by decide) (by decide) (fun v14 g15 hIg15 hfg15 l_v14 u_v14 hc16 => ⟨_, rfl, ?_⟩))
                show mm_W d mmX4_readPart 169 [some (.ref 81), some (.ref q1), some (.int (Int32.ofInt v1)), some (.int (Int32.ofInt v5))] [.int (Int32.ofInt v14)] (mz_mk g15 x) Q
                replace hE := zf_t2 hE hc16
                exact mz_rtZ rfl (by decide) (by omega) (hQ _ _ hIg15 (fun k j hk => (hfg15 k j (fun h => hk (Or.elim h (fun h => (Or.inr (Or.inr (Or.inr (Or.inr (Or.inr (Or.inr (Or.inr (Or.inl h))))))))) (fun h => (Or.inr (Or.inr (Or.inr (Or.inr (Or.inr (Or.inr (Or.inr (Or.inr (Or.inl h)))))))))))))) (by omega) (by omega) hE)
        · skip
          replace hE := zf_in hE c79_4
          refine mm_g 1 (pc1 := 83) (lo1 := [some (.ref 81), some (.ref q1), some (.int (Int32.ofInt v1)), none]) (st1 := [.ref 81]) (H1 := mz_mk g x) rfl ?_
          refine mz_fgR (v := 82) rfl fd_4_12 (by decide) (sc_81 _) (rf_81_0 _ _ _) ?_
          refine mz_ldcS (j := 5) rfl rfl rfl ?_
          refine mz_cv rfl mt_4_57 (by decide) (sc_82 _) rfl (Nat.le_of_ble_eq_true rfl) (by omega) (f_X7_spells (by omega) hx hI (by decide) (fun v17 l_v17 u_v17 hc18 => ⟨_, rfl, ?_⟩))
          show mm_W d mmX4_readPart 91 [some (.ref 81), some (.ref q1), some (.int (Int32.ofInt v1)), none] [.int (Int32.ofInt v17)] (mz_mk g x) Q
          replace hE := zf_t1 hE hc18
          refine mz_if_eq (tgt := 128) rfl rfl (mz_rg l_v17 u_v17) (fun c91_18 => ?_) (fun c91_18 => ?_)
          · skip
            replace hE := zf_ip hE c91_18
            refine mm_g 2 (pc1 := 130) (lo1 := [some (.ref 81), some (.ref q1), some (.int (Int32.ofInt v1)), none]) (st1 := [.int (Int32.ofInt 2), .int (Int32.ofInt v1)]) (H1 := mz_mk g x) rfl ?_
            refine mz_ic_ne (tgt := 143) rfl rfl (mz_rg l_v1 u_v1) ⟨by decide, by decide⟩ (fun c130_18 => ?_) (fun c130_18 => ?_)
            · exfalso; omega
            · skip
              replace hE := zf_ip hE c130_18
              refine mm_g 1 (pc1 := 134) (lo1 := [some (.ref 81), some (.ref q1), some (.int (Int32.ofInt v1)), none]) (st1 := [.ref 81]) (H1 := mz_mk g x) rfl ?_
              refine mz_fgR (v := 82) rfl fd_4_12 (by decide) (sc_81 _) (rf_81_0 _ _ _) ?_
              refine mz_cv rfl mt_4_129 (by decide) (sc_82 _) rfl (Nat.le_of_ble_eq_true rfl) (by omega) (f_X7_number (by omega) hx hI (fun v19 l_v19 u_v19 hc20 => ⟨_, rfl, ?_⟩))
              show mm_W d mmX4_readPart 140 [some (.ref 81), some (.ref q1), some (.int (Int32.ofInt v1)), none] [.int (Int32.ofInt v19)] (mz_mk g x) Q
              replace hE := zf_t1 hE hc20
              refine mz_gt (tgt := 147) rfl rfl ?_
              refine mm_g 3 (pc1 := 150) (lo1 := [some (.ref 81), some (.ref q1), some (.int (Int32.ofInt v1)), some (.int (Int32.ofInt v19))]) (st1 := [.int (Int32.ofInt 2), .int (Int32.ofInt v1)]) (H1 := mz_mk g x) rfl ?_
              refine mz_ic_ne (tgt := 170) rfl rfl (mz_rg l_v1 u_v1) ⟨by decide, by decide⟩ (fun c150_20 => ?_) (fun c150_20 => ?_)
              · exfalso; omega
              · skip
                replace hE := zf_ip hE c150_20
                refine mm_g 1 (pc1 := 154) (lo1 := [some (.ref 81), some (.ref q1), some (.int (Int32.ofInt v1)), some (.int (Int32.ofInt v19))]) (st1 := [.ref 81]) (H1 := mz_mk g x) rfl ?_
                refine mz_fgR (v := 82) rfl fd_4_12 (by decide) (sc_81 _) (rf_81_0 _ _ _) ?_
                refine mz_cv rfl mt_4_107 (by decide) (sc_82 _) rfl (Nat.le_of_ble_eq_true rfl) (by omega) (f_X7_tokenSize (by omega) hx hI (fun v21 l_v21 u_v21 hc22 => ⟨_, rfl, ?_⟩))
                show mm_W d mmX4_readPart 160 [some (.ref 81), some (.ref q1), some (.int (Int32.ofInt v1)), some (.int (Int32.ofInt v19))] [.int (Int32.ofInt v21)] (mz_mk g x) Q
                replace hE := zf_t1 hE hc22
                refine mm_g 1 (pc1 := 161) (lo1 := [some (.ref 81), some (.ref q1), some (.int (Int32.ofInt v1)), some (.int (Int32.ofInt v19))]) (st1 := [.int (Int32.ofInt 4), .int (Int32.ofInt v21)]) (H1 := mz_mk g x) rfl ?_
                refine mz_ic_le (tgt := 170) rfl rfl (mz_rg l_v21 u_v21) ⟨by decide, by decide⟩ (fun c161_22 => ?_) (fun c161_22 => ?_)
                · skip
                  replace hE := zf_nl hE c161_22
                  refine mm_g 2 (pc1 := 172) (lo1 := [some (.ref 81), some (.ref q1), some (.int (Int32.ofInt v1)), some (.int (Int32.ofInt v19))]) (st1 := [.int (Int32.ofInt 1), .int (Int32.ofInt v1)]) (H1 := mz_mk g x) rfl ?_
                  refine mz_ic_ne (tgt := 185) rfl rfl (mz_rg l_v1 u_v1) ⟨by decide, by decide⟩ (fun c172_22 => ?_) (fun c172_22 => ?_)
                  · skip
                    replace hE := zf_in hE c172_22
                    refine mm_g 2 (pc1 := 187) (lo1 := [some (.ref 81), some (.ref q1), some (.int (Int32.ofInt v1)), some (.int (Int32.ofInt v19))]) (st1 := [.int (Int32.ofInt v19), .ref q1]) (H1 := mz_mk g x) rfl ?_
                    refine mz_cv rfl mt_4_182 (by decide) (kc_rule h_q1 _) rfl (Nat.le_of_ble_eq_true rfl) (by omega) (f_X5_addStep (by omega) hx hI h_q1 l_v19 u_v19 (fun g23 hIg23 hfg23 hc24 => ⟨_, rfl, ?_⟩))
                    show mm_W d mmX4_readPart 190 [some (.ref 81), some (.ref q1), some (.int (Int32.ofInt v1)), some (.int (Int32.ofInt v19))] [] (mz_mk g23 x) Q
                    replace hE := zf_t1 hE hc24
                    refine mm_g 2 (pc1 := 192) (lo1 := [some (.ref 81), some (.ref q1), some (.int (Int32.ofInt v1)), some (.int (Int32.ofInt v19))]) (st1 := [.int (Int32.ofInt 0), .ref 81]) (H1 := mz_mk g23 x) rfl ?_
                    refine mz_pZ rfl fd_4_38 (sc_81 _) (by decide) hIg23 bd_81_7 (by omega) (by omega) (fun g25 hIg25 hug25 => ?_)
                    replace hE := zf_tr hE (zf_lg hug25)
                    refine mm_g 1 (pc1 := 196) (lo1 := [some (.ref 81), some (.ref q1), some (.int (Int32.ofInt v1)), some (.int (Int32.ofInt v19))]) (st1 := [.ref 81]) (H1 := mz_mk g25 x) rfl ?_
                    refine mz_fgR (v := 82) rfl fd_4_12 (by decide) (sc_81 _) (rf_81_0 _ _ _) ?_
                    refine mz_cv rfl mt_4_99 (by decide) (sc_82 _) rfl (Nat.le_of_ble_eq_true rfl) (by omega) (f_X7_step (by omega) hx hIg25 (fun g26 hIg26 hfg26 hc27 => ⟨_, rfl, ?_⟩))
                    show mm_W d mmX4_readPart 202 [some (.ref 81), some (.ref q1), some (.int (Int32.ofInt v1)), some (.int (Int32.ofInt v19))] [] (mz_mk g26 x) Q
                    replace hE := zf_t1 hE hc27
                    refine mm_g 1 (pc1 := 203) (lo1 := [some (.ref 81), some (.ref q1), some (.int (Int32.ofInt v1)), some (.int (Int32.ofInt v19))]) (st1 := [.int (Int32.ofInt 1)]) (H1 := mz_mk g26 x) rfl ?_
                    exact mz_rtZ rfl (by decide) (by omega) (hQ _ _ hIg26 (fun k j hk => ((hfg26 k j (fun h => hk (Or.elim h (fun h => (Or.inr (Or.inr (Or.inr (Or.inl h))))) (fun h => (Or.elim h (fun h => (Or.inr (Or.inr (Or.inr (Or.inr (Or.inl h)))))) (fun h => (Or.elim h (fun h => (Or.inr (Or.inr (Or.inr (Or.inr (Or.inr (Or.inl h))))))) (fun h => (Or.inr (Or.inr (Or.inr (Or.inr (Or.inr (Or.inr (Or.inl h))))))))))))))).trans ((hug25.2 k j (fun h => hk (Or.inr (Or.inr (Or.inl h))))).trans (hfg23 k j (fun h => hk (Or.elim h (fun h => (Or.inl h)) (fun h => (Or.inr (Or.inl h))))))))) (by decide) (by decide) hE)
                  · exfalso; omega
                · skip
                  replace hE := zf_ip hE c161_22
                  refine mm_g 2 (pc1 := 166) (lo1 := [some (.ref 81), some (.ref q1), some (.int (Int32.ofInt v1)), some (.int (Int32.ofInt v19))]) (st1 := [.int (Int32.ofInt 2), .ref 81]) (H1 := mz_mk g x) rfl ?_
                  refine mz_cv rfl mt_4_95 (by decide) (sc_81 _) rfl (Nat.le_of_ble_eq_true rfl) (by omega) (f_X4_blame (by omega) hx hI (by decide) (by decide) (fun v28 g29 hIg29 hfg29 l_v28 u_v28 hc30 => ⟨_, rfl, ?_⟩))
                  show mm_W d mmX4_readPart 169 [some (.ref 81), some (.ref q1), some (.int (Int32.ofInt v1)), some (.int (Int32.ofInt v19))] [.int (Int32.ofInt v28)] (mz_mk g29 x) Q
                  replace hE := zf_t2 hE hc30
                  exact mz_rtZ rfl (by decide) (by omega) (hQ _ _ hIg29 (fun k j hk => (hfg29 k j (fun h => hk (Or.elim h (fun h => (Or.inr (Or.inr (Or.inr (Or.inr (Or.inr (Or.inr (Or.inr (Or.inl h))))))))) (fun h => (Or.inr (Or.inr (Or.inr (Or.inr (Or.inr (Or.inr (Or.inr (Or.inr (Or.inl h)))))))))))))) (by omega) (by omega) hE)
          · skip
            replace hE := zf_in hE c91_18
            refine mm_g 1 (pc1 := 95) (lo1 := [some (.ref 81), some (.ref q1), some (.int (Int32.ofInt v1)), none]) (st1 := [.ref 81]) (H1 := mz_mk g x) rfl ?_
            refine mz_gI rfl fd_4_35 (by decide) (sc_81 _) hI bd_81_6 (fun v31 e_v31 l_v31 u_v31 => ?_)
            replace hE := zf_tr hE (zf_le e_v31)
            refine mz_bip rfl bip_6 ?_
            refine mz_ic_lt (tgt := 109) rfl rfl (mz_rg l_v31 u_v31) ⟨by decide, by decide⟩ (fun c100_31 => ?_) (fun c100_31 => ?_)
            · skip
              replace hE := zf_ip hE c100_31
              refine mm_g 2 (pc1 := 111) (lo1 := [some (.ref 81), some (.ref q1), some (.int (Int32.ofInt v1)), none]) (st1 := [.ref 81, .ref 81]) (H1 := mz_mk g x) rfl ?_
              refine mz_fgI (v := v31) rfl fd_4_35 (by decide) (sc_81 _) e_v31 ?_
              replace hE := zf_tr hE (zf_le e_v31)
              refine mm_g 1 (pc1 := 115) (lo1 := [some (.ref 81), some (.ref q1), some (.int (Int32.ofInt v1)), none]) (st1 := [.int (Int32.ofInt 1), .int (Int32.ofInt v31), .ref 81]) (H1 := mz_mk g x) rfl ?_
              refine mz_iadd rfl ?_
              refine mz_pI rfl fd_4_35 (sc_81 _) hI bd_81_6 (by omega) (by omega) (fun g32 hIg32 hug32 => ?_)
              replace hE := zf_tr hE (zf_lg hug32)
              refine mm_g 1 (pc1 := 120) (lo1 := [some (.ref 81), some (.ref q1), some (.int (Int32.ofInt v1)), none]) (st1 := [.ref 81]) (H1 := mz_mk g32 x) rfl ?_
              refine mz_bip rfl bip_m13 ?_
              refine mz_cv rfl mt_4_174 (by decide) (sc_81 _) rfl (Nat.le_of_ble_eq_true rfl) (by omega) (f_X4_openSign (by omega) hx hIg32 (by decide) (by decide) (fun g33 hIg33 hfg33 hc34 => ⟨_, rfl, ?_⟩))
              show mm_W d mmX4_readPart 125 [some (.ref 81), some (.ref q1), some (.int (Int32.ofInt v1)), none] [] (mz_mk g33 x) Q
              replace hE := zf_t1 hE hc34
              refine mz_gt (tgt := 195) rfl rfl ?_
              refine mm_g 1 (pc1 := 196) (lo1 := [some (.ref 81), some (.ref q1), some (.int (Int32.ofInt v1)), none]) (st1 := [.ref 81]) (H1 := mz_mk g33 x) rfl ?_
              refine mz_fgR (v := 82) rfl fd_4_12 (by decide) (sc_81 _) (rf_81_0 _ _ _) ?_
              refine mz_cv rfl mt_4_99 (by decide) (sc_82 _) rfl (Nat.le_of_ble_eq_true rfl) (by omega) (f_X7_step (by omega) hx hIg33 (fun g35 hIg35 hfg35 hc36 => ⟨_, rfl, ?_⟩))
              show mm_W d mmX4_readPart 202 [some (.ref 81), some (.ref q1), some (.int (Int32.ofInt v1)), none] [] (mz_mk g35 x) Q
              replace hE := zf_t1 hE hc36
              refine mm_g 1 (pc1 := 203) (lo1 := [some (.ref 81), some (.ref q1), some (.int (Int32.ofInt v1)), none]) (st1 := [.int (Int32.ofInt 1)]) (H1 := mz_mk g35 x) rfl ?_
              exact mz_rtZ rfl (by decide) (by omega) (hQ _ _ hIg35 (fun k j hk => ((hfg35 k j (fun h => hk (Or.elim h (fun h => (Or.inr (Or.inr (Or.inr (Or.inl h))))) (fun h => (Or.elim h (fun h => (Or.inr (Or.inr (Or.inr (Or.inr (Or.inl h)))))) (fun h => (Or.elim h (fun h => (Or.inr (Or.inr (Or.inr (Or.inr (Or.inr (Or.inl h))))))) (fun h => (Or.inr (Or.inr (Or.inr (Or.inr (Or.inr (Or.inr (Or.inl h))))))))))))))).trans ((hfg33 k j (fun h => hk (Or.elim h (fun h => (Or.inr (Or.inr (Or.inr (Or.inr (Or.inr (Or.inr (Or.inr (Or.inr (Or.inr (Or.inr (Or.inl h)))))))))))) (fun h => (Or.inr (Or.inr (Or.inr (Or.inr (Or.inr (Or.inr (Or.inr (Or.inr (Or.inr (Or.inr (Or.inr (Or.inl h)))))))))))))))).trans (hug32.2 k j (fun h => hk (Or.inr (Or.inr (Or.inr (Or.inr (Or.inr (Or.inr (Or.inr (Or.inr (Or.inr (Or.inl h))))))))))))))) (by decide) (by decide) hE)
            · skip
              replace hE := zf_nl hE c100_31
              refine mm_g 2 (pc1 := 105) (lo1 := [some (.ref 81), some (.ref q1), some (.int (Int32.ofInt v1)), none]) (st1 := [.int (Int32.ofInt 2), .ref 81]) (H1 := mz_mk g x) rfl ?_
              refine mz_cv rfl mt_4_95 (by decide) (sc_81 _) rfl (Nat.le_of_ble_eq_true rfl) (by omega) (f_X4_blame (by omega) hx hI (by decide) (by decide) (fun v37 g38 hIg38 hfg38 l_v37 u_v37 hc39 => ⟨_, rfl, ?_⟩))
              show mm_W d mmX4_readPart 108 [some (.ref 81), some (.ref q1), some (.int (Int32.ofInt v1)), none] [.int (Int32.ofInt v37)] (mz_mk g38 x) Q
              replace hE := zf_t2 hE hc39
              exact mz_rtZ rfl (by decide) (by omega) (hQ _ _ hIg38 (fun k j hk => (hfg38 k j (fun h => hk (Or.elim h (fun h => (Or.inr (Or.inr (Or.inr (Or.inr (Or.inr (Or.inr (Or.inr (Or.inl h))))))))) (fun h => (Or.inr (Or.inr (Or.inr (Or.inr (Or.inr (Or.inr (Or.inr (Or.inr (Or.inl h)))))))))))))) (by omega) (by omega) hE)
      · exfalso; omega
    · skip
      replace hE := zf_nl hE c36_3
      refine mm_g 2 (pc1 := 41) (lo1 := [some (.ref 81), some (.ref q1), some (.int (Int32.ofInt v1)), none]) (st1 := [.int (Int32.ofInt 2), .ref 81]) (H1 := mz_mk g x) rfl ?_
      refine mz_cv rfl mt_4_95 (by decide) (sc_81 _) rfl (Nat.le_of_ble_eq_true rfl) (by omega) (f_X4_blame (by omega) hx hI (by decide) (by decide) (fun v40 g41 hIg41 hfg41 l_v40 u_v40 hc42 => ⟨_, rfl, ?_⟩))
      show mm_W d mmX4_readPart 44 [some (.ref 81), some (.ref q1), some (.int (Int32.ofInt v1)), none] [.int (Int32.ofInt v40)] (mz_mk g41 x) Q
      replace hE := zf_t2 hE hc42
      exact mz_rtZ rfl (by decide) (by omega) (hQ _ _ hIg41 (fun k j hk => (hfg41 k j (fun h => hk (Or.elim h (fun h => (Or.inr (Or.inr (Or.inr (Or.inr (Or.inr (Or.inr (Or.inr (Or.inl h))))))))) (fun h => (Or.inr (Or.inr (Or.inr (Or.inr (Or.inr (Or.inr (Or.inr (Or.inr (Or.inl h)))))))))))))) (by omega) (by omega) hE)
  · skip
    replace hE := zf_in hE c10_2
    refine mm_g 2 (pc1 := 15) (lo1 := [some (.ref 81), some (.ref q1), some (.int (Int32.ofInt v1)), none]) (st1 := [.int (Int32.ofInt 1), .int (Int32.ofInt v1)]) (H1 := mz_mk g x) rfl ?_
    refine mz_ic_eq (tgt := 30) rfl rfl (mz_rg l_v1 u_v1) ⟨by decide, by decide⟩ (fun c15_42 => ?_) (fun c15_42 => ?_)
    · skip
      replace hE := zf_ip hE c15_42
      refine mm_g 1 (pc1 := 31) (lo1 := [some (.ref 81), some (.ref q1), some (.int (Int32.ofInt v1)), none]) (st1 := [.ref 81]) (H1 := mz_mk g x) rfl ?_
      refine mz_gI rfl fd_4_32 (by decide) (sc_81 _) hI bd_81_5 (fun v43 e_v43 l_v43 u_v43 => ?_)
      replace hE := zf_tr hE (zf_le e_v43)
      refine mz_bip rfl bip_6 ?_
      refine mz_ic_lt (tgt := 45) rfl rfl (mz_rg l_v43 u_v43) ⟨by decide, by decide⟩ (fun c36_43 => ?_) (fun c36_43 => ?_)
      · skip
        replace hE := zf_ip hE c36_43
        refine mm_g 1 (pc1 := 46) (lo1 := [some (.ref 81), some (.ref q1), some (.int (Int32.ofInt v1)), none]) (st1 := [.int (Int32.ofInt v1)]) (H1 := mz_mk g x) rfl ?_
        refine mz_bip rfl bip_40 ?_
        refine mz_ic_ne (tgt := 75) rfl rfl (mz_rg l_v1 u_v1) ⟨by decide, by decide⟩ (fun c48_43 => ?_) (fun c48_43 => ?_)
        · skip
          replace hE := zf_in hE c48_43
          refine mm_g 1 (pc1 := 76) (lo1 := [some (.ref 81), some (.ref q1), some (.int (Int32.ofInt v1)), none]) (st1 := [.ref 81]) (H1 := mz_mk g x) rfl ?_
          refine mz_gI rfl fd_4_42 (by decide) (sc_81 _) hI bd_81_8 (fun v44 e_v44 l_v44 u_v44 => ?_)
          replace hE := zf_tr hE (zf_le e_v44)
          refine mz_if_eq (tgt := 128) rfl rfl (mz_rg l_v44 u_v44) (fun c79_44 => ?_) (fun c79_44 => ?_)
          · skip
            replace hE := zf_ip hE c79_44
            refine mm_g 2 (pc1 := 130) (lo1 := [some (.ref 81), some (.ref q1), some (.int (Int32.ofInt v1)), none]) (st1 := [.int (Int32.ofInt 2), .int (Int32.ofInt v1)]) (H1 := mz_mk g x) rfl ?_
            refine mz_ic_ne (tgt := 143) rfl rfl (mz_rg l_v1 u_v1) ⟨by decide, by decide⟩ (fun c130_44 => ?_) (fun c130_44 => ?_)
            · skip
              replace hE := zf_in hE c130_44
              refine mm_g 1 (pc1 := 144) (lo1 := [some (.ref 81), some (.ref q1), some (.int (Int32.ofInt v1)), none]) (st1 := [.ref 81]) (H1 := mz_mk g x) rfl ?_
              refine mz_cv rfl mt_4_179 (by decide) (sc_81 _) rfl (Nat.le_of_ble_eq_true rfl) (by omega) (f_X4_valueOfWord (by omega) hx hI (fun v45 l_v45 u_v45 hc46 => ⟨_, rfl, ?_⟩))
              show mm_W d mmX4_readPart 147 [some (.ref 81), some (.ref q1), some (.int (Int32.ofInt v1)), none] [.int (Int32.ofInt v45)] (mz_mk g x) Q
              replace hE := zf_t1 hE hc46
              refine mm_g 3 (pc1 := 150) (lo1 := [some (.ref 81), some (.ref q1), some (.int (Int32.ofInt v1)), some (.int (Int32.ofInt v45))]) (st1 := [.int (Int32.ofInt 2), .int (Int32.ofInt v1)]) (H1 := mz_mk g x) rfl ?_
              refine mz_ic_ne (tgt := 170) rfl rfl (mz_rg l_v1 u_v1) ⟨by decide, by decide⟩ (fun c150_46 => ?_) (fun c150_46 => ?_)
              · skip
                replace hE := zf_in hE c150_46
                refine mm_g 2 (pc1 := 172) (lo1 := [some (.ref 81), some (.ref q1), some (.int (Int32.ofInt v1)), some (.int (Int32.ofInt v45))]) (st1 := [.int (Int32.ofInt 1), .int (Int32.ofInt v1)]) (H1 := mz_mk g x) rfl ?_
                refine mz_ic_ne (tgt := 185) rfl rfl (mz_rg l_v1 u_v1) ⟨by decide, by decide⟩ (fun c172_46 => ?_) (fun c172_46 => ?_)
                · exfalso; omega
                · skip
                  replace hE := zf_ip hE c172_46
                  refine mm_g 1 (pc1 := 176) (lo1 := [some (.ref 81), some (.ref q1), some (.int (Int32.ofInt v1)), some (.int (Int32.ofInt v45))]) (st1 := [.int (Int32.ofInt v45)]) (H1 := mz_mk g x) rfl ?_
                  refine mz_if_ne (tgt := 185) rfl rfl (mz_rg l_v45 u_v45) (fun c176_46 => ?_) (fun c176_46 => ?_)
                  · skip
                    replace hE := zf_in hE c176_46
                    refine mm_g 2 (pc1 := 187) (lo1 := [some (.ref 81), some (.ref q1), some (.int (Int32.ofInt v1)), some (.int (Int32.ofInt v45))]) (st1 := [.int (Int32.ofInt v45), .ref q1]) (H1 := mz_mk g x) rfl ?_
                    refine mz_cv rfl mt_4_182 (by decide) (kc_rule h_q1 _) rfl (Nat.le_of_ble_eq_true rfl) (by omega) (f_X5_addStep (by omega) hx hI h_q1 (by omega) (by omega) (fun g47 hIg47 hfg47 hc48 => ⟨_, rfl, ?_⟩))
                    show mm_W d mmX4_readPart 190 [some (.ref 81), some (.ref q1), some (.int (Int32.ofInt v1)), some (.int (Int32.ofInt v45))] [] (mz_mk g47 x) Q
                    replace hE := zf_t1 hE hc48
                    refine mm_g 2 (pc1 := 192) (lo1 := [some (.ref 81), some (.ref q1), some (.int (Int32.ofInt v1)), some (.int (Int32.ofInt v45))]) (st1 := [.int (Int32.ofInt 0), .ref 81]) (H1 := mz_mk g47 x) rfl ?_
                    refine mz_pZ rfl fd_4_38 (sc_81 _) (by decide) hIg47 bd_81_7 (by omega) (by omega) (fun g49 hIg49 hug49 => ?_)
                    replace hE := zf_tr hE (zf_lg hug49)
                    refine mm_g 1 (pc1 := 196) (lo1 := [some (.ref 81), some (.ref q1), some (.int (Int32.ofInt v1)), some (.int (Int32.ofInt v45))]) (st1 := [.ref 81]) (H1 := mz_mk g49 x) rfl ?_
                    refine mz_fgR (v := 82) rfl fd_4_12 (by decide) (sc_81 _) (rf_81_0 _ _ _) ?_
                    refine mz_cv rfl mt_4_99 (by decide) (sc_82 _) rfl (Nat.le_of_ble_eq_true rfl) (by omega) (f_X7_step (by omega) hx hIg49 (fun g50 hIg50 hfg50 hc51 => ⟨_, rfl, ?_⟩))
                    show mm_W d mmX4_readPart 202 [some (.ref 81), some (.ref q1), some (.int (Int32.ofInt v1)), some (.int (Int32.ofInt v45))] [] (mz_mk g50 x) Q
                    replace hE := zf_t1 hE hc51
                    refine mm_g 1 (pc1 := 203) (lo1 := [some (.ref 81), some (.ref q1), some (.int (Int32.ofInt v1)), some (.int (Int32.ofInt v45))]) (st1 := [.int (Int32.ofInt 1)]) (H1 := mz_mk g50 x) rfl ?_
                    exact mz_rtZ rfl (by decide) (by omega) (hQ _ _ hIg50 (fun k j hk => ((hfg50 k j (fun h => hk (Or.elim h (fun h => (Or.inr (Or.inr (Or.inr (Or.inl h))))) (fun h => (Or.elim h (fun h => (Or.inr (Or.inr (Or.inr (Or.inr (Or.inl h)))))) (fun h => (Or.elim h (fun h => (Or.inr (Or.inr (Or.inr (Or.inr (Or.inr (Or.inl h))))))) (fun h => (Or.inr (Or.inr (Or.inr (Or.inr (Or.inr (Or.inr (Or.inl h))))))))))))))).trans ((hug49.2 k j (fun h => hk (Or.inr (Or.inr (Or.inl h))))).trans (hfg47 k j (fun h => hk (Or.elim h (fun h => (Or.inl h)) (fun h => (Or.inr (Or.inl h))))))))) (by decide) (by decide) hE)
                  · skip
                    replace hE := zf_ip hE c176_46
                    refine mm_g 2 (pc1 := 181) (lo1 := [some (.ref 81), some (.ref q1), some (.int (Int32.ofInt v1)), some (.int (Int32.ofInt v45))]) (st1 := [.int (Int32.ofInt 3), .ref 81]) (H1 := mz_mk g x) rfl ?_
                    refine mz_cv rfl mt_4_95 (by decide) (sc_81 _) rfl (Nat.le_of_ble_eq_true rfl) (by omega) (f_X4_blame (by omega) hx hI (by decide) (by decide) (fun v52 g53 hIg53 hfg53 l_v52 u_v52 hc54 => ⟨_, rfl, ?_⟩))
                    show mm_W d mmX4_readPart 184 [some (.ref 81), some (.ref q1), some (.int (Int32.ofInt v1)), some (.int (Int32.ofInt v45))] [.int (Int32.ofInt v52)] (mz_mk g53 x) Q
                    replace hE := zf_t2 hE hc54
                    exact mz_rtZ rfl (by decide) (by omega) (hQ _ _ hIg53 (fun k j hk => (hfg53 k j (fun h => hk (Or.elim h (fun h => (Or.inr (Or.inr (Or.inr (Or.inr (Or.inr (Or.inr (Or.inr (Or.inl h))))))))) (fun h => (Or.inr (Or.inr (Or.inr (Or.inr (Or.inr (Or.inr (Or.inr (Or.inr (Or.inl h)))))))))))))) (by omega) (by omega) hE)
              · exfalso; omega
            · exfalso; omega
          · skip
            replace hE := zf_in hE c79_44
            refine mm_g 1 (pc1 := 83) (lo1 := [some (.ref 81), some (.ref q1), some (.int (Int32.ofInt v1)), none]) (st1 := [.ref 81]) (H1 := mz_mk g x) rfl ?_
            refine mz_fgR (v := 82) rfl fd_4_12 (by decide) (sc_81 _) (rf_81_0 _ _ _) ?_
            refine mz_ldcS (j := 5) rfl rfl rfl ?_
            refine mz_cv rfl mt_4_57 (by decide) (sc_82 _) rfl (Nat.le_of_ble_eq_true rfl) (by omega) (f_X7_spells (by omega) hx hI (by decide) (fun v55 l_v55 u_v55 hc56 => ⟨_, rfl, ?_⟩))
            show mm_W d mmX4_readPart 91 [some (.ref 81), some (.ref q1), some (.int (Int32.ofInt v1)), none] [.int (Int32.ofInt v55)] (mz_mk g x) Q
            replace hE := zf_t1 hE hc56
            refine mz_if_eq (tgt := 128) rfl rfl (mz_rg l_v55 u_v55) (fun c91_56 => ?_) (fun c91_56 => ?_)
            · skip
              replace hE := zf_ip hE c91_56
              refine mm_g 2 (pc1 := 130) (lo1 := [some (.ref 81), some (.ref q1), some (.int (Int32.ofInt v1)), none]) (st1 := [.int (Int32.ofInt 2), .int (Int32.ofInt v1)]) (H1 := mz_mk g x) rfl ?_
              refine mz_ic_ne (tgt := 143) rfl rfl (mz_rg l_v1 u_v1) ⟨by decide, by decide⟩ (fun c130_56 => ?_) (fun c130_56 => ?_)
              · skip
                replace hE := zf_in hE c130_56
                refine mm_g 1 (pc1 := 144) (lo1 := [some (.ref 81), some (.ref q1), some (.int (Int32.ofInt v1)), none]) (st1 := [.ref 81]) (H1 := mz_mk g x) rfl ?_
                refine mz_cv rfl mt_4_179 (by decide) (sc_81 _) rfl (Nat.le_of_ble_eq_true rfl) (by omega) (f_X4_valueOfWord (by omega) hx hI (fun v57 l_v57 u_v57 hc58 => ⟨_, rfl, ?_⟩))
                show mm_W d mmX4_readPart 147 [some (.ref 81), some (.ref q1), some (.int (Int32.ofInt v1)), none] [.int (Int32.ofInt v57)] (mz_mk g x) Q
                replace hE := zf_t1 hE hc58
                refine mm_g 3 (pc1 := 150) (lo1 := [some (.ref 81), some (.ref q1), some (.int (Int32.ofInt v1)), some (.int (Int32.ofInt v57))]) (st1 := [.int (Int32.ofInt 2), .int (Int32.ofInt v1)]) (H1 := mz_mk g x) rfl ?_
                refine mz_ic_ne (tgt := 170) rfl rfl (mz_rg l_v1 u_v1) ⟨by decide, by decide⟩ (fun c150_58 => ?_) (fun c150_58 => ?_)
                · skip
                  replace hE := zf_in hE c150_58
                  refine mm_g 2 (pc1 := 172) (lo1 := [some (.ref 81), some (.ref q1), some (.int (Int32.ofInt v1)), some (.int (Int32.ofInt v57))]) (st1 := [.int (Int32.ofInt 1), .int (Int32.ofInt v1)]) (H1 := mz_mk g x) rfl ?_
                  refine mz_ic_ne (tgt := 185) rfl rfl (mz_rg l_v1 u_v1) ⟨by decide, by decide⟩ (fun c172_58 => ?_) (fun c172_58 => ?_)
                  · exfalso; omega
                  · skip
                    replace hE := zf_ip hE c172_58
                    refine mm_g 1 (pc1 := 176) (lo1 := [some (.ref 81), some (.ref q1), some (.int (Int32.ofInt v1)), some (.int (Int32.ofInt v57))]) (st1 := [.int (Int32.ofInt v57)]) (H1 := mz_mk g x) rfl ?_
                    refine mz_if_ne (tgt := 185) rfl rfl (mz_rg l_v57 u_v57) (fun c176_58 => ?_) (fun c176_58 => ?_)
                    · skip
                      replace hE := zf_in hE c176_58
                      refine mm_g 2 (pc1 := 187) (lo1 := [some (.ref 81), some (.ref q1), some (.int (Int32.ofInt v1)), some (.int (Int32.ofInt v57))]) (st1 := [.int (Int32.ofInt v57), .ref q1]) (H1 := mz_mk g x) rfl ?_
                      refine mz_cv rfl mt_4_182 (by decide) (kc_rule h_q1 _) rfl (Nat.le_of_ble_eq_true rfl) (by omega) (f_X5_addStep (by omega) hx hI h_q1 (by omega) (by omega) (fun g59 hIg59 hfg59 hc60 => ⟨_, rfl, ?_⟩))
                      show mm_W d mmX4_readPart 190 [some (.ref 81), some (.ref q1), some (.int (Int32.ofInt v1)), some (.int (Int32.ofInt v57))] [] (mz_mk g59 x) Q
                      replace hE := zf_t1 hE hc60
                      refine mm_g 2 (pc1 := 192) (lo1 := [some (.ref 81), some (.ref q1), some (.int (Int32.ofInt v1)), some (.int (Int32.ofInt v57))]) (st1 := [.int (Int32.ofInt 0), .ref 81]) (H1 := mz_mk g59 x) rfl ?_
                      refine mz_pZ rfl fd_4_38 (sc_81 _) (by decide) hIg59 bd_81_7 (by omega) (by omega) (fun g61 hIg61 hug61 => ?_)
                      replace hE := zf_tr hE (zf_lg hug61)
                      refine mm_g 1 (pc1 := 196) (lo1 := [some (.ref 81), some (.ref q1), some (.int (Int32.ofInt v1)), some (.int (Int32.ofInt v57))]) (st1 := [.ref 81]) (H1 := mz_mk g61 x) rfl ?_
                      refine mz_fgR (v := 82) rfl fd_4_12 (by decide) (sc_81 _) (rf_81_0 _ _ _) ?_
                      refine mz_cv rfl mt_4_99 (by decide) (sc_82 _) rfl (Nat.le_of_ble_eq_true rfl) (by omega) (f_X7_step (by omega) hx hIg61 (fun g62 hIg62 hfg62 hc63 => ⟨_, rfl, ?_⟩))
                      show mm_W d mmX4_readPart 202 [some (.ref 81), some (.ref q1), some (.int (Int32.ofInt v1)), some (.int (Int32.ofInt v57))] [] (mz_mk g62 x) Q
                      replace hE := zf_t1 hE hc63
                      refine mm_g 1 (pc1 := 203) (lo1 := [some (.ref 81), some (.ref q1), some (.int (Int32.ofInt v1)), some (.int (Int32.ofInt v57))]) (st1 := [.int (Int32.ofInt 1)]) (H1 := mz_mk g62 x) rfl ?_
                      exact mz_rtZ rfl (by decide) (by omega) (hQ _ _ hIg62 (fun k j hk => ((hfg62 k j (fun h => hk (Or.elim h (fun h => (Or.inr (Or.inr (Or.inr (Or.inl h))))) (fun h => (Or.elim h (fun h => (Or.inr (Or.inr (Or.inr (Or.inr (Or.inl h)))))) (fun h => (Or.elim h (fun h => (Or.inr (Or.inr (Or.inr (Or.inr (Or.inr (Or.inl h))))))) (fun h => (Or.inr (Or.inr (Or.inr (Or.inr (Or.inr (Or.inr (Or.inl h))))))))))))))).trans ((hug61.2 k j (fun h => hk (Or.inr (Or.inr (Or.inl h))))).trans (hfg59 k j (fun h => hk (Or.elim h (fun h => (Or.inl h)) (fun h => (Or.inr (Or.inl h))))))))) (by decide) (by decide) hE)
                    · skip
                      replace hE := zf_ip hE c176_58
                      refine mm_g 2 (pc1 := 181) (lo1 := [some (.ref 81), some (.ref q1), some (.int (Int32.ofInt v1)), some (.int (Int32.ofInt v57))]) (st1 := [.int (Int32.ofInt 3), .ref 81]) (H1 := mz_mk g x) rfl ?_
                      refine mz_cv rfl mt_4_95 (by decide) (sc_81 _) rfl (Nat.le_of_ble_eq_true rfl) (by omega) (f_X4_blame (by omega) hx hI (by decide) (by decide) (fun v64 g65 hIg65 hfg65 l_v64 u_v64 hc66 => ⟨_, rfl, ?_⟩))
                      show mm_W d mmX4_readPart 184 [some (.ref 81), some (.ref q1), some (.int (Int32.ofInt v1)), some (.int (Int32.ofInt v57))] [.int (Int32.ofInt v64)] (mz_mk g65 x) Q
                      replace hE := zf_t2 hE hc66
                      exact mz_rtZ rfl (by decide) (by omega) (hQ _ _ hIg65 (fun k j hk => (hfg65 k j (fun h => hk (Or.elim h (fun h => (Or.inr (Or.inr (Or.inr (Or.inr (Or.inr (Or.inr (Or.inr (Or.inl h))))))))) (fun h => (Or.inr (Or.inr (Or.inr (Or.inr (Or.inr (Or.inr (Or.inr (Or.inr (Or.inl h)))))))))))))) (by omega) (by omega) hE)
                · exfalso; omega
              · exfalso; omega
            · skip
              replace hE := zf_in hE c91_56
              refine mm_g 1 (pc1 := 95) (lo1 := [some (.ref 81), some (.ref q1), some (.int (Int32.ofInt v1)), none]) (st1 := [.ref 81]) (H1 := mz_mk g x) rfl ?_
              refine mz_gI rfl fd_4_35 (by decide) (sc_81 _) hI bd_81_6 (fun v67 e_v67 l_v67 u_v67 => ?_)
              replace hE := zf_tr hE (zf_le e_v67)
              refine mz_bip rfl bip_6 ?_
              refine mz_ic_lt (tgt := 109) rfl rfl (mz_rg l_v67 u_v67) ⟨by decide, by decide⟩ (fun c100_67 => ?_) (fun c100_67 => ?_)
              · skip
                replace hE := zf_ip hE c100_67
                refine mm_g 2 (pc1 := 111) (lo1 := [some (.ref 81), some (.ref q1), some (.int (Int32.ofInt v1)), none]) (st1 := [.ref 81, .ref 81]) (H1 := mz_mk g x) rfl ?_
                refine mz_fgI (v := v67) rfl fd_4_35 (by decide) (sc_81 _) e_v67 ?_
                replace hE := zf_tr hE (zf_le e_v67)
                refine mm_g 1 (pc1 := 115) (lo1 := [some (.ref 81), some (.ref q1), some (.int (Int32.ofInt v1)), none]) (st1 := [.int (Int32.ofInt 1), .int (Int32.ofInt v67), .ref 81]) (H1 := mz_mk g x) rfl ?_
                refine mz_iadd rfl ?_
                refine mz_pI rfl fd_4_35 (sc_81 _) hI bd_81_6 (by omega) (by omega) (fun g68 hIg68 hug68 => ?_)
                replace hE := zf_tr hE (zf_lg hug68)
                refine mm_g 1 (pc1 := 120) (lo1 := [some (.ref 81), some (.ref q1), some (.int (Int32.ofInt v1)), none]) (st1 := [.ref 81]) (H1 := mz_mk g68 x) rfl ?_
                refine mz_bip rfl bip_m13 ?_
                refine mz_cv rfl mt_4_174 (by decide) (sc_81 _) rfl (Nat.le_of_ble_eq_true rfl) (by omega) (f_X4_openSign (by omega) hx hIg68 (by decide) (by decide) (fun g69 hIg69 hfg69 hc70 => ⟨_, rfl, ?_⟩))
                show mm_W d mmX4_readPart 125 [some (.ref 81), some (.ref q1), some (.int (Int32.ofInt v1)), none] [] (mz_mk g69 x) Q
                replace hE := zf_t1 hE hc70
                refine mz_gt (tgt := 195) rfl rfl ?_
                refine mm_g 1 (pc1 := 196) (lo1 := [some (.ref 81), some (.ref q1), some (.int (Int32.ofInt v1)), none]) (st1 := [.ref 81]) (H1 := mz_mk g69 x) rfl ?_
                refine mz_fgR (v := 82) rfl fd_4_12 (by decide) (sc_81 _) (rf_81_0 _ _ _) ?_
                refine mz_cv rfl mt_4_99 (by decide) (sc_82 _) rfl (Nat.le_of_ble_eq_true rfl) (by omega) (f_X7_step (by omega) hx hIg69 (fun g71 hIg71 hfg71 hc72 => ⟨_, rfl, ?_⟩))
                show mm_W d mmX4_readPart 202 [some (.ref 81), some (.ref q1), some (.int (Int32.ofInt v1)), none] [] (mz_mk g71 x) Q
                replace hE := zf_t1 hE hc72
                refine mm_g 1 (pc1 := 203) (lo1 := [some (.ref 81), some (.ref q1), some (.int (Int32.ofInt v1)), none]) (st1 := [.int (Int32.ofInt 1)]) (H1 := mz_mk g71 x) rfl ?_
                exact mz_rtZ rfl (by decide) (by omega) (hQ _ _ hIg71 (fun k j hk => ((hfg71 k j (fun h => hk (Or.elim h (fun h => (Or.inr (Or.inr (Or.inr (Or.inl h))))) (fun h => (Or.elim h (fun h => (Or.inr (Or.inr (Or.inr (Or.inr (Or.inl h)))))) (fun h => (Or.elim h (fun h => (Or.inr (Or.inr (Or.inr (Or.inr (Or.inr (Or.inl h))))))) (fun h => (Or.inr (Or.inr (Or.inr (Or.inr (Or.inr (Or.inr (Or.inl h))))))))))))))).trans ((hfg69 k j (fun h => hk (Or.elim h (fun h => (Or.inr (Or.inr (Or.inr (Or.inr (Or.inr (Or.inr (Or.inr (Or.inr (Or.inr (Or.inr (Or.inl h)))))))))))) (fun h => (Or.inr (Or.inr (Or.inr (Or.inr (Or.inr (Or.inr (Or.inr (Or.inr (Or.inr (Or.inr (Or.inr (Or.inl h)))))))))))))))).trans (hug68.2 k j (fun h => hk (Or.inr (Or.inr (Or.inr (Or.inr (Or.inr (Or.inr (Or.inr (Or.inr (Or.inr (Or.inl h))))))))))))))) (by decide) (by decide) hE)
              · skip
                replace hE := zf_nl hE c100_67
                refine mm_g 2 (pc1 := 105) (lo1 := [some (.ref 81), some (.ref q1), some (.int (Int32.ofInt v1)), none]) (st1 := [.int (Int32.ofInt 2), .ref 81]) (H1 := mz_mk g x) rfl ?_
                refine mz_cv rfl mt_4_95 (by decide) (sc_81 _) rfl (Nat.le_of_ble_eq_true rfl) (by omega) (f_X4_blame (by omega) hx hI (by decide) (by decide) (fun v73 g74 hIg74 hfg74 l_v73 u_v73 hc75 => ⟨_, rfl, ?_⟩))
                show mm_W d mmX4_readPart 108 [some (.ref 81), some (.ref q1), some (.int (Int32.ofInt v1)), none] [.int (Int32.ofInt v73)] (mz_mk g74 x) Q
                replace hE := zf_t2 hE hc75
                exact mz_rtZ rfl (by decide) (by omega) (hQ _ _ hIg74 (fun k j hk => (hfg74 k j (fun h => hk (Or.elim h (fun h => (Or.inr (Or.inr (Or.inr (Or.inr (Or.inr (Or.inr (Or.inr (Or.inl h))))))))) (fun h => (Or.inr (Or.inr (Or.inr (Or.inr (Or.inr (Or.inr (Or.inr (Or.inr (Or.inl h)))))))))))))) (by omega) (by omega) hE)
        · exfalso; omega
      · skip
        replace hE := zf_nl hE c36_43
        refine mm_g 2 (pc1 := 41) (lo1 := [some (.ref 81), some (.ref q1), some (.int (Int32.ofInt v1)), none]) (st1 := [.int (Int32.ofInt 2), .ref 81]) (H1 := mz_mk g x) rfl ?_
        refine mz_cv rfl mt_4_95 (by decide) (sc_81 _) rfl (Nat.le_of_ble_eq_true rfl) (by omega) (f_X4_blame (by omega) hx hI (by decide) (by decide) (fun v76 g77 hIg77 hfg77 l_v76 u_v76 hc78 => ⟨_, rfl, ?_⟩))
        show mm_W d mmX4_readPart 44 [some (.ref 81), some (.ref q1), some (.int (Int32.ofInt v1)), none] [.int (Int32.ofInt v76)] (mz_mk g77 x) Q
        replace hE := zf_t2 hE hc78
        exact mz_rtZ rfl (by decide) (by omega) (hQ _ _ hIg77 (fun k j hk => (hfg77 k j (fun h => hk (Or.elim h (fun h => (Or.inr (Or.inr (Or.inr (Or.inr (Or.inr (Or.inr (Or.inr (Or.inl h))))))))) (fun h => (Or.inr (Or.inr (Or.inr (Or.inr (Or.inr (Or.inr (Or.inr (Or.inr (Or.inl h)))))))))))))) (by omega) (by omega) hE)
    · skip
      replace hE := zf_in hE c15_42
      refine mm_g 1 (pc1 := 19) (lo1 := [some (.ref 81), some (.ref q1), some (.int (Int32.ofInt v1)), none]) (st1 := [.int (Int32.ofInt v1)]) (H1 := mz_mk g x) rfl ?_
      refine mz_bip rfl bip_40 ?_
      refine mz_ic_eq (tgt := 30) rfl rfl (mz_rg l_v1 u_v1) ⟨by decide, by decide⟩ (fun c21_78 => ?_) (fun c21_78 => ?_)
      · skip
        replace hE := zf_ip hE c21_78
        refine mm_g 1 (pc1 := 31) (lo1 := [some (.ref 81), some (.ref q1), some (.int (Int32.ofInt v1)), none]) (st1 := [.ref 81]) (H1 := mz_mk g x) rfl ?_
        refine mz_gI rfl fd_4_32 (by decide) (sc_81 _) hI bd_81_5 (fun v79 e_v79 l_v79 u_v79 => ?_)
        replace hE := zf_tr hE (zf_le e_v79)
        refine mz_bip rfl bip_6 ?_
        refine mz_ic_lt (tgt := 45) rfl rfl (mz_rg l_v79 u_v79) ⟨by decide, by decide⟩ (fun c36_79 => ?_) (fun c36_79 => ?_)
        · skip
          replace hE := zf_ip hE c36_79
          refine mm_g 1 (pc1 := 46) (lo1 := [some (.ref 81), some (.ref q1), some (.int (Int32.ofInt v1)), none]) (st1 := [.int (Int32.ofInt v1)]) (H1 := mz_mk g x) rfl ?_
          refine mz_bip rfl bip_40 ?_
          refine mz_ic_ne (tgt := 75) rfl rfl (mz_rg l_v1 u_v1) ⟨by decide, by decide⟩ (fun c48_79 => ?_) (fun c48_79 => ?_)
          · exfalso; omega
          · skip
            replace hE := zf_ip hE c48_79
            refine mm_g 1 (pc1 := 52) (lo1 := [some (.ref 81), some (.ref q1), some (.int (Int32.ofInt v1)), none]) (st1 := [.ref 81]) (H1 := mz_mk g x) rfl ?_
            refine mz_bip rfl bip_m20 ?_
            refine mz_cv rfl mt_4_174 (by decide) (sc_81 _) rfl (Nat.le_of_ble_eq_true rfl) (by omega) (f_X4_openSign (by omega) hx hI (by decide) (by decide) (fun g80 hIg80 hfg80 hc81 => ⟨_, rfl, ?_⟩))
            show mm_W d mmX4_readPart 57 [some (.ref 81), some (.ref q1), some (.int (Int32.ofInt v1)), none] [] (mz_mk g80 x) Q
            replace hE := zf_t1 hE hc81
            refine mm_g 2 (pc1 := 59) (lo1 := [some (.ref 81), some (.ref q1), some (.int (Int32.ofInt v1)), none]) (st1 := [.ref 81, .ref 81]) (H1 := mz_mk g80 x) rfl ?_
            refine mz_fgI (v := v79) rfl fd_4_32 (by decide) (sc_81 _) (show g80 81 5 = v79 from ((hfg80 81 5 nj_2).trans e_v79)) ?_
            replace hE := zf_tr hE (zf_le (show g80 81 5 = v79 from ((hfg80 81 5 nj_2).trans e_v79)))
            refine mm_g 1 (pc1 := 63) (lo1 := [some (.ref 81), some (.ref q1), some (.int (Int32.ofInt v1)), none]) (st1 := [.int (Int32.ofInt 1), .int (Int32.ofInt v79), .ref 81]) (H1 := mz_mk g80 x) rfl ?_
            refine mz_iadd rfl ?_
            refine mz_pI rfl fd_4_32 (sc_81 _) hIg80 bd_81_5 (by omega) (by omega) (fun g82 hIg82 hug82 => ?_)
            replace hE := zf_tr hE (zf_lg hug82)
            refine mm_g 2 (pc1 := 69) (lo1 := [some (.ref 81), some (.ref q1), some (.int (Int32.ofInt v1)), none]) (st1 := [.int (Int32.ofInt 1), .ref 81]) (H1 := mz_mk g82 x) rfl ?_
            refine mz_cv rfl mt_4_157 (by decide) (sc_81 _) rfl (Nat.le_of_ble_eq_true rfl) (by omega) (f_X4_notsAnew (by omega) hx hIg82 (by decide) (by decide) (fun g83 hIg83 hfg83 hc84 => ⟨_, rfl, ?_⟩))
            show mm_W d mmX4_readPart 72 [some (.ref 81), some (.ref q1), some (.int (Int32.ofInt v1)), none] [] (mz_mk g83 x) Q
            replace hE := zf_t1 hE hc84
            refine mz_gt (tgt := 195) rfl rfl ?_
            refine mm_g 1 (pc1 := 196) (lo1 := [some (.ref 81), some (.ref q1), some (.int (Int32.ofInt v1)), none]) (st1 := [.ref 81]) (H1 := mz_mk g83 x) rfl ?_
            refine mz_fgR (v := 82) rfl fd_4_12 (by decide) (sc_81 _) (rf_81_0 _ _ _) ?_
            refine mz_cv rfl mt_4_99 (by decide) (sc_82 _) rfl (Nat.le_of_ble_eq_true rfl) (by omega) (f_X7_step (by omega) hx hIg83 (fun g85 hIg85 hfg85 hc86 => ⟨_, rfl, ?_⟩))
            show mm_W d mmX4_readPart 202 [some (.ref 81), some (.ref q1), some (.int (Int32.ofInt v1)), none] [] (mz_mk g85 x) Q
            replace hE := zf_t1 hE hc86
            refine mm_g 1 (pc1 := 203) (lo1 := [some (.ref 81), some (.ref q1), some (.int (Int32.ofInt v1)), none]) (st1 := [.int (Int32.ofInt 1)]) (H1 := mz_mk g85 x) rfl ?_
            exact mz_rtZ rfl (by decide) (by omega) (hQ _ _ hIg85 (fun k j hk => ((hfg85 k j (fun h => hk (Or.elim h (fun h => (Or.inr (Or.inr (Or.inr (Or.inl h))))) (fun h => (Or.elim h (fun h => (Or.inr (Or.inr (Or.inr (Or.inr (Or.inl h)))))) (fun h => (Or.elim h (fun h => (Or.inr (Or.inr (Or.inr (Or.inr (Or.inr (Or.inl h))))))) (fun h => (Or.inr (Or.inr (Or.inr (Or.inr (Or.inr (Or.inr (Or.inl h))))))))))))))).trans ((hfg83 k j (fun h => hk (Or.elim h (fun h => (Or.inr (Or.inr (Or.inr (Or.inr (Or.inr (Or.inr (Or.inr (Or.inr (Or.inr (Or.inr (Or.inr (Or.inr (Or.inr h)))))))))))))) (fun h => (Or.inr (Or.inr (Or.inr (Or.inr (Or.inr (Or.inr (Or.inr (Or.inr (Or.inr (Or.inl h)))))))))))))).trans ((hug82.2 k j (fun h => hk (Or.inr (Or.inr (Or.inr (Or.inr (Or.inr (Or.inr (Or.inr (Or.inr (Or.inr (Or.inr (Or.inr (Or.inr (Or.inl h))))))))))))))).trans (hfg80 k j (fun h => hk (Or.elim h (fun h => (Or.inr (Or.inr (Or.inr (Or.inr (Or.inr (Or.inr (Or.inr (Or.inr (Or.inr (Or.inr (Or.inl h)))))))))))) (fun h => (Or.inr (Or.inr (Or.inr (Or.inr (Or.inr (Or.inr (Or.inr (Or.inr (Or.inr (Or.inr (Or.inr (Or.inl h)))))))))))))))))))) (by decide) (by decide) hE)
        · skip
          replace hE := zf_nl hE c36_79
          refine mm_g 2 (pc1 := 41) (lo1 := [some (.ref 81), some (.ref q1), some (.int (Int32.ofInt v1)), none]) (st1 := [.int (Int32.ofInt 2), .ref 81]) (H1 := mz_mk g x) rfl ?_
          refine mz_cv rfl mt_4_95 (by decide) (sc_81 _) rfl (Nat.le_of_ble_eq_true rfl) (by omega) (f_X4_blame (by omega) hx hI (by decide) (by decide) (fun v87 g88 hIg88 hfg88 l_v87 u_v87 hc89 => ⟨_, rfl, ?_⟩))
          show mm_W d mmX4_readPart 44 [some (.ref 81), some (.ref q1), some (.int (Int32.ofInt v1)), none] [.int (Int32.ofInt v87)] (mz_mk g88 x) Q
          replace hE := zf_t2 hE hc89
          exact mz_rtZ rfl (by decide) (by omega) (hQ _ _ hIg88 (fun k j hk => (hfg88 k j (fun h => hk (Or.elim h (fun h => (Or.inr (Or.inr (Or.inr (Or.inr (Or.inr (Or.inr (Or.inr (Or.inl h))))))))) (fun h => (Or.inr (Or.inr (Or.inr (Or.inr (Or.inr (Or.inr (Or.inr (Or.inr (Or.inl h)))))))))))))) (by omega) (by omega) hE)
      · skip
        replace hE := zf_in hE c21_78
        refine mm_g 2 (pc1 := 26) (lo1 := [some (.ref 81), some (.ref q1), some (.int (Int32.ofInt v1)), none]) (st1 := [.int (Int32.ofInt 1), .ref 81]) (H1 := mz_mk g x) rfl ?_
        refine mz_cv rfl mt_4_95 (by decide) (sc_81 _) rfl (Nat.le_of_ble_eq_true rfl) (by omega) (f_X4_blame (by omega) hx hI (by decide) (by decide) (fun v90 g91 hIg91 hfg91 l_v90 u_v90 hc92 => ⟨_, rfl, ?_⟩))
        show mm_W d mmX4_readPart 29 [some (.ref 81), some (.ref q1), some (.int (Int32.ofInt v1)), none] [.int (Int32.ofInt v90)] (mz_mk g91 x) Q
        replace hE := zf_t2 hE hc92
        exact mz_rtZ rfl (by decide) (by omega) (hQ _ _ hIg91 (fun k j hk => (hfg91 k j (fun h => hk (Or.elim h (fun h => (Or.inr (Or.inr (Or.inr (Or.inr (Or.inr (Or.inr (Or.inr (Or.inl h))))))))) (fun h => (Or.inr (Or.inr (Or.inr (Or.inr (Or.inr (Or.inr (Or.inr (Or.inr (Or.inl h)))))))))))))) (by omega) (by omega) hE)
theorem f_X4_lastOpen {d : Nat} (hd : 2 ≤ d) {x : mm_X} (hx : mk_x x) {g : mz_G} (hI : mz_inv g) {Q : (Option Value ⊕ Nat) → mm_H → Prop} (hQ : ∀ (r : Int), (-2147483648) ≤ r → r ≤ 2147483647 → zf_E (zF_X4_lastOpen g) (r) → Q (.inl (some (.int (Int32.ofInt r)))) (mz_mk g x)) : mm_C d 52 [.ref 81] (mz_mk g x) Q := by
  refine ⟨mmX4_lastOpen, [some (.ref 81)], rfl, rfl, ?_⟩
  have hE : zf_E (zF_X4_lastOpen g) (zF_X4_lastOpen g) := zf_rf
  refine mm_g 1 (pc1 := 1) (lo1 := [some (.ref 81)]) (st1 := [.ref 81]) (H1 := mz_mk g x) rfl ?_
  refine mz_fgR (v := 84) rfl fd_4_25 (by decide) (sc_81 _) (rf_81_3 _ _ _) ?_
  refine mm_g 1 (pc1 := 5) (lo1 := [some (.ref 81)]) (st1 := [.ref 81, .ref 84]) (H1 := mz_mk g x) rfl ?_
  refine mz_gI rfl fd_4_29 (by decide) (sc_81 _) hI bd_81_4 (fun v1 e_v1 l_v1 u_v1 => ?_)
  replace hE := zf_tr hE (zf_le e_v1)
  refine mm_g 1 (pc1 := 9) (lo1 := [some (.ref 81)]) (st1 := [.int (Int32.ofInt 1), .int (Int32.ofInt v1), .ref 84]) (H1 := mz_mk g x) rfl ?_
  refine mz_isub_w rfl (fun v2 e_v2 hwv2 => ?_)
  have l_v2 := hwv2.1
  have u_v2 := hwv2.2
  replace hE := zf_tr hE (zf_le e_v2.symm)
  refine mz_cs rfl mt_4_199 (by decide) rfl (Nat.le_of_ble_eq_true rfl) (by omega) (f_X11_at (by omega) hx hI (sh_84 _) (by decide) ba_84 (by omega) (by omega) l_v2 u_v2 (fun v3 l_v3 u_v3 hc4 => ⟨_, rfl, ?_⟩))
  show mm_W d mmX4_lastOpen 13 [some (.ref 81)] [.int (Int32.ofInt v3)] (mz_mk g x) Q
  replace hE := zf_t1 hE hc4
  exact mm_rt rfl rfl (hQ _ (by omega) (by omega) hE)
theorem f_X4_rankOf {d : Nat} (hd : 1 ≤ d) {x : mm_X} (hx : mk_x x) {g : mz_G} (hI : mz_inv g) {a1 : Int} (l_a1 : (-2147483648) ≤ a1) (u_a1 : a1 ≤ 2147483647) {Q : (Option Value ⊕ Nat) → mm_H → Prop} (hQ : ∀ (r : Int), 0 ≤ r → r ≤ 6 → zf_E (zF_X4_rankOf a1 g) (r) → Q (.inl (some (.int (Int32.ofInt r)))) (mz_mk g x)) : mm_C d 56 [.int (Int32.ofInt a1)] (mz_mk g x) Q := by
  refine ⟨mmX4_rankOf, [some (.int (Int32.ofInt a1))], rfl, rfl, ?_⟩
  have hE : zf_E (zF_X4_rankOf a1 g) (zF_X4_rankOf a1 g) := zf_rf
  refine mm_g 1 (pc1 := 1) (lo1 := [some (.int (Int32.ofInt a1))]) (st1 := [.int (Int32.ofInt a1)]) (H1 := mz_mk g x) rfl ?_
  by_cases c1_0 : a1 = (-19)
  · refine mz_tsi (tgt := 62) rfl (mz_rg l_a1 u_a1) (by omega) (by omega) (by rw [c1_0]; rfl) rfl ?_
    replace hE := zf_ip hE c1_0
    refine mz_bip rfl bip_6 ?_
    exact mm_rt rfl rfl (hQ _ (by decide) (by decide) hE)
  replace hE := zf_in hE c1_0
  by_cases c1_1 : a1 = (-18)
  · refine mz_tsi (tgt := 62) rfl (mz_rg l_a1 u_a1) (by omega) (by omega) (by rw [c1_1]; rfl) rfl ?_
    replace hE := zf_ip hE c1_1
    refine mz_bip rfl bip_6 ?_
    exact mm_rt rfl rfl (hQ _ (by decide) (by decide) hE)
  replace hE := zf_in hE c1_1
  by_cases c1_2 : a1 = (-17)
  · refine mz_tsi (tgt := 60) rfl (mz_rg l_a1 u_a1) (by omega) (by omega) (by rw [c1_2]; rfl) rfl ?_
    replace hE := zf_ip hE c1_2
    refine mm_g 1 (pc1 := 61) (lo1 := [some (.int (Int32.ofInt a1))]) (st1 := [.int (Int32.ofInt 5)]) (H1 := mz_mk g x) rfl ?_
    exact mm_rt rfl rfl (hQ _ (by decide) (by decide) hE)
  replace hE := zf_in hE c1_2
  by_cases c1_3 : a1 = (-16)
  · refine mz_tsi (tgt := 60) rfl (mz_rg l_a1 u_a1) (by omega) (by omega) (by rw [c1_3]; rfl) rfl ?_
    replace hE := zf_ip hE c1_3
    refine mm_g 1 (pc1 := 61) (lo1 := [some (.int (Int32.ofInt a1))]) (st1 := [.int (Int32.ofInt 5)]) (H1 := mz_mk g x) rfl ?_
    exact mm_rt rfl rfl (hQ _ (by decide) (by decide) hE)
  replace hE := zf_in hE c1_3
  by_cases c1_4 : a1 = (-15)
  · refine mz_tsi (tgt := 58) rfl (mz_rg l_a1 u_a1) (by omega) (by omega) (by rw [c1_4]; rfl) rfl ?_
    replace hE := zf_ip hE c1_4
    refine mm_g 1 (pc1 := 59) (lo1 := [some (.int (Int32.ofInt a1))]) (st1 := [.int (Int32.ofInt 4)]) (H1 := mz_mk g x) rfl ?_
    exact mm_rt rfl rfl (hQ _ (by decide) (by decide) hE)
  replace hE := zf_in hE c1_4
  by_cases c1_5 : a1 = (-14)
  · refine mz_tsi (tgt := 58) rfl (mz_rg l_a1 u_a1) (by omega) (by omega) (by rw [c1_5]; rfl) rfl ?_
    replace hE := zf_ip hE c1_5
    refine mm_g 1 (pc1 := 59) (lo1 := [some (.int (Int32.ofInt a1))]) (st1 := [.int (Int32.ofInt 4)]) (H1 := mz_mk g x) rfl ?_
    exact mm_rt rfl rfl (hQ _ (by decide) (by decide) hE)
  replace hE := zf_in hE c1_5
  by_cases c1_6 : a1 = (-13)
  · refine mz_tsi (tgt := 56) rfl (mz_rg l_a1 u_a1) (by omega) (by omega) (by rw [c1_6]; rfl) rfl ?_
    replace hE := zf_ip hE c1_6
    refine mm_g 1 (pc1 := 57) (lo1 := [some (.int (Int32.ofInt a1))]) (st1 := [.int (Int32.ofInt 3)]) (H1 := mz_mk g x) rfl ?_
    exact mm_rt rfl rfl (hQ _ (by decide) (by decide) hE)
  replace hE := zf_in hE c1_6
  by_cases c1_7 : a1 = (-12)
  · refine mz_tsi (tgt := 54) rfl (mz_rg l_a1 u_a1) (by omega) (by omega) (by rw [c1_7]; rfl) rfl ?_
    replace hE := zf_ip hE c1_7
    refine mm_g 1 (pc1 := 55) (lo1 := [some (.int (Int32.ofInt a1))]) (st1 := [.int (Int32.ofInt 2)]) (H1 := mz_mk g x) rfl ?_
    exact mm_rt rfl rfl (hQ _ (by decide) (by decide) hE)
  replace hE := zf_in hE c1_7
  by_cases c1_8 : a1 = (-11)
  · refine mz_tsi (tgt := 52) rfl (mz_rg l_a1 u_a1) (by omega) (by omega) (by rw [c1_8]; rfl) rfl ?_
    replace hE := zf_ip hE c1_8
    refine mm_g 1 (pc1 := 53) (lo1 := [some (.int (Int32.ofInt a1))]) (st1 := [.int (Int32.ofInt 1)]) (H1 := mz_mk g x) rfl ?_
    exact mm_rt rfl rfl (hQ _ (by decide) (by decide) hE)
  replace hE := zf_in hE c1_8
  refine mz_tso (tgt := 65) rfl (mz_rg l_a1 u_a1) (by omega) rfl ?_
  refine mm_g 1 (pc1 := 66) (lo1 := [some (.int (Int32.ofInt a1))]) (st1 := [.int (Int32.ofInt 0)]) (H1 := mz_mk g x) rfl ?_
  exact mm_rt rfl rfl (hQ _ (by decide) (by decide) hE)
def fl_X4_closeSigns_0 (x : mm_X) (q1 : Nat) (a2 : Int) : Nat → Nat → Prop := fun k j => k = (q1 + 1) ∨ k = q1 ∨ (k = 81 ∧ j = 4)
def fw_X4_closeSigns (x : mm_X) (q1 : Nat) (a2 : Int) : Nat → Nat → Prop := fun k j => k = (q1 + 1) ∨ k = q1 ∨ (k = 81 ∧ j = 4)
theorem f_X4_closeSigns {d : Nat} (hd : 3 ≤ d) {x : mm_X} (hx : mk_x x) {g : mz_G} (hI : mz_inv g) {q1 : Nat} (h_q1 : kd_rule q1) {a2 : Int} (l_a2 : (-2147483648) ≤ a2) (u_a2 : a2 ≤ 2147483647) {Q : (Option Value ⊕ Nat) → mm_H → Prop} (hQ : ∀ (g1 : mz_G), mz_inv g1 → mz_fr (fw_X4_closeSigns x q1 a2) g g1 → zf_E (zF_X4_closeSigns q1 a2 g) (g1) → Q (.inl none) (mz_mk g1 x)) : mm_C d 53 [.ref 81, .ref q1, .int (Int32.ofInt a2)] (mz_mk g x) Q := by
  have kn_q1 := kn_rule h_q1
  refine ⟨mmX4_closeSigns, [some (.ref 81), some (.ref q1), some (.int (Int32.ofInt a2))], rfl, rfl, ?_⟩
  have hE : zf_E (zF_X4_closeSigns q1 a2 g) (zF_X4_closeSigns q1 a2 g) := zf_rf
  have L4 : ∀ n3 : Nat, ∀ (g1 : mz_G), (g1 81 4).toNat = n3 → mz_inv g1 → mz_fr (fl_X4_closeSigns_0 x q1 a2) g g1 → (∃ fk : Nat, (g1 81 4).toNat < fk ∧ zf_E (zF_X4_closeSigns q1 a2 g) (zL_X4_closeSigns_0 q1 a2 fk g1)) → mm_W d mmX4_closeSigns 0 [some (.ref 81), some (.ref q1), some (.int (Int32.ofInt a2))] [] (mz_mk g1 x) Q := by
    intro n3
    induction n3 using Nat.strongRecOn with
    | ind n3 ih2 =>
    intro g1 hmn3 hIg1 hfg1 hF
    obtain ⟨fk, fl, hE⟩ := hF
    obtain ⟨fj5, rfl⟩ : ∃ fj, fk = fj + 1 := ⟨fk - 1, by omega⟩
    have fn6 : n3 ≤ fj5 := by omega
    replace hE := zf_tr hE zL_X4_closeSigns_0_s
    refine mm_g 1 (pc1 := 1) (lo1 := [some (.ref 81), some (.ref q1), some (.int (Int32.ofInt a2))]) (st1 := [.ref 81]) (H1 := mz_mk g1 x) rfl ?_
    refine mz_gI rfl fd_4_29 (by decide) (sc_81 _) hIg1 bd_81_4 (fun v7 e_v7 l_v7 u_v7 => ?_)
    replace hE := zf_tr hE (zf_le e_v7)
    refine mz_if_le (tgt := 39) rfl rfl (mz_rg l_v7 u_v7) (fun c4_7 => ?_) (fun c4_7 => ?_)
    · skip
      replace hE := zf_nl hE c4_7
      exact mm_rt rfl rfl (hQ _ hIg1 (fun k j hk => (hfg1 k j (fun h => hk (Or.elim h (fun h => (Or.inl h)) (fun h => (Or.elim h (fun h => (Or.inr (Or.inl h))) (fun h => (Or.inr (Or.inr h))))))))) hE)
    · skip
      replace hE := zf_ip hE c4_7
      refine mm_g 1 (pc1 := 8) (lo1 := [some (.ref 81), some (.ref q1), some (.int (Int32.ofInt a2))]) (st1 := [.ref 81]) (H1 := mz_mk g1 x) rfl ?_
      refine mz_cv rfl mt_4_192 (by decide) (sc_81 _) rfl (Nat.le_of_ble_eq_true rfl) (by omega) (f_X4_lastOpen (by omega) hx hIg1 (fun v8 l_v8 u_v8 hc9 => ⟨_, rfl, ?_⟩))
      show mm_W d mmX4_closeSigns 11 [some (.ref 81), some (.ref q1), some (.int (Int32.ofInt a2))] [.int (Int32.ofInt v8)] (mz_mk g1 x) Q
      replace hE := zf_t1 hE hc9
      refine mz_cs rfl mt_4_188 (by decide) rfl (Nat.le_of_ble_eq_true rfl) (by omega) (f_X4_rankOf (by omega) hx hIg1 l_v8 u_v8 (fun v10 l_v10 u_v10 hc11 => ⟨_, rfl, ?_⟩))
      show mm_W d mmX4_closeSigns 14 [some (.ref 81), some (.ref q1), some (.int (Int32.ofInt a2))] [.int (Int32.ofInt v10)] (mz_mk g1 x) Q
      replace hE := zf_t1 hE hc11
      refine mm_g 1 (pc1 := 15) (lo1 := [some (.ref 81), some (.ref q1), some (.int (Int32.ofInt a2))]) (st1 := [.int (Int32.ofInt a2), .int (Int32.ofInt v10)]) (H1 := mz_mk g1 x) rfl ?_
      refine mz_ic_lt (tgt := 39) rfl rfl (mz_rg l_v10 u_v10) (mz_rg l_a2 u_a2) (fun c15_11 => ?_) (fun c15_11 => ?_)
      · skip
        replace hE := zf_ip hE c15_11
        exact mm_rt rfl rfl (hQ _ hIg1 (fun k j hk => (hfg1 k j (fun h => hk (Or.elim h (fun h => (Or.inl h)) (fun h => (Or.elim h (fun h => (Or.inr (Or.inl h))) (fun h => (Or.inr (Or.inr h))))))))) hE)
      · skip
        replace hE := zf_nl hE c15_11
        refine mm_g 2 (pc1 := 20) (lo1 := [some (.ref 81), some (.ref q1), some (.int (Int32.ofInt a2))]) (st1 := [.ref 81, .ref q1]) (H1 := mz_mk g1 x) rfl ?_
        refine mz_cv rfl mt_4_192 (by decide) (sc_81 _) rfl (Nat.le_of_ble_eq_true rfl) (by omega) (f_X4_lastOpen (by omega) hx hIg1 (fun v12 l_v12 u_v12 hc13 => ⟨_, rfl, ?_⟩))
        show mm_W d mmX4_closeSigns 23 [some (.ref 81), some (.ref q1), some (.int (Int32.ofInt a2))] [.int (Int32.ofInt v12), .ref q1] (mz_mk g1 x) Q
        replace hE := zf_t1 hE hc13
        refine mz_cv rfl mt_4_182 (by decide) (kc_rule h_q1 _) rfl (Nat.le_of_ble_eq_true rfl) (by omega) (f_X5_addStep (by omega) hx hIg1 h_q1 l_v12 u_v12 (fun g14 hIg14 hfg14 hc15 => ⟨_, rfl, ?_⟩))
        show mm_W d mmX4_closeSigns 26 [some (.ref 81), some (.ref q1), some (.int (Int32.ofInt a2))] [] (mz_mk g14 x) Q
        replace hE := zf_t1 hE hc15
        refine mm_g 2 (pc1 := 28) (lo1 := [some (.ref 81), some (.ref q1), some (.int (Int32.ofInt a2))]) (st1 := [.ref 81, .ref 81]) (H1 := mz_mk g14 x) rfl ?_
        refine mz_fgI (v := v7) rfl fd_4_29 (by decide) (sc_81 _) (show g14 81 4 = v7 from ((hfg14 81 4 (fun h => (Or.elim h (fun h => (by have h9 : 81 = (q1 + 1) := h; omega)) (fun h => (by have h9 : 81 = q1 := h; omega))))).trans e_v7)) ?_
        replace hE := zf_tr hE (zf_le (show g14 81 4 = v7 from ((hfg14 81 4 (fun h => (Or.elim h (fun h => (by have h9 : 81 = (q1 + 1) := h; omega)) (fun h => (by have h9 : 81 = q1 := h; omega))))).trans e_v7)))
        refine mm_g 1 (pc1 := 32) (lo1 := [some (.ref 81), some (.ref q1), some (.int (Int32.ofInt a2))]) (st1 := [.int (Int32.ofInt 1), .int (Int32.ofInt v7), .ref 81]) (H1 := mz_mk g14 x) rfl ?_
        refine mz_isub rfl ?_
        refine mz_pI rfl fd_4_29 (sc_81 _) hIg14 bd_81_4 (by omega) (by omega) (fun g16 hIg16 hug16 => ?_)
        replace hE := zf_tr hE (zf_lg hug16)
        refine mz_gt (tgt := 0) rfl rfl ?_
        exact ih2 ((g16 81 4).toNat) (by have hz := (show g16 81 4 = (v7 - 1) from hug16.1); omega) g16 rfl hIg16 (fun k j hk => ((hug16.2 k j (fun h => hk (Or.inr (Or.inr h)))).trans ((hfg14 k j (fun h => hk (Or.elim h (fun h => (Or.inl h)) (fun h => (Or.inr (Or.inl h)))))).trans (hfg1 k j (fun h => hk (Or.elim h (fun h => (Or.inl h)) (fun h => (Or.elim h (fun h => (Or.inr (Or.inl h))) (fun h => (Or.inr (Or.inr h))))))))))) ⟨fj5, Nat.lt_of_lt_of_le (show ((g16 81 4).toNat) < n3 from (by have hz := (show g16 81 4 = (v7 - 1) from hug16.1); omega)) fn6, hE⟩
  exact L4 _ g rfl hI (fun _ _ _ => rfl) ⟨3000000000, by have bq0 := mz_rd hI bd_81_4; omega, hE⟩
theorem f_X4_signOfToken {d : Nat} (hd : 6 ≤ d) {x : mm_X} (hx : mk_x x) {g : mz_G} (hI : mz_inv g) {Q : (Option Value ⊕ Nat) → mm_H → Prop} (hQ : ∀ (r : Int), (-19) ≤ r → r ≤ 0 → zf_E (zF_X4_signOfToken g) (r) → Q (.inl (some (.int (Int32.ofInt r)))) (mz_mk g x)) : mm_C d 55 [.ref 81] (mz_mk g x) Q := by
  refine ⟨mmX4_signOfToken, [some (.ref 81)], rfl, rfl, ?_⟩
  have hE : zf_E (zF_X4_signOfToken g) (zF_X4_signOfToken g) := zf_rf
  refine mm_g 1 (pc1 := 1) (lo1 := [some (.ref 81)]) (st1 := [.ref 81]) (H1 := mz_mk g x) rfl ?_
  refine mz_fgR (v := 82) rfl fd_4_12 (by decide) (sc_81 _) (rf_81_0 _ _ _) ?_
  refine mz_cv rfl mt_4_48 (by decide) (sc_82 _) rfl (Nat.le_of_ble_eq_true rfl) (by omega) (f_X7_kind (by omega) hx hI (fun v1 l_v1 u_v1 hc2 => ⟨_, rfl, ?_⟩))
  show mm_W d mmX4_signOfToken 7 [some (.ref 81)] [.int (Int32.ofInt v1)] (mz_mk g x) Q
  replace hE := zf_t1 hE hc2
  by_cases c7_0 : v1 = 42
  · refine mz_tsi (tgt := 112) rfl (mz_rg l_v1 u_v1) (by omega) (by omega) (by rw [c7_0]; rfl) rfl ?_
    replace hE := zf_ip hE c7_0
    refine mz_bip rfl bip_m18 ?_
    exact mm_rt rfl rfl (hQ _ (by decide) (by decide) hE)
  replace hE := zf_in hE c7_0
  by_cases c7_1 : v1 = 43
  · refine mz_tsi (tgt := 106) rfl (mz_rg l_v1 u_v1) (by omega) (by omega) (by rw [c7_1]; rfl) rfl ?_
    replace hE := zf_ip hE c7_1
    refine mz_bip rfl bip_m16 ?_
    exact mm_rt rfl rfl (hQ _ (by decide) (by decide) hE)
  replace hE := zf_in hE c7_1
  by_cases c7_2 : v1 = 44
  · refine mz_tsi (tgt := 118) rfl (mz_rg l_v1 u_v1) (by omega) (by omega) (by rw [c7_2]; rfl) rfl ?_
    replace hE := zf_ip hE c7_2
    refine mm_g 1 (pc1 := 119) (lo1 := [some (.ref 81)]) (st1 := [.ref 81]) (H1 := mz_mk g x) rfl ?_
    refine mz_fgR (v := 82) rfl fd_4_12 (by decide) (sc_81 _) (rf_81_0 _ _ _) ?_
    refine mz_ldcS (j := 12) rfl rfl rfl ?_
    refine mz_cv rfl mt_4_57 (by decide) (sc_82 _) rfl (Nat.le_of_ble_eq_true rfl) (by omega) (f_X7_spells (by omega) hx hI (by decide) (fun v3 l_v3 u_v3 hc4 => ⟨_, rfl, ?_⟩))
    show mm_W d mmX4_signOfToken 127 [some (.ref 81)] [.int (Int32.ofInt v3)] (mz_mk g x) Q
    replace hE := zf_t1 hE hc4
    refine mz_if_eq (tgt := 135) rfl rfl (mz_rg l_v3 u_v3) (fun c127_4 => ?_) (fun c127_4 => ?_)
    · skip
      replace hE := zf_ip hE c127_4
      refine mm_g 1 (pc1 := 136) (lo1 := [some (.ref 81)]) (st1 := [.ref 81]) (H1 := mz_mk g x) rfl ?_
      refine mz_fgR (v := 82) rfl fd_4_12 (by decide) (sc_81 _) (rf_81_0 _ _ _) ?_
      refine mz_ldcS (j := 13) rfl rfl rfl ?_
      refine mz_cv rfl mt_4_57 (by decide) (sc_82 _) rfl (Nat.le_of_ble_eq_true rfl) (by omega) (f_X7_spells (by omega) hx hI (by decide) (fun v5 l_v5 u_v5 hc6 => ⟨_, rfl, ?_⟩))
      show mm_W d mmX4_signOfToken 144 [some (.ref 81)] [.int (Int32.ofInt v5)] (mz_mk g x) Q
      replace hE := zf_t1 hE hc6
      refine mz_if_eq (tgt := 152) rfl rfl (mz_rg l_v5 u_v5) (fun c144_6 => ?_) (fun c144_6 => ?_)
      · skip
        replace hE := zf_ip hE c144_6
        refine mm_g 1 (pc1 := 153) (lo1 := [some (.ref 81)]) (st1 := [.int (Int32.ofInt 0)]) (H1 := mz_mk g x) rfl ?_
        exact mm_rt rfl rfl (hQ _ (by decide) (by decide) hE)
      · skip
        replace hE := zf_in hE c144_6
        refine mz_bip rfl bip_m12 ?_
        refine mz_gt (tgt := 153) rfl rfl ?_
        exact mm_rt rfl rfl (hQ _ (by decide) (by decide) hE)
    · skip
      replace hE := zf_in hE c127_4
      refine mz_bip rfl bip_m11 ?_
      refine mz_gt (tgt := 153) rfl rfl ?_
      exact mm_rt rfl rfl (hQ _ (by decide) (by decide) hE)
  replace hE := zf_in hE c7_2
  by_cases c7_3 : v1 = 45
  · refine mz_tsi (tgt := 109) rfl (mz_rg l_v1 u_v1) (by omega) (by omega) (by rw [c7_3]; rfl) rfl ?_
    replace hE := zf_ip hE c7_3
    refine mz_bip rfl bip_m17 ?_
    exact mm_rt rfl rfl (hQ _ (by decide) (by decide) hE)
  replace hE := zf_in hE c7_3
  by_cases c7_4 : v1 = 46
  · refine mz_tsi (tgt := 118) rfl (mz_rg l_v1 u_v1) (by omega) (by omega) (by rw [c7_4]; rfl) rfl ?_
    replace hE := zf_ip hE c7_4
    refine mm_g 1 (pc1 := 119) (lo1 := [some (.ref 81)]) (st1 := [.ref 81]) (H1 := mz_mk g x) rfl ?_
    refine mz_fgR (v := 82) rfl fd_4_12 (by decide) (sc_81 _) (rf_81_0 _ _ _) ?_
    refine mz_ldcS (j := 12) rfl rfl rfl ?_
    refine mz_cv rfl mt_4_57 (by decide) (sc_82 _) rfl (Nat.le_of_ble_eq_true rfl) (by omega) (f_X7_spells (by omega) hx hI (by decide) (fun v7 l_v7 u_v7 hc8 => ⟨_, rfl, ?_⟩))
    show mm_W d mmX4_signOfToken 127 [some (.ref 81)] [.int (Int32.ofInt v7)] (mz_mk g x) Q
    replace hE := zf_t1 hE hc8
    refine mz_if_eq (tgt := 135) rfl rfl (mz_rg l_v7 u_v7) (fun c127_8 => ?_) (fun c127_8 => ?_)
    · skip
      replace hE := zf_ip hE c127_8
      refine mm_g 1 (pc1 := 136) (lo1 := [some (.ref 81)]) (st1 := [.ref 81]) (H1 := mz_mk g x) rfl ?_
      refine mz_fgR (v := 82) rfl fd_4_12 (by decide) (sc_81 _) (rf_81_0 _ _ _) ?_
      refine mz_ldcS (j := 13) rfl rfl rfl ?_
      refine mz_cv rfl mt_4_57 (by decide) (sc_82 _) rfl (Nat.le_of_ble_eq_true rfl) (by omega) (f_X7_spells (by omega) hx hI (by decide) (fun v9 l_v9 u_v9 hc10 => ⟨_, rfl, ?_⟩))
      show mm_W d mmX4_signOfToken 144 [some (.ref 81)] [.int (Int32.ofInt v9)] (mz_mk g x) Q
      replace hE := zf_t1 hE hc10
      refine mz_if_eq (tgt := 152) rfl rfl (mz_rg l_v9 u_v9) (fun c144_10 => ?_) (fun c144_10 => ?_)
      · skip
        replace hE := zf_ip hE c144_10
        refine mm_g 1 (pc1 := 153) (lo1 := [some (.ref 81)]) (st1 := [.int (Int32.ofInt 0)]) (H1 := mz_mk g x) rfl ?_
        exact mm_rt rfl rfl (hQ _ (by decide) (by decide) hE)
      · skip
        replace hE := zf_in hE c144_10
        refine mz_bip rfl bip_m12 ?_
        refine mz_gt (tgt := 153) rfl rfl ?_
        exact mm_rt rfl rfl (hQ _ (by decide) (by decide) hE)
    · skip
      replace hE := zf_in hE c127_8
      refine mz_bip rfl bip_m11 ?_
      refine mz_gt (tgt := 153) rfl rfl ?_
      exact mm_rt rfl rfl (hQ _ (by decide) (by decide) hE)
  replace hE := zf_in hE c7_4
  by_cases c7_5 : v1 = 47
  · refine mz_tsi (tgt := 115) rfl (mz_rg l_v1 u_v1) (by omega) (by omega) (by rw [c7_5]; rfl) rfl ?_
    replace hE := zf_ip hE c7_5
    refine mz_bip rfl bip_m19 ?_
    exact mm_rt rfl rfl (hQ _ (by decide) (by decide) hE)
  replace hE := zf_in hE c7_5
  by_cases c7_6 : v1 = 48
  · refine mz_tsi (tgt := 118) rfl (mz_rg l_v1 u_v1) (by omega) (by omega) (by rw [c7_6]; rfl) rfl ?_
    replace hE := zf_ip hE c7_6
    refine mm_g 1 (pc1 := 119) (lo1 := [some (.ref 81)]) (st1 := [.ref 81]) (H1 := mz_mk g x) rfl ?_
    refine mz_fgR (v := 82) rfl fd_4_12 (by decide) (sc_81 _) (rf_81_0 _ _ _) ?_
    refine mz_ldcS (j := 12) rfl rfl rfl ?_
    refine mz_cv rfl mt_4_57 (by decide) (sc_82 _) rfl (Nat.le_of_ble_eq_true rfl) (by omega) (f_X7_spells (by omega) hx hI (by decide) (fun v11 l_v11 u_v11 hc12 => ⟨_, rfl, ?_⟩))
    show mm_W d mmX4_signOfToken 127 [some (.ref 81)] [.int (Int32.ofInt v11)] (mz_mk g x) Q
    replace hE := zf_t1 hE hc12
    refine mz_if_eq (tgt := 135) rfl rfl (mz_rg l_v11 u_v11) (fun c127_12 => ?_) (fun c127_12 => ?_)
    · skip
      replace hE := zf_ip hE c127_12
      refine mm_g 1 (pc1 := 136) (lo1 := [some (.ref 81)]) (st1 := [.ref 81]) (H1 := mz_mk g x) rfl ?_
      refine mz_fgR (v := 82) rfl fd_4_12 (by decide) (sc_81 _) (rf_81_0 _ _ _) ?_
      refine mz_ldcS (j := 13) rfl rfl rfl ?_
      refine mz_cv rfl mt_4_57 (by decide) (sc_82 _) rfl (Nat.le_of_ble_eq_true rfl) (by omega) (f_X7_spells (by omega) hx hI (by decide) (fun v13 l_v13 u_v13 hc14 => ⟨_, rfl, ?_⟩))
      show mm_W d mmX4_signOfToken 144 [some (.ref 81)] [.int (Int32.ofInt v13)] (mz_mk g x) Q
      replace hE := zf_t1 hE hc14
      refine mz_if_eq (tgt := 152) rfl rfl (mz_rg l_v13 u_v13) (fun c144_14 => ?_) (fun c144_14 => ?_)
      · skip
        replace hE := zf_ip hE c144_14
        refine mm_g 1 (pc1 := 153) (lo1 := [some (.ref 81)]) (st1 := [.int (Int32.ofInt 0)]) (H1 := mz_mk g x) rfl ?_
        exact mm_rt rfl rfl (hQ _ (by decide) (by decide) hE)
      · skip
        replace hE := zf_in hE c144_14
        refine mz_bip rfl bip_m12 ?_
        refine mz_gt (tgt := 153) rfl rfl ?_
        exact mm_rt rfl rfl (hQ _ (by decide) (by decide) hE)
    · skip
      replace hE := zf_in hE c127_12
      refine mz_bip rfl bip_m11 ?_
      refine mz_gt (tgt := 153) rfl rfl ?_
      exact mm_rt rfl rfl (hQ _ (by decide) (by decide) hE)
  replace hE := zf_in hE c7_6
  by_cases c7_7 : v1 = 49
  · refine mz_tsi (tgt := 118) rfl (mz_rg l_v1 u_v1) (by omega) (by omega) (by rw [c7_7]; rfl) rfl ?_
    replace hE := zf_ip hE c7_7
    refine mm_g 1 (pc1 := 119) (lo1 := [some (.ref 81)]) (st1 := [.ref 81]) (H1 := mz_mk g x) rfl ?_
    refine mz_fgR (v := 82) rfl fd_4_12 (by decide) (sc_81 _) (rf_81_0 _ _ _) ?_
    refine mz_ldcS (j := 12) rfl rfl rfl ?_
    refine mz_cv rfl mt_4_57 (by decide) (sc_82 _) rfl (Nat.le_of_ble_eq_true rfl) (by omega) (f_X7_spells (by omega) hx hI (by decide) (fun v15 l_v15 u_v15 hc16 => ⟨_, rfl, ?_⟩))
    show mm_W d mmX4_signOfToken 127 [some (.ref 81)] [.int (Int32.ofInt v15)] (mz_mk g x) Q
    replace hE := zf_t1 hE hc16
    refine mz_if_eq (tgt := 135) rfl rfl (mz_rg l_v15 u_v15) (fun c127_16 => ?_) (fun c127_16 => ?_)
    · skip
      replace hE := zf_ip hE c127_16
      refine mm_g 1 (pc1 := 136) (lo1 := [some (.ref 81)]) (st1 := [.ref 81]) (H1 := mz_mk g x) rfl ?_
      refine mz_fgR (v := 82) rfl fd_4_12 (by decide) (sc_81 _) (rf_81_0 _ _ _) ?_
      refine mz_ldcS (j := 13) rfl rfl rfl ?_
      refine mz_cv rfl mt_4_57 (by decide) (sc_82 _) rfl (Nat.le_of_ble_eq_true rfl) (by omega) (f_X7_spells (by omega) hx hI (by decide) (fun v17 l_v17 u_v17 hc18 => ⟨_, rfl, ?_⟩))
      show mm_W d mmX4_signOfToken 144 [some (.ref 81)] [.int (Int32.ofInt v17)] (mz_mk g x) Q
      replace hE := zf_t1 hE hc18
      refine mz_if_eq (tgt := 152) rfl rfl (mz_rg l_v17 u_v17) (fun c144_18 => ?_) (fun c144_18 => ?_)
      · skip
        replace hE := zf_ip hE c144_18
        refine mm_g 1 (pc1 := 153) (lo1 := [some (.ref 81)]) (st1 := [.int (Int32.ofInt 0)]) (H1 := mz_mk g x) rfl ?_
        exact mm_rt rfl rfl (hQ _ (by decide) (by decide) hE)
      · skip
        replace hE := zf_in hE c144_18
        refine mz_bip rfl bip_m12 ?_
        refine mz_gt (tgt := 153) rfl rfl ?_
        exact mm_rt rfl rfl (hQ _ (by decide) (by decide) hE)
    · skip
      replace hE := zf_in hE c127_16
      refine mz_bip rfl bip_m11 ?_
      refine mz_gt (tgt := 153) rfl rfl ?_
      exact mm_rt rfl rfl (hQ _ (by decide) (by decide) hE)
  replace hE := zf_in hE c7_7
  by_cases c7_8 : v1 = 50
  · refine mz_tsi (tgt := 118) rfl (mz_rg l_v1 u_v1) (by omega) (by omega) (by rw [c7_8]; rfl) rfl ?_
    replace hE := zf_ip hE c7_8
    refine mm_g 1 (pc1 := 119) (lo1 := [some (.ref 81)]) (st1 := [.ref 81]) (H1 := mz_mk g x) rfl ?_
    refine mz_fgR (v := 82) rfl fd_4_12 (by decide) (sc_81 _) (rf_81_0 _ _ _) ?_
    refine mz_ldcS (j := 12) rfl rfl rfl ?_
    refine mz_cv rfl mt_4_57 (by decide) (sc_82 _) rfl (Nat.le_of_ble_eq_true rfl) (by omega) (f_X7_spells (by omega) hx hI (by decide) (fun v19 l_v19 u_v19 hc20 => ⟨_, rfl, ?_⟩))
    show mm_W d mmX4_signOfToken 127 [some (.ref 81)] [.int (Int32.ofInt v19)] (mz_mk g x) Q
    replace hE := zf_t1 hE hc20
    refine mz_if_eq (tgt := 135) rfl rfl (mz_rg l_v19 u_v19) (fun c127_20 => ?_) (fun c127_20 => ?_)
    · skip
      replace hE := zf_ip hE c127_20
      refine mm_g 1 (pc1 := 136) (lo1 := [some (.ref 81)]) (st1 := [.ref 81]) (H1 := mz_mk g x) rfl ?_
      refine mz_fgR (v := 82) rfl fd_4_12 (by decide) (sc_81 _) (rf_81_0 _ _ _) ?_
      refine mz_ldcS (j := 13) rfl rfl rfl ?_
      refine mz_cv rfl mt_4_57 (by decide) (sc_82 _) rfl (Nat.le_of_ble_eq_true rfl) (by omega) (f_X7_spells (by omega) hx hI (by decide) (fun v21 l_v21 u_v21 hc22 => ⟨_, rfl, ?_⟩))
      show mm_W d mmX4_signOfToken 144 [some (.ref 81)] [.int (Int32.ofInt v21)] (mz_mk g x) Q
      replace hE := zf_t1 hE hc22
      refine mz_if_eq (tgt := 152) rfl rfl (mz_rg l_v21 u_v21) (fun c144_22 => ?_) (fun c144_22 => ?_)
      · skip
        replace hE := zf_ip hE c144_22
        refine mm_g 1 (pc1 := 153) (lo1 := [some (.ref 81)]) (st1 := [.int (Int32.ofInt 0)]) (H1 := mz_mk g x) rfl ?_
        exact mm_rt rfl rfl (hQ _ (by decide) (by decide) hE)
      · skip
        replace hE := zf_in hE c144_22
        refine mz_bip rfl bip_m12 ?_
        refine mz_gt (tgt := 153) rfl rfl ?_
        exact mm_rt rfl rfl (hQ _ (by decide) (by decide) hE)
    · skip
      replace hE := zf_in hE c127_20
      refine mz_bip rfl bip_m11 ?_
      refine mz_gt (tgt := 153) rfl rfl ?_
      exact mm_rt rfl rfl (hQ _ (by decide) (by decide) hE)
  replace hE := zf_in hE c7_8
  by_cases c7_9 : v1 = 51
  · refine mz_tsi (tgt := 118) rfl (mz_rg l_v1 u_v1) (by omega) (by omega) (by rw [c7_9]; rfl) rfl ?_
    replace hE := zf_ip hE c7_9
    refine mm_g 1 (pc1 := 119) (lo1 := [some (.ref 81)]) (st1 := [.ref 81]) (H1 := mz_mk g x) rfl ?_
    refine mz_fgR (v := 82) rfl fd_4_12 (by decide) (sc_81 _) (rf_81_0 _ _ _) ?_
    refine mz_ldcS (j := 12) rfl rfl rfl ?_
    refine mz_cv rfl mt_4_57 (by decide) (sc_82 _) rfl (Nat.le_of_ble_eq_true rfl) (by omega) (f_X7_spells (by omega) hx hI (by decide) (fun v23 l_v23 u_v23 hc24 => ⟨_, rfl, ?_⟩))
    show mm_W d mmX4_signOfToken 127 [some (.ref 81)] [.int (Int32.ofInt v23)] (mz_mk g x) Q
    replace hE := zf_t1 hE hc24
    refine mz_if_eq (tgt := 135) rfl rfl (mz_rg l_v23 u_v23) (fun c127_24 => ?_) (fun c127_24 => ?_)
    · skip
      replace hE := zf_ip hE c127_24
      refine mm_g 1 (pc1 := 136) (lo1 := [some (.ref 81)]) (st1 := [.ref 81]) (H1 := mz_mk g x) rfl ?_
      refine mz_fgR (v := 82) rfl fd_4_12 (by decide) (sc_81 _) (rf_81_0 _ _ _) ?_
      refine mz_ldcS (j := 13) rfl rfl rfl ?_
      refine mz_cv rfl mt_4_57 (by decide) (sc_82 _) rfl (Nat.le_of_ble_eq_true rfl) (by omega) (f_X7_spells (by omega) hx hI (by decide) (fun v25 l_v25 u_v25 hc26 => ⟨_, rfl, ?_⟩))
      show mm_W d mmX4_signOfToken 144 [some (.ref 81)] [.int (Int32.ofInt v25)] (mz_mk g x) Q
      replace hE := zf_t1 hE hc26
      refine mz_if_eq (tgt := 152) rfl rfl (mz_rg l_v25 u_v25) (fun c144_26 => ?_) (fun c144_26 => ?_)
      · skip
        replace hE := zf_ip hE c144_26
        refine mm_g 1 (pc1 := 153) (lo1 := [some (.ref 81)]) (st1 := [.int (Int32.ofInt 0)]) (H1 := mz_mk g x) rfl ?_
        exact mm_rt rfl rfl (hQ _ (by decide) (by decide) hE)
      · skip
        replace hE := zf_in hE c144_26
        refine mz_bip rfl bip_m12 ?_
        refine mz_gt (tgt := 153) rfl rfl ?_
        exact mm_rt rfl rfl (hQ _ (by decide) (by decide) hE)
    · skip
      replace hE := zf_in hE c127_24
      refine mz_bip rfl bip_m11 ?_
      refine mz_gt (tgt := 153) rfl rfl ?_
      exact mm_rt rfl rfl (hQ _ (by decide) (by decide) hE)
  replace hE := zf_in hE c7_9
  by_cases c7_10 : v1 = 52
  · refine mz_tsi (tgt := 118) rfl (mz_rg l_v1 u_v1) (by omega) (by omega) (by rw [c7_10]; rfl) rfl ?_
    replace hE := zf_ip hE c7_10
    refine mm_g 1 (pc1 := 119) (lo1 := [some (.ref 81)]) (st1 := [.ref 81]) (H1 := mz_mk g x) rfl ?_
    refine mz_fgR (v := 82) rfl fd_4_12 (by decide) (sc_81 _) (rf_81_0 _ _ _) ?_
    refine mz_ldcS (j := 12) rfl rfl rfl ?_
    refine mz_cv rfl mt_4_57 (by decide) (sc_82 _) rfl (Nat.le_of_ble_eq_true rfl) (by omega) (f_X7_spells (by omega) hx hI (by decide) (fun v27 l_v27 u_v27 hc28 => ⟨_, rfl, ?_⟩))
    show mm_W d mmX4_signOfToken 127 [some (.ref 81)] [.int (Int32.ofInt v27)] (mz_mk g x) Q
    replace hE := zf_t1 hE hc28
    refine mz_if_eq (tgt := 135) rfl rfl (mz_rg l_v27 u_v27) (fun c127_28 => ?_) (fun c127_28 => ?_)
    · skip
      replace hE := zf_ip hE c127_28
      refine mm_g 1 (pc1 := 136) (lo1 := [some (.ref 81)]) (st1 := [.ref 81]) (H1 := mz_mk g x) rfl ?_
      refine mz_fgR (v := 82) rfl fd_4_12 (by decide) (sc_81 _) (rf_81_0 _ _ _) ?_
      refine mz_ldcS (j := 13) rfl rfl rfl ?_
      refine mz_cv rfl mt_4_57 (by decide) (sc_82 _) rfl (Nat.le_of_ble_eq_true rfl) (by omega) (f_X7_spells (by omega) hx hI (by decide) (fun v29 l_v29 u_v29 hc30 => ⟨_, rfl, ?_⟩))
      show mm_W d mmX4_signOfToken 144 [some (.ref 81)] [.int (Int32.ofInt v29)] (mz_mk g x) Q
      replace hE := zf_t1 hE hc30
      refine mz_if_eq (tgt := 152) rfl rfl (mz_rg l_v29 u_v29) (fun c144_30 => ?_) (fun c144_30 => ?_)
      · skip
        replace hE := zf_ip hE c144_30
        refine mm_g 1 (pc1 := 153) (lo1 := [some (.ref 81)]) (st1 := [.int (Int32.ofInt 0)]) (H1 := mz_mk g x) rfl ?_
        exact mm_rt rfl rfl (hQ _ (by decide) (by decide) hE)
      · skip
        replace hE := zf_in hE c144_30
        refine mz_bip rfl bip_m12 ?_
        refine mz_gt (tgt := 153) rfl rfl ?_
        exact mm_rt rfl rfl (hQ _ (by decide) (by decide) hE)
    · skip
      replace hE := zf_in hE c127_28
      refine mz_bip rfl bip_m11 ?_
      refine mz_gt (tgt := 153) rfl rfl ?_
      exact mm_rt rfl rfl (hQ _ (by decide) (by decide) hE)
  replace hE := zf_in hE c7_10
  by_cases c7_11 : v1 = 53
  · refine mz_tsi (tgt := 118) rfl (mz_rg l_v1 u_v1) (by omega) (by omega) (by rw [c7_11]; rfl) rfl ?_
    replace hE := zf_ip hE c7_11
    refine mm_g 1 (pc1 := 119) (lo1 := [some (.ref 81)]) (st1 := [.ref 81]) (H1 := mz_mk g x) rfl ?_
    refine mz_fgR (v := 82) rfl fd_4_12 (by decide) (sc_81 _) (rf_81_0 _ _ _) ?_
    refine mz_ldcS (j := 12) rfl rfl rfl ?_
    refine mz_cv rfl mt_4_57 (by decide) (sc_82 _) rfl (Nat.le_of_ble_eq_true rfl) (by omega) (f_X7_spells (by omega) hx hI (by decide) (fun v31 l_v31 u_v31 hc32 => ⟨_, rfl, ?_⟩))
    show mm_W d mmX4_signOfToken 127 [some (.ref 81)] [.int (Int32.ofInt v31)] (mz_mk g x) Q
    replace hE := zf_t1 hE hc32
    refine mz_if_eq (tgt := 135) rfl rfl (mz_rg l_v31 u_v31) (fun c127_32 => ?_) (fun c127_32 => ?_)
    · skip
      replace hE := zf_ip hE c127_32
      refine mm_g 1 (pc1 := 136) (lo1 := [some (.ref 81)]) (st1 := [.ref 81]) (H1 := mz_mk g x) rfl ?_
      refine mz_fgR (v := 82) rfl fd_4_12 (by decide) (sc_81 _) (rf_81_0 _ _ _) ?_
      refine mz_ldcS (j := 13) rfl rfl rfl ?_
      refine mz_cv rfl mt_4_57 (by decide) (sc_82 _) rfl (Nat.le_of_ble_eq_true rfl) (by omega) (f_X7_spells (by omega) hx hI (by decide) (fun v33 l_v33 u_v33 hc34 => ⟨_, rfl, ?_⟩))
      show mm_W d mmX4_signOfToken 144 [some (.ref 81)] [.int (Int32.ofInt v33)] (mz_mk g x) Q
      replace hE := zf_t1 hE hc34
      refine mz_if_eq (tgt := 152) rfl rfl (mz_rg l_v33 u_v33) (fun c144_34 => ?_) (fun c144_34 => ?_)
      · skip
        replace hE := zf_ip hE c144_34
        refine mm_g 1 (pc1 := 153) (lo1 := [some (.ref 81)]) (st1 := [.int (Int32.ofInt 0)]) (H1 := mz_mk g x) rfl ?_
        exact mm_rt rfl rfl (hQ _ (by decide) (by decide) hE)
      · skip
        replace hE := zf_in hE c144_34
        refine mz_bip rfl bip_m12 ?_
        refine mz_gt (tgt := 153) rfl rfl ?_
        exact mm_rt rfl rfl (hQ _ (by decide) (by decide) hE)
    · skip
      replace hE := zf_in hE c127_32
      refine mz_bip rfl bip_m11 ?_
      refine mz_gt (tgt := 153) rfl rfl ?_
      exact mm_rt rfl rfl (hQ _ (by decide) (by decide) hE)
  replace hE := zf_in hE c7_11
  by_cases c7_12 : v1 = 54
  · refine mz_tsi (tgt := 118) rfl (mz_rg l_v1 u_v1) (by omega) (by omega) (by rw [c7_12]; rfl) rfl ?_
    replace hE := zf_ip hE c7_12
    refine mm_g 1 (pc1 := 119) (lo1 := [some (.ref 81)]) (st1 := [.ref 81]) (H1 := mz_mk g x) rfl ?_
    refine mz_fgR (v := 82) rfl fd_4_12 (by decide) (sc_81 _) (rf_81_0 _ _ _) ?_
    refine mz_ldcS (j := 12) rfl rfl rfl ?_
    refine mz_cv rfl mt_4_57 (by decide) (sc_82 _) rfl (Nat.le_of_ble_eq_true rfl) (by omega) (f_X7_spells (by omega) hx hI (by decide) (fun v35 l_v35 u_v35 hc36 => ⟨_, rfl, ?_⟩))
    show mm_W d mmX4_signOfToken 127 [some (.ref 81)] [.int (Int32.ofInt v35)] (mz_mk g x) Q
    replace hE := zf_t1 hE hc36
    refine mz_if_eq (tgt := 135) rfl rfl (mz_rg l_v35 u_v35) (fun c127_36 => ?_) (fun c127_36 => ?_)
    · skip
      replace hE := zf_ip hE c127_36
      refine mm_g 1 (pc1 := 136) (lo1 := [some (.ref 81)]) (st1 := [.ref 81]) (H1 := mz_mk g x) rfl ?_
      refine mz_fgR (v := 82) rfl fd_4_12 (by decide) (sc_81 _) (rf_81_0 _ _ _) ?_
      refine mz_ldcS (j := 13) rfl rfl rfl ?_
      refine mz_cv rfl mt_4_57 (by decide) (sc_82 _) rfl (Nat.le_of_ble_eq_true rfl) (by omega) (f_X7_spells (by omega) hx hI (by decide) (fun v37 l_v37 u_v37 hc38 => ⟨_, rfl, ?_⟩))
      show mm_W d mmX4_signOfToken 144 [some (.ref 81)] [.int (Int32.ofInt v37)] (mz_mk g x) Q
      replace hE := zf_t1 hE hc38
      refine mz_if_eq (tgt := 152) rfl rfl (mz_rg l_v37 u_v37) (fun c144_38 => ?_) (fun c144_38 => ?_)
      · skip
        replace hE := zf_ip hE c144_38
        refine mm_g 1 (pc1 := 153) (lo1 := [some (.ref 81)]) (st1 := [.int (Int32.ofInt 0)]) (H1 := mz_mk g x) rfl ?_
        exact mm_rt rfl rfl (hQ _ (by decide) (by decide) hE)
      · skip
        replace hE := zf_in hE c144_38
        refine mz_bip rfl bip_m12 ?_
        refine mz_gt (tgt := 153) rfl rfl ?_
        exact mm_rt rfl rfl (hQ _ (by decide) (by decide) hE)
    · skip
      replace hE := zf_in hE c127_36
      refine mz_bip rfl bip_m11 ?_
      refine mz_gt (tgt := 153) rfl rfl ?_
      exact mm_rt rfl rfl (hQ _ (by decide) (by decide) hE)
  replace hE := zf_in hE c7_12
  by_cases c7_13 : v1 = 55
  · refine mz_tsi (tgt := 118) rfl (mz_rg l_v1 u_v1) (by omega) (by omega) (by rw [c7_13]; rfl) rfl ?_
    replace hE := zf_ip hE c7_13
    refine mm_g 1 (pc1 := 119) (lo1 := [some (.ref 81)]) (st1 := [.ref 81]) (H1 := mz_mk g x) rfl ?_
    refine mz_fgR (v := 82) rfl fd_4_12 (by decide) (sc_81 _) (rf_81_0 _ _ _) ?_
    refine mz_ldcS (j := 12) rfl rfl rfl ?_
    refine mz_cv rfl mt_4_57 (by decide) (sc_82 _) rfl (Nat.le_of_ble_eq_true rfl) (by omega) (f_X7_spells (by omega) hx hI (by decide) (fun v39 l_v39 u_v39 hc40 => ⟨_, rfl, ?_⟩))
    show mm_W d mmX4_signOfToken 127 [some (.ref 81)] [.int (Int32.ofInt v39)] (mz_mk g x) Q
    replace hE := zf_t1 hE hc40
    refine mz_if_eq (tgt := 135) rfl rfl (mz_rg l_v39 u_v39) (fun c127_40 => ?_) (fun c127_40 => ?_)
    · skip
      replace hE := zf_ip hE c127_40
      refine mm_g 1 (pc1 := 136) (lo1 := [some (.ref 81)]) (st1 := [.ref 81]) (H1 := mz_mk g x) rfl ?_
      refine mz_fgR (v := 82) rfl fd_4_12 (by decide) (sc_81 _) (rf_81_0 _ _ _) ?_
      refine mz_ldcS (j := 13) rfl rfl rfl ?_
      refine mz_cv rfl mt_4_57 (by decide) (sc_82 _) rfl (Nat.le_of_ble_eq_true rfl) (by omega) (f_X7_spells (by omega) hx hI (by decide) (fun v41 l_v41 u_v41 hc42 => ⟨_, rfl, ?_⟩))
      show mm_W d mmX4_signOfToken 144 [some (.ref 81)] [.int (Int32.ofInt v41)] (mz_mk g x) Q
      replace hE := zf_t1 hE hc42
      refine mz_if_eq (tgt := 152) rfl rfl (mz_rg l_v41 u_v41) (fun c144_42 => ?_) (fun c144_42 => ?_)
      · skip
        replace hE := zf_ip hE c144_42
        refine mm_g 1 (pc1 := 153) (lo1 := [some (.ref 81)]) (st1 := [.int (Int32.ofInt 0)]) (H1 := mz_mk g x) rfl ?_
        exact mm_rt rfl rfl (hQ _ (by decide) (by decide) hE)
      · skip
        replace hE := zf_in hE c144_42
        refine mz_bip rfl bip_m12 ?_
        refine mz_gt (tgt := 153) rfl rfl ?_
        exact mm_rt rfl rfl (hQ _ (by decide) (by decide) hE)
    · skip
      replace hE := zf_in hE c127_40
      refine mz_bip rfl bip_m11 ?_
      refine mz_gt (tgt := 153) rfl rfl ?_
      exact mm_rt rfl rfl (hQ _ (by decide) (by decide) hE)
  replace hE := zf_in hE c7_13
  by_cases c7_14 : v1 = 56
  · refine mz_tsi (tgt := 118) rfl (mz_rg l_v1 u_v1) (by omega) (by omega) (by rw [c7_14]; rfl) rfl ?_
    replace hE := zf_ip hE c7_14
    refine mm_g 1 (pc1 := 119) (lo1 := [some (.ref 81)]) (st1 := [.ref 81]) (H1 := mz_mk g x) rfl ?_
    refine mz_fgR (v := 82) rfl fd_4_12 (by decide) (sc_81 _) (rf_81_0 _ _ _) ?_
    refine mz_ldcS (j := 12) rfl rfl rfl ?_
    refine mz_cv rfl mt_4_57 (by decide) (sc_82 _) rfl (Nat.le_of_ble_eq_true rfl) (by omega) (f_X7_spells (by omega) hx hI (by decide) (fun v43 l_v43 u_v43 hc44 => ⟨_, rfl, ?_⟩))
    show mm_W d mmX4_signOfToken 127 [some (.ref 81)] [.int (Int32.ofInt v43)] (mz_mk g x) Q
    replace hE := zf_t1 hE hc44
    refine mz_if_eq (tgt := 135) rfl rfl (mz_rg l_v43 u_v43) (fun c127_44 => ?_) (fun c127_44 => ?_)
    · skip
      replace hE := zf_ip hE c127_44
      refine mm_g 1 (pc1 := 136) (lo1 := [some (.ref 81)]) (st1 := [.ref 81]) (H1 := mz_mk g x) rfl ?_
      refine mz_fgR (v := 82) rfl fd_4_12 (by decide) (sc_81 _) (rf_81_0 _ _ _) ?_
      refine mz_ldcS (j := 13) rfl rfl rfl ?_
      refine mz_cv rfl mt_4_57 (by decide) (sc_82 _) rfl (Nat.le_of_ble_eq_true rfl) (by omega) (f_X7_spells (by omega) hx hI (by decide) (fun v45 l_v45 u_v45 hc46 => ⟨_, rfl, ?_⟩))
      show mm_W d mmX4_signOfToken 144 [some (.ref 81)] [.int (Int32.ofInt v45)] (mz_mk g x) Q
      replace hE := zf_t1 hE hc46
      refine mz_if_eq (tgt := 152) rfl rfl (mz_rg l_v45 u_v45) (fun c144_46 => ?_) (fun c144_46 => ?_)
      · skip
        replace hE := zf_ip hE c144_46
        refine mm_g 1 (pc1 := 153) (lo1 := [some (.ref 81)]) (st1 := [.int (Int32.ofInt 0)]) (H1 := mz_mk g x) rfl ?_
        exact mm_rt rfl rfl (hQ _ (by decide) (by decide) hE)
      · skip
        replace hE := zf_in hE c144_46
        refine mz_bip rfl bip_m12 ?_
        refine mz_gt (tgt := 153) rfl rfl ?_
        exact mm_rt rfl rfl (hQ _ (by decide) (by decide) hE)
    · skip
      replace hE := zf_in hE c127_44
      refine mz_bip rfl bip_m11 ?_
      refine mz_gt (tgt := 153) rfl rfl ?_
      exact mm_rt rfl rfl (hQ _ (by decide) (by decide) hE)
  replace hE := zf_in hE c7_14
  by_cases c7_15 : v1 = 57
  · refine mz_tsi (tgt := 118) rfl (mz_rg l_v1 u_v1) (by omega) (by omega) (by rw [c7_15]; rfl) rfl ?_
    replace hE := zf_ip hE c7_15
    refine mm_g 1 (pc1 := 119) (lo1 := [some (.ref 81)]) (st1 := [.ref 81]) (H1 := mz_mk g x) rfl ?_
    refine mz_fgR (v := 82) rfl fd_4_12 (by decide) (sc_81 _) (rf_81_0 _ _ _) ?_
    refine mz_ldcS (j := 12) rfl rfl rfl ?_
    refine mz_cv rfl mt_4_57 (by decide) (sc_82 _) rfl (Nat.le_of_ble_eq_true rfl) (by omega) (f_X7_spells (by omega) hx hI (by decide) (fun v47 l_v47 u_v47 hc48 => ⟨_, rfl, ?_⟩))
    show mm_W d mmX4_signOfToken 127 [some (.ref 81)] [.int (Int32.ofInt v47)] (mz_mk g x) Q
    replace hE := zf_t1 hE hc48
    refine mz_if_eq (tgt := 135) rfl rfl (mz_rg l_v47 u_v47) (fun c127_48 => ?_) (fun c127_48 => ?_)
    · skip
      replace hE := zf_ip hE c127_48
      refine mm_g 1 (pc1 := 136) (lo1 := [some (.ref 81)]) (st1 := [.ref 81]) (H1 := mz_mk g x) rfl ?_
      refine mz_fgR (v := 82) rfl fd_4_12 (by decide) (sc_81 _) (rf_81_0 _ _ _) ?_
      refine mz_ldcS (j := 13) rfl rfl rfl ?_
      refine mz_cv rfl mt_4_57 (by decide) (sc_82 _) rfl (Nat.le_of_ble_eq_true rfl) (by omega) (f_X7_spells (by omega) hx hI (by decide) (fun v49 l_v49 u_v49 hc50 => ⟨_, rfl, ?_⟩))
      show mm_W d mmX4_signOfToken 144 [some (.ref 81)] [.int (Int32.ofInt v49)] (mz_mk g x) Q
      replace hE := zf_t1 hE hc50
      refine mz_if_eq (tgt := 152) rfl rfl (mz_rg l_v49 u_v49) (fun c144_50 => ?_) (fun c144_50 => ?_)
      · skip
        replace hE := zf_ip hE c144_50
        refine mm_g 1 (pc1 := 153) (lo1 := [some (.ref 81)]) (st1 := [.int (Int32.ofInt 0)]) (H1 := mz_mk g x) rfl ?_
        exact mm_rt rfl rfl (hQ _ (by decide) (by decide) hE)
      · skip
        replace hE := zf_in hE c144_50
        refine mz_bip rfl bip_m12 ?_
        refine mz_gt (tgt := 153) rfl rfl ?_
        exact mm_rt rfl rfl (hQ _ (by decide) (by decide) hE)
    · skip
      replace hE := zf_in hE c127_48
      refine mz_bip rfl bip_m11 ?_
      refine mz_gt (tgt := 153) rfl rfl ?_
      exact mm_rt rfl rfl (hQ _ (by decide) (by decide) hE)
  replace hE := zf_in hE c7_15
  by_cases c7_16 : v1 = 58
  · refine mz_tsi (tgt := 118) rfl (mz_rg l_v1 u_v1) (by omega) (by omega) (by rw [c7_16]; rfl) rfl ?_
    replace hE := zf_ip hE c7_16
    refine mm_g 1 (pc1 := 119) (lo1 := [some (.ref 81)]) (st1 := [.ref 81]) (H1 := mz_mk g x) rfl ?_
    refine mz_fgR (v := 82) rfl fd_4_12 (by decide) (sc_81 _) (rf_81_0 _ _ _) ?_
    refine mz_ldcS (j := 12) rfl rfl rfl ?_
    refine mz_cv rfl mt_4_57 (by decide) (sc_82 _) rfl (Nat.le_of_ble_eq_true rfl) (by omega) (f_X7_spells (by omega) hx hI (by decide) (fun v51 l_v51 u_v51 hc52 => ⟨_, rfl, ?_⟩))
    show mm_W d mmX4_signOfToken 127 [some (.ref 81)] [.int (Int32.ofInt v51)] (mz_mk g x) Q
    replace hE := zf_t1 hE hc52
    refine mz_if_eq (tgt := 135) rfl rfl (mz_rg l_v51 u_v51) (fun c127_52 => ?_) (fun c127_52 => ?_)
    · skip
      replace hE := zf_ip hE c127_52
      refine mm_g 1 (pc1 := 136) (lo1 := [some (.ref 81)]) (st1 := [.ref 81]) (H1 := mz_mk g x) rfl ?_
      refine mz_fgR (v := 82) rfl fd_4_12 (by decide) (sc_81 _) (rf_81_0 _ _ _) ?_
      refine mz_ldcS (j := 13) rfl rfl rfl ?_
      refine mz_cv rfl mt_4_57 (by decide) (sc_82 _) rfl (Nat.le_of_ble_eq_true rfl) (by omega) (f_X7_spells (by omega) hx hI (by decide) (fun v53 l_v53 u_v53 hc54 => ⟨_, rfl, ?_⟩))
      show mm_W d mmX4_signOfToken 144 [some (.ref 81)] [.int (Int32.ofInt v53)] (mz_mk g x) Q
      replace hE := zf_t1 hE hc54
      refine mz_if_eq (tgt := 152) rfl rfl (mz_rg l_v53 u_v53) (fun c144_54 => ?_) (fun c144_54 => ?_)
      · skip
        replace hE := zf_ip hE c144_54
        refine mm_g 1 (pc1 := 153) (lo1 := [some (.ref 81)]) (st1 := [.int (Int32.ofInt 0)]) (H1 := mz_mk g x) rfl ?_
        exact mm_rt rfl rfl (hQ _ (by decide) (by decide) hE)
      · skip
        replace hE := zf_in hE c144_54
        refine mz_bip rfl bip_m12 ?_
        refine mz_gt (tgt := 153) rfl rfl ?_
        exact mm_rt rfl rfl (hQ _ (by decide) (by decide) hE)
    · skip
      replace hE := zf_in hE c127_52
      refine mz_bip rfl bip_m11 ?_
      refine mz_gt (tgt := 153) rfl rfl ?_
      exact mm_rt rfl rfl (hQ _ (by decide) (by decide) hE)
  replace hE := zf_in hE c7_16
  by_cases c7_17 : v1 = 59
  · refine mz_tsi (tgt := 118) rfl (mz_rg l_v1 u_v1) (by omega) (by omega) (by rw [c7_17]; rfl) rfl ?_
    replace hE := zf_ip hE c7_17
    refine mm_g 1 (pc1 := 119) (lo1 := [some (.ref 81)]) (st1 := [.ref 81]) (H1 := mz_mk g x) rfl ?_
    refine mz_fgR (v := 82) rfl fd_4_12 (by decide) (sc_81 _) (rf_81_0 _ _ _) ?_
    refine mz_ldcS (j := 12) rfl rfl rfl ?_
    refine mz_cv rfl mt_4_57 (by decide) (sc_82 _) rfl (Nat.le_of_ble_eq_true rfl) (by omega) (f_X7_spells (by omega) hx hI (by decide) (fun v55 l_v55 u_v55 hc56 => ⟨_, rfl, ?_⟩))
    show mm_W d mmX4_signOfToken 127 [some (.ref 81)] [.int (Int32.ofInt v55)] (mz_mk g x) Q
    replace hE := zf_t1 hE hc56
    refine mz_if_eq (tgt := 135) rfl rfl (mz_rg l_v55 u_v55) (fun c127_56 => ?_) (fun c127_56 => ?_)
    · skip
      replace hE := zf_ip hE c127_56
      refine mm_g 1 (pc1 := 136) (lo1 := [some (.ref 81)]) (st1 := [.ref 81]) (H1 := mz_mk g x) rfl ?_
      refine mz_fgR (v := 82) rfl fd_4_12 (by decide) (sc_81 _) (rf_81_0 _ _ _) ?_
      refine mz_ldcS (j := 13) rfl rfl rfl ?_
      refine mz_cv rfl mt_4_57 (by decide) (sc_82 _) rfl (Nat.le_of_ble_eq_true rfl) (by omega) (f_X7_spells (by omega) hx hI (by decide) (fun v57 l_v57 u_v57 hc58 => ⟨_, rfl, ?_⟩))
      show mm_W d mmX4_signOfToken 144 [some (.ref 81)] [.int (Int32.ofInt v57)] (mz_mk g x) Q
      replace hE := zf_t1 hE hc58
      refine mz_if_eq (tgt := 152) rfl rfl (mz_rg l_v57 u_v57) (fun c144_58 => ?_) (fun c144_58 => ?_)
      · skip
        replace hE := zf_ip hE c144_58
        refine mm_g 1 (pc1 := 153) (lo1 := [some (.ref 81)]) (st1 := [.int (Int32.ofInt 0)]) (H1 := mz_mk g x) rfl ?_
        exact mm_rt rfl rfl (hQ _ (by decide) (by decide) hE)
      · skip
        replace hE := zf_in hE c144_58
        refine mz_bip rfl bip_m12 ?_
        refine mz_gt (tgt := 153) rfl rfl ?_
        exact mm_rt rfl rfl (hQ _ (by decide) (by decide) hE)
    · skip
      replace hE := zf_in hE c127_56
      refine mz_bip rfl bip_m11 ?_
      refine mz_gt (tgt := 153) rfl rfl ?_
      exact mm_rt rfl rfl (hQ _ (by decide) (by decide) hE)
  replace hE := zf_in hE c7_17
  by_cases c7_18 : v1 = 60
  · refine mz_tsi (tgt := 100) rfl (mz_rg l_v1 u_v1) (by omega) (by omega) (by rw [c7_18]; rfl) rfl ?_
    replace hE := zf_ip hE c7_18
    refine mz_bip rfl bip_m14 ?_
    exact mm_rt rfl rfl (hQ _ (by decide) (by decide) hE)
  replace hE := zf_in hE c7_18
  by_cases c7_19 : v1 = 61
  · refine mz_tsi (tgt := 103) rfl (mz_rg l_v1 u_v1) (by omega) (by omega) (by rw [c7_19]; rfl) rfl ?_
    replace hE := zf_ip hE c7_19
    refine mz_bip rfl bip_m15 ?_
    exact mm_rt rfl rfl (hQ _ (by decide) (by decide) hE)
  replace hE := zf_in hE c7_19
  refine mz_tso (tgt := 118) rfl (mz_rg l_v1 u_v1) (by omega) rfl ?_
  refine mm_g 1 (pc1 := 119) (lo1 := [some (.ref 81)]) (st1 := [.ref 81]) (H1 := mz_mk g x) rfl ?_
  refine mz_fgR (v := 82) rfl fd_4_12 (by decide) (sc_81 _) (rf_81_0 _ _ _) ?_
  refine mz_ldcS (j := 12) rfl rfl rfl ?_
  refine mz_cv rfl mt_4_57 (by decide) (sc_82 _) rfl (Nat.le_of_ble_eq_true rfl) (by omega) (f_X7_spells (by omega) hx hI (by decide) (fun v59 l_v59 u_v59 hc60 => ⟨_, rfl, ?_⟩))
  show mm_W d mmX4_signOfToken 127 [some (.ref 81)] [.int (Int32.ofInt v59)] (mz_mk g x) Q
  replace hE := zf_t1 hE hc60
  refine mz_if_eq (tgt := 135) rfl rfl (mz_rg l_v59 u_v59) (fun c127_60 => ?_) (fun c127_60 => ?_)
  · skip
    replace hE := zf_ip hE c127_60
    refine mm_g 1 (pc1 := 136) (lo1 := [some (.ref 81)]) (st1 := [.ref 81]) (H1 := mz_mk g x) rfl ?_
    refine mz_fgR (v := 82) rfl fd_4_12 (by decide) (sc_81 _) (rf_81_0 _ _ _) ?_
    refine mz_ldcS (j := 13) rfl rfl rfl ?_
    refine mz_cv rfl mt_4_57 (by decide) (sc_82 _) rfl (Nat.le_of_ble_eq_true rfl) (by omega) (f_X7_spells (by omega) hx hI (by decide) (fun v61 l_v61 u_v61 hc62 => ⟨_, rfl, ?_⟩))
    show mm_W d mmX4_signOfToken 144 [some (.ref 81)] [.int (Int32.ofInt v61)] (mz_mk g x) Q
    replace hE := zf_t1 hE hc62
    refine mz_if_eq (tgt := 152) rfl rfl (mz_rg l_v61 u_v61) (fun c144_62 => ?_) (fun c144_62 => ?_)
    · skip
      replace hE := zf_ip hE c144_62
      refine mm_g 1 (pc1 := 153) (lo1 := [some (.ref 81)]) (st1 := [.int (Int32.ofInt 0)]) (H1 := mz_mk g x) rfl ?_
      exact mm_rt rfl rfl (hQ _ (by decide) (by decide) hE)
    · skip
      replace hE := zf_in hE c144_62
      refine mz_bip rfl bip_m12 ?_
      refine mz_gt (tgt := 153) rfl rfl ?_
      exact mm_rt rfl rfl (hQ _ (by decide) (by decide) hE)
  · skip
    replace hE := zf_in hE c127_60
    refine mz_bip rfl bip_m11 ?_
    refine mz_gt (tgt := 153) rfl rfl ?_
    exact mm_rt rfl rfl (hQ _ (by decide) (by decide) hE)
def fw_X4_readSign (x : mm_X) (q1 : Nat) : Nat → Nat → Prop := fun k j => k = (q1 + 1) ∨ k = q1 ∨ (k = 81 ∧ j = 4) ∨ k = 84 ∨ (k = 81 ∧ j = 7) ∨ (k = 81 ∧ j = 8) ∨ (k = 81 ∧ j = 6) ∨ (k = 82 ∧ j = 3) ∨ (k = 82 ∧ j = 5) ∨ (k = 82 ∧ j = 6) ∨ (k = 82 ∧ j = 4) ∨ (k = 81 ∧ j = 1) ∨ (k = 81 ∧ j = 2) ∨ (k = 81 ∧ j = 5)
theorem f_X4_readSign {d : Nat} (hd : 7 ≤ d) {x : mm_X} (hx : mk_x x) {g : mz_G} (hI : mz_inv g) {q1 : Nat} (h_q1 : kd_rule q1) {Q : (Option Value ⊕ Nat) → mm_H → Prop} (hQ : ∀ (r : Int) (g1 : mz_G), mz_inv g1 → mz_fr (fw_X4_readSign x q1) g g1 → 0 ≤ r → r ≤ 1 → zf_E (zF_X4_readSign q1 g) ((r, g1)) → Q (.inl (some (.int (Int32.ofInt r)))) (mz_mk g1 x)) : mm_C d 50 [.ref 81, .ref q1] (mz_mk g x) Q := by
  have kn_q1 := kn_rule h_q1
  refine ⟨mmX4_readSign, [some (.ref 81), some (.ref q1), none, none], rfl, rfl, ?_⟩
  have hE : zf_E (zF_X4_readSign q1 g) (zF_X4_readSign q1 g) := zf_rf
  refine mm_g 1 (pc1 := 1) (lo1 := [some (.ref 81), some (.ref q1), none, none]) (st1 := [.ref 81]) (H1 := mz_mk g x) rfl ?_
  refine mz_fgR (v := 82) rfl fd_4_12 (by decide) (sc_81 _) (rf_81_0 _ _ _) ?_
  refine mz_cv rfl mt_4_48 (by decide) (sc_82 _) rfl (Nat.le_of_ble_eq_true rfl) (by omega) (f_X7_kind (by omega) hx hI (fun v1 l_v1 u_v1 hc2 => ⟨_, rfl, ?_⟩))
  show mm_W d mmX4_readSign 7 [some (.ref 81), some (.ref q1), none, none] [.int (Int32.ofInt v1)] (mz_mk g x) Q
  replace hE := zf_t1 hE hc2
  refine mz_bip rfl bip_41 ?_
  refine mz_ic_ne (tgt := 54) rfl rfl (mz_rg l_v1 u_v1) ⟨by decide, by decide⟩ (fun c9_2 => ?_) (fun c9_2 => ?_)
  · skip
    replace hE := zf_in hE c9_2
    refine mm_g 1 (pc1 := 55) (lo1 := [some (.ref 81), some (.ref q1), none, none]) (st1 := [.ref 81]) (H1 := mz_mk g x) rfl ?_
    refine mz_cv rfl mt_4_185 (by decide) (sc_81 _) rfl (Nat.le_of_ble_eq_true rfl) (by omega) (f_X4_signOfToken (by omega) hx hI (fun v3 l_v3 u_v3 hc4 => ⟨_, rfl, ?_⟩))
    show mm_W d mmX4_readSign 58 [some (.ref 81), some (.ref q1), none, none] [.int (Int32.ofInt v3)] (mz_mk g x) Q
    replace hE := zf_t1 hE hc4
    refine mm_g 2 (pc1 := 60) (lo1 := [some (.ref 81), some (.ref q1), some (.int (Int32.ofInt v3)), none]) (st1 := [.int (Int32.ofInt v3)]) (H1 := mz_mk g x) rfl ?_
    refine mz_cs rfl mt_4_188 (by decide) rfl (Nat.le_of_ble_eq_true rfl) (by omega) (f_X4_rankOf (by omega) hx hI (by omega) (by omega) (fun v5 l_v5 u_v5 hc6 => ⟨_, rfl, ?_⟩))
    show mm_W d mmX4_readSign 63 [some (.ref 81), some (.ref q1), some (.int (Int32.ofInt v3)), none] [.int (Int32.ofInt v5)] (mz_mk g x) Q
    replace hE := zf_t1 hE hc6
    refine mm_g 2 (pc1 := 65) (lo1 := [some (.ref 81), some (.ref q1), some (.int (Int32.ofInt v3)), some (.int (Int32.ofInt v5))]) (st1 := [.int (Int32.ofInt v5)]) (H1 := mz_mk g x) rfl ?_
    refine mz_if_ne (tgt := 74) rfl rfl (mz_rg l_v5 u_v5) (fun c65_6 => ?_) (fun c65_6 => ?_)
    · skip
      replace hE := zf_in hE c65_6
      refine mm_g 4 (pc1 := 78) (lo1 := [some (.ref 81), some (.ref q1), some (.int (Int32.ofInt v3)), some (.int (Int32.ofInt v5))]) (st1 := [.int (Int32.ofInt 4), .int (Int32.ofInt v5), .ref q1, .ref 81]) (H1 := mz_mk g x) rfl ?_
      refine mz_ic_ne (tgt := 87) rfl rfl (mz_rg l_v5 u_v5) ⟨by decide, by decide⟩ (fun c78_6 => ?_) (fun c78_6 => ?_)
      · skip
        replace hE := zf_in hE c78_6
        refine mm_g 1 (pc1 := 88) (lo1 := [some (.ref 81), some (.ref q1), some (.int (Int32.ofInt v3)), some (.int (Int32.ofInt v5))]) (st1 := [.int (Int32.ofInt v5), .ref q1, .ref 81]) (H1 := mz_mk g x) rfl ?_
        refine mz_cv rfl mt_4_170 (by decide) (sc_81 _) rfl (Nat.le_of_ble_eq_true rfl) (by omega) (f_X4_closeSigns (by omega) hx hI h_q1 (by omega) (by omega) (fun g7 hIg7 hfg7 hc8 => ⟨_, rfl, ?_⟩))
        show mm_W d mmX4_readSign 91 [some (.ref 81), some (.ref q1), some (.int (Int32.ofInt v3)), some (.int (Int32.ofInt v5))] [] (mz_mk g7 x) Q
        replace hE := zf_t1 hE hc8
        refine mm_g 2 (pc1 := 93) (lo1 := [some (.ref 81), some (.ref q1), some (.int (Int32.ofInt v3)), some (.int (Int32.ofInt v5))]) (st1 := [.int (Int32.ofInt 4), .int (Int32.ofInt v5)]) (H1 := mz_mk g7 x) rfl ?_
        refine mz_ic_ne (tgt := 113) rfl rfl (mz_rg l_v5 u_v5) ⟨by decide, by decide⟩ (fun c93_8 => ?_) (fun c93_8 => ?_)
        · skip
          replace hE := zf_in hE c93_8
          refine mm_g 2 (pc1 := 115) (lo1 := [some (.ref 81), some (.ref q1), some (.int (Int32.ofInt v3)), some (.int (Int32.ofInt v5))]) (st1 := [.int (Int32.ofInt v3), .ref 81]) (H1 := mz_mk g7 x) rfl ?_
          refine mz_cv rfl mt_4_174 (by decide) (sc_81 _) rfl (Nat.le_of_ble_eq_true rfl) (by omega) (f_X4_openSign (by omega) hx hIg7 (by omega) (by omega) (fun g9 hIg9 hfg9 hc10 => ⟨_, rfl, ?_⟩))
          show mm_W d mmX4_readSign 118 [some (.ref 81), some (.ref q1), some (.int (Int32.ofInt v3)), some (.int (Int32.ofInt v5))] [] (mz_mk g9 x) Q
          replace hE := zf_t1 hE hc10
          refine mm_g 2 (pc1 := 120) (lo1 := [some (.ref 81), some (.ref q1), some (.int (Int32.ofInt v3)), some (.int (Int32.ofInt v5))]) (st1 := [.int (Int32.ofInt 1), .ref 81]) (H1 := mz_mk g9 x) rfl ?_
          refine mz_pZ rfl fd_4_38 (sc_81 _) (by decide) hIg9 bd_81_7 (by omega) (by omega) (fun g11 hIg11 hug11 => ?_)
          replace hE := zf_tr hE (zf_lg hug11)
          refine mm_g 3 (pc1 := 126) (lo1 := [some (.ref 81), some (.ref q1), some (.int (Int32.ofInt v3)), some (.int (Int32.ofInt v5))]) (st1 := [.int (Int32.ofInt 2), .int (Int32.ofInt v5), .ref 81]) (H1 := mz_mk g11 x) rfl ?_
          refine mz_ic_gt (tgt := 133) rfl rfl (mz_rg l_v5 u_v5) ⟨by decide, by decide⟩ (fun c126_11 => ?_) (fun c126_11 => ?_)
          · skip
            replace hE := zf_ip hE c126_11
            refine mm_g 1 (pc1 := 134) (lo1 := [some (.ref 81), some (.ref q1), some (.int (Int32.ofInt v3)), some (.int (Int32.ofInt v5))]) (st1 := [.int (Int32.ofInt 0), .ref 81]) (H1 := mz_mk g11 x) rfl ?_
            refine mz_cv rfl mt_4_157 (by decide) (sc_81 _) rfl (Nat.le_of_ble_eq_true rfl) (by omega) (f_X4_notsAnew (by omega) hx hIg11 (by decide) (by decide) (fun g12 hIg12 hfg12 hc13 => ⟨_, rfl, ?_⟩))
            show mm_W d mmX4_readSign 137 [some (.ref 81), some (.ref q1), some (.int (Int32.ofInt v3)), some (.int (Int32.ofInt v5))] [] (mz_mk g12 x) Q
            replace hE := zf_t1 hE hc13
            refine mm_g 1 (pc1 := 138) (lo1 := [some (.ref 81), some (.ref q1), some (.int (Int32.ofInt v3)), some (.int (Int32.ofInt v5))]) (st1 := [.ref 81]) (H1 := mz_mk g12 x) rfl ?_
            refine mz_fgR (v := 82) rfl fd_4_12 (by decide) (sc_81 _) (rf_81_0 _ _ _) ?_
            refine mz_cv rfl mt_4_99 (by decide) (sc_82 _) rfl (Nat.le_of_ble_eq_true rfl) (by omega) (f_X7_step (by omega) hx hIg12 (fun g14 hIg14 hfg14 hc15 => ⟨_, rfl, ?_⟩))
            show mm_W d mmX4_readSign 144 [some (.ref 81), some (.ref q1), some (.int (Int32.ofInt v3)), some (.int (Int32.ofInt v5))] [] (mz_mk g14 x) Q
            replace hE := zf_t1 hE hc15
            refine mm_g 1 (pc1 := 145) (lo1 := [some (.ref 81), some (.ref q1), some (.int (Int32.ofInt v3)), some (.int (Int32.ofInt v5))]) (st1 := [.int (Int32.ofInt 1)]) (H1 := mz_mk g14 x) rfl ?_
            exact mz_rtZ rfl (by decide) (by omega) (hQ _ _ hIg14 (fun k j hk => ((hfg14 k j (fun h => hk (Or.elim h (fun h => (Or.inr (Or.inr (Or.inr (Or.inr (Or.inr (Or.inr (Or.inr (Or.inl h))))))))) (fun h => (Or.elim h (fun h => (Or.inr (Or.inr (Or.inr (Or.inr (Or.inr (Or.inr (Or.inr (Or.inr (Or.inl h)))))))))) (fun h => (Or.elim h (fun h => (Or.inr (Or.inr (Or.inr (Or.inr (Or.inr (Or.inr (Or.inr (Or.inr (Or.inr (Or.inl h))))))))))) (fun h => (Or.inr (Or.inr (Or.inr (Or.inr (Or.inr (Or.inr (Or.inr (Or.inr (Or.inr (Or.inr (Or.inl h))))))))))))))))))).trans ((hfg12 k j (fun h => hk (Or.elim h (fun h => (Or.inr (Or.inr (Or.inr (Or.inr (Or.inr (Or.inl h))))))) (fun h => (Or.inr (Or.inr (Or.inr (Or.inr (Or.inr (Or.inr (Or.inl h))))))))))).trans ((hug11.2 k j (fun h => hk (Or.inr (Or.inr (Or.inr (Or.inr (Or.inl h))))))).trans ((hfg9 k j (fun h => hk (Or.elim h (fun h => (Or.inr (Or.inr (Or.inr (Or.inl h))))) (fun h => (Or.inr (Or.inr (Or.inl h))))))).trans (hfg7 k j (fun h => hk (Or.elim h (fun h => (Or.inl h)) (fun h => (Or.elim h (fun h => (Or.inr (Or.inl h))) (fun h => (Or.inr (Or.inr (Or.inl h)))))))))))))) (by decide) (by decide) hE)
          · skip
            replace hE := zf_nl hE c126_11
            refine mm_g 1 (pc1 := 130) (lo1 := [some (.ref 81), some (.ref q1), some (.int (Int32.ofInt v3)), some (.int (Int32.ofInt v5))]) (st1 := [.int (Int32.ofInt 1), .ref 81]) (H1 := mz_mk g11 x) rfl ?_
            refine mz_gt (tgt := 134) rfl rfl ?_
            refine mz_cv rfl mt_4_157 (by decide) (sc_81 _) rfl (Nat.le_of_ble_eq_true rfl) (by omega) (f_X4_notsAnew (by omega) hx hIg11 (by decide) (by decide) (fun g16 hIg16 hfg16 hc17 => ⟨_, rfl, ?_⟩))
            show mm_W d mmX4_readSign 137 [some (.ref 81), some (.ref q1), some (.int (Int32.ofInt v3)), some (.int (Int32.ofInt v5))] [] (mz_mk g16 x) Q
            replace hE := zf_t1 hE hc17
            refine mm_g 1 (pc1 := 138) (lo1 := [some (.ref 81), some (.ref q1), some (.int (Int32.ofInt v3)), some (.int (Int32.ofInt v5))]) (st1 := [.ref 81]) (H1 := mz_mk g16 x) rfl ?_
            refine mz_fgR (v := 82) rfl fd_4_12 (by decide) (sc_81 _) (rf_81_0 _ _ _) ?_
            refine mz_cv rfl mt_4_99 (by decide) (sc_82 _) rfl (Nat.le_of_ble_eq_true rfl) (by omega) (f_X7_step (by omega) hx hIg16 (fun g18 hIg18 hfg18 hc19 => ⟨_, rfl, ?_⟩))
            show mm_W d mmX4_readSign 144 [some (.ref 81), some (.ref q1), some (.int (Int32.ofInt v3)), some (.int (Int32.ofInt v5))] [] (mz_mk g18 x) Q
            replace hE := zf_t1 hE hc19
            refine mm_g 1 (pc1 := 145) (lo1 := [some (.ref 81), some (.ref q1), some (.int (Int32.ofInt v3)), some (.int (Int32.ofInt v5))]) (st1 := [.int (Int32.ofInt 1)]) (H1 := mz_mk g18 x) rfl ?_
            exact mz_rtZ rfl (by decide) (by omega) (hQ _ _ hIg18 (fun k j hk => ((hfg18 k j (fun h => hk (Or.elim h (fun h => (Or.inr (Or.inr (Or.inr (Or.inr (Or.inr (Or.inr (Or.inr (Or.inl h))))))))) (fun h => (Or.elim h (fun h => (Or.inr (Or.inr (Or.inr (Or.inr (Or.inr (Or.inr (Or.inr (Or.inr (Or.inl h)))))))))) (fun h => (Or.elim h (fun h => (Or.inr (Or.inr (Or.inr (Or.inr (Or.inr (Or.inr (Or.inr (Or.inr (Or.inr (Or.inl h))))))))))) (fun h => (Or.inr (Or.inr (Or.inr (Or.inr (Or.inr (Or.inr (Or.inr (Or.inr (Or.inr (Or.inr (Or.inl h))))))))))))))))))).trans ((hfg16 k j (fun h => hk (Or.elim h (fun h => (Or.inr (Or.inr (Or.inr (Or.inr (Or.inr (Or.inl h))))))) (fun h => (Or.inr (Or.inr (Or.inr (Or.inr (Or.inr (Or.inr (Or.inl h))))))))))).trans ((hug11.2 k j (fun h => hk (Or.inr (Or.inr (Or.inr (Or.inr (Or.inl h))))))).trans ((hfg9 k j (fun h => hk (Or.elim h (fun h => (Or.inr (Or.inr (Or.inr (Or.inl h))))) (fun h => (Or.inr (Or.inr (Or.inl h))))))).trans (hfg7 k j (fun h => hk (Or.elim h (fun h => (Or.inl h)) (fun h => (Or.elim h (fun h => (Or.inr (Or.inl h))) (fun h => (Or.inr (Or.inr (Or.inl h)))))))))))))) (by decide) (by decide) hE)
        · skip
          replace hE := zf_ip hE c93_8
          refine mm_g 1 (pc1 := 97) (lo1 := [some (.ref 81), some (.ref q1), some (.int (Int32.ofInt v3)), some (.int (Int32.ofInt v5))]) (st1 := [.ref 81]) (H1 := mz_mk g7 x) rfl ?_
          refine mz_cv rfl mt_4_192 (by decide) (sc_81 _) rfl (Nat.le_of_ble_eq_true rfl) (by omega) (f_X4_lastOpen (by omega) hx hIg7 (fun v20 l_v20 u_v20 hc21 => ⟨_, rfl, ?_⟩))
          show mm_W d mmX4_readSign 100 [some (.ref 81), some (.ref q1), some (.int (Int32.ofInt v3)), some (.int (Int32.ofInt v5))] [.int (Int32.ofInt v20)] (mz_mk g7 x) Q
          replace hE := zf_t1 hE hc21
          refine mz_cs rfl mt_4_188 (by decide) rfl (Nat.le_of_ble_eq_true rfl) (by omega) (f_X4_rankOf (by omega) hx hIg7 l_v20 u_v20 (fun v22 l_v22 u_v22 hc23 => ⟨_, rfl, ?_⟩))
          show mm_W d mmX4_readSign 103 [some (.ref 81), some (.ref q1), some (.int (Int32.ofInt v3)), some (.int (Int32.ofInt v5))] [.int (Int32.ofInt v22)] (mz_mk g7 x) Q
          replace hE := zf_t1 hE hc23
          refine mm_g 1 (pc1 := 104) (lo1 := [some (.ref 81), some (.ref q1), some (.int (Int32.ofInt v3)), some (.int (Int32.ofInt v5))]) (st1 := [.int (Int32.ofInt 4), .int (Int32.ofInt v22)]) (H1 := mz_mk g7 x) rfl ?_
          refine mz_ic_ne (tgt := 113) rfl rfl (mz_rg l_v22 u_v22) ⟨by decide, by decide⟩ (fun c104_23 => ?_) (fun c104_23 => ?_)
          · skip
            replace hE := zf_in hE c104_23
            refine mm_g 2 (pc1 := 115) (lo1 := [some (.ref 81), some (.ref q1), some (.int (Int32.ofInt v3)), some (.int (Int32.ofInt v5))]) (st1 := [.int (Int32.ofInt v3), .ref 81]) (H1 := mz_mk g7 x) rfl ?_
            refine mz_cv rfl mt_4_174 (by decide) (sc_81 _) rfl (Nat.le_of_ble_eq_true rfl) (by omega) (f_X4_openSign (by omega) hx hIg7 (by omega) (by omega) (fun g24 hIg24 hfg24 hc25 => ⟨_, rfl, ?_⟩))
            show mm_W d mmX4_readSign 118 [some (.ref 81), some (.ref q1), some (.int (Int32.ofInt v3)), some (.int (Int32.ofInt v5))] [] (mz_mk g24 x) Q
            replace hE := zf_t1 hE hc25
            refine mm_g 2 (pc1 := 120) (lo1 := [some (.ref 81), some (.ref q1), some (.int (Int32.ofInt v3)), some (.int (Int32.ofInt v5))]) (st1 := [.int (Int32.ofInt 1), .ref 81]) (H1 := mz_mk g24 x) rfl ?_
            refine mz_pZ rfl fd_4_38 (sc_81 _) (by decide) hIg24 bd_81_7 (by omega) (by omega) (fun g26 hIg26 hug26 => ?_)
            replace hE := zf_tr hE (zf_lg hug26)
            refine mm_g 3 (pc1 := 126) (lo1 := [some (.ref 81), some (.ref q1), some (.int (Int32.ofInt v3)), some (.int (Int32.ofInt v5))]) (st1 := [.int (Int32.ofInt 2), .int (Int32.ofInt v5), .ref 81]) (H1 := mz_mk g26 x) rfl ?_
            refine mz_ic_gt (tgt := 133) rfl rfl (mz_rg l_v5 u_v5) ⟨by decide, by decide⟩ (fun c126_26 => ?_) (fun c126_26 => ?_)
            · skip
              replace hE := zf_ip hE c126_26
              refine mm_g 1 (pc1 := 134) (lo1 := [some (.ref 81), some (.ref q1), some (.int (Int32.ofInt v3)), some (.int (Int32.ofInt v5))]) (st1 := [.int (Int32.ofInt 0), .ref 81]) (H1 := mz_mk g26 x) rfl ?_
              refine mz_cv rfl mt_4_157 (by decide) (sc_81 _) rfl (Nat.le_of_ble_eq_true rfl) (by omega) (f_X4_notsAnew (by omega) hx hIg26 (by decide) (by decide) (fun g27 hIg27 hfg27 hc28 => ⟨_, rfl, ?_⟩))
              show mm_W d mmX4_readSign 137 [some (.ref 81), some (.ref q1), some (.int (Int32.ofInt v3)), some (.int (Int32.ofInt v5))] [] (mz_mk g27 x) Q
              replace hE := zf_t1 hE hc28
              refine mm_g 1 (pc1 := 138) (lo1 := [some (.ref 81), some (.ref q1), some (.int (Int32.ofInt v3)), some (.int (Int32.ofInt v5))]) (st1 := [.ref 81]) (H1 := mz_mk g27 x) rfl ?_
              refine mz_fgR (v := 82) rfl fd_4_12 (by decide) (sc_81 _) (rf_81_0 _ _ _) ?_
              refine mz_cv rfl mt_4_99 (by decide) (sc_82 _) rfl (Nat.le_of_ble_eq_true rfl) (by omega) (f_X7_step (by omega) hx hIg27 (fun g29 hIg29 hfg29 hc30 => ⟨_, rfl, ?_⟩))
              show mm_W d mmX4_readSign 144 [some (.ref 81), some (.ref q1), some (.int (Int32.ofInt v3)), some (.int (Int32.ofInt v5))] [] (mz_mk g29 x) Q
              replace hE := zf_t1 hE hc30
              refine mm_g 1 (pc1 := 145) (lo1 := [some (.ref 81), some (.ref q1), some (.int (Int32.ofInt v3)), some (.int (Int32.ofInt v5))]) (st1 := [.int (Int32.ofInt 1)]) (H1 := mz_mk g29 x) rfl ?_
              exact mz_rtZ rfl (by decide) (by omega) (hQ _ _ hIg29 (fun k j hk => ((hfg29 k j (fun h => hk (Or.elim h (fun h => (Or.inr (Or.inr (Or.inr (Or.inr (Or.inr (Or.inr (Or.inr (Or.inl h))))))))) (fun h => (Or.elim h (fun h => (Or.inr (Or.inr (Or.inr (Or.inr (Or.inr (Or.inr (Or.inr (Or.inr (Or.inl h)))))))))) (fun h => (Or.elim h (fun h => (Or.inr (Or.inr (Or.inr (Or.inr (Or.inr (Or.inr (Or.inr (Or.inr (Or.inr (Or.inl h))))))))))) (fun h => (Or.inr (Or.inr (Or.inr (Or.inr (Or.inr (Or.inr (Or.inr (Or.inr (Or.inr (Or.inr (Or.inl h))))))))))))))))))).trans ((hfg27 k j (fun h => hk (Or.elim h (fun h => (Or.inr (Or.inr (Or.inr (Or.inr (Or.inr (Or.inl h))))))) (fun h => (Or.inr (Or.inr (Or.inr (Or.inr (Or.inr (Or.inr (Or.inl h))))))))))).trans ((hug26.2 k j (fun h => hk (Or.inr (Or.inr (Or.inr (Or.inr (Or.inl h))))))).trans ((hfg24 k j (fun h => hk (Or.elim h (fun h => (Or.inr (Or.inr (Or.inr (Or.inl h))))) (fun h => (Or.inr (Or.inr (Or.inl h))))))).trans (hfg7 k j (fun h => hk (Or.elim h (fun h => (Or.inl h)) (fun h => (Or.elim h (fun h => (Or.inr (Or.inl h))) (fun h => (Or.inr (Or.inr (Or.inl h)))))))))))))) (by decide) (by decide) hE)
            · exfalso; omega
          · skip
            replace hE := zf_ip hE c104_23
            refine mm_g 2 (pc1 := 109) (lo1 := [some (.ref 81), some (.ref q1), some (.int (Int32.ofInt v3)), some (.int (Int32.ofInt v5))]) (st1 := [.int (Int32.ofInt 1), .ref 81]) (H1 := mz_mk g7 x) rfl ?_
            refine mz_cv rfl mt_4_95 (by decide) (sc_81 _) rfl (Nat.le_of_ble_eq_true rfl) (by omega) (f_X4_blame (by omega) hx hIg7 (by decide) (by decide) (fun v31 g32 hIg32 hfg32 l_v31 u_v31 hc33 => ⟨_, rfl, ?_⟩))
            show mm_W d mmX4_readSign 112 [some (.ref 81), some (.ref q1), some (.int (Int32.ofInt v3)), some (.int (Int32.ofInt v5))] [.int (Int32.ofInt v31)] (mz_mk g32 x) Q
            replace hE := zf_t2 hE hc33
            exact mz_rtZ rfl (by decide) (by omega) (hQ _ _ hIg32 (fun k j hk => ((hfg32 k j (fun h => hk (Or.elim h (fun h => (Or.inr (Or.inr (Or.inr (Or.inr (Or.inr (Or.inr (Or.inr (Or.inr (Or.inr (Or.inr (Or.inr (Or.inl h))))))))))))) (fun h => (Or.inr (Or.inr (Or.inr (Or.inr (Or.inr (Or.inr (Or.inr (Or.inr (Or.inr (Or.inr (Or.inr (Or.inr (Or.inl h))))))))))))))))).trans (hfg7 k j (fun h => hk (Or.elim h (fun h => (Or.inl h)) (fun h => (Or.elim h (fun h => (Or.inr (Or.inl h))) (fun h => (Or.inr (Or.inr (Or.inl h))))))))))) (by omega) (by omega) hE)
      · skip
        replace hE := zf_ip hE c78_6
        refine mm_g 2 (pc1 := 83) (lo1 := [some (.ref 81), some (.ref q1), some (.int (Int32.ofInt v3)), some (.int (Int32.ofInt v5))]) (st1 := [.int (Int32.ofInt 1), .int (Int32.ofInt v5), .ref q1, .ref 81]) (H1 := mz_mk g x) rfl ?_
        refine mz_iadd rfl ?_
        refine mz_gt (tgt := 88) rfl rfl ?_
        refine mz_cv rfl mt_4_170 (by decide) (sc_81 _) rfl (Nat.le_of_ble_eq_true rfl) (by omega) (f_X4_closeSigns (by omega) hx hI h_q1 (by omega) (by omega) (fun g34 hIg34 hfg34 hc35 => ⟨_, rfl, ?_⟩))
        show mm_W d mmX4_readSign 91 [some (.ref 81), some (.ref q1), some (.int (Int32.ofInt v3)), some (.int (Int32.ofInt v5))] [] (mz_mk g34 x) Q
        replace hE := zf_t1 hE hc35
        refine mm_g 2 (pc1 := 93) (lo1 := [some (.ref 81), some (.ref q1), some (.int (Int32.ofInt v3)), some (.int (Int32.ofInt v5))]) (st1 := [.int (Int32.ofInt 4), .int (Int32.ofInt v5)]) (H1 := mz_mk g34 x) rfl ?_
        refine mz_ic_ne (tgt := 113) rfl rfl (mz_rg l_v5 u_v5) ⟨by decide, by decide⟩ (fun c93_35 => ?_) (fun c93_35 => ?_)
        · exfalso; omega
        · skip
          replace hE := zf_ip hE c93_35
          refine mm_g 1 (pc1 := 97) (lo1 := [some (.ref 81), some (.ref q1), some (.int (Int32.ofInt v3)), some (.int (Int32.ofInt v5))]) (st1 := [.ref 81]) (H1 := mz_mk g34 x) rfl ?_
          refine mz_cv rfl mt_4_192 (by decide) (sc_81 _) rfl (Nat.le_of_ble_eq_true rfl) (by omega) (f_X4_lastOpen (by omega) hx hIg34 (fun v36 l_v36 u_v36 hc37 => ⟨_, rfl, ?_⟩))
          show mm_W d mmX4_readSign 100 [some (.ref 81), some (.ref q1), some (.int (Int32.ofInt v3)), some (.int (Int32.ofInt v5))] [.int (Int32.ofInt v36)] (mz_mk g34 x) Q
          replace hE := zf_t1 hE hc37
          refine mz_cs rfl mt_4_188 (by decide) rfl (Nat.le_of_ble_eq_true rfl) (by omega) (f_X4_rankOf (by omega) hx hIg34 l_v36 u_v36 (fun v38 l_v38 u_v38 hc39 => ⟨_, rfl, ?_⟩))
          show mm_W d mmX4_readSign 103 [some (.ref 81), some (.ref q1), some (.int (Int32.ofInt v3)), some (.int (Int32.ofInt v5))] [.int (Int32.ofInt v38)] (mz_mk g34 x) Q
          replace hE := zf_t1 hE hc39
          refine mm_g 1 (pc1 := 104) (lo1 := [some (.ref 81), some (.ref q1), some (.int (Int32.ofInt v3)), some (.int (Int32.ofInt v5))]) (st1 := [.int (Int32.ofInt 4), .int (Int32.ofInt v38)]) (H1 := mz_mk g34 x) rfl ?_
          refine mz_ic_ne (tgt := 113) rfl rfl (mz_rg l_v38 u_v38) ⟨by decide, by decide⟩ (fun c104_39 => ?_) (fun c104_39 => ?_)
          · skip
            replace hE := zf_in hE c104_39
            refine mm_g 2 (pc1 := 115) (lo1 := [some (.ref 81), some (.ref q1), some (.int (Int32.ofInt v3)), some (.int (Int32.ofInt v5))]) (st1 := [.int (Int32.ofInt v3), .ref 81]) (H1 := mz_mk g34 x) rfl ?_
            refine mz_cv rfl mt_4_174 (by decide) (sc_81 _) rfl (Nat.le_of_ble_eq_true rfl) (by omega) (f_X4_openSign (by omega) hx hIg34 (by omega) (by omega) (fun g40 hIg40 hfg40 hc41 => ⟨_, rfl, ?_⟩))
            show mm_W d mmX4_readSign 118 [some (.ref 81), some (.ref q1), some (.int (Int32.ofInt v3)), some (.int (Int32.ofInt v5))] [] (mz_mk g40 x) Q
            replace hE := zf_t1 hE hc41
            refine mm_g 2 (pc1 := 120) (lo1 := [some (.ref 81), some (.ref q1), some (.int (Int32.ofInt v3)), some (.int (Int32.ofInt v5))]) (st1 := [.int (Int32.ofInt 1), .ref 81]) (H1 := mz_mk g40 x) rfl ?_
            refine mz_pZ rfl fd_4_38 (sc_81 _) (by decide) hIg40 bd_81_7 (by omega) (by omega) (fun g42 hIg42 hug42 => ?_)
            replace hE := zf_tr hE (zf_lg hug42)
            refine mm_g 3 (pc1 := 126) (lo1 := [some (.ref 81), some (.ref q1), some (.int (Int32.ofInt v3)), some (.int (Int32.ofInt v5))]) (st1 := [.int (Int32.ofInt 2), .int (Int32.ofInt v5), .ref 81]) (H1 := mz_mk g42 x) rfl ?_
            refine mz_ic_gt (tgt := 133) rfl rfl (mz_rg l_v5 u_v5) ⟨by decide, by decide⟩ (fun c126_42 => ?_) (fun c126_42 => ?_)
            · skip
              replace hE := zf_ip hE c126_42
              refine mm_g 1 (pc1 := 134) (lo1 := [some (.ref 81), some (.ref q1), some (.int (Int32.ofInt v3)), some (.int (Int32.ofInt v5))]) (st1 := [.int (Int32.ofInt 0), .ref 81]) (H1 := mz_mk g42 x) rfl ?_
              refine mz_cv rfl mt_4_157 (by decide) (sc_81 _) rfl (Nat.le_of_ble_eq_true rfl) (by omega) (f_X4_notsAnew (by omega) hx hIg42 (by decide) (by decide) (fun g43 hIg43 hfg43 hc44 => ⟨_, rfl, ?_⟩))
              show mm_W d mmX4_readSign 137 [some (.ref 81), some (.ref q1), some (.int (Int32.ofInt v3)), some (.int (Int32.ofInt v5))] [] (mz_mk g43 x) Q
              replace hE := zf_t1 hE hc44
              refine mm_g 1 (pc1 := 138) (lo1 := [some (.ref 81), some (.ref q1), some (.int (Int32.ofInt v3)), some (.int (Int32.ofInt v5))]) (st1 := [.ref 81]) (H1 := mz_mk g43 x) rfl ?_
              refine mz_fgR (v := 82) rfl fd_4_12 (by decide) (sc_81 _) (rf_81_0 _ _ _) ?_
              refine mz_cv rfl mt_4_99 (by decide) (sc_82 _) rfl (Nat.le_of_ble_eq_true rfl) (by omega) (f_X7_step (by omega) hx hIg43 (fun g45 hIg45 hfg45 hc46 => ⟨_, rfl, ?_⟩))
              show mm_W d mmX4_readSign 144 [some (.ref 81), some (.ref q1), some (.int (Int32.ofInt v3)), some (.int (Int32.ofInt v5))] [] (mz_mk g45 x) Q
              replace hE := zf_t1 hE hc46
              refine mm_g 1 (pc1 := 145) (lo1 := [some (.ref 81), some (.ref q1), some (.int (Int32.ofInt v3)), some (.int (Int32.ofInt v5))]) (st1 := [.int (Int32.ofInt 1)]) (H1 := mz_mk g45 x) rfl ?_
              exact mz_rtZ rfl (by decide) (by omega) (hQ _ _ hIg45 (fun k j hk => ((hfg45 k j (fun h => hk (Or.elim h (fun h => (Or.inr (Or.inr (Or.inr (Or.inr (Or.inr (Or.inr (Or.inr (Or.inl h))))))))) (fun h => (Or.elim h (fun h => (Or.inr (Or.inr (Or.inr (Or.inr (Or.inr (Or.inr (Or.inr (Or.inr (Or.inl h)))))))))) (fun h => (Or.elim h (fun h => (Or.inr (Or.inr (Or.inr (Or.inr (Or.inr (Or.inr (Or.inr (Or.inr (Or.inr (Or.inl h))))))))))) (fun h => (Or.inr (Or.inr (Or.inr (Or.inr (Or.inr (Or.inr (Or.inr (Or.inr (Or.inr (Or.inr (Or.inl h))))))))))))))))))).trans ((hfg43 k j (fun h => hk (Or.elim h (fun h => (Or.inr (Or.inr (Or.inr (Or.inr (Or.inr (Or.inl h))))))) (fun h => (Or.inr (Or.inr (Or.inr (Or.inr (Or.inr (Or.inr (Or.inl h))))))))))).trans ((hug42.2 k j (fun h => hk (Or.inr (Or.inr (Or.inr (Or.inr (Or.inl h))))))).trans ((hfg40 k j (fun h => hk (Or.elim h (fun h => (Or.inr (Or.inr (Or.inr (Or.inl h))))) (fun h => (Or.inr (Or.inr (Or.inl h))))))).trans (hfg34 k j (fun h => hk (Or.elim h (fun h => (Or.inl h)) (fun h => (Or.elim h (fun h => (Or.inr (Or.inl h))) (fun h => (Or.inr (Or.inr (Or.inl h)))))))))))))) (by decide) (by decide) hE)
            · exfalso; omega
          · skip
            replace hE := zf_ip hE c104_39
            refine mm_g 2 (pc1 := 109) (lo1 := [some (.ref 81), some (.ref q1), some (.int (Int32.ofInt v3)), some (.int (Int32.ofInt v5))]) (st1 := [.int (Int32.ofInt 1), .ref 81]) (H1 := mz_mk g34 x) rfl ?_
            refine mz_cv rfl mt_4_95 (by decide) (sc_81 _) rfl (Nat.le_of_ble_eq_true rfl) (by omega) (f_X4_blame (by omega) hx hIg34 (by decide) (by decide) (fun v47 g48 hIg48 hfg48 l_v47 u_v47 hc49 => ⟨_, rfl, ?_⟩))
            show mm_W d mmX4_readSign 112 [some (.ref 81), some (.ref q1), some (.int (Int32.ofInt v3)), some (.int (Int32.ofInt v5))] [.int (Int32.ofInt v47)] (mz_mk g48 x) Q
            replace hE := zf_t2 hE hc49
            exact mz_rtZ rfl (by decide) (by omega) (hQ _ _ hIg48 (fun k j hk => ((hfg48 k j (fun h => hk (Or.elim h (fun h => (Or.inr (Or.inr (Or.inr (Or.inr (Or.inr (Or.inr (Or.inr (Or.inr (Or.inr (Or.inr (Or.inr (Or.inl h))))))))))))) (fun h => (Or.inr (Or.inr (Or.inr (Or.inr (Or.inr (Or.inr (Or.inr (Or.inr (Or.inr (Or.inr (Or.inr (Or.inr (Or.inl h))))))))))))))))).trans (hfg34 k j (fun h => hk (Or.elim h (fun h => (Or.inl h)) (fun h => (Or.elim h (fun h => (Or.inr (Or.inl h))) (fun h => (Or.inr (Or.inr (Or.inl h))))))))))) (by omega) (by omega) hE)
    · skip
      replace hE := zf_ip hE c65_6
      refine mm_g 2 (pc1 := 70) (lo1 := [some (.ref 81), some (.ref q1), some (.int (Int32.ofInt v3)), some (.int (Int32.ofInt v5))]) (st1 := [.int (Int32.ofInt 1), .ref 81]) (H1 := mz_mk g x) rfl ?_
      refine mz_cv rfl mt_4_95 (by decide) (sc_81 _) rfl (Nat.le_of_ble_eq_true rfl) (by omega) (f_X4_blame (by omega) hx hI (by decide) (by decide) (fun v50 g51 hIg51 hfg51 l_v50 u_v50 hc52 => ⟨_, rfl, ?_⟩))
      show mm_W d mmX4_readSign 73 [some (.ref 81), some (.ref q1), some (.int (Int32.ofInt v3)), some (.int (Int32.ofInt v5))] [.int (Int32.ofInt v50)] (mz_mk g51 x) Q
      replace hE := zf_t2 hE hc52
      exact mz_rtZ rfl (by decide) (by omega) (hQ _ _ hIg51 (fun k j hk => (hfg51 k j (fun h => hk (Or.elim h (fun h => (Or.inr (Or.inr (Or.inr (Or.inr (Or.inr (Or.inr (Or.inr (Or.inr (Or.inr (Or.inr (Or.inr (Or.inl h))))))))))))) (fun h => (Or.inr (Or.inr (Or.inr (Or.inr (Or.inr (Or.inr (Or.inr (Or.inr (Or.inr (Or.inr (Or.inr (Or.inr (Or.inl h)))))))))))))))))) (by omega) (by omega) hE)
  · skip
    replace hE := zf_ip hE c9_2
    refine mm_g 1 (pc1 := 13) (lo1 := [some (.ref 81), some (.ref q1), none, none]) (st1 := [.ref 81]) (H1 := mz_mk g x) rfl ?_
    refine mz_gI rfl fd_4_32 (by decide) (sc_81 _) hI bd_81_5 (fun v53 e_v53 l_v53 u_v53 => ?_)
    replace hE := zf_tr hE (zf_le e_v53)
    refine mz_if_le (tgt := 54) rfl rfl (mz_rg l_v53 u_v53) (fun c16_53 => ?_) (fun c16_53 => ?_)
    · skip
      replace hE := zf_nl hE c16_53
      refine mm_g 1 (pc1 := 55) (lo1 := [some (.ref 81), some (.ref q1), none, none]) (st1 := [.ref 81]) (H1 := mz_mk g x) rfl ?_
      refine mz_cv rfl mt_4_185 (by decide) (sc_81 _) rfl (Nat.le_of_ble_eq_true rfl) (by omega) (f_X4_signOfToken (by omega) hx hI (fun v54 l_v54 u_v54 hc55 => ⟨_, rfl, ?_⟩))
      show mm_W d mmX4_readSign 58 [some (.ref 81), some (.ref q1), none, none] [.int (Int32.ofInt v54)] (mz_mk g x) Q
      replace hE := zf_t1 hE hc55
      refine mm_g 2 (pc1 := 60) (lo1 := [some (.ref 81), some (.ref q1), some (.int (Int32.ofInt v54)), none]) (st1 := [.int (Int32.ofInt v54)]) (H1 := mz_mk g x) rfl ?_
      refine mz_cs rfl mt_4_188 (by decide) rfl (Nat.le_of_ble_eq_true rfl) (by omega) (f_X4_rankOf (by omega) hx hI (by omega) (by omega) (fun v56 l_v56 u_v56 hc57 => ⟨_, rfl, ?_⟩))
      show mm_W d mmX4_readSign 63 [some (.ref 81), some (.ref q1), some (.int (Int32.ofInt v54)), none] [.int (Int32.ofInt v56)] (mz_mk g x) Q
      replace hE := zf_t1 hE hc57
      refine mm_g 2 (pc1 := 65) (lo1 := [some (.ref 81), some (.ref q1), some (.int (Int32.ofInt v54)), some (.int (Int32.ofInt v56))]) (st1 := [.int (Int32.ofInt v56)]) (H1 := mz_mk g x) rfl ?_
      refine mz_if_ne (tgt := 74) rfl rfl (mz_rg l_v56 u_v56) (fun c65_57 => ?_) (fun c65_57 => ?_)
      · skip
        replace hE := zf_in hE c65_57
        refine mm_g 4 (pc1 := 78) (lo1 := [some (.ref 81), some (.ref q1), some (.int (Int32.ofInt v54)), some (.int (Int32.ofInt v56))]) (st1 := [.int (Int32.ofInt 4), .int (Int32.ofInt v56), .ref q1, .ref 81]) (H1 := mz_mk g x) rfl ?_
        refine mz_ic_ne (tgt := 87) rfl rfl (mz_rg l_v56 u_v56) ⟨by decide, by decide⟩ (fun c78_57 => ?_) (fun c78_57 => ?_)
        · skip
          replace hE := zf_in hE c78_57
          refine mm_g 1 (pc1 := 88) (lo1 := [some (.ref 81), some (.ref q1), some (.int (Int32.ofInt v54)), some (.int (Int32.ofInt v56))]) (st1 := [.int (Int32.ofInt v56), .ref q1, .ref 81]) (H1 := mz_mk g x) rfl ?_
          refine mz_cv rfl mt_4_170 (by decide) (sc_81 _) rfl (Nat.le_of_ble_eq_true rfl) (by omega) (f_X4_closeSigns (by omega) hx hI h_q1 (by omega) (by omega) (fun g58 hIg58 hfg58 hc59 => ⟨_, rfl, ?_⟩))
          show mm_W d mmX4_readSign 91 [some (.ref 81), some (.ref q1), some (.int (Int32.ofInt v54)), some (.int (Int32.ofInt v56))] [] (mz_mk g58 x) Q
          replace hE := zf_t1 hE hc59
          refine mm_g 2 (pc1 := 93) (lo1 := [some (.ref 81), some (.ref q1), some (.int (Int32.ofInt v54)), some (.int (Int32.ofInt v56))]) (st1 := [.int (Int32.ofInt 4), .int (Int32.ofInt v56)]) (H1 := mz_mk g58 x) rfl ?_
          refine mz_ic_ne (tgt := 113) rfl rfl (mz_rg l_v56 u_v56) ⟨by decide, by decide⟩ (fun c93_59 => ?_) (fun c93_59 => ?_)
          · skip
            replace hE := zf_in hE c93_59
            refine mm_g 2 (pc1 := 115) (lo1 := [some (.ref 81), some (.ref q1), some (.int (Int32.ofInt v54)), some (.int (Int32.ofInt v56))]) (st1 := [.int (Int32.ofInt v54), .ref 81]) (H1 := mz_mk g58 x) rfl ?_
            refine mz_cv rfl mt_4_174 (by decide) (sc_81 _) rfl (Nat.le_of_ble_eq_true rfl) (by omega) (f_X4_openSign (by omega) hx hIg58 (by omega) (by omega) (fun g60 hIg60 hfg60 hc61 => ⟨_, rfl, ?_⟩))
            show mm_W d mmX4_readSign 118 [some (.ref 81), some (.ref q1), some (.int (Int32.ofInt v54)), some (.int (Int32.ofInt v56))] [] (mz_mk g60 x) Q
            replace hE := zf_t1 hE hc61
            refine mm_g 2 (pc1 := 120) (lo1 := [some (.ref 81), some (.ref q1), some (.int (Int32.ofInt v54)), some (.int (Int32.ofInt v56))]) (st1 := [.int (Int32.ofInt 1), .ref 81]) (H1 := mz_mk g60 x) rfl ?_
            refine mz_pZ rfl fd_4_38 (sc_81 _) (by decide) hIg60 bd_81_7 (by omega) (by omega) (fun g62 hIg62 hug62 => ?_)
            replace hE := zf_tr hE (zf_lg hug62)
            refine mm_g 3 (pc1 := 126) (lo1 := [some (.ref 81), some (.ref q1), some (.int (Int32.ofInt v54)), some (.int (Int32.ofInt v56))]) (st1 := [.int (Int32.ofInt 2), .int (Int32.ofInt v56), .ref 81]) (H1 := mz_mk g62 x) rfl ?_
            refine mz_ic_gt (tgt := 133) rfl rfl (mz_rg l_v56 u_v56) ⟨by decide, by decide⟩ (fun c126_62 => ?_) (fun c126_62 => ?_)
            · skip
              replace hE := zf_ip hE c126_62
              refine mm_g 1 (pc1 := 134) (lo1 := [some (.ref 81), some (.ref q1), some (.int (Int32.ofInt v54)), some (.int (Int32.ofInt v56))]) (st1 := [.int (Int32.ofInt 0), .ref 81]) (H1 := mz_mk g62 x) rfl ?_
              refine mz_cv rfl mt_4_157 (by decide) (sc_81 _) rfl (Nat.le_of_ble_eq_true rfl) (by omega) (f_X4_notsAnew (by omega) hx hIg62 (by decide) (by decide) (fun g63 hIg63 hfg63 hc64 => ⟨_, rfl, ?_⟩))
              show mm_W d mmX4_readSign 137 [some (.ref 81), some (.ref q1), some (.int (Int32.ofInt v54)), some (.int (Int32.ofInt v56))] [] (mz_mk g63 x) Q
              replace hE := zf_t1 hE hc64
              refine mm_g 1 (pc1 := 138) (lo1 := [some (.ref 81), some (.ref q1), some (.int (Int32.ofInt v54)), some (.int (Int32.ofInt v56))]) (st1 := [.ref 81]) (H1 := mz_mk g63 x) rfl ?_
              refine mz_fgR (v := 82) rfl fd_4_12 (by decide) (sc_81 _) (rf_81_0 _ _ _) ?_
              refine mz_cv rfl mt_4_99 (by decide) (sc_82 _) rfl (Nat.le_of_ble_eq_true rfl) (by omega) (f_X7_step (by omega) hx hIg63 (fun g65 hIg65 hfg65 hc66 => ⟨_, rfl, ?_⟩))
              show mm_W d mmX4_readSign 144 [some (.ref 81), some (.ref q1), some (.int (Int32.ofInt v54)), some (.int (Int32.ofInt v56))] [] (mz_mk g65 x) Q
              replace hE := zf_t1 hE hc66
              refine mm_g 1 (pc1 := 145) (lo1 := [some (.ref 81), some (.ref q1), some (.int (Int32.ofInt v54)), some (.int (Int32.ofInt v56))]) (st1 := [.int (Int32.ofInt 1)]) (H1 := mz_mk g65 x) rfl ?_
              exact mz_rtZ rfl (by decide) (by omega) (hQ _ _ hIg65 (fun k j hk => ((hfg65 k j (fun h => hk (Or.elim h (fun h => (Or.inr (Or.inr (Or.inr (Or.inr (Or.inr (Or.inr (Or.inr (Or.inl h))))))))) (fun h => (Or.elim h (fun h => (Or.inr (Or.inr (Or.inr (Or.inr (Or.inr (Or.inr (Or.inr (Or.inr (Or.inl h)))))))))) (fun h => (Or.elim h (fun h => (Or.inr (Or.inr (Or.inr (Or.inr (Or.inr (Or.inr (Or.inr (Or.inr (Or.inr (Or.inl h))))))))))) (fun h => (Or.inr (Or.inr (Or.inr (Or.inr (Or.inr (Or.inr (Or.inr (Or.inr (Or.inr (Or.inr (Or.inl h))))))))))))))))))).trans ((hfg63 k j (fun h => hk (Or.elim h (fun h => (Or.inr (Or.inr (Or.inr (Or.inr (Or.inr (Or.inl h))))))) (fun h => (Or.inr (Or.inr (Or.inr (Or.inr (Or.inr (Or.inr (Or.inl h))))))))))).trans ((hug62.2 k j (fun h => hk (Or.inr (Or.inr (Or.inr (Or.inr (Or.inl h))))))).trans ((hfg60 k j (fun h => hk (Or.elim h (fun h => (Or.inr (Or.inr (Or.inr (Or.inl h))))) (fun h => (Or.inr (Or.inr (Or.inl h))))))).trans (hfg58 k j (fun h => hk (Or.elim h (fun h => (Or.inl h)) (fun h => (Or.elim h (fun h => (Or.inr (Or.inl h))) (fun h => (Or.inr (Or.inr (Or.inl h)))))))))))))) (by decide) (by decide) hE)
            · skip
              replace hE := zf_nl hE c126_62
              refine mm_g 1 (pc1 := 130) (lo1 := [some (.ref 81), some (.ref q1), some (.int (Int32.ofInt v54)), some (.int (Int32.ofInt v56))]) (st1 := [.int (Int32.ofInt 1), .ref 81]) (H1 := mz_mk g62 x) rfl ?_
              refine mz_gt (tgt := 134) rfl rfl ?_
              refine mz_cv rfl mt_4_157 (by decide) (sc_81 _) rfl (Nat.le_of_ble_eq_true rfl) (by omega) (f_X4_notsAnew (by omega) hx hIg62 (by decide) (by decide) (fun g67 hIg67 hfg67 hc68 => ⟨_, rfl, ?_⟩))
              show mm_W d mmX4_readSign 137 [some (.ref 81), some (.ref q1), some (.int (Int32.ofInt v54)), some (.int (Int32.ofInt v56))] [] (mz_mk g67 x) Q
              replace hE := zf_t1 hE hc68
              refine mm_g 1 (pc1 := 138) (lo1 := [some (.ref 81), some (.ref q1), some (.int (Int32.ofInt v54)), some (.int (Int32.ofInt v56))]) (st1 := [.ref 81]) (H1 := mz_mk g67 x) rfl ?_
              refine mz_fgR (v := 82) rfl fd_4_12 (by decide) (sc_81 _) (rf_81_0 _ _ _) ?_
              refine mz_cv rfl mt_4_99 (by decide) (sc_82 _) rfl (Nat.le_of_ble_eq_true rfl) (by omega) (f_X7_step (by omega) hx hIg67 (fun g69 hIg69 hfg69 hc70 => ⟨_, rfl, ?_⟩))
              show mm_W d mmX4_readSign 144 [some (.ref 81), some (.ref q1), some (.int (Int32.ofInt v54)), some (.int (Int32.ofInt v56))] [] (mz_mk g69 x) Q
              replace hE := zf_t1 hE hc70
              refine mm_g 1 (pc1 := 145) (lo1 := [some (.ref 81), some (.ref q1), some (.int (Int32.ofInt v54)), some (.int (Int32.ofInt v56))]) (st1 := [.int (Int32.ofInt 1)]) (H1 := mz_mk g69 x) rfl ?_
              exact mz_rtZ rfl (by decide) (by omega) (hQ _ _ hIg69 (fun k j hk => ((hfg69 k j (fun h => hk (Or.elim h (fun h => (Or.inr (Or.inr (Or.inr (Or.inr (Or.inr (Or.inr (Or.inr (Or.inl h))))))))) (fun h => (Or.elim h (fun h => (Or.inr (Or.inr (Or.inr (Or.inr (Or.inr (Or.inr (Or.inr (Or.inr (Or.inl h)))))))))) (fun h => (Or.elim h (fun h => (Or.inr (Or.inr (Or.inr (Or.inr (Or.inr (Or.inr (Or.inr (Or.inr (Or.inr (Or.inl h))))))))))) (fun h => (Or.inr (Or.inr (Or.inr (Or.inr (Or.inr (Or.inr (Or.inr (Or.inr (Or.inr (Or.inr (Or.inl h))))))))))))))))))).trans ((hfg67 k j (fun h => hk (Or.elim h (fun h => (Or.inr (Or.inr (Or.inr (Or.inr (Or.inr (Or.inl h))))))) (fun h => (Or.inr (Or.inr (Or.inr (Or.inr (Or.inr (Or.inr (Or.inl h))))))))))).trans ((hug62.2 k j (fun h => hk (Or.inr (Or.inr (Or.inr (Or.inr (Or.inl h))))))).trans ((hfg60 k j (fun h => hk (Or.elim h (fun h => (Or.inr (Or.inr (Or.inr (Or.inl h))))) (fun h => (Or.inr (Or.inr (Or.inl h))))))).trans (hfg58 k j (fun h => hk (Or.elim h (fun h => (Or.inl h)) (fun h => (Or.elim h (fun h => (Or.inr (Or.inl h))) (fun h => (Or.inr (Or.inr (Or.inl h)))))))))))))) (by decide) (by decide) hE)
          · skip
            replace hE := zf_ip hE c93_59
            refine mm_g 1 (pc1 := 97) (lo1 := [some (.ref 81), some (.ref q1), some (.int (Int32.ofInt v54)), some (.int (Int32.ofInt v56))]) (st1 := [.ref 81]) (H1 := mz_mk g58 x) rfl ?_
            refine mz_cv rfl mt_4_192 (by decide) (sc_81 _) rfl (Nat.le_of_ble_eq_true rfl) (by omega) (f_X4_lastOpen (by omega) hx hIg58 (fun v71 l_v71 u_v71 hc72 => ⟨_, rfl, ?_⟩))
            show mm_W d mmX4_readSign 100 [some (.ref 81), some (.ref q1), some (.int (Int32.ofInt v54)), some (.int (Int32.ofInt v56))] [.int (Int32.ofInt v71)] (mz_mk g58 x) Q
            replace hE := zf_t1 hE hc72
            refine mz_cs rfl mt_4_188 (by decide) rfl (Nat.le_of_ble_eq_true rfl) (by omega) (f_X4_rankOf (by omega) hx hIg58 l_v71 u_v71 (fun v73 l_v73 u_v73 hc74 => ⟨_, rfl, ?_⟩))
            show mm_W d mmX4_readSign 103 [some (.ref 81), some (.ref q1), some (.int (Int32.ofInt v54)), some (.int (Int32.ofInt v56))] [.int (Int32.ofInt v73)] (mz_mk g58 x) Q
            replace hE := zf_t1 hE hc74
            refine mm_g 1 (pc1 := 104) (lo1 := [some (.ref 81), some (.ref q1), some (.int (Int32.ofInt v54)), some (.int (Int32.ofInt v56))]) (st1 := [.int (Int32.ofInt 4), .int (Int32.ofInt v73)]) (H1 := mz_mk g58 x) rfl ?_
            refine mz_ic_ne (tgt := 113) rfl rfl (mz_rg l_v73 u_v73) ⟨by decide, by decide⟩ (fun c104_74 => ?_) (fun c104_74 => ?_)
            · skip
              replace hE := zf_in hE c104_74
              refine mm_g 2 (pc1 := 115) (lo1 := [some (.ref 81), some (.ref q1), some (.int (Int32.ofInt v54)), some (.int (Int32.ofInt v56))]) (st1 := [.int (Int32.ofInt v54), .ref 81]) (H1 := mz_mk g58 x) rfl ?_
              refine mz_cv rfl mt_4_174 (by decide) (sc_81 _) rfl (Nat.le_of_ble_eq_true rfl) (by omega) (f_X4_openSign (by omega) hx hIg58 (by omega) (by omega) (fun g75 hIg75 hfg75 hc76 => ⟨_, rfl, ?_⟩))
              show mm_W d mmX4_readSign 118 [some (.ref 81), some (.ref q1), some (.int (Int32.ofInt v54)), some (.int (Int32.ofInt v56))] [] (mz_mk g75 x) Q
              replace hE := zf_t1 hE hc76
              refine mm_g 2 (pc1 := 120) (lo1 := [some (.ref 81), some (.ref q1), some (.int (Int32.ofInt v54)), some (.int (Int32.ofInt v56))]) (st1 := [.int (Int32.ofInt 1), .ref 81]) (H1 := mz_mk g75 x) rfl ?_
              refine mz_pZ rfl fd_4_38 (sc_81 _) (by decide) hIg75 bd_81_7 (by omega) (by omega) (fun g77 hIg77 hug77 => ?_)
              replace hE := zf_tr hE (zf_lg hug77)
              refine mm_g 3 (pc1 := 126) (lo1 := [some (.ref 81), some (.ref q1), some (.int (Int32.ofInt v54)), some (.int (Int32.ofInt v56))]) (st1 := [.int (Int32.ofInt 2), .int (Int32.ofInt v56), .ref 81]) (H1 := mz_mk g77 x) rfl ?_
              refine mz_ic_gt (tgt := 133) rfl rfl (mz_rg l_v56 u_v56) ⟨by decide, by decide⟩ (fun c126_77 => ?_) (fun c126_77 => ?_)
              · skip
                replace hE := zf_ip hE c126_77
                refine mm_g 1 (pc1 := 134) (lo1 := [some (.ref 81), some (.ref q1), some (.int (Int32.ofInt v54)), some (.int (Int32.ofInt v56))]) (st1 := [.int (Int32.ofInt 0), .ref 81]) (H1 := mz_mk g77 x) rfl ?_
                refine mz_cv rfl mt_4_157 (by decide) (sc_81 _) rfl (Nat.le_of_ble_eq_true rfl) (by omega) (f_X4_notsAnew (by omega) hx hIg77 (by decide) (by decide) (fun g78 hIg78 hfg78 hc79 => ⟨_, rfl, ?_⟩))
                show mm_W d mmX4_readSign 137 [some (.ref 81), some (.ref q1), some (.int (Int32.ofInt v54)), some (.int (Int32.ofInt v56))] [] (mz_mk g78 x) Q
                replace hE := zf_t1 hE hc79
                refine mm_g 1 (pc1 := 138) (lo1 := [some (.ref 81), some (.ref q1), some (.int (Int32.ofInt v54)), some (.int (Int32.ofInt v56))]) (st1 := [.ref 81]) (H1 := mz_mk g78 x) rfl ?_
                refine mz_fgR (v := 82) rfl fd_4_12 (by decide) (sc_81 _) (rf_81_0 _ _ _) ?_
                refine mz_cv rfl mt_4_99 (by decide) (sc_82 _) rfl (Nat.le_of_ble_eq_true rfl) (by omega) (f_X7_step (by omega) hx hIg78 (fun g80 hIg80 hfg80 hc81 => ⟨_, rfl, ?_⟩))
                show mm_W d mmX4_readSign 144 [some (.ref 81), some (.ref q1), some (.int (Int32.ofInt v54)), some (.int (Int32.ofInt v56))] [] (mz_mk g80 x) Q
                replace hE := zf_t1 hE hc81
                refine mm_g 1 (pc1 := 145) (lo1 := [some (.ref 81), some (.ref q1), some (.int (Int32.ofInt v54)), some (.int (Int32.ofInt v56))]) (st1 := [.int (Int32.ofInt 1)]) (H1 := mz_mk g80 x) rfl ?_
                exact mz_rtZ rfl (by decide) (by omega) (hQ _ _ hIg80 (fun k j hk => ((hfg80 k j (fun h => hk (Or.elim h (fun h => (Or.inr (Or.inr (Or.inr (Or.inr (Or.inr (Or.inr (Or.inr (Or.inl h))))))))) (fun h => (Or.elim h (fun h => (Or.inr (Or.inr (Or.inr (Or.inr (Or.inr (Or.inr (Or.inr (Or.inr (Or.inl h)))))))))) (fun h => (Or.elim h (fun h => (Or.inr (Or.inr (Or.inr (Or.inr (Or.inr (Or.inr (Or.inr (Or.inr (Or.inr (Or.inl h))))))))))) (fun h => (Or.inr (Or.inr (Or.inr (Or.inr (Or.inr (Or.inr (Or.inr (Or.inr (Or.inr (Or.inr (Or.inl h))))))))))))))))))).trans ((hfg78 k j (fun h => hk (Or.elim h (fun h => (Or.inr (Or.inr (Or.inr (Or.inr (Or.inr (Or.inl h))))))) (fun h => (Or.inr (Or.inr (Or.inr (Or.inr (Or.inr (Or.inr (Or.inl h))))))))))).trans ((hug77.2 k j (fun h => hk (Or.inr (Or.inr (Or.inr (Or.inr (Or.inl h))))))).trans ((hfg75 k j (fun h => hk (Or.elim h (fun h => (Or.inr (Or.inr (Or.inr (Or.inl h))))) (fun h => (Or.inr (Or.inr (Or.inl h))))))).trans (hfg58 k j (fun h => hk (Or.elim h (fun h => (Or.inl h)) (fun h => (Or.elim h (fun h => (Or.inr (Or.inl h))) (fun h => (Or.inr (Or.inr (Or.inl h)))))))))))))) (by decide) (by decide) hE)
              · exfalso; omega
            · skip
              replace hE := zf_ip hE c104_74
              refine mm_g 2 (pc1 := 109) (lo1 := [some (.ref 81), some (.ref q1), some (.int (Int32.ofInt v54)), some (.int (Int32.ofInt v56))]) (st1 := [.int (Int32.ofInt 1), .ref 81]) (H1 := mz_mk g58 x) rfl ?_
              refine mz_cv rfl mt_4_95 (by decide) (sc_81 _) rfl (Nat.le_of_ble_eq_true rfl) (by omega) (f_X4_blame (by omega) hx hIg58 (by decide) (by decide) (fun v82 g83 hIg83 hfg83 l_v82 u_v82 hc84 => ⟨_, rfl, ?_⟩))
              show mm_W d mmX4_readSign 112 [some (.ref 81), some (.ref q1), some (.int (Int32.ofInt v54)), some (.int (Int32.ofInt v56))] [.int (Int32.ofInt v82)] (mz_mk g83 x) Q
              replace hE := zf_t2 hE hc84
              exact mz_rtZ rfl (by decide) (by omega) (hQ _ _ hIg83 (fun k j hk => ((hfg83 k j (fun h => hk (Or.elim h (fun h => (Or.inr (Or.inr (Or.inr (Or.inr (Or.inr (Or.inr (Or.inr (Or.inr (Or.inr (Or.inr (Or.inr (Or.inl h))))))))))))) (fun h => (Or.inr (Or.inr (Or.inr (Or.inr (Or.inr (Or.inr (Or.inr (Or.inr (Or.inr (Or.inr (Or.inr (Or.inr (Or.inl h))))))))))))))))).trans (hfg58 k j (fun h => hk (Or.elim h (fun h => (Or.inl h)) (fun h => (Or.elim h (fun h => (Or.inr (Or.inl h))) (fun h => (Or.inr (Or.inr (Or.inl h))))))))))) (by omega) (by omega) hE)
        · skip
          replace hE := zf_ip hE c78_57
          refine mm_g 2 (pc1 := 83) (lo1 := [some (.ref 81), some (.ref q1), some (.int (Int32.ofInt v54)), some (.int (Int32.ofInt v56))]) (st1 := [.int (Int32.ofInt 1), .int (Int32.ofInt v56), .ref q1, .ref 81]) (H1 := mz_mk g x) rfl ?_
          refine mz_iadd rfl ?_
          refine mz_gt (tgt := 88) rfl rfl ?_
          refine mz_cv rfl mt_4_170 (by decide) (sc_81 _) rfl (Nat.le_of_ble_eq_true rfl) (by omega) (f_X4_closeSigns (by omega) hx hI h_q1 (by omega) (by omega) (fun g85 hIg85 hfg85 hc86 => ⟨_, rfl, ?_⟩))
          show mm_W d mmX4_readSign 91 [some (.ref 81), some (.ref q1), some (.int (Int32.ofInt v54)), some (.int (Int32.ofInt v56))] [] (mz_mk g85 x) Q
          replace hE := zf_t1 hE hc86
          refine mm_g 2 (pc1 := 93) (lo1 := [some (.ref 81), some (.ref q1), some (.int (Int32.ofInt v54)), some (.int (Int32.ofInt v56))]) (st1 := [.int (Int32.ofInt 4), .int (Int32.ofInt v56)]) (H1 := mz_mk g85 x) rfl ?_
          refine mz_ic_ne (tgt := 113) rfl rfl (mz_rg l_v56 u_v56) ⟨by decide, by decide⟩ (fun c93_86 => ?_) (fun c93_86 => ?_)
          · exfalso; omega
          · skip
            replace hE := zf_ip hE c93_86
            refine mm_g 1 (pc1 := 97) (lo1 := [some (.ref 81), some (.ref q1), some (.int (Int32.ofInt v54)), some (.int (Int32.ofInt v56))]) (st1 := [.ref 81]) (H1 := mz_mk g85 x) rfl ?_
            refine mz_cv rfl mt_4_192 (by decide) (sc_81 _) rfl (Nat.le_of_ble_eq_true rfl) (by omega) (f_X4_lastOpen (by omega) hx hIg85 (fun v87 l_v87 u_v87 hc88 => ⟨_, rfl, ?_⟩))
            show mm_W d mmX4_readSign 100 [some (.ref 81), some (.ref q1), some (.int (Int32.ofInt v54)), some (.int (Int32.ofInt v56))] [.int (Int32.ofInt v87)] (mz_mk g85 x) Q
            replace hE := zf_t1 hE hc88
            refine mz_cs rfl mt_4_188 (by decide) rfl (Nat.le_of_ble_eq_true rfl) (by omega) (f_X4_rankOf (by omega) hx hIg85 l_v87 u_v87 (fun v89 l_v89 u_v89 hc90 => ⟨_, rfl, ?_⟩))
            show mm_W d mmX4_readSign 103 [some (.ref 81), some (.ref q1), some (.int (Int32.ofInt v54)), some (.int (Int32.ofInt v56))] [.int (Int32.ofInt v89)] (mz_mk g85 x) Q
            replace hE := zf_t1 hE hc90
            refine mm_g 1 (pc1 := 104) (lo1 := [some (.ref 81), some (.ref q1), some (.int (Int32.ofInt v54)), some (.int (Int32.ofInt v56))]) (st1 := [.int (Int32.ofInt 4), .int (Int32.ofInt v89)]) (H1 := mz_mk g85 x) rfl ?_
            refine mz_ic_ne (tgt := 113) rfl rfl (mz_rg l_v89 u_v89) ⟨by decide, by decide⟩ (fun c104_90 => ?_) (fun c104_90 => ?_)
            · skip
              replace hE := zf_in hE c104_90
              refine mm_g 2 (pc1 := 115) (lo1 := [some (.ref 81), some (.ref q1), some (.int (Int32.ofInt v54)), some (.int (Int32.ofInt v56))]) (st1 := [.int (Int32.ofInt v54), .ref 81]) (H1 := mz_mk g85 x) rfl ?_
              refine mz_cv rfl mt_4_174 (by decide) (sc_81 _) rfl (Nat.le_of_ble_eq_true rfl) (by omega) (f_X4_openSign (by omega) hx hIg85 (by omega) (by omega) (fun g91 hIg91 hfg91 hc92 => ⟨_, rfl, ?_⟩))
              show mm_W d mmX4_readSign 118 [some (.ref 81), some (.ref q1), some (.int (Int32.ofInt v54)), some (.int (Int32.ofInt v56))] [] (mz_mk g91 x) Q
              replace hE := zf_t1 hE hc92
              refine mm_g 2 (pc1 := 120) (lo1 := [some (.ref 81), some (.ref q1), some (.int (Int32.ofInt v54)), some (.int (Int32.ofInt v56))]) (st1 := [.int (Int32.ofInt 1), .ref 81]) (H1 := mz_mk g91 x) rfl ?_
              refine mz_pZ rfl fd_4_38 (sc_81 _) (by decide) hIg91 bd_81_7 (by omega) (by omega) (fun g93 hIg93 hug93 => ?_)
              replace hE := zf_tr hE (zf_lg hug93)
              refine mm_g 3 (pc1 := 126) (lo1 := [some (.ref 81), some (.ref q1), some (.int (Int32.ofInt v54)), some (.int (Int32.ofInt v56))]) (st1 := [.int (Int32.ofInt 2), .int (Int32.ofInt v56), .ref 81]) (H1 := mz_mk g93 x) rfl ?_
              refine mz_ic_gt (tgt := 133) rfl rfl (mz_rg l_v56 u_v56) ⟨by decide, by decide⟩ (fun c126_93 => ?_) (fun c126_93 => ?_)
              · skip
                replace hE := zf_ip hE c126_93
                refine mm_g 1 (pc1 := 134) (lo1 := [some (.ref 81), some (.ref q1), some (.int (Int32.ofInt v54)), some (.int (Int32.ofInt v56))]) (st1 := [.int (Int32.ofInt 0), .ref 81]) (H1 := mz_mk g93 x) rfl ?_
                refine mz_cv rfl mt_4_157 (by decide) (sc_81 _) rfl (Nat.le_of_ble_eq_true rfl) (by omega) (f_X4_notsAnew (by omega) hx hIg93 (by decide) (by decide) (fun g94 hIg94 hfg94 hc95 => ⟨_, rfl, ?_⟩))
                show mm_W d mmX4_readSign 137 [some (.ref 81), some (.ref q1), some (.int (Int32.ofInt v54)), some (.int (Int32.ofInt v56))] [] (mz_mk g94 x) Q
                replace hE := zf_t1 hE hc95
                refine mm_g 1 (pc1 := 138) (lo1 := [some (.ref 81), some (.ref q1), some (.int (Int32.ofInt v54)), some (.int (Int32.ofInt v56))]) (st1 := [.ref 81]) (H1 := mz_mk g94 x) rfl ?_
                refine mz_fgR (v := 82) rfl fd_4_12 (by decide) (sc_81 _) (rf_81_0 _ _ _) ?_
                refine mz_cv rfl mt_4_99 (by decide) (sc_82 _) rfl (Nat.le_of_ble_eq_true rfl) (by omega) (f_X7_step (by omega) hx hIg94 (fun g96 hIg96 hfg96 hc97 => ⟨_, rfl, ?_⟩))
                show mm_W d mmX4_readSign 144 [some (.ref 81), some (.ref q1), some (.int (Int32.ofInt v54)), some (.int (Int32.ofInt v56))] [] (mz_mk g96 x) Q
                replace hE := zf_t1 hE hc97
                refine mm_g 1 (pc1 := 145) (lo1 := [some (.ref 81), some (.ref q1), some (.int (Int32.ofInt v54)), some (.int (Int32.ofInt v56))]) (st1 := [.int (Int32.ofInt 1)]) (H1 := mz_mk g96 x) rfl ?_
                exact mz_rtZ rfl (by decide) (by omega) (hQ _ _ hIg96 (fun k j hk => ((hfg96 k j (fun h => hk (Or.elim h (fun h => (Or.inr (Or.inr (Or.inr (Or.inr (Or.inr (Or.inr (Or.inr (Or.inl h))))))))) (fun h => (Or.elim h (fun h => (Or.inr (Or.inr (Or.inr (Or.inr (Or.inr (Or.inr (Or.inr (Or.inr (Or.inl h)))))))))) (fun h => (Or.elim h (fun h => (Or.inr (Or.inr (Or.inr (Or.inr (Or.inr (Or.inr (Or.inr (Or.inr (Or.inr (Or.inl h))))))))))) (fun h => (Or.inr (Or.inr (Or.inr (Or.inr (Or.inr (Or.inr (Or.inr (Or.inr (Or.inr (Or.inr (Or.inl h))))))))))))))))))).trans ((hfg94 k j (fun h => hk (Or.elim h (fun h => (Or.inr (Or.inr (Or.inr (Or.inr (Or.inr (Or.inl h))))))) (fun h => (Or.inr (Or.inr (Or.inr (Or.inr (Or.inr (Or.inr (Or.inl h))))))))))).trans ((hug93.2 k j (fun h => hk (Or.inr (Or.inr (Or.inr (Or.inr (Or.inl h))))))).trans ((hfg91 k j (fun h => hk (Or.elim h (fun h => (Or.inr (Or.inr (Or.inr (Or.inl h))))) (fun h => (Or.inr (Or.inr (Or.inl h))))))).trans (hfg85 k j (fun h => hk (Or.elim h (fun h => (Or.inl h)) (fun h => (Or.elim h (fun h => (Or.inr (Or.inl h))) (fun h => (Or.inr (Or.inr (Or.inl h)))))))))))))) (by decide) (by decide) hE)
              · exfalso; omega
            · skip
              replace hE := zf_ip hE c104_90
              refine mm_g 2 (pc1 := 109) (lo1 := [some (.ref 81), some (.ref q1), some (.int (Int32.ofInt v54)), some (.int (Int32.ofInt v56))]) (st1 := [.int (Int32.ofInt 1), .ref 81]) (H1 := mz_mk g85 x) rfl ?_
              refine mz_cv rfl mt_4_95 (by decide) (sc_81 _) rfl (Nat.le_of_ble_eq_true rfl) (by omega) (f_X4_blame (by omega) hx hIg85 (by decide) (by decide) (fun v98 g99 hIg99 hfg99 l_v98 u_v98 hc100 => ⟨_, rfl, ?_⟩))
              show mm_W d mmX4_readSign 112 [some (.ref 81), some (.ref q1), some (.int (Int32.ofInt v54)), some (.int (Int32.ofInt v56))] [.int (Int32.ofInt v98)] (mz_mk g99 x) Q
              replace hE := zf_t2 hE hc100
              exact mz_rtZ rfl (by decide) (by omega) (hQ _ _ hIg99 (fun k j hk => ((hfg99 k j (fun h => hk (Or.elim h (fun h => (Or.inr (Or.inr (Or.inr (Or.inr (Or.inr (Or.inr (Or.inr (Or.inr (Or.inr (Or.inr (Or.inr (Or.inl h))))))))))))) (fun h => (Or.inr (Or.inr (Or.inr (Or.inr (Or.inr (Or.inr (Or.inr (Or.inr (Or.inr (Or.inr (Or.inr (Or.inr (Or.inl h))))))))))))))))).trans (hfg85 k j (fun h => hk (Or.elim h (fun h => (Or.inl h)) (fun h => (Or.elim h (fun h => (Or.inr (Or.inl h))) (fun h => (Or.inr (Or.inr (Or.inl h))))))))))) (by omega) (by omega) hE)
      · skip
        replace hE := zf_ip hE c65_57
        refine mm_g 2 (pc1 := 70) (lo1 := [some (.ref 81), some (.ref q1), some (.int (Int32.ofInt v54)), some (.int (Int32.ofInt v56))]) (st1 := [.int (Int32.ofInt 1), .ref 81]) (H1 := mz_mk g x) rfl ?_
        refine mz_cv rfl mt_4_95 (by decide) (sc_81 _) rfl (Nat.le_of_ble_eq_true rfl) (by omega) (f_X4_blame (by omega) hx hI (by decide) (by decide) (fun v101 g102 hIg102 hfg102 l_v101 u_v101 hc103 => ⟨_, rfl, ?_⟩))
        show mm_W d mmX4_readSign 73 [some (.ref 81), some (.ref q1), some (.int (Int32.ofInt v54)), some (.int (Int32.ofInt v56))] [.int (Int32.ofInt v101)] (mz_mk g102 x) Q
        replace hE := zf_t2 hE hc103
        exact mz_rtZ rfl (by decide) (by omega) (hQ _ _ hIg102 (fun k j hk => (hfg102 k j (fun h => hk (Or.elim h (fun h => (Or.inr (Or.inr (Or.inr (Or.inr (Or.inr (Or.inr (Or.inr (Or.inr (Or.inr (Or.inr (Or.inr (Or.inl h))))))))))))) (fun h => (Or.inr (Or.inr (Or.inr (Or.inr (Or.inr (Or.inr (Or.inr (Or.inr (Or.inr (Or.inr (Or.inr (Or.inr (Or.inl h)))))))))))))))))) (by omega) (by omega) hE)
    · skip
      replace hE := zf_ip hE c16_53
      refine mm_g 3 (pc1 := 22) (lo1 := [some (.ref 81), some (.ref q1), none, none]) (st1 := [.int (Int32.ofInt 1), .ref q1, .ref 81]) (H1 := mz_mk g x) rfl ?_
      refine mz_cv rfl mt_4_170 (by decide) (sc_81 _) rfl (Nat.le_of_ble_eq_true rfl) (by omega) (f_X4_closeSigns (by omega) hx hI h_q1 (by decide) (by decide) (fun g104 hIg104 hfg104 hc105 => ⟨_, rfl, ?_⟩))
      show mm_W d mmX4_readSign 25 [some (.ref 81), some (.ref q1), none, none] [] (mz_mk g104 x) Q
      replace hE := zf_t1 hE hc105
      refine mm_g 2 (pc1 := 27) (lo1 := [some (.ref 81), some (.ref q1), none, none]) (st1 := [.ref 81, .ref 81]) (H1 := mz_mk g104 x) rfl ?_
      refine mz_gI rfl fd_4_29 (by decide) (sc_81 _) hIg104 bd_81_4 (fun v106 e_v106 l_v106 u_v106 => ?_)
      replace hE := zf_tr hE (zf_le e_v106)
      refine mm_g 1 (pc1 := 31) (lo1 := [some (.ref 81), some (.ref q1), none, none]) (st1 := [.int (Int32.ofInt 1), .int (Int32.ofInt v106), .ref 81]) (H1 := mz_mk g104 x) rfl ?_
      refine mz_isub_w rfl (fun v107 e_v107 hwv107 => ?_)
      have l_v107 := hwv107.1
      have u_v107 := hwv107.2
      replace hE := zf_tr hE (zf_le e_v107.symm)
      refine mz_pI rfl fd_4_29 (sc_81 _) hIg104 bd_81_4 (by omega) (by omega) (fun g108 hIg108 hug108 => ?_)
      replace hE := zf_tr hE (zf_lg hug108)
      refine mm_g 2 (pc1 := 37) (lo1 := [some (.ref 81), some (.ref q1), none, none]) (st1 := [.ref 81, .ref 81]) (H1 := mz_mk g108 x) rfl ?_
      refine mz_fgI (v := v53) rfl fd_4_32 (by decide) (sc_81 _) (show g108 81 5 = v53 from ((hug108.2 81 5 (fun h => absurd h.2 (by decide))).trans ((hfg104 81 5 (fun h => (Or.elim h (fun h => (by have h9 : 81 = (q1 + 1) := h; omega)) (fun h => (Or.elim h (fun h => (by have h9 : 81 = q1 := h; omega)) (fun h => (absurd (show (81 = 81 ∧ 5 = 4) from h) (by decide)))))))).trans e_v53))) ?_
      replace hE := zf_tr hE (zf_le (show g108 81 5 = v53 from ((hug108.2 81 5 (fun h => absurd h.2 (by decide))).trans ((hfg104 81 5 (fun h => (Or.elim h (fun h => (by have h9 : 81 = (q1 + 1) := h; omega)) (fun h => (Or.elim h (fun h => (by have h9 : 81 = q1 := h; omega)) (fun h => (absurd (show (81 = 81 ∧ 5 = 4) from h) (by decide)))))))).trans e_v53))))
      refine mm_g 1 (pc1 := 41) (lo1 := [some (.ref 81), some (.ref q1), none, none]) (st1 := [.int (Int32.ofInt 1), .int (Int32.ofInt v53), .ref 81]) (H1 := mz_mk g108 x) rfl ?_
      refine mz_isub rfl ?_
      refine mz_pI rfl fd_4_32 (sc_81 _) hIg108 bd_81_5 (by omega) (by omega) (fun g109 hIg109 hug109 => ?_)
      replace hE := zf_tr hE (zf_lg hug109)
      refine mm_g 1 (pc1 := 46) (lo1 := [some (.ref 81), some (.ref q1), none, none]) (st1 := [.ref 81]) (H1 := mz_mk g109 x) rfl ?_
      refine mz_fgR (v := 82) rfl fd_4_12 (by decide) (sc_81 _) (rf_81_0 _ _ _) ?_
      refine mz_cv rfl mt_4_99 (by decide) (sc_82 _) rfl (Nat.le_of_ble_eq_true rfl) (by omega) (f_X7_step (by omega) hx hIg109 (fun g110 hIg110 hfg110 hc111 => ⟨_, rfl, ?_⟩))
      show mm_W d mmX4_readSign 52 [some (.ref 81), some (.ref q1), none, none] [] (mz_mk g110 x) Q
      replace hE := zf_t1 hE hc111
      refine mm_g 1 (pc1 := 53) (lo1 := [some (.ref 81), some (.ref q1), none, none]) (st1 := [.int (Int32.ofInt 1)]) (H1 := mz_mk g110 x) rfl ?_
      exact mz_rtZ rfl (by decide) (by omega) (hQ _ _ hIg110 (fun k j hk => ((hfg110 k j (fun h => hk (Or.elim h (fun h => (Or.inr (Or.inr (Or.inr (Or.inr (Or.inr (Or.inr (Or.inr (Or.inl h))))))))) (fun h => (Or.elim h (fun h => (Or.inr (Or.inr (Or.inr (Or.inr (Or.inr (Or.inr (Or.inr (Or.inr (Or.inl h)))))))))) (fun h => (Or.elim h (fun h => (Or.inr (Or.inr (Or.inr (Or.inr (Or.inr (Or.inr (Or.inr (Or.inr (Or.inr (Or.inl h))))))))))) (fun h => (Or.inr (Or.inr (Or.inr (Or.inr (Or.inr (Or.inr (Or.inr (Or.inr (Or.inr (Or.inr (Or.inl h))))))))))))))))))).trans ((hug109.2 k j (fun h => hk (Or.inr (Or.inr (Or.inr (Or.inr (Or.inr (Or.inr (Or.inr (Or.inr (Or.inr (Or.inr (Or.inr (Or.inr (Or.inr h))))))))))))))).trans ((hug108.2 k j (fun h => hk (Or.inr (Or.inr (Or.inl h))))).trans (hfg104 k j (fun h => hk (Or.elim h (fun h => (Or.inl h)) (fun h => (Or.elim h (fun h => (Or.inr (Or.inl h))) (fun h => (Or.inr (Or.inr (Or.inl h))))))))))))) (by decide) (by decide) hE)
def fl_X4_readGrows_44 (x : mm_X) (q1 : Nat) : Nat → Nat → Prop := fun k j => k = (q1 + 1) ∨ k = q1 ∨ (k = 81 ∧ j = 7) ∨ (k = 82 ∧ j = 3) ∨ (k = 82 ∧ j = 5) ∨ (k = 82 ∧ j = 6) ∨ (k = 82 ∧ j = 4) ∨ (k = 81 ∧ j = 1) ∨ (k = 81 ∧ j = 2) ∨ (k = 81 ∧ j = 6) ∨ k = 84 ∨ (k = 81 ∧ j = 4) ∨ (k = 81 ∧ j = 5) ∨ (k = 81 ∧ j = 8)
def fw_X4_readGrows (x : mm_X) (q1 : Nat) : Nat → Nat → Prop := fun k j => (k = 82 ∧ j = 3) ∨ (k = 82 ∧ j = 5) ∨ (k = 82 ∧ j = 6) ∨ (k = 82 ∧ j = 4) ∨ (k = 81 ∧ j = 4) ∨ (k = 81 ∧ j = 5) ∨ (k = 81 ∧ j = 7) ∨ (k = 81 ∧ j = 8) ∨ (k = 81 ∧ j = 6) ∨ k = (q1 + 1) ∨ k = q1 ∨ (k = 81 ∧ j = 1) ∨ (k = 81 ∧ j = 2) ∨ k = 84
theorem f_X4_readGrows {d : Nat} (hd : 8 ≤ d) {x : mm_X} (hx : mk_x x) {g : mz_G} (hI : mz_inv g) {q1 : Nat} (h_q1 : kd_rule q1) {Q : (Option Value ⊕ Nat) → mm_H → Prop} (hQ : ∀ (r : Int) (g1 : mz_G), mz_inv g1 → mz_fr (fw_X4_readGrows x q1) g g1 → 0 ≤ r → r ≤ 1 → zf_E (zF_X4_readGrows q1 g) ((r, g1)) → Q (.inl (some (.int (Int32.ofInt r)))) (mz_mk g1 x)) : mm_C d 46 [.ref 81, .ref q1] (mz_mk g x) Q := by
  have kn_q1 := kn_rule h_q1
  refine ⟨mmX4_readGrows, [some (.ref 81), some (.ref q1), none, none], rfl, rfl, ?_⟩
  have hE : zf_E (zF_X4_readGrows q1 g) (zF_X4_readGrows q1 g) := zf_rf
  refine mm_g 1 (pc1 := 1) (lo1 := [some (.ref 81), some (.ref q1), none, none]) (st1 := [.ref q1]) (H1 := mz_mk g x) rfl ?_
  refine mz_cv rfl mt_4_151 (by decide) (kc_rule h_q1 _) rfl (Nat.le_of_ble_eq_true rfl) (by omega) (f_X5_isTold (by omega) hx hI h_q1 (fun v1 l_v1 u_v1 hc2 => ⟨_, rfl, ?_⟩))
  show mm_W d mmX4_readGrows 4 [some (.ref 81), some (.ref q1), none, none] [.int (Int32.ofInt v1)] (mz_mk g x) Q
  replace hE := zf_t1 hE hc2
  refine mz_if_eq (tgt := 13) rfl rfl (mz_rg l_v1 u_v1) (fun c4_2 => ?_) (fun c4_2 => ?_)
  · skip
    replace hE := zf_ip hE c4_2
    refine mm_g 1 (pc1 := 14) (lo1 := [some (.ref 81), some (.ref q1), none, none]) (st1 := [.ref 81]) (H1 := mz_mk g x) rfl ?_
    refine mz_fgR (v := 82) rfl fd_4_12 (by decide) (sc_81 _) (rf_81_0 _ _ _) ?_
    refine mz_cv rfl mt_4_99 (by decide) (sc_82 _) rfl (Nat.le_of_ble_eq_true rfl) (by omega) (f_X7_step (by omega) hx hI (fun g3 hIg3 hfg3 hc4 => ⟨_, rfl, ?_⟩))
    show mm_W d mmX4_readGrows 20 [some (.ref 81), some (.ref q1), none, none] [] (mz_mk g3 x) Q
    replace hE := zf_t1 hE hc4
    refine mm_g 2 (pc1 := 22) (lo1 := [some (.ref 81), some (.ref q1), none, none]) (st1 := [.int (Int32.ofInt 0), .ref 81]) (H1 := mz_mk g3 x) rfl ?_
    refine mz_pI rfl fd_4_29 (sc_81 _) hIg3 bd_81_4 (by omega) (by omega) (fun g5 hIg5 hug5 => ?_)
    replace hE := zf_tr hE (zf_lg hug5)
    refine mm_g 2 (pc1 := 27) (lo1 := [some (.ref 81), some (.ref q1), none, none]) (st1 := [.int (Int32.ofInt 0), .ref 81]) (H1 := mz_mk g5 x) rfl ?_
    refine mz_pI rfl fd_4_32 (sc_81 _) hIg5 bd_81_5 (by omega) (by omega) (fun g6 hIg6 hug6 => ?_)
    replace hE := zf_tr hE (zf_lg hug6)
    refine mm_g 2 (pc1 := 32) (lo1 := [some (.ref 81), some (.ref q1), none, none]) (st1 := [.int (Int32.ofInt 1), .ref 81]) (H1 := mz_mk g6 x) rfl ?_
    refine mz_pZ rfl fd_4_38 (sc_81 _) (by decide) hIg6 bd_81_7 (by omega) (by omega) (fun g7 hIg7 hug7 => ?_)
    replace hE := zf_tr hE (zf_lg hug7)
    refine mm_g 2 (pc1 := 37) (lo1 := [some (.ref 81), some (.ref q1), none, none]) (st1 := [.int (Int32.ofInt 1), .ref 81]) (H1 := mz_mk g7 x) rfl ?_
    refine mz_cv rfl mt_4_157 (by decide) (sc_81 _) rfl (Nat.le_of_ble_eq_true rfl) (by omega) (f_X4_notsAnew (by omega) hx hIg7 (by decide) (by decide) (fun g8 hIg8 hfg8 hc9 => ⟨_, rfl, ?_⟩))
    show mm_W d mmX4_readGrows 40 [some (.ref 81), some (.ref q1), none, none] [] (mz_mk g8 x) Q
    replace hE := zf_t1 hE hc9
    refine mm_g 4 (pc1 := 44) (lo1 := [some (.ref 81), some (.ref q1), some (.int (Int32.ofInt 1)), some (.int (Int32.ofInt 0))]) (st1 := []) (H1 := mz_mk g8 x) rfl ?_
    have L15 : ∀ n14 : Nat, ∀ (v10 : Int) (v11 : Int) (g12 : mz_G), (701 - v11).toNat = n14 → 0 ≤ v10 → v10 ≤ 1 → 0 ≤ v11 → v11 ≤ 701 → mz_inv g12 → mz_fr (fl_X4_readGrows_44 x q1) g8 g12 → (∃ fk : Nat, (701 - v11).toNat < fk ∧ zf_E (zF_X4_readGrows q1 g) (zL_X4_readGrows_44 q1 fk v10 v11 g12)) → mm_W d mmX4_readGrows 44 [some (.ref 81), some (.ref q1), some (.int (Int32.ofInt v10)), some (.int (Int32.ofInt v11))] [] (mz_mk g12 x) Q := by
      intro n14
      induction n14 using Nat.strongRecOn with
      | ind n14 ih13 =>
      intro v10 v11 g12 hmn14 l_v10 u_v10 l_v11 u_v11 hIg12 hfg12 hF
      obtain ⟨fk, fl, hE⟩ := hF
      obtain ⟨fj16, rfl⟩ : ∃ fj, fk = fj + 1 := ⟨fk - 1, by omega⟩
      have fn17 : n14 ≤ fj16 := by omega
      replace hE := zf_tr hE zL_X4_readGrows_44_s
      refine mm_g 1 (pc1 := 45) (lo1 := [some (.ref 81), some (.ref q1), some (.int (Int32.ofInt v10)), some (.int (Int32.ofInt v11))]) (st1 := [.int (Int32.ofInt v11)]) (H1 := mz_mk g12 x) rfl ?_
      refine mz_sip rfl sip_700 ?_
      refine mz_ic_gt (tgt := 89) rfl rfl (mz_rg l_v11 u_v11) ⟨by decide, by decide⟩ (fun c48_17 => ?_) (fun c48_17 => ?_)
      · skip
        replace hE := zf_ip hE c48_17
        refine mm_g 3 (pc1 := 92) (lo1 := [some (.ref 81), some (.ref q1), some (.int (Int32.ofInt v10)), some (.int (Int32.ofInt v11))]) (st1 := [.int (Int32.ofInt 1), .ref q1, .ref 81]) (H1 := mz_mk g12 x) rfl ?_
        refine mz_cv rfl mt_4_170 (by decide) (sc_81 _) rfl (Nat.le_of_ble_eq_true rfl) (by omega) (f_X4_closeSigns (by omega) hx hIg12 h_q1 (by decide) (by decide) (fun g18 hIg18 hfg18 hc19 => ⟨_, rfl, ?_⟩))
        show mm_W d mmX4_readGrows 95 [some (.ref 81), some (.ref q1), some (.int (Int32.ofInt v10)), some (.int (Int32.ofInt v11))] [] (mz_mk g18 x) Q
        replace hE := zf_t1 hE hc19
        refine mm_g 1 (pc1 := 96) (lo1 := [some (.ref 81), some (.ref q1), some (.int (Int32.ofInt v10)), some (.int (Int32.ofInt v11))]) (st1 := [.int (Int32.ofInt v10)]) (H1 := mz_mk g18 x) rfl ?_
        exact mz_rtZ rfl (by decide) (by omega) (hQ _ _ hIg18 (fun k j hk => ((hfg18 k j (fun h => hk (Or.elim h (fun h => (Or.inr (Or.inr (Or.inr (Or.inr (Or.inr (Or.inr (Or.inr (Or.inr (Or.inr (Or.inl h))))))))))) (fun h => (Or.elim h (fun h => (Or.inr (Or.inr (Or.inr (Or.inr (Or.inr (Or.inr (Or.inr (Or.inr (Or.inr (Or.inr (Or.inl h)))))))))))) (fun h => (Or.inr (Or.inr (Or.inr (Or.inr (Or.inl h))))))))))).trans ((hfg12 k j (fun h => hk (Or.elim h (fun h => (Or.inr (Or.inr (Or.inr (Or.inr (Or.inr (Or.inr (Or.inr (Or.inr (Or.inr (Or.inl h))))))))))) (fun h => (Or.elim h (fun h => (Or.inr (Or.inr (Or.inr (Or.inr (Or.inr (Or.inr (Or.inr (Or.inr (Or.inr (Or.inr (Or.inl h)))))))))))) (fun h => (Or.elim h (fun h => (Or.inr (Or.inr (Or.inr (Or.inr (Or.inr (Or.inr (Or.inl h)))))))) (fun h => (Or.elim h (fun h => (Or.inl h)) (fun h => (Or.elim h (fun h => (Or.inr (Or.inl h))) (fun h => (Or.elim h (fun h => (Or.inr (Or.inr (Or.inl h)))) (fun h => (Or.elim h (fun h => (Or.inr (Or.inr (Or.inr (Or.inl h))))) (fun h => (Or.elim h (fun h => (Or.inr (Or.inr (Or.inr (Or.inr (Or.inr (Or.inr (Or.inr (Or.inr (Or.inr (Or.inr (Or.inr (Or.inl h))))))))))))) (fun h => (Or.elim h (fun h => (Or.inr (Or.inr (Or.inr (Or.inr (Or.inr (Or.inr (Or.inr (Or.inr (Or.inr (Or.inr (Or.inr (Or.inr (Or.inl h)))))))))))))) (fun h => (Or.elim h (fun h => (Or.inr (Or.inr (Or.inr (Or.inr (Or.inr (Or.inr (Or.inr (Or.inr (Or.inl h)))))))))) (fun h => (Or.elim h (fun h => (Or.inr (Or.inr (Or.inr (Or.inr (Or.inr (Or.inr (Or.inr (Or.inr (Or.inr (Or.inr (Or.inr (Or.inr (Or.inr h)))))))))))))) (fun h => (Or.elim h (fun h => (Or.inr (Or.inr (Or.inr (Or.inr (Or.inl h)))))) (fun h => (Or.elim h (fun h => (Or.inr (Or.inr (Or.inr (Or.inr (Or.inr (Or.inl h))))))) (fun h => (Or.inr (Or.inr (Or.inr (Or.inr (Or.inr (Or.inr (Or.inr (Or.inl h)))))))))))))))))))))))))))))))))))).trans ((hfg8 k j (fun h => hk (Or.elim h (fun h => (Or.inr (Or.inr (Or.inr (Or.inr (Or.inr (Or.inr (Or.inr (Or.inl h))))))))) (fun h => (Or.inr (Or.inr (Or.inr (Or.inr (Or.inr (Or.inr (Or.inr (Or.inr (Or.inl h))))))))))))).trans ((hug7.2 k j (fun h => hk (Or.inr (Or.inr (Or.inr (Or.inr (Or.inr (Or.inr (Or.inl h))))))))).trans ((hug6.2 k j (fun h => hk (Or.inr (Or.inr (Or.inr (Or.inr (Or.inr (Or.inl h)))))))).trans ((hug5.2 k j (fun h => hk (Or.inr (Or.inr (Or.inr (Or.inr (Or.inl h))))))).trans (hfg3 k j (fun h => hk (Or.elim h (fun h => (Or.inl h)) (fun h => (Or.elim h (fun h => (Or.inr (Or.inl h))) (fun h => (Or.elim h (fun h => (Or.inr (Or.inr (Or.inl h)))) (fun h => (Or.inr (Or.inr (Or.inr (Or.inl h))))))))))))))))))) (by omega) (by omega) hE)
      · skip
        replace hE := zf_nl hE c48_17
        refine mm_g 1 (pc1 := 52) (lo1 := [some (.ref 81), some (.ref q1), some (.int (Int32.ofInt v10)), some (.int (Int32.ofInt v11))]) (st1 := [.int (Int32.ofInt v10)]) (H1 := mz_mk g12 x) rfl ?_
        refine mz_if_eq (tgt := 89) rfl rfl (mz_rg l_v10 u_v10) (fun c52_19 => ?_) (fun c52_19 => ?_)
        · skip
          replace hE := zf_ip hE c52_19
          refine mm_g 3 (pc1 := 92) (lo1 := [some (.ref 81), some (.ref q1), some (.int (Int32.ofInt v10)), some (.int (Int32.ofInt v11))]) (st1 := [.int (Int32.ofInt 1), .ref q1, .ref 81]) (H1 := mz_mk g12 x) rfl ?_
          refine mz_cv rfl mt_4_170 (by decide) (sc_81 _) rfl (Nat.le_of_ble_eq_true rfl) (by omega) (f_X4_closeSigns (by omega) hx hIg12 h_q1 (by decide) (by decide) (fun g20 hIg20 hfg20 hc21 => ⟨_, rfl, ?_⟩))
          show mm_W d mmX4_readGrows 95 [some (.ref 81), some (.ref q1), some (.int (Int32.ofInt v10)), some (.int (Int32.ofInt v11))] [] (mz_mk g20 x) Q
          replace hE := zf_t1 hE hc21
          refine mm_g 1 (pc1 := 96) (lo1 := [some (.ref 81), some (.ref q1), some (.int (Int32.ofInt v10)), some (.int (Int32.ofInt v11))]) (st1 := [.int (Int32.ofInt v10)]) (H1 := mz_mk g20 x) rfl ?_
          exact mz_rtZ rfl (by decide) (by omega) (hQ _ _ hIg20 (fun k j hk => ((hfg20 k j (fun h => hk (Or.elim h (fun h => (Or.inr (Or.inr (Or.inr (Or.inr (Or.inr (Or.inr (Or.inr (Or.inr (Or.inr (Or.inl h))))))))))) (fun h => (Or.elim h (fun h => (Or.inr (Or.inr (Or.inr (Or.inr (Or.inr (Or.inr (Or.inr (Or.inr (Or.inr (Or.inr (Or.inl h)))))))))))) (fun h => (Or.inr (Or.inr (Or.inr (Or.inr (Or.inl h))))))))))).trans ((hfg12 k j (fun h => hk (Or.elim h (fun h => (Or.inr (Or.inr (Or.inr (Or.inr (Or.inr (Or.inr (Or.inr (Or.inr (Or.inr (Or.inl h))))))))))) (fun h => (Or.elim h (fun h => (Or.inr (Or.inr (Or.inr (Or.inr (Or.inr (Or.inr (Or.inr (Or.inr (Or.inr (Or.inr (Or.inl h)))))))))))) (fun h => (Or.elim h (fun h => (Or.inr (Or.inr (Or.inr (Or.inr (Or.inr (Or.inr (Or.inl h)))))))) (fun h => (Or.elim h (fun h => (Or.inl h)) (fun h => (Or.elim h (fun h => (Or.inr (Or.inl h))) (fun h => (Or.elim h (fun h => (Or.inr (Or.inr (Or.inl h)))) (fun h => (Or.elim h (fun h => (Or.inr (Or.inr (Or.inr (Or.inl h))))) (fun h => (Or.elim h (fun h => (Or.inr (Or.inr (Or.inr (Or.inr (Or.inr (Or.inr (Or.inr (Or.inr (Or.inr (Or.inr (Or.inr (Or.inl h))))))))))))) (fun h => (Or.elim h (fun h => (Or.inr (Or.inr (Or.inr (Or.inr (Or.inr (Or.inr (Or.inr (Or.inr (Or.inr (Or.inr (Or.inr (Or.inr (Or.inl h)))))))))))))) (fun h => (Or.elim h (fun h => (Or.inr (Or.inr (Or.inr (Or.inr (Or.inr (Or.inr (Or.inr (Or.inr (Or.inl h)))))))))) (fun h => (Or.elim h (fun h => (Or.inr (Or.inr (Or.inr (Or.inr (Or.inr (Or.inr (Or.inr (Or.inr (Or.inr (Or.inr (Or.inr (Or.inr (Or.inr h)))))))))))))) (fun h => (Or.elim h (fun h => (Or.inr (Or.inr (Or.inr (Or.inr (Or.inl h)))))) (fun h => (Or.elim h (fun h => (Or.inr (Or.inr (Or.inr (Or.inr (Or.inr (Or.inl h))))))) (fun h => (Or.inr (Or.inr (Or.inr (Or.inr (Or.inr (Or.inr (Or.inr (Or.inl h)))))))))))))))))))))))))))))))))))).trans ((hfg8 k j (fun h => hk (Or.elim h (fun h => (Or.inr (Or.inr (Or.inr (Or.inr (Or.inr (Or.inr (Or.inr (Or.inl h))))))))) (fun h => (Or.inr (Or.inr (Or.inr (Or.inr (Or.inr (Or.inr (Or.inr (Or.inr (Or.inl h))))))))))))).trans ((hug7.2 k j (fun h => hk (Or.inr (Or.inr (Or.inr (Or.inr (Or.inr (Or.inr (Or.inl h))))))))).trans ((hug6.2 k j (fun h => hk (Or.inr (Or.inr (Or.inr (Or.inr (Or.inr (Or.inl h)))))))).trans ((hug5.2 k j (fun h => hk (Or.inr (Or.inr (Or.inr (Or.inr (Or.inl h))))))).trans (hfg3 k j (fun h => hk (Or.elim h (fun h => (Or.inl h)) (fun h => (Or.elim h (fun h => (Or.inr (Or.inl h))) (fun h => (Or.elim h (fun h => (Or.inr (Or.inr (Or.inl h)))) (fun h => (Or.inr (Or.inr (Or.inr (Or.inl h))))))))))))))))))) (by omega) (by omega) hE)
        · skip
          replace hE := zf_in hE c52_19
          refine mm_g 1 (pc1 := 56) (lo1 := [some (.ref 81), some (.ref q1), some (.int (Int32.ofInt v10)), some (.int (Int32.ofInt v11))]) (st1 := [.ref 81]) (H1 := mz_mk g12 x) rfl ?_
          refine mz_cv rfl mt_4_161 (by decide) (sc_81 _) rfl (Nat.le_of_ble_eq_true rfl) (by omega) (f_X4_exprEnds (by omega) hx hIg12 (fun v22 l_v22 u_v22 hc23 => ⟨_, rfl, ?_⟩))
          show mm_W d mmX4_readGrows 59 [some (.ref 81), some (.ref q1), some (.int (Int32.ofInt v10)), some (.int (Int32.ofInt v11))] [.int (Int32.ofInt v22)] (mz_mk g12 x) Q
          replace hE := zf_t1 hE hc23
          refine mz_if_ne (tgt := 89) rfl rfl (mz_rg l_v22 u_v22) (fun c59_23 => ?_) (fun c59_23 => ?_)
          · skip
            replace hE := zf_in hE c59_23
            refine mm_g 3 (pc1 := 92) (lo1 := [some (.ref 81), some (.ref q1), some (.int (Int32.ofInt v10)), some (.int (Int32.ofInt v11))]) (st1 := [.int (Int32.ofInt 1), .ref q1, .ref 81]) (H1 := mz_mk g12 x) rfl ?_
            refine mz_cv rfl mt_4_170 (by decide) (sc_81 _) rfl (Nat.le_of_ble_eq_true rfl) (by omega) (f_X4_closeSigns (by omega) hx hIg12 h_q1 (by decide) (by decide) (fun g24 hIg24 hfg24 hc25 => ⟨_, rfl, ?_⟩))
            show mm_W d mmX4_readGrows 95 [some (.ref 81), some (.ref q1), some (.int (Int32.ofInt v10)), some (.int (Int32.ofInt v11))] [] (mz_mk g24 x) Q
            replace hE := zf_t1 hE hc25
            refine mm_g 1 (pc1 := 96) (lo1 := [some (.ref 81), some (.ref q1), some (.int (Int32.ofInt v10)), some (.int (Int32.ofInt v11))]) (st1 := [.int (Int32.ofInt v10)]) (H1 := mz_mk g24 x) rfl ?_
            exact mz_rtZ rfl (by decide) (by omega) (hQ _ _ hIg24 (fun k j hk => ((hfg24 k j (fun h => hk (Or.elim h (fun h => (Or.inr (Or.inr (Or.inr (Or.inr (Or.inr (Or.inr (Or.inr (Or.inr (Or.inr (Or.inl h))))))))))) (fun h => (Or.elim h (fun h => (Or.inr (Or.inr (Or.inr (Or.inr (Or.inr (Or.inr (Or.inr (Or.inr (Or.inr (Or.inr (Or.inl h)))))))))))) (fun h => (Or.inr (Or.inr (Or.inr (Or.inr (Or.inl h))))))))))).trans ((hfg12 k j (fun h => hk (Or.elim h (fun h => (Or.inr (Or.inr (Or.inr (Or.inr (Or.inr (Or.inr (Or.inr (Or.inr (Or.inr (Or.inl h))))))))))) (fun h => (Or.elim h (fun h => (Or.inr (Or.inr (Or.inr (Or.inr (Or.inr (Or.inr (Or.inr (Or.inr (Or.inr (Or.inr (Or.inl h)))))))))))) (fun h => (Or.elim h (fun h => (Or.inr (Or.inr (Or.inr (Or.inr (Or.inr (Or.inr (Or.inl h)))))))) (fun h => (Or.elim h (fun h => (Or.inl h)) (fun h => (Or.elim h (fun h => (Or.inr (Or.inl h))) (fun h => (Or.elim h (fun h => (Or.inr (Or.inr (Or.inl h)))) (fun h => (Or.elim h (fun h => (Or.inr (Or.inr (Or.inr (Or.inl h))))) (fun h => (Or.elim h (fun h => (Or.inr (Or.inr (Or.inr (Or.inr (Or.inr (Or.inr (Or.inr (Or.inr (Or.inr (Or.inr (Or.inr (Or.inl h))))))))))))) (fun h => (Or.elim h (fun h => (Or.inr (Or.inr (Or.inr (Or.inr (Or.inr (Or.inr (Or.inr (Or.inr (Or.inr (Or.inr (Or.inr (Or.inr (Or.inl h)))))))))))))) (fun h => (Or.elim h (fun h => (Or.inr (Or.inr (Or.inr (Or.inr (Or.inr (Or.inr (Or.inr (Or.inr (Or.inl h)))))))))) (fun h => (Or.elim h (fun h => (Or.inr (Or.inr (Or.inr (Or.inr (Or.inr (Or.inr (Or.inr (Or.inr (Or.inr (Or.inr (Or.inr (Or.inr (Or.inr h)))))))))))))) (fun h => (Or.elim h (fun h => (Or.inr (Or.inr (Or.inr (Or.inr (Or.inl h)))))) (fun h => (Or.elim h (fun h => (Or.inr (Or.inr (Or.inr (Or.inr (Or.inr (Or.inl h))))))) (fun h => (Or.inr (Or.inr (Or.inr (Or.inr (Or.inr (Or.inr (Or.inr (Or.inl h)))))))))))))))))))))))))))))))))))).trans ((hfg8 k j (fun h => hk (Or.elim h (fun h => (Or.inr (Or.inr (Or.inr (Or.inr (Or.inr (Or.inr (Or.inr (Or.inl h))))))))) (fun h => (Or.inr (Or.inr (Or.inr (Or.inr (Or.inr (Or.inr (Or.inr (Or.inr (Or.inl h))))))))))))).trans ((hug7.2 k j (fun h => hk (Or.inr (Or.inr (Or.inr (Or.inr (Or.inr (Or.inr (Or.inl h))))))))).trans ((hug6.2 k j (fun h => hk (Or.inr (Or.inr (Or.inr (Or.inr (Or.inr (Or.inl h)))))))).trans ((hug5.2 k j (fun h => hk (Or.inr (Or.inr (Or.inr (Or.inr (Or.inl h))))))).trans (hfg3 k j (fun h => hk (Or.elim h (fun h => (Or.inl h)) (fun h => (Or.elim h (fun h => (Or.inr (Or.inl h))) (fun h => (Or.elim h (fun h => (Or.inr (Or.inr (Or.inl h)))) (fun h => (Or.inr (Or.inr (Or.inr (Or.inl h))))))))))))))))))) (by omega) (by omega) hE)
          · skip
            replace hE := zf_ip hE c59_23
            refine mm_g 1 (pc1 := 63) (lo1 := [some (.ref 81), some (.ref q1), some (.int (Int32.ofInt v10)), some (.int (Int32.ofInt v11))]) (st1 := [.ref 81]) (H1 := mz_mk g12 x) rfl ?_
            refine mz_gI rfl fd_4_38 (by decide) (sc_81 _) hIg12 bd_81_7 (fun v26 e_v26 l_v26 u_v26 => ?_)
            replace hE := zf_tr hE (zf_le e_v26)
            refine mz_if_eq (tgt := 77) rfl rfl (mz_rg l_v26 u_v26) (fun c66_26 => ?_) (fun c66_26 => ?_)
            · skip
              replace hE := zf_ip hE c66_26
              refine mm_g 2 (pc1 := 79) (lo1 := [some (.ref 81), some (.ref q1), some (.int (Int32.ofInt v10)), some (.int (Int32.ofInt v11))]) (st1 := [.ref q1, .ref 81]) (H1 := mz_mk g12 x) rfl ?_
              refine mz_cv rfl mt_4_167 (by decide) (sc_81 _) rfl (Nat.le_of_ble_eq_true rfl) (by omega) (f_X4_readSign (by omega) hx hIg12 h_q1 (fun v27 g28 hIg28 hfg28 l_v27 u_v27 hc29 => ⟨_, rfl, ?_⟩))
              show mm_W d mmX4_readGrows 82 [some (.ref 81), some (.ref q1), some (.int (Int32.ofInt v10)), some (.int (Int32.ofInt v11))] [.int (Int32.ofInt v27)] (mz_mk g28 x) Q
              replace hE := zf_t2 hE hc29
              refine mm_g 1 (pc1 := 83) (lo1 := [some (.ref 81), some (.ref q1), some (.int (Int32.ofInt v27)), some (.int (Int32.ofInt v11))]) (st1 := []) (H1 := mz_mk g28 x) rfl ?_
              refine mz_iincR (v := v11) (lo2 := [some (.ref 81), some (.ref q1), some (.int (Int32.ofInt v27)), some (.int (Int32.ofInt (v11 + 1)))]) rfl rfl rfl (Nat.le_of_ble_eq_true rfl) rfl ?_
              refine mz_gt (tgt := 44) rfl rfl ?_
              exact ih13 ((701 - (v11 + 1)).toNat) (by omega) v27 (v11 + 1) g28 rfl (by omega) (by omega) (by omega) (by omega) hIg28 (fun k j hk => ((hfg28 k j (fun h => hk (Or.elim h (fun h => (Or.inl h)) (fun h => (Or.elim h (fun h => (Or.inr (Or.inl h))) (fun h => (Or.elim h (fun h => (Or.inr (Or.inr (Or.inr (Or.inr (Or.inr (Or.inr (Or.inr (Or.inr (Or.inr (Or.inr (Or.inr (Or.inl h))))))))))))) (fun h => (Or.elim h (fun h => (Or.inr (Or.inr (Or.inr (Or.inr (Or.inr (Or.inr (Or.inr (Or.inr (Or.inr (Or.inr (Or.inl h)))))))))))) (fun h => (Or.elim h (fun h => (Or.inr (Or.inr (Or.inl h)))) (fun h => (Or.elim h (fun h => (Or.inr (Or.inr (Or.inr (Or.inr (Or.inr (Or.inr (Or.inr (Or.inr (Or.inr (Or.inr (Or.inr (Or.inr (Or.inr h)))))))))))))) (fun h => (Or.elim h (fun h => (Or.inr (Or.inr (Or.inr (Or.inr (Or.inr (Or.inr (Or.inr (Or.inr (Or.inr (Or.inl h))))))))))) (fun h => (Or.elim h (fun h => (Or.inr (Or.inr (Or.inr (Or.inl h))))) (fun h => (Or.elim h (fun h => (Or.inr (Or.inr (Or.inr (Or.inr (Or.inl h)))))) (fun h => (Or.elim h (fun h => (Or.inr (Or.inr (Or.inr (Or.inr (Or.inr (Or.inl h))))))) (fun h => (Or.elim h (fun h => (Or.inr (Or.inr (Or.inr (Or.inr (Or.inr (Or.inr (Or.inl h)))))))) (fun h => (Or.elim h (fun h => (Or.inr (Or.inr (Or.inr (Or.inr (Or.inr (Or.inr (Or.inr (Or.inl h))))))))) (fun h => (Or.elim h (fun h => (Or.inr (Or.inr (Or.inr (Or.inr (Or.inr (Or.inr (Or.inr (Or.inr (Or.inl h)))))))))) (fun h => (Or.inr (Or.inr (Or.inr (Or.inr (Or.inr (Or.inr (Or.inr (Or.inr (Or.inr (Or.inr (Or.inr (Or.inr (Or.inl h))))))))))))))))))))))))))))))))))))))))).trans (hfg12 k j (fun h => hk (Or.elim h (fun h => (Or.inl h)) (fun h => (Or.elim h (fun h => (Or.inr (Or.inl h))) (fun h => (Or.elim h (fun h => (Or.inr (Or.inr (Or.inl h)))) (fun h => (Or.elim h (fun h => (Or.inr (Or.inr (Or.inr (Or.inl h))))) (fun h => (Or.elim h (fun h => (Or.inr (Or.inr (Or.inr (Or.inr (Or.inl h)))))) (fun h => (Or.elim h (fun h => (Or.inr (Or.inr (Or.inr (Or.inr (Or.inr (Or.inl h))))))) (fun h => (Or.elim h (fun h => (Or.inr (Or.inr (Or.inr (Or.inr (Or.inr (Or.inr (Or.inl h)))))))) (fun h => (Or.elim h (fun h => (Or.inr (Or.inr (Or.inr (Or.inr (Or.inr (Or.inr (Or.inr (Or.inl h))))))))) (fun h => (Or.elim h (fun h => (Or.inr (Or.inr (Or.inr (Or.inr (Or.inr (Or.inr (Or.inr (Or.inr (Or.inl h)))))))))) (fun h => (Or.elim h (fun h => (Or.inr (Or.inr (Or.inr (Or.inr (Or.inr (Or.inr (Or.inr (Or.inr (Or.inr (Or.inl h))))))))))) (fun h => (Or.elim h (fun h => (Or.inr (Or.inr (Or.inr (Or.inr (Or.inr (Or.inr (Or.inr (Or.inr (Or.inr (Or.inr (Or.inl h)))))))))))) (fun h => (Or.elim h (fun h => (Or.inr (Or.inr (Or.inr (Or.inr (Or.inr (Or.inr (Or.inr (Or.inr (Or.inr (Or.inr (Or.inr (Or.inl h))))))))))))) (fun h => (Or.elim h (fun h => (Or.inr (Or.inr (Or.inr (Or.inr (Or.inr (Or.inr (Or.inr (Or.inr (Or.inr (Or.inr (Or.inr (Or.inr (Or.inl h)))))))))))))) (fun h => (Or.inr (Or.inr (Or.inr (Or.inr (Or.inr (Or.inr (Or.inr (Or.inr (Or.inr (Or.inr (Or.inr (Or.inr (Or.inr h))))))))))))))))))))))))))))))))))))))))))) ⟨fj16, Nat.lt_of_lt_of_le (show ((701 - (v11 + 1)).toNat) < n14 from (by omega)) fn17, hE⟩
            · skip
              replace hE := zf_in hE c66_26
              refine mm_g 2 (pc1 := 71) (lo1 := [some (.ref 81), some (.ref q1), some (.int (Int32.ofInt v10)), some (.int (Int32.ofInt v11))]) (st1 := [.ref q1, .ref 81]) (H1 := mz_mk g12 x) rfl ?_
              refine mz_cv rfl mt_4_164 (by decide) (sc_81 _) rfl (Nat.le_of_ble_eq_true rfl) (by omega) (f_X4_readPart (by omega) hx hIg12 h_q1 (fun v30 g31 hIg31 hfg31 l_v30 u_v30 hc32 => ⟨_, rfl, ?_⟩))
              show mm_W d mmX4_readGrows 74 [some (.ref 81), some (.ref q1), some (.int (Int32.ofInt v10)), some (.int (Int32.ofInt v11))] [.int (Int32.ofInt v30)] (mz_mk g31 x) Q
              replace hE := zf_t2 hE hc32
              refine mz_gt (tgt := 82) rfl rfl ?_
              refine mm_g 1 (pc1 := 83) (lo1 := [some (.ref 81), some (.ref q1), some (.int (Int32.ofInt v30)), some (.int (Int32.ofInt v11))]) (st1 := []) (H1 := mz_mk g31 x) rfl ?_
              refine mz_iincR (v := v11) (lo2 := [some (.ref 81), some (.ref q1), some (.int (Int32.ofInt v30)), some (.int (Int32.ofInt (v11 + 1)))]) rfl rfl rfl (Nat.le_of_ble_eq_true rfl) rfl ?_
              refine mz_gt (tgt := 44) rfl rfl ?_
              exact ih13 ((701 - (v11 + 1)).toNat) (by omega) v30 (v11 + 1) g31 rfl (by omega) (by omega) (by omega) (by omega) hIg31 (fun k j hk => ((hfg31 k j (fun h => hk (Or.elim h (fun h => (Or.inl h)) (fun h => (Or.elim h (fun h => (Or.inr (Or.inl h))) (fun h => (Or.elim h (fun h => (Or.inr (Or.inr (Or.inl h)))) (fun h => (Or.elim h (fun h => (Or.inr (Or.inr (Or.inr (Or.inl h))))) (fun h => (Or.elim h (fun h => (Or.inr (Or.inr (Or.inr (Or.inr (Or.inl h)))))) (fun h => (Or.elim h (fun h => (Or.inr (Or.inr (Or.inr (Or.inr (Or.inr (Or.inl h))))))) (fun h => (Or.elim h (fun h => (Or.inr (Or.inr (Or.inr (Or.inr (Or.inr (Or.inr (Or.inl h)))))))) (fun h => (Or.elim h (fun h => (Or.inr (Or.inr (Or.inr (Or.inr (Or.inr (Or.inr (Or.inr (Or.inl h))))))))) (fun h => (Or.elim h (fun h => (Or.inr (Or.inr (Or.inr (Or.inr (Or.inr (Or.inr (Or.inr (Or.inr (Or.inl h)))))))))) (fun h => (Or.elim h (fun h => (Or.inr (Or.inr (Or.inr (Or.inr (Or.inr (Or.inr (Or.inr (Or.inr (Or.inr (Or.inl h))))))))))) (fun h => (Or.elim h (fun h => (Or.inr (Or.inr (Or.inr (Or.inr (Or.inr (Or.inr (Or.inr (Or.inr (Or.inr (Or.inr (Or.inl h)))))))))))) (fun h => (Or.elim h (fun h => (Or.inr (Or.inr (Or.inr (Or.inr (Or.inr (Or.inr (Or.inr (Or.inr (Or.inr (Or.inr (Or.inr (Or.inl h))))))))))))) (fun h => (Or.elim h (fun h => (Or.inr (Or.inr (Or.inr (Or.inr (Or.inr (Or.inr (Or.inr (Or.inr (Or.inr (Or.inr (Or.inr (Or.inr (Or.inl h)))))))))))))) (fun h => (Or.inr (Or.inr (Or.inr (Or.inr (Or.inr (Or.inr (Or.inr (Or.inr (Or.inr (Or.inr (Or.inr (Or.inr (Or.inr h))))))))))))))))))))))))))))))))))))))))).trans (hfg12 k j (fun h => hk (Or.elim h (fun h => (Or.inl h)) (fun h => (Or.elim h (fun h => (Or.inr (Or.inl h))) (fun h => (Or.elim h (fun h => (Or.inr (Or.inr (Or.inl h)))) (fun h => (Or.elim h (fun h => (Or.inr (Or.inr (Or.inr (Or.inl h))))) (fun h => (Or.elim h (fun h => (Or.inr (Or.inr (Or.inr (Or.inr (Or.inl h)))))) (fun h => (Or.elim h (fun h => (Or.inr (Or.inr (Or.inr (Or.inr (Or.inr (Or.inl h))))))) (fun h => (Or.elim h (fun h => (Or.inr (Or.inr (Or.inr (Or.inr (Or.inr (Or.inr (Or.inl h)))))))) (fun h => (Or.elim h (fun h => (Or.inr (Or.inr (Or.inr (Or.inr (Or.inr (Or.inr (Or.inr (Or.inl h))))))))) (fun h => (Or.elim h (fun h => (Or.inr (Or.inr (Or.inr (Or.inr (Or.inr (Or.inr (Or.inr (Or.inr (Or.inl h)))))))))) (fun h => (Or.elim h (fun h => (Or.inr (Or.inr (Or.inr (Or.inr (Or.inr (Or.inr (Or.inr (Or.inr (Or.inr (Or.inl h))))))))))) (fun h => (Or.elim h (fun h => (Or.inr (Or.inr (Or.inr (Or.inr (Or.inr (Or.inr (Or.inr (Or.inr (Or.inr (Or.inr (Or.inl h)))))))))))) (fun h => (Or.elim h (fun h => (Or.inr (Or.inr (Or.inr (Or.inr (Or.inr (Or.inr (Or.inr (Or.inr (Or.inr (Or.inr (Or.inr (Or.inl h))))))))))))) (fun h => (Or.elim h (fun h => (Or.inr (Or.inr (Or.inr (Or.inr (Or.inr (Or.inr (Or.inr (Or.inr (Or.inr (Or.inr (Or.inr (Or.inr (Or.inl h)))))))))))))) (fun h => (Or.inr (Or.inr (Or.inr (Or.inr (Or.inr (Or.inr (Or.inr (Or.inr (Or.inr (Or.inr (Or.inr (Or.inr (Or.inr h))))))))))))))))))))))))))))))))))))))))))) ⟨fj16, Nat.lt_of_lt_of_le (show ((701 - (v11 + 1)).toNat) < n14 from (by omega)) fn17, hE⟩
    exact L15 _ 1 0 g8 rfl (by decide) (by decide) (by decide) (by decide) hIg8 (fun _ _ _ => rfl) ⟨3000000000, by omega, hE⟩
  · skip
    replace hE := zf_in hE c4_2
    refine mm_g 2 (pc1 := 9) (lo1 := [some (.ref 81), some (.ref q1), none, none]) (st1 := [.int (Int32.ofInt 5), .ref 81]) (H1 := mz_mk g x) rfl ?_
    refine mz_cv rfl mt_4_95 (by decide) (sc_81 _) rfl (Nat.le_of_ble_eq_true rfl) (by omega) (f_X4_blame (by omega) hx hI (by decide) (by decide) (fun v33 g34 hIg34 hfg34 l_v33 u_v33 hc35 => ⟨_, rfl, ?_⟩))
    show mm_W d mmX4_readGrows 12 [some (.ref 81), some (.ref q1), none, none] [.int (Int32.ofInt v33)] (mz_mk g34 x) Q
    replace hE := zf_t2 hE hc35
    exact mz_rtZ rfl (by decide) (by omega) (hQ _ _ hIg34 (fun k j hk => (hfg34 k j (fun h => hk (Or.elim h (fun h => (Or.inr (Or.inr (Or.inr (Or.inr (Or.inr (Or.inr (Or.inr (Or.inr (Or.inr (Or.inr (Or.inr (Or.inl h))))))))))))) (fun h => (Or.inr (Or.inr (Or.inr (Or.inr (Or.inr (Or.inr (Or.inr (Or.inr (Or.inr (Or.inr (Or.inr (Or.inr (Or.inl h)))))))))))))))))) (by omega) (by omega) hE)
def fw_X4_readLine (x : mm_X) (q1 : Nat) : Nat → Nat → Prop := fun k j => (k = 82 ∧ j = 3) ∨ (k = 82 ∧ j = 5) ∨ (k = 82 ∧ j = 6) ∨ (k = 82 ∧ j = 4) ∨ (k = 81 ∧ j = 1) ∨ (k = 81 ∧ j = 2) ∨ ((q1 + 26) ≤ k ∧ k < (q1 + 26) + 9) ∨ (k = 81 ∧ j = 4) ∨ (k = 81 ∧ j = 5) ∨ (k = 81 ∧ j = 7) ∨ (k = 81 ∧ j = 8) ∨ (k = 81 ∧ j = 6) ∨ k = ((q1 + 36) + 1) ∨ k = (q1 + 36) ∨ k = 84 ∨ k = (q1 + 35) ∨ k = q1 ∨ ((q1 + 1) ≤ k ∧ k < (q1 + 1) + 25)
theorem f_X4_readLine {d : Nat} (hd : 9 ≤ d) {x : mm_X} (hx : mk_x x) {g : mz_G} (hI : mz_inv g) {q1 : Nat} (h_q1 : kd_load q1) {Q : (Option Value ⊕ Nat) → mm_H → Prop} (hQ : ∀ (g1 : mz_G), mz_inv g1 → mz_fr (fw_X4_readLine x q1) g g1 → zf_E (zF_X4_readLine q1 g) (g1) → Q (.inl none) (mz_mk g1 x)) : mm_C d 41 [.ref 81, .ref q1] (mz_mk g x) Q := by
  have kn_q1 := kn_load h_q1
  refine ⟨mmX4_readLine, [some (.ref 81), some (.ref q1), none], rfl, rfl, ?_⟩
  have hE : zf_E (zF_X4_readLine q1 g) (zF_X4_readLine q1 g) := zf_rf
  refine mm_g 1 (pc1 := 1) (lo1 := [some (.ref 81), some (.ref q1), none]) (st1 := [.ref 81]) (H1 := mz_mk g x) rfl ?_
  refine mz_fgR (v := 82) rfl fd_4_12 (by decide) (sc_81 _) (rf_81_0 _ _ _) ?_
  refine mz_ldcS (j := 0) rfl rfl rfl ?_
  refine mz_cv rfl mt_4_57 (by decide) (sc_82 _) rfl (Nat.le_of_ble_eq_true rfl) (by omega) (f_X7_spells (by omega) hx hI (by decide) (fun v1 l_v1 u_v1 hc2 => ⟨_, rfl, ?_⟩))
  show mm_W d mmX4_readLine 9 [some (.ref 81), some (.ref q1), none] [.int (Int32.ofInt v1)] (mz_mk g x) Q
  replace hE := zf_t1 hE hc2
  refine mz_if_eq (tgt := 24) rfl rfl (mz_rg l_v1 u_v1) (fun c9_2 => ?_) (fun c9_2 => ?_)
  · skip
    replace hE := zf_ip hE c9_2
    refine mm_g 1 (pc1 := 25) (lo1 := [some (.ref 81), some (.ref q1), none]) (st1 := [.ref 81]) (H1 := mz_mk g x) rfl ?_
    refine mz_fgR (v := 82) rfl fd_4_12 (by decide) (sc_81 _) (rf_81_0 _ _ _) ?_
    refine mz_ldcS (j := 1) rfl rfl rfl ?_
    refine mz_cv rfl mt_4_57 (by decide) (sc_82 _) rfl (Nat.le_of_ble_eq_true rfl) (by omega) (f_X7_spells (by omega) hx hI (by decide) (fun v3 l_v3 u_v3 hc4 => ⟨_, rfl, ?_⟩))
    show mm_W d mmX4_readLine 33 [some (.ref 81), some (.ref q1), none] [.int (Int32.ofInt v3)] (mz_mk g x) Q
    replace hE := zf_t1 hE hc4
    refine mz_if_ne (tgt := 48) rfl rfl (mz_rg l_v3 u_v3) (fun c33_4 => ?_) (fun c33_4 => ?_)
    · skip
      replace hE := zf_in hE c33_4
      refine mm_g 3 (pc1 := 51) (lo1 := [some (.ref 81), some (.ref q1), none]) (st1 := [.ref 81, .ref q1, .ref 81]) (H1 := mz_mk g x) rfl ?_
      refine mz_fgR (v := 82) rfl fd_4_12 (by decide) (sc_81 _) (rf_81_0 _ _ _) ?_
      refine mz_ldcS (j := 2) rfl rfl rfl ?_
      refine mz_cv rfl mt_4_57 (by decide) (sc_82 _) rfl (Nat.le_of_ble_eq_true rfl) (by omega) (f_X7_spells (by omega) hx hI (by decide) (fun v5 l_v5 u_v5 hc6 => ⟨_, rfl, ?_⟩))
      show mm_W d mmX4_readLine 59 [some (.ref 81), some (.ref q1), none] [.int (Int32.ofInt v5), .ref q1, .ref 81] (mz_mk g x) Q
      replace hE := zf_t1 hE hc6
      refine mz_cv rfl mt_4_75 (by decide) (sc_81 _) rfl (Nat.le_of_ble_eq_true rfl) (by omega) (f_X4_readTrunk (by omega) hx hI h_q1 l_v5 u_v5 (fun v7 g8 hIg8 hfg8 l_v7 u_v7 hc9 => ⟨_, rfl, ?_⟩))
      show mm_W d mmX4_readLine 62 [some (.ref 81), some (.ref q1), none] [.int (Int32.ofInt v7)] (mz_mk g8 x) Q
      replace hE := zf_t2 hE hc9
      refine mm_g 1 (pc1 := 63) (lo1 := [some (.ref 81), some (.ref q1), some (.int (Int32.ofInt v7))]) (st1 := []) (H1 := mz_mk g8 x) rfl ?_
      refine mz_gt (tgt := 117) rfl rfl ?_
      refine mm_g 1 (pc1 := 118) (lo1 := [some (.ref 81), some (.ref q1), some (.int (Int32.ofInt v7))]) (st1 := [.int (Int32.ofInt v7)]) (H1 := mz_mk g8 x) rfl ?_
      refine mz_if_eq (tgt := 142) rfl rfl (mz_rg l_v7 u_v7) (fun c118_9 => ?_) (fun c118_9 => ?_)
      · skip
        replace hE := zf_ip hE c118_9
        refine mm_g 1 (pc1 := 143) (lo1 := [some (.ref 81), some (.ref q1), some (.int (Int32.ofInt v7))]) (st1 := [.int (Int32.ofInt v7)]) (H1 := mz_mk g8 x) rfl ?_
        refine mz_if_eq (tgt := 153) rfl rfl (mz_rg l_v7 u_v7) (fun c143_9 => ?_) (fun c143_9 => ?_)
        · skip
          replace hE := zf_ip hE c143_9
          exact mm_rt rfl rfl (hQ _ hIg8 (fun k j hk => (hfg8 k j (fun h => hk (Or.elim h (fun h => (Or.inl h)) (fun h => (Or.elim h (fun h => (Or.inr (Or.inl h))) (fun h => (Or.elim h (fun h => (Or.inr (Or.inr (Or.inl h)))) (fun h => (Or.elim h (fun h => (Or.inr (Or.inr (Or.inr (Or.inl h))))) (fun h => (Or.elim h (fun h => (Or.inr (Or.inr (Or.inr (Or.inr (Or.inl h)))))) (fun h => (Or.elim h (fun h => (Or.inr (Or.inr (Or.inr (Or.inr (Or.inr (Or.inl h))))))) (fun h => (Or.inr (Or.inr (Or.inr (Or.inr (Or.inr (Or.inr (Or.inl h)))))))))))))))))))))) hE)
        · exfalso; omega
      · skip
        replace hE := zf_in hE c118_9
        refine mm_g 1 (pc1 := 122) (lo1 := [some (.ref 81), some (.ref q1), some (.int (Int32.ofInt v7))]) (st1 := [.ref 81]) (H1 := mz_mk g8 x) rfl ?_
        refine mz_fgR (v := 82) rfl fd_4_12 (by decide) (sc_81 _) (rf_81_0 _ _ _) ?_
        refine mz_cv rfl mt_4_48 (by decide) (sc_82 _) rfl (Nat.le_of_ble_eq_true rfl) (by omega) (f_X7_kind (by omega) hx hIg8 (fun v10 l_v10 u_v10 hc11 => ⟨_, rfl, ?_⟩))
        show mm_W d mmX4_readLine 128 [some (.ref 81), some (.ref q1), some (.int (Int32.ofInt v7))] [.int (Int32.ofInt v10)] (mz_mk g8 x) Q
        replace hE := zf_t1 hE hc11
        refine mz_bip rfl bip_59 ?_
        refine mz_ic_eq (tgt := 142) rfl rfl (mz_rg l_v10 u_v10) ⟨by decide, by decide⟩ (fun c130_11 => ?_) (fun c130_11 => ?_)
        · skip
          replace hE := zf_ip hE c130_11
          refine mm_g 1 (pc1 := 143) (lo1 := [some (.ref 81), some (.ref q1), some (.int (Int32.ofInt v7))]) (st1 := [.int (Int32.ofInt v7)]) (H1 := mz_mk g8 x) rfl ?_
          refine mz_if_eq (tgt := 153) rfl rfl (mz_rg l_v7 u_v7) (fun c143_11 => ?_) (fun c143_11 => ?_)
          · exfalso; omega
          · skip
            replace hE := zf_in hE c143_11
            refine mm_g 1 (pc1 := 147) (lo1 := [some (.ref 81), some (.ref q1), some (.int (Int32.ofInt v7))]) (st1 := [.ref 81]) (H1 := mz_mk g8 x) rfl ?_
            refine mz_fgR (v := 82) rfl fd_4_12 (by decide) (sc_81 _) (rf_81_0 _ _ _) ?_
            refine mz_cv rfl mt_4_99 (by decide) (sc_82 _) rfl (Nat.le_of_ble_eq_true rfl) (by omega) (f_X7_step (by omega) hx hIg8 (fun g12 hIg12 hfg12 hc13 => ⟨_, rfl, ?_⟩))
            show mm_W d mmX4_readLine 153 [some (.ref 81), some (.ref q1), some (.int (Int32.ofInt v7))] [] (mz_mk g12 x) Q
            replace hE := zf_t1 hE hc13
            exact mm_rt rfl rfl (hQ _ hIg12 (fun k j hk => ((hfg12 k j (fun h => hk (Or.elim h (fun h => (Or.inl h)) (fun h => (Or.elim h (fun h => (Or.inr (Or.inl h))) (fun h => (Or.elim h (fun h => (Or.inr (Or.inr (Or.inl h)))) (fun h => (Or.inr (Or.inr (Or.inr (Or.inl h)))))))))))).trans (hfg8 k j (fun h => hk (Or.elim h (fun h => (Or.inl h)) (fun h => (Or.elim h (fun h => (Or.inr (Or.inl h))) (fun h => (Or.elim h (fun h => (Or.inr (Or.inr (Or.inl h)))) (fun h => (Or.elim h (fun h => (Or.inr (Or.inr (Or.inr (Or.inl h))))) (fun h => (Or.elim h (fun h => (Or.inr (Or.inr (Or.inr (Or.inr (Or.inl h)))))) (fun h => (Or.elim h (fun h => (Or.inr (Or.inr (Or.inr (Or.inr (Or.inr (Or.inl h))))))) (fun h => (Or.inr (Or.inr (Or.inr (Or.inr (Or.inr (Or.inr (Or.inl h))))))))))))))))))))))) hE)
        · skip
          replace hE := zf_in hE c130_11
          refine mm_g 2 (pc1 := 135) (lo1 := [some (.ref 81), some (.ref q1), some (.int (Int32.ofInt v7))]) (st1 := [.int (Int32.ofInt 1), .ref 81]) (H1 := mz_mk g8 x) rfl ?_
          refine mz_cv rfl mt_4_95 (by decide) (sc_81 _) rfl (Nat.le_of_ble_eq_true rfl) (by omega) (f_X4_blame (by omega) hx hIg8 (by decide) (by decide) (fun v14 g15 hIg15 hfg15 l_v14 u_v14 hc16 => ⟨_, rfl, ?_⟩))
          show mm_W d mmX4_readLine 138 [some (.ref 81), some (.ref q1), some (.int (Int32.ofInt v7))] [.int (Int32.ofInt v14)] (mz_mk g15 x) Q
          replace hE := zf_t2 hE hc16
          refine mm_g 1 (pc1 := 139) (lo1 := [some (.ref 81), some (.ref q1), some (.int (Int32.ofInt v7))]) (st1 := []) (H1 := mz_mk g15 x) rfl ?_
          refine mz_gt (tgt := 153) rfl rfl ?_
          exact mm_rt rfl rfl (hQ _ hIg15 (fun k j hk => ((hfg15 k j (fun h => hk (Or.elim h (fun h => (Or.inr (Or.inr (Or.inr (Or.inr (Or.inl h)))))) (fun h => (Or.inr (Or.inr (Or.inr (Or.inr (Or.inr (Or.inl h)))))))))).trans (hfg8 k j (fun h => hk (Or.elim h (fun h => (Or.inl h)) (fun h => (Or.elim h (fun h => (Or.inr (Or.inl h))) (fun h => (Or.elim h (fun h => (Or.inr (Or.inr (Or.inl h)))) (fun h => (Or.elim h (fun h => (Or.inr (Or.inr (Or.inr (Or.inl h))))) (fun h => (Or.elim h (fun h => (Or.inr (Or.inr (Or.inr (Or.inr (Or.inl h)))))) (fun h => (Or.elim h (fun h => (Or.inr (Or.inr (Or.inr (Or.inr (Or.inr (Or.inl h))))))) (fun h => (Or.inr (Or.inr (Or.inr (Or.inr (Or.inr (Or.inr (Or.inl h))))))))))))))))))))))) hE)
    · skip
      replace hE := zf_ip hE c33_4
      refine mm_g 1 (pc1 := 37) (lo1 := [some (.ref 81), some (.ref q1), none]) (st1 := [.ref 81]) (H1 := mz_mk g x) rfl ?_
      refine mz_fgR (v := 82) rfl fd_4_12 (by decide) (sc_81 _) (rf_81_0 _ _ _) ?_
      refine mz_ldcS (j := 2) rfl rfl rfl ?_
      refine mz_cv rfl mt_4_57 (by decide) (sc_82 _) rfl (Nat.le_of_ble_eq_true rfl) (by omega) (f_X7_spells (by omega) hx hI (by decide) (fun v17 l_v17 u_v17 hc18 => ⟨_, rfl, ?_⟩))
      show mm_W d mmX4_readLine 45 [some (.ref 81), some (.ref q1), none] [.int (Int32.ofInt v17)] (mz_mk g x) Q
      replace hE := zf_t1 hE hc18
      refine mz_if_eq (tgt := 66) rfl rfl (mz_rg l_v17 u_v17) (fun c45_18 => ?_) (fun c45_18 => ?_)
      · skip
        replace hE := zf_ip hE c45_18
        refine mm_g 1 (pc1 := 67) (lo1 := [some (.ref 81), some (.ref q1), none]) (st1 := [.ref 81]) (H1 := mz_mk g x) rfl ?_
        refine mz_fgR (v := 82) rfl fd_4_12 (by decide) (sc_81 _) (rf_81_0 _ _ _) ?_
        refine mz_ldcS (j := 3) rfl rfl rfl ?_
        refine mz_cv rfl mt_4_57 (by decide) (sc_82 _) rfl (Nat.le_of_ble_eq_true rfl) (by omega) (f_X7_spells (by omega) hx hI (by decide) (fun v19 l_v19 u_v19 hc20 => ⟨_, rfl, ?_⟩))
        show mm_W d mmX4_readLine 75 [some (.ref 81), some (.ref q1), none] [.int (Int32.ofInt v19)] (mz_mk g x) Q
        replace hE := zf_t1 hE hc20
        refine mz_if_eq (tgt := 87) rfl rfl (mz_rg l_v19 u_v19) (fun c75_20 => ?_) (fun c75_20 => ?_)
        · skip
          replace hE := zf_ip hE c75_20
          refine mm_g 1 (pc1 := 88) (lo1 := [some (.ref 81), some (.ref q1), none]) (st1 := [.ref 81]) (H1 := mz_mk g x) rfl ?_
          refine mz_fgR (v := 82) rfl fd_4_12 (by decide) (sc_81 _) (rf_81_0 _ _ _) ?_
          refine mz_ldcS (j := 4) rfl rfl rfl ?_
          refine mz_cv rfl mt_4_57 (by decide) (sc_82 _) rfl (Nat.le_of_ble_eq_true rfl) (by omega) (f_X7_spells (by omega) hx hI (by decide) (fun v21 l_v21 u_v21 hc22 => ⟨_, rfl, ?_⟩))
          show mm_W d mmX4_readLine 96 [some (.ref 81), some (.ref q1), none] [.int (Int32.ofInt v21)] (mz_mk g x) Q
          replace hE := zf_t1 hE hc22
          refine mz_if_eq (tgt := 111) rfl rfl (mz_rg l_v21 u_v21) (fun c96_22 => ?_) (fun c96_22 => ?_)
          · skip
            replace hE := zf_ip hE c96_22
            refine mm_g 2 (pc1 := 113) (lo1 := [some (.ref 81), some (.ref q1), none]) (st1 := [.int (Int32.ofInt 1), .ref 81]) (H1 := mz_mk g x) rfl ?_
            refine mz_cv rfl mt_4_95 (by decide) (sc_81 _) rfl (Nat.le_of_ble_eq_true rfl) (by omega) (f_X4_blame (by omega) hx hI (by decide) (by decide) (fun v23 g24 hIg24 hfg24 l_v23 u_v23 hc25 => ⟨_, rfl, ?_⟩))
            show mm_W d mmX4_readLine 116 [some (.ref 81), some (.ref q1), none] [.int (Int32.ofInt v23)] (mz_mk g24 x) Q
            replace hE := zf_t2 hE hc25
            refine mm_g 2 (pc1 := 118) (lo1 := [some (.ref 81), some (.ref q1), some (.int (Int32.ofInt v23))]) (st1 := [.int (Int32.ofInt v23)]) (H1 := mz_mk g24 x) rfl ?_
            refine mz_if_eq (tgt := 142) rfl rfl (mz_rg l_v23 u_v23) (fun c118_25 => ?_) (fun c118_25 => ?_)
            · skip
              replace hE := zf_ip hE c118_25
              refine mm_g 1 (pc1 := 143) (lo1 := [some (.ref 81), some (.ref q1), some (.int (Int32.ofInt v23))]) (st1 := [.int (Int32.ofInt v23)]) (H1 := mz_mk g24 x) rfl ?_
              refine mz_if_eq (tgt := 153) rfl rfl (mz_rg l_v23 u_v23) (fun c143_25 => ?_) (fun c143_25 => ?_)
              · skip
                replace hE := zf_ip hE c143_25
                exact mm_rt rfl rfl (hQ _ hIg24 (fun k j hk => (hfg24 k j (fun h => hk (Or.elim h (fun h => (Or.inr (Or.inr (Or.inr (Or.inr (Or.inl h)))))) (fun h => (Or.inr (Or.inr (Or.inr (Or.inr (Or.inr (Or.inl h))))))))))) hE)
              · exfalso; omega
            · exfalso; omega
          · skip
            replace hE := zf_in hE c96_22
            refine mm_g 2 (pc1 := 101) (lo1 := [some (.ref 81), some (.ref q1), none]) (st1 := [.ref q1, .ref 81]) (H1 := mz_mk g x) rfl ?_
            refine mz_fgR (v := (q1 + 36)) rfl fd_4_87 (by decide) (kc_load h_q1 _) (kr_load_4 h_q1 _ _ _) ?_
            refine mz_cv rfl mt_4_91 (by decide) (sc_81 _) rfl (Nat.le_of_ble_eq_true rfl) (by omega) (f_X4_readGrows (by omega) hx hI (ks_load_4 h_q1) (fun v26 g27 hIg27 hfg27 l_v26 u_v26 hc28 => ⟨_, rfl, ?_⟩))
            show mm_W d mmX4_readLine 107 [some (.ref 81), some (.ref q1), none] [.int (Int32.ofInt v26)] (mz_mk g27 x) Q
            replace hE := zf_t2 hE hc28
            refine mm_g 1 (pc1 := 108) (lo1 := [some (.ref 81), some (.ref q1), some (.int (Int32.ofInt v26))]) (st1 := []) (H1 := mz_mk g27 x) rfl ?_
            refine mz_gt (tgt := 117) rfl rfl ?_
            refine mm_g 1 (pc1 := 118) (lo1 := [some (.ref 81), some (.ref q1), some (.int (Int32.ofInt v26))]) (st1 := [.int (Int32.ofInt v26)]) (H1 := mz_mk g27 x) rfl ?_
            refine mz_if_eq (tgt := 142) rfl rfl (mz_rg l_v26 u_v26) (fun c118_28 => ?_) (fun c118_28 => ?_)
            · skip
              replace hE := zf_ip hE c118_28
              refine mm_g 1 (pc1 := 143) (lo1 := [some (.ref 81), some (.ref q1), some (.int (Int32.ofInt v26))]) (st1 := [.int (Int32.ofInt v26)]) (H1 := mz_mk g27 x) rfl ?_
              refine mz_if_eq (tgt := 153) rfl rfl (mz_rg l_v26 u_v26) (fun c143_28 => ?_) (fun c143_28 => ?_)
              · skip
                replace hE := zf_ip hE c143_28
                exact mm_rt rfl rfl (hQ _ hIg27 (fun k j hk => (hfg27 k j (fun h => hk (Or.elim h (fun h => (Or.inl h)) (fun h => (Or.elim h (fun h => (Or.inr (Or.inl h))) (fun h => (Or.elim h (fun h => (Or.inr (Or.inr (Or.inl h)))) (fun h => (Or.elim h (fun h => (Or.inr (Or.inr (Or.inr (Or.inl h))))) (fun h => (Or.elim h (fun h => (Or.inr (Or.inr (Or.inr (Or.inr (Or.inr (Or.inr (Or.inr (Or.inl h))))))))) (fun h => (Or.elim h (fun h => (Or.inr (Or.inr (Or.inr (Or.inr (Or.inr (Or.inr (Or.inr (Or.inr (Or.inl h)))))))))) (fun h => (Or.elim h (fun h => (Or.inr (Or.inr (Or.inr (Or.inr (Or.inr (Or.inr (Or.inr (Or.inr (Or.inr (Or.inl h))))))))))) (fun h => (Or.elim h (fun h => (Or.inr (Or.inr (Or.inr (Or.inr (Or.inr (Or.inr (Or.inr (Or.inr (Or.inr (Or.inr (Or.inl h)))))))))))) (fun h => (Or.elim h (fun h => (Or.inr (Or.inr (Or.inr (Or.inr (Or.inr (Or.inr (Or.inr (Or.inr (Or.inr (Or.inr (Or.inr (Or.inl h))))))))))))) (fun h => (Or.elim h (fun h => (Or.inr (Or.inr (Or.inr (Or.inr (Or.inr (Or.inr (Or.inr (Or.inr (Or.inr (Or.inr (Or.inr (Or.inr (Or.inl h)))))))))))))) (fun h => (Or.elim h (fun h => (Or.inr (Or.inr (Or.inr (Or.inr (Or.inr (Or.inr (Or.inr (Or.inr (Or.inr (Or.inr (Or.inr (Or.inr (Or.inr (Or.inl h))))))))))))))) (fun h => (Or.elim h (fun h => (Or.inr (Or.inr (Or.inr (Or.inr (Or.inl h)))))) (fun h => (Or.elim h (fun h => (Or.inr (Or.inr (Or.inr (Or.inr (Or.inr (Or.inl h))))))) (fun h => (Or.inr (Or.inr (Or.inr (Or.inr (Or.inr (Or.inr (Or.inr (Or.inr (Or.inr (Or.inr (Or.inr (Or.inr (Or.inr (Or.inr (Or.inl h)))))))))))))))))))))))))))))))))))))))))))) hE)
              · exfalso; omega
            · skip
              replace hE := zf_in hE c118_28
              refine mm_g 1 (pc1 := 122) (lo1 := [some (.ref 81), some (.ref q1), some (.int (Int32.ofInt v26))]) (st1 := [.ref 81]) (H1 := mz_mk g27 x) rfl ?_
              refine mz_fgR (v := 82) rfl fd_4_12 (by decide) (sc_81 _) (rf_81_0 _ _ _) ?_
              refine mz_cv rfl mt_4_48 (by decide) (sc_82 _) rfl (Nat.le_of_ble_eq_true rfl) (by omega) (f_X7_kind (by omega) hx hIg27 (fun v29 l_v29 u_v29 hc30 => ⟨_, rfl, ?_⟩))
              show mm_W d mmX4_readLine 128 [some (.ref 81), some (.ref q1), some (.int (Int32.ofInt v26))] [.int (Int32.ofInt v29)] (mz_mk g27 x) Q
              replace hE := zf_t1 hE hc30
              refine mz_bip rfl bip_59 ?_
              refine mz_ic_eq (tgt := 142) rfl rfl (mz_rg l_v29 u_v29) ⟨by decide, by decide⟩ (fun c130_30 => ?_) (fun c130_30 => ?_)
              · skip
                replace hE := zf_ip hE c130_30
                refine mm_g 1 (pc1 := 143) (lo1 := [some (.ref 81), some (.ref q1), some (.int (Int32.ofInt v26))]) (st1 := [.int (Int32.ofInt v26)]) (H1 := mz_mk g27 x) rfl ?_
                refine mz_if_eq (tgt := 153) rfl rfl (mz_rg l_v26 u_v26) (fun c143_30 => ?_) (fun c143_30 => ?_)
                · exfalso; omega
                · skip
                  replace hE := zf_in hE c143_30
                  refine mm_g 1 (pc1 := 147) (lo1 := [some (.ref 81), some (.ref q1), some (.int (Int32.ofInt v26))]) (st1 := [.ref 81]) (H1 := mz_mk g27 x) rfl ?_
                  refine mz_fgR (v := 82) rfl fd_4_12 (by decide) (sc_81 _) (rf_81_0 _ _ _) ?_
                  refine mz_cv rfl mt_4_99 (by decide) (sc_82 _) rfl (Nat.le_of_ble_eq_true rfl) (by omega) (f_X7_step (by omega) hx hIg27 (fun g31 hIg31 hfg31 hc32 => ⟨_, rfl, ?_⟩))
                  show mm_W d mmX4_readLine 153 [some (.ref 81), some (.ref q1), some (.int (Int32.ofInt v26))] [] (mz_mk g31 x) Q
                  replace hE := zf_t1 hE hc32
                  exact mm_rt rfl rfl (hQ _ hIg31 (fun k j hk => ((hfg31 k j (fun h => hk (Or.elim h (fun h => (Or.inl h)) (fun h => (Or.elim h (fun h => (Or.inr (Or.inl h))) (fun h => (Or.elim h (fun h => (Or.inr (Or.inr (Or.inl h)))) (fun h => (Or.inr (Or.inr (Or.inr (Or.inl h)))))))))))).trans (hfg27 k j (fun h => hk (Or.elim h (fun h => (Or.inl h)) (fun h => (Or.elim h (fun h => (Or.inr (Or.inl h))) (fun h => (Or.elim h (fun h => (Or.inr (Or.inr (Or.inl h)))) (fun h => (Or.elim h (fun h => (Or.inr (Or.inr (Or.inr (Or.inl h))))) (fun h => (Or.elim h (fun h => (Or.inr (Or.inr (Or.inr (Or.inr (Or.inr (Or.inr (Or.inr (Or.inl h))))))))) (fun h => (Or.elim h (fun h => (Or.inr (Or.inr (Or.inr (Or.inr (Or.inr (Or.inr (Or.inr (Or.inr (Or.inl h)))))))))) (fun h => (Or.elim h (fun h => (Or.inr (Or.inr (Or.inr (Or.inr (Or.inr (Or.inr (Or.inr (Or.inr (Or.inr (Or.inl h))))))))))) (fun h => (Or.elim h (fun h => (Or.inr (Or.inr (Or.inr (Or.inr (Or.inr (Or.inr (Or.inr (Or.inr (Or.inr (Or.inr (Or.inl h)))))))))))) (fun h => (Or.elim h (fun h => (Or.inr (Or.inr (Or.inr (Or.inr (Or.inr (Or.inr (Or.inr (Or.inr (Or.inr (Or.inr (Or.inr (Or.inl h))))))))))))) (fun h => (Or.elim h (fun h => (Or.inr (Or.inr (Or.inr (Or.inr (Or.inr (Or.inr (Or.inr (Or.inr (Or.inr (Or.inr (Or.inr (Or.inr (Or.inl h)))))))))))))) (fun h => (Or.elim h (fun h => (Or.inr (Or.inr (Or.inr (Or.inr (Or.inr (Or.inr (Or.inr (Or.inr (Or.inr (Or.inr (Or.inr (Or.inr (Or.inr (Or.inl h))))))))))))))) (fun h => (Or.elim h (fun h => (Or.inr (Or.inr (Or.inr (Or.inr (Or.inl h)))))) (fun h => (Or.elim h (fun h => (Or.inr (Or.inr (Or.inr (Or.inr (Or.inr (Or.inl h))))))) (fun h => (Or.inr (Or.inr (Or.inr (Or.inr (Or.inr (Or.inr (Or.inr (Or.inr (Or.inr (Or.inr (Or.inr (Or.inr (Or.inr (Or.inr (Or.inl h))))))))))))))))))))))))))))))))))))))))))))) hE)
              · skip
                replace hE := zf_in hE c130_30
                refine mm_g 2 (pc1 := 135) (lo1 := [some (.ref 81), some (.ref q1), some (.int (Int32.ofInt v26))]) (st1 := [.int (Int32.ofInt 1), .ref 81]) (H1 := mz_mk g27 x) rfl ?_
                refine mz_cv rfl mt_4_95 (by decide) (sc_81 _) rfl (Nat.le_of_ble_eq_true rfl) (by omega) (f_X4_blame (by omega) hx hIg27 (by decide) (by decide) (fun v33 g34 hIg34 hfg34 l_v33 u_v33 hc35 => ⟨_, rfl, ?_⟩))
                show mm_W d mmX4_readLine 138 [some (.ref 81), some (.ref q1), some (.int (Int32.ofInt v26))] [.int (Int32.ofInt v33)] (mz_mk g34 x) Q
                replace hE := zf_t2 hE hc35
                refine mm_g 1 (pc1 := 139) (lo1 := [some (.ref 81), some (.ref q1), some (.int (Int32.ofInt v26))]) (st1 := []) (H1 := mz_mk g34 x) rfl ?_
                refine mz_gt (tgt := 153) rfl rfl ?_
                exact mm_rt rfl rfl (hQ _ hIg34 (fun k j hk => ((hfg34 k j (fun h => hk (Or.elim h (fun h => (Or.inr (Or.inr (Or.inr (Or.inr (Or.inl h)))))) (fun h => (Or.inr (Or.inr (Or.inr (Or.inr (Or.inr (Or.inl h)))))))))).trans (hfg27 k j (fun h => hk (Or.elim h (fun h => (Or.inl h)) (fun h => (Or.elim h (fun h => (Or.inr (Or.inl h))) (fun h => (Or.elim h (fun h => (Or.inr (Or.inr (Or.inl h)))) (fun h => (Or.elim h (fun h => (Or.inr (Or.inr (Or.inr (Or.inl h))))) (fun h => (Or.elim h (fun h => (Or.inr (Or.inr (Or.inr (Or.inr (Or.inr (Or.inr (Or.inr (Or.inl h))))))))) (fun h => (Or.elim h (fun h => (Or.inr (Or.inr (Or.inr (Or.inr (Or.inr (Or.inr (Or.inr (Or.inr (Or.inl h)))))))))) (fun h => (Or.elim h (fun h => (Or.inr (Or.inr (Or.inr (Or.inr (Or.inr (Or.inr (Or.inr (Or.inr (Or.inr (Or.inl h))))))))))) (fun h => (Or.elim h (fun h => (Or.inr (Or.inr (Or.inr (Or.inr (Or.inr (Or.inr (Or.inr (Or.inr (Or.inr (Or.inr (Or.inl h)))))))))))) (fun h => (Or.elim h (fun h => (Or.inr (Or.inr (Or.inr (Or.inr (Or.inr (Or.inr (Or.inr (Or.inr (Or.inr (Or.inr (Or.inr (Or.inl h))))))))))))) (fun h => (Or.elim h (fun h => (Or.inr (Or.inr (Or.inr (Or.inr (Or.inr (Or.inr (Or.inr (Or.inr (Or.inr (Or.inr (Or.inr (Or.inr (Or.inl h)))))))))))))) (fun h => (Or.elim h (fun h => (Or.inr (Or.inr (Or.inr (Or.inr (Or.inr (Or.inr (Or.inr (Or.inr (Or.inr (Or.inr (Or.inr (Or.inr (Or.inr (Or.inl h))))))))))))))) (fun h => (Or.elim h (fun h => (Or.inr (Or.inr (Or.inr (Or.inr (Or.inl h)))))) (fun h => (Or.elim h (fun h => (Or.inr (Or.inr (Or.inr (Or.inr (Or.inr (Or.inl h))))))) (fun h => (Or.inr (Or.inr (Or.inr (Or.inr (Or.inr (Or.inr (Or.inr (Or.inr (Or.inr (Or.inr (Or.inr (Or.inr (Or.inr (Or.inr (Or.inl h))))))))))))))))))))))))))))))))))))))))))))) hE)
        · skip
          replace hE := zf_in hE c75_20
          refine mm_g 2 (pc1 := 80) (lo1 := [some (.ref 81), some (.ref q1), none]) (st1 := [.ref q1, .ref 81]) (H1 := mz_mk g x) rfl ?_
          refine mz_cv rfl mt_4_81 (by decide) (sc_81 _) rfl (Nat.le_of_ble_eq_true rfl) (by omega) (f_X4_readHeat (by omega) hx hI h_q1 (fun v36 g37 hIg37 hfg37 l_v36 u_v36 hc38 => ⟨_, rfl, ?_⟩))
          show mm_W d mmX4_readLine 83 [some (.ref 81), some (.ref q1), none] [.int (Int32.ofInt v36)] (mz_mk g37 x) Q
          replace hE := zf_t2 hE hc38
          refine mm_g 1 (pc1 := 84) (lo1 := [some (.ref 81), some (.ref q1), some (.int (Int32.ofInt v36))]) (st1 := []) (H1 := mz_mk g37 x) rfl ?_
          refine mz_gt (tgt := 117) rfl rfl ?_
          refine mm_g 1 (pc1 := 118) (lo1 := [some (.ref 81), some (.ref q1), some (.int (Int32.ofInt v36))]) (st1 := [.int (Int32.ofInt v36)]) (H1 := mz_mk g37 x) rfl ?_
          refine mz_if_eq (tgt := 142) rfl rfl (mz_rg l_v36 u_v36) (fun c118_38 => ?_) (fun c118_38 => ?_)
          · skip
            replace hE := zf_ip hE c118_38
            refine mm_g 1 (pc1 := 143) (lo1 := [some (.ref 81), some (.ref q1), some (.int (Int32.ofInt v36))]) (st1 := [.int (Int32.ofInt v36)]) (H1 := mz_mk g37 x) rfl ?_
            refine mz_if_eq (tgt := 153) rfl rfl (mz_rg l_v36 u_v36) (fun c143_38 => ?_) (fun c143_38 => ?_)
            · skip
              replace hE := zf_ip hE c143_38
              exact mm_rt rfl rfl (hQ _ hIg37 (fun k j hk => (hfg37 k j (fun h => hk (Or.elim h (fun h => (Or.inl h)) (fun h => (Or.elim h (fun h => (Or.inr (Or.inl h))) (fun h => (Or.elim h (fun h => (Or.inr (Or.inr (Or.inl h)))) (fun h => (Or.elim h (fun h => (Or.inr (Or.inr (Or.inr (Or.inl h))))) (fun h => (Or.elim h (fun h => (Or.inr (Or.inr (Or.inr (Or.inr (Or.inl h)))))) (fun h => (Or.elim h (fun h => (Or.inr (Or.inr (Or.inr (Or.inr (Or.inr (Or.inl h))))))) (fun h => (Or.elim h (fun h => (Or.inr (Or.inr (Or.inr (Or.inr (Or.inr (Or.inr (Or.inr (Or.inr (Or.inr (Or.inr (Or.inr (Or.inr (Or.inr (Or.inr (Or.inr (Or.inl h))))))))))))))))) (fun h => (Or.inr (Or.inr (Or.inr (Or.inr (Or.inr (Or.inr (Or.inr (Or.inr (Or.inr (Or.inr (Or.inr (Or.inr (Or.inr (Or.inr (Or.inr (Or.inr (Or.inl h)))))))))))))))))))))))))))))))))) hE)
            · exfalso; omega
          · skip
            replace hE := zf_in hE c118_38
            refine mm_g 1 (pc1 := 122) (lo1 := [some (.ref 81), some (.ref q1), some (.int (Int32.ofInt v36))]) (st1 := [.ref 81]) (H1 := mz_mk g37 x) rfl ?_
            refine mz_fgR (v := 82) rfl fd_4_12 (by decide) (sc_81 _) (rf_81_0 _ _ _) ?_
            refine mz_cv rfl mt_4_48 (by decide) (sc_82 _) rfl (Nat.le_of_ble_eq_true rfl) (by omega) (f_X7_kind (by omega) hx hIg37 (fun v39 l_v39 u_v39 hc40 => ⟨_, rfl, ?_⟩))
            show mm_W d mmX4_readLine 128 [some (.ref 81), some (.ref q1), some (.int (Int32.ofInt v36))] [.int (Int32.ofInt v39)] (mz_mk g37 x) Q
            replace hE := zf_t1 hE hc40
            refine mz_bip rfl bip_59 ?_
            refine mz_ic_eq (tgt := 142) rfl rfl (mz_rg l_v39 u_v39) ⟨by decide, by decide⟩ (fun c130_40 => ?_) (fun c130_40 => ?_)
            · skip
              replace hE := zf_ip hE c130_40
              refine mm_g 1 (pc1 := 143) (lo1 := [some (.ref 81), some (.ref q1), some (.int (Int32.ofInt v36))]) (st1 := [.int (Int32.ofInt v36)]) (H1 := mz_mk g37 x) rfl ?_
              refine mz_if_eq (tgt := 153) rfl rfl (mz_rg l_v36 u_v36) (fun c143_40 => ?_) (fun c143_40 => ?_)
              · exfalso; omega
              · skip
                replace hE := zf_in hE c143_40
                refine mm_g 1 (pc1 := 147) (lo1 := [some (.ref 81), some (.ref q1), some (.int (Int32.ofInt v36))]) (st1 := [.ref 81]) (H1 := mz_mk g37 x) rfl ?_
                refine mz_fgR (v := 82) rfl fd_4_12 (by decide) (sc_81 _) (rf_81_0 _ _ _) ?_
                refine mz_cv rfl mt_4_99 (by decide) (sc_82 _) rfl (Nat.le_of_ble_eq_true rfl) (by omega) (f_X7_step (by omega) hx hIg37 (fun g41 hIg41 hfg41 hc42 => ⟨_, rfl, ?_⟩))
                show mm_W d mmX4_readLine 153 [some (.ref 81), some (.ref q1), some (.int (Int32.ofInt v36))] [] (mz_mk g41 x) Q
                replace hE := zf_t1 hE hc42
                exact mm_rt rfl rfl (hQ _ hIg41 (fun k j hk => ((hfg41 k j (fun h => hk (Or.elim h (fun h => (Or.inl h)) (fun h => (Or.elim h (fun h => (Or.inr (Or.inl h))) (fun h => (Or.elim h (fun h => (Or.inr (Or.inr (Or.inl h)))) (fun h => (Or.inr (Or.inr (Or.inr (Or.inl h)))))))))))).trans (hfg37 k j (fun h => hk (Or.elim h (fun h => (Or.inl h)) (fun h => (Or.elim h (fun h => (Or.inr (Or.inl h))) (fun h => (Or.elim h (fun h => (Or.inr (Or.inr (Or.inl h)))) (fun h => (Or.elim h (fun h => (Or.inr (Or.inr (Or.inr (Or.inl h))))) (fun h => (Or.elim h (fun h => (Or.inr (Or.inr (Or.inr (Or.inr (Or.inl h)))))) (fun h => (Or.elim h (fun h => (Or.inr (Or.inr (Or.inr (Or.inr (Or.inr (Or.inl h))))))) (fun h => (Or.elim h (fun h => (Or.inr (Or.inr (Or.inr (Or.inr (Or.inr (Or.inr (Or.inr (Or.inr (Or.inr (Or.inr (Or.inr (Or.inr (Or.inr (Or.inr (Or.inr (Or.inl h))))))))))))))))) (fun h => (Or.inr (Or.inr (Or.inr (Or.inr (Or.inr (Or.inr (Or.inr (Or.inr (Or.inr (Or.inr (Or.inr (Or.inr (Or.inr (Or.inr (Or.inr (Or.inr (Or.inl h))))))))))))))))))))))))))))))))))) hE)
            · skip
              replace hE := zf_in hE c130_40
              refine mm_g 2 (pc1 := 135) (lo1 := [some (.ref 81), some (.ref q1), some (.int (Int32.ofInt v36))]) (st1 := [.int (Int32.ofInt 1), .ref 81]) (H1 := mz_mk g37 x) rfl ?_
              refine mz_cv rfl mt_4_95 (by decide) (sc_81 _) rfl (Nat.le_of_ble_eq_true rfl) (by omega) (f_X4_blame (by omega) hx hIg37 (by decide) (by decide) (fun v43 g44 hIg44 hfg44 l_v43 u_v43 hc45 => ⟨_, rfl, ?_⟩))
              show mm_W d mmX4_readLine 138 [some (.ref 81), some (.ref q1), some (.int (Int32.ofInt v36))] [.int (Int32.ofInt v43)] (mz_mk g44 x) Q
              replace hE := zf_t2 hE hc45
              refine mm_g 1 (pc1 := 139) (lo1 := [some (.ref 81), some (.ref q1), some (.int (Int32.ofInt v36))]) (st1 := []) (H1 := mz_mk g44 x) rfl ?_
              refine mz_gt (tgt := 153) rfl rfl ?_
              exact mm_rt rfl rfl (hQ _ hIg44 (fun k j hk => ((hfg44 k j (fun h => hk (Or.elim h (fun h => (Or.inr (Or.inr (Or.inr (Or.inr (Or.inl h)))))) (fun h => (Or.inr (Or.inr (Or.inr (Or.inr (Or.inr (Or.inl h)))))))))).trans (hfg37 k j (fun h => hk (Or.elim h (fun h => (Or.inl h)) (fun h => (Or.elim h (fun h => (Or.inr (Or.inl h))) (fun h => (Or.elim h (fun h => (Or.inr (Or.inr (Or.inl h)))) (fun h => (Or.elim h (fun h => (Or.inr (Or.inr (Or.inr (Or.inl h))))) (fun h => (Or.elim h (fun h => (Or.inr (Or.inr (Or.inr (Or.inr (Or.inl h)))))) (fun h => (Or.elim h (fun h => (Or.inr (Or.inr (Or.inr (Or.inr (Or.inr (Or.inl h))))))) (fun h => (Or.elim h (fun h => (Or.inr (Or.inr (Or.inr (Or.inr (Or.inr (Or.inr (Or.inr (Or.inr (Or.inr (Or.inr (Or.inr (Or.inr (Or.inr (Or.inr (Or.inr (Or.inl h))))))))))))))))) (fun h => (Or.inr (Or.inr (Or.inr (Or.inr (Or.inr (Or.inr (Or.inr (Or.inr (Or.inr (Or.inr (Or.inr (Or.inr (Or.inr (Or.inr (Or.inr (Or.inr (Or.inl h))))))))))))))))))))))))))))))))))) hE)
      · skip
        replace hE := zf_in hE c45_18
        refine mm_g 3 (pc1 := 51) (lo1 := [some (.ref 81), some (.ref q1), none]) (st1 := [.ref 81, .ref q1, .ref 81]) (H1 := mz_mk g x) rfl ?_
        refine mz_fgR (v := 82) rfl fd_4_12 (by decide) (sc_81 _) (rf_81_0 _ _ _) ?_
        refine mz_ldcS (j := 2) rfl rfl rfl ?_
        refine mz_cv rfl mt_4_57 (by decide) (sc_82 _) rfl (Nat.le_of_ble_eq_true rfl) (by omega) (f_X7_spells (by omega) hx hI (by decide) (fun v46 l_v46 u_v46 hc47 => ⟨_, rfl, ?_⟩))
        show mm_W d mmX4_readLine 59 [some (.ref 81), some (.ref q1), none] [.int (Int32.ofInt v46), .ref q1, .ref 81] (mz_mk g x) Q
        replace hE := zf_t1 hE hc47
        refine mz_cv rfl mt_4_75 (by decide) (sc_81 _) rfl (Nat.le_of_ble_eq_true rfl) (by omega) (f_X4_readTrunk (by omega) hx hI h_q1 l_v46 u_v46 (fun v48 g49 hIg49 hfg49 l_v48 u_v48 hc50 => ⟨_, rfl, ?_⟩))
        show mm_W d mmX4_readLine 62 [some (.ref 81), some (.ref q1), none] [.int (Int32.ofInt v48)] (mz_mk g49 x) Q
        replace hE := zf_t2 hE hc50
        refine mm_g 1 (pc1 := 63) (lo1 := [some (.ref 81), some (.ref q1), some (.int (Int32.ofInt v48))]) (st1 := []) (H1 := mz_mk g49 x) rfl ?_
        refine mz_gt (tgt := 117) rfl rfl ?_
        refine mm_g 1 (pc1 := 118) (lo1 := [some (.ref 81), some (.ref q1), some (.int (Int32.ofInt v48))]) (st1 := [.int (Int32.ofInt v48)]) (H1 := mz_mk g49 x) rfl ?_
        refine mz_if_eq (tgt := 142) rfl rfl (mz_rg l_v48 u_v48) (fun c118_50 => ?_) (fun c118_50 => ?_)
        · skip
          replace hE := zf_ip hE c118_50
          refine mm_g 1 (pc1 := 143) (lo1 := [some (.ref 81), some (.ref q1), some (.int (Int32.ofInt v48))]) (st1 := [.int (Int32.ofInt v48)]) (H1 := mz_mk g49 x) rfl ?_
          refine mz_if_eq (tgt := 153) rfl rfl (mz_rg l_v48 u_v48) (fun c143_50 => ?_) (fun c143_50 => ?_)
          · skip
            replace hE := zf_ip hE c143_50
            exact mm_rt rfl rfl (hQ _ hIg49 (fun k j hk => (hfg49 k j (fun h => hk (Or.elim h (fun h => (Or.inl h)) (fun h => (Or.elim h (fun h => (Or.inr (Or.inl h))) (fun h => (Or.elim h (fun h => (Or.inr (Or.inr (Or.inl h)))) (fun h => (Or.elim h (fun h => (Or.inr (Or.inr (Or.inr (Or.inl h))))) (fun h => (Or.elim h (fun h => (Or.inr (Or.inr (Or.inr (Or.inr (Or.inl h)))))) (fun h => (Or.elim h (fun h => (Or.inr (Or.inr (Or.inr (Or.inr (Or.inr (Or.inl h))))))) (fun h => (Or.inr (Or.inr (Or.inr (Or.inr (Or.inr (Or.inr (Or.inl h)))))))))))))))))))))) hE)
          · exfalso; omega
        · skip
          replace hE := zf_in hE c118_50
          refine mm_g 1 (pc1 := 122) (lo1 := [some (.ref 81), some (.ref q1), some (.int (Int32.ofInt v48))]) (st1 := [.ref 81]) (H1 := mz_mk g49 x) rfl ?_
          refine mz_fgR (v := 82) rfl fd_4_12 (by decide) (sc_81 _) (rf_81_0 _ _ _) ?_
          refine mz_cv rfl mt_4_48 (by decide) (sc_82 _) rfl (Nat.le_of_ble_eq_true rfl) (by omega) (f_X7_kind (by omega) hx hIg49 (fun v51 l_v51 u_v51 hc52 => ⟨_, rfl, ?_⟩))
          show mm_W d mmX4_readLine 128 [some (.ref 81), some (.ref q1), some (.int (Int32.ofInt v48))] [.int (Int32.ofInt v51)] (mz_mk g49 x) Q
          replace hE := zf_t1 hE hc52
          refine mz_bip rfl bip_59 ?_
          refine mz_ic_eq (tgt := 142) rfl rfl (mz_rg l_v51 u_v51) ⟨by decide, by decide⟩ (fun c130_52 => ?_) (fun c130_52 => ?_)
          · skip
            replace hE := zf_ip hE c130_52
            refine mm_g 1 (pc1 := 143) (lo1 := [some (.ref 81), some (.ref q1), some (.int (Int32.ofInt v48))]) (st1 := [.int (Int32.ofInt v48)]) (H1 := mz_mk g49 x) rfl ?_
            refine mz_if_eq (tgt := 153) rfl rfl (mz_rg l_v48 u_v48) (fun c143_52 => ?_) (fun c143_52 => ?_)
            · exfalso; omega
            · skip
              replace hE := zf_in hE c143_52
              refine mm_g 1 (pc1 := 147) (lo1 := [some (.ref 81), some (.ref q1), some (.int (Int32.ofInt v48))]) (st1 := [.ref 81]) (H1 := mz_mk g49 x) rfl ?_
              refine mz_fgR (v := 82) rfl fd_4_12 (by decide) (sc_81 _) (rf_81_0 _ _ _) ?_
              refine mz_cv rfl mt_4_99 (by decide) (sc_82 _) rfl (Nat.le_of_ble_eq_true rfl) (by omega) (f_X7_step (by omega) hx hIg49 (fun g53 hIg53 hfg53 hc54 => ⟨_, rfl, ?_⟩))
              show mm_W d mmX4_readLine 153 [some (.ref 81), some (.ref q1), some (.int (Int32.ofInt v48))] [] (mz_mk g53 x) Q
              replace hE := zf_t1 hE hc54
              exact mm_rt rfl rfl (hQ _ hIg53 (fun k j hk => ((hfg53 k j (fun h => hk (Or.elim h (fun h => (Or.inl h)) (fun h => (Or.elim h (fun h => (Or.inr (Or.inl h))) (fun h => (Or.elim h (fun h => (Or.inr (Or.inr (Or.inl h)))) (fun h => (Or.inr (Or.inr (Or.inr (Or.inl h)))))))))))).trans (hfg49 k j (fun h => hk (Or.elim h (fun h => (Or.inl h)) (fun h => (Or.elim h (fun h => (Or.inr (Or.inl h))) (fun h => (Or.elim h (fun h => (Or.inr (Or.inr (Or.inl h)))) (fun h => (Or.elim h (fun h => (Or.inr (Or.inr (Or.inr (Or.inl h))))) (fun h => (Or.elim h (fun h => (Or.inr (Or.inr (Or.inr (Or.inr (Or.inl h)))))) (fun h => (Or.elim h (fun h => (Or.inr (Or.inr (Or.inr (Or.inr (Or.inr (Or.inl h))))))) (fun h => (Or.inr (Or.inr (Or.inr (Or.inr (Or.inr (Or.inr (Or.inl h))))))))))))))))))))))) hE)
          · skip
            replace hE := zf_in hE c130_52
            refine mm_g 2 (pc1 := 135) (lo1 := [some (.ref 81), some (.ref q1), some (.int (Int32.ofInt v48))]) (st1 := [.int (Int32.ofInt 1), .ref 81]) (H1 := mz_mk g49 x) rfl ?_
            refine mz_cv rfl mt_4_95 (by decide) (sc_81 _) rfl (Nat.le_of_ble_eq_true rfl) (by omega) (f_X4_blame (by omega) hx hIg49 (by decide) (by decide) (fun v55 g56 hIg56 hfg56 l_v55 u_v55 hc57 => ⟨_, rfl, ?_⟩))
            show mm_W d mmX4_readLine 138 [some (.ref 81), some (.ref q1), some (.int (Int32.ofInt v48))] [.int (Int32.ofInt v55)] (mz_mk g56 x) Q
            replace hE := zf_t2 hE hc57
            refine mm_g 1 (pc1 := 139) (lo1 := [some (.ref 81), some (.ref q1), some (.int (Int32.ofInt v48))]) (st1 := []) (H1 := mz_mk g56 x) rfl ?_
            refine mz_gt (tgt := 153) rfl rfl ?_
            exact mm_rt rfl rfl (hQ _ hIg56 (fun k j hk => ((hfg56 k j (fun h => hk (Or.elim h (fun h => (Or.inr (Or.inr (Or.inr (Or.inr (Or.inl h)))))) (fun h => (Or.inr (Or.inr (Or.inr (Or.inr (Or.inr (Or.inl h)))))))))).trans (hfg49 k j (fun h => hk (Or.elim h (fun h => (Or.inl h)) (fun h => (Or.elim h (fun h => (Or.inr (Or.inl h))) (fun h => (Or.elim h (fun h => (Or.inr (Or.inr (Or.inl h)))) (fun h => (Or.elim h (fun h => (Or.inr (Or.inr (Or.inr (Or.inl h))))) (fun h => (Or.elim h (fun h => (Or.inr (Or.inr (Or.inr (Or.inr (Or.inl h)))))) (fun h => (Or.elim h (fun h => (Or.inr (Or.inr (Or.inr (Or.inr (Or.inr (Or.inl h))))))) (fun h => (Or.inr (Or.inr (Or.inr (Or.inr (Or.inr (Or.inr (Or.inl h))))))))))))))))))))))) hE)
  · skip
    replace hE := zf_in hE c9_2
    refine mm_g 2 (pc1 := 14) (lo1 := [some (.ref 81), some (.ref q1), none]) (st1 := [.ref q1, .ref 81]) (H1 := mz_mk g x) rfl ?_
    refine mz_fgR (v := (q1 + 1)) rfl fd_4_61 (by decide) (kc_load h_q1 _) (kr_load_0 h_q1 _ _ _) ?_
    refine mz_cv rfl mt_4_67 (by decide) (sc_81 _) rfl (Nat.le_of_ble_eq_true rfl) (by omega) (f_X4_readWord (by omega) hx hI (ks_load_0 h_q1) (fun v58 g59 hIg59 hfg59 l_v58 u_v58 hc60 => ⟨_, rfl, ?_⟩))
    show mm_W d mmX4_readLine 20 [some (.ref 81), some (.ref q1), none] [.int (Int32.ofInt v58)] (mz_mk g59 x) Q
    replace hE := zf_t2 hE hc60
    refine mm_g 1 (pc1 := 21) (lo1 := [some (.ref 81), some (.ref q1), some (.int (Int32.ofInt v58))]) (st1 := []) (H1 := mz_mk g59 x) rfl ?_
    refine mz_gt (tgt := 117) rfl rfl ?_
    refine mm_g 1 (pc1 := 118) (lo1 := [some (.ref 81), some (.ref q1), some (.int (Int32.ofInt v58))]) (st1 := [.int (Int32.ofInt v58)]) (H1 := mz_mk g59 x) rfl ?_
    refine mz_if_eq (tgt := 142) rfl rfl (mz_rg l_v58 u_v58) (fun c118_60 => ?_) (fun c118_60 => ?_)
    · skip
      replace hE := zf_ip hE c118_60
      refine mm_g 1 (pc1 := 143) (lo1 := [some (.ref 81), some (.ref q1), some (.int (Int32.ofInt v58))]) (st1 := [.int (Int32.ofInt v58)]) (H1 := mz_mk g59 x) rfl ?_
      refine mz_if_eq (tgt := 153) rfl rfl (mz_rg l_v58 u_v58) (fun c143_60 => ?_) (fun c143_60 => ?_)
      · skip
        replace hE := zf_ip hE c143_60
        exact mm_rt rfl rfl (hQ _ hIg59 (fun k j hk => (hfg59 k j (fun h => hk (Or.elim h (fun h => (Or.inl h)) (fun h => (Or.elim h (fun h => (Or.inr (Or.inl h))) (fun h => (Or.elim h (fun h => (Or.inr (Or.inr (Or.inl h)))) (fun h => (Or.elim h (fun h => (Or.inr (Or.inr (Or.inr (Or.inl h))))) (fun h => (Or.elim h (fun h => (Or.inr (Or.inr (Or.inr (Or.inr (Or.inr (Or.inr (Or.inr (Or.inr (Or.inr (Or.inr (Or.inr (Or.inr (Or.inr (Or.inr (Or.inr (Or.inr (Or.inr h)))))))))))))))))) (fun h => (Or.elim h (fun h => (Or.inr (Or.inr (Or.inr (Or.inr (Or.inl h)))))) (fun h => (Or.inr (Or.inr (Or.inr (Or.inr (Or.inr (Or.inl h))))))))))))))))))))) hE)
      · exfalso; omega
    · skip
      replace hE := zf_in hE c118_60
      refine mm_g 1 (pc1 := 122) (lo1 := [some (.ref 81), some (.ref q1), some (.int (Int32.ofInt v58))]) (st1 := [.ref 81]) (H1 := mz_mk g59 x) rfl ?_
      refine mz_fgR (v := 82) rfl fd_4_12 (by decide) (sc_81 _) (rf_81_0 _ _ _) ?_
      refine mz_cv rfl mt_4_48 (by decide) (sc_82 _) rfl (Nat.le_of_ble_eq_true rfl) (by omega) (f_X7_kind (by omega) hx hIg59 (fun v61 l_v61 u_v61 hc62 => ⟨_, rfl, ?_⟩))
      show mm_W d mmX4_readLine 128 [some (.ref 81), some (.ref q1), some (.int (Int32.ofInt v58))] [.int (Int32.ofInt v61)] (mz_mk g59 x) Q
      replace hE := zf_t1 hE hc62
      refine mz_bip rfl bip_59 ?_
      refine mz_ic_eq (tgt := 142) rfl rfl (mz_rg l_v61 u_v61) ⟨by decide, by decide⟩ (fun c130_62 => ?_) (fun c130_62 => ?_)
      · skip
        replace hE := zf_ip hE c130_62
        refine mm_g 1 (pc1 := 143) (lo1 := [some (.ref 81), some (.ref q1), some (.int (Int32.ofInt v58))]) (st1 := [.int (Int32.ofInt v58)]) (H1 := mz_mk g59 x) rfl ?_
        refine mz_if_eq (tgt := 153) rfl rfl (mz_rg l_v58 u_v58) (fun c143_62 => ?_) (fun c143_62 => ?_)
        · exfalso; omega
        · skip
          replace hE := zf_in hE c143_62
          refine mm_g 1 (pc1 := 147) (lo1 := [some (.ref 81), some (.ref q1), some (.int (Int32.ofInt v58))]) (st1 := [.ref 81]) (H1 := mz_mk g59 x) rfl ?_
          refine mz_fgR (v := 82) rfl fd_4_12 (by decide) (sc_81 _) (rf_81_0 _ _ _) ?_
          refine mz_cv rfl mt_4_99 (by decide) (sc_82 _) rfl (Nat.le_of_ble_eq_true rfl) (by omega) (f_X7_step (by omega) hx hIg59 (fun g63 hIg63 hfg63 hc64 => ⟨_, rfl, ?_⟩))
          show mm_W d mmX4_readLine 153 [some (.ref 81), some (.ref q1), some (.int (Int32.ofInt v58))] [] (mz_mk g63 x) Q
          replace hE := zf_t1 hE hc64
          exact mm_rt rfl rfl (hQ _ hIg63 (fun k j hk => ((hfg63 k j (fun h => hk (Or.elim h (fun h => (Or.inl h)) (fun h => (Or.elim h (fun h => (Or.inr (Or.inl h))) (fun h => (Or.elim h (fun h => (Or.inr (Or.inr (Or.inl h)))) (fun h => (Or.inr (Or.inr (Or.inr (Or.inl h)))))))))))).trans (hfg59 k j (fun h => hk (Or.elim h (fun h => (Or.inl h)) (fun h => (Or.elim h (fun h => (Or.inr (Or.inl h))) (fun h => (Or.elim h (fun h => (Or.inr (Or.inr (Or.inl h)))) (fun h => (Or.elim h (fun h => (Or.inr (Or.inr (Or.inr (Or.inl h))))) (fun h => (Or.elim h (fun h => (Or.inr (Or.inr (Or.inr (Or.inr (Or.inr (Or.inr (Or.inr (Or.inr (Or.inr (Or.inr (Or.inr (Or.inr (Or.inr (Or.inr (Or.inr (Or.inr (Or.inr h)))))))))))))))))) (fun h => (Or.elim h (fun h => (Or.inr (Or.inr (Or.inr (Or.inr (Or.inl h)))))) (fun h => (Or.inr (Or.inr (Or.inr (Or.inr (Or.inr (Or.inl h)))))))))))))))))))))) hE)
      · skip
        replace hE := zf_in hE c130_62
        refine mm_g 2 (pc1 := 135) (lo1 := [some (.ref 81), some (.ref q1), some (.int (Int32.ofInt v58))]) (st1 := [.int (Int32.ofInt 1), .ref 81]) (H1 := mz_mk g59 x) rfl ?_
        refine mz_cv rfl mt_4_95 (by decide) (sc_81 _) rfl (Nat.le_of_ble_eq_true rfl) (by omega) (f_X4_blame (by omega) hx hIg59 (by decide) (by decide) (fun v65 g66 hIg66 hfg66 l_v65 u_v65 hc67 => ⟨_, rfl, ?_⟩))
        show mm_W d mmX4_readLine 138 [some (.ref 81), some (.ref q1), some (.int (Int32.ofInt v58))] [.int (Int32.ofInt v65)] (mz_mk g66 x) Q
        replace hE := zf_t2 hE hc67
        refine mm_g 1 (pc1 := 139) (lo1 := [some (.ref 81), some (.ref q1), some (.int (Int32.ofInt v58))]) (st1 := []) (H1 := mz_mk g66 x) rfl ?_
        refine mz_gt (tgt := 153) rfl rfl ?_
        exact mm_rt rfl rfl (hQ _ hIg66 (fun k j hk => ((hfg66 k j (fun h => hk (Or.elim h (fun h => (Or.inr (Or.inr (Or.inr (Or.inr (Or.inl h)))))) (fun h => (Or.inr (Or.inr (Or.inr (Or.inr (Or.inr (Or.inl h)))))))))).trans (hfg59 k j (fun h => hk (Or.elim h (fun h => (Or.inl h)) (fun h => (Or.elim h (fun h => (Or.inr (Or.inl h))) (fun h => (Or.elim h (fun h => (Or.inr (Or.inr (Or.inl h)))) (fun h => (Or.elim h (fun h => (Or.inr (Or.inr (Or.inr (Or.inl h))))) (fun h => (Or.elim h (fun h => (Or.inr (Or.inr (Or.inr (Or.inr (Or.inr (Or.inr (Or.inr (Or.inr (Or.inr (Or.inr (Or.inr (Or.inr (Or.inr (Or.inr (Or.inr (Or.inr (Or.inr h)))))))))))))))))) (fun h => (Or.elim h (fun h => (Or.inr (Or.inr (Or.inr (Or.inr (Or.inl h)))))) (fun h => (Or.inr (Or.inr (Or.inr (Or.inr (Or.inr (Or.inl h)))))))))))))))))))))) hE)
theorem f_X4_place {d : Nat} (hd : 1 ≤ d) {x : mm_X} (hx : mk_x x) {g : mz_G} (hI : mz_inv g) {Q : (Option Value ⊕ Nat) → mm_H → Prop} (hQ : ∀ (r : Int), (-2147483648) ≤ r → r ≤ 2147483647 → zf_E (zF_X4_place g) (r) → Q (.inl (some (.int (Int32.ofInt r)))) (mz_mk g x)) : mm_C d 36 [.ref 81] (mz_mk g x) Q := by
  refine ⟨mmX4_place, [some (.ref 81)], rfl, rfl, ?_⟩
  have hE : zf_E (zF_X4_place g) (zF_X4_place g) := zf_rf
  refine mm_g 1 (pc1 := 1) (lo1 := [some (.ref 81)]) (st1 := [.ref 81]) (H1 := mz_mk g x) rfl ?_
  refine mz_gI rfl fd_4_22 (by decide) (sc_81 _) hI bd_81_2 (fun v1 e_v1 l_v1 u_v1 => ?_)
  replace hE := zf_tr hE (zf_le e_v1)
  exact mm_rt rfl rfl (hQ _ (by omega) (by omega) hE)
theorem f_X4_faultKind {d : Nat} (hd : 1 ≤ d) {x : mm_X} (hx : mk_x x) {g : mz_G} (hI : mz_inv g) {Q : (Option Value ⊕ Nat) → mm_H → Prop} (hQ : ∀ (r : Int), (-2147483648) ≤ r → r ≤ 2147483647 → zf_E (zF_X4_faultKind g) (r) → Q (.inl (some (.int (Int32.ofInt r)))) (mz_mk g x)) : mm_C d 37 [.ref 81] (mz_mk g x) Q := by
  refine ⟨mmX4_faultKind, [some (.ref 81)], rfl, rfl, ?_⟩
  have hE : zf_E (zF_X4_faultKind g) (zF_X4_faultKind g) := zf_rf
  refine mm_g 1 (pc1 := 1) (lo1 := [some (.ref 81)]) (st1 := [.ref 81]) (H1 := mz_mk g x) rfl ?_
  refine mz_gI rfl fd_4_18 (by decide) (sc_81 _) hI bd_81_1 (fun v1 e_v1 l_v1 u_v1 => ?_)
  replace hE := zf_tr hE (zf_le e_v1)
  exact mm_rt rfl rfl (hQ _ (by omega) (by omega) hE)
def fw_X6_refuse (x : mm_X) (q0 : Nat) (a1 : Int) : Nat → Nat → Prop := fun k j => k = (q0 + 14)
theorem f_X6_refuse {d : Nat} (hd : 2 ≤ d) {x : mm_X} (hx : mk_x x) {g : mz_G} (hI : mz_inv g) {q0 : Nat} (h_q0 : kd_story q0) {a1 : Int} (l_a1 : (-2147483648) ≤ a1) (u_a1 : a1 ≤ 2147483647) {Q : (Option Value ⊕ Nat) → mm_H → Prop} (hQ : ∀ (r : Int) (g1 : mz_G), mz_inv g1 → mz_fr (fw_X6_refuse x q0 a1) g g1 → (-1) ≤ r → r ≤ (-1) → zf_E (zF_X6_refuse q0 a1 g) ((r, g1)) → Q (.inl (some (.int (Int32.ofInt r)))) (mz_mk g1 x)) : mm_C d 68 [.ref q0, .int (Int32.ofInt a1)] (mz_mk g x) Q := by
  have kn_q0 := kn_story h_q0
  refine ⟨mmX6_refuse, [some (.ref q0), some (.int (Int32.ofInt a1))], rfl, rfl, ?_⟩
  have hE : zf_E (zF_X6_refuse q0 a1 g) (zF_X6_refuse q0 a1 g) := zf_rf
  refine mm_g 1 (pc1 := 1) (lo1 := [some (.ref q0), some (.int (Int32.ofInt a1))]) (st1 := [.ref q0]) (H1 := mz_mk g x) rfl ?_
  refine mz_fgR (v := (q0 + 14)) rfl fd_6_41 (by decide) (kc_story h_q0 _) (kr_story_8 h_q0 _ _ _) ?_
  refine mm_g 2 (pc1 := 6) (lo1 := [some (.ref q0), some (.int (Int32.ofInt a1))]) (st1 := [.ref q0, .int (Int32.ofInt a1), .ref (q0 + 14)]) (H1 := mz_mk g x) rfl ?_
  refine mz_fgR (v := (q0 + 14)) rfl fd_6_41 (by decide) (kc_story h_q0 _) (kr_story_8 h_q0 _ _ _) ?_
  refine mm_g 1 (pc1 := 10) (lo1 := [some (.ref q0), some (.int (Int32.ofInt a1))]) (st1 := [.int (Int32.ofInt a1), .ref (q0 + 14), .int (Int32.ofInt a1), .ref (q0 + 14)]) (H1 := mz_mk g x) rfl ?_
  refine mz_cs rfl mt_6_52 (by decide) rfl (Nat.le_of_ble_eq_true rfl) (by omega) (f_X11_at (by omega) hx hI (ka_story_8 h_q0 _) (by decide) (kba_story_8 h_q0) (by omega) (by omega) l_a1 u_a1 (fun v1 l_v1 u_v1 hc2 => ⟨_, rfl, ?_⟩))
  show mm_W d mmX6_refuse 13 [some (.ref q0), some (.int (Int32.ofInt a1))] [.int (Int32.ofInt v1), .int (Int32.ofInt a1), .ref (q0 + 14)] (mz_mk g x) Q
  replace hE := zf_t1 hE hc2
  refine mm_g 1 (pc1 := 14) (lo1 := [some (.ref q0), some (.int (Int32.ofInt a1))]) (st1 := [.int (Int32.ofInt 1), .int (Int32.ofInt v1), .int (Int32.ofInt a1), .ref (q0 + 14)]) (H1 := mz_mk g x) rfl ?_
  refine mz_iadd_w rfl (fun v3 e_v3 hwv3 => ?_)
  have l_v3 := hwv3.1
  have u_v3 := hwv3.2
  replace hE := zf_tr hE (zf_le e_v3.symm)
  refine mz_cs rfl mt_6_56 (by decide) rfl (Nat.le_of_ble_eq_true rfl) (by omega) (f_X11_put (by omega) hx hI (ka_story_8 h_q0 _) (by decide) (kba_story_8 h_q0) (by omega) (by omega) l_a1 u_a1 l_v3 u_v3 (by omega) (by omega) (fun g4 hIg4 hfg4 hc5 => ⟨_, rfl, ?_⟩))
  show mm_W d mmX6_refuse 18 [some (.ref q0), some (.int (Int32.ofInt a1))] [] (mz_mk g4 x) Q
  replace hE := zf_t1 hE hc5
  refine mm_g 1 (pc1 := 19) (lo1 := [some (.ref q0), some (.int (Int32.ofInt a1))]) (st1 := [.int (Int32.ofInt (-1))]) (H1 := mz_mk g4 x) rfl ?_
  exact mm_rt rfl rfl (hQ _ _ hIg4 (fun k j hk => (hfg4 k j (fun h => hk h))) (by decide) (by decide) hE)
