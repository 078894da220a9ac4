/-! EXACT: the class (wip/p2/tools/gen50.py) -/
theorem nj_3 : ¬ (((87 : Nat) ≤ 82 ∧ (82 : Nat) < 96) ∨ (82 : Nat) = 86) := (fun h => (Or.elim h (fun h => (absurd (show (87 ≤ 82 ∧ 82 < 96) from h) (by decide))) (fun h => (absurd (show 82 = 86 from h) (by decide)))))
theorem nj_4 {p1 p2 p3 p4 p5 p6 p7 : Prop} : ¬ (((82 : Nat) = 82 ∧ (1 : Nat) = 3) ∨ ((82 : Nat) = 82 ∧ (1 : Nat) = 5) ∨ ((82 : Nat) = 82 ∧ (1 : Nat) = 6) ∨ ((82 : Nat) = 82 ∧ (1 : Nat) = 4) ∨ ((82 : Nat) = 81 ∧ p1) ∨ ((82 : Nat) = 81 ∧ p2) ∨ ((1 : Nat) ≤ 82 ∧ (82 : Nat) < 81) ∨ ((82 : Nat) = 81 ∧ p3) ∨ ((82 : Nat) = 81 ∧ p4) ∨ ((82 : Nat) = 81 ∧ p5) ∨ ((82 : Nat) = 81 ∧ p6) ∨ ((82 : Nat) = 81 ∧ p7) ∨ (82 : Nat) = 84) := (fun h => (Or.elim h (fun h => (absurd (show (82 = 82 ∧ 1 = 3) from h) (by decide))) (fun h => (Or.elim h (fun h => (absurd (show (82 = 82 ∧ 1 = 5) from h) (by decide))) (fun h => (Or.elim h (fun h => (absurd (show (82 = 82 ∧ 1 = 6) from h) (by decide))) (fun h => (Or.elim h (fun h => (absurd (show (82 = 82 ∧ 1 = 4) from h) (by decide))) (fun h => (Or.elim h (fun h => (absurd (show 82 = 81 from (h).1) (by decide))) (fun h => (Or.elim h (fun h => (absurd (show 82 = 81 from (h).1) (by decide))) (fun h => (Or.elim h (fun h => (absurd (show (1 ≤ 82 ∧ 82 < 81) from h) (by decide))) (fun h => (Or.elim h (fun h => (absurd (show 82 = 81 from (h).1) (by decide))) (fun h => (Or.elim h (fun h => (absurd (show 82 = 81 from (h).1) (by decide))) (fun h => (Or.elim h (fun h => (absurd (show 82 = 81 from (h).1) (by decide))) (fun h => (Or.elim h (fun h => (absurd (show 82 = 81 from (h).1) (by decide))) (fun h => (Or.elim h (fun h => (absurd (show 82 = 81 from (h).1) (by decide))) (fun h => (absurd (show 82 = 84 from h) (by decide)))))))))))))))))))))))))))
theorem fd_6_12 : mm_tab mm_fldT 6 12 = some (6, 0, 0) ∧ mm_tab mm_ftT 6 0 = some 6 := ⟨rfl, rfl⟩
theorem fd_6_22 : mm_tab mm_fldT 6 22 = some (6, 2, 0) ∧ mm_tab mm_ftT 6 2 = some 0 := ⟨rfl, rfl⟩
theorem fd_6_26 : mm_tab mm_fldT 6 26 = some (6, 3, 0) ∧ mm_tab mm_ftT 6 3 = some 0 := ⟨rfl, rfl⟩
theorem fd_6_38 : mm_tab mm_fldT 6 38 = some (6, 7, 0) ∧ mm_tab mm_ftT 6 7 = some 0 := ⟨rfl, rfl⟩
theorem fd_8_7 : mm_tab mm_fldT 8 7 = some (8, 0, 0) ∧ mm_tab mm_ftT 8 0 = some 0 := ⟨rfl, rfl⟩
theorem fd_8_13 : mm_tab mm_fldT 8 13 = some (8, 1, 0) ∧ mm_tab mm_ftT 8 1 = some 0 := ⟨rfl, rfl⟩
theorem fd_8_16 : mm_tab mm_fldT 8 16 = some (8, 2, 0) ∧ mm_tab mm_ftT 8 2 = some 0 := ⟨rfl, rfl⟩
theorem fd_8_19 : mm_tab mm_fldT 8 19 = some (8, 3, 0) ∧ mm_tab mm_ftT 8 3 = some 0 := ⟨rfl, rfl⟩
theorem fd_8_22 : mm_tab mm_fldT 8 22 = some (8, 4, 0) ∧ mm_tab mm_ftT 8 4 = some 1 := ⟨rfl, rfl⟩
theorem fd_9_26 : mm_tab mm_fldT 9 26 = some (9, 3, 0) ∧ mm_tab mm_ftT 9 3 = some 0 := ⟨rfl, rfl⟩
theorem fd_10_32 : mm_tab mm_fldT 10 32 = some (10, 4, 0) ∧ mm_tab mm_ftT 10 4 = some 6 := ⟨rfl, rfl⟩
theorem fd_10_35 : mm_tab mm_fldT 10 35 = some (10, 5, 0) ∧ mm_tab mm_ftT 10 5 = some 6 := ⟨rfl, rfl⟩
theorem fd_10_38 : mm_tab mm_fldT 10 38 = some (10, 6, 0) ∧ mm_tab mm_ftT 10 6 = some 6 := ⟨rfl, rfl⟩
theorem fd_10_41 : mm_tab mm_fldT 10 41 = some (10, 7, 0) ∧ mm_tab mm_ftT 10 7 = some 6 := ⟨rfl, rfl⟩
theorem fd_10_44 : mm_tab mm_fldT 10 44 = some (10, 8, 0) ∧ mm_tab mm_ftT 10 8 = some 0 := ⟨rfl, rfl⟩
theorem fd_10_47 : mm_tab mm_fldT 10 47 = some (10, 9, 0) ∧ mm_tab mm_ftT 10 9 = some 0 := ⟨rfl, rfl⟩
theorem fd_11_9 : mm_tab mm_fldT 11 9 = some (11, 0, 0) ∧ mm_tab mm_ftT 11 0 = some 0 := ⟨rfl, rfl⟩
theorem fd_11_16 : mm_tab mm_fldT 11 16 = some (11, 1, 0) ∧ mm_tab mm_ftT 11 1 = some 2 := ⟨rfl, rfl⟩
theorem fd_11_20 : mm_tab mm_fldT 11 20 = some (11, 2, 0) ∧ mm_tab mm_ftT 11 2 = some 2 := ⟨rfl, rfl⟩
theorem fd_11_30 : mm_tab mm_fldT 11 30 = some (11, 4, 0) ∧ mm_tab mm_ftT 11 4 = some 6 := ⟨rfl, rfl⟩
theorem fd_11_37 : mm_tab mm_fldT 11 37 = some (11, 5, 0) ∧ mm_tab mm_ftT 11 5 = some 6 := ⟨rfl, rfl⟩
theorem fd_11_44 : mm_tab mm_fldT 11 44 = some (11, 7, 0) ∧ mm_tab mm_ftT 11 7 = some 1 := ⟨rfl, rfl⟩
theorem fd_11_135 : mm_tab mm_fldT 11 135 = some (1, 0, 1) ∧ mm_tab mm_ftT 1 0 = some 6 := ⟨rfl, rfl⟩
theorem fd_11_145 : mm_tab mm_fldT 11 145 = some (1, 1, 1) ∧ mm_tab mm_ftT 1 1 = some 6 := ⟨rfl, rfl⟩
theorem fd_11_158 : mm_tab mm_fldT 11 158 = some (6, 0, 1) ∧ mm_tab mm_ftT 6 0 = some 6 := ⟨rfl, rfl⟩
theorem fd_11_189 : mm_tab mm_fldT 11 189 = some (9, 2, 1) ∧ mm_tab mm_ftT 9 2 = some 0 := ⟨rfl, rfl⟩
theorem mt_0_31 : mm_tab mm_mthT 0 31 = some (5, 0, 2, 0, 0) := rfl
theorem mt_0_37 : mm_tab mm_mthT 0 37 = some (4, 0, 2, 0, 0) := rfl
theorem mt_6_44 : mm_tab mm_mthT 6 44 = some (1, 101, 1, 0, 9) := rfl
theorem mt_9_49 : mm_tab mm_mthT 9 49 = some (1, 95, 1, 0, 8) := rfl
theorem mt_10_62 : mm_tab mm_mthT 10 62 = some (0, 176, 2, 1, 11) := rfl
theorem mt_10_72 : mm_tab mm_mthT 10 72 = some (1, 9, 1, 0, 0) := rfl
theorem mt_10_76 : mm_tab mm_mthT 10 76 = some (1, 5, 0, 0, 0) := rfl
theorem mt_10_80 : mm_tab mm_mthT 10 80 = some (1, 4, 1, 0, 0) := rfl
theorem mt_10_84 : mm_tab mm_mthT 10 84 = some (1, 119, 3, 0, 10) := rfl
theorem mt_10_88 : mm_tab mm_mthT 10 88 = some (1, 113, 1, 0, 10) := rfl
theorem mt_10_91 : mm_tab mm_mthT 10 91 = some (1, 3, 0, 0, 0) := rfl
theorem mt_10_94 : mm_tab mm_mthT 10 94 = some (1, 111, 2, 0, 10) := rfl
theorem mt_10_98 : mm_tab mm_mthT 10 98 = some (1, 120, 2, 0, 10) := rfl
theorem mt_10_102 : mm_tab mm_mthT 10 102 = some (4, 0, 2, 0, 0) := rfl
theorem mt_10_107 : mm_tab mm_mthT 10 107 = some (1, 121, 5, 0, 10) := rfl
theorem mt_11_106 : mm_tab mm_mthT 11 106 = some (0, 175, 1, 0, 11) := rfl
theorem mt_11_110 : mm_tab mm_mthT 11 110 = some (1, 13, 0, 0, 1) := rfl
theorem mt_11_113 : mm_tab mm_mthT 11 113 = some (1, 38, 1, 0, 4) := rfl
theorem mt_11_116 : mm_tab mm_mthT 11 116 = some (1, 39, 0, 0, 4) := rfl
theorem mt_11_120 : mm_tab mm_mthT 11 120 = some (1, 41, 1, 0, 4) := rfl
theorem mt_11_124 : mm_tab mm_mthT 11 124 = some (1, 36, 0, 0, 4) := rfl
theorem mt_11_128 : mm_tab mm_mthT 11 128 = some (1, 37, 0, 0, 4) := rfl
theorem mt_11_131 : mm_tab mm_mthT 11 131 = some (1, 68, 1, 0, 6) := rfl
theorem mt_11_139 : mm_tab mm_mthT 11 139 = some (1, 118, 1, 0, 10) := rfl
theorem mt_11_148 : mm_tab mm_mthT 11 148 = some (1, 67, 1, 0, 6) := rfl
theorem sc_86 (L : Nat) : (mm_SH L 86).1 = 6 := rfl
theorem sc_87 (L : Nat) : (mm_SH L 87).1 = 9 := rfl
theorem sh_85 (L : Nat) : mm_SH L 85 = (100, 2048) := rfl
theorem bd_0_0 : mz_bd 0 0 = ((-2147483648), 2147483647) := rfl
theorem bd_0_7 : mz_bd 0 7 = (0, 1) := rfl
theorem bd_87_2 : mz_bd 87 2 = (0, 6) := rfl
theorem ba_85 (j : Nat) : mz_bd 85 j = ((-2147483648), 2147483647) := rfl
theorem rf_0_4 (a b : Nat) (c : Option Nat) : mm_HR a b c 0 4 = some 85 := rfl
theorem rf_0_5 (a b : Nat) (c : Option Nat) : mm_HR a b c 0 5 = some 86 := rfl
theorem rf_86_0 (a b : Nat) (c : Option Nat) : mm_HR a b c 86 0 = some 87 := rfl
theorem kb_story_2 {q : Nat} (h : kd_story q) : mz_bd q 2 = (0, 39) := by unfold kd_story at h; rcases h with rfl | rfl <;> rfl
theorem kb_story_3 {q : Nat} (h : kd_story q) : mz_bd q 3 = (0, 40) := by unfold kd_story at h; rcases h with rfl | rfl <;> rfl
theorem kb_story_7 {q : Nat} (h : kd_story q) : mz_bd q 7 = (0, 8) := by unfold kd_story at h; rcases h with rfl | rfl <;> rfl
theorem kb_tks_3 {q : Nat} (h : kd_tks q) : mz_bd q 3 = ((-2147483648), 2147483647) := by unfold kd_tks at h; rcases h with rfl | rfl | rfl | rfl | rfl <;> rfl
theorem kb_words_8 {q : Nat} (h : kd_words q) : mz_bd q 8 = ((-2147483648), 2147483647) := by unfold kd_words at h; rcases h with rfl | rfl <;> rfl
theorem kb_words_9 {q : Nat} (h : kd_words q) : mz_bd q 9 = (0, 8) := by unfold kd_words at h; rcases h with rfl | rfl <;> rfl
theorem kr_story_0 {q : Nat} (h : kd_story q) (a b : Nat) (c : Option Nat) : mm_HR a b c q 0 = some (q + 1) := by unfold kd_story at h; rcases h with rfl | rfl <;> rfl
theorem kr_words_4 {q : Nat} (h : kd_words q) (a b : Nat) (c : Option Nat) : mm_HR a b c q 4 = some (q + 5) := by unfold kd_words at h; rcases h with rfl | rfl <;> rfl
theorem kr_words_5 {q : Nat} (h : kd_words q) (a b : Nat) (c : Option Nat) : mm_HR a b c q 5 = some (q + 6) := by unfold kd_words at h; rcases h with rfl | rfl <;> rfl
theorem kr_words_6 {q : Nat} (h : kd_words q) (a b : Nat) (c : Option Nat) : mm_HR a b c q 6 = some (q + 7) := by unfold kd_words at h; rcases h with rfl | rfl <;> rfl
theorem kr_words_7 {q : Nat} (h : kd_words q) (a b : Nat) (c : Option Nat) : mm_HR a b c q 7 = some (q + 8) := by unfold kd_words at h; rcases h with rfl | rfl <;> rfl
theorem ka_words_4 {q : Nat} (h : kd_words q) (L : Nat) : mm_SH L (q + 5) = (100, 64) := by unfold kd_words at h; rcases h with rfl | rfl <;> rfl
theorem kba_words_4 {q : Nat} (h : kd_words q) (j : Nat) : mz_bd (q + 5) j = ((-2147483648), 2147483647) := by unfold kd_words at h; rcases h with rfl | rfl <;> rfl
theorem ka_words_5 {q : Nat} (h : kd_words q) (L : Nat) : mm_SH L (q + 6) = (100, 64) := by unfold kd_words at h; rcases h with rfl | rfl <;> rfl
theorem kba_words_5 {q : Nat} (h : kd_words q) (j : Nat) : mz_bd (q + 6) j = ((-2147483648), 2147483647) := by unfold kd_words at h; rcases h with rfl | rfl <;> rfl
theorem ka_words_6 {q : Nat} (h : kd_words q) (L : Nat) : mm_SH L (q + 7) = (100, 8) := by unfold kd_words at h; rcases h with rfl | rfl <;> rfl
theorem kba_words_6 {q : Nat} (h : kd_words q) (j : Nat) : mz_bd (q + 7) j = ((-2147483648), 2147483647) := by unfold kd_words at h; rcases h with rfl | rfl <;> rfl
theorem ka_words_7 {q : Nat} (h : kd_words q) (L : Nat) : mm_SH L (q + 8) = (100, 8) := by unfold kd_words at h; rcases h with rfl | rfl <;> rfl
theorem kba_words_7 {q : Nat} (h : kd_words q) (j : Nat) : mz_bd (q + 8) j = ((-2147483648), 2147483647) := by unfold kd_words at h; rcases h with rfl | rfl <;> rfl
theorem ks_story_0 {q : Nat} (h : kd_story q) : kd_tks (q + 1) := by unfold kd_tks; unfold kd_story at h; rcases h with rfl | rfl <;> decide
theorem kp_story_86 : kd_story 86 := by unfold kd_story; decide
theorem kp_tks_87 : kd_tks 87 := by unfold kd_tks; decide
theorem nh_X11_mustFit : ∀ M1, mm_at mm_prog 175 = some M1 → M1.2.2.2.1 = [] := mz_nop (M0 := mmX11_mustFit) rfl rfl
theorem f_X0_overlapWith {d : Nat} (hd : 12 ≤ d) {x : mm_X} (hx : mk_x x) {g : mz_G} (hI : mz_inv g) {q0 : Nat} (h_q0 : kd_let q0) {q1 : Nat} (h_q1 : kd_let q1) {Q : (Option Value ⊕ Nat) → mm_H → Prop} (hQ : ∀ (r : Int), 0 ≤ r → r ≤ 15 → zf_E (zF_X0_overlapWith q0 q1 g) (r) → Q (.inl (some (.int (Int32.ofInt r)))) (mz_mk g x)) : mm_C d 9 [.ref q0, .ref q1] (mz_mk g x) Q := by
  have kn_q0 := kn_let h_q0
  have kn_q1 := kn_let h_q1
  refine ⟨mmX0_overlapWith, [some (.ref q0), some (.ref q1), none], rfl, rfl, ?_⟩
  have hE : zf_E (zF_X0_overlapWith q0 q1 g) (zF_X0_overlapWith q0 q1 g) := zf_rf
  refine mm_g 1 (pc1 := 1) (lo1 := [some (.ref q0), some (.ref q1), none]) (st1 := [.ref q0]) (H1 := mz_mk g x) rfl ?_
  refine mz_gI rfl fd_0_7 (by decide) (kc_let h_q0 _) hI (kb_let_1 h_q0) (fun v1 e_v1 l_v1 u_v1 => ?_)
  replace hE := zf_tr hE (zf_le e_v1)
  refine mm_g 1 (pc1 := 5) (lo1 := [some (.ref q0), some (.ref q1), none]) (st1 := [.ref q1, .int (Int32.ofInt v1)]) (H1 := mz_mk g x) rfl ?_
  refine mz_gI rfl fd_0_7 (by decide) (kc_let h_q1 _) hI (kb_let_1 h_q1) (fun v2 e_v2 l_v2 u_v2 => ?_)
  replace hE := zf_tr hE (zf_le e_v2)
  refine mz_mn rfl mt_0_31 (Nat.le_of_ble_eq_true rfl) (by omega) (mz_rg l_v1 u_v1) (mz_rg l_v2 u_v2) (fun v3 e_v3 => ?_)
  have l_v3 : 0 ≤ v3 := by omega
  have u_v3 : v3 ≤ 16 := by omega
  replace hE := zf_tr hE (zf_le e_v3.symm)
  refine mm_g 1 (pc1 := 12) (lo1 := [some (.ref q0), some (.ref q1), none]) (st1 := [.int (Int32.ofInt 1), .int (Int32.ofInt v3)]) (H1 := mz_mk g x) rfl ?_
  refine mz_isub rfl ?_
  refine mm_g 1 (pc1 := 14) (lo1 := [some (.ref q0), some (.ref q1), some (.int (Int32.ofInt (v3 - 1)))]) (st1 := []) (H1 := mz_mk g x) rfl ?_
  have L8 : ∀ n7 : Nat, ∀ (v4 : Int), (v4 - 0).toNat = n7 → (-1) ≤ v4 → v4 ≤ 15 → (∃ fk : Nat, (v4 - 0).toNat < fk ∧ zf_E (zF_X0_overlapWith q0 q1 g) (zL_X0_overlapWith_14 q0 q1 g fk v4)) → mm_W d mmX0_overlapWith 14 [some (.ref q0), some (.ref q1), some (.int (Int32.ofInt v4))] [] (mz_mk g x) Q := by
    intro n7
    induction n7 using Nat.strongRecOn with
    | ind n7 ih6 =>
    intro v4 hmn7 l_v4 u_v4 hF
    obtain ⟨fk, fl, hE⟩ := hF
    obtain ⟨fj9, rfl⟩ : ∃ fj, fk = fj + 1 := ⟨fk - 1, by omega⟩
    have fn10 : n7 ≤ fj9 := by omega
    replace hE := zf_tr hE zL_X0_overlapWith_14_s
    refine mm_g 1 (pc1 := 15) (lo1 := [some (.ref q0), some (.ref q1), some (.int (Int32.ofInt v4))]) (st1 := [.int (Int32.ofInt v4)]) (H1 := mz_mk g x) rfl ?_
    refine mz_if_le (tgt := 39) rfl rfl (mz_rg l_v4 u_v4) (fun c15_10 => ?_) (fun c15_10 => ?_)
    · skip
      replace hE := zf_nl hE c15_10
      refine mm_g 2 (pc1 := 41) (lo1 := [some (.ref q0), some (.ref q1), some (.int (Int32.ofInt v4))]) (st1 := [.int (Int32.ofInt 0), .int (Int32.ofInt v4)]) (H1 := mz_mk g x) rfl ?_
      refine mz_mx rfl mt_0_37 (Nat.le_of_ble_eq_true rfl) (by omega) (mz_rg l_v4 u_v4) ⟨by decide, by decide⟩ (fun v11 e_v11 => ?_)
      have l_v11 : 0 ≤ v11 := by omega
      have u_v11 : v11 ≤ 0 := by omega
      replace hE := zf_tr hE (zf_le e_v11.symm)
      exact mm_rt rfl rfl (hQ _ (by omega) (by omega) hE)
    · skip
      replace hE := zf_ip hE c15_10
      refine mm_g 2 (pc1 := 20) (lo1 := [some (.ref q0), some (.ref q1), some (.int (Int32.ofInt v4))]) (st1 := [.ref q0, .ref q0]) (H1 := mz_mk g x) rfl ?_
      refine mz_fgI (v := v1) rfl fd_0_7 (by decide) (kc_let h_q0 _) e_v1 ?_
      replace hE := zf_tr hE (zf_le e_v1)
      refine mm_g 1 (pc1 := 24) (lo1 := [some (.ref q0), some (.ref q1), some (.int (Int32.ofInt v4))]) (st1 := [.int (Int32.ofInt v4), .int (Int32.ofInt v1), .ref q0]) (H1 := mz_mk g x) rfl ?_
      refine mz_isub rfl ?_
      refine mm_g 2 (pc1 := 27) (lo1 := [some (.ref q0), some (.ref q1), some (.int (Int32.ofInt v4))]) (st1 := [.int (Int32.ofInt v4), .ref q1, .int (Int32.ofInt (v1 - v4)), .ref q0]) (H1 := mz_mk g x) rfl ?_
      refine mz_cv rfl mt_0_27 (by decide) (kc_let h_q0 _) rfl (Nat.le_of_ble_eq_true rfl) (by omega) (f_X0_matches (by omega) hx hI h_q0 (by omega) (by omega) h_q1 (by omega) (by omega) (fun v12 l_v12 u_v12 hc13 => ⟨_, rfl, ?_⟩))
      show mm_W d mmX0_overlapWith 30 [some (.ref q0), some (.ref q1), some (.int (Int32.ofInt v4))] [.int (Int32.ofInt v12)] (mz_mk g x) Q
      replace hE := zf_t1 hE hc13
      refine mz_if_ne (tgt := 39) rfl rfl (mz_rg l_v12 u_v12) (fun c30_13 => ?_) (fun c30_13 => ?_)
      · skip
        replace hE := zf_in hE c30_13
        refine mm_g 2 (pc1 := 41) (lo1 := [some (.ref q0), some (.ref q1), some (.int (Int32.ofInt v4))]) (st1 := [.int (Int32.ofInt 0), .int (Int32.ofInt v4)]) (H1 := mz_mk g x) rfl ?_
        refine mz_mx rfl mt_0_37 (Nat.le_of_ble_eq_true rfl) (by omega) (mz_rg l_v4 u_v4) ⟨by decide, by decide⟩ (fun v14 e_v14 => ?_)
        have l_v14 : 1 ≤ v14 := by omega
        have u_v14 : v14 ≤ 15 := by omega
        replace hE := zf_tr hE (zf_le e_v14.symm)
        exact mm_rt rfl rfl (hQ _ (by omega) (by omega) hE)
      · skip
        replace hE := zf_ip hE c30_13
        refine mz_iincR (v := v4) (lo2 := [some (.ref q0), some (.ref q1), some (.int (Int32.ofInt (v4 + (-1))))]) rfl rfl rfl (Nat.le_of_ble_eq_true rfl) rfl ?_
        refine mz_gt (tgt := 14) rfl rfl ?_
        exact ih6 (((v4 + (-1)) - 0).toNat) (by omega) (v4 + (-1)) rfl (by omega) (by omega) ⟨fj9, Nat.lt_of_lt_of_le (show (((v4 + (-1)) - 0).toNat) < n7 from (by omega)) fn10, hE⟩
  exact L8 _ (v3 - 1) rfl (by omega) (by omega) ⟨3000000000, by omega, hE⟩
theorem f_X0_last {d : Nat} (hd : 2 ≤ d) {x : mm_X} (hx : mk_x x) {g : mz_G} (hI : mz_inv g) {q0 : Nat} (h_q0 : kd_let q0) {Q : (Option Value ⊕ Nat) → mm_H → Prop} (hQ : ∀ (r : Int), (-2147483648) ≤ r → r ≤ 2147483647 → zf_E (zF_X0_last q0 g) (r) → Q (.inl (some (.int (Int32.ofInt r)))) (mz_mk g x)) : mm_C d 5 [.ref q0] (mz_mk g x) Q := by
  have kn_q0 := kn_let h_q0
  refine ⟨mmX0_last, [some (.ref q0)], rfl, rfl, ?_⟩
  have hE : zf_E (zF_X0_last q0 g) (zF_X0_last q0 g) := zf_rf
  refine mm_g 1 (pc1 := 1) (lo1 := [some (.ref q0)]) (st1 := [.ref q0]) (H1 := mz_mk g x) rfl ?_
  refine mz_fgR (v := (q0 + 1)) rfl fd_0_13 (by decide) (kc_let h_q0 _) (kr_let_0 h_q0 _ _ _) ?_
  have hn_n1 := zf_let h_q0 x.2.2.2.1
  have m_n1 := zf_ln_le q0
  have mm_n1 : (zf_ln q0) ≤ 100000 := by omega
  refine mm_g 1 (pc1 := 5) (lo1 := [some (.ref q0)]) (st1 := [.ref q0, .ref (q0 + 1)]) (H1 := mz_mk g x) rfl ?_
  refine mz_gI rfl fd_0_7 (by decide) (kc_let h_q0 _) hI (kb_let_1 h_q0) (fun v2 e_v2 l_v2 u_v2 => ?_)
  replace hE := zf_tr hE (zf_le e_v2)
  refine mm_g 1 (pc1 := 9) (lo1 := [some (.ref q0)]) (st1 := [.int (Int32.ofInt 1), .int (Int32.ofInt v2), .ref (q0 + 1)]) (H1 := mz_mk g x) rfl ?_
  refine mz_isub rfl ?_
  refine mz_cs rfl mt_0_23 (by decide) rfl (Nat.le_of_ble_eq_true rfl) (by omega) (f_X11_at (by omega) hx hI hn_n1 (by omega) (kba_let_0 h_q0) (by omega) (by omega) (by omega) (by omega) (fun v3 l_v3 u_v3 hc4 => ⟨_, rfl, ?_⟩))
  show mm_W d mmX0_last 13 [some (.ref q0)] [.int (Int32.ofInt v3)] (mz_mk g x) Q
  replace hE := zf_t1 hE hc4
  exact mm_rt rfl rfl (hQ _ (by omega) (by omega) hE)
theorem f_X0_signAt {d : Nat} (hd : 2 ≤ d) {x : mm_X} (hx : mk_x x) {g : mz_G} (hI : mz_inv g) {q0 : Nat} (h_q0 : kd_let q0) {a1 : Int} (l_a1 : (-2147483648) ≤ a1) (u_a1 : a1 ≤ 2147483647) {Q : (Option Value ⊕ Nat) → mm_H → Prop} (hQ : ∀ (r : Int), (-2147483648) ≤ r → r ≤ 2147483647 → zf_E (zF_X0_signAt q0 a1 g) (r) → Q (.inl (some (.int (Int32.ofInt r)))) (mz_mk g x)) : mm_C d 4 [.ref q0, .int (Int32.ofInt a1)] (mz_mk g x) Q := by
  have kn_q0 := kn_let h_q0
  refine ⟨mmX0_signAt, [some (.ref q0), some (.int (Int32.ofInt a1))], rfl, rfl, ?_⟩
  have hE : zf_E (zF_X0_signAt q0 a1 g) (zF_X0_signAt q0 a1 g) := zf_rf
  refine mm_g 1 (pc1 := 1) (lo1 := [some (.ref q0), some (.int (Int32.ofInt a1))]) (st1 := [.ref q0]) (H1 := mz_mk g x) rfl ?_
  refine mz_fgR (v := (q0 + 1)) rfl fd_0_13 (by decide) (kc_let h_q0 _) (kr_let_0 h_q0 _ _ _) ?_
  have hn_n1 := zf_let h_q0 x.2.2.2.1
  have m_n1 := zf_ln_le q0
  have mm_n1 : (zf_ln q0) ≤ 100000 := by omega
  refine mm_g 1 (pc1 := 5) (lo1 := [some (.ref q0), some (.int (Int32.ofInt a1))]) (st1 := [.int (Int32.ofInt a1), .ref (q0 + 1)]) (H1 := mz_mk g x) rfl ?_
  refine mz_cs rfl mt_0_23 (by decide) rfl (Nat.le_of_ble_eq_true rfl) (by omega) (f_X11_at (by omega) hx hI hn_n1 (by omega) (kba_let_0 h_q0) (by omega) (by omega) l_a1 u_a1 (fun v2 l_v2 u_v2 hc3 => ⟨_, rfl, ?_⟩))
  show mm_W d mmX0_signAt 8 [some (.ref q0), some (.int (Int32.ofInt a1))] [.int (Int32.ofInt v2)] (mz_mk g x) Q
  replace hE := zf_t1 hE hc3
  exact mm_rt rfl rfl (hQ _ (by omega) (by omega) hE)
def fl_X10_fillRoom_9 (x : mm_X) (q0 : Nat) (q1 : Nat) (q2 : Nat) : Nat → Nat → Prop := fun k j => k = q2
def fl_X10_fillRoom_16 (x : mm_X) (q0 : Nat) (q1 : Nat) (q2 : Nat) : Nat → Nat → Prop := fun k j => k = q2
def fw_X10_fillRoom (x : mm_X) (q0 : Nat) (q1 : Nat) (q2 : Nat) : Nat → Nat → Prop := fun k j => k = q2
theorem f_X10_fillRoom {d : Nat} (hd : 12 ≤ d) {x : mm_X} (hx : mk_x x) {g : mz_G} (hI : mz_inv g) {q0 : Nat} (h_q0 : kd_words q0) {q1 n_q1 : Nat} (h_q1 : mm_SH x.2.2.2.1 q1 = (100, n_q1)) (m_q1 : n_q1 ≤ 2048) (b_q1 : ∀ j, mz_bd q1 j = (-2147483648, 2147483647)) {q2 n_q2 : Nat} (h_q2 : mm_SH x.2.2.2.1 q2 = (100, n_q2)) (m_q2 : n_q2 ≤ 2048) (b_q2 : ∀ j, mz_bd q2 j = (-2147483648, 2147483647)) {Q : (Option Value ⊕ Nat) → mm_H → Prop} (hQ : ∀ (g1 : mz_G), mz_inv g1 → mz_fr (fw_X10_fillRoom x q0 q1 q2) g g1 → zf_E (zF_X10_fillRoom q0 q1 n_q1 q2 n_q2 g) (g1) → Q (.inl none) (mz_mk g1 x)) : mm_C d 120 [.ref q0, .ref q1, .ref q2] (mz_mk g x) Q := by
  have kn_q0 := kn_words h_q0
  refine ⟨mmX10_fillRoom, [some (.ref q0), some (.ref q1), some (.ref q2), none, none, none, none, none], rfl, rfl, ?_⟩
  have hE : zf_E (zF_X10_fillRoom q0 q1 n_q1 q2 n_q2 g) (zF_X10_fillRoom q0 q1 n_q1 q2 n_q2 g) := zf_rf
  refine mm_g 2 (pc1 := 2) (lo1 := [some (.ref q0), some (.ref q1), some (.ref q2), none, none, none, none, none]) (st1 := [.ref q0, .int (Int32.ofInt 1)]) (H1 := mz_mk g x) rfl ?_
  refine mz_gI rfl fd_10_28 (by decide) (kc_words h_q0 _) hI (kb_words_3 h_q0) (fun v1 e_v1 l_v1 u_v1 => ?_)
  replace hE := zf_tr hE (zf_le e_v1)
  refine mz_ishl rfl (fun v2 e_v2 hwv2 => ?_)
  have b_v2 : 1 ≤ v2 ∧ v2 ≤ 256 := by rw [e_v2]; exact mz_shl_b (lx := 1) (hx := 1) (k := 8) (by decide) (by decide) (by omega) (by omega) (by omega) (by omega)
  have l_v2 := b_v2.1
  have u_v2 := b_v2.2
  replace hE := zf_tr hE (zf_le e_v2.symm)
  refine mm_g 1 (pc1 := 7) (lo1 := [some (.ref q0), some (.ref q1), some (.ref q2), none, none, none, none, none]) (st1 := [.int (Int32.ofInt 1), .int (Int32.ofInt v2)]) (H1 := mz_mk g x) rfl ?_
  refine mz_isub rfl ?_
  refine mm_g 1 (pc1 := 9) (lo1 := [some (.ref q0), some (.ref q1), some (.ref q2), some (.int (Int32.ofInt (v2 - 1))), none, none, none, none]) (st1 := []) (H1 := mz_mk g x) rfl ?_
  have L11 : ∀ n10 : Nat, ∀ (v3 : Int) (o4 : Option Value) (o5 : Option Value) (o6 : Option Value) (o7 : Option Value) (g8 : mz_G), (v3 - 0).toNat = n10 → 0 ≤ v3 → v3 ≤ 255 → mz_nl o4 → mz_nl o5 → mz_nl o6 → mz_nl o7 → mz_inv g8 → mz_fr (fl_X10_fillRoom_9 x q0 q1 q2) g g8 → (∃ fk : Nat, (v3 - 0).toNat < fk ∧ zf_E (zF_X10_fillRoom q0 q1 n_q1 q2 n_q2 g) (zL_X10_fillRoom_9 q0 q1 n_q1 q2 n_q2 fk v3 g8)) → mm_W d mmX10_fillRoom 9 [some (.ref q0), some (.ref q1), some (.ref q2), some (.int (Int32.ofInt v3)), o4, o5, o6, o7] [] (mz_mk g8 x) Q := by
    intro n10
    induction n10 using Nat.strongRecOn with
    | ind n10 ih9 =>
    intro v3 o4 o5 o6 o7 g8 hmn10 l_v3 u_v3 h_o4 h_o5 h_o6 h_o7 hIg8 hfg8 hF
    obtain ⟨fk, fl, hE⟩ := hF
    obtain ⟨fj12, rfl⟩ : ∃ fj, fk = fj + 1 := ⟨fk - 1, by omega⟩
    have fn13 : n10 ≤ fj12 := by omega
    replace hE := zf_tr hE zL_X10_fillRoom_9_s
    refine mm_g 1 (pc1 := 10) (lo1 := [some (.ref q0), some (.ref q1), some (.ref q2), some (.int (Int32.ofInt v3)), o4, o5, o6, o7]) (st1 := [.int (Int32.ofInt v3)]) (H1 := mz_mk g8 x) rfl ?_
    refine mz_if_le (tgt := 125) rfl rfl (mz_rg l_v3 u_v3) (fun c10_13 => ?_) (fun c10_13 => ?_)
    · skip
      replace hE := zf_nl hE c10_13
      exact mm_rt rfl rfl (hQ _ hIg8 (fun k j hk => (hfg8 k j (fun h => hk h))) hE)
    · skip
      replace hE := zf_ip hE c10_13
      refine mm_g 2 (pc1 := 16) (lo1 := [some (.ref q0), some (.ref q1), some (.ref q2), some (.int (Int32.ofInt v3)), some (.int (Int32.ofInt 0)), o5, o6, o7]) (st1 := []) (H1 := mz_mk g8 x) rfl ?_
      have hO21 := hE
      have L22 : ∀ n20 : Nat, ∀ (v14 : Int) (o15 : Option Value) (o16 : Option Value) (o17 : Option Value) (g18 : mz_G), (8 - v14).toNat = n20 → 0 ≤ v14 → v14 ≤ 8 → mz_nl o15 → mz_nl o16 → mz_nl o17 → mz_inv g18 → mz_fr (fl_X10_fillRoom_16 x q0 q1 q2) g8 g18 → (∃ fk : Nat, (8 - v14).toNat < fk ∧ zf_E (zL_X10_fillRoom_16 q0 q1 n_q1 q2 n_q2 3000000000 v3 0 g8) (zL_X10_fillRoom_16 q0 q1 n_q1 q2 n_q2 fk v3 v14 g18)) → mm_W d mmX10_fillRoom 16 [some (.ref q0), some (.ref q1), some (.ref q2), some (.int (Int32.ofInt v3)), some (.int (Int32.ofInt v14)), o15, o16, o17] [] (mz_mk g18 x) Q := by
        intro n20
        induction n20 using Nat.strongRecOn with
        | ind n20 ih19 =>
        intro v14 o15 o16 o17 g18 hmn20 l_v14 u_v14 h_o15 h_o16 h_o17 hIg18 hfg18 hF
        obtain ⟨fk, fl, hE⟩ := hF
        obtain ⟨fj23, rfl⟩ : ∃ fj, fk = fj + 1 := ⟨fk - 1, by omega⟩
        have fn24 : n20 ≤ fj23 := by omega
        replace hE := zf_tr hE zL_X10_fillRoom_16_s
        refine mm_g 2 (pc1 := 19) (lo1 := [some (.ref q0), some (.ref q1), some (.ref q2), some (.int (Int32.ofInt v3)), some (.int (Int32.ofInt v14)), o15, o16, o17]) (st1 := [.ref q0, .int (Int32.ofInt v14)]) (H1 := mz_mk g18 x) rfl ?_
        refine mz_gI rfl fd_10_28 (by decide) (kc_words h_q0 _) hIg18 (kb_words_3 h_q0) (fun v25 e_v25 l_v25 u_v25 => ?_)
        replace hE := zf_tr hE (zf_le e_v25)
        refine mz_ic_ge (tgt := 119) rfl rfl (mz_rg l_v14 u_v14) (mz_rg l_v25 u_v25) (fun c22_25 => ?_) (fun c22_25 => ?_)
        · skip
          replace hE := zf_nl hE c22_25
          replace hE := zf_t1 hO21 hE
          refine mz_iincR (v := v3) (lo2 := [some (.ref q0), some (.ref q1), some (.ref q2), some (.int (Int32.ofInt (v3 + (-1)))), some (.int (Int32.ofInt v14)), o15, o16, o17]) rfl rfl rfl (Nat.le_of_ble_eq_true rfl) rfl ?_
          refine mz_gt (tgt := 9) rfl rfl ?_
          exact ih9 (((v3 + (-1)) - 0).toNat) (by omega) (v3 + (-1)) (some (.int (Int32.ofInt v14))) o15 o16 o17 g18 rfl (by omega) (by omega) (mz_nl_i _) h_o15 h_o16 h_o17 hIg18 (fun k j hk => ((hfg18 k j (fun h => hk h)).trans (hfg8 k j (fun h => hk h)))) ⟨fj12, Nat.lt_of_lt_of_le (show (((v3 + (-1)) - 0).toNat) < n10 from (by omega)) fn13, hE⟩
        · skip
          replace hE := zf_ip hE c22_25
          refine mm_g 4 (pc1 := 31) (lo1 := [some (.ref q0), some (.ref q1), some (.ref q2), some (.int (Int32.ofInt v3)), some (.int (Int32.ofInt v14)), some (.int (Int32.ofInt 0)), some (.int (Int32.ofInt 0)), o17]) (st1 := []) (H1 := mz_mk g18 x) rfl ?_
          have hO32 := hE
          have L33 : ∀ n31 : Nat, ∀ (v26 : Int) (v27 : Int) (o28 : Option Value), (8 - v27).toNat = n31 → 0 ≤ v26 → v26 ≤ 2147483647 → 0 ≤ v27 → v27 ≤ 8 → mz_nl o28 → (∃ fk : Nat, (8 - v27).toNat < fk ∧ zf_E (zL_X10_fillRoom_31 q0 q1 n_q1 q2 n_q2 g18 3000000000 v3 v14 0 0) (zL_X10_fillRoom_31 q0 q1 n_q1 q2 n_q2 g18 fk v3 v14 v26 v27)) → mm_W d mmX10_fillRoom 31 [some (.ref q0), some (.ref q1), some (.ref q2), some (.int (Int32.ofInt v3)), some (.int (Int32.ofInt v14)), some (.int (Int32.ofInt v26)), some (.int (Int32.ofInt v27)), o28] [] (mz_mk g18 x) Q := by
            intro n31
            induction n31 using Nat.strongRecOn with
            | ind n31 ih30 =>
            intro v26 v27 o28 hmn31 l_v26 u_v26 l_v27 u_v27 h_o28 hF
            obtain ⟨fk, fl, hE⟩ := hF
            obtain ⟨fj34, rfl⟩ : ∃ fj, fk = fj + 1 := ⟨fk - 1, by omega⟩
            have fn35 : n31 ≤ fj34 := by omega
            replace hE := zf_tr hE zL_X10_fillRoom_31_s
            refine mm_g 2 (pc1 := 34) (lo1 := [some (.ref q0), some (.ref q1), some (.ref q2), some (.int (Int32.ofInt v3)), some (.int (Int32.ofInt v14)), some (.int (Int32.ofInt v26)), some (.int (Int32.ofInt v27)), o28]) (st1 := [.ref q0, .int (Int32.ofInt v27)]) (H1 := mz_mk g18 x) rfl ?_
            refine mz_fgI (v := v25) rfl fd_10_28 (by decide) (kc_words h_q0 _) e_v25 ?_
            replace hE := zf_tr hE (zf_le e_v25)
            refine mz_ic_ge (tgt := 100) rfl rfl (mz_rg l_v27 u_v27) (mz_rg l_v25 u_v25) (fun c37_35 => ?_) (fun c37_35 => ?_)
            · skip
              replace hE := zf_nl hE c37_35
              replace hE := zf_t1 hO32 hE
              refine mm_g 2 (pc1 := 102) (lo1 := [some (.ref q0), some (.ref q1), some (.ref q2), some (.int (Int32.ofInt v3)), some (.int (Int32.ofInt v14)), some (.int (Int32.ofInt v26)), some (.int (Int32.ofInt v27)), o28]) (st1 := [.int (Int32.ofInt v3), .ref q2]) (H1 := mz_mk g18 x) rfl ?_
              refine mz_bip rfl bip_8 ?_
              refine mz_imul rfl ?_
              refine mm_g 1 (pc1 := 107) (lo1 := [some (.ref q0), some (.ref q1), some (.ref q2), some (.int (Int32.ofInt v3)), some (.int (Int32.ofInt v14)), some (.int (Int32.ofInt v26)), some (.int (Int32.ofInt v27)), o28]) (st1 := [.int (Int32.ofInt v14), .int (Int32.ofInt (v3 * 8)), .ref q2]) (H1 := mz_mk g18 x) rfl ?_
              refine mz_iadd rfl ?_
              refine mm_g 1 (pc1 := 110) (lo1 := [some (.ref q0), some (.ref q1), some (.ref q2), some (.int (Int32.ofInt v3)), some (.int (Int32.ofInt v14)), some (.int (Int32.ofInt v26)), some (.int (Int32.ofInt v27)), o28]) (st1 := [.int (Int32.ofInt v26), .int (Int32.ofInt ((v3 * 8) + v14)), .ref q2]) (H1 := mz_mk g18 x) rfl ?_
              refine mz_cs rfl mt_10_58 (by decide) rfl (Nat.le_of_ble_eq_true rfl) (by omega) (f_X11_put (by omega) hx hIg18 h_q2 (by omega) b_q2 (by omega) (by omega) (by omega) (by omega) (by omega) (by omega) (by omega) (by omega) (fun g36 hIg36 hfg36 hc37 => ⟨_, rfl, ?_⟩))
              show mm_W d mmX10_fillRoom 113 [some (.ref q0), some (.ref q1), some (.ref q2), some (.int (Int32.ofInt v3)), some (.int (Int32.ofInt v14)), some (.int (Int32.ofInt v26)), some (.int (Int32.ofInt v27)), o28] [] (mz_mk g36 x) Q
              replace hE := zf_t1 hE hc37
              refine mz_iincR (v := v14) (lo2 := [some (.ref q0), some (.ref q1), some (.ref q2), some (.int (Int32.ofInt v3)), some (.int (Int32.ofInt (v14 + 1))), some (.int (Int32.ofInt v26)), some (.int (Int32.ofInt v27)), o28]) rfl rfl rfl (Nat.le_of_ble_eq_true rfl) rfl ?_
              refine mz_gt (tgt := 16) rfl rfl ?_
              exact ih19 ((8 - (v14 + 1)).toNat) (by omega) (v14 + 1) (some (.int (Int32.ofInt v26))) (some (.int (Int32.ofInt v27))) o28 g36 rfl (by omega) (by omega) (mz_nl_i _) (mz_nl_i _) h_o28 hIg36 (fun k j hk => ((hfg36 k j (fun h => hk h)).trans (hfg18 k j (fun h => hk h)))) ⟨fj23, Nat.lt_of_lt_of_le (show ((8 - (v14 + 1)).toNat) < n20 from (by omega)) fn24, hE⟩
            · skip
              replace hE := zf_ip hE c37_35
              refine mm_g 2 (pc1 := 43) (lo1 := [some (.ref q0), some (.ref q1), some (.ref q2), some (.int (Int32.ofInt v3)), some (.int (Int32.ofInt v14)), some (.int (Int32.ofInt v26)), some (.int (Int32.ofInt v27)), o28]) (st1 := [.int (Int32.ofInt v14), .ref q1]) (H1 := mz_mk g18 x) rfl ?_
              refine mz_bip rfl bip_8 ?_
              refine mz_imul rfl ?_
              refine mm_g 1 (pc1 := 48) (lo1 := [some (.ref q0), some (.ref q1), some (.ref q2), some (.int (Int32.ofInt v3)), some (.int (Int32.ofInt v14)), some (.int (Int32.ofInt v26)), some (.int (Int32.ofInt v27)), o28]) (st1 := [.int (Int32.ofInt v27), .int (Int32.ofInt (v14 * 8)), .ref q1]) (H1 := mz_mk g18 x) rfl ?_
              refine mz_iadd rfl ?_
              refine mz_cs rfl mt_10_62 (by decide) rfl (Nat.le_of_ble_eq_true rfl) (by omega) (f_X11_at (by omega) hx hIg18 h_q1 (by omega) b_q1 (by omega) (by omega) (by omega) (by omega) (fun v38 l_v38 u_v38 hc39 => ⟨_, rfl, ?_⟩))
              show mm_W d mmX10_fillRoom 52 [some (.ref q0), some (.ref q1), some (.ref q2), some (.int (Int32.ofInt v3)), some (.int (Int32.ofInt v14)), some (.int (Int32.ofInt v26)), some (.int (Int32.ofInt v27)), o28] [.int (Int32.ofInt v38)] (mz_mk g18 x) Q
              replace hE := zf_t1 hE hc39
              refine mm_g 4 (pc1 := 58) (lo1 := [some (.ref q0), some (.ref q1), some (.ref q2), some (.int (Int32.ofInt v3)), some (.int (Int32.ofInt v14)), some (.int (Int32.ofInt v26)), some (.int (Int32.ofInt v27)), some (.int (Int32.ofInt v38))]) (st1 := [.int (Int32.ofInt v27), .int (Int32.ofInt 1), .int (Int32.ofInt v3)]) (H1 := mz_mk g18 x) rfl ?_
              refine mz_ishl rfl (fun v40 e_v40 hwv40 => ?_)
              have b_v40 : 1 ≤ v40 ∧ v40 ≤ 128 := by rw [e_v40]; exact mz_shl_b (lx := 1) (hx := 1) (k := 7) (by decide) (by decide) (by omega) (by omega) (by omega) (by omega)
              have l_v40 := b_v40.1
              have u_v40 := b_v40.2
              replace hE := zf_tr hE (zf_le e_v40.symm)
              refine mz_iand rfl (fun v41 e_v41 hwv41 => ?_)
              have b_v41 : 0 ≤ v41 ∧ v41 ≤ 128 := by rw [e_v41]; exact mz_and_r (by omega) (by omega) (mz_rg l_v3 u_v3)
              have l_v41 := b_v41.1
              have u_v41 := b_v41.2
              have w_v41 : v41 ≤ v40 := by rw [e_v41]; exact (mz_and_r (hi := v40) (by omega) (Int.le_refl _) (mz_rg l_v3 u_v3) (by omega)).2
              replace hE := zf_tr hE (zf_le e_v41.symm)
              refine mz_if_ne (tgt := 94) rfl rfl (mz_rg l_v41 u_v41) (fun c60_41 => ?_) (fun c60_41 => ?_)
              · skip
                replace hE := zf_in hE c60_41
                refine mz_iincR (v := v27) (lo2 := [some (.ref q0), some (.ref q1), some (.ref q2), some (.int (Int32.ofInt v3)), some (.int (Int32.ofInt v14)), some (.int (Int32.ofInt v26)), some (.int (Int32.ofInt (v27 + 1))), some (.int (Int32.ofInt v38))]) rfl rfl rfl (Nat.le_of_ble_eq_true rfl) rfl ?_
                refine mz_gt (tgt := 31) rfl rfl ?_
                exact ih30 ((8 - (v27 + 1)).toNat) (by omega) v26 (v27 + 1) (some (.int (Int32.ofInt v38))) rfl (by omega) (by omega) (by omega) (by omega) (mz_nl_i _) ⟨fj34, Nat.lt_of_lt_of_le (show ((8 - (v27 + 1)).toNat) < n31 from (by omega)) fn35, hE⟩
              · skip
                replace hE := zf_ip hE c60_41
                refine mm_g 1 (pc1 := 65) (lo1 := [some (.ref q0), some (.ref q1), some (.ref q2), some (.int (Int32.ofInt v3)), some (.int (Int32.ofInt v14)), some (.int (Int32.ofInt v26)), some (.int (Int32.ofInt v27)), some (.int (Int32.ofInt v38))]) (st1 := [.int (Int32.ofInt v38)]) (H1 := mz_mk g18 x) rfl ?_
                refine mz_if_lt (tgt := 94) rfl rfl (mz_rg l_v38 u_v38) (fun c65_41 => ?_) (fun c65_41 => ?_)
                · skip
                  replace hE := zf_ip hE c65_41
                  refine mz_iincR (v := v27) (lo2 := [some (.ref q0), some (.ref q1), some (.ref q2), some (.int (Int32.ofInt v3)), some (.int (Int32.ofInt v14)), some (.int (Int32.ofInt v26)), some (.int (Int32.ofInt (v27 + 1))), some (.int (Int32.ofInt v38))]) rfl rfl rfl (Nat.le_of_ble_eq_true rfl) rfl ?_
                  refine mz_gt (tgt := 31) rfl rfl ?_
                  exact ih30 ((8 - (v27 + 1)).toNat) (by omega) v26 (v27 + 1) (some (.int (Int32.ofInt v38))) rfl (by omega) (by omega) (by omega) (by omega) (mz_nl_i _) ⟨fj34, Nat.lt_of_lt_of_le (show ((8 - (v27 + 1)).toNat) < n31 from (by omega)) fn35, hE⟩
                · skip
                  replace hE := zf_nl hE c65_41
                  refine mm_g 6 (pc1 := 77) (lo1 := [some (.ref q0), some (.ref q1), some (.ref q2), some (.int (Int32.ofInt v3)), some (.int (Int32.ofInt v14)), some (.int (Int32.ofInt v26)), some (.int (Int32.ofInt v27)), some (.int (Int32.ofInt v38))]) (st1 := [.int (Int32.ofInt v27), .int (Int32.ofInt 1), .int (Int32.ofInt v3), .ref q2, .int (Int32.ofInt v38), .int (Int32.ofInt v26)]) (H1 := mz_mk g18 x) rfl ?_
                  refine mz_ishl rfl (fun v42 e_v42 hwv42 => ?_)
                  have b_v42 : 1 ≤ v42 ∧ v42 ≤ 128 := by rw [e_v42]; exact mz_shl_b (lx := 1) (hx := 1) (k := 7) (by decide) (by decide) (by omega) (by omega) (by omega) (by omega)
                  have l_v42 := b_v42.1
                  have u_v42 := b_v42.2
                  replace hE := zf_tr hE (zf_le e_v42.symm)
                  refine mz_ior rfl (fun v43 e_v43 hwv43 => ?_)
                  have b_v43 : 0 ≤ v43 ∧ v43 ≤ 255 := by rw [e_v43]; exact mz_or_lt (n := 8) (by decide) (by omega) (by omega) (by omega) (by omega)
                  have l_v43 := b_v43.1
                  have u_v43 := b_v43.2
                  replace hE := zf_tr hE (zf_le e_v43.symm)
                  refine mz_bip rfl bip_8 ?_
                  refine mz_imul rfl ?_
                  refine mm_g 1 (pc1 := 84) (lo1 := [some (.ref q0), some (.ref q1), some (.ref q2), some (.int (Int32.ofInt v3)), some (.int (Int32.ofInt v14)), some (.int (Int32.ofInt v26)), some (.int (Int32.ofInt v27)), some (.int (Int32.ofInt v38))]) (st1 := [.int (Int32.ofInt v27), .int (Int32.ofInt (v43 * 8)), .ref q2, .int (Int32.ofInt v38), .int (Int32.ofInt v26)]) (H1 := mz_mk g18 x) rfl ?_
                  refine mz_iadd rfl ?_
                  refine mz_cs rfl mt_10_62 (by decide) rfl (Nat.le_of_ble_eq_true rfl) (by omega) (f_X11_at (by omega) hx hIg18 h_q2 (by omega) b_q2 (by omega) (by omega) (by omega) (by omega) (fun v44 l_v44 u_v44 hc45 => ⟨_, rfl, ?_⟩))
                  show mm_W d mmX10_fillRoom 88 [some (.ref q0), some (.ref q1), some (.ref q2), some (.int (Int32.ofInt v3)), some (.int (Int32.ofInt v14)), some (.int (Int32.ofInt v26)), some (.int (Int32.ofInt v27)), some (.int (Int32.ofInt v38))] [.int (Int32.ofInt v44), .int (Int32.ofInt v38), .int (Int32.ofInt v26)] (mz_mk g18 x) Q
                  replace hE := zf_t1 hE hc45
                  refine mz_iadd_w rfl (fun v46 e_v46 hwv46 => ?_)
                  have l_v46 := hwv46.1
                  have u_v46 := hwv46.2
                  replace hE := zf_tr hE (zf_le e_v46.symm)
                  refine mz_mx rfl mt_10_102 (Nat.le_of_ble_eq_true rfl) (by omega) (mz_rg l_v26 u_v26) (mz_rg l_v46 u_v46) (fun v47 e_v47 => ?_)
                  have l_v47 : 0 ≤ v47 := by omega
                  have u_v47 : v47 ≤ 2147483647 := by omega
                  replace hE := zf_tr hE (zf_le e_v47.symm)
                  refine mm_g 1 (pc1 := 94) (lo1 := [some (.ref q0), some (.ref q1), some (.ref q2), some (.int (Int32.ofInt v3)), some (.int (Int32.ofInt v14)), some (.int (Int32.ofInt v47)), some (.int (Int32.ofInt v27)), some (.int (Int32.ofInt v38))]) (st1 := []) (H1 := mz_mk g18 x) rfl ?_
                  refine mz_iincR (v := v27) (lo2 := [some (.ref q0), some (.ref q1), some (.ref q2), some (.int (Int32.ofInt v3)), some (.int (Int32.ofInt v14)), some (.int (Int32.ofInt v47)), some (.int (Int32.ofInt (v27 + 1))), some (.int (Int32.ofInt v38))]) rfl rfl rfl (Nat.le_of_ble_eq_true rfl) rfl ?_
                  refine mz_gt (tgt := 31) rfl rfl ?_
                  exact ih30 ((8 - (v27 + 1)).toNat) (by omega) v47 (v27 + 1) (some (.int (Int32.ofInt v38))) rfl (by omega) (by omega) (by omega) (by omega) (mz_nl_i _) ⟨fj34, Nat.lt_of_lt_of_le (show ((8 - (v27 + 1)).toNat) < n31 from (by omega)) fn35, hE⟩
          exact L33 _ 0 0 o17 rfl (by decide) (by decide) (by decide) (by decide) h_o17 ⟨3000000000, by omega, zf_rf⟩
      exact L22 _ 0 o5 o6 o7 g8 rfl (by decide) (by decide) h_o5 h_o6 h_o7 hIg8 (fun _ _ _ => rfl) ⟨3000000000, by omega, zf_rf⟩
  exact L11 _ (v2 - 1) none none none none g rfl (by omega) (by omega) mz_nl_n mz_nl_n mz_nl_n mz_nl_n hI (fun _ _ _ => rfl) ⟨3000000000, by omega, hE⟩
theorem f_X10_firstNext {d : Nat} (hd : 2 ≤ d) {x : mm_X} (hx : mk_x x) {g : mz_G} (hI : mz_inv g) {q0 : Nat} (h_q0 : kd_words q0) {q1 n_q1 : Nat} (h_q1 : mm_SH x.2.2.2.1 q1 = (100, n_q1)) (m_q1 : n_q1 ≤ 2048) (b_q1 : ∀ j, mz_bd q1 j = (-2147483648, 2147483647)) {q2 n_q2 : Nat} (h_q2 : mm_SH x.2.2.2.1 q2 = (100, n_q2)) (m_q2 : n_q2 ≤ 2048) (b_q2 : ∀ j, mz_bd q2 j = (-2147483648, 2147483647)) {a3 : Int} (l_a3 : (-2147483648) ≤ a3) (u_a3 : a3 ≤ 2147483647) {a4 : Int} (l_a4 : (-2147483648) ≤ a4) (u_a4 : a4 ≤ 2147483647) {a5 : Int} (l_a5 : (-2147483648) ≤ a5) (u_a5 : a5 ≤ 2147483647) {Q : (Option Value ⊕ Nat) → mm_H → Prop} (hQ : ∀ (r : Int), (-1) ≤ r → r ≤ 7 → zf_E (zF_X10_firstNext q0 q1 n_q1 q2 n_q2 a3 a4 a5 g) (r) → Q (.inl (some (.int (Int32.ofInt r)))) (mz_mk g x)) : mm_C d 121 [.ref q0, .ref q1, .ref q2, .int (Int32.ofInt a3), .int (Int32.ofInt a4), .int (Int32.ofInt a5)] (mz_mk g x) Q := by
  have kn_q0 := kn_words h_q0
  refine ⟨mmX10_firstNext, [some (.ref q0), some (.ref q1), some (.ref q2), some (.int (Int32.ofInt a3)), some (.int (Int32.ofInt a4)), some (.int (Int32.ofInt a5)), none, none, none], rfl, rfl, ?_⟩
  have hE : zf_E (zF_X10_firstNext q0 q1 n_q1 q2 n_q2 a3 a4 a5 g) (zF_X10_firstNext q0 q1 n_q1 q2 n_q2 a3 a4 a5 g) := zf_rf
  refine mm_g 2 (pc1 := 3) (lo1 := [some (.ref q0), some (.ref q1), some (.ref q2), some (.int (Int32.ofInt a3)), some (.int (Int32.ofInt a4)), some (.int (Int32.ofInt a5)), some (.int (Int32.ofInt 0)), none, none]) (st1 := []) (H1 := mz_mk g x) rfl ?_
  have L7 : ∀ n6 : Nat, ∀ (v1 : Int) (o2 : Option Value) (o3 : Option Value), (8 - v1).toNat = n6 → 0 ≤ v1 → v1 ≤ 8 → mz_nl o2 → mz_nl o3 → (∃ fk : Nat, (8 - v1).toNat < fk ∧ zf_E (zF_X10_firstNext q0 q1 n_q1 q2 n_q2 a3 a4 a5 g) (zL_X10_firstNext_3 q0 q1 n_q1 q2 n_q2 a3 a4 a5 g fk v1)) → mm_W d mmX10_firstNext 3 [some (.ref q0), some (.ref q1), some (.ref q2), some (.int (Int32.ofInt a3)), some (.int (Int32.ofInt a4)), some (.int (Int32.ofInt a5)), some (.int (Int32.ofInt v1)), o2, o3] [] (mz_mk g x) Q := by
    intro n6
    induction n6 using Nat.strongRecOn with
    | ind n6 ih5 =>
    intro v1 o2 o3 hmn6 l_v1 u_v1 h_o2 h_o3 hF
    obtain ⟨fk, fl, hE⟩ := hF
    obtain ⟨fj8, rfl⟩ : ∃ fj, fk = fj + 1 := ⟨fk - 1, by omega⟩
    have fn9 : n6 ≤ fj8 := by omega
    replace hE := zf_tr hE zL_X10_firstNext_3_s
    refine mm_g 2 (pc1 := 6) (lo1 := [some (.ref q0), some (.ref q1), some (.ref q2), some (.int (Int32.ofInt a3)), some (.int (Int32.ofInt a4)), some (.int (Int32.ofInt a5)), some (.int (Int32.ofInt v1)), o2, o3]) (st1 := [.ref q0, .int (Int32.ofInt v1)]) (H1 := mz_mk g x) rfl ?_
    refine mz_gI rfl fd_10_28 (by decide) (kc_words h_q0 _) hI (kb_words_3 h_q0) (fun v10 e_v10 l_v10 u_v10 => ?_)
    replace hE := zf_tr hE (zf_le e_v10)
    refine mz_ic_ge (tgt := 95) rfl rfl (mz_rg l_v1 u_v1) (mz_rg l_v10 u_v10) (fun c9_10 => ?_) (fun c9_10 => ?_)
    · skip
      replace hE := zf_nl hE c9_10
      refine mm_g 1 (pc1 := 96) (lo1 := [some (.ref q0), some (.ref q1), some (.ref q2), some (.int (Int32.ofInt a3)), some (.int (Int32.ofInt a4)), some (.int (Int32.ofInt a5)), some (.int (Int32.ofInt v1)), o2, o3]) (st1 := [.int (Int32.ofInt (-1))]) (H1 := mz_mk g x) rfl ?_
      exact mm_rt rfl rfl (hQ _ (by decide) (by decide) hE)
    · skip
      replace hE := zf_ip hE c9_10
      refine mm_g 2 (pc1 := 15) (lo1 := [some (.ref q0), some (.ref q1), some (.ref q2), some (.int (Int32.ofInt a3)), some (.int (Int32.ofInt a4)), some (.int (Int32.ofInt a5)), some (.int (Int32.ofInt v1)), o2, o3]) (st1 := [.int (Int32.ofInt (-1)), .int (Int32.ofInt a4)]) (H1 := mz_mk g x) rfl ?_
      refine mz_ic_ne (tgt := 22) rfl rfl (mz_rg l_a4 u_a4) ⟨by decide, by decide⟩ (fun c15_10 => ?_) (fun c15_10 => ?_)
      · skip
        replace hE := zf_in hE c15_10
        refine mm_g 2 (pc1 := 25) (lo1 := [some (.ref q0), some (.ref q1), some (.ref q2), some (.int (Int32.ofInt a3)), some (.int (Int32.ofInt a4)), some (.int (Int32.ofInt a5)), some (.int (Int32.ofInt v1)), o2, o3]) (st1 := [.int (Int32.ofInt a4), .ref q1]) (H1 := mz_mk g x) rfl ?_
        refine mz_bip rfl bip_8 ?_
        refine mz_imul_w rfl (fun v11 e_v11 hwv11 => ?_)
        have l_v11 := hwv11.1
        have u_v11 := hwv11.2
        replace hE := zf_tr hE (zf_le e_v11.symm)
        refine mm_g 1 (pc1 := 30) (lo1 := [some (.ref q0), some (.ref q1), some (.ref q2), some (.int (Int32.ofInt a3)), some (.int (Int32.ofInt a4)), some (.int (Int32.ofInt a5)), some (.int (Int32.ofInt v1)), o2, o3]) (st1 := [.int (Int32.ofInt v1), .int (Int32.ofInt v11), .ref q1]) (H1 := mz_mk g x) rfl ?_
        refine mz_iadd_w rfl (fun v12 e_v12 hwv12 => ?_)
        have l_v12 := hwv12.1
        have u_v12 := hwv12.2
        replace hE := zf_tr hE (zf_le e_v12.symm)
        refine mz_cs rfl mt_10_62 (by decide) rfl (Nat.le_of_ble_eq_true rfl) (by omega) (f_X11_at (by omega) hx hI h_q1 (by omega) b_q1 (by omega) (by omega) l_v12 u_v12 (fun v13 l_v13 u_v13 hc14 => ⟨_, rfl, ?_⟩))
        show mm_W d mmX10_firstNext 34 [some (.ref q0), some (.ref q1), some (.ref q2), some (.int (Int32.ofInt a3)), some (.int (Int32.ofInt a4)), some (.int (Int32.ofInt a5)), some (.int (Int32.ofInt v1)), o2, o3] [.int (Int32.ofInt v13)] (mz_mk g x) Q
        replace hE := zf_t1 hE hc14
        refine mm_g 4 (pc1 := 40) (lo1 := [some (.ref q0), some (.ref q1), some (.ref q2), some (.int (Int32.ofInt a3)), some (.int (Int32.ofInt a4)), some (.int (Int32.ofInt a5)), some (.int (Int32.ofInt v1)), some (.int (Int32.ofInt v13)), o3]) (st1 := [.int (Int32.ofInt v1), .int (Int32.ofInt 1), .int (Int32.ofInt a3)]) (H1 := mz_mk g x) rfl ?_
        refine mz_ishl rfl (fun v15 e_v15 hwv15 => ?_)
        have b_v15 : 1 ≤ v15 ∧ v15 ≤ 128 := by rw [e_v15]; exact mz_shl_b (lx := 1) (hx := 1) (k := 7) (by decide) (by decide) (by omega) (by omega) (by omega) (by omega)
        have l_v15 := b_v15.1
        have u_v15 := b_v15.2
        replace hE := zf_tr hE (zf_le e_v15.symm)
        refine mz_iand rfl (fun v16 e_v16 hwv16 => ?_)
        have b_v16 : 0 ≤ v16 ∧ v16 ≤ 128 := by rw [e_v16]; exact mz_and_r (by omega) (by omega) (mz_rg l_a3 u_a3)
        have l_v16 := b_v16.1
        have u_v16 := b_v16.2
        have w_v16 : v16 ≤ v15 := by rw [e_v16]; exact (mz_and_r (hi := v15) (by omega) (Int.le_refl _) (mz_rg l_a3 u_a3) (by omega)).2
        replace hE := zf_tr hE (zf_le e_v16.symm)
        refine mz_if_ne (tgt := 54) rfl rfl (mz_rg l_v16 u_v16) (fun c42_16 => ?_) (fun c42_16 => ?_)
        · skip
          replace hE := zf_in hE c42_16
          refine mm_g 3 (pc1 := 59) (lo1 := [some (.ref q0), some (.ref q1), some (.ref q2), some (.int (Int32.ofInt a3)), some (.int (Int32.ofInt a4)), some (.int (Int32.ofInt a5)), some (.int (Int32.ofInt v1)), some (.int (Int32.ofInt v13)), some (.int (Int32.ofInt 0))]) (st1 := [.int (Int32.ofInt 0)]) (H1 := mz_mk g x) rfl ?_
          refine mz_if_eq (tgt := 89) rfl rfl ⟨by decide, by decide⟩ (fun c59_16 => ?_) (fun c59_16 => ?_)
          · skip
            (try unfold zJ_X10_firstNext_34 at hE)
            (try unfold zJ_X10_firstNext_54 at hE)
            (try unfold zJ_X10_firstNext_55 at hE)
            (try unfold zJ_X10_firstNext_89 at hE)
            (try unfold zJ_X10_firstNext_34 at hE)
            (try unfold zJ_X10_firstNext_54 at hE)
            (try unfold zJ_X10_firstNext_55 at hE)
            (try unfold zJ_X10_firstNext_89 at hE)
            replace hE := zf_ip hE c59_16
            refine mz_iincR (v := v1) (lo2 := [some (.ref q0), some (.ref q1), some (.ref q2), some (.int (Int32.ofInt a3)), some (.int (Int32.ofInt a4)), some (.int (Int32.ofInt a5)), some (.int (Int32.ofInt (v1 + 1))), some (.int (Int32.ofInt v13)), some (.int (Int32.ofInt 0))]) rfl rfl rfl (Nat.le_of_ble_eq_true rfl) rfl ?_
            refine mz_gt (tgt := 3) rfl rfl ?_
            exact ih5 ((8 - (v1 + 1)).toNat) (by omega) (v1 + 1) (some (.int (Int32.ofInt v13))) (some (.int (Int32.ofInt 0))) rfl (by omega) (by omega) (mz_nl_i _) (mz_nl_i _) ⟨fj8, Nat.lt_of_lt_of_le (show ((8 - (v1 + 1)).toNat) < n6 from (by omega)) fn9, hE⟩
          · exfalso; omega
        · skip
          replace hE := zf_ip hE c42_16
          refine mm_g 1 (pc1 := 47) (lo1 := [some (.ref q0), some (.ref q1), some (.ref q2), some (.int (Int32.ofInt a3)), some (.int (Int32.ofInt a4)), some (.int (Int32.ofInt a5)), some (.int (Int32.ofInt v1)), some (.int (Int32.ofInt v13)), o3]) (st1 := [.int (Int32.ofInt v13)]) (H1 := mz_mk g x) rfl ?_
          refine mz_if_lt (tgt := 54) rfl rfl (mz_rg l_v13 u_v13) (fun c47_16 => ?_) (fun c47_16 => ?_)
          · skip
            replace hE := zf_ip hE c47_16
            refine mm_g 3 (pc1 := 59) (lo1 := [some (.ref q0), some (.ref q1), some (.ref q2), some (.int (Int32.ofInt a3)), some (.int (Int32.ofInt a4)), some (.int (Int32.ofInt a5)), some (.int (Int32.ofInt v1)), some (.int (Int32.ofInt v13)), some (.int (Int32.ofInt 0))]) (st1 := [.int (Int32.ofInt 0)]) (H1 := mz_mk g x) rfl ?_
            refine mz_if_eq (tgt := 89) rfl rfl ⟨by decide, by decide⟩ (fun c59_16 => ?_) (fun c59_16 => ?_)
            · skip
              (try unfold zJ_X10_firstNext_34 at hE)
              (try unfold zJ_X10_firstNext_54 at hE)
              (try unfold zJ_X10_firstNext_55 at hE)
              (try unfold zJ_X10_firstNext_89 at hE)
              (try unfold zJ_X10_firstNext_34 at hE)
              (try unfold zJ_X10_firstNext_54 at hE)
              (try unfold zJ_X10_firstNext_55 at hE)
              (try unfold zJ_X10_firstNext_89 at hE)
              replace hE := zf_ip hE c59_16
              refine mz_iincR (v := v1) (lo2 := [some (.ref q0), some (.ref q1), some (.ref q2), some (.int (Int32.ofInt a3)), some (.int (Int32.ofInt a4)), some (.int (Int32.ofInt a5)), some (.int (Int32.ofInt (v1 + 1))), some (.int (Int32.ofInt v13)), some (.int (Int32.ofInt 0))]) rfl rfl rfl (Nat.le_of_ble_eq_true rfl) rfl ?_
              refine mz_gt (tgt := 3) rfl rfl ?_
              exact ih5 ((8 - (v1 + 1)).toNat) (by omega) (v1 + 1) (some (.int (Int32.ofInt v13))) (some (.int (Int32.ofInt 0))) rfl (by omega) (by omega) (mz_nl_i _) (mz_nl_i _) ⟨fj8, Nat.lt_of_lt_of_le (show ((8 - (v1 + 1)).toNat) < n6 from (by omega)) fn9, hE⟩
            · exfalso; omega
          · skip
            replace hE := zf_nl hE c47_16
            refine mm_g 1 (pc1 := 51) (lo1 := [some (.ref q0), some (.ref q1), some (.ref q2), some (.int (Int32.ofInt a3)), some (.int (Int32.ofInt a4)), some (.int (Int32.ofInt a5)), some (.int (Int32.ofInt v1)), some (.int (Int32.ofInt v13)), o3]) (st1 := [.int (Int32.ofInt 1)]) (H1 := mz_mk g x) rfl ?_
            refine mz_gt (tgt := 55) rfl rfl ?_
            refine mm_g 2 (pc1 := 59) (lo1 := [some (.ref q0), some (.ref q1), some (.ref q2), some (.int (Int32.ofInt a3)), some (.int (Int32.ofInt a4)), some (.int (Int32.ofInt a5)), some (.int (Int32.ofInt v1)), some (.int (Int32.ofInt v13)), some (.int (Int32.ofInt 1))]) (st1 := [.int (Int32.ofInt 1)]) (H1 := mz_mk g x) rfl ?_
            refine mz_if_eq (tgt := 89) rfl rfl ⟨by decide, by decide⟩ (fun c59_16 => ?_) (fun c59_16 => ?_)
            · exfalso; omega
            · skip
              (try unfold zJ_X10_firstNext_34 at hE)
              (try unfold zJ_X10_firstNext_54 at hE)
              (try unfold zJ_X10_firstNext_55 at hE)
              (try unfold zJ_X10_firstNext_89 at hE)
              (try unfold zJ_X10_firstNext_34 at hE)
              (try unfold zJ_X10_firstNext_54 at hE)
              (try unfold zJ_X10_firstNext_55 at hE)
              (try unfold zJ_X10_firstNext_89 at hE)
              replace hE := zf_in hE c59_16
              refine mm_g 5 (pc1 := 69) (lo1 := [some (.ref q0), some (.ref q1), some (.ref q2), some (.int (Int32.ofInt a3)), some (.int (Int32.ofInt a4)), some (.int (Int32.ofInt a5)), some (.int (Int32.ofInt v1)), some (.int (Int32.ofInt v13)), some (.int (Int32.ofInt 1))]) (st1 := [.int (Int32.ofInt v1), .int (Int32.ofInt 1), .int (Int32.ofInt a3), .ref q2, .int (Int32.ofInt v13)]) (H1 := mz_mk g x) rfl ?_
              refine mz_ishl rfl (fun v17 e_v17 hwv17 => ?_)
              have b_v17 : 1 ≤ v17 ∧ v17 ≤ 128 := by rw [e_v17]; exact mz_shl_b (lx := 1) (hx := 1) (k := 7) (by decide) (by decide) (by omega) (by omega) (by omega) (by omega)
              have l_v17 := b_v17.1
              have u_v17 := b_v17.2
              replace hE := zf_tr hE (zf_le e_v17.symm)
              refine mz_ior rfl (fun v18 e_v18 hwv18 => ?_)
              have l_v18 := hwv18.1
              have u_v18 := hwv18.2
              replace hE := zf_tr hE (zf_le e_v18.symm)
              refine mz_bip rfl bip_8 ?_
              refine mz_imul_w rfl (fun v19 e_v19 hwv19 => ?_)
              have l_v19 := hwv19.1
              have u_v19 := hwv19.2
              replace hE := zf_tr hE (zf_le e_v19.symm)
              refine mm_g 1 (pc1 := 76) (lo1 := [some (.ref q0), some (.ref q1), some (.ref q2), some (.int (Int32.ofInt a3)), some (.int (Int32.ofInt a4)), some (.int (Int32.ofInt a5)), some (.int (Int32.ofInt v1)), some (.int (Int32.ofInt v13)), some (.int (Int32.ofInt 1))]) (st1 := [.int (Int32.ofInt v1), .int (Int32.ofInt v19), .ref q2, .int (Int32.ofInt v13)]) (H1 := mz_mk g x) rfl ?_
              refine mz_iadd_w rfl (fun v20 e_v20 hwv20 => ?_)
              have l_v20 := hwv20.1
              have u_v20 := hwv20.2
              replace hE := zf_tr hE (zf_le e_v20.symm)
              refine mz_cs rfl mt_10_62 (by decide) rfl (Nat.le_of_ble_eq_true rfl) (by omega) (f_X11_at (by omega) hx hI h_q2 (by omega) b_q2 (by omega) (by omega) l_v20 u_v20 (fun v21 l_v21 u_v21 hc22 => ⟨_, rfl, ?_⟩))
              show mm_W d mmX10_firstNext 80 [some (.ref q0), some (.ref q1), some (.ref q2), some (.int (Int32.ofInt a3)), some (.int (Int32.ofInt a4)), some (.int (Int32.ofInt a5)), some (.int (Int32.ofInt v1)), some (.int (Int32.ofInt v13)), some (.int (Int32.ofInt 1))] [.int (Int32.ofInt v21), .int (Int32.ofInt v13)] (mz_mk g x) Q
              replace hE := zf_t1 hE hc22
              refine mz_iadd_w rfl (fun v23 e_v23 hwv23 => ?_)
              have l_v23 := hwv23.1
              have u_v23 := hwv23.2
              replace hE := zf_tr hE (zf_le e_v23.symm)
              refine mm_g 1 (pc1 := 83) (lo1 := [some (.ref q0), some (.ref q1), some (.ref q2), some (.int (Int32.ofInt a3)), some (.int (Int32.ofInt a4)), some (.int (Int32.ofInt a5)), some (.int (Int32.ofInt v1)), some (.int (Int32.ofInt v13)), some (.int (Int32.ofInt 1))]) (st1 := [.int (Int32.ofInt a5), .int (Int32.ofInt v23)]) (H1 := mz_mk g x) rfl ?_
              refine mz_ic_ne (tgt := 89) rfl rfl (mz_rg l_v23 u_v23) (mz_rg l_a5 u_a5) (fun c83_23 => ?_) (fun c83_23 => ?_)
              · skip
                replace hE := zf_in hE c83_23
                refine mz_iincR (v := v1) (lo2 := [some (.ref q0), some (.ref q1), some (.ref q2), some (.int (Int32.ofInt a3)), some (.int (Int32.ofInt a4)), some (.int (Int32.ofInt a5)), some (.int (Int32.ofInt (v1 + 1))), some (.int (Int32.ofInt v13)), some (.int (Int32.ofInt 1))]) rfl rfl rfl (Nat.le_of_ble_eq_true rfl) rfl ?_
                refine mz_gt (tgt := 3) rfl rfl ?_
                exact ih5 ((8 - (v1 + 1)).toNat) (by omega) (v1 + 1) (some (.int (Int32.ofInt v13))) (some (.int (Int32.ofInt 1))) rfl (by omega) (by omega) (mz_nl_i _) (mz_nl_i _) ⟨fj8, Nat.lt_of_lt_of_le (show ((8 - (v1 + 1)).toNat) < n6 from (by omega)) fn9, hE⟩
              · skip
                replace hE := zf_ip hE c83_23
                refine mm_g 1 (pc1 := 88) (lo1 := [some (.ref q0), some (.ref q1), some (.ref q2), some (.int (Int32.ofInt a3)), some (.int (Int32.ofInt a4)), some (.int (Int32.ofInt a5)), some (.int (Int32.ofInt v1)), some (.int (Int32.ofInt v13)), some (.int (Int32.ofInt 1))]) (st1 := [.int (Int32.ofInt v1)]) (H1 := mz_mk g x) rfl ?_
                exact mm_rt rfl rfl (hQ _ (by omega) (by omega) hE)
      · skip
        replace hE := zf_ip hE c15_10
        refine mm_g 1 (pc1 := 19) (lo1 := [some (.ref q0), some (.ref q1), some (.ref q2), some (.int (Int32.ofInt a3)), some (.int (Int32.ofInt a4)), some (.int (Int32.ofInt a5)), some (.int (Int32.ofInt v1)), o2, o3]) (st1 := [.int (Int32.ofInt 0)]) (H1 := mz_mk g x) rfl ?_
        refine mz_gt (tgt := 34) rfl rfl ?_
        refine mm_g 4 (pc1 := 40) (lo1 := [some (.ref q0), some (.ref q1), some (.ref q2), some (.int (Int32.ofInt a3)), some (.int (Int32.ofInt a4)), some (.int (Int32.ofInt a5)), some (.int (Int32.ofInt v1)), some (.int (Int32.ofInt 0)), o3]) (st1 := [.int (Int32.ofInt v1), .int (Int32.ofInt 1), .int (Int32.ofInt a3)]) (H1 := mz_mk g x) rfl ?_
        refine mz_ishl rfl (fun v24 e_v24 hwv24 => ?_)
        have b_v24 : 1 ≤ v24 ∧ v24 ≤ 128 := by rw [e_v24]; exact mz_shl_b (lx := 1) (hx := 1) (k := 7) (by decide) (by decide) (by omega) (by omega) (by omega) (by omega)
        have l_v24 := b_v24.1
        have u_v24 := b_v24.2
        replace hE := zf_tr hE (zf_le e_v24.symm)
        refine mz_iand rfl (fun v25 e_v25 hwv25 => ?_)
        have b_v25 : 0 ≤ v25 ∧ v25 ≤ 128 := by rw [e_v25]; exact mz_and_r (by omega) (by omega) (mz_rg l_a3 u_a3)
        have l_v25 := b_v25.1
        have u_v25 := b_v25.2
        have w_v25 : v25 ≤ v24 := by rw [e_v25]; exact (mz_and_r (hi := v24) (by omega) (Int.le_refl _) (mz_rg l_a3 u_a3) (by omega)).2
        replace hE := zf_tr hE (zf_le e_v25.symm)
        refine mz_if_ne (tgt := 54) rfl rfl (mz_rg l_v25 u_v25) (fun c42_25 => ?_) (fun c42_25 => ?_)
        · skip
          replace hE := zf_in hE c42_25
          refine mm_g 3 (pc1 := 59) (lo1 := [some (.ref q0), some (.ref q1), some (.ref q2), some (.int (Int32.ofInt a3)), some (.int (Int32.ofInt a4)), some (.int (Int32.ofInt a5)), some (.int (Int32.ofInt v1)), some (.int (Int32.ofInt 0)), some (.int (Int32.ofInt 0))]) (st1 := [.int (Int32.ofInt 0)]) (H1 := mz_mk g x) rfl ?_
          refine mz_if_eq (tgt := 89) rfl rfl ⟨by decide, by decide⟩ (fun c59_25 => ?_) (fun c59_25 => ?_)
          · skip
            (try unfold zJ_X10_firstNext_34 at hE)
            (try unfold zJ_X10_firstNext_54 at hE)
            (try unfold zJ_X10_firstNext_55 at hE)
            (try unfold zJ_X10_firstNext_89 at hE)
            (try unfold zJ_X10_firstNext_34 at hE)
            (try unfold zJ_X10_firstNext_54 at hE)
            (try unfold zJ_X10_firstNext_55 at hE)
            (try unfold zJ_X10_firstNext_89 at hE)
            replace hE := zf_ip hE c59_25
            refine mz_iincR (v := v1) (lo2 := [some (.ref q0), some (.ref q1), some (.ref q2), some (.int (Int32.ofInt a3)), some (.int (Int32.ofInt a4)), some (.int (Int32.ofInt a5)), some (.int (Int32.ofInt (v1 + 1))), some (.int (Int32.ofInt 0)), some (.int (Int32.ofInt 0))]) rfl rfl rfl (Nat.le_of_ble_eq_true rfl) rfl ?_
            refine mz_gt (tgt := 3) rfl rfl ?_
            exact ih5 ((8 - (v1 + 1)).toNat) (by omega) (v1 + 1) (some (.int (Int32.ofInt 0))) (some (.int (Int32.ofInt 0))) rfl (by omega) (by omega) (mz_nl_i _) (mz_nl_i _) ⟨fj8, Nat.lt_of_lt_of_le (show ((8 - (v1 + 1)).toNat) < n6 from (by omega)) fn9, hE⟩
          · exfalso; omega
        · skip
          replace hE := zf_ip hE c42_25
          refine mm_g 1 (pc1 := 47) (lo1 := [some (.ref q0), some (.ref q1), some (.ref q2), some (.int (Int32.ofInt a3)), some (.int (Int32.ofInt a4)), some (.int (Int32.ofInt a5)), some (.int (Int32.ofInt v1)), some (.int (Int32.ofInt 0)), o3]) (st1 := [.int (Int32.ofInt 0)]) (H1 := mz_mk g x) rfl ?_
          refine mz_if_lt (tgt := 54) rfl rfl ⟨by decide, by decide⟩ (fun c47_25 => ?_) (fun c47_25 => ?_)
          · exfalso; omega
          · skip
            (try unfold zJ_X10_firstNext_34 at hE)
            (try unfold zJ_X10_firstNext_54 at hE)
            (try unfold zJ_X10_firstNext_55 at hE)
            (try unfold zJ_X10_firstNext_89 at hE)
            (try unfold zJ_X10_firstNext_34 at hE)
            (try unfold zJ_X10_firstNext_54 at hE)
            (try unfold zJ_X10_firstNext_55 at hE)
            (try unfold zJ_X10_firstNext_89 at hE)
            replace hE := zf_nl hE c47_25
            refine mm_g 1 (pc1 := 51) (lo1 := [some (.ref q0), some (.ref q1), some (.ref q2), some (.int (Int32.ofInt a3)), some (.int (Int32.ofInt a4)), some (.int (Int32.ofInt a5)), some (.int (Int32.ofInt v1)), some (.int (Int32.ofInt 0)), o3]) (st1 := [.int (Int32.ofInt 1)]) (H1 := mz_mk g x) rfl ?_
            refine mz_gt (tgt := 55) rfl rfl ?_
            refine mm_g 2 (pc1 := 59) (lo1 := [some (.ref q0), some (.ref q1), some (.ref q2), some (.int (Int32.ofInt a3)), some (.int (Int32.ofInt a4)), some (.int (Int32.ofInt a5)), some (.int (Int32.ofInt v1)), some (.int (Int32.ofInt 0)), some (.int (Int32.ofInt 1))]) (st1 := [.int (Int32.ofInt 1)]) (H1 := mz_mk g x) rfl ?_
            refine mz_if_eq (tgt := 89) rfl rfl ⟨by decide, by decide⟩ (fun c59_25 => ?_) (fun c59_25 => ?_)
            · exfalso; omega
            · skip
              (try unfold zJ_X10_firstNext_34 at hE)
              (try unfold zJ_X10_firstNext_54 at hE)
              (try unfold zJ_X10_firstNext_55 at hE)
              (try unfold zJ_X10_firstNext_89 at hE)
              (try unfold zJ_X10_firstNext_34 at hE)
              (try unfold zJ_X10_firstNext_54 at hE)
              (try unfold zJ_X10_firstNext_55 at hE)
              (try unfold zJ_X10_firstNext_89 at hE)
              replace hE := zf_in hE c59_25
              refine mm_g 5 (pc1 := 69) (lo1 := [some (.ref q0), some (.ref q1), some (.ref q2), some (.int (Int32.ofInt a3)), some (.int (Int32.ofInt a4)), some (.int (Int32.ofInt a5)), some (.int (Int32.ofInt v1)), some (.int (Int32.ofInt 0)), some (.int (Int32.ofInt 1))]) (st1 := [.int (Int32.ofInt v1), .int (Int32.ofInt 1), .int (Int32.ofInt a3), .ref q2, .int (Int32.ofInt 0)]) (H1 := mz_mk g x) rfl ?_
              refine mz_ishl rfl (fun v26 e_v26 hwv26 => ?_)
              have b_v26 : 1 ≤ v26 ∧ v26 ≤ 128 := by rw [e_v26]; exact mz_shl_b (lx := 1) (hx := 1) (k := 7) (by decide) (by decide) (by omega) (by omega) (by omega) (by omega)
              have l_v26 := b_v26.1
              have u_v26 := b_v26.2
              replace hE := zf_tr hE (zf_le e_v26.symm)
              refine mz_ior rfl (fun v27 e_v27 hwv27 => ?_)
              have l_v27 := hwv27.1
              have u_v27 := hwv27.2
              replace hE := zf_tr hE (zf_le e_v27.symm)
              refine mz_bip rfl bip_8 ?_
              refine mz_imul_w rfl (fun v28 e_v28 hwv28 => ?_)
              have l_v28 := hwv28.1
              have u_v28 := hwv28.2
              replace hE := zf_tr hE (zf_le e_v28.symm)
              refine mm_g 1 (pc1 := 76) (lo1 := [some (.ref q0), some (.ref q1), some (.ref q2), some (.int (Int32.ofInt a3)), some (.int (Int32.ofInt a4)), some (.int (Int32.ofInt a5)), some (.int (Int32.ofInt v1)), some (.int (Int32.ofInt 0)), some (.int (Int32.ofInt 1))]) (st1 := [.int (Int32.ofInt v1), .int (Int32.ofInt v28), .ref q2, .int (Int32.ofInt 0)]) (H1 := mz_mk g x) rfl ?_
              refine mz_iadd_w rfl (fun v29 e_v29 hwv29 => ?_)
              have l_v29 := hwv29.1
              have u_v29 := hwv29.2
              replace hE := zf_tr hE (zf_le e_v29.symm)
              refine mz_cs rfl mt_10_62 (by decide) rfl (Nat.le_of_ble_eq_true rfl) (by omega) (f_X11_at (by omega) hx hI h_q2 (by omega) b_q2 (by omega) (by omega) l_v29 u_v29 (fun v30 l_v30 u_v30 hc31 => ⟨_, rfl, ?_⟩))
              show mm_W d mmX10_firstNext 80 [some (.ref q0), some (.ref q1), some (.ref q2), some (.int (Int32.ofInt a3)), some (.int (Int32.ofInt a4)), some (.int (Int32.ofInt a5)), some (.int (Int32.ofInt v1)), some (.int (Int32.ofInt 0)), some (.int (Int32.ofInt 1))] [.int (Int32.ofInt v30), .int (Int32.ofInt 0)] (mz_mk g x) Q
              replace hE := zf_t1 hE hc31
              refine mz_iadd rfl ?_
              replace hE := zf_tr hE (zf_lw ⟨by omega, by omega⟩)
              refine mm_g 1 (pc1 := 83) (lo1 := [some (.ref q0), some (.ref q1), some (.ref q2), some (.int (Int32.ofInt a3)), some (.int (Int32.ofInt a4)), some (.int (Int32.ofInt a5)), some (.int (Int32.ofInt v1)), some (.int (Int32.ofInt 0)), some (.int (Int32.ofInt 1))]) (st1 := [.int (Int32.ofInt a5), .int (Int32.ofInt (0 + v30))]) (H1 := mz_mk g x) rfl ?_
              refine mz_ic_ne (tgt := 89) rfl rfl ⟨by omega, by omega⟩ (mz_rg l_a5 u_a5) (fun c83_31 => ?_) (fun c83_31 => ?_)
              · skip
                replace hE := zf_in hE c83_31
                refine mz_iincR (v := v1) (lo2 := [some (.ref q0), some (.ref q1), some (.ref q2), some (.int (Int32.ofInt a3)), some (.int (Int32.ofInt a4)), some (.int (Int32.ofInt a5)), some (.int (Int32.ofInt (v1 + 1))), some (.int (Int32.ofInt 0)), some (.int (Int32.ofInt 1))]) rfl rfl rfl (Nat.le_of_ble_eq_true rfl) rfl ?_
                refine mz_gt (tgt := 3) rfl rfl ?_
                exact ih5 ((8 - (v1 + 1)).toNat) (by omega) (v1 + 1) (some (.int (Int32.ofInt 0))) (some (.int (Int32.ofInt 1))) rfl (by omega) (by omega) (mz_nl_i _) (mz_nl_i _) ⟨fj8, Nat.lt_of_lt_of_le (show ((8 - (v1 + 1)).toNat) < n6 from (by omega)) fn9, hE⟩
              · skip
                replace hE := zf_ip hE c83_31
                refine mm_g 1 (pc1 := 88) (lo1 := [some (.ref q0), some (.ref q1), some (.ref q2), some (.int (Int32.ofInt a3)), some (.int (Int32.ofInt a4)), some (.int (Int32.ofInt a5)), some (.int (Int32.ofInt v1)), some (.int (Int32.ofInt 0)), some (.int (Int32.ofInt 1))]) (st1 := [.int (Int32.ofInt v1)]) (H1 := mz_mk g x) rfl ?_
                exact mm_rt rfl rfl (hQ _ (by omega) (by omega) hE)
  exact L7 _ 0 none none rfl (by decide) (by decide) mz_nl_n mz_nl_n ⟨3000000000, by omega, hE⟩
def fl_X10_findOrder_57 (x : mm_X) (q0 : Nat) (q1 : Nat) (q2 : Nat) (q3 : Nat) : Nat → Nat → Prop := fun k j => k = q2
def fw_X10_findOrder (x : mm_X) (q0 : Nat) (q1 : Nat) (q2 : Nat) (q3 : Nat) : Nat → Nat → Prop := fun k j => k = q3 ∨ k = q2
theorem f_X10_findOrder {d : Nat} (hd : 13 ≤ d) {x : mm_X} (hx : mk_x x) {g : mz_G} (hI : mz_inv g) {q0 : Nat} (h_q0 : kd_words q0) {q1 n_q1 : Nat} (h_q1 : mm_SH x.2.2.2.1 q1 = (100, n_q1)) (m_q1 : n_q1 ≤ 2048) (b_q1 : ∀ j, mz_bd q1 j = (-2147483648, 2147483647)) {q2 n_q2 : Nat} (h_q2 : mm_SH x.2.2.2.1 q2 = (100, n_q2)) (m_q2 : n_q2 ≤ 2048) (b_q2 : ∀ j, mz_bd q2 j = (-2147483648, 2147483647)) {q3 n_q3 : Nat} (h_q3 : mm_SH x.2.2.2.1 q3 = (100, n_q3)) (m_q3 : n_q3 ≤ 2048) (b_q3 : ∀ j, mz_bd q3 j = (-2147483648, 2147483647)) {Q : (Option Value ⊕ Nat) → mm_H → Prop} (hQ : ∀ (r : Int) (g1 : mz_G), mz_inv g1 → mz_fr (fw_X10_findOrder x q0 q1 q2 q3) g g1 → 0 ≤ r → r ≤ 8 → zf_E (zF_X10_findOrder q0 q1 n_q1 q2 n_q2 q3 n_q3 g) ((r, g1)) → Q (.inl (some (.int (Int32.ofInt r)))) (mz_mk g1 x)) : mm_C d 119 [.ref q0, .ref q1, .ref q2, .ref q3] (mz_mk g x) Q := by
  have kn_q0 := kn_words h_q0
  refine ⟨mmX10_findOrder, [some (.ref q0), some (.ref q1), some (.ref q2), some (.ref q3), none, none, none, none, none], rfl, rfl, ?_⟩
  have hE : zf_E (zF_X10_findOrder q0 q1 n_q1 q2 n_q2 q3 n_q3 g) (zF_X10_findOrder q0 q1 n_q1 q2 n_q2 q3 n_q3 g) := zf_rf
  refine mm_g 3 (pc1 := 3) (lo1 := [some (.ref q0), some (.ref q1), some (.ref q2), some (.ref q3), none, none, none, none, none]) (st1 := [.ref q3, .ref q1, .ref q0]) (H1 := mz_mk g x) rfl ?_
  refine mz_cv rfl mt_10_98 (by decide) (kc_words h_q0 _) rfl (Nat.le_of_ble_eq_true rfl) (by omega) (f_X10_fillRoom (by omega) hx hI h_q0 h_q1 (by omega) b_q1 h_q3 (by omega) b_q3 (fun g1 hIg1 hfg1 hc2 => ⟨_, rfl, ?_⟩))
  show mm_W d mmX10_findOrder 6 [some (.ref q0), some (.ref q1), some (.ref q2), some (.ref q3), none, none, none, none, none] [] (mz_mk g1 x) Q
  replace hE := zf_t1 hE hc2
  refine mm_g 4 (pc1 := 12) (lo1 := [some (.ref q0), some (.ref q1), some (.ref q2), some (.ref q3), some (.int (Int32.ofInt 0)), some (.int (Int32.ofInt 0)), none, none, none]) (st1 := []) (H1 := mz_mk g1 x) rfl ?_
  have L8 : ∀ n7 : Nat, ∀ (v3 : Int) (v4 : Int), (8 - v4).toNat = n7 → 0 ≤ v3 → v3 ≤ 2147483647 → 0 ≤ v4 → v4 ≤ 8 → (∃ fk : Nat, (8 - v4).toNat < fk ∧ zf_E (zF_X10_findOrder q0 q1 n_q1 q2 n_q2 q3 n_q3 g) (zL_X10_findOrder_12 q0 q1 n_q1 q2 n_q2 q3 n_q3 g1 fk v3 v4)) → mm_W d mmX10_findOrder 12 [some (.ref q0), some (.ref q1), some (.ref q2), some (.ref q3), some (.int (Int32.ofInt v3)), some (.int (Int32.ofInt v4)), none, none, none] [] (mz_mk g1 x) Q := by
    intro n7
    induction n7 using Nat.strongRecOn with
    | ind n7 ih6 =>
    intro v3 v4 hmn7 l_v3 u_v3 l_v4 u_v4 hF
    obtain ⟨fk, fl, hE⟩ := hF
    obtain ⟨fj9, rfl⟩ : ∃ fj, fk = fj + 1 := ⟨fk - 1, by omega⟩
    have fn10 : n7 ≤ fj9 := by omega
    replace hE := zf_tr hE zL_X10_findOrder_12_s
    refine mm_g 2 (pc1 := 15) (lo1 := [some (.ref q0), some (.ref q1), some (.ref q2), some (.ref q3), some (.int (Int32.ofInt v3)), some (.int (Int32.ofInt v4)), none, none, none]) (st1 := [.ref q0, .int (Int32.ofInt v4)]) (H1 := mz_mk g1 x) rfl ?_
    refine mz_gI rfl fd_10_28 (by decide) (kc_words h_q0 _) hIg1 (kb_words_3 h_q0) (fun v11 e_v11 l_v11 u_v11 => ?_)
    replace hE := zf_tr hE (zf_le e_v11)
    refine mz_ic_ge (tgt := 48) rfl rfl (mz_rg l_v4 u_v4) (mz_rg l_v11 u_v11) (fun c18_11 => ?_) (fun c18_11 => ?_)
    · skip
      replace hE := zf_nl hE c18_11
      refine mm_g 6 (pc1 := 57) (lo1 := [some (.ref q0), some (.ref q1), some (.ref q2), some (.ref q3), some (.int (Int32.ofInt v3)), some (.int (Int32.ofInt 0)), some (.int (Int32.ofInt (-1))), some (.int (Int32.ofInt 0)), none]) (st1 := []) (H1 := mz_mk g1 x) rfl ?_
      have L20 : ∀ n19 : Nat, ∀ (v12 : Int) (v13 : Int) (v14 : Int) (v15 : Int) (o16 : Option Value) (g17 : mz_G), (8 - v15).toNat = n19 → (-2147483648) ≤ v12 → v12 ≤ 2147483647 → 0 ≤ v13 → v13 ≤ 255 → (-1) ≤ v14 → v14 ≤ 7 → 0 ≤ v15 → v15 ≤ 8 → mz_nl o16 → mz_inv g17 → mz_fr (fl_X10_findOrder_57 x q0 q1 q2 q3) g1 g17 → (∃ fk : Nat, (8 - v15).toNat < fk ∧ zf_E (zF_X10_findOrder q0 q1 n_q1 q2 n_q2 q3 n_q3 g) (zL_X10_findOrder_57 q0 q1 n_q1 q2 n_q2 q3 n_q3 fk v12 v13 v14 v15 g17)) → mm_W d mmX10_findOrder 57 [some (.ref q0), some (.ref q1), some (.ref q2), some (.ref q3), some (.int (Int32.ofInt v12)), some (.int (Int32.ofInt v13)), some (.int (Int32.ofInt v14)), some (.int (Int32.ofInt v15)), o16] [] (mz_mk g17 x) Q := by
        intro n19
        induction n19 using Nat.strongRecOn with
        | ind n19 ih18 =>
        intro v12 v13 v14 v15 o16 g17 hmn19 l_v12 u_v12 l_v13 u_v13 l_v14 u_v14 l_v15 u_v15 h_o16 hIg17 hfg17 hF
        obtain ⟨fk, fl, hE⟩ := hF
        obtain ⟨fj21, rfl⟩ : ∃ fj, fk = fj + 1 := ⟨fk - 1, by omega⟩
        have fn22 : n19 ≤ fj21 := by omega
        replace hE := zf_tr hE zL_X10_findOrder_57_s
        refine mm_g 2 (pc1 := 60) (lo1 := [some (.ref q0), some (.ref q1), some (.ref q2), some (.ref q3), some (.int (Int32.ofInt v12)), some (.int (Int32.ofInt v13)), some (.int (Int32.ofInt v14)), some (.int (Int32.ofInt v15)), o16]) (st1 := [.ref q0, .int (Int32.ofInt v15)]) (H1 := mz_mk g17 x) rfl ?_
        refine mz_gI rfl fd_10_28 (by decide) (kc_words h_q0 _) hIg17 (kb_words_3 h_q0) (fun v23 e_v23 l_v23 u_v23 => ?_)
        replace hE := zf_tr hE (zf_le e_v23)
        refine mz_ic_ge (tgt := 130) rfl rfl (mz_rg l_v15 u_v15) (mz_rg l_v23 u_v23) (fun c63_23 => ?_) (fun c63_23 => ?_)
        · skip
          replace hE := zf_nl hE c63_23
          refine mm_g 1 (pc1 := 132) (lo1 := [some (.ref q0), some (.ref q1), some (.ref q2), some (.ref q3), some (.int (Int32.ofInt v12)), some (.int (Int32.ofInt v13)), some (.int (Int32.ofInt v14)), some (.int (Int32.ofInt v15)), o16]) (st1 := [.int (Int32.ofInt v15)]) (H1 := mz_mk g17 x) rfl ?_
          exact mm_rt rfl rfl (hQ _ _ hIg17 (fun k j hk => ((hfg17 k j (fun h => hk (Or.inr h))).trans (hfg1 k j (fun h => hk (Or.inl h))))) (by omega) (by omega) hE)
        · skip
          replace hE := zf_ip hE c63_23
          refine mm_g 6 (pc1 := 75) (lo1 := [some (.ref q0), some (.ref q1), some (.ref q2), some (.ref q3), some (.int (Int32.ofInt v12)), some (.int (Int32.ofInt v13)), some (.int (Int32.ofInt v14)), some (.int (Int32.ofInt v15)), o16]) (st1 := [.int (Int32.ofInt v12), .int (Int32.ofInt v14), .int (Int32.ofInt v13), .ref q3, .ref q1, .ref q0]) (H1 := mz_mk g17 x) rfl ?_
          refine mz_cv rfl mt_10_107 (by decide) (kc_words h_q0 _) rfl (Nat.le_of_ble_eq_true rfl) (by omega) (f_X10_firstNext (by omega) hx hIg17 h_q0 h_q1 (by omega) b_q1 h_q3 (by omega) b_q3 (by omega) (by omega) (by omega) (by omega) l_v12 u_v12 (fun v24 l_v24 u_v24 hc25 => ⟨_, rfl, ?_⟩))
          show mm_W d mmX10_findOrder 78 [some (.ref q0), some (.ref q1), some (.ref q2), some (.ref q3), some (.int (Int32.ofInt v12)), some (.int (Int32.ofInt v13)), some (.int (Int32.ofInt v14)), some (.int (Int32.ofInt v15)), o16] [.int (Int32.ofInt v24)] (mz_mk g17 x) Q
          replace hE := zf_t1 hE hc25
          refine mm_g 3 (pc1 := 83) (lo1 := [some (.ref q0), some (.ref q1), some (.ref q2), some (.ref q3), some (.int (Int32.ofInt v12)), some (.int (Int32.ofInt v13)), some (.int (Int32.ofInt v14)), some (.int (Int32.ofInt v15)), some (.int (Int32.ofInt v24))]) (st1 := [.int (Int32.ofInt (-1)), .int (Int32.ofInt v24)]) (H1 := mz_mk g17 x) rfl ?_
          refine mz_ic_ne (tgt := 89) rfl rfl (mz_rg l_v24 u_v24) ⟨by decide, by decide⟩ (fun c83_25 => ?_) (fun c83_25 => ?_)
          · skip
            replace hE := zf_in hE c83_25
            refine mm_g 3 (pc1 := 94) (lo1 := [some (.ref q0), some (.ref q1), some (.ref q2), some (.ref q3), some (.int (Int32.ofInt v12)), some (.int (Int32.ofInt v13)), some (.int (Int32.ofInt v14)), some (.int (Int32.ofInt v15)), some (.int (Int32.ofInt v24))]) (st1 := [.int (Int32.ofInt v24), .int (Int32.ofInt 1), .int (Int32.ofInt v13)]) (H1 := mz_mk g17 x) rfl ?_
            refine mz_ishl rfl (fun v26 e_v26 hwv26 => ?_)
            have b_v26 : 1 ≤ v26 ∧ v26 ≤ 128 := by rw [e_v26]; exact mz_shl_b (lx := 1) (hx := 1) (k := 7) (by decide) (by decide) (by omega) (by omega) (by omega) (by omega)
            have l_v26 := b_v26.1
            have u_v26 := b_v26.2
            replace hE := zf_tr hE (zf_le e_v26.symm)
            refine mz_ior rfl (fun v27 e_v27 hwv27 => ?_)
            have b_v27 : 0 ≤ v27 ∧ v27 ≤ 255 := by rw [e_v27]; exact mz_or_lt (n := 8) (by decide) (by omega) (by omega) (by omega) (by omega)
            have l_v27 := b_v27.1
            have u_v27 := b_v27.2
            replace hE := zf_tr hE (zf_le e_v27.symm)
            refine mm_g 5 (pc1 := 105) (lo1 := [some (.ref q0), some (.ref q1), some (.ref q2), some (.ref q3), some (.int (Int32.ofInt v12)), some (.int (Int32.ofInt v27)), some (.int (Int32.ofInt v24)), some (.int (Int32.ofInt v15)), some (.int (Int32.ofInt v24))]) (st1 := [.int (Int32.ofInt v27), .ref q3]) (H1 := mz_mk g17 x) rfl ?_
            refine mz_bip rfl bip_8 ?_
            refine mz_imul rfl ?_
            refine mm_g 1 (pc1 := 110) (lo1 := [some (.ref q0), some (.ref q1), some (.ref q2), some (.ref q3), some (.int (Int32.ofInt v12)), some (.int (Int32.ofInt v27)), some (.int (Int32.ofInt v24)), some (.int (Int32.ofInt v15)), some (.int (Int32.ofInt v24))]) (st1 := [.int (Int32.ofInt v24), .int (Int32.ofInt (v27 * 8)), .ref q3]) (H1 := mz_mk g17 x) rfl ?_
            refine mz_iadd rfl ?_
            refine mz_cs rfl mt_10_62 (by decide) rfl (Nat.le_of_ble_eq_true rfl) (by omega) (f_X11_at (by omega) hx hIg17 h_q3 (by omega) b_q3 (by omega) (by omega) (by omega) (by omega) (fun v28 l_v28 u_v28 hc29 => ⟨_, rfl, ?_⟩))
            show mm_W d mmX10_findOrder 114 [some (.ref q0), some (.ref q1), some (.ref q2), some (.ref q3), some (.int (Int32.ofInt v12)), some (.int (Int32.ofInt v27)), some (.int (Int32.ofInt v24)), some (.int (Int32.ofInt v15)), some (.int (Int32.ofInt v24))] [.int (Int32.ofInt v28)] (mz_mk g17 x) Q
            replace hE := zf_t1 hE hc29
            refine mm_g 4 (pc1 := 121) (lo1 := [some (.ref q0), some (.ref q1), some (.ref q2), some (.ref q3), some (.int (Int32.ofInt v28)), some (.int (Int32.ofInt v27)), some (.int (Int32.ofInt v24)), some (.int (Int32.ofInt v15)), some (.int (Int32.ofInt v24))]) (st1 := [.int (Int32.ofInt v24), .int (Int32.ofInt v15), .ref q2]) (H1 := mz_mk g17 x) rfl ?_
            refine mz_cs rfl mt_10_58 (by decide) rfl (Nat.le_of_ble_eq_true rfl) (by omega) (f_X11_put (by omega) hx hIg17 h_q2 (by omega) b_q2 (by omega) (by omega) (by omega) (by omega) (by omega) (by omega) (by omega) (by omega) (fun g30 hIg30 hfg30 hc31 => ⟨_, rfl, ?_⟩))
            show mm_W d mmX10_findOrder 124 [some (.ref q0), some (.ref q1), some (.ref q2), some (.ref q3), some (.int (Int32.ofInt v28)), some (.int (Int32.ofInt v27)), some (.int (Int32.ofInt v24)), some (.int (Int32.ofInt v15)), some (.int (Int32.ofInt v24))] [] (mz_mk g30 x) Q
            replace hE := zf_t1 hE hc31
            refine mz_iincR (v := v15) (lo2 := [some (.ref q0), some (.ref q1), some (.ref q2), some (.ref q3), some (.int (Int32.ofInt v28)), some (.int (Int32.ofInt v27)), some (.int (Int32.ofInt v24)), some (.int (Int32.ofInt (v15 + 1))), some (.int (Int32.ofInt v24))]) rfl rfl rfl (Nat.le_of_ble_eq_true rfl) rfl ?_
            refine mz_gt (tgt := 57) rfl rfl ?_
            exact ih18 ((8 - (v15 + 1)).toNat) (by omega) v28 v27 v24 (v15 + 1) (some (.int (Int32.ofInt v24))) g30 rfl (by omega) (by omega) (by omega) (by omega) (by omega) (by omega) (by omega) (by omega) (mz_nl_i _) hIg30 (fun k j hk => ((hfg30 k j (fun h => hk h)).trans (hfg17 k j (fun h => hk h)))) ⟨fj21, Nat.lt_of_lt_of_le (show ((8 - (v15 + 1)).toNat) < n19 from (by omega)) fn22, hE⟩
          · skip
            replace hE := zf_ip hE c83_25
            refine mm_g 1 (pc1 := 88) (lo1 := [some (.ref q0), some (.ref q1), some (.ref q2), some (.ref q3), some (.int (Int32.ofInt v12)), some (.int (Int32.ofInt v13)), some (.int (Int32.ofInt v14)), some (.int (Int32.ofInt v15)), some (.int (Int32.ofInt v24))]) (st1 := [.int (Int32.ofInt v15)]) (H1 := mz_mk g17 x) rfl ?_
            exact mm_rt rfl rfl (hQ _ _ hIg17 (fun k j hk => ((hfg17 k j (fun h => hk (Or.inr h))).trans (hfg1 k j (fun h => hk (Or.inl h))))) (by omega) (by omega) hE)
      exact L20 _ v3 0 (-1) 0 none g1 rfl (by omega) (by omega) (by decide) (by decide) (by decide) (by decide) (by decide) (by decide) mz_nl_n hIg1 (fun _ _ _ => rfl) ⟨3000000000, by omega, hE⟩
    · skip
      replace hE := zf_ip hE c18_11
      refine mm_g 4 (pc1 := 27) (lo1 := [some (.ref q0), some (.ref q1), some (.ref q2), some (.ref q3), some (.int (Int32.ofInt v3)), some (.int (Int32.ofInt v4)), none, none, none]) (st1 := [.int (Int32.ofInt v4), .int (Int32.ofInt 1), .ref q3, .int (Int32.ofInt v3)]) (H1 := mz_mk g1 x) rfl ?_
      refine mz_ishl rfl (fun v32 e_v32 hwv32 => ?_)
      have b_v32 : 1 ≤ v32 ∧ v32 ≤ 128 := by rw [e_v32]; exact mz_shl_b (lx := 1) (hx := 1) (k := 7) (by decide) (by decide) (by omega) (by omega) (by omega) (by omega)
      have l_v32 := b_v32.1
      have u_v32 := b_v32.2
      replace hE := zf_tr hE (zf_le e_v32.symm)
      refine mz_bip rfl bip_8 ?_
      refine mz_imul rfl ?_
      refine mm_g 1 (pc1 := 33) (lo1 := [some (.ref q0), some (.ref q1), some (.ref q2), some (.ref q3), some (.int (Int32.ofInt v3)), some (.int (Int32.ofInt v4)), none, none, none]) (st1 := [.int (Int32.ofInt v4), .int (Int32.ofInt (v32 * 8)), .ref q3, .int (Int32.ofInt v3)]) (H1 := mz_mk g1 x) rfl ?_
      refine mz_iadd rfl ?_
      refine mz_cs rfl mt_10_62 (by decide) rfl (Nat.le_of_ble_eq_true rfl) (by omega) (f_X11_at (by omega) hx hIg1 h_q3 (by omega) b_q3 (by omega) (by omega) (by omega) (by omega) (fun v33 l_v33 u_v33 hc34 => ⟨_, rfl, ?_⟩))
      show mm_W d mmX10_findOrder 37 [some (.ref q0), some (.ref q1), some (.ref q2), some (.ref q3), some (.int (Int32.ofInt v3)), some (.int (Int32.ofInt v4)), none, none, none] [.int (Int32.ofInt v33), .int (Int32.ofInt v3)] (mz_mk g1 x) Q
      replace hE := zf_t1 hE hc34
      refine mz_mx rfl mt_10_102 (Nat.le_of_ble_eq_true rfl) (by omega) (mz_rg l_v3 u_v3) (mz_rg l_v33 u_v33) (fun v35 e_v35 => ?_)
      have l_v35 : 0 ≤ v35 := by omega
      have u_v35 : v35 ≤ 2147483647 := by omega
      replace hE := zf_tr hE (zf_le e_v35.symm)
      refine mm_g 1 (pc1 := 42) (lo1 := [some (.ref q0), some (.ref q1), some (.ref q2), some (.ref q3), some (.int (Int32.ofInt v35)), some (.int (Int32.ofInt v4)), none, none, none]) (st1 := []) (H1 := mz_mk g1 x) rfl ?_
      refine mz_iincR (v := v4) (lo2 := [some (.ref q0), some (.ref q1), some (.ref q2), some (.ref q3), some (.int (Int32.ofInt v35)), some (.int (Int32.ofInt (v4 + 1))), none, none, none]) rfl rfl rfl (Nat.le_of_ble_eq_true rfl) rfl ?_
      refine mz_gt (tgt := 12) rfl rfl ?_
      exact ih6 ((8 - (v4 + 1)).toNat) (by omega) v35 (v4 + 1) rfl (by omega) (by omega) (by omega) (by omega) ⟨fj9, Nat.lt_of_lt_of_le (show ((8 - (v4 + 1)).toNat) < n7 from (by omega)) fn10, hE⟩
  exact L8 _ 0 0 rfl (by decide) (by decide) (by decide) (by decide) ⟨3000000000, by omega, hE⟩
theorem f_X10_inRow {d : Nat} (hd : 2 ≤ d) {x : mm_X} (hx : mk_x x) {g : mz_G} (hI : mz_inv g) {q0 : Nat} (h_q0 : kd_words q0) {a1 : Int} (l_a1 : (-2147483648) ≤ a1) (u_a1 : a1 ≤ 2147483647) {Q : (Option Value ⊕ Nat) → mm_H → Prop} (hQ : ∀ (r : Int), (-2147483648) ≤ r → r ≤ 2147483647 → zf_E (zF_X10_inRow q0 a1 g) (r) → Q (.inl (some (.int (Int32.ofInt r)))) (mz_mk g x)) : mm_C d 113 [.ref q0, .int (Int32.ofInt a1)] (mz_mk g x) Q := by
  have kn_q0 := kn_words h_q0
  refine ⟨mmX10_inRow, [some (.ref q0), some (.int (Int32.ofInt a1))], rfl, rfl, ?_⟩
  have hE : zf_E (zF_X10_inRow q0 a1 g) (zF_X10_inRow q0 a1 g) := zf_rf
  refine mm_g 1 (pc1 := 1) (lo1 := [some (.ref q0), some (.int (Int32.ofInt a1))]) (st1 := [.ref q0]) (H1 := mz_mk g x) rfl ?_
  refine mz_fgR (v := (q0 + 7)) rfl fd_10_38 (by decide) (kc_words h_q0 _) (kr_words_6 h_q0 _ _ _) ?_
  refine mm_g 1 (pc1 := 5) (lo1 := [some (.ref q0), some (.int (Int32.ofInt a1))]) (st1 := [.int (Int32.ofInt a1), .ref (q0 + 7)]) (H1 := mz_mk g x) rfl ?_
  refine mz_cs rfl mt_10_62 (by decide) rfl (Nat.le_of_ble_eq_true rfl) (by omega) (f_X11_at (by omega) hx hI (ka_words_6 h_q0 _) (by decide) (kba_words_6 h_q0) (by omega) (by omega) l_a1 u_a1 (fun v1 l_v1 u_v1 hc2 => ⟨_, rfl, ?_⟩))
  show mm_W d mmX10_inRow 8 [some (.ref q0), some (.int (Int32.ofInt a1))] [.int (Int32.ofInt v1)] (mz_mk g x) Q
  replace hE := zf_t1 hE hc2
  exact mm_rt rfl rfl (hQ _ (by omega) (by omega) hE)
theorem f_X0_length {d : Nat} (hd : 1 ≤ d) {x : mm_X} (hx : mk_x x) {g : mz_G} (hI : mz_inv g) {q0 : Nat} (h_q0 : kd_let q0) {Q : (Option Value ⊕ Nat) → mm_H → Prop} (hQ : ∀ (r : Int), 0 ≤ r → r ≤ 16 → zf_E (zF_X0_length q0 g) (r) → Q (.inl (some (.int (Int32.ofInt r)))) (mz_mk g x)) : mm_C d 3 [.ref q0] (mz_mk g x) Q := by
  have kn_q0 := kn_let h_q0
  refine ⟨mmX0_length, [some (.ref q0)], rfl, rfl, ?_⟩
  have hE : zf_E (zF_X0_length q0 g) (zF_X0_length q0 g) := zf_rf
  refine mm_g 1 (pc1 := 1) (lo1 := [some (.ref q0)]) (st1 := [.ref q0]) (H1 := mz_mk g x) rfl ?_
  refine mz_gI rfl fd_0_7 (by decide) (kc_let h_q0 _) hI (kb_let_1 h_q0) (fun v1 e_v1 l_v1 u_v1 => ?_)
  replace hE := zf_tr hE (zf_le e_v1)
  exact mm_rt rfl rfl (hQ _ (by omega) (by omega) hE)
theorem f_X10_overlapOf {d : Nat} (hd : 2 ≤ d) {x : mm_X} (hx : mk_x x) {g : mz_G} (hI : mz_inv g) {q0 : Nat} (h_q0 : kd_words q0) {a1 : Int} (l_a1 : (-2147483648) ≤ a1) (u_a1 : a1 ≤ 2147483647) {a2 : Int} (l_a2 : (-2147483648) ≤ a2) (u_a2 : a2 ≤ 2147483647) {Q : (Option Value ⊕ Nat) → mm_H → Prop} (hQ : ∀ (r : Int), (-2147483648) ≤ r → r ≤ 2147483647 → zf_E (zF_X10_overlapOf q0 a1 a2 g) (r) → Q (.inl (some (.int (Int32.ofInt r)))) (mz_mk g x)) : mm_C d 111 [.ref q0, .int (Int32.ofInt a1), .int (Int32.ofInt a2)] (mz_mk g x) Q := by
  have kn_q0 := kn_words h_q0
  refine ⟨mmX10_overlapOf, [some (.ref q0), some (.int (Int32.ofInt a1)), some (.int (Int32.ofInt a2))], rfl, rfl, ?_⟩
  have hE : zf_E (zF_X10_overlapOf q0 a1 a2 g) (zF_X10_overlapOf q0 a1 a2 g) := zf_rf
  refine mm_g 1 (pc1 := 1) (lo1 := [some (.ref q0), some (.int (Int32.ofInt a1)), some (.int (Int32.ofInt a2))]) (st1 := [.ref q0]) (H1 := mz_mk g x) rfl ?_
  refine mz_fgR (v := (q0 + 5)) rfl fd_10_32 (by decide) (kc_words h_q0 _) (kr_words_4 h_q0 _ _ _) ?_
  refine mm_g 1 (pc1 := 5) (lo1 := [some (.ref q0), some (.int (Int32.ofInt a1)), some (.int (Int32.ofInt a2))]) (st1 := [.int (Int32.ofInt a1), .ref (q0 + 5)]) (H1 := mz_mk g x) rfl ?_
  refine mz_bip rfl bip_8 ?_
  refine mz_imul_w rfl (fun v1 e_v1 hwv1 => ?_)
  have l_v1 := hwv1.1
  have u_v1 := hwv1.2
  replace hE := zf_tr hE (zf_le e_v1.symm)
  refine mm_g 1 (pc1 := 9) (lo1 := [some (.ref q0), some (.int (Int32.ofInt a1)), some (.int (Int32.ofInt a2))]) (st1 := [.int (Int32.ofInt a2), .int (Int32.ofInt v1), .ref (q0 + 5)]) (H1 := mz_mk g x) rfl ?_
  refine mz_iadd_w rfl (fun v2 e_v2 hwv2 => ?_)
  have l_v2 := hwv2.1
  have u_v2 := hwv2.2
  replace hE := zf_tr hE (zf_le e_v2.symm)
  refine mz_cs rfl mt_10_62 (by decide) rfl (Nat.le_of_ble_eq_true rfl) (by omega) (f_X11_at (by omega) hx hI (ka_words_4 h_q0 _) (by decide) (kba_words_4 h_q0) (by omega) (by omega) l_v2 u_v2 (fun v3 l_v3 u_v3 hc4 => ⟨_, rfl, ?_⟩))
  show mm_W d mmX10_overlapOf 13 [some (.ref q0), some (.int (Int32.ofInt a1)), some (.int (Int32.ofInt a2))] [.int (Int32.ofInt v3)] (mz_mk g x) Q
  replace hE := zf_t1 hE hc4
  exact mm_rt rfl rfl (hQ _ (by omega) (by omega) hE)
def fl_X10_settle_2 (x : mm_X) (q0 : Nat) (q1 : Nat) : Nat → Nat → Prop := fun k j => k = (q0 + 5) ∨ k = (q0 + 6)
def fl_X10_settle_134 (x : mm_X) (q0 : Nat) (q1 : Nat) : Nat → Nat → Prop := fun k j => k = q0
def fl_X10_settle_12 (x : mm_X) (q0 : Nat) (q1 : Nat) : Nat → Nat → Prop := fun k j => k = (q0 + 5) ∨ k = (q0 + 6)
def fw_X10_settle (x : mm_X) (q0 : Nat) (q1 : Nat) : Nat → Nat → Prop := fun k j => k = (q0 + 5) ∨ k = (q0 + 6) ∨ k = q1 ∨ k = (q0 + 7) ∨ k = (q0 + 8) ∨ k = q0
theorem f_X10_settle {d : Nat} (hd : 14 ≤ d) {x : mm_X} (hx : mk_x x) {g : mz_G} (hI : mz_inv g) {q0 : Nat} (h_q0 : kd_words q0) {q1 n_q1 : Nat} (h_q1 : mm_SH x.2.2.2.1 q1 = (100, n_q1)) (m_q1 : n_q1 ≤ 2048) (b_q1 : ∀ j, mz_bd q1 j = (-2147483648, 2147483647)) {Q : (Option Value ⊕ Nat) → mm_H → Prop} (hQ : ∀ (g1 : mz_G), mz_inv g1 → mz_fr (fw_X10_settle x q0 q1) g g1 → zf_E (zF_X10_settle q0 q1 n_q1 g) (g1) → Q (.inl none) (mz_mk g1 x)) : mm_C d 118 [.ref q0, .ref q1] (mz_mk g x) Q := by
  have kn_q0 := kn_words h_q0
  refine ⟨mmX10_settle, [some (.ref q0), some (.ref q1), none, none], rfl, rfl, ?_⟩
  have hE : zf_E (zF_X10_settle q0 q1 n_q1 g) (zF_X10_settle q0 q1 n_q1 g) := zf_rf
  refine mm_g 2 (pc1 := 2) (lo1 := [some (.ref q0), some (.ref q1), some (.int (Int32.ofInt 0)), none]) (st1 := []) (H1 := mz_mk g x) rfl ?_
  have L6 : ∀ n5 : Nat, ∀ (v1 : Int) (o2 : Option Value) (g3 : mz_G), (8 - v1).toNat = n5 → 0 ≤ v1 → v1 ≤ 8 → mz_nl o2 → mz_inv g3 → mz_fr (fl_X10_settle_2 x q0 q1) g g3 → (∃ fk : Nat, (8 - v1).toNat < fk ∧ zf_E (zF_X10_settle q0 q1 n_q1 g) (zL_X10_settle_2 q0 q1 n_q1 fk v1 g3)) → mm_W d mmX10_settle 2 [some (.ref q0), some (.ref q1), some (.int (Int32.ofInt v1)), o2] [] (mz_mk g3 x) Q := by
    intro n5
    induction n5 using Nat.strongRecOn with
    | ind n5 ih4 =>
    intro v1 o2 g3 hmn5 l_v1 u_v1 h_o2 hIg3 hfg3 hF
    obtain ⟨fk, fl, hE⟩ := hF
    obtain ⟨fj7, rfl⟩ : ∃ fj, fk = fj + 1 := ⟨fk - 1, by omega⟩
    have fn8 : n5 ≤ fj7 := by omega
    replace hE := zf_tr hE zL_X10_settle_2_s
    refine mm_g 2 (pc1 := 4) (lo1 := [some (.ref q0), some (.ref q1), some (.int (Int32.ofInt v1)), o2]) (st1 := [.ref q0, .int (Int32.ofInt v1)]) (H1 := mz_mk g3 x) rfl ?_
    refine mz_gI rfl fd_10_28 (by decide) (kc_words h_q0 _) hIg3 (kb_words_3 h_q0) (fun v9 e_v9 l_v9 u_v9 => ?_)
    replace hE := zf_tr hE (zf_le e_v9)
    refine mz_ic_ge (tgt := 96) rfl rfl (mz_rg l_v1 u_v1) (mz_rg l_v9 u_v9) (fun c7_9 => ?_) (fun c7_9 => ?_)
    · skip
      replace hE := zf_nl hE c7_9
      refine mm_g 2 (pc1 := 98) (lo1 := [some (.ref q0), some (.ref q1), some (.int (Int32.ofInt v1)), o2]) (st1 := [.ref q0, .ref q0]) (H1 := mz_mk g3 x) rfl ?_
      refine mz_fgR (v := (q0 + 5)) rfl fd_10_32 (by decide) (kc_words h_q0 _) (kr_words_4 h_q0 _ _ _) ?_
      refine mm_g 1 (pc1 := 102) (lo1 := [some (.ref q0), some (.ref q1), some (.int (Int32.ofInt v1)), o2]) (st1 := [.ref q0, .ref (q0 + 5), .ref q0]) (H1 := mz_mk g3 x) rfl ?_
      refine mz_fgR (v := (q0 + 7)) rfl fd_10_38 (by decide) (kc_words h_q0 _) (kr_words_6 h_q0 _ _ _) ?_
      refine mm_g 1 (pc1 := 106) (lo1 := [some (.ref q0), some (.ref q1), some (.int (Int32.ofInt v1)), o2]) (st1 := [.ref q1, .ref (q0 + 7), .ref (q0 + 5), .ref q0]) (H1 := mz_mk g3 x) rfl ?_
      refine mz_cv rfl mt_10_84 (by decide) (kc_words h_q0 _) rfl (Nat.le_of_ble_eq_true rfl) (by omega) (f_X10_findOrder (by omega) hx hIg3 h_q0 (ka_words_4 h_q0 _) (by decide) (kba_words_4 h_q0) (ka_words_6 h_q0 _) (by decide) (kba_words_6 h_q0) h_q1 (by omega) b_q1 (fun v10 g11 hIg11 hfg11 l_v10 u_v10 hc12 => ⟨_, rfl, ?_⟩))
      show mm_W d mmX10_settle 109 [some (.ref q0), some (.ref q1), some (.int (Int32.ofInt v1)), o2] [.int (Int32.ofInt v10)] (mz_mk g11 x) Q
      replace hE := zf_t2 hE hc12
      refine mm_g 4 (pc1 := 113) (lo1 := [some (.ref q0), some (.ref q1), some (.int (Int32.ofInt v1)), o2]) (st1 := [.ref q0, .ref q0, .ref q0]) (H1 := mz_mk g11 x) rfl ?_
      refine mz_fgR (v := (q0 + 6)) rfl fd_10_35 (by decide) (kc_words h_q0 _) (kr_words_5 h_q0 _ _ _) ?_
      refine mm_g 1 (pc1 := 117) (lo1 := [some (.ref q0), some (.ref q1), some (.int (Int32.ofInt v1)), o2]) (st1 := [.ref q0, .ref (q0 + 6), .ref q0, .ref q0]) (H1 := mz_mk g11 x) rfl ?_
      refine mz_fgR (v := (q0 + 8)) rfl fd_10_41 (by decide) (kc_words h_q0 _) (kr_words_7 h_q0 _ _ _) ?_
      refine mm_g 1 (pc1 := 121) (lo1 := [some (.ref q0), some (.ref q1), some (.int (Int32.ofInt v1)), o2]) (st1 := [.ref q1, .ref (q0 + 8), .ref (q0 + 6), .ref q0, .ref q0]) (H1 := mz_mk g11 x) rfl ?_
      refine mz_cv rfl mt_10_84 (by decide) (kc_words h_q0 _) rfl (Nat.le_of_ble_eq_true rfl) (by omega) (f_X10_findOrder (by omega) hx hIg11 h_q0 (ka_words_5 h_q0 _) (by decide) (kba_words_5 h_q0) (ka_words_7 h_q0 _) (by decide) (kba_words_7 h_q0) h_q1 (by omega) b_q1 (fun v13 g14 hIg14 hfg14 l_v13 u_v13 hc15 => ⟨_, rfl, ?_⟩))
      show mm_W d mmX10_settle 124 [some (.ref q0), some (.ref q1), some (.int (Int32.ofInt v1)), o2] [.int (Int32.ofInt v13), .ref q0] (mz_mk g14 x) Q
      replace hE := zf_t2 hE hc15
      refine mz_pI rfl fd_10_47 (kc_words h_q0 _) hIg14 (kb_words_9 h_q0) (by omega) (by omega) (fun g16 hIg16 hug16 => ?_)
      replace hE := zf_tr hE (zf_lg hug16)
      refine mm_g 2 (pc1 := 129) (lo1 := [some (.ref q0), some (.ref q1), some (.int (Int32.ofInt v1)), o2]) (st1 := [.int (Int32.ofInt 0), .ref q0]) (H1 := mz_mk g16 x) rfl ?_
      refine mz_pI rfl fd_10_44 (kc_words h_q0 _) hIg16 (kb_words_8 h_q0) (by omega) (by omega) (fun g17 hIg17 hug17 => ?_)
      replace hE := zf_tr hE (zf_lg hug17)
      refine mm_g 2 (pc1 := 134) (lo1 := [some (.ref q0), some (.ref q1), some (.int (Int32.ofInt 0)), o2]) (st1 := []) (H1 := mz_mk g17 x) rfl ?_
      have L22 : ∀ n21 : Nat, ∀ (v18 : Int) (g19 : mz_G), (8 - v18).toNat = n21 → 0 ≤ v18 → v18 ≤ 8 → mz_inv g19 → mz_fr (fl_X10_settle_134 x q0 q1) g17 g19 → (∃ fk : Nat, (8 - v18).toNat < fk ∧ zf_E (zF_X10_settle q0 q1 n_q1 g) (zL_X10_settle_134 q0 q1 n_q1 fk v18 g19)) → mm_W d mmX10_settle 134 [some (.ref q0), some (.ref q1), some (.int (Int32.ofInt v18)), o2] [] (mz_mk g19 x) Q := by
        intro n21
        induction n21 using Nat.strongRecOn with
        | ind n21 ih20 =>
        intro v18 g19 hmn21 l_v18 u_v18 hIg19 hfg19 hF
        obtain ⟨fk, fl, hE⟩ := hF
        obtain ⟨fj23, rfl⟩ : ∃ fj, fk = fj + 1 := ⟨fk - 1, by omega⟩
        have fn24 : n21 ≤ fj23 := by omega
        replace hE := zf_tr hE zL_X10_settle_134_s
        refine mm_g 2 (pc1 := 136) (lo1 := [some (.ref q0), some (.ref q1), some (.int (Int32.ofInt v18)), o2]) (st1 := [.ref q0, .int (Int32.ofInt v18)]) (H1 := mz_mk g19 x) rfl ?_
        refine mz_gI rfl fd_10_28 (by decide) (kc_words h_q0 _) hIg19 (kb_words_3 h_q0) (fun v25 e_v25 l_v25 u_v25 => ?_)
        replace hE := zf_tr hE (zf_le e_v25)
        refine mz_ic_ge (tgt := 194) rfl rfl (mz_rg l_v18 u_v18) (mz_rg l_v25 u_v25) (fun c139_25 => ?_) (fun c139_25 => ?_)
        · skip
          replace hE := zf_nl hE c139_25
          exact mm_rt rfl rfl (hQ _ hIg19 (fun k j hk => ((hfg19 k j (fun h => hk (Or.inr (Or.inr (Or.inr (Or.inr (Or.inr h))))))).trans ((hug17.2 k j (fun h => hk (Or.inr (Or.inr (Or.inr (Or.inr (Or.inr h.1))))))).trans ((hug16.2 k j (fun h => hk (Or.inr (Or.inr (Or.inr (Or.inr (Or.inr h.1))))))).trans ((hfg14 k j (fun h => hk (Or.elim h (fun h => (Or.inr (Or.inr (Or.inl h)))) (fun h => (Or.inr (Or.inr (Or.inr (Or.inr (Or.inl h))))))))).trans ((hfg11 k j (fun h => hk (Or.elim h (fun h => (Or.inr (Or.inr (Or.inl h)))) (fun h => (Or.inr (Or.inr (Or.inr (Or.inl h)))))))).trans (hfg3 k j (fun h => hk (Or.elim h (fun h => (Or.inl h)) (fun h => (Or.inr (Or.inl h)))))))))))) hE)
        · skip
          replace hE := zf_ip hE c139_25
          refine mm_g 2 (pc1 := 144) (lo1 := [some (.ref q0), some (.ref q1), some (.int (Int32.ofInt v18)), o2]) (st1 := [.ref q0, .ref q0]) (H1 := mz_mk g19 x) rfl ?_
          refine mz_gI rfl fd_10_44 (by decide) (kc_words h_q0 _) hIg19 (kb_words_8 h_q0) (fun v26 e_v26 l_v26 u_v26 => ?_)
          replace hE := zf_tr hE (zf_le e_v26)
          refine mm_g 3 (pc1 := 150) (lo1 := [some (.ref q0), some (.ref q1), some (.int (Int32.ofInt v18)), o2]) (st1 := [.int (Int32.ofInt v18), .ref q0, .ref q0, .int (Int32.ofInt v26), .ref q0]) (H1 := mz_mk g19 x) rfl ?_
          refine mz_cv rfl mt_10_88 (by decide) (kc_words h_q0 _) rfl (Nat.le_of_ble_eq_true rfl) (by omega) (f_X10_inRow (by omega) hx hIg19 h_q0 (by omega) (by omega) (fun v27 l_v27 u_v27 hc28 => ⟨_, rfl, ?_⟩))
          show mm_W d mmX10_settle 153 [some (.ref q0), some (.ref q1), some (.int (Int32.ofInt v18)), o2] [.int (Int32.ofInt v27), .ref q0, .int (Int32.ofInt v26), .ref q0] (mz_mk g19 x) Q
          replace hE := zf_t1 hE hc28
          refine mz_cv rfl mt_10_50 (by decide) (kc_words h_q0 _) rfl (Nat.le_of_ble_eq_true rfl) (by omega) (f_X10_of (by omega) hx hIg19 h_q0 l_v27 u_v27 (fun u29 k_u29 hp30 hc31 => ⟨_, rfl, ?_⟩))
          show mm_W d mmX10_settle 156 [some (.ref q0), some (.ref q1), some (.int (Int32.ofInt v18)), o2] [.ref u29, .int (Int32.ofInt v26), .ref q0] (mz_mk g19 x) Q
          replace hE := zf_t1 hE hc31
          refine mz_cv rfl mt_10_91 (by decide) (kc_let k_u29 _) rfl (Nat.le_of_ble_eq_true rfl) (by omega) (f_X0_length (by omega) hx hIg19 k_u29 (fun v32 l_v32 u_v32 hc33 => ⟨_, rfl, ?_⟩))
          show mm_W d mmX10_settle 159 [some (.ref q0), some (.ref q1), some (.int (Int32.ofInt v18)), o2] [.int (Int32.ofInt v32), .int (Int32.ofInt v26), .ref q0] (mz_mk g19 x) Q
          replace hE := zf_t1 hE hc33
          refine mm_g 1 (pc1 := 160) (lo1 := [some (.ref q0), some (.ref q1), some (.int (Int32.ofInt v18)), o2]) (st1 := [.int (Int32.ofInt v18), .int (Int32.ofInt v32), .int (Int32.ofInt v26), .ref q0]) (H1 := mz_mk g19 x) rfl ?_
          refine mz_if_ne (tgt := 167) rfl rfl (mz_rg l_v18 u_v18) (fun c160_33 => ?_) (fun c160_33 => ?_)
          · skip
            replace hE := zf_in hE c160_33
            refine mm_g 4 (pc1 := 171) (lo1 := [some (.ref q0), some (.ref q1), some (.int (Int32.ofInt v18)), o2]) (st1 := [.int (Int32.ofInt 1), .int (Int32.ofInt v18), .ref q0, .ref q0, .int (Int32.ofInt v32), .int (Int32.ofInt v26), .ref q0]) (H1 := mz_mk g19 x) rfl ?_
            refine mz_isub rfl ?_
            refine mz_cv rfl mt_10_88 (by decide) (kc_words h_q0 _) rfl (Nat.le_of_ble_eq_true rfl) (by omega) (f_X10_inRow (by omega) hx hIg19 h_q0 (by omega) (by omega) (fun v34 l_v34 u_v34 hc35 => ⟨_, rfl, ?_⟩))
            show mm_W d mmX10_settle 175 [some (.ref q0), some (.ref q1), some (.int (Int32.ofInt v18)), o2] [.int (Int32.ofInt v34), .ref q0, .int (Int32.ofInt v32), .int (Int32.ofInt v26), .ref q0] (mz_mk g19 x) Q
            replace hE := zf_t1 hE hc35
            refine mm_g 2 (pc1 := 177) (lo1 := [some (.ref q0), some (.ref q1), some (.int (Int32.ofInt v18)), o2]) (st1 := [.int (Int32.ofInt v18), .ref q0, .int (Int32.ofInt v34), .ref q0, .int (Int32.ofInt v32), .int (Int32.ofInt v26), .ref q0]) (H1 := mz_mk g19 x) rfl ?_
            refine mz_cv rfl mt_10_88 (by decide) (kc_words h_q0 _) rfl (Nat.le_of_ble_eq_true rfl) (by omega) (f_X10_inRow (by omega) hx hIg19 h_q0 (by omega) (by omega) (fun v36 l_v36 u_v36 hc37 => ⟨_, rfl, ?_⟩))
            show mm_W d mmX10_settle 180 [some (.ref q0), some (.ref q1), some (.int (Int32.ofInt v18)), o2] [.int (Int32.ofInt v36), .int (Int32.ofInt v34), .ref q0, .int (Int32.ofInt v32), .int (Int32.ofInt v26), .ref q0] (mz_mk g19 x) Q
            replace hE := zf_t1 hE hc37
            refine mz_cv rfl mt_10_94 (by decide) (kc_words h_q0 _) rfl (Nat.le_of_ble_eq_true rfl) (by omega) (f_X10_overlapOf (by omega) hx hIg19 h_q0 l_v34 u_v34 l_v36 u_v36 (fun v38 l_v38 u_v38 hc39 => ⟨_, rfl, ?_⟩))
            show mm_W d mmX10_settle 183 [some (.ref q0), some (.ref q1), some (.int (Int32.ofInt v18)), o2] [.int (Int32.ofInt v38), .int (Int32.ofInt v32), .int (Int32.ofInt v26), .ref q0] (mz_mk g19 x) Q
            replace hE := zf_t1 hE hc39
            refine mz_isub_w rfl (fun v40 e_v40 hwv40 => ?_)
            have l_v40 := hwv40.1
            have u_v40 := hwv40.2
            replace hE := zf_tr hE (zf_le e_v40.symm)
            refine mz_iadd_w rfl (fun v41 e_v41 hwv41 => ?_)
            have l_v41 := hwv41.1
            have u_v41 := hwv41.2
            replace hE := zf_tr hE (zf_le e_v41.symm)
            refine mz_pI rfl fd_10_44 (kc_words h_q0 _) hIg19 (kb_words_8 h_q0) (by omega) (by omega) (fun g42 hIg42 hug42 => ?_)
            replace hE := zf_tr hE (zf_lg hug42)
            refine mz_iincR (v := v18) (lo2 := [some (.ref q0), some (.ref q1), some (.int (Int32.ofInt (v18 + 1))), o2]) rfl rfl rfl (Nat.le_of_ble_eq_true rfl) rfl ?_
            refine mz_gt (tgt := 134) rfl rfl ?_
            exact ih20 ((8 - (v18 + 1)).toNat) (by omega) (v18 + 1) g42 rfl (by omega) (by omega) hIg42 (fun k j hk => ((hug42.2 k j (fun h => hk h.1)).trans (hfg19 k j (fun h => hk h)))) ⟨fj23, Nat.lt_of_lt_of_le (show ((8 - (v18 + 1)).toNat) < n21 from (by omega)) fn24, hE⟩
          · skip
            replace hE := zf_ip hE c160_33
            refine mm_g 1 (pc1 := 164) (lo1 := [some (.ref q0), some (.ref q1), some (.int (Int32.ofInt v18)), o2]) (st1 := [.int (Int32.ofInt 0), .int (Int32.ofInt v32), .int (Int32.ofInt v26), .ref q0]) (H1 := mz_mk g19 x) rfl ?_
            refine mz_gt (tgt := 183) rfl rfl ?_
            refine mz_isub rfl ?_
            replace hE := zf_tr hE (zf_lw ⟨by omega, by omega⟩)
            refine mz_iadd_w rfl (fun v43 e_v43 hwv43 => ?_)
            have l_v43 := hwv43.1
            have u_v43 := hwv43.2
            replace hE := zf_tr hE (zf_le e_v43.symm)
            refine mz_pI rfl fd_10_44 (kc_words h_q0 _) hIg19 (kb_words_8 h_q0) (by omega) (by omega) (fun g44 hIg44 hug44 => ?_)
            replace hE := zf_tr hE (zf_lg hug44)
            refine mz_iincR (v := v18) (lo2 := [some (.ref q0), some (.ref q1), some (.int (Int32.ofInt (v18 + 1))), o2]) rfl rfl rfl (Nat.le_of_ble_eq_true rfl) rfl ?_
            refine mz_gt (tgt := 134) rfl rfl ?_
            exact ih20 ((8 - (v18 + 1)).toNat) (by omega) (v18 + 1) g44 rfl (by omega) (by omega) hIg44 (fun k j hk => ((hug44.2 k j (fun h => hk h.1)).trans (hfg19 k j (fun h => hk h)))) ⟨fj23, Nat.lt_of_lt_of_le (show ((8 - (v18 + 1)).toNat) < n21 from (by omega)) fn24, hE⟩
      exact L22 _ 0 g17 rfl (by decide) (by decide) hIg17 (fun _ _ _ => rfl) ⟨3000000000, by omega, hE⟩
    · skip
      replace hE := zf_ip hE c7_9
      refine mm_g 2 (pc1 := 12) (lo1 := [some (.ref q0), some (.ref q1), some (.int (Int32.ofInt v1)), some (.int (Int32.ofInt 0))]) (st1 := []) (H1 := mz_mk g3 x) rfl ?_
      have hO49 := hE
      have L50 : ∀ n48 : Nat, ∀ (v45 : Int) (g46 : mz_G), (8 - v45).toNat = n48 → 0 ≤ v45 → v45 ≤ 8 → mz_inv g46 → mz_fr (fl_X10_settle_12 x q0 q1) g3 g46 → (∃ fk : Nat, (8 - v45).toNat < fk ∧ zf_E (zL_X10_settle_12 q0 q1 n_q1 3000000000 v1 0 g3) (zL_X10_settle_12 q0 q1 n_q1 fk v1 v45 g46)) → mm_W d mmX10_settle 12 [some (.ref q0), some (.ref q1), some (.int (Int32.ofInt v1)), some (.int (Int32.ofInt v45))] [] (mz_mk g46 x) Q := by
        intro n48
        induction n48 using Nat.strongRecOn with
        | ind n48 ih47 =>
        intro v45 g46 hmn48 l_v45 u_v45 hIg46 hfg46 hF
        obtain ⟨fk, fl, hE⟩ := hF
        obtain ⟨fj51, rfl⟩ : ∃ fj, fk = fj + 1 := ⟨fk - 1, by omega⟩
        have fn52 : n48 ≤ fj51 := by omega
        replace hE := zf_tr hE zL_X10_settle_12_s
        refine mm_g 2 (pc1 := 14) (lo1 := [some (.ref q0), some (.ref q1), some (.int (Int32.ofInt v1)), some (.int (Int32.ofInt v45))]) (st1 := [.ref q0, .int (Int32.ofInt v45)]) (H1 := mz_mk g46 x) rfl ?_
        refine mz_fgI (v := v9) rfl fd_10_28 (by decide) (kc_words h_q0 _) (show g46 q0 3 = v9 from ((hfg46 q0 3 (fun h => (Or.elim h (fun h => (by have h9 : q0 = (q0 + 5) := h; omega)) (fun h => (by have h9 : q0 = (q0 + 6) := h; omega))))).trans e_v9)) ?_
        replace hE := zf_tr hE (zf_le (show g46 q0 3 = v9 from ((hfg46 q0 3 (fun h => (Or.elim h (fun h => (by have h9 : q0 = (q0 + 5) := h; omega)) (fun h => (by have h9 : q0 = (q0 + 6) := h; omega))))).trans e_v9)))
        refine mz_ic_ge (tgt := 90) rfl rfl (mz_rg l_v45 u_v45) (mz_rg l_v9 u_v9) (fun c17_52 => ?_) (fun c17_52 => ?_)
        · skip
          replace hE := zf_nl hE c17_52
          replace hE := zf_t1 hO49 hE
          refine mz_iincR (v := v1) (lo2 := [some (.ref q0), some (.ref q1), some (.int (Int32.ofInt (v1 + 1))), some (.int (Int32.ofInt v45))]) rfl rfl rfl (Nat.le_of_ble_eq_true rfl) rfl ?_
          refine mz_gt (tgt := 2) rfl rfl ?_
          exact ih4 ((8 - (v1 + 1)).toNat) (by omega) (v1 + 1) (some (.int (Int32.ofInt v45))) g46 rfl (by omega) (by omega) (mz_nl_i _) hIg46 (fun k j hk => ((hfg46 k j (fun h => hk (Or.elim h (fun h => (Or.inl h)) (fun h => (Or.inr h))))).trans (hfg3 k j (fun h => hk (Or.elim h (fun h => (Or.inl h)) (fun h => (Or.inr h))))))) ⟨fj7, Nat.lt_of_lt_of_le (show ((8 - (v1 + 1)).toNat) < n5 from (by omega)) fn8, hE⟩
        · skip
          replace hE := zf_ip hE c17_52
          refine mm_g 1 (pc1 := 21) (lo1 := [some (.ref q0), some (.ref q1), some (.int (Int32.ofInt v1)), some (.int (Int32.ofInt v45))]) (st1 := [.ref q0]) (H1 := mz_mk g46 x) rfl ?_
          refine mz_fgR (v := (q0 + 5)) rfl fd_10_32 (by decide) (kc_words h_q0 _) (kr_words_4 h_q0 _ _ _) ?_
          refine mm_g 1 (pc1 := 25) (lo1 := [some (.ref q0), some (.ref q1), some (.int (Int32.ofInt v1)), some (.int (Int32.ofInt v45))]) (st1 := [.int (Int32.ofInt v1), .ref (q0 + 5)]) (H1 := mz_mk g46 x) rfl ?_
          refine mz_bip rfl bip_8 ?_
          refine mz_imul rfl ?_
          refine mm_g 1 (pc1 := 29) (lo1 := [some (.ref q0), some (.ref q1), some (.int (Int32.ofInt v1)), some (.int (Int32.ofInt v45))]) (st1 := [.int (Int32.ofInt v45), .int (Int32.ofInt (v1 * 8)), .ref (q0 + 5)]) (H1 := mz_mk g46 x) rfl ?_
          refine mz_iadd rfl ?_
          refine mm_g 2 (pc1 := 32) (lo1 := [some (.ref q0), some (.ref q1), some (.int (Int32.ofInt v1)), some (.int (Int32.ofInt v45))]) (st1 := [.int (Int32.ofInt v1), .ref q0, .int (Int32.ofInt ((v1 * 8) + v45)), .ref (q0 + 5)]) (H1 := mz_mk g46 x) rfl ?_
          refine mz_cv rfl mt_10_50 (by decide) (kc_words h_q0 _) rfl (Nat.le_of_ble_eq_true rfl) (by omega) (f_X10_of (by omega) hx hIg46 h_q0 (by omega) (by omega) (fun u53 k_u53 hp54 hc55 => ⟨_, rfl, ?_⟩))
          show mm_W d mmX10_settle 35 [some (.ref q0), some (.ref q1), some (.int (Int32.ofInt v1)), some (.int (Int32.ofInt v45))] [.ref u53, .int (Int32.ofInt ((v1 * 8) + v45)), .ref (q0 + 5)] (mz_mk g46 x) Q
          replace hE := zf_t1 hE hc55
          refine mm_g 2 (pc1 := 37) (lo1 := [some (.ref q0), some (.ref q1), some (.int (Int32.ofInt v1)), some (.int (Int32.ofInt v45))]) (st1 := [.int (Int32.ofInt v45), .ref q0, .ref u53, .int (Int32.ofInt ((v1 * 8) + v45)), .ref (q0 + 5)]) (H1 := mz_mk g46 x) rfl ?_
          refine mz_cv rfl mt_10_50 (by decide) (kc_words h_q0 _) rfl (Nat.le_of_ble_eq_true rfl) (by omega) (f_X10_of (by omega) hx hIg46 h_q0 (by omega) (by omega) (fun u56 k_u56 hp57 hc58 => ⟨_, rfl, ?_⟩))
          show mm_W d mmX10_settle 40 [some (.ref q0), some (.ref q1), some (.int (Int32.ofInt v1)), some (.int (Int32.ofInt v45))] [.ref u56, .ref u53, .int (Int32.ofInt ((v1 * 8) + v45)), .ref (q0 + 5)] (mz_mk g46 x) Q
          replace hE := zf_t1 hE hc58
          refine mz_cv rfl mt_10_72 (by decide) (kc_let k_u53 _) rfl (Nat.le_of_ble_eq_true rfl) (by omega) (f_X0_overlapWith (by omega) hx hIg46 k_u53 k_u56 (fun v59 l_v59 u_v59 hc60 => ⟨_, rfl, ?_⟩))
          show mm_W d mmX10_settle 43 [some (.ref q0), some (.ref q1), some (.int (Int32.ofInt v1)), some (.int (Int32.ofInt v45))] [.int (Int32.ofInt v59), .int (Int32.ofInt ((v1 * 8) + v45)), .ref (q0 + 5)] (mz_mk g46 x) Q
          replace hE := zf_t1 hE hc60
          refine mz_cs rfl mt_10_58 (by decide) rfl (Nat.le_of_ble_eq_true rfl) (by omega) (f_X11_put (by omega) hx hIg46 (ka_words_4 h_q0 _) (by decide) (kba_words_4 h_q0) (by omega) (by omega) (by omega) (by omega) (by omega) (by omega) (by omega) (by omega) (fun g61 hIg61 hfg61 hc62 => ⟨_, rfl, ?_⟩))
          show mm_W d mmX10_settle 46 [some (.ref q0), some (.ref q1), some (.int (Int32.ofInt v1)), some (.int (Int32.ofInt v45))] [] (mz_mk g61 x) Q
          replace hE := zf_t1 hE hc62
          refine mm_g 1 (pc1 := 47) (lo1 := [some (.ref q0), some (.ref q1), some (.int (Int32.ofInt v1)), some (.int (Int32.ofInt v45))]) (st1 := [.ref q0]) (H1 := mz_mk g61 x) rfl ?_
          refine mz_fgR (v := (q0 + 6)) rfl fd_10_35 (by decide) (kc_words h_q0 _) (kr_words_5 h_q0 _ _ _) ?_
          refine mm_g 1 (pc1 := 51) (lo1 := [some (.ref q0), some (.ref q1), some (.int (Int32.ofInt v1)), some (.int (Int32.ofInt v45))]) (st1 := [.int (Int32.ofInt v1), .ref (q0 + 6)]) (H1 := mz_mk g61 x) rfl ?_
          refine mz_bip rfl bip_8 ?_
          refine mz_imul rfl ?_
          refine mm_g 1 (pc1 := 55) (lo1 := [some (.ref q0), some (.ref q1), some (.int (Int32.ofInt v1)), some (.int (Int32.ofInt v45))]) (st1 := [.int (Int32.ofInt v45), .int (Int32.ofInt (v1 * 8)), .ref (q0 + 6)]) (H1 := mz_mk g61 x) rfl ?_
          refine mz_iadd rfl ?_
          refine mm_g 2 (pc1 := 58) (lo1 := [some (.ref q0), some (.ref q1), some (.int (Int32.ofInt v1)), some (.int (Int32.ofInt v45))]) (st1 := [.int (Int32.ofInt v1), .ref q0, .int (Int32.ofInt ((v1 * 8) + v45)), .ref (q0 + 6)]) (H1 := mz_mk g61 x) rfl ?_
          refine mz_cv rfl mt_10_50 (by decide) (kc_words h_q0 _) rfl (Nat.le_of_ble_eq_true rfl) (by omega) (f_X10_of (by omega) hx hIg61 h_q0 (by omega) (by omega) (fun u63 k_u63 hp64 hc65 => ⟨_, rfl, ?_⟩))
          show mm_W d mmX10_settle 61 [some (.ref q0), some (.ref q1), some (.int (Int32.ofInt v1)), some (.int (Int32.ofInt v45))] [.ref u63, .int (Int32.ofInt ((v1 * 8) + v45)), .ref (q0 + 6)] (mz_mk g61 x) Q
          replace hE := zf_t1 hE hc65
          refine mz_cv rfl mt_10_76 (by decide) (kc_let k_u63 _) rfl (Nat.le_of_ble_eq_true rfl) (by omega) (f_X0_last (by omega) hx hIg61 k_u63 (fun v66 l_v66 u_v66 hc67 => ⟨_, rfl, ?_⟩))
          show mm_W d mmX10_settle 64 [some (.ref q0), some (.ref q1), some (.int (Int32.ofInt v1)), some (.int (Int32.ofInt v45))] [.int (Int32.ofInt v66), .int (Int32.ofInt ((v1 * 8) + v45)), .ref (q0 + 6)] (mz_mk g61 x) Q
          replace hE := zf_t1 hE hc67
          refine mm_g 2 (pc1 := 66) (lo1 := [some (.ref q0), some (.ref q1), some (.int (Int32.ofInt v1)), some (.int (Int32.ofInt v45))]) (st1 := [.int (Int32.ofInt v45), .ref q0, .int (Int32.ofInt v66), .int (Int32.ofInt ((v1 * 8) + v45)), .ref (q0 + 6)]) (H1 := mz_mk g61 x) rfl ?_
          refine mz_cv rfl mt_10_50 (by decide) (kc_words h_q0 _) rfl (Nat.le_of_ble_eq_true rfl) (by omega) (f_X10_of (by omega) hx hIg61 h_q0 (by omega) (by omega) (fun u68 k_u68 hp69 hc70 => ⟨_, rfl, ?_⟩))
          show mm_W d mmX10_settle 69 [some (.ref q0), some (.ref q1), some (.int (Int32.ofInt v1)), some (.int (Int32.ofInt v45))] [.ref u68, .int (Int32.ofInt v66), .int (Int32.ofInt ((v1 * 8) + v45)), .ref (q0 + 6)] (mz_mk g61 x) Q
          replace hE := zf_t1 hE hc70
          refine mm_g 1 (pc1 := 70) (lo1 := [some (.ref q0), some (.ref q1), some (.int (Int32.ofInt v1)), some (.int (Int32.ofInt v45))]) (st1 := [.int (Int32.ofInt 0), .ref u68, .int (Int32.ofInt v66), .int (Int32.ofInt ((v1 * 8) + v45)), .ref (q0 + 6)]) (H1 := mz_mk g61 x) rfl ?_
          refine mz_cv rfl mt_10_80 (by decide) (kc_let k_u68 _) rfl (Nat.le_of_ble_eq_true rfl) (by omega) (f_X0_signAt (by omega) hx hIg61 k_u68 (by decide) (by decide) (fun v71 l_v71 u_v71 hc72 => ⟨_, rfl, ?_⟩))
          show mm_W d mmX10_settle 73 [some (.ref q0), some (.ref q1), some (.int (Int32.ofInt v1)), some (.int (Int32.ofInt v45))] [.int (Int32.ofInt v71), .int (Int32.ofInt v66), .int (Int32.ofInt ((v1 * 8) + v45)), .ref (q0 + 6)] (mz_mk g61 x) Q
          replace hE := zf_t1 hE hc72
          refine mz_ic_ne (tgt := 80) rfl rfl (mz_rg l_v66 u_v66) (mz_rg l_v71 u_v71) (fun c73_72 => ?_) (fun c73_72 => ?_)
          · skip
            replace hE := zf_in hE c73_72
            refine mm_g 1 (pc1 := 81) (lo1 := [some (.ref q0), some (.ref q1), some (.int (Int32.ofInt v1)), some (.int (Int32.ofInt v45))]) (st1 := [.int (Int32.ofInt (-1)), .int (Int32.ofInt ((v1 * 8) + v45)), .ref (q0 + 6)]) (H1 := mz_mk g61 x) rfl ?_
            refine mz_cs rfl mt_10_58 (by decide) rfl (Nat.le_of_ble_eq_true rfl) (by omega) (f_X11_put (by omega) hx hIg61 (ka_words_5 h_q0 _) (by decide) (kba_words_5 h_q0) (by omega) (by omega) (by omega) (by omega) (by decide) (by decide) (by omega) (by omega) (fun g73 hIg73 hfg73 hc74 => ⟨_, rfl, ?_⟩))
            show mm_W d mmX10_settle 84 [some (.ref q0), some (.ref q1), some (.int (Int32.ofInt v1)), some (.int (Int32.ofInt v45))] [] (mz_mk g73 x) Q
            replace hE := zf_t1 hE hc74
            refine mz_iincR (v := v45) (lo2 := [some (.ref q0), some (.ref q1), some (.int (Int32.ofInt v1)), some (.int (Int32.ofInt (v45 + 1)))]) rfl rfl rfl (Nat.le_of_ble_eq_true rfl) rfl ?_
            refine mz_gt (tgt := 12) rfl rfl ?_
            exact ih47 ((8 - (v45 + 1)).toNat) (by omega) (v45 + 1) g73 rfl (by omega) (by omega) hIg73 (fun k j hk => ((hfg73 k j (fun h => hk (Or.inr h))).trans ((hfg61 k j (fun h => hk (Or.inl h))).trans (hfg46 k j (fun h => hk (Or.elim h (fun h => (Or.inl h)) (fun h => (Or.inr h)))))))) ⟨fj51, Nat.lt_of_lt_of_le (show ((8 - (v45 + 1)).toNat) < n48 from (by omega)) fn52, hE⟩
          · skip
            replace hE := zf_ip hE c73_72
            refine mm_g 1 (pc1 := 77) (lo1 := [some (.ref q0), some (.ref q1), some (.int (Int32.ofInt v1)), some (.int (Int32.ofInt v45))]) (st1 := [.int (Int32.ofInt 1), .int (Int32.ofInt ((v1 * 8) + v45)), .ref (q0 + 6)]) (H1 := mz_mk g61 x) rfl ?_
            refine mz_gt (tgt := 81) rfl rfl ?_
            refine mz_cs rfl mt_10_58 (by decide) rfl (Nat.le_of_ble_eq_true rfl) (by omega) (f_X11_put (by omega) hx hIg61 (ka_words_5 h_q0 _) (by decide) (kba_words_5 h_q0) (by omega) (by omega) (by omega) (by omega) (by decide) (by decide) (by omega) (by omega) (fun g75 hIg75 hfg75 hc76 => ⟨_, rfl, ?_⟩))
            show mm_W d mmX10_settle 84 [some (.ref q0), some (.ref q1), some (.int (Int32.ofInt v1)), some (.int (Int32.ofInt v45))] [] (mz_mk g75 x) Q
            replace hE := zf_t1 hE hc76
            refine mz_iincR (v := v45) (lo2 := [some (.ref q0), some (.ref q1), some (.int (Int32.ofInt v1)), some (.int (Int32.ofInt (v45 + 1)))]) rfl rfl rfl (Nat.le_of_ble_eq_true rfl) rfl ?_
            refine mz_gt (tgt := 12) rfl rfl ?_
            exact ih47 ((8 - (v45 + 1)).toNat) (by omega) (v45 + 1) g75 rfl (by omega) (by omega) hIg75 (fun k j hk => ((hfg75 k j (fun h => hk (Or.inr h))).trans ((hfg61 k j (fun h => hk (Or.inl h))).trans (hfg46 k j (fun h => hk (Or.elim h (fun h => (Or.inl h)) (fun h => (Or.inr h)))))))) ⟨fj51, Nat.lt_of_lt_of_le (show ((8 - (v45 + 1)).toNat) < n48 from (by omega)) fn52, hE⟩
      exact L50 _ 0 g3 rfl (by decide) (by decide) hIg3 (fun _ _ _ => rfl) ⟨3000000000, by omega, zf_rf⟩
  exact L6 _ 0 none g rfl (by decide) (by decide) mz_nl_n hI (fun _ _ _ => rfl) ⟨3000000000, by omega, hE⟩
def fw_X8_becomeAs (x : mm_X) (q0 : Nat) (q1 : Nat) : Nat → Nat → Prop := fun k j => k = q0
theorem f_X8_becomeAs {d : Nat} (hd : 1 ≤ d) {x : mm_X} (hx : mk_x x) {g : mz_G} (hI : mz_inv g) {q0 : Nat} (h_q0 : kd_trunk q0) {q1 : Nat} (h_q1 : kd_trunk q1) {Q : (Option Value ⊕ Nat) → mm_H → Prop} (hQ : ∀ (g1 : mz_G), mz_inv g1 → mz_fr (fw_X8_becomeAs x q0 q1) g g1 → zf_E (zF_X8_becomeAs q0 q1 g) (g1) → Q (.inl none) (mz_mk g1 x)) : mm_C d 95 [.ref q0, .ref q1] (mz_mk g x) Q := by
  have kn_q0 := kn_trunk h_q0
  have kn_q1 := kn_trunk h_q1
  refine ⟨mmX8_becomeAs, [some (.ref q0), some (.ref q1)], rfl, rfl, ?_⟩
  have hE : zf_E (zF_X8_becomeAs q0 q1 g) (zF_X8_becomeAs q0 q1 g) := zf_rf
  refine mm_g 2 (pc1 := 2) (lo1 := [some (.ref q0), some (.ref q1)]) (st1 := [.ref q1, .ref q0]) (H1 := mz_mk g x) rfl ?_
  refine mz_gI rfl fd_8_7 (by decide) (kc_trunk h_q1 _) hI (kb_trunk_0 h_q1) (fun v1 e_v1 l_v1 u_v1 => ?_)
  replace hE := zf_tr hE (zf_le e_v1)
  refine mz_pI rfl fd_8_7 (kc_trunk h_q0 _) hI (kb_trunk_0 h_q0) (by omega) (by omega) (fun g2 hIg2 hug2 => ?_)
  replace hE := zf_tr hE (zf_lg hug2)
  refine mm_g 2 (pc1 := 10) (lo1 := [some (.ref q0), some (.ref q1)]) (st1 := [.ref q1, .ref q0]) (H1 := mz_mk g2 x) rfl ?_
  refine mz_gI rfl fd_8_13 (by decide) (kc_trunk h_q1 _) hIg2 (kb_trunk_1 h_q1) (fun v3 e_v3 l_v3 u_v3 => ?_)
  replace hE := zf_tr hE (zf_le e_v3)
  refine mz_pI rfl fd_8_13 (kc_trunk h_q0 _) hIg2 (kb_trunk_1 h_q0) (by omega) (by omega) (fun g4 hIg4 hug4 => ?_)
  replace hE := zf_tr hE (zf_lg hug4)
  refine mm_g 2 (pc1 := 18) (lo1 := [some (.ref q0), some (.ref q1)]) (st1 := [.ref q1, .ref q0]) (H1 := mz_mk g4 x) rfl ?_
  refine mz_gI rfl fd_8_16 (by decide) (kc_trunk h_q1 _) hIg4 (kb_trunk_2 h_q1) (fun v5 e_v5 l_v5 u_v5 => ?_)
  replace hE := zf_tr hE (zf_le e_v5)
  refine mz_pI rfl fd_8_16 (kc_trunk h_q0 _) hIg4 (kb_trunk_2 h_q0) (by omega) (by omega) (fun g6 hIg6 hug6 => ?_)
  replace hE := zf_tr hE (zf_lg hug6)
  refine mm_g 2 (pc1 := 26) (lo1 := [some (.ref q0), some (.ref q1)]) (st1 := [.ref q1, .ref q0]) (H1 := mz_mk g6 x) rfl ?_
  refine mz_gI rfl fd_8_19 (by decide) (kc_trunk h_q1 _) hIg6 (kb_trunk_3 h_q1) (fun v7 e_v7 l_v7 u_v7 => ?_)
  replace hE := zf_tr hE (zf_le e_v7)
  refine mz_pI rfl fd_8_19 (kc_trunk h_q0 _) hIg6 (kb_trunk_3 h_q0) (by omega) (by omega) (fun g8 hIg8 hug8 => ?_)
  replace hE := zf_tr hE (zf_lg hug8)
  refine mm_g 2 (pc1 := 34) (lo1 := [some (.ref q0), some (.ref q1)]) (st1 := [.ref q1, .ref q0]) (H1 := mz_mk g8 x) rfl ?_
  refine mz_gI rfl fd_8_22 (by decide) (kc_trunk h_q1 _) hIg8 (kb_trunk_4 h_q1) (fun v9 e_v9 l_v9 u_v9 => ?_)
  replace hE := zf_tr hE (zf_le e_v9)
  refine mz_pZ rfl fd_8_22 (kc_trunk h_q0 _) (by omega) hIg8 (kb_trunk_4 h_q0) (by omega) (by omega) (fun g10 hIg10 hug10 => ?_)
  replace hE := zf_tr hE (zf_lg hug10)
  exact mm_rt rfl rfl (hQ _ hIg10 (fun k j hk => ((hug10.2 k j (fun h => hk h.1)).trans ((hug8.2 k j (fun h => hk h.1)).trans ((hug6.2 k j (fun h => hk h.1)).trans ((hug4.2 k j (fun h => hk h.1)).trans (hug2.2 k j (fun h => hk h.1))))))) hE)
def fl_X9_copyAll_18 (x : mm_X) (q0 : Nat) (q1 : Nat) : Nat → Nat → Prop := fun k j => (q0 ≤ k ∧ k < q0 + 9)
def fw_X9_copyAll (x : mm_X) (q0 : Nat) (q1 : Nat) : Nat → Nat → Prop := fun k j => (q0 ≤ k ∧ k < q0 + 9)
theorem f_X9_copyAll {d : Nat} (hd : 2 ≤ d) {x : mm_X} (hx : mk_x x) {g : mz_G} (hI : mz_inv g) {q0 : Nat} (h_q0 : kd_tks q0) {q1 : Nat} (h_q1 : kd_tks q1) {Q : (Option Value ⊕ Nat) → mm_H → Prop} (hQ : ∀ (g1 : mz_G), mz_inv g1 → mz_fr (fw_X9_copyAll x q0 q1) g g1 → zf_E (zF_X9_copyAll q0 q1 g) (g1) → Q (.inl none) (mz_mk g1 x)) : mm_C d 101 [.ref q0, .ref q1] (mz_mk g x) Q := by
  have kn_q0 := kn_tks h_q0
  have kn_q1 := kn_tks h_q1
  refine ⟨mmX9_copyAll, [some (.ref q0), some (.ref q1), none], rfl, rfl, ?_⟩
  have hE : zf_E (zF_X9_copyAll q0 q1 g) (zF_X9_copyAll q0 q1 g) := zf_rf
  refine mm_g 2 (pc1 := 2) (lo1 := [some (.ref q0), some (.ref q1), none]) (st1 := [.ref q1, .ref q0]) (H1 := mz_mk g x) rfl ?_
  refine mz_gI rfl fd_9_22 (by decide) (kc_tks h_q1 _) hI (kb_tks_2 h_q1) (fun v1 e_v1 l_v1 u_v1 => ?_)
  replace hE := zf_tr hE (zf_le e_v1)
  refine mz_pI rfl fd_9_22 (kc_tks h_q0 _) hI (kb_tks_2 h_q0) (by omega) (by omega) (fun g2 hIg2 hug2 => ?_)
  replace hE := zf_tr hE (zf_lg hug2)
  refine mm_g 2 (pc1 := 10) (lo1 := [some (.ref q0), some (.ref q1), none]) (st1 := [.ref q1, .ref q0]) (H1 := mz_mk g2 x) rfl ?_
  refine mz_gI rfl fd_9_26 (by decide) (kc_tks h_q1 _) hIg2 (kb_tks_3 h_q1) (fun v3 e_v3 l_v3 u_v3 => ?_)
  replace hE := zf_tr hE (zf_le e_v3)
  refine mz_pI rfl fd_9_26 (kc_tks h_q0 _) hIg2 (kb_tks_3 h_q0) (by omega) (by omega) (fun g4 hIg4 hug4 => ?_)
  replace hE := zf_tr hE (zf_lg hug4)
  refine mm_g 2 (pc1 := 18) (lo1 := [some (.ref q0), some (.ref q1), some (.int (Int32.ofInt 0))]) (st1 := []) (H1 := mz_mk g4 x) rfl ?_
  have L9 : ∀ n8 : Nat, ∀ (v5 : Int) (g6 : mz_G), (6 - v5).toNat = n8 → 0 ≤ v5 → v5 ≤ 6 → mz_inv g6 → mz_fr (fl_X9_copyAll_18 x q0 q1) g4 g6 → (∃ fk : Nat, (6 - v5).toNat < fk ∧ zf_E (zF_X9_copyAll q0 q1 g) (zL_X9_copyAll_18 q0 q1 fk v5 g6)) → mm_W d mmX9_copyAll 18 [some (.ref q0), some (.ref q1), some (.int (Int32.ofInt v5))] [] (mz_mk g6 x) Q := by
    intro n8
    induction n8 using Nat.strongRecOn with
    | ind n8 ih7 =>
    intro v5 g6 hmn8 l_v5 u_v5 hIg6 hfg6 hF
    obtain ⟨fk, fl, hE⟩ := hF
    obtain ⟨fj10, rfl⟩ : ∃ fj, fk = fj + 1 := ⟨fk - 1, by omega⟩
    have fn11 : n8 ≤ fj10 := by omega
    replace hE := zf_tr hE zL_X9_copyAll_18_s
    refine mm_g 2 (pc1 := 20) (lo1 := [some (.ref q0), some (.ref q1), some (.int (Int32.ofInt v5))]) (st1 := [.ref q0, .int (Int32.ofInt v5)]) (H1 := mz_mk g6 x) rfl ?_
    refine mz_gI rfl fd_9_22 (by decide) (kc_tks h_q0 _) hIg6 (kb_tks_2 h_q0) (fun v12 e_v12 l_v12 u_v12 => ?_)
    replace hE := zf_tr hE (zf_le e_v12)
    refine mz_ic_ge (tgt := 45) rfl rfl (mz_rg l_v5 u_v5) (mz_rg l_v12 u_v12) (fun c23_12 => ?_) (fun c23_12 => ?_)
    · skip
      replace hE := zf_nl hE c23_12
      exact mm_rt rfl rfl (hQ _ hIg6 (fun k j hk => ((hfg6 k j (fun h => hk h)).trans ((hug4.2 k j (fun h => hk (show (q0 ≤ k ∧ k < q0 + 9) by have h9 : k = q0 ∧ j = 3 := h; omega))).trans (hug2.2 k j (fun h => hk (show (q0 ≤ k ∧ k < q0 + 9) by have h9 : k = q0 ∧ j = 2 := h; omega)))))) hE)
    · skip
      replace hE := zf_ip hE c23_12
      refine mm_g 2 (pc1 := 28) (lo1 := [some (.ref q0), some (.ref q1), some (.int (Int32.ofInt v5))]) (st1 := [.int (Int32.ofInt v5), .ref q0]) (H1 := mz_mk g6 x) rfl ?_
      refine mz_cv rfl mt_9_29 (by decide) (kc_tks h_q0 _) rfl (Nat.le_of_ble_eq_true rfl) (by omega) (f_X9_get (by omega) hx hIg6 h_q0 (by omega) (by omega) (fun u13 k_u13 hp14 hc15 => ⟨_, rfl, ?_⟩))
      show mm_W d mmX9_copyAll 31 [some (.ref q0), some (.ref q1), some (.int (Int32.ofInt v5))] [.ref u13] (mz_mk g6 x) Q
      replace hE := zf_t1 hE hc15
      refine mm_g 2 (pc1 := 33) (lo1 := [some (.ref q0), some (.ref q1), some (.int (Int32.ofInt v5))]) (st1 := [.int (Int32.ofInt v5), .ref q1, .ref u13]) (H1 := mz_mk g6 x) rfl ?_
      refine mz_cv rfl mt_9_29 (by decide) (kc_tks h_q1 _) rfl (Nat.le_of_ble_eq_true rfl) (by omega) (f_X9_get (by omega) hx hIg6 h_q1 (by omega) (by omega) (fun u16 k_u16 hp17 hc18 => ⟨_, rfl, ?_⟩))
      show mm_W d mmX9_copyAll 36 [some (.ref q0), some (.ref q1), some (.int (Int32.ofInt v5))] [.ref u16, .ref u13] (mz_mk g6 x) Q
      replace hE := zf_t1 hE hc18
      refine mz_cv rfl mt_9_49 (by decide) (kc_trunk k_u13 _) rfl (Nat.le_of_ble_eq_true rfl) (by omega) (f_X8_becomeAs (by omega) hx hIg6 k_u13 k_u16 (fun g19 hIg19 hfg19 hc20 => ⟨_, rfl, ?_⟩))
      show mm_W d mmX9_copyAll 39 [some (.ref q0), some (.ref q1), some (.int (Int32.ofInt v5))] [] (mz_mk g19 x) Q
      replace hE := zf_t1 hE hc20
      refine mz_iincR (v := v5) (lo2 := [some (.ref q0), some (.ref q1), some (.int (Int32.ofInt (v5 + 1)))]) rfl rfl rfl (Nat.le_of_ble_eq_true rfl) rfl ?_
      refine mz_gt (tgt := 18) rfl rfl ?_
      exact ih7 ((6 - (v5 + 1)).toNat) (by omega) (v5 + 1) g19 rfl (by omega) (by omega) hIg19 (fun k j hk => ((hfg19 k j (fun h => hk (show (q0 ≤ k ∧ k < q0 + 9) by have h9 : k = u13 := h; omega))).trans (hfg6 k j (fun h => hk h)))) ⟨fj10, Nat.lt_of_lt_of_le (show ((6 - (v5 + 1)).toNat) < n8 from (by omega)) fn11, hE⟩
  exact L9 _ 0 g4 rfl (by decide) (by decide) hIg4 (fun _ _ _ => rfl) ⟨3000000000, by omega, hE⟩
def fw_X6_beginWith (x : mm_X) (q0 : Nat) (q1 : Nat) : Nat → Nat → Prop := fun k j => ((q0 + 1) ≤ k ∧ k < (q0 + 1) + 9) ∨ k = q0
theorem f_X6_beginWith {d : Nat} (hd : 3 ≤ d) {x : mm_X} (hx : mk_x x) {g : mz_G} (hI : mz_inv g) {q0 : Nat} (h_q0 : kd_story q0) {q1 : Nat} (h_q1 : kd_tks q1) {Q : (Option Value ⊕ Nat) → mm_H → Prop} (hQ : ∀ (g1 : mz_G), mz_inv g1 → mz_fr (fw_X6_beginWith x q0 q1) g g1 → zf_E (zF_X6_beginWith q0 q1 g) (g1) → Q (.inl none) (mz_mk g1 x)) : mm_C d 67 [.ref q0, .ref q1] (mz_mk g x) Q := by
  have kn_q0 := kn_story h_q0
  have kn_q1 := kn_tks h_q1
  refine ⟨mmX6_beginWith, [some (.ref q0), some (.ref q1)], rfl, rfl, ?_⟩
  have hE : zf_E (zF_X6_beginWith q0 q1 g) (zF_X6_beginWith q0 q1 g) := zf_rf
  refine mm_g 1 (pc1 := 1) (lo1 := [some (.ref q0), some (.ref q1)]) (st1 := [.ref q0]) (H1 := mz_mk g x) rfl ?_
  refine mz_fgR (v := (q0 + 1)) rfl fd_6_12 (by decide) (kc_story h_q0 _) (kr_story_0 h_q0 _ _ _) ?_
  refine mm_g 1 (pc1 := 5) (lo1 := [some (.ref q0), some (.ref q1)]) (st1 := [.ref q1, .ref (q0 + 1)]) (H1 := mz_mk g x) rfl ?_
  refine mz_cv rfl mt_6_44 (by decide) (kc_tks (ks_story_0 h_q0) _) rfl (Nat.le_of_ble_eq_true rfl) (by omega) (f_X9_copyAll (by omega) hx hI (ks_story_0 h_q0) h_q1 (fun g1 hIg1 hfg1 hc2 => ⟨_, rfl, ?_⟩))
  show mm_W d mmX6_beginWith 8 [some (.ref q0), some (.ref q1)] [] (mz_mk g1 x) Q
  replace hE := zf_t1 hE hc2
  refine mm_g 2 (pc1 := 10) (lo1 := [some (.ref q0), some (.ref q1)]) (st1 := [.int (Int32.ofInt 0), .ref q0]) (H1 := mz_mk g1 x) rfl ?_
  refine mz_pI rfl fd_6_22 (kc_story h_q0 _) hIg1 (kb_story_2 h_q0) (by omega) (by omega) (fun g3 hIg3 hug3 => ?_)
  replace hE := zf_tr hE (zf_lg hug3)
  refine mm_g 2 (pc1 := 15) (lo1 := [some (.ref q0), some (.ref q1)]) (st1 := [.int (Int32.ofInt 0), .ref q0]) (H1 := mz_mk g3 x) rfl ?_
  refine mz_pI rfl fd_6_26 (kc_story h_q0 _) hIg3 (kb_story_3 h_q0) (by omega) (by omega) (fun g4 hIg4 hug4 => ?_)
  replace hE := zf_tr hE (zf_lg hug4)
  refine mm_g 2 (pc1 := 20) (lo1 := [some (.ref q0), some (.ref q1)]) (st1 := [.int (Int32.ofInt 0), .ref q0]) (H1 := mz_mk g4 x) rfl ?_
  refine mz_pI rfl fd_6_38 (kc_story h_q0 _) hIg4 (kb_story_7 h_q0) (by omega) (by omega) (fun g5 hIg5 hug5 => ?_)
  replace hE := zf_tr hE (zf_lg hug5)
  exact mm_rt rfl rfl (hQ _ hIg5 (fun k j hk => ((hug5.2 k j (fun h => hk (Or.inr h.1))).trans ((hug4.2 k j (fun h => hk (Or.inr h.1))).trans ((hug3.2 k j (fun h => hk (Or.inr h.1))).trans (hfg1 k j (fun h => hk (Or.inl h))))))) hE)
def fl_X11_baggage_43 (x : mm_X) (a1 : Int) : Nat → Nat → Prop := fun k j => (k = 82 ∧ j = 3) ∨ (k = 82 ∧ j = 5) ∨ (k = 82 ∧ j = 6) ∨ (k = 82 ∧ j = 4) ∨ (k = 81 ∧ j = 1) ∨ (k = 81 ∧ j = 2) ∨ (1 ≤ k ∧ k < 81) ∨ (k = 81 ∧ j = 4) ∨ (k = 81 ∧ j = 5) ∨ (k = 81 ∧ j = 7) ∨ (k = 81 ∧ j = 8) ∨ (k = 81 ∧ j = 6) ∨ k = 84
def fw_X11_baggage (x : mm_X) (a1 : Int) : Nat → Nat → Prop := fun k j => (1 ≤ k ∧ k < 81) ∨ (k = 81 ∧ j = 1) ∨ (k = 81 ∧ j = 2) ∨ (k = 82 ∧ j = 1) ∨ (k = 82 ∧ j = 2) ∨ (k = 82 ∧ j = 3) ∨ (k = 82 ∧ j = 5) ∨ (k = 82 ∧ j = 6) ∨ (k = 82 ∧ j = 4) ∨ (k = 81 ∧ j = 4) ∨ (k = 81 ∧ j = 5) ∨ (k = 81 ∧ j = 7) ∨ (k = 81 ∧ j = 8) ∨ (k = 81 ∧ j = 6) ∨ k = 84 ∨ (k = 0 ∧ j = 0) ∨ k = 85 ∨ (87 ≤ k ∧ k < 96) ∨ k = 86 ∨ (k = 0 ∧ j = 7) ∨ k = 100
theorem f_X11_baggage {d : Nat} (hd : 15 ≤ d) {x : mm_X} (hx : mk_x x) {g : mz_G} (hI : mz_inv g) {a1 : Int} (l_a1 : (-2147483648) ≤ a1) (u_a1 : a1 ≤ 2147483647) {Q : (Option Value ⊕ Nat) → mm_H → Prop} (hQ : ∀ (r : Int) (g1 : mz_G) (x1 : mm_X), mk_x x1 → x1.2.2 = x.2.2 → mz_inv g1 → mz_fr (fw_X11_baggage x a1) g g1 → (-2147483648) ≤ r → r ≤ 2147483647 → (g1 82 1 = 0) → (0 ≤ a1 ∧ a1 ≤ g 82 1) → zf_E (zF_X11_baggage x a1 g) ((0, r, g1, x1)) → Q (.inl (some (.int (Int32.ofInt r)))) (mz_mk g1 x1)) (hX1 : (zf_E (zF_X11_baggage x a1 g) ((2, 0, g, x))) → Q (.inr 1) (mz_mk g (mz_tx x))) : mm_C d 124 [.ref 0, .int (Int32.ofInt a1)] (mz_mk g x) Q := by
  have kx := kn_x hx
  refine ⟨mmX11_baggage, [some (.ref 0), some (.int (Int32.ofInt a1)), none], rfl, rfl, ?_⟩
  have bz0 := mz_rd hI bd_82_1
  have hE : zf_E (zF_X11_baggage x a1 g) (zF_X11_baggage x a1 g) := zf_rf
  refine mm_g 1 (pc1 := 1) (lo1 := [some (.ref 0), some (.int (Int32.ofInt a1)), none]) (st1 := [.int (Int32.ofInt a1)]) (H1 := mz_mk g x) rfl ?_
  refine mz_if_lt (tgt := 22) rfl rfl (mz_rg l_a1 u_a1) (fun c1_0 => ?_) (fun c1_0 => ?_)
  · skip
    replace hE := zf_ip hE c1_0
    refine mm_g 1 (pc1 := 23) (lo1 := [some (.ref 0), some (.int (Int32.ofInt a1)), none]) (st1 := [.int (Int32.ofInt 0)]) (H1 := mz_mk g x) rfl ?_
    (try unfold zJ_X11_baggage_22 at hE)
    (try unfold zJ_X11_baggage_23 at hE)
    (try unfold zJ_X11_baggage_77 at hE)
    (try unfold zJ_X11_baggage_22 at hE)
    (try unfold zJ_X11_baggage_23 at hE)
    (try unfold zJ_X11_baggage_77 at hE)
    refine mz_csx rfl mt_11_106 rfl (Nat.le_of_ble_eq_true rfl) (by omega) rfl nh_X11_mustFit (f_X11_mustFit (by omega) hx hI (by decide) (by decide) (fun hp1 hc2 => ?_) (fun hc => hX1 (zf_y2 hE hc (by decide))))
    show mm_W d mmX11_baggage 26 [some (.ref 0), some (.int (Int32.ofInt a1)), none] [] (mz_mk g x) Q
    replace hE := zf_y1 hE hc2
    exfalso; omega
  · skip
    replace hE := zf_nl hE c1_0
    refine mm_g 2 (pc1 := 6) (lo1 := [some (.ref 0), some (.int (Int32.ofInt a1)), none]) (st1 := [.ref 0, .int (Int32.ofInt a1)]) (H1 := mz_mk g x) rfl ?_
    refine mz_fgR (v := 81) rfl fd_11_26 (by decide) (sc_0 _) (rf_0_3 _ _ _) ?_
    refine mz_fgR (v := 82) rfl fd_11_94 (by decide) (sc_81 _) (rf_81_0 _ _ _) ?_
    refine mz_fgI (v := (g 82 1)) rfl fd_11_98 (by decide) (sc_82 _) (show g 82 1 = (g 82 1) from rfl) ?_
    replace hE := zf_tr hE (zf_le (show g 82 1 = (g 82 1) from rfl))
    refine mz_ic_gt (tgt := 22) rfl rfl (mz_rg l_a1 u_a1) ⟨by omega, by omega⟩ (fun c15_2 => ?_) (fun c15_2 => ?_)
    · skip
      replace hE := zf_ip hE c15_2
      refine mm_g 1 (pc1 := 23) (lo1 := [some (.ref 0), some (.int (Int32.ofInt a1)), none]) (st1 := [.int (Int32.ofInt 0)]) (H1 := mz_mk g x) rfl ?_
      (try unfold zJ_X11_baggage_22 at hE)
      (try unfold zJ_X11_baggage_23 at hE)
      (try unfold zJ_X11_baggage_77 at hE)
      (try unfold zJ_X11_baggage_22 at hE)
      (try unfold zJ_X11_baggage_23 at hE)
      (try unfold zJ_X11_baggage_77 at hE)
      refine mz_csx rfl mt_11_106 rfl (Nat.le_of_ble_eq_true rfl) (by omega) rfl nh_X11_mustFit (f_X11_mustFit (by omega) hx hI (by decide) (by decide) (fun hp3 hc4 => ?_) (fun hc => hX1 (zf_y2 hE hc (by decide))))
      show mm_W d mmX11_baggage 26 [some (.ref 0), some (.int (Int32.ofInt a1)), none] [] (mz_mk g x) Q
      replace hE := zf_y1 hE hc4
      exfalso; omega
    · skip
      replace hE := zf_nl hE c15_2
      refine mm_g 1 (pc1 := 19) (lo1 := [some (.ref 0), some (.int (Int32.ofInt a1)), none]) (st1 := [.int (Int32.ofInt 1)]) (H1 := mz_mk g x) rfl ?_
      refine mz_gt (tgt := 23) rfl rfl ?_
      (try unfold zJ_X11_baggage_22 at hE)
      (try unfold zJ_X11_baggage_23 at hE)
      (try unfold zJ_X11_baggage_77 at hE)
      (try unfold zJ_X11_baggage_22 at hE)
      (try unfold zJ_X11_baggage_23 at hE)
      (try unfold zJ_X11_baggage_77 at hE)
      refine mz_csx rfl mt_11_106 rfl (Nat.le_of_ble_eq_true rfl) (by omega) rfl nh_X11_mustFit (f_X11_mustFit (by omega) hx hI (by decide) (by decide) (fun hp5 hc6 => ?_) (fun hc => hX1 (zf_y2 hE hc (by decide))))
      show mm_W d mmX11_baggage 26 [some (.ref 0), some (.int (Int32.ofInt a1)), none] [] (mz_mk g x) Q
      replace hE := zf_y1 hE hc6
      refine mm_g 1 (pc1 := 27) (lo1 := [some (.ref 0), some (.int (Int32.ofInt a1)), none]) (st1 := [.ref 0]) (H1 := mz_mk g x) rfl ?_
      refine mz_fgR (v := x.2.1) rfl fd_11_20 (by decide) (sc_0 _) rfl ?_
      refine mz_cv rfl mt_11_110 (by decide) (kc_load (kx_2 hx) _) rfl (Nat.le_of_ble_eq_true rfl) (by omega) (f_X1_forgetAll (by omega) hx hI (kx_2 hx) (fun g7 hIg7 hfg7 hc8 => ⟨_, rfl, ?_⟩))
      show mm_W d mmX11_baggage 33 [some (.ref 0), some (.int (Int32.ofInt a1)), none] [] (mz_mk g7 x) Q
      replace hE := zf_t1 hE hc8
      refine mm_g 1 (pc1 := 34) (lo1 := [some (.ref 0), some (.int (Int32.ofInt a1)), none]) (st1 := [.ref 0]) (H1 := mz_mk g7 x) rfl ?_
      refine mz_fgR (v := 81) rfl fd_11_26 (by decide) (sc_0 _) (rf_0_3 _ _ _) ?_
      refine mm_g 1 (pc1 := 38) (lo1 := [some (.ref 0), some (.int (Int32.ofInt a1)), none]) (st1 := [.int (Int32.ofInt a1), .ref 81]) (H1 := mz_mk g7 x) rfl ?_
      have hq9 : g7 82 1 = (g 82 1) := (show g7 82 1 = (g 82 1) from ((hfg7 82 1 (fun h => (Or.elim h (fun h => (by have h9 : 82 = (x.2.1 + 1) := h; omega)) (fun h => (Or.elim h (fun h => (by have h9 : 82 = (x.2.1 + 26) := h; omega)) (fun h => (Or.elim h (fun h => (by have h9 : 82 = x.2.1 := h; omega)) (fun h => (by have h9 : 82 = (x.2.1 + 36) := h; omega))))))))).trans rfl))
      refine mz_cv rfl mt_11_113 (by decide) (sc_81 _) rfl (Nat.le_of_ble_eq_true rfl) (by omega) (f_X4_begin (by omega) hx hIg7 (by omega) (by omega) (fun g10 hIg10 hfg10 hp11 hc12 => ⟨_, rfl, ?_⟩))
      show mm_W d mmX11_baggage 41 [some (.ref 0), some (.int (Int32.ofInt a1)), none] [] (mz_mk g10 x) Q
      replace hE := zf_t1 hE hc12
      have bz_g10_1 := mz_rd hIg10 bd_82_1
      refine mm_g 2 (pc1 := 43) (lo1 := [some (.ref 0), some (.int (Int32.ofInt a1)), some (.int (Int32.ofInt 0))]) (st1 := []) (H1 := mz_mk g10 x) rfl ?_
      have L17 : ∀ n16 : Nat, ∀ (v13 : Int) (g14 : mz_G), (700 - v13).toNat = n16 → 0 ≤ v13 → v13 ≤ 700 → mz_inv g14 → mz_fr (fl_X11_baggage_43 x a1) g10 g14 → (∃ fk : Nat, (700 - v13).toNat < fk ∧ zf_E (zF_X11_baggage x a1 g) (zL_X11_baggage_43 x a1 fk v13 g14)) → mm_W d mmX11_baggage 43 [some (.ref 0), some (.int (Int32.ofInt a1)), some (.int (Int32.ofInt v13))] [] (mz_mk g14 x) Q := by
        intro n16
        induction n16 using Nat.strongRecOn with
        | ind n16 ih15 =>
        intro v13 g14 hmn16 l_v13 u_v13 hIg14 hfg14 hF
        obtain ⟨fk, fl, hE⟩ := hF
        obtain ⟨fj18, rfl⟩ : ∃ fj, fk = fj + 1 := ⟨fk - 1, by omega⟩
        have fn19 : n16 ≤ fj18 := by omega
        replace hE := zf_tr hE zL_X11_baggage_43_s
        refine mm_g 1 (pc1 := 44) (lo1 := [some (.ref 0), some (.int (Int32.ofInt a1)), some (.int (Int32.ofInt v13))]) (st1 := [.int (Int32.ofInt v13)]) (H1 := mz_mk g14 x) rfl ?_
        refine mz_sip rfl sip_700 ?_
        refine mz_ic_ge (tgt := 77) rfl rfl (mz_rg l_v13 u_v13) ⟨by decide, by decide⟩ (fun c47_19 => ?_) (fun c47_19 => ?_)
        · skip
          replace hE := zf_nl hE c47_19
          refine mm_g 2 (pc1 := 79) (lo1 := [some (.ref 0), some (.int (Int32.ofInt a1)), some (.int (Int32.ofInt v13))]) (st1 := [.ref 0, .ref 0]) (H1 := mz_mk g14 x) rfl ?_
          refine mz_fgR (v := 81) rfl fd_11_26 (by decide) (sc_0 _) (rf_0_3 _ _ _) ?_
          refine mz_cv rfl mt_11_124 (by decide) (sc_81 _) rfl (Nat.le_of_ble_eq_true rfl) (by omega) (f_X4_place (by omega) hx hIg14 (fun v20 l_v20 u_v20 hc21 => ⟨_, rfl, ?_⟩))
          show mm_W d mmX11_baggage 85 [some (.ref 0), some (.int (Int32.ofInt a1)), some (.int (Int32.ofInt v13))] [.int (Int32.ofInt v20), .ref 0] (mz_mk g14 x) Q
          replace hE := zf_t1 hE hc21
          refine mz_pI rfl fd_11_9 (sc_0 _) hIg14 bd_0_0 (by omega) (by omega) (fun g22 hIg22 hug22 => ?_)
          replace hE := zf_tr hE (zf_lg hug22)
          refine mm_g 1 (pc1 := 89) (lo1 := [some (.ref 0), some (.int (Int32.ofInt a1)), some (.int (Int32.ofInt v13))]) (st1 := [.ref 0]) (H1 := mz_mk g22 x) rfl ?_
          refine mz_fgR (v := 81) rfl fd_11_26 (by decide) (sc_0 _) (rf_0_3 _ _ _) ?_
          refine mz_cv rfl mt_11_128 (by decide) (sc_81 _) rfl (Nat.le_of_ble_eq_true rfl) (by omega) (f_X4_faultKind (by omega) hx hIg22 (fun v23 l_v23 u_v23 hc24 => ⟨_, rfl, ?_⟩))
          show mm_W d mmX11_baggage 95 [some (.ref 0), some (.int (Int32.ofInt a1)), some (.int (Int32.ofInt v13))] [.int (Int32.ofInt v23)] (mz_mk g22 x) Q
          replace hE := zf_t1 hE hc24
          refine mz_if_eq (tgt := 115) rfl rfl (mz_rg l_v23 u_v23) (fun c95_24 => ?_) (fun c95_24 => ?_)
          · skip
            replace hE := zf_ip hE c95_24
            refine mm_g 1 (pc1 := 116) (lo1 := [some (.ref 0), some (.int (Int32.ofInt a1)), some (.int (Int32.ofInt v13))]) (st1 := [.ref 0]) (H1 := mz_mk g22 x) rfl ?_
            refine mz_fgR (v := x.1) rfl fd_11_16 (by decide) (sc_0 _) rfl ?_
            refine mm_g 3 (pc1 := 122) (lo1 := [some (.ref 0), some (.int (Int32.ofInt a1)), some (.ref x.1)]) (st1 := [.ref 0, .ref 0]) (H1 := mz_mk g22 x) rfl ?_
            refine mz_fgR (v := x.2.1) rfl fd_11_20 (by decide) (sc_0 _) rfl ?_
            refine mz_ld1 rfl fd_11_16 ?_
            refine mm_g 2 (pc1 := 130) (lo1 := [some (.ref 0), some (.int (Int32.ofInt a1)), some (.ref x.1)]) (st1 := [.ref x.1, .ref 0]) (H1 := mz_mk g22 (x.2.1, x.2)) rfl ?_
            refine mz_ld2 rfl fd_11_20 ?_
            obtain ⟨x1, hx1, hq1, hq2⟩ := mz_swap hx
            rw [show mz_mk g22 ((x.2.1, x.2).1, x.1, (x.2.1, x.2).2.2) = mz_mk g22 x1 from congrArg (mz_mk g22) hx1.symm]
            have kx1 := kn_x hq1
            replace hE := zf_tr hE (zf_le hx1.symm)
            refine mm_g 1 (pc1 := 134) (lo1 := [some (.ref 0), some (.int (Int32.ofInt a1)), some (.ref x.1)]) (st1 := [.ref 0]) (H1 := mz_mk g22 x1) rfl ?_
            refine mz_fgR (v := x1.1) rfl fd_11_16 (by decide) (sc_0 _) rfl ?_
            refine mz_fgR (v := (x1.1 + 1)) rfl fd_11_135 (by decide) (kc_load (kx_1 hq1) _) (kr_load_0 (kx_1 hq1) _ _ _) ?_
            refine mm_g 1 (pc1 := 141) (lo1 := [some (.ref 0), some (.int (Int32.ofInt a1)), some (.ref x.1)]) (st1 := [.ref 0, .ref (x1.1 + 1)]) (H1 := mz_mk g22 x1) rfl ?_
            refine mz_fgR (v := 85) rfl fd_11_30 (by decide) (sc_0 _) (rf_0_4 _ _ _) ?_
            refine mz_cv rfl mt_11_139 (by decide) (kc_words (ks_load_0 (kx_1 hq1)) _) rfl (Nat.le_of_ble_eq_true rfl) (by omega) (f_X10_settle (by omega) hq1 hIg22 (ks_load_0 (kx_1 hq1)) (sh_85 _) (by decide) ba_85 (fun g25 hIg25 hfg25 hc26 => ⟨_, rfl, ?_⟩))
            show mm_W d mmX11_baggage 147 [some (.ref 0), some (.int (Int32.ofInt a1)), some (.ref x.1)] [] (mz_mk g25 x1) Q
            replace hE := zf_t1 hE hc26
            refine mm_g 1 (pc1 := 148) (lo1 := [some (.ref 0), some (.int (Int32.ofInt a1)), some (.ref x.1)]) (st1 := [.ref 0]) (H1 := mz_mk g25 x1) rfl ?_
            refine mz_fgR (v := 86) rfl fd_11_37 (by decide) (sc_0 _) (rf_0_5 _ _ _) ?_
            refine mm_g 1 (pc1 := 152) (lo1 := [some (.ref 0), some (.int (Int32.ofInt a1)), some (.ref x.1)]) (st1 := [.ref 0, .ref 86]) (H1 := mz_mk g25 x1) rfl ?_
            refine mz_fgR (v := x1.1) rfl fd_11_16 (by decide) (sc_0 _) rfl ?_
            refine mz_fgR (v := (x1.1 + 26)) rfl fd_11_145 (by decide) (kc_load (kx_1 hq1) _) (kr_load_1 (kx_1 hq1) _ _ _) ?_
            refine mz_cv rfl mt_11_148 (by decide) (sc_86 _) rfl (Nat.le_of_ble_eq_true rfl) (by omega) (f_X6_beginWith (by omega) hq1 hIg25 kp_story_86 (ks_load_1 (kx_1 hq1)) (fun g27 hIg27 hfg27 hc28 => ⟨_, rfl, ?_⟩))
            show mm_W d mmX11_baggage 161 [some (.ref 0), some (.int (Int32.ofInt a1)), some (.ref x.1)] [] (mz_mk g27 x1) Q
            replace hE := zf_t1 hE hc28
            refine mm_g 2 (pc1 := 163) (lo1 := [some (.ref 0), some (.int (Int32.ofInt a1)), some (.ref x.1)]) (st1 := [.int (Int32.ofInt 0), .ref 0]) (H1 := mz_mk g27 x1) rfl ?_
            refine mz_pZ rfl fd_11_44 (sc_0 _) (by decide) hIg27 bd_0_7 (by omega) (by omega) (fun g29 hIg29 hug29 => ?_)
            replace hE := zf_tr hE (zf_lg hug29)
            refine mm_g 1 (pc1 := 167) (lo1 := [some (.ref 0), some (.int (Int32.ofInt a1)), some (.ref x.1)]) (st1 := [.int (Int32.ofInt 0)]) (H1 := mz_mk g29 x1) rfl ?_
            exact mm_rt rfl rfl (hQ _ _ _ hq1 hq2 hIg29 (fun k j hk => ((hug29.2 k j (fun h => hk (Or.inr (Or.inr (Or.inr (Or.inr (Or.inr (Or.inr (Or.inr (Or.inr (Or.inr (Or.inr (Or.inr (Or.inr (Or.inr (Or.inr (Or.inr (Or.inr (Or.inr (Or.inr (Or.inr (Or.inl h)))))))))))))))))))))).trans ((hfg27 k j (fun h => hk (Or.elim h (fun h => (Or.inr (Or.inr (Or.inr (Or.inr (Or.inr (Or.inr (Or.inr (Or.inr (Or.inr (Or.inr (Or.inr (Or.inr (Or.inr (Or.inr (Or.inr (Or.inr (Or.inr (Or.inl h))))))))))))))))))) (fun h => (Or.inr (Or.inr (Or.inr (Or.inr (Or.inr (Or.inr (Or.inr (Or.inr (Or.inr (Or.inr (Or.inr (Or.inr (Or.inr (Or.inr (Or.inr (Or.inr (Or.inr (Or.inr (Or.inl h))))))))))))))))))))))).trans ((hfg25 k j (fun h => hk (Or.elim h (fun h => (Or.inl (show (1 ≤ k ∧ k < 81) by have h9 : k = ((x1.1 + 1) + 5) := h; omega))) (fun h => (Or.elim h (fun h => (Or.inl (show (1 ≤ k ∧ k < 81) by have h9 : k = ((x1.1 + 1) + 6) := h; omega))) (fun h => (Or.elim h (fun h => (Or.inr (Or.inr (Or.inr (Or.inr (Or.inr (Or.inr (Or.inr (Or.inr (Or.inr (Or.inr (Or.inr (Or.inr (Or.inr (Or.inr (Or.inr (Or.inr (Or.inl h)))))))))))))))))) (fun h => (Or.elim h (fun h => (Or.inl (show (1 ≤ k ∧ k < 81) by have h9 : k = ((x1.1 + 1) + 7) := h; omega))) (fun h => (Or.elim h (fun h => (Or.inl (show (1 ≤ k ∧ k < 81) by have h9 : k = ((x1.1 + 1) + 8) := h; omega))) (fun h => (Or.inl (show (1 ≤ k ∧ k < 81) by have h9 : k = (x1.1 + 1) := h; omega)))))))))))))).trans ((hug22.2 k j (fun h => hk (Or.inr (Or.inr (Or.inr (Or.inr (Or.inr (Or.inr (Or.inr (Or.inr (Or.inr (Or.inr (Or.inr (Or.inr (Or.inr (Or.inr (Or.inr (Or.inl h)))))))))))))))))).trans ((hfg14 k j (fun h => hk (Or.elim h (fun h => (Or.inr (Or.inr (Or.inr (Or.inr (Or.inr (Or.inl h))))))) (fun h => (Or.elim h (fun h => (Or.inr (Or.inr (Or.inr (Or.inr (Or.inr (Or.inr (Or.inl h)))))))) (fun h => (Or.elim h (fun h => (Or.inr (Or.inr (Or.inr (Or.inr (Or.inr (Or.inr (Or.inr (Or.inl h))))))))) (fun h => (Or.elim h (fun h => (Or.inr (Or.inr (Or.inr (Or.inr (Or.inr (Or.inr (Or.inr (Or.inr (Or.inl h)))))))))) (fun h => (Or.elim h (fun h => (Or.inr (Or.inl h))) (fun h => (Or.elim h (fun h => (Or.inr (Or.inr (Or.inl h)))) (fun h => (Or.elim h (fun h => (Or.inl h)) (fun h => (Or.elim h (fun h => (Or.inr (Or.inr (Or.inr (Or.inr (Or.inr (Or.inr (Or.inr (Or.inr (Or.inr (Or.inl h))))))))))) (fun h => (Or.elim h (fun h => (Or.inr (Or.inr (Or.inr (Or.inr (Or.inr (Or.inr (Or.inr (Or.inr (Or.inr (Or.inr (Or.inl h)))))))))))) (fun h => (Or.elim h (fun h => (Or.inr (Or.inr (Or.inr (Or.inr (Or.inr (Or.inr (Or.inr (Or.inr (Or.inr (Or.inr (Or.inr (Or.inl h))))))))))))) (fun h => (Or.elim h (fun h => (Or.inr (Or.inr (Or.inr (Or.inr (Or.inr (Or.inr (Or.inr (Or.inr (Or.inr (Or.inr (Or.inr (Or.inr (Or.inl h)))))))))))))) (fun h => (Or.elim h (fun h => (Or.inr (Or.inr (Or.inr (Or.inr (Or.inr (Or.inr (Or.inr (Or.inr (Or.inr (Or.inr (Or.inr (Or.inr (Or.inr (Or.inl h))))))))))))))) (fun h => (Or.inr (Or.inr (Or.inr (Or.inr (Or.inr (Or.inr (Or.inr (Or.inr (Or.inr (Or.inr (Or.inr (Or.inr (Or.inr (Or.inr (Or.inl h))))))))))))))))))))))))))))))))))))))))).trans ((hfg10 k j (fun h => hk (Or.elim h (fun h => (Or.inr (Or.inl h))) (fun h => (Or.elim h (fun h => (Or.inr (Or.inr (Or.inl h)))) (fun h => (Or.elim h (fun h => (Or.inr (Or.inr (Or.inr (Or.inl h))))) (fun h => (Or.elim h (fun h => (Or.inr (Or.inr (Or.inr (Or.inr (Or.inl h)))))) (fun h => (Or.elim h (fun h => (Or.inr (Or.inr (Or.inr (Or.inr (Or.inr (Or.inl h))))))) (fun h => (Or.elim h (fun h => (Or.inr (Or.inr (Or.inr (Or.inr (Or.inr (Or.inr (Or.inl h)))))))) (fun h => (Or.elim h (fun h => (Or.inr (Or.inr (Or.inr (Or.inr (Or.inr (Or.inr (Or.inr (Or.inl h))))))))) (fun h => (Or.inr (Or.inr (Or.inr (Or.inr (Or.inr (Or.inr (Or.inr (Or.inr (Or.inl h))))))))))))))))))))))))).trans (hfg7 k j (fun h => hk (Or.elim h (fun h => (Or.inl (show (1 ≤ k ∧ k < 81) by have h9 : k = (x.2.1 + 1) := h; omega))) (fun h => (Or.elim h (fun h => (Or.inl (show (1 ≤ k ∧ k < 81) by have h9 : k = (x.2.1 + 26) := h; omega))) (fun h => (Or.elim h (fun h => (Or.inl (show (1 ≤ k ∧ k < 81) by have h9 : k = x.2.1 := h; omega))) (fun h => (Or.inl (show (1 ≤ k ∧ k < 81) by have h9 : k = (x.2.1 + 36) := h; omega))))))))))))))))) (by decide) (by decide) (by have h9 := (show g29 82 1 = (g10 82 1) from ((hug29.2 82 1 (fun h => absurd h.1 (by decide))).trans ((hfg27 82 1 nj_3).trans ((hfg25 82 1 (fun h => (Or.elim h (fun h => (by have h9 : 82 = ((x1.1 + 1) + 5) := h; omega)) (fun h => (Or.elim h (fun h => (by have h9 : 82 = ((x1.1 + 1) + 6) := h; omega)) (fun h => (Or.elim h (fun h => (absurd (show 82 = 85 from h) (by decide))) (fun h => (Or.elim h (fun h => (by have h9 : 82 = ((x1.1 + 1) + 7) := h; omega)) (fun h => (Or.elim h (fun h => (by have h9 : 82 = ((x1.1 + 1) + 8) := h; omega)) (fun h => (by have h9 : 82 = (x1.1 + 1) := h; omega))))))))))))).trans ((hug22.2 82 1 (fun h => absurd h.1 (by decide))).trans ((hfg14 82 1 nj_4).trans rfl)))))); omega) (by omega) hE)
          · skip
            replace hE := zf_in hE c95_24
            refine mm_g 1 (pc1 := 99) (lo1 := [some (.ref 0), some (.int (Int32.ofInt a1)), some (.int (Int32.ofInt v13))]) (st1 := [.ref 0]) (H1 := mz_mk g22 x) rfl ?_
            refine mz_fgR (v := 86) rfl fd_11_37 (by decide) (sc_0 _) (rf_0_5 _ _ _) ?_
            refine mm_g 1 (pc1 := 103) (lo1 := [some (.ref 0), some (.int (Int32.ofInt a1)), some (.int (Int32.ofInt v13))]) (st1 := [.int (Int32.ofInt 0), .ref 86]) (H1 := mz_mk g22 x) rfl ?_
            refine mz_cv rfl mt_11_131 (by decide) (sc_86 _) rfl (Nat.le_of_ble_eq_true rfl) (by omega) (f_X6_refuse (by omega) hx hIg22 kp_story_86 (by decide) (by decide) (fun v30 g31 hIg31 hfg31 l_v30 u_v30 hc32 => ⟨_, rfl, ?_⟩))
            show mm_W d mmX11_baggage 106 [some (.ref 0), some (.int (Int32.ofInt a1)), some (.int (Int32.ofInt v13))] [.int (Int32.ofInt v30)] (mz_mk g31 x) Q
            replace hE := zf_t2 hE hc32
            refine mm_g 2 (pc1 := 108) (lo1 := [some (.ref 0), some (.int (Int32.ofInt a1)), some (.int (Int32.ofInt v13))]) (st1 := [.ref 0]) (H1 := mz_mk g31 x) rfl ?_
            refine mz_fgR (v := 81) rfl fd_11_26 (by decide) (sc_0 _) (rf_0_3 _ _ _) ?_
            refine mz_cv rfl mt_11_128 (by decide) (sc_81 _) rfl (Nat.le_of_ble_eq_true rfl) (by omega) (f_X4_faultKind (by omega) hx hIg31 (fun v33 l_v33 u_v33 hc34 => ⟨_, rfl, ?_⟩))
            show mm_W d mmX11_baggage 114 [some (.ref 0), some (.int (Int32.ofInt a1)), some (.int (Int32.ofInt v13))] [.int (Int32.ofInt v33)] (mz_mk g31 x) Q
            replace hE := zf_t1 hE hc34
            exact mm_rt rfl rfl (hQ _ _ _ hx rfl hIg31 (fun k j hk => ((hfg31 k j (fun h => hk (Or.inr (Or.inr (Or.inr (Or.inr (Or.inr (Or.inr (Or.inr (Or.inr (Or.inr (Or.inr (Or.inr (Or.inr (Or.inr (Or.inr (Or.inr (Or.inr (Or.inr (Or.inr (Or.inr (Or.inr h)))))))))))))))))))))).trans ((hug22.2 k j (fun h => hk (Or.inr (Or.inr (Or.inr (Or.inr (Or.inr (Or.inr (Or.inr (Or.inr (Or.inr (Or.inr (Or.inr (Or.inr (Or.inr (Or.inr (Or.inr (Or.inl h)))))))))))))))))).trans ((hfg14 k j (fun h => hk (Or.elim h (fun h => (Or.inr (Or.inr (Or.inr (Or.inr (Or.inr (Or.inl h))))))) (fun h => (Or.elim h (fun h => (Or.inr (Or.inr (Or.inr (Or.inr (Or.inr (Or.inr (Or.inl h)))))))) (fun h => (Or.elim h (fun h => (Or.inr (Or.inr (Or.inr (Or.inr (Or.inr (Or.inr (Or.inr (Or.inl h))))))))) (fun h => (Or.elim h (fun h => (Or.inr (Or.inr (Or.inr (Or.inr (Or.inr (Or.inr (Or.inr (Or.inr (Or.inl h)))))))))) (fun h => (Or.elim h (fun h => (Or.inr (Or.inl h))) (fun h => (Or.elim h (fun h => (Or.inr (Or.inr (Or.inl h)))) (fun h => (Or.elim h (fun h => (Or.inl h)) (fun h => (Or.elim h (fun h => (Or.inr (Or.inr (Or.inr (Or.inr (Or.inr (Or.inr (Or.inr (Or.inr (Or.inr (Or.inl h))))))))))) (fun h => (Or.elim h (fun h => (Or.inr (Or.inr (Or.inr (Or.inr (Or.inr (Or.inr (Or.inr (Or.inr (Or.inr (Or.inr (Or.inl h)))))))))))) (fun h => (Or.elim h (fun h => (Or.inr (Or.inr (Or.inr (Or.inr (Or.inr (Or.inr (Or.inr (Or.inr (Or.inr (Or.inr (Or.inr (Or.inl h))))))))))))) (fun h => (Or.elim h (fun h => (Or.inr (Or.inr (Or.inr (Or.inr (Or.inr (Or.inr (Or.inr (Or.inr (Or.inr (Or.inr (Or.inr (Or.inr (Or.inl h)))))))))))))) (fun h => (Or.elim h (fun h => (Or.inr (Or.inr (Or.inr (Or.inr (Or.inr (Or.inr (Or.inr (Or.inr (Or.inr (Or.inr (Or.inr (Or.inr (Or.inr (Or.inl h))))))))))))))) (fun h => (Or.inr (Or.inr (Or.inr (Or.inr (Or.inr (Or.inr (Or.inr (Or.inr (Or.inr (Or.inr (Or.inr (Or.inr (Or.inr (Or.inr (Or.inl h))))))))))))))))))))))))))))))))))))))))).trans ((hfg10 k j (fun h => hk (Or.elim h (fun h => (Or.inr (Or.inl h))) (fun h => (Or.elim h (fun h => (Or.inr (Or.inr (Or.inl h)))) (fun h => (Or.elim h (fun h => (Or.inr (Or.inr (Or.inr (Or.inl h))))) (fun h => (Or.elim h (fun h => (Or.inr (Or.inr (Or.inr (Or.inr (Or.inl h)))))) (fun h => (Or.elim h (fun h => (Or.inr (Or.inr (Or.inr (Or.inr (Or.inr (Or.inl h))))))) (fun h => (Or.elim h (fun h => (Or.inr (Or.inr (Or.inr (Or.inr (Or.inr (Or.inr (Or.inl h)))))))) (fun h => (Or.elim h (fun h => (Or.inr (Or.inr (Or.inr (Or.inr (Or.inr (Or.inr (Or.inr (Or.inl h))))))))) (fun h => (Or.inr (Or.inr (Or.inr (Or.inr (Or.inr (Or.inr (Or.inr (Or.inr (Or.inl h))))))))))))))))))))))))).trans (hfg7 k j (fun h => hk (Or.elim h (fun h => (Or.inl (show (1 ≤ k ∧ k < 81) by have h9 : k = (x.2.1 + 1) := h; omega))) (fun h => (Or.elim h (fun h => (Or.inl (show (1 ≤ k ∧ k < 81) by have h9 : k = (x.2.1 + 26) := h; omega))) (fun h => (Or.elim h (fun h => (Or.inl (show (1 ≤ k ∧ k < 81) by have h9 : k = x.2.1 := h; omega))) (fun h => (Or.inl (show (1 ≤ k ∧ k < 81) by have h9 : k = (x.2.1 + 36) := h; omega))))))))))))))) (by omega) (by omega) (by have h9 := (show g31 82 1 = (g10 82 1) from ((hfg31 82 1 (fun h => (absurd (show 82 = 100 from h) (by decide)))).trans ((hug22.2 82 1 (fun h => absurd h.1 (by decide))).trans ((hfg14 82 1 nj_4).trans rfl)))); omega) (by omega) hE)
        · skip
          replace hE := zf_ip hE c47_19
          refine mm_g 1 (pc1 := 51) (lo1 := [some (.ref 0), some (.int (Int32.ofInt a1)), some (.int (Int32.ofInt v13))]) (st1 := [.ref 0]) (H1 := mz_mk g14 x) rfl ?_
          refine mz_fgR (v := 81) rfl fd_11_26 (by decide) (sc_0 _) (rf_0_3 _ _ _) ?_
          refine mz_cv rfl mt_11_116 (by decide) (sc_81 _) rfl (Nat.le_of_ble_eq_true rfl) (by omega) (f_X4_goesOn (by omega) hx hIg14 (fun v35 l_v35 u_v35 hc36 => ⟨_, rfl, ?_⟩))
          show mm_W d mmX11_baggage 57 [some (.ref 0), some (.int (Int32.ofInt a1)), some (.int (Int32.ofInt v13))] [.int (Int32.ofInt v35)] (mz_mk g14 x) Q
          replace hE := zf_t1 hE hc36
          refine mz_if_eq (tgt := 77) rfl rfl (mz_rg l_v35 u_v35) (fun c57_36 => ?_) (fun c57_36 => ?_)
          · skip
            replace hE := zf_ip hE c57_36
            refine mm_g 2 (pc1 := 79) (lo1 := [some (.ref 0), some (.int (Int32.ofInt a1)), some (.int (Int32.ofInt v13))]) (st1 := [.ref 0, .ref 0]) (H1 := mz_mk g14 x) rfl ?_
            refine mz_fgR (v := 81) rfl fd_11_26 (by decide) (sc_0 _) (rf_0_3 _ _ _) ?_
            refine mz_cv rfl mt_11_124 (by decide) (sc_81 _) rfl (Nat.le_of_ble_eq_true rfl) (by omega) (f_X4_place (by omega) hx hIg14 (fun v37 l_v37 u_v37 hc38 => ⟨_, rfl, ?_⟩))
            show mm_W d mmX11_baggage 85 [some (.ref 0), some (.int (Int32.ofInt a1)), some (.int (Int32.ofInt v13))] [.int (Int32.ofInt v37), .ref 0] (mz_mk g14 x) Q
            replace hE := zf_t1 hE hc38
            refine mz_pI rfl fd_11_9 (sc_0 _) hIg14 bd_0_0 (by omega) (by omega) (fun g39 hIg39 hug39 => ?_)
            replace hE := zf_tr hE (zf_lg hug39)
            refine mm_g 1 (pc1 := 89) (lo1 := [some (.ref 0), some (.int (Int32.ofInt a1)), some (.int (Int32.ofInt v13))]) (st1 := [.ref 0]) (H1 := mz_mk g39 x) rfl ?_
            refine mz_fgR (v := 81) rfl fd_11_26 (by decide) (sc_0 _) (rf_0_3 _ _ _) ?_
            refine mz_cv rfl mt_11_128 (by decide) (sc_81 _) rfl (Nat.le_of_ble_eq_true rfl) (by omega) (f_X4_faultKind (by omega) hx hIg39 (fun v40 l_v40 u_v40 hc41 => ⟨_, rfl, ?_⟩))
            show mm_W d mmX11_baggage 95 [some (.ref 0), some (.int (Int32.ofInt a1)), some (.int (Int32.ofInt v13))] [.int (Int32.ofInt v40)] (mz_mk g39 x) Q
            replace hE := zf_t1 hE hc41
            refine mz_if_eq (tgt := 115) rfl rfl (mz_rg l_v40 u_v40) (fun c95_41 => ?_) (fun c95_41 => ?_)
            · skip
              replace hE := zf_ip hE c95_41
              refine mm_g 1 (pc1 := 116) (lo1 := [some (.ref 0), some (.int (Int32.ofInt a1)), some (.int (Int32.ofInt v13))]) (st1 := [.ref 0]) (H1 := mz_mk g39 x) rfl ?_
              refine mz_fgR (v := x.1) rfl fd_11_16 (by decide) (sc_0 _) rfl ?_
              refine mm_g 3 (pc1 := 122) (lo1 := [some (.ref 0), some (.int (Int32.ofInt a1)), some (.ref x.1)]) (st1 := [.ref 0, .ref 0]) (H1 := mz_mk g39 x) rfl ?_
              refine mz_fgR (v := x.2.1) rfl fd_11_20 (by decide) (sc_0 _) rfl ?_
              refine mz_ld1 rfl fd_11_16 ?_
              refine mm_g 2 (pc1 := 130) (lo1 := [some (.ref 0), some (.int (Int32.ofInt a1)), some (.ref x.1)]) (st1 := [.ref x.1, .ref 0]) (H1 := mz_mk g39 (x.2.1, x.2)) rfl ?_
              refine mz_ld2 rfl fd_11_20 ?_
              obtain ⟨x1, hx1, hq1, hq2⟩ := mz_swap hx
              rw [show mz_mk g39 ((x.2.1, x.2).1, x.1, (x.2.1, x.2).2.2) = mz_mk g39 x1 from congrArg (mz_mk g39) hx1.symm]
              have kx1 := kn_x hq1
              replace hE := zf_tr hE (zf_le hx1.symm)
              refine mm_g 1 (pc1 := 134) (lo1 := [some (.ref 0), some (.int (Int32.ofInt a1)), some (.ref x.1)]) (st1 := [.ref 0]) (H1 := mz_mk g39 x1) rfl ?_
              refine mz_fgR (v := x1.1) rfl fd_11_16 (by decide) (sc_0 _) rfl ?_
              refine mz_fgR (v := (x1.1 + 1)) rfl fd_11_135 (by decide) (kc_load (kx_1 hq1) _) (kr_load_0 (kx_1 hq1) _ _ _) ?_
              refine mm_g 1 (pc1 := 141) (lo1 := [some (.ref 0), some (.int (Int32.ofInt a1)), some (.ref x.1)]) (st1 := [.ref 0, .ref (x1.1 + 1)]) (H1 := mz_mk g39 x1) rfl ?_
              refine mz_fgR (v := 85) rfl fd_11_30 (by decide) (sc_0 _) (rf_0_4 _ _ _) ?_
              refine mz_cv rfl mt_11_139 (by decide) (kc_words (ks_load_0 (kx_1 hq1)) _) rfl (Nat.le_of_ble_eq_true rfl) (by omega) (f_X10_settle (by omega) hq1 hIg39 (ks_load_0 (kx_1 hq1)) (sh_85 _) (by decide) ba_85 (fun g42 hIg42 hfg42 hc43 => ⟨_, rfl, ?_⟩))
              show mm_W d mmX11_baggage 147 [some (.ref 0), some (.int (Int32.ofInt a1)), some (.ref x.1)] [] (mz_mk g42 x1) Q
              replace hE := zf_t1 hE hc43
              refine mm_g 1 (pc1 := 148) (lo1 := [some (.ref 0), some (.int (Int32.ofInt a1)), some (.ref x.1)]) (st1 := [.ref 0]) (H1 := mz_mk g42 x1) rfl ?_
              refine mz_fgR (v := 86) rfl fd_11_37 (by decide) (sc_0 _) (rf_0_5 _ _ _) ?_
              refine mm_g 1 (pc1 := 152) (lo1 := [some (.ref 0), some (.int (Int32.ofInt a1)), some (.ref x.1)]) (st1 := [.ref 0, .ref 86]) (H1 := mz_mk g42 x1) rfl ?_
              refine mz_fgR (v := x1.1) rfl fd_11_16 (by decide) (sc_0 _) rfl ?_
              refine mz_fgR (v := (x1.1 + 26)) rfl fd_11_145 (by decide) (kc_load (kx_1 hq1) _) (kr_load_1 (kx_1 hq1) _ _ _) ?_
              refine mz_cv rfl mt_11_148 (by decide) (sc_86 _) rfl (Nat.le_of_ble_eq_true rfl) (by omega) (f_X6_beginWith (by omega) hq1 hIg42 kp_story_86 (ks_load_1 (kx_1 hq1)) (fun g44 hIg44 hfg44 hc45 => ⟨_, rfl, ?_⟩))
              show mm_W d mmX11_baggage 161 [some (.ref 0), some (.int (Int32.ofInt a1)), some (.ref x.1)] [] (mz_mk g44 x1) Q
              replace hE := zf_t1 hE hc45
              refine mm_g 2 (pc1 := 163) (lo1 := [some (.ref 0), some (.int (Int32.ofInt a1)), some (.ref x.1)]) (st1 := [.int (Int32.ofInt 0), .ref 0]) (H1 := mz_mk g44 x1) rfl ?_
              refine mz_pZ rfl fd_11_44 (sc_0 _) (by decide) hIg44 bd_0_7 (by omega) (by omega) (fun g46 hIg46 hug46 => ?_)
              replace hE := zf_tr hE (zf_lg hug46)
              refine mm_g 1 (pc1 := 167) (lo1 := [some (.ref 0), some (.int (Int32.ofInt a1)), some (.ref x.1)]) (st1 := [.int (Int32.ofInt 0)]) (H1 := mz_mk g46 x1) rfl ?_
              exact mm_rt rfl rfl (hQ _ _ _ hq1 hq2 hIg46 (fun k j hk => ((hug46.2 k j (fun h => hk (Or.inr (Or.inr (Or.inr (Or.inr (Or.inr (Or.inr (Or.inr (Or.inr (Or.inr (Or.inr (Or.inr (Or.inr (Or.inr (Or.inr (Or.inr (Or.inr (Or.inr (Or.inr (Or.inr (Or.inl h)))))))))))))))))))))).trans ((hfg44 k j (fun h => hk (Or.elim h (fun h => (Or.inr (Or.inr (Or.inr (Or.inr (Or.inr (Or.inr (Or.inr (Or.inr (Or.inr (Or.inr (Or.inr (Or.inr (Or.inr (Or.inr (Or.inr (Or.inr (Or.inr (Or.inl h))))))))))))))))))) (fun h => (Or.inr (Or.inr (Or.inr (Or.inr (Or.inr (Or.inr (Or.inr (Or.inr (Or.inr (Or.inr (Or.inr (Or.inr (Or.inr (Or.inr (Or.inr (Or.inr (Or.inr (Or.inr (Or.inl h))))))))))))))))))))))).trans ((hfg42 k j (fun h => hk (Or.elim h (fun h => (Or.inl (show (1 ≤ k ∧ k < 81) by have h9 : k = ((x1.1 + 1) + 5) := h; omega))) (fun h => (Or.elim h (fun h => (Or.inl (show (1 ≤ k ∧ k < 81) by have h9 : k = ((x1.1 + 1) + 6) := h; omega))) (fun h => (Or.elim h (fun h => (Or.inr (Or.inr (Or.inr (Or.inr (Or.inr (Or.inr (Or.inr (Or.inr (Or.inr (Or.inr (Or.inr (Or.inr (Or.inr (Or.inr (Or.inr (Or.inr (Or.inl h)))))))))))))))))) (fun h => (Or.elim h (fun h => (Or.inl (show (1 ≤ k ∧ k < 81) by have h9 : k = ((x1.1 + 1) + 7) := h; omega))) (fun h => (Or.elim h (fun h => (Or.inl (show (1 ≤ k ∧ k < 81) by have h9 : k = ((x1.1 + 1) + 8) := h; omega))) (fun h => (Or.inl (show (1 ≤ k ∧ k < 81) by have h9 : k = (x1.1 + 1) := h; omega)))))))))))))).trans ((hug39.2 k j (fun h => hk (Or.inr (Or.inr (Or.inr (Or.inr (Or.inr (Or.inr (Or.inr (Or.inr (Or.inr (Or.inr (Or.inr (Or.inr (Or.inr (Or.inr (Or.inr (Or.inl h)))))))))))))))))).trans ((hfg14 k j (fun h => hk (Or.elim h (fun h => (Or.inr (Or.inr (Or.inr (Or.inr (Or.inr (Or.inl h))))))) (fun h => (Or.elim h (fun h => (Or.inr (Or.inr (Or.inr (Or.inr (Or.inr (Or.inr (Or.inl h)))))))) (fun h => (Or.elim h (fun h => (Or.inr (Or.inr (Or.inr (Or.inr (Or.inr (Or.inr (Or.inr (Or.inl h))))))))) (fun h => (Or.elim h (fun h => (Or.inr (Or.inr (Or.inr (Or.inr (Or.inr (Or.inr (Or.inr (Or.inr (Or.inl h)))))))))) (fun h => (Or.elim h (fun h => (Or.inr (Or.inl h))) (fun h => (Or.elim h (fun h => (Or.inr (Or.inr (Or.inl h)))) (fun h => (Or.elim h (fun h => (Or.inl h)) (fun h => (Or.elim h (fun h => (Or.inr (Or.inr (Or.inr (Or.inr (Or.inr (Or.inr (Or.inr (Or.inr (Or.inr (Or.inl h))))))))))) (fun h => (Or.elim h (fun h => (Or.inr (Or.inr (Or.inr (Or.inr (Or.inr (Or.inr (Or.inr (Or.inr (Or.inr (Or.inr (Or.inl h)))))))))))) (fun h => (Or.elim h (fun h => (Or.inr (Or.inr (Or.inr (Or.inr (Or.inr (Or.inr (Or.inr (Or.inr (Or.inr (Or.inr (Or.inr (Or.inl h))))))))))))) (fun h => (Or.elim h (fun h => (Or.inr (Or.inr (Or.inr (Or.inr (Or.inr (Or.inr (Or.inr (Or.inr (Or.inr (Or.inr (Or.inr (Or.inr (Or.inl h)))))))))))))) (fun h => (Or.elim h (fun h => (Or.inr (Or.inr (Or.inr (Or.inr (Or.inr (Or.inr (Or.inr (Or.inr (Or.inr (Or.inr (Or.inr (Or.inr (Or.inr (Or.inl h))))))))))))))) (fun h => (Or.inr (Or.inr (Or.inr (Or.inr (Or.inr (Or.inr (Or.inr (Or.inr (Or.inr (Or.inr (Or.inr (Or.inr (Or.inr (Or.inr (Or.inl h))))))))))))))))))))))))))))))))))))))))).trans ((hfg10 k j (fun h => hk (Or.elim h (fun h => (Or.inr (Or.inl h))) (fun h => (Or.elim h (fun h => (Or.inr (Or.inr (Or.inl h)))) (fun h => (Or.elim h (fun h => (Or.inr (Or.inr (Or.inr (Or.inl h))))) (fun h => (Or.elim h (fun h => (Or.inr (Or.inr (Or.inr (Or.inr (Or.inl h)))))) (fun h => (Or.elim h (fun h => (Or.inr (Or.inr (Or.inr (Or.inr (Or.inr (Or.inl h))))))) (fun h => (Or.elim h (fun h => (Or.inr (Or.inr (Or.inr (Or.inr (Or.inr (Or.inr (Or.inl h)))))))) (fun h => (Or.elim h (fun h => (Or.inr (Or.inr (Or.inr (Or.inr (Or.inr (Or.inr (Or.inr (Or.inl h))))))))) (fun h => (Or.inr (Or.inr (Or.inr (Or.inr (Or.inr (Or.inr (Or.inr (Or.inr (Or.inl h))))))))))))))))))))))))).trans (hfg7 k j (fun h => hk (Or.elim h (fun h => (Or.inl (show (1 ≤ k ∧ k < 81) by have h9 : k = (x.2.1 + 1) := h; omega))) (fun h => (Or.elim h (fun h => (Or.inl (show (1 ≤ k ∧ k < 81) by have h9 : k = (x.2.1 + 26) := h; omega))) (fun h => (Or.elim h (fun h => (Or.inl (show (1 ≤ k ∧ k < 81) by have h9 : k = x.2.1 := h; omega))) (fun h => (Or.inl (show (1 ≤ k ∧ k < 81) by have h9 : k = (x.2.1 + 36) := h; omega))))))))))))))))) (by decide) (by decide) (by have h9 := (show g46 82 1 = (g10 82 1) from ((hug46.2 82 1 (fun h => absurd h.1 (by decide))).trans ((hfg44 82 1 nj_3).trans ((hfg42 82 1 (fun h => (Or.elim h (fun h => (by have h9 : 82 = ((x1.1 + 1) + 5) := h; omega)) (fun h => (Or.elim h (fun h => (by have h9 : 82 = ((x1.1 + 1) + 6) := h; omega)) (fun h => (Or.elim h (fun h => (absurd (show 82 = 85 from h) (by decide))) (fun h => (Or.elim h (fun h => (by have h9 : 82 = ((x1.1 + 1) + 7) := h; omega)) (fun h => (Or.elim h (fun h => (by have h9 : 82 = ((x1.1 + 1) + 8) := h; omega)) (fun h => (by have h9 : 82 = (x1.1 + 1) := h; omega))))))))))))).trans ((hug39.2 82 1 (fun h => absurd h.1 (by decide))).trans ((hfg14 82 1 nj_4).trans rfl)))))); omega) (by omega) hE)
            · skip
              replace hE := zf_in hE c95_41
              refine mm_g 1 (pc1 := 99) (lo1 := [some (.ref 0), some (.int (Int32.ofInt a1)), some (.int (Int32.ofInt v13))]) (st1 := [.ref 0]) (H1 := mz_mk g39 x) rfl ?_
              refine mz_fgR (v := 86) rfl fd_11_37 (by decide) (sc_0 _) (rf_0_5 _ _ _) ?_
              refine mm_g 1 (pc1 := 103) (lo1 := [some (.ref 0), some (.int (Int32.ofInt a1)), some (.int (Int32.ofInt v13))]) (st1 := [.int (Int32.ofInt 0), .ref 86]) (H1 := mz_mk g39 x) rfl ?_
              refine mz_cv rfl mt_11_131 (by decide) (sc_86 _) rfl (Nat.le_of_ble_eq_true rfl) (by omega) (f_X6_refuse (by omega) hx hIg39 kp_story_86 (by decide) (by decide) (fun v47 g48 hIg48 hfg48 l_v47 u_v47 hc49 => ⟨_, rfl, ?_⟩))
              show mm_W d mmX11_baggage 106 [some (.ref 0), some (.int (Int32.ofInt a1)), some (.int (Int32.ofInt v13))] [.int (Int32.ofInt v47)] (mz_mk g48 x) Q
              replace hE := zf_t2 hE hc49
              refine mm_g 2 (pc1 := 108) (lo1 := [some (.ref 0), some (.int (Int32.ofInt a1)), some (.int (Int32.ofInt v13))]) (st1 := [.ref 0]) (H1 := mz_mk g48 x) rfl ?_
              refine mz_fgR (v := 81) rfl fd_11_26 (by decide) (sc_0 _) (rf_0_3 _ _ _) ?_
              refine mz_cv rfl mt_11_128 (by decide) (sc_81 _) rfl (Nat.le_of_ble_eq_true rfl) (by omega) (f_X4_faultKind (by omega) hx hIg48 (fun v50 l_v50 u_v50 hc51 => ⟨_, rfl, ?_⟩))
              show mm_W d mmX11_baggage 114 [some (.ref 0), some (.int (Int32.ofInt a1)), some (.int (Int32.ofInt v13))] [.int (Int32.ofInt v50)] (mz_mk g48 x) Q
              replace hE := zf_t1 hE hc51
              exact mm_rt rfl rfl (hQ _ _ _ hx rfl hIg48 (fun k j hk => ((hfg48 k j (fun h => hk (Or.inr (Or.inr (Or.inr (Or.inr (Or.inr (Or.inr (Or.inr (Or.inr (Or.inr (Or.inr (Or.inr (Or.inr (Or.inr (Or.inr (Or.inr (Or.inr (Or.inr (Or.inr (Or.inr (Or.inr h)))))))))))))))))))))).trans ((hug39.2 k j (fun h => hk (Or.inr (Or.inr (Or.inr (Or.inr (Or.inr (Or.inr (Or.inr (Or.inr (Or.inr (Or.inr (Or.inr (Or.inr (Or.inr (Or.inr (Or.inr (Or.inl h)))))))))))))))))).trans ((hfg14 k j (fun h => hk (Or.elim h (fun h => (Or.inr (Or.inr (Or.inr (Or.inr (Or.inr (Or.inl h))))))) (fun h => (Or.elim h (fun h => (Or.inr (Or.inr (Or.inr (Or.inr (Or.inr (Or.inr (Or.inl h)))))))) (fun h => (Or.elim h (fun h => (Or.inr (Or.inr (Or.inr (Or.inr (Or.inr (Or.inr (Or.inr (Or.inl h))))))))) (fun h => (Or.elim h (fun h => (Or.inr (Or.inr (Or.inr (Or.inr (Or.inr (Or.inr (Or.inr (Or.inr (Or.inl h)))))))))) (fun h => (Or.elim h (fun h => (Or.inr (Or.inl h))) (fun h => (Or.elim h (fun h => (Or.inr (Or.inr (Or.inl h)))) (fun h => (Or.elim h (fun h => (Or.inl h)) (fun h => (Or.elim h (fun h => (Or.inr (Or.inr (Or.inr (Or.inr (Or.inr (Or.inr (Or.inr (Or.inr (Or.inr (Or.inl h))))))))))) (fun h => (Or.elim h (fun h => (Or.inr (Or.inr (Or.inr (Or.inr (Or.inr (Or.inr (Or.inr (Or.inr (Or.inr (Or.inr (Or.inl h)))))))))))) (fun h => (Or.elim h (fun h => (Or.inr (Or.inr (Or.inr (Or.inr (Or.inr (Or.inr (Or.inr (Or.inr (Or.inr (Or.inr (Or.inr (Or.inl h))))))))))))) (fun h => (Or.elim h (fun h => (Or.inr (Or.inr (Or.inr (Or.inr (Or.inr (Or.inr (Or.inr (Or.inr (Or.inr (Or.inr (Or.inr (Or.inr (Or.inl h)))))))))))))) (fun h => (Or.elim h (fun h => (Or.inr (Or.inr (Or.inr (Or.inr (Or.inr (Or.inr (Or.inr (Or.inr (Or.inr (Or.inr (Or.inr (Or.inr (Or.inr (Or.inl h))))))))))))))) (fun h => (Or.inr (Or.inr (Or.inr (Or.inr (Or.inr (Or.inr (Or.inr (Or.inr (Or.inr (Or.inr (Or.inr (Or.inr (Or.inr (Or.inr (Or.inl h))))))))))))))))))))))))))))))))))))))))).trans ((hfg10 k j (fun h => hk (Or.elim h (fun h => (Or.inr (Or.inl h))) (fun h => (Or.elim h (fun h => (Or.inr (Or.inr (Or.inl h)))) (fun h => (Or.elim h (fun h => (Or.inr (Or.inr (Or.inr (Or.inl h))))) (fun h => (Or.elim h (fun h => (Or.inr (Or.inr (Or.inr (Or.inr (Or.inl h)))))) (fun h => (Or.elim h (fun h => (Or.inr (Or.inr (Or.inr (Or.inr (Or.inr (Or.inl h))))))) (fun h => (Or.elim h (fun h => (Or.inr (Or.inr (Or.inr (Or.inr (Or.inr (Or.inr (Or.inl h)))))))) (fun h => (Or.elim h (fun h => (Or.inr (Or.inr (Or.inr (Or.inr (Or.inr (Or.inr (Or.inr (Or.inl h))))))))) (fun h => (Or.inr (Or.inr (Or.inr (Or.inr (Or.inr (Or.inr (Or.inr (Or.inr (Or.inl h))))))))))))))))))))))))).trans (hfg7 k j (fun h => hk (Or.elim h (fun h => (Or.inl (show (1 ≤ k ∧ k < 81) by have h9 : k = (x.2.1 + 1) := h; omega))) (fun h => (Or.elim h (fun h => (Or.inl (show (1 ≤ k ∧ k < 81) by have h9 : k = (x.2.1 + 26) := h; omega))) (fun h => (Or.elim h (fun h => (Or.inl (show (1 ≤ k ∧ k < 81) by have h9 : k = x.2.1 := h; omega))) (fun h => (Or.inl (show (1 ≤ k ∧ k < 81) by have h9 : k = (x.2.1 + 36) := h; omega))))))))))))))) (by omega) (by omega) (by have h9 := (show g48 82 1 = (g10 82 1) from ((hfg48 82 1 (fun h => (absurd (show 82 = 100 from h) (by decide)))).trans ((hug39.2 82 1 (fun h => absurd h.1 (by decide))).trans ((hfg14 82 1 nj_4).trans rfl)))); omega) (by omega) hE)
          · skip
            replace hE := zf_in hE c57_36
            refine mm_g 1 (pc1 := 61) (lo1 := [some (.ref 0), some (.int (Int32.ofInt a1)), some (.int (Int32.ofInt v13))]) (st1 := [.ref 0]) (H1 := mz_mk g14 x) rfl ?_
            refine mz_fgR (v := 81) rfl fd_11_26 (by decide) (sc_0 _) (rf_0_3 _ _ _) ?_
            refine mm_g 1 (pc1 := 65) (lo1 := [some (.ref 0), some (.int (Int32.ofInt a1)), some (.int (Int32.ofInt v13))]) (st1 := [.ref 0, .ref 81]) (H1 := mz_mk g14 x) rfl ?_
            refine mz_fgR (v := x.2.1) rfl fd_11_20 (by decide) (sc_0 _) rfl ?_
            refine mz_cv rfl mt_11_120 (by decide) (sc_81 _) rfl (Nat.le_of_ble_eq_true rfl) (by omega) (f_X4_readLine (by omega) hx hIg14 (kx_2 hx) (fun g52 hIg52 hfg52 hc53 => ⟨_, rfl, ?_⟩))
            show mm_W d mmX11_baggage 71 [some (.ref 0), some (.int (Int32.ofInt a1)), some (.int (Int32.ofInt v13))] [] (mz_mk g52 x) Q
            replace hE := zf_t1 hE hc53
            refine mz_iincR (v := v13) (lo2 := [some (.ref 0), some (.int (Int32.ofInt a1)), some (.int (Int32.ofInt (v13 + 1)))]) rfl rfl rfl (Nat.le_of_ble_eq_true rfl) rfl ?_
            refine mz_gt (tgt := 43) rfl rfl ?_
            exact ih15 ((700 - (v13 + 1)).toNat) (by omega) (v13 + 1) g52 rfl (by omega) (by omega) hIg52 (fun k j hk => ((hfg52 k j (fun h => hk (Or.elim h (fun h => (Or.inl h)) (fun h => (Or.elim h (fun h => (Or.inr (Or.inl h))) (fun h => (Or.elim h (fun h => (Or.inr (Or.inr (Or.inl h)))) (fun h => (Or.elim h (fun h => (Or.inr (Or.inr (Or.inr (Or.inl h))))) (fun h => (Or.elim h (fun h => (Or.inr (Or.inr (Or.inr (Or.inr (Or.inl h)))))) (fun h => (Or.elim h (fun h => (Or.inr (Or.inr (Or.inr (Or.inr (Or.inr (Or.inl h))))))) (fun h => (Or.elim h (fun h => (Or.inr (Or.inr (Or.inr (Or.inr (Or.inr (Or.inr (Or.inl (show (1 ≤ k ∧ k < 81) by have h9 : ((x.2.1 + 26) ≤ k ∧ k < (x.2.1 + 26) + 9) := h; omega))))))))) (fun h => (Or.elim h (fun h => (Or.inr (Or.inr (Or.inr (Or.inr (Or.inr (Or.inr (Or.inr (Or.inl h))))))))) (fun h => (Or.elim h (fun h => (Or.inr (Or.inr (Or.inr (Or.inr (Or.inr (Or.inr (Or.inr (Or.inr (Or.inl h)))))))))) (fun h => (Or.elim h (fun h => (Or.inr (Or.inr (Or.inr (Or.inr (Or.inr (Or.inr (Or.inr (Or.inr (Or.inr (Or.inl h))))))))))) (fun h => (Or.elim h (fun h => (Or.inr (Or.inr (Or.inr (Or.inr (Or.inr (Or.inr (Or.inr (Or.inr (Or.inr (Or.inr (Or.inl h)))))))))))) (fun h => (Or.elim h (fun h => (Or.inr (Or.inr (Or.inr (Or.inr (Or.inr (Or.inr (Or.inr (Or.inr (Or.inr (Or.inr (Or.inr (Or.inl h))))))))))))) (fun h => (Or.elim h (fun h => (Or.inr (Or.inr (Or.inr (Or.inr (Or.inr (Or.inr (Or.inl (show (1 ≤ k ∧ k < 81) by have h9 : k = ((x.2.1 + 36) + 1) := h; omega))))))))) (fun h => (Or.elim h (fun h => (Or.inr (Or.inr (Or.inr (Or.inr (Or.inr (Or.inr (Or.inl (show (1 ≤ k ∧ k < 81) by have h9 : k = (x.2.1 + 36) := h; omega))))))))) (fun h => (Or.elim h (fun h => (Or.inr (Or.inr (Or.inr (Or.inr (Or.inr (Or.inr (Or.inr (Or.inr (Or.inr (Or.inr (Or.inr (Or.inr h))))))))))))) (fun h => (Or.elim h (fun h => (Or.inr (Or.inr (Or.inr (Or.inr (Or.inr (Or.inr (Or.inl (show (1 ≤ k ∧ k < 81) by have h9 : k = (x.2.1 + 35) := h; omega))))))))) (fun h => (Or.elim h (fun h => (Or.inr (Or.inr (Or.inr (Or.inr (Or.inr (Or.inr (Or.inl (show (1 ≤ k ∧ k < 81) by have h9 : k = x.2.1 := h; omega))))))))) (fun h => (Or.inr (Or.inr (Or.inr (Or.inr (Or.inr (Or.inr (Or.inl (show (1 ≤ k ∧ k < 81) by have h9 : ((x.2.1 + 1) ≤ k ∧ k < (x.2.1 + 1) + 25) := h; omega)))))))))))))))))))))))))))))))))))))))))))).trans (hfg14 k j (fun h => hk (Or.elim h (fun h => (Or.inl h)) (fun h => (Or.elim h (fun h => (Or.inr (Or.inl h))) (fun h => (Or.elim h (fun h => (Or.inr (Or.inr (Or.inl h)))) (fun h => (Or.elim h (fun h => (Or.inr (Or.inr (Or.inr (Or.inl h))))) (fun h => (Or.elim h (fun h => (Or.inr (Or.inr (Or.inr (Or.inr (Or.inl h)))))) (fun h => (Or.elim h (fun h => (Or.inr (Or.inr (Or.inr (Or.inr (Or.inr (Or.inl h))))))) (fun h => (Or.elim h (fun h => (Or.inr (Or.inr (Or.inr (Or.inr (Or.inr (Or.inr (Or.inl h)))))))) (fun h => (Or.elim h (fun h => (Or.inr (Or.inr (Or.inr (Or.inr (Or.inr (Or.inr (Or.inr (Or.inl h))))))))) (fun h => (Or.elim h (fun h => (Or.inr (Or.inr (Or.inr (Or.inr (Or.inr (Or.inr (Or.inr (Or.inr (Or.inl h)))))))))) (fun h => (Or.elim h (fun h => (Or.inr (Or.inr (Or.inr (Or.inr (Or.inr (Or.inr (Or.inr (Or.inr (Or.inr (Or.inl h))))))))))) (fun h => (Or.elim h (fun h => (Or.inr (Or.inr (Or.inr (Or.inr (Or.inr (Or.inr (Or.inr (Or.inr (Or.inr (Or.inr (Or.inl h)))))))))))) (fun h => (Or.elim h (fun h => (Or.inr (Or.inr (Or.inr (Or.inr (Or.inr (Or.inr (Or.inr (Or.inr (Or.inr (Or.inr (Or.inr (Or.inl h))))))))))))) (fun h => (Or.inr (Or.inr (Or.inr (Or.inr (Or.inr (Or.inr (Or.inr (Or.inr (Or.inr (Or.inr (Or.inr (Or.inr h)))))))))))))))))))))))))))))))))))))))) ⟨fj18, Nat.lt_of_lt_of_le (show ((700 - (v13 + 1)).toNat) < n16 from (by omega)) fn19, hE⟩
      exact L17 _ 0 g10 rfl (by decide) (by decide) hIg10 (fun _ _ _ => rfl) ⟨3000000000, by omega, hE⟩
theorem f_X11_fault {d : Nat} (hd : 1 ≤ d) {x : mm_X} (hx : mk_x x) {g : mz_G} (hI : mz_inv g) {Q : (Option Value ⊕ Nat) → mm_H → Prop} (hQ : ∀ (r : Int), (-2147483648) ≤ r → r ≤ 2147483647 → zf_E (zF_X11_fault x g) (r) → Q (.inl (some (.int (Int32.ofInt r)))) (mz_mk g x)) : mm_C d 125 [.ref 0] (mz_mk g x) Q := by
  have kx := kn_x hx
  refine ⟨mmX11_fault, [some (.ref 0)], rfl, rfl, ?_⟩
  have hE : zf_E (zF_X11_fault x g) (zF_X11_fault x g) := zf_rf
  refine mm_g 1 (pc1 := 1) (lo1 := [some (.ref 0)]) (st1 := [.ref 0]) (H1 := mz_mk g x) rfl ?_
  refine mz_gI rfl fd_11_9 (by decide) (sc_0 _) hI bd_0_0 (fun v1 e_v1 l_v1 u_v1 => ?_)
  replace hE := zf_tr hE (zf_le e_v1)
  exact mm_rt rfl rfl (hQ _ (by omega) (by omega) hE)
theorem f_X11_trunkCount {d : Nat} (hd : 1 ≤ d) {x : mm_X} (hx : mk_x x) {g : mz_G} (hI : mz_inv g) {Q : (Option Value ⊕ Nat) → mm_H → Prop} (hQ : ∀ (r : Int), 0 ≤ r → r ≤ 6 → zf_E (zF_X11_trunkCount x g) (r) → Q (.inl (some (.int (Int32.ofInt r)))) (mz_mk g x)) : mm_C d 127 [.ref 0] (mz_mk g x) Q := by
  have kx := kn_x hx
  refine ⟨mmX11_trunkCount, [some (.ref 0)], rfl, rfl, ?_⟩
  have hE : zf_E (zF_X11_trunkCount x g) (zF_X11_trunkCount x g) := zf_rf
  refine mm_g 1 (pc1 := 1) (lo1 := [some (.ref 0)]) (st1 := [.ref 0]) (H1 := mz_mk g x) rfl ?_
  refine mz_fgR (v := 86) rfl fd_11_37 (by decide) (sc_0 _) (rf_0_5 _ _ _) ?_
  refine mz_fgR (v := 87) rfl fd_11_158 (by decide) (sc_86 _) (rf_86_0 _ _ _) ?_
  refine mz_gI rfl fd_11_189 (by decide) (sc_87 _) hI bd_87_2 (fun v1 e_v1 l_v1 u_v1 => ?_)
  replace hE := zf_tr hE (zf_le e_v1)
  exact mm_rt rfl rfl (hQ _ (by omega) (by omega) hE)
