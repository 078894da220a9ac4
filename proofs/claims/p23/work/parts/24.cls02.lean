/-! EXACT: the class (wip/p2/tools/gen50.py) -/
theorem bip_6 : (Int8.ofInt 6).toInt32 = Int32.ofInt 6 := by decide
theorem bip_8 : (Int8.ofInt 8).toInt32 = Int32.ofInt 8 := by decide
theorem bip_9 : (Int8.ofInt 9).toInt32 = Int32.ofInt 9 := by decide
theorem fd_0_13 : mm_tab mm_fldT 0 13 = some (0, 0, 0) ∧ mm_tab mm_ftT 0 0 = some 6 := ⟨rfl, rfl⟩
theorem fd_1_25 : mm_tab mm_fldT 1 25 = some (1, 2, 0) ∧ mm_tab mm_ftT 1 2 = some 6 := ⟨rfl, rfl⟩
theorem fd_4_61 : mm_tab mm_fldT 4 61 = some (1, 0, 1) ∧ mm_tab mm_ftT 1 0 = some 6 := ⟨rfl, rfl⟩
theorem fd_4_132 : mm_tab mm_fldT 4 132 = some (1, 1, 1) ∧ mm_tab mm_ftT 1 1 = some 6 := ⟨rfl, rfl⟩
theorem fd_4_136 : mm_tab mm_fldT 4 136 = some (9, 2, 1) ∧ mm_tab mm_ftT 9 2 = some 0 := ⟨rfl, rfl⟩
theorem fd_4_145 : mm_tab mm_fldT 4 145 = some (1, 3, 1) ∧ mm_tab mm_ftT 1 3 = some 0 := ⟨rfl, rfl⟩
theorem fd_9_11 : mm_tab mm_fldT 9 11 = some (9, 0, 0) ∧ mm_tab mm_ftT 9 0 = some 6 := ⟨rfl, rfl⟩
theorem fd_9_18 : mm_tab mm_fldT 9 18 = some (9, 1, 0) ∧ mm_tab mm_ftT 9 1 = some 6 := ⟨rfl, rfl⟩
theorem fd_9_22 : mm_tab mm_fldT 9 22 = some (9, 2, 0) ∧ mm_tab mm_ftT 9 2 = some 0 := ⟨rfl, rfl⟩
theorem fd_9_33 : mm_tab mm_fldT 9 33 = some (8, 0, 1) ∧ mm_tab mm_ftT 8 0 = some 0 := ⟨rfl, rfl⟩
theorem fd_9_36 : mm_tab mm_fldT 9 36 = some (8, 1, 1) ∧ mm_tab mm_ftT 8 1 = some 0 := ⟨rfl, rfl⟩
theorem fd_9_39 : mm_tab mm_fldT 9 39 = some (8, 2, 1) ∧ mm_tab mm_ftT 8 2 = some 0 := ⟨rfl, rfl⟩
theorem fd_9_42 : mm_tab mm_fldT 9 42 = some (8, 3, 1) ∧ mm_tab mm_ftT 8 3 = some 0 := ⟨rfl, rfl⟩
theorem fd_9_45 : mm_tab mm_fldT 9 45 = some (8, 4, 1) ∧ mm_tab mm_ftT 8 4 = some 1 := ⟨rfl, rfl⟩
theorem fd_10_24 : mm_tab mm_fldT 10 24 = some (10, 2, 0) ∧ mm_tab mm_ftT 10 2 = some 6 := ⟨rfl, rfl⟩
theorem mt_0_17 : mm_tab mm_mthT 0 17 = some (0, 177, 3, 1, 11) := rfl
theorem mt_0_23 : mm_tab mm_mthT 0 23 = some (0, 176, 2, 1, 11) := rfl
theorem mt_0_27 : mm_tab mm_mthT 0 27 = some (1, 8, 3, 0, 0) := rfl
theorem mt_1_49 : mm_tab mm_mthT 1 49 = some (0, 177, 3, 1, 11) := rfl
theorem mt_4_95 : mm_tab mm_mthT 4 95 = some (1, 40, 1, 0, 4) := rfl
theorem mt_4_99 : mm_tab mm_mthT 4 99 = some (1, 81, 0, 0, 7) := rfl
theorem mt_4_102 : mm_tab mm_mthT 4 102 = some (1, 106, 0, 0, 10) := rfl
theorem mt_4_107 : mm_tab mm_mthT 4 107 = some (1, 90, 0, 0, 7) := rfl
theorem mt_4_110 : mm_tab mm_mthT 4 110 = some (1, 107, 1, 0, 10) := rfl
theorem mt_4_114 : mm_tab mm_mthT 4 114 = some (1, 93, 1, 0, 7) := rfl
theorem mt_4_118 : mm_tab mm_mthT 4 118 = some (1, 108, 1, 0, 10) := rfl
theorem mt_4_122 : mm_tab mm_mthT 4 122 = some (1, 43, 2, 0, 4) := rfl
theorem mt_4_126 : mm_tab mm_mthT 4 126 = some (1, 109, 1, 0, 10) := rfl
theorem mt_4_129 : mm_tab mm_mthT 4 129 = some (1, 91, 0, 0, 7) := rfl
theorem mt_4_141 : mm_tab mm_mthT 4 141 = some (1, 100, 4, 0, 9) := rfl
theorem mt_4_148 : mm_tab mm_mthT 4 148 = some (1, 14, 1, 0, 1) := rfl
theorem mt_7_69 : mm_tab mm_mthT 7 69 = some (1, 1, 0, 0, 0) := rfl
theorem mt_7_74 : mm_tab mm_mthT 7 74 = some (1, 2, 1, 0, 0) := rfl
theorem mt_9_29 : mm_tab mm_mthT 9 29 = some (1, 99, 1, 0, 9) := rfl
theorem mt_10_50 : mm_tab mm_mthT 10 50 = some (1, 107, 1, 0, 10) := rfl
theorem mt_10_54 : mm_tab mm_mthT 10 54 = some (1, 6, 1, 0, 0) := rfl
theorem mt_10_58 : mm_tab mm_mthT 10 58 = some (0, 177, 3, 1, 11) := rfl
theorem kb_trunk_0 {q : Nat} (h : kd_trunk q) : mz_bd q 0 = ((-2147483648), 2147483647) := by unfold kd_trunk at h; rcases h with rfl | rfl | rfl | rfl | rfl | rfl | rfl | rfl | rfl | rfl | rfl | rfl | rfl | rfl | rfl | rfl | rfl | rfl | rfl | rfl | rfl | rfl | rfl | rfl | rfl | rfl | rfl | rfl | rfl | rfl | rfl | rfl | rfl | rfl | rfl | rfl | rfl <;> rfl
theorem kb_trunk_1 {q : Nat} (h : kd_trunk q) : mz_bd q 1 = ((-2147483648), 2147483647) := by unfold kd_trunk at h; rcases h with rfl | rfl | rfl | rfl | rfl | rfl | rfl | rfl | rfl | rfl | rfl | rfl | rfl | rfl | rfl | rfl | rfl | rfl | rfl | rfl | rfl | rfl | rfl | rfl | rfl | rfl | rfl | rfl | rfl | rfl | rfl | rfl | rfl | rfl | rfl | rfl | rfl <;> rfl
theorem kb_trunk_2 {q : Nat} (h : kd_trunk q) : mz_bd q 2 = ((-2147483648), 2147483647) := by unfold kd_trunk at h; rcases h with rfl | rfl | rfl | rfl | rfl | rfl | rfl | rfl | rfl | rfl | rfl | rfl | rfl | rfl | rfl | rfl | rfl | rfl | rfl | rfl | rfl | rfl | rfl | rfl | rfl | rfl | rfl | rfl | rfl | rfl | rfl | rfl | rfl | rfl | rfl | rfl | rfl <;> rfl
theorem kb_trunk_3 {q : Nat} (h : kd_trunk q) : mz_bd q 3 = ((-2147483648), 2147483647) := by unfold kd_trunk at h; rcases h with rfl | rfl | rfl | rfl | rfl | rfl | rfl | rfl | rfl | rfl | rfl | rfl | rfl | rfl | rfl | rfl | rfl | rfl | rfl | rfl | rfl | rfl | rfl | rfl | rfl | rfl | rfl | rfl | rfl | rfl | rfl | rfl | rfl | rfl | rfl | rfl | rfl <;> rfl
theorem kb_trunk_4 {q : Nat} (h : kd_trunk q) : mz_bd q 4 = (0, 1) := by unfold kd_trunk at h; rcases h with rfl | rfl | rfl | rfl | rfl | rfl | rfl | rfl | rfl | rfl | rfl | rfl | rfl | rfl | rfl | rfl | rfl | rfl | rfl | rfl | rfl | rfl | rfl | rfl | rfl | rfl | rfl | rfl | rfl | rfl | rfl | rfl | rfl | rfl | rfl | rfl | rfl <;> rfl
theorem kr_let_0 {q : Nat} (h : kd_let q) (a b : Nat) (c : Option Nat) : mm_HR a b c q 0 = some (q + 1) := by unfold kd_let at h; rcases h with rfl | rfl | rfl | rfl | rfl | rfl | rfl | rfl | rfl | rfl | rfl | rfl | rfl | rfl | rfl | rfl | rfl | rfl | rfl | rfl <;> rfl
theorem kr_load_2 {q : Nat} (h : kd_load q) (a b : Nat) (c : Option Nat) : mm_HR a b c q 2 = some (q + 35) := by unfold kd_load at h; rcases h with rfl | rfl <;> rfl
theorem kr_tks_0 {q : Nat} (h : kd_tks q) (a b : Nat) (c : Option Nat) : mm_HR a b c q 0 = some (q + 1) := by unfold kd_tks at h; rcases h with rfl | rfl | rfl | rfl | rfl <;> rfl
theorem kr_tks_1 {q : Nat} (h : kd_tks q) (a b : Nat) (c : Option Nat) : mm_HR a b c q 1 = some (q + 2) := by unfold kd_tks at h; rcases h with rfl | rfl | rfl | rfl | rfl <;> rfl
theorem kr_words_2 {q : Nat} (h : kd_words q) (a b : Nat) (c : Option Nat) : mm_HR a b c q 2 = some (q + 4) := by unfold kd_words at h; rcases h with rfl | rfl <;> rfl
theorem ka_load_2 {q : Nat} (h : kd_load q) (L : Nat) : mm_SH L (q + 35) = (100, 8) := by unfold kd_load at h; rcases h with rfl | rfl <;> rfl
theorem kba_load_2 {q : Nat} (h : kd_load q) (j : Nat) : mz_bd (q + 35) j = ((-2147483648), 2147483647) := by unfold kd_load at h; rcases h with rfl | rfl <;> rfl
theorem ka_tks_0 {q : Nat} (h : kd_tks q) (L : Nat) : mm_SH L (q + 1) = (104, 6) := by unfold kd_tks at h; rcases h with rfl | rfl | rfl | rfl | rfl <;> rfl
theorem ka_words_2 {q : Nat} (h : kd_words q) (L : Nat) : mm_SH L (q + 4) = (100, 8) := by unfold kd_words at h; rcases h with rfl | rfl <;> rfl
theorem kba_words_2 {q : Nat} (h : kd_words q) (j : Nat) : mz_bd (q + 4) j = ((-2147483648), 2147483647) := by unfold kd_words at h; rcases h with rfl | rfl <;> rfl
theorem ks_tks_1 {q : Nat} (h : kd_tks q) : kd_trunk (q + 2) := by unfold kd_trunk; unfold kd_tks at h; rcases h with rfl | rfl | rfl | rfl | rfl <;> decide
def fw_X0_addLetter (x : mm_X) (q0 : Nat) (a1 : Int) : Nat → Nat → Prop := fun k j => k = (q0 + 1) ∨ k = q0
theorem f_X0_addLetter {d : Nat} (hd : 2 ≤ d) {x : mm_X} (hx : mk_x x) {g : mz_G} (hI : mz_inv g) {q0 : Nat} (h_q0 : kd_let q0) {a1 : Int} (l_a1 : (-2147483648) ≤ a1) (u_a1 : a1 ≤ 2147483647) {Q : (Option Value ⊕ Nat) → mm_H → Prop} (hQ : ∀ (g1 : mz_G), mz_inv g1 → mz_fr (fw_X0_addLetter x q0 a1) g g1 → zf_E (zF_X0_addLetter q0 a1 g) (g1) → Q (.inl none) (mz_mk g1 x)) : mm_C d 2 [.ref q0, .int (Int32.ofInt a1)] (mz_mk g x) Q := by
  have kn_q0 := kn_let h_q0
  refine ⟨mmX0_addLetter, [some (.ref q0), some (.int (Int32.ofInt a1))], rfl, rfl, ?_⟩
  have hE : zf_E (zF_X0_addLetter q0 a1 g) (zF_X0_addLetter q0 a1 g) := zf_rf
  refine mm_g 1 (pc1 := 1) (lo1 := [some (.ref q0), some (.int (Int32.ofInt a1))]) (st1 := [.ref q0]) (H1 := mz_mk g x) rfl ?_
  refine mz_gI rfl fd_0_7 (by decide) (kc_let h_q0 _) hI (kb_let_1 h_q0) (fun v1 e_v1 l_v1 u_v1 => ?_)
  replace hE := zf_tr hE (zf_le e_v1)
  refine mm_g 1 (pc1 := 5) (lo1 := [some (.ref q0), some (.int (Int32.ofInt a1))]) (st1 := [.ref q0, .int (Int32.ofInt v1)]) (H1 := mz_mk g x) rfl ?_
  refine mz_fgR (v := (q0 + 1)) rfl fd_0_13 (by decide) (kc_let h_q0 _) (kr_let_0 h_q0 _ _ _) ?_
  have hn_n2 := zf_let h_q0 x.2.2.2.1
  have m_n2 := zf_ln_le q0
  have mm_n2 : (zf_ln q0) ≤ 100000 := by omega
  refine mz_al rfl hn_n2 (by decide) ?_
  refine mz_ic_ge (tgt := 34) rfl rfl (mz_rg l_v1 u_v1) ⟨by omega, by omega⟩ (fun c9_2 => ?_) (fun c9_2 => ?_)
  · skip
    replace hE := zf_nl hE c9_2
    exact mm_rt rfl rfl (hQ _ hI (fun _ _ _ => rfl) hE)
  · skip
    replace hE := zf_ip hE c9_2
    refine mm_g 1 (pc1 := 13) (lo1 := [some (.ref q0), some (.int (Int32.ofInt a1))]) (st1 := [.ref q0]) (H1 := mz_mk g x) rfl ?_
    refine mz_fgR (v := (q0 + 1)) rfl fd_0_13 (by decide) (kc_let h_q0 _) (kr_let_0 h_q0 _ _ _) ?_
    have hn_n3 := zf_let h_q0 x.2.2.2.1
    have m_n3 := zf_ln_le q0
    have mm_n3 : (zf_ln q0) ≤ 100000 := by omega
    refine mm_g 1 (pc1 := 17) (lo1 := [some (.ref q0), some (.int (Int32.ofInt a1))]) (st1 := [.ref q0, .ref (q0 + 1)]) (H1 := mz_mk g x) rfl ?_
    refine mz_fgI (v := v1) rfl fd_0_7 (by decide) (kc_let h_q0 _) e_v1 ?_
    replace hE := zf_tr hE (zf_le e_v1)
    refine mm_g 1 (pc1 := 21) (lo1 := [some (.ref q0), some (.int (Int32.ofInt a1))]) (st1 := [.int (Int32.ofInt a1), .int (Int32.ofInt v1), .ref (q0 + 1)]) (H1 := mz_mk g x) rfl ?_
    refine mz_cs rfl mt_0_17 (by decide) rfl (Nat.le_of_ble_eq_true rfl) (by omega) (f_X11_put (by omega) hx hI hn_n3 (by omega) (kba_let_0 h_q0) (by omega) (by omega) (by omega) (by omega) l_a1 u_a1 (by omega) (by omega) (fun g4 hIg4 hfg4 hc5 => ⟨_, rfl, ?_⟩))
    show mm_W d mmX0_addLetter 24 [some (.ref q0), some (.int (Int32.ofInt a1))] [] (mz_mk g4 x) Q
    replace hE := zf_t1 hE hc5
    refine mm_g 2 (pc1 := 26) (lo1 := [some (.ref q0), some (.int (Int32.ofInt a1))]) (st1 := [.ref q0, .ref q0]) (H1 := mz_mk g4 x) rfl ?_
    refine mz_fgI (v := v1) rfl fd_0_7 (by decide) (kc_let h_q0 _) (show g4 q0 1 = v1 from ((hfg4 q0 1 (fun h => (by have h9 : q0 = (q0 + 1) := h; omega))).trans e_v1)) ?_
    replace hE := zf_tr hE (zf_le (show g4 q0 1 = v1 from ((hfg4 q0 1 (fun h => (by have h9 : q0 = (q0 + 1) := h; omega))).trans e_v1)))
    refine mm_g 1 (pc1 := 30) (lo1 := [some (.ref q0), some (.int (Int32.ofInt a1))]) (st1 := [.int (Int32.ofInt 1), .int (Int32.ofInt v1), .ref q0]) (H1 := mz_mk g4 x) rfl ?_
    refine mz_iadd rfl ?_
    refine mz_pI rfl fd_0_7 (kc_let h_q0 _) hIg4 (kb_let_1 h_q0) (by omega) (by omega) (fun g6 hIg6 hug6 => ?_)
    replace hE := zf_tr hE (zf_lg hug6)
    exact mm_rt rfl rfl (hQ _ hIg6 (fun k j hk => ((hug6.2 k j (fun h => hk (Or.inr h.1))).trans (hfg4 k j (fun h => hk (Or.inl h))))) hE)
def fl_X7_spellInto_9 (x : mm_X) (q1 : Nat) : Nat → Nat → Prop := fun k j => k = (q1 + 1) ∨ k = q1
def fw_X7_spellInto (x : mm_X) (q1 : Nat) : Nat → Nat → Prop := fun k j => k = q1 ∨ k = (q1 + 1)
theorem f_X7_spellInto {d : Nat} (hd : 3 ≤ d) {x : mm_X} (hx : mk_x x) {g : mz_G} (hI : mz_inv g) {q1 : Nat} (h_q1 : kd_let q1) {Q : (Option Value ⊕ Nat) → mm_H → Prop} (hQ : ∀ (g1 : mz_G), mz_inv g1 → mz_fr (fw_X7_spellInto x q1) g g1 → zf_E (zF_X7_spellInto q1 g) (g1) → Q (.inl none) (mz_mk g1 x)) : mm_C d 93 [.ref 82, .ref q1] (mz_mk g x) Q := by
  have kn_q1 := kn_let h_q1
  refine ⟨mmX7_spellInto, [some (.ref 82), some (.ref q1), none], rfl, rfl, ?_⟩
  have hE : zf_E (zF_X7_spellInto q1 g) (zF_X7_spellInto q1 g) := zf_rf
  refine mm_g 1 (pc1 := 1) (lo1 := [some (.ref 82), some (.ref q1), none]) (st1 := [.ref q1]) (H1 := mz_mk g x) rfl ?_
  refine mz_cv rfl mt_7_69 (by decide) (kc_let h_q1 _) rfl (Nat.le_of_ble_eq_true rfl) (by omega) (f_X0_empty (by omega) hx hI h_q1 (fun g1 hIg1 hfg1 hc2 => ⟨_, rfl, ?_⟩))
  show mm_W d mmX7_spellInto 4 [some (.ref 82), some (.ref q1), none] [] (mz_mk g1 x) Q
  replace hE := zf_t1 hE hc2
  refine mm_g 1 (pc1 := 5) (lo1 := [some (.ref 82), some (.ref q1), none]) (st1 := [.ref 82]) (H1 := mz_mk g1 x) rfl ?_
  refine mz_gI rfl fd_7_28 (by decide) (sc_82 _) hIg1 bd_82_5 (fun v3 e_v3 l_v3 u_v3 => ?_)
  replace hE := zf_tr hE (zf_le e_v3)
  refine mm_g 1 (pc1 := 9) (lo1 := [some (.ref 82), some (.ref q1), some (.int (Int32.ofInt v3))]) (st1 := []) (H1 := mz_mk g1 x) rfl ?_
  have L8 : ∀ n7 : Nat, ∀ (v4 : Int) (g5 : mz_G), (700 - v4).toNat = n7 → 0 ≤ v4 → v4 ≤ 700 → mz_inv g5 → mz_fr (fl_X7_spellInto_9 x q1) g1 g5 → (∃ fk : Nat, (700 - v4).toNat < fk ∧ zf_E (zF_X7_spellInto q1 g) (zL_X7_spellInto_9 q1 fk v4 g5)) → mm_W d mmX7_spellInto 9 [some (.ref 82), some (.ref q1), some (.int (Int32.ofInt v4))] [] (mz_mk g5 x) Q := by
    intro n7
    induction n7 using Nat.strongRecOn with
    | ind n7 ih6 =>
    intro v4 g5 hmn7 l_v4 u_v4 hIg5 hfg5 hF
    obtain ⟨fk, fl, hE⟩ := hF
    obtain ⟨fj9, rfl⟩ : ∃ fj, fk = fj + 1 := ⟨fk - 1, by omega⟩
    have fn10 : n7 ≤ fj9 := by omega
    replace hE := zf_tr hE zL_X7_spellInto_9_s
    refine mm_g 2 (pc1 := 11) (lo1 := [some (.ref 82), some (.ref q1), some (.int (Int32.ofInt v4))]) (st1 := [.ref 82, .int (Int32.ofInt v4)]) (H1 := mz_mk g5 x) rfl ?_
    refine mz_gI rfl fd_7_22 (by decide) (sc_82 _) hIg5 bd_82_3 (fun v11 e_v11 l_v11 u_v11 => ?_)
    replace hE := zf_tr hE (zf_le e_v11)
    refine mz_ic_ge (tgt := 37) rfl rfl (mz_rg l_v4 u_v4) (mz_rg l_v11 u_v11) (fun c14_11 => ?_) (fun c14_11 => ?_)
    · skip
      replace hE := zf_nl hE c14_11
      exact mm_rt rfl rfl (hQ _ hIg5 (fun k j hk => ((hfg5 k j (fun h => hk (Or.elim h (fun h => (Or.inr h)) (fun h => (Or.inl h))))).trans (hfg1 k j (fun h => hk (Or.inl h))))) hE)
    · skip
      replace hE := zf_ip hE c14_11
      refine mm_g 3 (pc1 := 20) (lo1 := [some (.ref 82), some (.ref q1), some (.int (Int32.ofInt v4))]) (st1 := [.int (Int32.ofInt v4), .ref 82, .ref q1]) (H1 := mz_mk g5 x) rfl ?_
      refine mz_cv rfl mt_7_37 (by decide) (sc_82 _) rfl (Nat.le_of_ble_eq_true rfl) (by omega) (f_X7_byteAt (by omega) hx hIg5 (by omega) (by omega) (fun v12 l_v12 u_v12 hc13 => ⟨_, rfl, ?_⟩))
      show mm_W d mmX7_spellInto 23 [some (.ref 82), some (.ref q1), some (.int (Int32.ofInt v4))] [.int (Int32.ofInt v12), .ref q1] (mz_mk g5 x) Q
      replace hE := zf_t1 hE hc13
      refine mz_bip rfl bip_97 ?_
      refine mz_isub rfl ?_
      refine mm_g 1 (pc1 := 27) (lo1 := [some (.ref 82), some (.ref q1), some (.int (Int32.ofInt v4))]) (st1 := [.int (Int32.ofInt 1), .int (Int32.ofInt (v12 - 97)), .ref q1]) (H1 := mz_mk g5 x) rfl ?_
      refine mz_iadd rfl ?_
      refine mz_cv rfl mt_7_74 (by decide) (kc_let h_q1 _) rfl (Nat.le_of_ble_eq_true rfl) (by omega) (f_X0_addLetter (by omega) hx hIg5 h_q1 (by omega) (by omega) (fun g14 hIg14 hfg14 hc15 => ⟨_, rfl, ?_⟩))
      show mm_W d mmX7_spellInto 31 [some (.ref 82), some (.ref q1), some (.int (Int32.ofInt v4))] [] (mz_mk g14 x) Q
      replace hE := zf_t1 hE hc15
      refine mz_iincR (v := v4) (lo2 := [some (.ref 82), some (.ref q1), some (.int (Int32.ofInt (v4 + 1)))]) rfl rfl rfl (Nat.le_of_ble_eq_true rfl) rfl ?_
      refine mz_gt (tgt := 9) rfl rfl ?_
      exact ih6 ((700 - (v4 + 1)).toNat) (by omega) (v4 + 1) g14 rfl (by omega) (by omega) hIg14 (fun k j hk => ((hfg14 k j (fun h => hk (Or.elim h (fun h => (Or.inl h)) (fun h => (Or.inr h))))).trans (hfg5 k j (fun h => hk (Or.elim h (fun h => (Or.inl h)) (fun h => (Or.inr h))))))) ⟨fj9, Nat.lt_of_lt_of_le (show ((700 - (v4 + 1)).toNat) < n7 from (by omega)) fn10, hE⟩
  exact L8 _ v3 g1 rfl (by omega) (by omega) hIg1 (fun _ _ _ => rfl) ⟨3000000000, by omega, hE⟩
theorem f_X11_at {d : Nat} (hd : 1 ≤ d) {x : mm_X} (hx : mk_x x) {g : mz_G} (hI : mz_inv g) {q1 n_q1 : Nat} {lb_q1 ub_q1 : Int} (h_q1 : mm_SH x.2.2.2.1 q1 = (100, n_q1)) (m_q1 : n_q1 ≤ 2048) (b_q1 : ∀ j, mz_bd q1 j = (lb_q1, ub_q1)) (y_q1 : lb_q1 ≤ 0) (z_q1 : 0 ≤ ub_q1) {a2 : Int} (l_a2 : (-2147483648) ≤ a2) (u_a2 : a2 ≤ 2147483647) {Q : (Option Value ⊕ Nat) → mm_H → Prop} (hQ : ∀ (r : Int), lb_q1 ≤ r → r ≤ ub_q1 → zf_E (zF_X11_at q1 n_q1 a2 g) (r) → Q (.inl (some (.int (Int32.ofInt r)))) (mz_mk g x)) : mm_C d 176 [.ref q1, .int (Int32.ofInt a2)] (mz_mk g x) Q := by
  have kx := kn_x hx
  refine ⟨mmX11_at, [some (.ref q1), some (.int (Int32.ofInt a2))], rfl, rfl, ?_⟩
  have hE : zf_E (zF_X11_at q1 n_q1 a2 g) (zF_X11_at q1 n_q1 a2 g) := zf_rf
  refine mm_g 1 (pc1 := 1) (lo1 := [some (.ref q1), some (.int (Int32.ofInt a2))]) (st1 := [.ref q1]) (H1 := mz_mk g x) rfl ?_
  refine mz_nu rfl ?_
  refine mm_g 1 (pc1 := 5) (lo1 := [some (.ref q1), some (.int (Int32.ofInt a2))]) (st1 := [.int (Int32.ofInt a2)]) (H1 := mz_mk g x) rfl ?_
  refine mz_if_lt (tgt := 20) rfl rfl (mz_rg l_a2 u_a2) (fun c5_0 => ?_) (fun c5_0 => ?_)
  · skip
    replace hE := zf_ip hE c5_0
    refine mm_g 1 (pc1 := 21) (lo1 := [some (.ref q1), some (.int (Int32.ofInt a2))]) (st1 := [.int (Int32.ofInt 0)]) (H1 := mz_mk g x) rfl ?_
    exact mm_rt rfl rfl (hQ _ (by omega) (by omega) hE)
  · skip
    replace hE := zf_nl hE c5_0
    refine mm_g 2 (pc1 := 10) (lo1 := [some (.ref q1), some (.int (Int32.ofInt a2))]) (st1 := [.ref q1, .int (Int32.ofInt a2)]) (H1 := mz_mk g x) rfl ?_
    refine mz_al rfl h_q1 (by decide) ?_
    refine mz_ic_ge (tgt := 20) rfl rfl (mz_rg l_a2 u_a2) ⟨by omega, by omega⟩ (fun c11_0 => ?_) (fun c11_0 => ?_)
    · skip
      replace hE := zf_nl hE c11_0
      refine mm_g 1 (pc1 := 21) (lo1 := [some (.ref q1), some (.int (Int32.ofInt a2))]) (st1 := [.int (Int32.ofInt 0)]) (H1 := mz_mk g x) rfl ?_
      exact mm_rt rfl rfl (hQ _ (by omega) (by omega) hE)
    · skip
      replace hE := zf_ip hE c11_0
      refine mm_g 2 (pc1 := 16) (lo1 := [some (.ref q1), some (.int (Int32.ofInt a2))]) (st1 := [.int (Int32.ofInt a2), .ref q1]) (H1 := mz_mk g x) rfl ?_
      refine mz_aI rfl h_q1 (by omega) (by omega) (by omega) hI (b_q1 _) (fun v1 e_v1 l_v1 u_v1 => ?_)
      replace hE := zf_tr hE (zf_le e_v1)
      refine mz_gt (tgt := 21) rfl rfl ?_
      exact mm_rt rfl rfl (hQ _ (by omega) (by omega) hE)
theorem f_X0_matches {d : Nat} (hd : 2 ≤ d) {x : mm_X} (hx : mk_x x) {g : mz_G} (hI : mz_inv g) {q0 : Nat} (h_q0 : kd_let q0) {a1 : Int} (l_a1 : (-2147483648) ≤ a1) (u_a1 : a1 ≤ 2147483647) {q2 : Nat} (h_q2 : kd_let q2) {a3 : Int} (l_a3 : (-2147483648) ≤ a3) (u_a3 : a3 ≤ 2147483647) {Q : (Option Value ⊕ Nat) → mm_H → Prop} (hQ : ∀ (r : Int), 0 ≤ r → r ≤ 1 → zf_E (zF_X0_matches q0 a1 q2 a3 g) (r) → Q (.inl (some (.int (Int32.ofInt r)))) (mz_mk g x)) : mm_C d 8 [.ref q0, .int (Int32.ofInt a1), .ref q2, .int (Int32.ofInt a3)] (mz_mk g x) Q := by
  have kn_q0 := kn_let h_q0
  have kn_q2 := kn_let h_q2
  refine ⟨mmX0_matches, [some (.ref q0), some (.int (Int32.ofInt a1)), some (.ref q2), some (.int (Int32.ofInt a3)), none], rfl, rfl, ?_⟩
  have hE : zf_E (zF_X0_matches q0 a1 q2 a3 g) (zF_X0_matches q0 a1 q2 a3 g) := zf_rf
  refine mm_g 2 (pc1 := 3) (lo1 := [some (.ref q0), some (.int (Int32.ofInt a1)), some (.ref q2), some (.int (Int32.ofInt a3)), some (.int (Int32.ofInt 0))]) (st1 := []) (H1 := mz_mk g x) rfl ?_
  have L5 : ∀ n4 : Nat, ∀ (v1 : Int), (2147483647 - v1).toNat = n4 → 0 ≤ v1 → v1 ≤ 2147483647 → (∃ fk : Nat, (2147483647 - v1).toNat < fk ∧ zf_E (zF_X0_matches q0 a1 q2 a3 g) (zL_X0_matches_3 q0 a1 q2 a3 g fk v1)) → mm_W d mmX0_matches 3 [some (.ref q0), some (.int (Int32.ofInt a1)), some (.ref q2), some (.int (Int32.ofInt a3)), some (.int (Int32.ofInt v1))] [] (mz_mk g x) Q := by
    intro n4
    induction n4 using Nat.strongRecOn with
    | ind n4 ih3 =>
    intro v1 hmn4 l_v1 u_v1 hF
    obtain ⟨fk, fl, hE⟩ := hF
    obtain ⟨fj6, rfl⟩ : ∃ fj, fk = fj + 1 := ⟨fk - 1, by omega⟩
    have fn7 : n4 ≤ fj6 := by omega
    replace hE := zf_tr hE zL_X0_matches_3_s
    refine mm_g 2 (pc1 := 6) (lo1 := [some (.ref q0), some (.int (Int32.ofInt a1)), some (.ref q2), some (.int (Int32.ofInt a3)), some (.int (Int32.ofInt v1))]) (st1 := [.int (Int32.ofInt a3), .int (Int32.ofInt v1)]) (H1 := mz_mk g x) rfl ?_
    refine mz_ic_ge (tgt := 40) rfl rfl (mz_rg l_v1 u_v1) (mz_rg l_a3 u_a3) (fun c6_7 => ?_) (fun c6_7 => ?_)
    · skip
      replace hE := zf_nl hE c6_7
      refine mm_g 1 (pc1 := 41) (lo1 := [some (.ref q0), some (.int (Int32.ofInt a1)), some (.ref q2), some (.int (Int32.ofInt a3)), some (.int (Int32.ofInt v1))]) (st1 := [.int (Int32.ofInt 1)]) (H1 := mz_mk g x) rfl ?_
      exact mz_rtZ rfl (by decide) (by omega) (hQ _ (by decide) (by decide) hE)
    · skip
      replace hE := zf_ip hE c6_7
      refine mm_g 1 (pc1 := 10) (lo1 := [some (.ref q0), some (.int (Int32.ofInt a1)), some (.ref q2), some (.int (Int32.ofInt a3)), some (.int (Int32.ofInt v1))]) (st1 := [.ref q0]) (H1 := mz_mk g x) rfl ?_
      refine mz_fgR (v := (q0 + 1)) rfl fd_0_13 (by decide) (kc_let h_q0 _) (kr_let_0 h_q0 _ _ _) ?_
      have hn_n8 := zf_let h_q0 x.2.2.2.1
      have m_n8 := zf_ln_le q0
      have mm_n8 : (zf_ln q0) ≤ 100000 := by omega
      refine mm_g 2 (pc1 := 16) (lo1 := [some (.ref q0), some (.int (Int32.ofInt a1)), some (.ref q2), some (.int (Int32.ofInt a3)), some (.int (Int32.ofInt v1))]) (st1 := [.int (Int32.ofInt v1), .int (Int32.ofInt a1), .ref (q0 + 1)]) (H1 := mz_mk g x) rfl ?_
      refine mz_iadd_w rfl (fun v9 e_v9 hwv9 => ?_)
      have l_v9 := hwv9.1
      have u_v9 := hwv9.2
      replace hE := zf_tr hE (zf_le e_v9.symm)
      refine mz_cs rfl mt_0_23 (by decide) rfl (Nat.le_of_ble_eq_true rfl) (by omega) (f_X11_at (by omega) hx hI hn_n8 (by omega) (kba_let_0 h_q0) (by omega) (by omega) l_v9 u_v9 (fun v10 l_v10 u_v10 hc11 => ⟨_, rfl, ?_⟩))
      show mm_W d mmX0_matches 20 [some (.ref q0), some (.int (Int32.ofInt a1)), some (.ref q2), some (.int (Int32.ofInt a3)), some (.int (Int32.ofInt v1))] [.int (Int32.ofInt v10)] (mz_mk g x) Q
      replace hE := zf_t1 hE hc11
      refine mm_g 1 (pc1 := 21) (lo1 := [some (.ref q0), some (.int (Int32.ofInt a1)), some (.ref q2), some (.int (Int32.ofInt a3)), some (.int (Int32.ofInt v1))]) (st1 := [.ref q2, .int (Int32.ofInt v10)]) (H1 := mz_mk g x) rfl ?_
      refine mz_fgR (v := (q2 + 1)) rfl fd_0_13 (by decide) (kc_let h_q2 _) (kr_let_0 h_q2 _ _ _) ?_
      have hn_n12 := zf_let h_q2 x.2.2.2.1
      have m_n12 := zf_ln_le q2
      have mm_n12 : (zf_ln q2) ≤ 100000 := by omega
      refine mm_g 1 (pc1 := 26) (lo1 := [some (.ref q0), some (.int (Int32.ofInt a1)), some (.ref q2), some (.int (Int32.ofInt a3)), some (.int (Int32.ofInt v1))]) (st1 := [.int (Int32.ofInt v1), .ref (q2 + 1), .int (Int32.ofInt v10)]) (H1 := mz_mk g x) rfl ?_
      refine mz_cs rfl mt_0_23 (by decide) rfl (Nat.le_of_ble_eq_true rfl) (by omega) (f_X11_at (by omega) hx hI hn_n12 (by omega) (kba_let_0 h_q2) (by omega) (by omega) (by omega) (by omega) (fun v13 l_v13 u_v13 hc14 => ⟨_, rfl, ?_⟩))
      show mm_W d mmX0_matches 29 [some (.ref q0), some (.int (Int32.ofInt a1)), some (.ref q2), some (.int (Int32.ofInt a3)), some (.int (Int32.ofInt v1))] [.int (Int32.ofInt v13), .int (Int32.ofInt v10)] (mz_mk g x) Q
      replace hE := zf_t1 hE hc14
      refine mz_ic_eq (tgt := 34) rfl rfl (mz_rg l_v10 u_v10) (mz_rg l_v13 u_v13) (fun c29_14 => ?_) (fun c29_14 => ?_)
      · skip
        replace hE := zf_ip hE c29_14
        refine mz_iincR (v := v1) (lo2 := [some (.ref q0), some (.int (Int32.ofInt a1)), some (.ref q2), some (.int (Int32.ofInt a3)), some (.int (Int32.ofInt (v1 + 1)))]) rfl rfl rfl (Nat.le_of_ble_eq_true rfl) rfl ?_
        refine mz_gt (tgt := 3) rfl rfl ?_
        exact ih3 ((2147483647 - (v1 + 1)).toNat) (by omega) (v1 + 1) rfl (by omega) (by omega) ⟨fj6, Nat.lt_of_lt_of_le (show ((2147483647 - (v1 + 1)).toNat) < n4 from (by omega)) fn7, hE⟩
      · skip
        replace hE := zf_in hE c29_14
        refine mm_g 1 (pc1 := 33) (lo1 := [some (.ref q0), some (.int (Int32.ofInt a1)), some (.ref q2), some (.int (Int32.ofInt a3)), some (.int (Int32.ofInt v1))]) (st1 := [.int (Int32.ofInt 0)]) (H1 := mz_mk g x) rfl ?_
        exact mz_rtZ rfl (by decide) (by omega) (hQ _ (by decide) (by decide) hE)
  exact L5 _ 0 rfl (by decide) (by decide) ⟨3000000000, by omega, hE⟩
theorem f_X0_isSame {d : Nat} (hd : 3 ≤ d) {x : mm_X} (hx : mk_x x) {g : mz_G} (hI : mz_inv g) {q0 : Nat} (h_q0 : kd_let q0) {q1 : Nat} (h_q1 : kd_let q1) {Q : (Option Value ⊕ Nat) → mm_H → Prop} (hQ : ∀ (r : Int), 0 ≤ r → r ≤ 1 → zf_E (zF_X0_isSame q0 q1 g) (r) → Q (.inl (some (.int (Int32.ofInt r)))) (mz_mk g x)) : mm_C d 6 [.ref q0, .ref q1] (mz_mk g x) Q := by
  have kn_q0 := kn_let h_q0
  have kn_q1 := kn_let h_q1
  refine ⟨mmX0_isSame, [some (.ref q0), some (.ref q1)], rfl, rfl, ?_⟩
  have hE : zf_E (zF_X0_isSame q0 q1 g) (zF_X0_isSame q0 q1 g) := zf_rf
  refine mm_g 1 (pc1 := 1) (lo1 := [some (.ref q0), some (.ref q1)]) (st1 := [.ref q0]) (H1 := mz_mk g x) rfl ?_
  refine mz_gI rfl fd_0_7 (by decide) (kc_let h_q0 _) hI (kb_let_1 h_q0) (fun v1 e_v1 l_v1 u_v1 => ?_)
  replace hE := zf_tr hE (zf_le e_v1)
  refine mm_g 1 (pc1 := 5) (lo1 := [some (.ref q0), some (.ref q1)]) (st1 := [.ref q1, .int (Int32.ofInt v1)]) (H1 := mz_mk g x) rfl ?_
  refine mz_gI rfl fd_0_7 (by decide) (kc_let h_q1 _) hI (kb_let_1 h_q1) (fun v2 e_v2 l_v2 u_v2 => ?_)
  replace hE := zf_tr hE (zf_le e_v2)
  refine mz_ic_ne (tgt := 28) rfl rfl (mz_rg l_v1 u_v1) (mz_rg l_v2 u_v2) (fun c8_2 => ?_) (fun c8_2 => ?_)
  · skip
    replace hE := zf_in hE c8_2
    refine mm_g 1 (pc1 := 29) (lo1 := [some (.ref q0), some (.ref q1)]) (st1 := [.int (Int32.ofInt 0)]) (H1 := mz_mk g x) rfl ?_
    exact mz_rtZ rfl (by decide) (by omega) (hQ _ (by decide) (by decide) hE)
  · skip
    replace hE := zf_ip hE c8_2
    refine mm_g 4 (pc1 := 15) (lo1 := [some (.ref q0), some (.ref q1)]) (st1 := [.ref q0, .ref q1, .int (Int32.ofInt 0), .ref q0]) (H1 := mz_mk g x) rfl ?_
    refine mz_fgI (v := v1) rfl fd_0_7 (by decide) (kc_let h_q0 _) e_v1 ?_
    replace hE := zf_tr hE (zf_le e_v1)
    refine mz_cv rfl mt_0_27 (by decide) (kc_let h_q0 _) rfl (Nat.le_of_ble_eq_true rfl) (by omega) (f_X0_matches (by omega) hx hI h_q0 (by decide) (by decide) h_q1 (by omega) (by omega) (fun v3 l_v3 u_v3 hc4 => ⟨_, rfl, ?_⟩))
    show mm_W d mmX0_isSame 21 [some (.ref q0), some (.ref q1)] [.int (Int32.ofInt v3)] (mz_mk g x) Q
    replace hE := zf_t1 hE hc4
    refine mz_if_eq (tgt := 28) rfl rfl (mz_rg l_v3 u_v3) (fun c21_4 => ?_) (fun c21_4 => ?_)
    · skip
      replace hE := zf_ip hE c21_4
      refine mm_g 1 (pc1 := 29) (lo1 := [some (.ref q0), some (.ref q1)]) (st1 := [.int (Int32.ofInt 0)]) (H1 := mz_mk g x) rfl ?_
      exact mz_rtZ rfl (by decide) (by omega) (hQ _ (by decide) (by decide) hE)
    · skip
      replace hE := zf_in hE c21_4
      refine mm_g 1 (pc1 := 25) (lo1 := [some (.ref q0), some (.ref q1)]) (st1 := [.int (Int32.ofInt 1)]) (H1 := mz_mk g x) rfl ?_
      refine mz_gt (tgt := 29) rfl rfl ?_
      exact mz_rtZ rfl (by decide) (by omega) (hQ _ (by decide) (by decide) hE)
theorem f_X10_hasAlready {d : Nat} (hd : 4 ≤ d) {x : mm_X} (hx : mk_x x) {g : mz_G} (hI : mz_inv g) {q0 : Nat} (h_q0 : kd_words q0) {q1 : Nat} (h_q1 : kd_let q1) {Q : (Option Value ⊕ Nat) → mm_H → Prop} (hQ : ∀ (r : Int), 0 ≤ r → r ≤ 1 → zf_E (zF_X10_hasAlready q0 q1 g) (r) → Q (.inl (some (.int (Int32.ofInt r)))) (mz_mk g x)) : mm_C d 108 [.ref q0, .ref q1] (mz_mk g x) Q := by
  have kn_q0 := kn_words h_q0
  have kn_q1 := kn_let h_q1
  refine ⟨mmX10_hasAlready, [some (.ref q0), some (.ref q1), none], rfl, rfl, ?_⟩
  have hE : zf_E (zF_X10_hasAlready q0 q1 g) (zF_X10_hasAlready q0 q1 g) := zf_rf
  refine mm_g 2 (pc1 := 2) (lo1 := [some (.ref q0), some (.ref q1), some (.int (Int32.ofInt 0))]) (st1 := []) (H1 := mz_mk g x) rfl ?_
  have L5 : ∀ n4 : Nat, ∀ (v1 : Int), (8 - v1).toNat = n4 → 0 ≤ v1 → v1 ≤ 8 → (∃ fk : Nat, (8 - v1).toNat < fk ∧ zf_E (zF_X10_hasAlready q0 q1 g) (zL_X10_hasAlready_2 q0 q1 g fk v1)) → mm_W d mmX10_hasAlready 2 [some (.ref q0), some (.ref q1), some (.int (Int32.ofInt v1))] [] (mz_mk g x) Q := by
    intro n4
    induction n4 using Nat.strongRecOn with
    | ind n4 ih3 =>
    intro v1 hmn4 l_v1 u_v1 hF
    obtain ⟨fk, fl, hE⟩ := hF
    obtain ⟨fj6, rfl⟩ : ∃ fj, fk = fj + 1 := ⟨fk - 1, by omega⟩
    have fn7 : n4 ≤ fj6 := by omega
    replace hE := zf_tr hE zL_X10_hasAlready_2_s
    refine mm_g 2 (pc1 := 4) (lo1 := [some (.ref q0), some (.ref q1), some (.int (Int32.ofInt v1))]) (st1 := [.ref q0, .int (Int32.ofInt v1)]) (H1 := mz_mk g x) rfl ?_
    refine mz_gI rfl fd_10_28 (by decide) (kc_words h_q0 _) hI (kb_words_3 h_q0) (fun v8 e_v8 l_v8 u_v8 => ?_)
    replace hE := zf_tr hE (zf_le e_v8)
    refine mz_ic_ge (tgt := 30) rfl rfl (mz_rg l_v1 u_v1) (mz_rg l_v8 u_v8) (fun c7_8 => ?_) (fun c7_8 => ?_)
    · skip
      replace hE := zf_nl hE c7_8
      refine mm_g 1 (pc1 := 31) (lo1 := [some (.ref q0), some (.ref q1), some (.int (Int32.ofInt v1))]) (st1 := [.int (Int32.ofInt 0)]) (H1 := mz_mk g x) rfl ?_
      exact mz_rtZ rfl (by decide) (by omega) (hQ _ (by decide) (by decide) hE)
    · skip
      replace hE := zf_ip hE c7_8
      refine mm_g 2 (pc1 := 12) (lo1 := [some (.ref q0), some (.ref q1), some (.int (Int32.ofInt v1))]) (st1 := [.int (Int32.ofInt v1), .ref q0]) (H1 := mz_mk g x) rfl ?_
      refine mz_cv rfl mt_10_50 (by decide) (kc_words h_q0 _) rfl (Nat.le_of_ble_eq_true rfl) (by omega) (f_X10_of (by omega) hx hI h_q0 (by omega) (by omega) (fun u9 k_u9 hp10 hc11 => ⟨_, rfl, ?_⟩))
      show mm_W d mmX10_hasAlready 15 [some (.ref q0), some (.ref q1), some (.int (Int32.ofInt v1))] [.ref u9] (mz_mk g x) Q
      replace hE := zf_t1 hE hc11
      refine mm_g 1 (pc1 := 16) (lo1 := [some (.ref q0), some (.ref q1), some (.int (Int32.ofInt v1))]) (st1 := [.ref q1, .ref u9]) (H1 := mz_mk g x) rfl ?_
      refine mz_cv rfl mt_10_54 (by decide) (kc_let k_u9 _) rfl (Nat.le_of_ble_eq_true rfl) (by omega) (f_X0_isSame (by omega) hx hI k_u9 h_q1 (fun v12 l_v12 u_v12 hc13 => ⟨_, rfl, ?_⟩))
      show mm_W d mmX10_hasAlready 19 [some (.ref q0), some (.ref q1), some (.int (Int32.ofInt v1))] [.int (Int32.ofInt v12)] (mz_mk g x) Q
      replace hE := zf_t1 hE hc13
      refine mz_if_eq (tgt := 24) rfl rfl (mz_rg l_v12 u_v12) (fun c19_13 => ?_) (fun c19_13 => ?_)
      · skip
        replace hE := zf_ip hE c19_13
        refine mz_iincR (v := v1) (lo2 := [some (.ref q0), some (.ref q1), some (.int (Int32.ofInt (v1 + 1)))]) rfl rfl rfl (Nat.le_of_ble_eq_true rfl) rfl ?_
        refine mz_gt (tgt := 2) rfl rfl ?_
        exact ih3 ((8 - (v1 + 1)).toNat) (by omega) (v1 + 1) rfl (by omega) (by omega) ⟨fj6, Nat.lt_of_lt_of_le (show ((8 - (v1 + 1)).toNat) < n4 from (by omega)) fn7, hE⟩
      · skip
        replace hE := zf_in hE c19_13
        refine mm_g 1 (pc1 := 23) (lo1 := [some (.ref q0), some (.ref q1), some (.int (Int32.ofInt v1))]) (st1 := [.int (Int32.ofInt 1)]) (H1 := mz_mk g x) rfl ?_
        exact mz_rtZ rfl (by decide) (by omega) (hQ _ (by decide) (by decide) hE)
  exact L5 _ 0 rfl (by decide) (by decide) ⟨3000000000, by omega, hE⟩
theorem f_X7_number {d : Nat} (hd : 1 ≤ d) {x : mm_X} (hx : mk_x x) {g : mz_G} (hI : mz_inv g) {Q : (Option Value ⊕ Nat) → mm_H → Prop} (hQ : ∀ (r : Int), (-2147483648) ≤ r → r ≤ 2147483647 → zf_E (zF_X7_number g) (r) → Q (.inl (some (.int (Int32.ofInt r)))) (mz_mk g x)) : mm_C d 91 [.ref 82] (mz_mk g x) Q := by
  refine ⟨mmX7_number, [some (.ref 82)], rfl, rfl, ?_⟩
  have hE : zf_E (zF_X7_number g) (zF_X7_number g) := zf_rf
  refine mm_g 1 (pc1 := 1) (lo1 := [some (.ref 82)]) (st1 := [.ref 82]) (H1 := mz_mk g x) rfl ?_
  refine mz_gI rfl fd_7_31 (by decide) (sc_82 _) hI bd_82_6 (fun v1 e_v1 l_v1 u_v1 => ?_)
  replace hE := zf_tr hE (zf_le e_v1)
  exact mm_rt rfl rfl (hQ _ (by omega) (by omega) hE)
def fw_X4_readNumber (x : mm_X) (a1 : Int) (a2 : Int) : Nat → Nat → Prop := fun k j => (k = 82 ∧ j = 3) ∨ (k = 82 ∧ j = 5) ∨ (k = 82 ∧ j = 6) ∨ (k = 82 ∧ j = 4) ∨ (k = 81 ∧ j = 1) ∨ (k = 81 ∧ j = 2)
theorem f_X4_readNumber {d : Nat} (hd : 4 ≤ d) {x : mm_X} (hx : mk_x x) {g : mz_G} (hI : mz_inv g) {a1 : Int} (l_a1 : (-2147483648) ≤ a1) (u_a1 : a1 ≤ 2147483647) {a2 : Int} (l_a2 : (-2147483648) ≤ a2) (u_a2 : a2 ≤ 2147483647) {Q : (Option Value ⊕ Nat) → mm_H → Prop} (hQ : ∀ (r : Int) (g1 : mz_G), mz_inv g1 → mz_fr (fw_X4_readNumber x a1 a2) g g1 → (-2147483648) ≤ r → r ≤ 2147483647 → zf_E (zF_X4_readNumber a1 a2 g) ((r, g1)) → Q (.inl (some (.int (Int32.ofInt r)))) (mz_mk g1 x)) : mm_C d 43 [.ref 81, .int (Int32.ofInt a1), .int (Int32.ofInt a2)] (mz_mk g x) Q := by
  refine ⟨mmX4_readNumber, [some (.ref 81), some (.int (Int32.ofInt a1)), some (.int (Int32.ofInt a2)), none, none], rfl, rfl, ?_⟩
  have hE : zf_E (zF_X4_readNumber a1 a2 g) (zF_X4_readNumber a1 a2 g) := zf_rf
  refine mm_g 3 (pc1 := 3) (lo1 := [some (.ref 81), some (.int (Int32.ofInt a1)), some (.int (Int32.ofInt a2)), some (.int (Int32.ofInt 1)), none]) (st1 := [.ref 81]) (H1 := mz_mk g x) rfl ?_
  refine mz_fgR (v := 82) rfl fd_4_12 (by decide) (sc_81 _) (rf_81_0 _ _ _) ?_
  refine mz_cv rfl mt_4_48 (by decide) (sc_82 _) rfl (Nat.le_of_ble_eq_true rfl) (by omega) (f_X7_kind (by omega) hx hI (fun v1 l_v1 u_v1 hc2 => ⟨_, rfl, ?_⟩))
  show mm_W d mmX4_readNumber 9 [some (.ref 81), some (.int (Int32.ofInt a1)), some (.int (Int32.ofInt a2)), some (.int (Int32.ofInt 1)), none] [.int (Int32.ofInt v1)] (mz_mk g x) Q
  replace hE := zf_t1 hE hc2
  refine mm_g 1 (pc1 := 10) (lo1 := [some (.ref 81), some (.int (Int32.ofInt a1)), some (.int (Int32.ofInt a2)), some (.int (Int32.ofInt 1)), none]) (st1 := [.int (Int32.ofInt 2), .int (Int32.ofInt v1)]) (H1 := mz_mk g x) rfl ?_
  refine mz_ic_eq (tgt := 22) rfl rfl (mz_rg l_v1 u_v1) ⟨by decide, by decide⟩ (fun c10_2 => ?_) (fun c10_2 => ?_)
  · skip
    replace hE := zf_ip hE c10_2
    refine mm_g 1 (pc1 := 23) (lo1 := [some (.ref 81), some (.int (Int32.ofInt a1)), some (.int (Int32.ofInt a2)), some (.int (Int32.ofInt 1)), none]) (st1 := [.ref 81]) (H1 := mz_mk g x) rfl ?_
    refine mz_fgR (v := 82) rfl fd_4_12 (by decide) (sc_81 _) (rf_81_0 _ _ _) ?_
    refine mz_cv rfl mt_4_107 (by decide) (sc_82 _) rfl (Nat.le_of_ble_eq_true rfl) (by omega) (f_X7_tokenSize (by omega) hx hI (fun v3 l_v3 u_v3 hc4 => ⟨_, rfl, ?_⟩))
    show mm_W d mmX4_readNumber 29 [some (.ref 81), some (.int (Int32.ofInt a1)), some (.int (Int32.ofInt a2)), some (.int (Int32.ofInt 1)), none] [.int (Int32.ofInt v3)] (mz_mk g x) Q
    replace hE := zf_t1 hE hc4
    refine mm_g 1 (pc1 := 30) (lo1 := [some (.ref 81), some (.int (Int32.ofInt a1)), some (.int (Int32.ofInt a2)), some (.int (Int32.ofInt 1)), none]) (st1 := [.int (Int32.ofInt 4), .int (Int32.ofInt v3)]) (H1 := mz_mk g x) rfl ?_
    refine mz_ic_le (tgt := 42) rfl rfl (mz_rg l_v3 u_v3) ⟨by decide, by decide⟩ (fun c30_4 => ?_) (fun c30_4 => ?_)
    · skip
      replace hE := zf_nl hE c30_4
      refine mm_g 1 (pc1 := 43) (lo1 := [some (.ref 81), some (.int (Int32.ofInt a1)), some (.int (Int32.ofInt a2)), some (.int (Int32.ofInt 1)), none]) (st1 := [.ref 81]) (H1 := mz_mk g x) rfl ?_
      refine mz_fgR (v := 82) rfl fd_4_12 (by decide) (sc_81 _) (rf_81_0 _ _ _) ?_
      refine mz_cv rfl mt_4_129 (by decide) (sc_82 _) rfl (Nat.le_of_ble_eq_true rfl) (by omega) (f_X7_number (by omega) hx hI (fun v5 l_v5 u_v5 hc6 => ⟨_, rfl, ?_⟩))
      show mm_W d mmX4_readNumber 49 [some (.ref 81), some (.int (Int32.ofInt a1)), some (.int (Int32.ofInt a2)), some (.int (Int32.ofInt 1)), none] [.int (Int32.ofInt v5)] (mz_mk g x) Q
      replace hE := zf_t1 hE hc6
      refine mm_g 1 (pc1 := 50) (lo1 := [some (.ref 81), some (.int (Int32.ofInt a1)), some (.int (Int32.ofInt a2)), some (.int (Int32.ofInt 1)), none]) (st1 := [.int (Int32.ofInt a1), .int (Int32.ofInt v5)]) (H1 := mz_mk g x) rfl ?_
      refine mz_ic_le (tgt := 59) rfl rfl (mz_rg l_v5 u_v5) (mz_rg l_a1 u_a1) (fun c50_6 => ?_) (fun c50_6 => ?_)
      · skip
        replace hE := zf_nl hE c50_6
        refine mm_g 1 (pc1 := 60) (lo1 := [some (.ref 81), some (.int (Int32.ofInt a1)), some (.int (Int32.ofInt a2)), some (.int (Int32.ofInt 1)), none]) (st1 := [.ref 81]) (H1 := mz_mk g x) rfl ?_
        refine mz_fgR (v := 82) rfl fd_4_12 (by decide) (sc_81 _) (rf_81_0 _ _ _) ?_
        refine mz_cv rfl mt_4_129 (by decide) (sc_82 _) rfl (Nat.le_of_ble_eq_true rfl) (by omega) (f_X7_number (by omega) hx hI (fun v7 l_v7 u_v7 hc8 => ⟨_, rfl, ?_⟩))
        show mm_W d mmX4_readNumber 66 [some (.ref 81), some (.int (Int32.ofInt a1)), some (.int (Int32.ofInt a2)), some (.int (Int32.ofInt 1)), none] [.int (Int32.ofInt v7)] (mz_mk g x) Q
        replace hE := zf_t1 hE hc8
        refine mm_g 2 (pc1 := 69) (lo1 := [some (.ref 81), some (.int (Int32.ofInt a1)), some (.int (Int32.ofInt a2)), some (.int (Int32.ofInt 1)), some (.int (Int32.ofInt v7))]) (st1 := [.int (Int32.ofInt 1)]) (H1 := mz_mk g x) rfl ?_
        refine mz_if_eq (tgt := 79) rfl rfl ⟨by decide, by decide⟩ (fun c69_8 => ?_) (fun c69_8 => ?_)
        · exfalso; omega
        · skip
          (try unfold zJ_X4_readNumber_59 at hE)
          (try unfold zJ_X4_readNumber_79 at hE)
          (try unfold zJ_X4_readNumber_59 at hE)
          (try unfold zJ_X4_readNumber_79 at hE)
          replace hE := zf_in hE c69_8
          refine mm_g 1 (pc1 := 73) (lo1 := [some (.ref 81), some (.int (Int32.ofInt a1)), some (.int (Int32.ofInt a2)), some (.int (Int32.ofInt 1)), some (.int (Int32.ofInt v7))]) (st1 := [.ref 81]) (H1 := mz_mk g x) rfl ?_
          refine mz_fgR (v := 82) rfl fd_4_12 (by decide) (sc_81 _) (rf_81_0 _ _ _) ?_
          refine mz_cv rfl mt_4_99 (by decide) (sc_82 _) rfl (Nat.le_of_ble_eq_true rfl) (by omega) (f_X7_step (by omega) hx hI (fun g9 hIg9 hfg9 hc10 => ⟨_, rfl, ?_⟩))
          show mm_W d mmX4_readNumber 79 [some (.ref 81), some (.int (Int32.ofInt a1)), some (.int (Int32.ofInt a2)), some (.int (Int32.ofInt 1)), some (.int (Int32.ofInt v7))] [] (mz_mk g9 x) Q
          replace hE := zf_t1 hE hc10
          refine mm_g 1 (pc1 := 80) (lo1 := [some (.ref 81), some (.int (Int32.ofInt a1)), some (.int (Int32.ofInt a2)), some (.int (Int32.ofInt 1)), some (.int (Int32.ofInt v7))]) (st1 := [.int (Int32.ofInt 1)]) (H1 := mz_mk g9 x) rfl ?_
          refine mz_if_eq (tgt := 88) rfl rfl ⟨by decide, by decide⟩ (fun c80_10 => ?_) (fun c80_10 => ?_)
          · exfalso; omega
          · skip
            (try unfold zJ_X4_readNumber_59 at hE)
            (try unfold zJ_X4_readNumber_79 at hE)
            (try unfold zJ_X4_readNumber_59 at hE)
            (try unfold zJ_X4_readNumber_79 at hE)
            replace hE := zf_in hE c80_10
            refine mm_g 1 (pc1 := 85) (lo1 := [some (.ref 81), some (.int (Int32.ofInt a1)), some (.int (Int32.ofInt a2)), some (.int (Int32.ofInt 1)), some (.int (Int32.ofInt v7))]) (st1 := [.int (Int32.ofInt v7)]) (H1 := mz_mk g9 x) rfl ?_
            refine mz_gt (tgt := 89) rfl rfl ?_
            exact mm_rt rfl rfl (hQ _ _ hIg9 (fun k j hk => (hfg9 k j (fun h => hk (Or.elim h (fun h => (Or.inl h)) (fun h => (Or.elim h (fun h => (Or.inr (Or.inl h))) (fun h => (Or.elim h (fun h => (Or.inr (Or.inr (Or.inl h)))) (fun h => (Or.inr (Or.inr (Or.inr (Or.inl h))))))))))))) (by omega) (by omega) hE)
      · skip
        replace hE := zf_ip hE c50_6
        refine mm_g 2 (pc1 := 55) (lo1 := [some (.ref 81), some (.int (Int32.ofInt a1)), some (.int (Int32.ofInt a2)), some (.int (Int32.ofInt 1)), none]) (st1 := [.int (Int32.ofInt a2), .ref 81]) (H1 := mz_mk g x) rfl ?_
        refine mz_cv rfl mt_4_95 (by decide) (sc_81 _) rfl (Nat.le_of_ble_eq_true rfl) (by omega) (f_X4_blame (by omega) hx hI l_a2 u_a2 (fun v11 g12 hIg12 hfg12 l_v11 u_v11 hc13 => ⟨_, rfl, ?_⟩))
        show mm_W d mmX4_readNumber 58 [some (.ref 81), some (.int (Int32.ofInt a1)), some (.int (Int32.ofInt a2)), some (.int (Int32.ofInt 1)), none] [.int (Int32.ofInt v11)] (mz_mk g12 x) Q
        replace hE := zf_t2 hE hc13
        refine mm_g 2 (pc1 := 60) (lo1 := [some (.ref 81), some (.int (Int32.ofInt a1)), some (.int (Int32.ofInt a2)), some (.int (Int32.ofInt v11)), none]) (st1 := [.ref 81]) (H1 := mz_mk g12 x) rfl ?_
        refine mz_fgR (v := 82) rfl fd_4_12 (by decide) (sc_81 _) (rf_81_0 _ _ _) ?_
        refine mz_cv rfl mt_4_129 (by decide) (sc_82 _) rfl (Nat.le_of_ble_eq_true rfl) (by omega) (f_X7_number (by omega) hx hIg12 (fun v14 l_v14 u_v14 hc15 => ⟨_, rfl, ?_⟩))
        show mm_W d mmX4_readNumber 66 [some (.ref 81), some (.int (Int32.ofInt a1)), some (.int (Int32.ofInt a2)), some (.int (Int32.ofInt v11)), none] [.int (Int32.ofInt v14)] (mz_mk g12 x) Q
        replace hE := zf_t1 hE hc15
        refine mm_g 2 (pc1 := 69) (lo1 := [some (.ref 81), some (.int (Int32.ofInt a1)), some (.int (Int32.ofInt a2)), some (.int (Int32.ofInt v11)), some (.int (Int32.ofInt v14))]) (st1 := [.int (Int32.ofInt v11)]) (H1 := mz_mk g12 x) rfl ?_
        refine mz_if_eq (tgt := 79) rfl rfl (mz_rg l_v11 u_v11) (fun c69_15 => ?_) (fun c69_15 => ?_)
        · skip
          replace hE := zf_ip hE c69_15
          refine mm_g 1 (pc1 := 80) (lo1 := [some (.ref 81), some (.int (Int32.ofInt a1)), some (.int (Int32.ofInt a2)), some (.int (Int32.ofInt v11)), some (.int (Int32.ofInt v14))]) (st1 := [.int (Int32.ofInt v11)]) (H1 := mz_mk g12 x) rfl ?_
          refine mz_if_eq (tgt := 88) rfl rfl (mz_rg l_v11 u_v11) (fun c80_15 => ?_) (fun c80_15 => ?_)
          · skip
            replace hE := zf_ip hE c80_15
            refine mm_g 1 (pc1 := 89) (lo1 := [some (.ref 81), some (.int (Int32.ofInt a1)), some (.int (Int32.ofInt a2)), some (.int (Int32.ofInt v11)), some (.int (Int32.ofInt v14))]) (st1 := [.int (Int32.ofInt (-1))]) (H1 := mz_mk g12 x) rfl ?_
            exact mm_rt rfl rfl (hQ _ _ hIg12 (fun k j hk => (hfg12 k j (fun h => hk (Or.elim h (fun h => (Or.inr (Or.inr (Or.inr (Or.inr (Or.inl h)))))) (fun h => (Or.inr (Or.inr (Or.inr (Or.inr (Or.inr h)))))))))) (by decide) (by decide) hE)
          · exfalso; omega
        · exfalso; omega
    · skip
      replace hE := zf_ip hE c30_4
      refine mm_g 2 (pc1 := 35) (lo1 := [some (.ref 81), some (.int (Int32.ofInt a1)), some (.int (Int32.ofInt a2)), some (.int (Int32.ofInt 1)), none]) (st1 := [.int (Int32.ofInt 2), .ref 81]) (H1 := mz_mk g x) rfl ?_
      refine mz_cv rfl mt_4_95 (by decide) (sc_81 _) rfl (Nat.le_of_ble_eq_true rfl) (by omega) (f_X4_blame (by omega) hx hI (by decide) (by decide) (fun v16 g17 hIg17 hfg17 l_v16 u_v16 hc18 => ⟨_, rfl, ?_⟩))
      show mm_W d mmX4_readNumber 38 [some (.ref 81), some (.int (Int32.ofInt a1)), some (.int (Int32.ofInt a2)), some (.int (Int32.ofInt 1)), none] [.int (Int32.ofInt v16)] (mz_mk g17 x) Q
      replace hE := zf_t2 hE hc18
      refine mm_g 1 (pc1 := 39) (lo1 := [some (.ref 81), some (.int (Int32.ofInt a1)), some (.int (Int32.ofInt a2)), some (.int (Int32.ofInt v16)), none]) (st1 := []) (H1 := mz_mk g17 x) rfl ?_
      refine mz_gt (tgt := 59) rfl rfl ?_
      refine mm_g 1 (pc1 := 60) (lo1 := [some (.ref 81), some (.int (Int32.ofInt a1)), some (.int (Int32.ofInt a2)), some (.int (Int32.ofInt v16)), none]) (st1 := [.ref 81]) (H1 := mz_mk g17 x) rfl ?_
      refine mz_fgR (v := 82) rfl fd_4_12 (by decide) (sc_81 _) (rf_81_0 _ _ _) ?_
      refine mz_cv rfl mt_4_129 (by decide) (sc_82 _) rfl (Nat.le_of_ble_eq_true rfl) (by omega) (f_X7_number (by omega) hx hIg17 (fun v19 l_v19 u_v19 hc20 => ⟨_, rfl, ?_⟩))
      show mm_W d mmX4_readNumber 66 [some (.ref 81), some (.int (Int32.ofInt a1)), some (.int (Int32.ofInt a2)), some (.int (Int32.ofInt v16)), none] [.int (Int32.ofInt v19)] (mz_mk g17 x) Q
      replace hE := zf_t1 hE hc20
      refine mm_g 2 (pc1 := 69) (lo1 := [some (.ref 81), some (.int (Int32.ofInt a1)), some (.int (Int32.ofInt a2)), some (.int (Int32.ofInt v16)), some (.int (Int32.ofInt v19))]) (st1 := [.int (Int32.ofInt v16)]) (H1 := mz_mk g17 x) rfl ?_
      refine mz_if_eq (tgt := 79) rfl rfl (mz_rg l_v16 u_v16) (fun c69_20 => ?_) (fun c69_20 => ?_)
      · skip
        replace hE := zf_ip hE c69_20
        refine mm_g 1 (pc1 := 80) (lo1 := [some (.ref 81), some (.int (Int32.ofInt a1)), some (.int (Int32.ofInt a2)), some (.int (Int32.ofInt v16)), some (.int (Int32.ofInt v19))]) (st1 := [.int (Int32.ofInt v16)]) (H1 := mz_mk g17 x) rfl ?_
        refine mz_if_eq (tgt := 88) rfl rfl (mz_rg l_v16 u_v16) (fun c80_20 => ?_) (fun c80_20 => ?_)
        · skip
          replace hE := zf_ip hE c80_20
          refine mm_g 1 (pc1 := 89) (lo1 := [some (.ref 81), some (.int (Int32.ofInt a1)), some (.int (Int32.ofInt a2)), some (.int (Int32.ofInt v16)), some (.int (Int32.ofInt v19))]) (st1 := [.int (Int32.ofInt (-1))]) (H1 := mz_mk g17 x) rfl ?_
          exact mm_rt rfl rfl (hQ _ _ hIg17 (fun k j hk => (hfg17 k j (fun h => hk (Or.elim h (fun h => (Or.inr (Or.inr (Or.inr (Or.inr (Or.inl h)))))) (fun h => (Or.inr (Or.inr (Or.inr (Or.inr (Or.inr h)))))))))) (by decide) (by decide) hE)
        · exfalso; omega
      · exfalso; omega
  · skip
    replace hE := zf_in hE c10_2
    refine mm_g 2 (pc1 := 15) (lo1 := [some (.ref 81), some (.int (Int32.ofInt a1)), some (.int (Int32.ofInt a2)), some (.int (Int32.ofInt 1)), none]) (st1 := [.int (Int32.ofInt 1), .ref 81]) (H1 := mz_mk g x) rfl ?_
    refine mz_cv rfl mt_4_95 (by decide) (sc_81 _) rfl (Nat.le_of_ble_eq_true rfl) (by omega) (f_X4_blame (by omega) hx hI (by decide) (by decide) (fun v21 g22 hIg22 hfg22 l_v21 u_v21 hc23 => ⟨_, rfl, ?_⟩))
    show mm_W d mmX4_readNumber 18 [some (.ref 81), some (.int (Int32.ofInt a1)), some (.int (Int32.ofInt a2)), some (.int (Int32.ofInt 1)), none] [.int (Int32.ofInt v21)] (mz_mk g22 x) Q
    replace hE := zf_t2 hE hc23
    refine mm_g 1 (pc1 := 19) (lo1 := [some (.ref 81), some (.int (Int32.ofInt a1)), some (.int (Int32.ofInt a2)), some (.int (Int32.ofInt v21)), none]) (st1 := []) (H1 := mz_mk g22 x) rfl ?_
    refine mz_gt (tgt := 59) rfl rfl ?_
    refine mm_g 1 (pc1 := 60) (lo1 := [some (.ref 81), some (.int (Int32.ofInt a1)), some (.int (Int32.ofInt a2)), some (.int (Int32.ofInt v21)), none]) (st1 := [.ref 81]) (H1 := mz_mk g22 x) rfl ?_
    refine mz_fgR (v := 82) rfl fd_4_12 (by decide) (sc_81 _) (rf_81_0 _ _ _) ?_
    refine mz_cv rfl mt_4_129 (by decide) (sc_82 _) rfl (Nat.le_of_ble_eq_true rfl) (by omega) (f_X7_number (by omega) hx hIg22 (fun v24 l_v24 u_v24 hc25 => ⟨_, rfl, ?_⟩))
    show mm_W d mmX4_readNumber 66 [some (.ref 81), some (.int (Int32.ofInt a1)), some (.int (Int32.ofInt a2)), some (.int (Int32.ofInt v21)), none] [.int (Int32.ofInt v24)] (mz_mk g22 x) Q
    replace hE := zf_t1 hE hc25
    refine mm_g 2 (pc1 := 69) (lo1 := [some (.ref 81), some (.int (Int32.ofInt a1)), some (.int (Int32.ofInt a2)), some (.int (Int32.ofInt v21)), some (.int (Int32.ofInt v24))]) (st1 := [.int (Int32.ofInt v21)]) (H1 := mz_mk g22 x) rfl ?_
    refine mz_if_eq (tgt := 79) rfl rfl (mz_rg l_v21 u_v21) (fun c69_25 => ?_) (fun c69_25 => ?_)
    · skip
      replace hE := zf_ip hE c69_25
      refine mm_g 1 (pc1 := 80) (lo1 := [some (.ref 81), some (.int (Int32.ofInt a1)), some (.int (Int32.ofInt a2)), some (.int (Int32.ofInt v21)), some (.int (Int32.ofInt v24))]) (st1 := [.int (Int32.ofInt v21)]) (H1 := mz_mk g22 x) rfl ?_
      refine mz_if_eq (tgt := 88) rfl rfl (mz_rg l_v21 u_v21) (fun c80_25 => ?_) (fun c80_25 => ?_)
      · skip
        replace hE := zf_ip hE c80_25
        refine mm_g 1 (pc1 := 89) (lo1 := [some (.ref 81), some (.int (Int32.ofInt a1)), some (.int (Int32.ofInt a2)), some (.int (Int32.ofInt v21)), some (.int (Int32.ofInt v24))]) (st1 := [.int (Int32.ofInt (-1))]) (H1 := mz_mk g22 x) rfl ?_
        exact mm_rt rfl rfl (hQ _ _ hIg22 (fun k j hk => (hfg22 k j (fun h => hk (Or.elim h (fun h => (Or.inr (Or.inr (Or.inr (Or.inr (Or.inl h)))))) (fun h => (Or.inr (Or.inr (Or.inr (Or.inr (Or.inr h)))))))))) (by decide) (by decide) hE)
      · exfalso; omega
    · exfalso; omega
def fw_X10_takeNext (x : mm_X) (q0 : Nat) (a1 : Int) : Nat → Nat → Prop := fun k j => k = (q0 + 4) ∨ k = q0
theorem f_X10_takeNext {d : Nat} (hd : 2 ≤ d) {x : mm_X} (hx : mk_x x) {g : mz_G} (hI : mz_inv g) {q0 : Nat} (h_q0 : kd_words q0) {a1 : Int} (l_a1 : (-2147483648) ≤ a1) (u_a1 : a1 ≤ 2147483647) {Q : (Option Value ⊕ Nat) → mm_H → Prop} (hQ : ∀ (g1 : mz_G), mz_inv g1 → mz_fr (fw_X10_takeNext x q0 a1) g g1 → zf_E (zF_X10_takeNext q0 a1 g) (g1) → Q (.inl none) (mz_mk g1 x)) : mm_C d 109 [.ref q0, .int (Int32.ofInt a1)] (mz_mk g x) Q := by
  have kn_q0 := kn_words h_q0
  refine ⟨mmX10_takeNext, [some (.ref q0), some (.int (Int32.ofInt a1))], rfl, rfl, ?_⟩
  have hE : zf_E (zF_X10_takeNext q0 a1 g) (zF_X10_takeNext q0 a1 g) := zf_rf
  refine mm_g 1 (pc1 := 1) (lo1 := [some (.ref q0), some (.int (Int32.ofInt a1))]) (st1 := [.ref q0]) (H1 := mz_mk g x) rfl ?_
  refine mz_gI rfl fd_10_28 (by decide) (kc_words h_q0 _) hI (kb_words_3 h_q0) (fun v1 e_v1 l_v1 u_v1 => ?_)
  replace hE := zf_tr hE (zf_le e_v1)
  refine mz_bip rfl bip_8 ?_
  refine mz_ic_ge (tgt := 31) rfl rfl (mz_rg l_v1 u_v1) ⟨by decide, by decide⟩ (fun c6_1 => ?_) (fun c6_1 => ?_)
  · skip
    replace hE := zf_nl hE c6_1
    exact mm_rt rfl rfl (hQ _ hI (fun _ _ _ => rfl) hE)
  · skip
    replace hE := zf_ip hE c6_1
    refine mm_g 1 (pc1 := 10) (lo1 := [some (.ref q0), some (.int (Int32.ofInt a1))]) (st1 := [.ref q0]) (H1 := mz_mk g x) rfl ?_
    refine mz_fgR (v := (q0 + 4)) rfl fd_10_24 (by decide) (kc_words h_q0 _) (kr_words_2 h_q0 _ _ _) ?_
    refine mm_g 1 (pc1 := 14) (lo1 := [some (.ref q0), some (.int (Int32.ofInt a1))]) (st1 := [.ref q0, .ref (q0 + 4)]) (H1 := mz_mk g x) rfl ?_
    refine mz_fgI (v := v1) rfl fd_10_28 (by decide) (kc_words h_q0 _) e_v1 ?_
    replace hE := zf_tr hE (zf_le e_v1)
    refine mm_g 1 (pc1 := 18) (lo1 := [some (.ref q0), some (.int (Int32.ofInt a1))]) (st1 := [.int (Int32.ofInt a1), .int (Int32.ofInt v1), .ref (q0 + 4)]) (H1 := mz_mk g x) rfl ?_
    refine mz_cs rfl mt_10_58 (by decide) rfl (Nat.le_of_ble_eq_true rfl) (by omega) (f_X11_put (by omega) hx hI (ka_words_2 h_q0 _) (by decide) (kba_words_2 h_q0) (by omega) (by omega) (by omega) (by omega) l_a1 u_a1 (by omega) (by omega) (fun g2 hIg2 hfg2 hc3 => ⟨_, rfl, ?_⟩))
    show mm_W d mmX10_takeNext 21 [some (.ref q0), some (.int (Int32.ofInt a1))] [] (mz_mk g2 x) Q
    replace hE := zf_t1 hE hc3
    refine mm_g 2 (pc1 := 23) (lo1 := [some (.ref q0), some (.int (Int32.ofInt a1))]) (st1 := [.ref q0, .ref q0]) (H1 := mz_mk g2 x) rfl ?_
    refine mz_fgI (v := v1) rfl fd_10_28 (by decide) (kc_words h_q0 _) (show g2 q0 3 = v1 from ((hfg2 q0 3 (fun h => (by have h9 : q0 = (q0 + 4) := h; omega))).trans e_v1)) ?_
    replace hE := zf_tr hE (zf_le (show g2 q0 3 = v1 from ((hfg2 q0 3 (fun h => (by have h9 : q0 = (q0 + 4) := h; omega))).trans e_v1)))
    refine mm_g 1 (pc1 := 27) (lo1 := [some (.ref q0), some (.int (Int32.ofInt a1))]) (st1 := [.int (Int32.ofInt 1), .int (Int32.ofInt v1), .ref q0]) (H1 := mz_mk g2 x) rfl ?_
    refine mz_iadd rfl ?_
    refine mz_pI rfl fd_10_28 (kc_words h_q0 _) hIg2 (kb_words_3 h_q0) (by omega) (by omega) (fun g4 hIg4 hug4 => ?_)
    replace hE := zf_tr hE (zf_lg hug4)
    exact mm_rt rfl rfl (hQ _ hIg4 (fun k j hk => ((hug4.2 k j (fun h => hk (Or.inr h.1))).trans (hfg2 k j (fun h => hk (Or.inl h))))) hE)
def fw_X4_readWord (x : mm_X) (q1 : Nat) : Nat → Nat → Prop := fun k j => (k = 82 ∧ j = 3) ∨ (k = 82 ∧ j = 5) ∨ (k = 82 ∧ j = 6) ∨ (k = 82 ∧ j = 4) ∨ (q1 ≤ k ∧ k < q1 + 25) ∨ (k = 81 ∧ j = 1) ∨ (k = 81 ∧ j = 2)
theorem f_X4_readWord {d : Nat} (hd : 5 ≤ d) {x : mm_X} (hx : mk_x x) {g : mz_G} (hI : mz_inv g) {q1 : Nat} (h_q1 : kd_words q1) {Q : (Option Value ⊕ Nat) → mm_H → Prop} (hQ : ∀ (r : Int) (g1 : mz_G), mz_inv g1 → mz_fr (fw_X4_readWord x q1) g g1 → 0 ≤ r → r ≤ 1 → zf_E (zF_X4_readWord q1 g) ((r, g1)) → Q (.inl (some (.int (Int32.ofInt r)))) (mz_mk g1 x)) : mm_C d 42 [.ref 81, .ref q1] (mz_mk g x) Q := by
  have kn_q1 := kn_words h_q1
  refine ⟨mmX4_readWord, [some (.ref 81), some (.ref q1), none, none], rfl, rfl, ?_⟩
  have hE : zf_E (zF_X4_readWord q1 g) (zF_X4_readWord q1 g) := zf_rf
  refine mm_g 1 (pc1 := 1) (lo1 := [some (.ref 81), some (.ref q1), none, none]) (st1 := [.ref q1]) (H1 := mz_mk g x) rfl ?_
  refine mz_cv rfl mt_4_102 (by decide) (kc_words h_q1 _) rfl (Nat.le_of_ble_eq_true rfl) (by omega) (f_X10_many (by omega) hx hI h_q1 (fun v1 l_v1 u_v1 hc2 => ⟨_, rfl, ?_⟩))
  show mm_W d mmX4_readWord 4 [some (.ref 81), some (.ref q1), none, none] [.int (Int32.ofInt v1)] (mz_mk g x) Q
  replace hE := zf_t1 hE hc2
  refine mz_bip rfl bip_8 ?_
  refine mz_ic_lt (tgt := 15) rfl rfl (mz_rg l_v1 u_v1) ⟨by decide, by decide⟩ (fun c6_2 => ?_) (fun c6_2 => ?_)
  · skip
    replace hE := zf_ip hE c6_2
    refine mm_g 1 (pc1 := 16) (lo1 := [some (.ref 81), some (.ref q1), none, none]) (st1 := [.ref 81]) (H1 := mz_mk g x) rfl ?_
    refine mz_fgR (v := 82) rfl fd_4_12 (by decide) (sc_81 _) (rf_81_0 _ _ _) ?_
    refine mz_cv rfl mt_4_99 (by decide) (sc_82 _) rfl (Nat.le_of_ble_eq_true rfl) (by omega) (f_X7_step (by omega) hx hI (fun g3 hIg3 hfg3 hc4 => ⟨_, rfl, ?_⟩))
    show mm_W d mmX4_readWord 22 [some (.ref 81), some (.ref q1), none, none] [] (mz_mk g3 x) Q
    replace hE := zf_t1 hE hc4
    refine mm_g 1 (pc1 := 23) (lo1 := [some (.ref 81), some (.ref q1), none, none]) (st1 := [.ref 81]) (H1 := mz_mk g3 x) rfl ?_
    refine mz_fgR (v := 82) rfl fd_4_12 (by decide) (sc_81 _) (rf_81_0 _ _ _) ?_
    refine mz_cv rfl mt_4_48 (by decide) (sc_82 _) rfl (Nat.le_of_ble_eq_true rfl) (by omega) (f_X7_kind (by omega) hx hIg3 (fun v5 l_v5 u_v5 hc6 => ⟨_, rfl, ?_⟩))
    show mm_W d mmX4_readWord 29 [some (.ref 81), some (.ref q1), none, none] [.int (Int32.ofInt v5)] (mz_mk g3 x) Q
    replace hE := zf_t1 hE hc6
    refine mm_g 1 (pc1 := 30) (lo1 := [some (.ref 81), some (.ref q1), none, none]) (st1 := [.int (Int32.ofInt 1), .int (Int32.ofInt v5)]) (H1 := mz_mk g3 x) rfl ?_
    refine mz_ic_eq (tgt := 39) rfl rfl (mz_rg l_v5 u_v5) ⟨by decide, by decide⟩ (fun c30_6 => ?_) (fun c30_6 => ?_)
    · skip
      replace hE := zf_ip hE c30_6
      refine mm_g 1 (pc1 := 40) (lo1 := [some (.ref 81), some (.ref q1), none, none]) (st1 := [.ref 81]) (H1 := mz_mk g3 x) rfl ?_
      refine mz_fgR (v := 82) rfl fd_4_12 (by decide) (sc_81 _) (rf_81_0 _ _ _) ?_
      refine mz_cv rfl mt_4_107 (by decide) (sc_82 _) rfl (Nat.le_of_ble_eq_true rfl) (by omega) (f_X7_tokenSize (by omega) hx hIg3 (fun v7 l_v7 u_v7 hc8 => ⟨_, rfl, ?_⟩))
      show mm_W d mmX4_readWord 46 [some (.ref 81), some (.ref q1), none, none] [.int (Int32.ofInt v7)] (mz_mk g3 x) Q
      replace hE := zf_t1 hE hc8
      refine mz_bip rfl bip_8 ?_
      refine mz_ic_le (tgt := 57) rfl rfl (mz_rg l_v7 u_v7) ⟨by decide, by decide⟩ (fun c48_8 => ?_) (fun c48_8 => ?_)
      · skip
        replace hE := zf_nl hE c48_8
        refine mm_g 2 (pc1 := 59) (lo1 := [some (.ref 81), some (.ref q1), none, none]) (st1 := [.ref q1, .ref q1]) (H1 := mz_mk g3 x) rfl ?_
        refine mz_cv rfl mt_4_102 (by decide) (kc_words h_q1 _) rfl (Nat.le_of_ble_eq_true rfl) (by omega) (f_X10_many (by omega) hx hIg3 h_q1 (fun v9 l_v9 u_v9 hc10 => ⟨_, rfl, ?_⟩))
        show mm_W d mmX4_readWord 62 [some (.ref 81), some (.ref q1), none, none] [.int (Int32.ofInt v9), .ref q1] (mz_mk g3 x) Q
        replace hE := zf_t1 hE hc10
        refine mz_cv rfl mt_4_110 (by decide) (kc_words h_q1 _) rfl (Nat.le_of_ble_eq_true rfl) (by omega) (f_X10_of (by omega) hx hIg3 h_q1 (by omega) (by omega) (fun u11 k_u11 hp12 hc13 => ⟨_, rfl, ?_⟩))
        show mm_W d mmX4_readWord 65 [some (.ref 81), some (.ref q1), none, none] [.ref u11] (mz_mk g3 x) Q
        replace hE := zf_t1 hE hc13
        refine mm_g 2 (pc1 := 67) (lo1 := [some (.ref 81), some (.ref q1), some (.ref u11), none]) (st1 := [.ref 81]) (H1 := mz_mk g3 x) rfl ?_
        refine mz_fgR (v := 82) rfl fd_4_12 (by decide) (sc_81 _) (rf_81_0 _ _ _) ?_
        refine mm_g 1 (pc1 := 71) (lo1 := [some (.ref 81), some (.ref q1), some (.ref u11), none]) (st1 := [.ref u11, .ref 82]) (H1 := mz_mk g3 x) rfl ?_
        refine mz_cv rfl mt_4_114 (by decide) (sc_82 _) rfl (Nat.le_of_ble_eq_true rfl) (by omega) (f_X7_spellInto (by omega) hx hIg3 k_u11 (fun g14 hIg14 hfg14 hc15 => ⟨_, rfl, ?_⟩))
        show mm_W d mmX4_readWord 74 [some (.ref 81), some (.ref q1), some (.ref u11), none] [] (mz_mk g14 x) Q
        replace hE := zf_t1 hE hc15
        refine mm_g 2 (pc1 := 76) (lo1 := [some (.ref 81), some (.ref q1), some (.ref u11), none]) (st1 := [.ref u11, .ref q1]) (H1 := mz_mk g14 x) rfl ?_
        refine mz_cv rfl mt_4_118 (by decide) (kc_words h_q1 _) rfl (Nat.le_of_ble_eq_true rfl) (by omega) (f_X10_hasAlready (by omega) hx hIg14 h_q1 k_u11 (fun v16 l_v16 u_v16 hc17 => ⟨_, rfl, ?_⟩))
        show mm_W d mmX4_readWord 79 [some (.ref 81), some (.ref q1), some (.ref u11), none] [.int (Int32.ofInt v16)] (mz_mk g14 x) Q
        replace hE := zf_t1 hE hc17
        refine mz_if_eq (tgt := 88) rfl rfl (mz_rg l_v16 u_v16) (fun c79_17 => ?_) (fun c79_17 => ?_)
        · skip
          replace hE := zf_ip hE c79_17
          refine mm_g 1 (pc1 := 89) (lo1 := [some (.ref 81), some (.ref q1), some (.ref u11), none]) (st1 := [.ref 81]) (H1 := mz_mk g14 x) rfl ?_
          refine mz_fgR (v := 82) rfl fd_4_12 (by decide) (sc_81 _) (rf_81_0 _ _ _) ?_
          refine mz_cv rfl mt_4_99 (by decide) (sc_82 _) rfl (Nat.le_of_ble_eq_true rfl) (by omega) (f_X7_step (by omega) hx hIg14 (fun g18 hIg18 hfg18 hc19 => ⟨_, rfl, ?_⟩))
          show mm_W d mmX4_readWord 95 [some (.ref 81), some (.ref q1), some (.ref u11), none] [] (mz_mk g18 x) Q
          replace hE := zf_t1 hE hc19
          refine mm_g 1 (pc1 := 96) (lo1 := [some (.ref 81), some (.ref q1), some (.ref u11), none]) (st1 := [.ref 81]) (H1 := mz_mk g18 x) rfl ?_
          refine mz_bip rfl bip_9 ?_
          refine mm_g 1 (pc1 := 99) (lo1 := [some (.ref 81), some (.ref q1), some (.ref u11), none]) (st1 := [.int (Int32.ofInt 2), .int (Int32.ofInt 9), .ref 81]) (H1 := mz_mk g18 x) rfl ?_
          refine mz_cv rfl mt_4_122 (by decide) (sc_81 _) rfl (Nat.le_of_ble_eq_true rfl) (by omega) (f_X4_readNumber (by omega) hx hIg18 (by decide) (by decide) (by decide) (by decide) (fun v20 g21 hIg21 hfg21 l_v20 u_v20 hc22 => ⟨_, rfl, ?_⟩))
          show mm_W d mmX4_readWord 102 [some (.ref 81), some (.ref q1), some (.ref u11), none] [.int (Int32.ofInt v20)] (mz_mk g21 x) Q
          replace hE := zf_t2 hE hc22
          refine mm_g 3 (pc1 := 105) (lo1 := [some (.ref 81), some (.ref q1), some (.ref u11), some (.int (Int32.ofInt v20))]) (st1 := [.int (Int32.ofInt (-1)), .int (Int32.ofInt v20)]) (H1 := mz_mk g21 x) rfl ?_
          refine mz_ic_eq (tgt := 113) rfl rfl (mz_rg l_v20 u_v20) ⟨by decide, by decide⟩ (fun c105_22 => ?_) (fun c105_22 => ?_)
          · skip
            replace hE := zf_ip hE c105_22
            refine mm_g 2 (pc1 := 115) (lo1 := [some (.ref 81), some (.ref q1), some (.ref u11), some (.int (Int32.ofInt v20))]) (st1 := [.int (Int32.ofInt (-1)), .int (Int32.ofInt v20)]) (H1 := mz_mk g21 x) rfl ?_
            refine mz_ic_eq (tgt := 122) rfl rfl (mz_rg l_v20 u_v20) ⟨by decide, by decide⟩ (fun c115_22 => ?_) (fun c115_22 => ?_)
            · skip
              replace hE := zf_ip hE c115_22
              refine mm_g 1 (pc1 := 123) (lo1 := [some (.ref 81), some (.ref q1), some (.ref u11), some (.int (Int32.ofInt v20))]) (st1 := [.int (Int32.ofInt 0)]) (H1 := mz_mk g21 x) rfl ?_
              exact mz_rtZ rfl (by decide) (by omega) (hQ _ _ hIg21 (fun k j hk => ((hfg21 k j (fun h => hk (Or.elim h (fun h => (Or.inl h)) (fun h => (Or.elim h (fun h => (Or.inr (Or.inl h))) (fun h => (Or.elim h (fun h => (Or.inr (Or.inr (Or.inl h)))) (fun h => (Or.elim h (fun h => (Or.inr (Or.inr (Or.inr (Or.inl h))))) (fun h => (Or.elim h (fun h => (Or.inr (Or.inr (Or.inr (Or.inr (Or.inr (Or.inl h))))))) (fun h => (Or.inr (Or.inr (Or.inr (Or.inr (Or.inr (Or.inr h)))))))))))))))))).trans ((hfg18 k j (fun h => hk (Or.elim h (fun h => (Or.inl h)) (fun h => (Or.elim h (fun h => (Or.inr (Or.inl h))) (fun h => (Or.elim h (fun h => (Or.inr (Or.inr (Or.inl h)))) (fun h => (Or.inr (Or.inr (Or.inr (Or.inl h)))))))))))).trans ((hfg14 k j (fun h => hk (Or.elim h (fun h => (Or.inr (Or.inr (Or.inr (Or.inr (Or.inl (show (q1 ≤ k ∧ k < q1 + 25) by have h9 : k = u11 := h; omega))))))) (fun h => (Or.inr (Or.inr (Or.inr (Or.inr (Or.inl (show (q1 ≤ k ∧ k < q1 + 25) by have h9 : k = (u11 + 1) := h; omega)))))))))).trans (hfg3 k j (fun h => hk (Or.elim h (fun h => (Or.inl h)) (fun h => (Or.elim h (fun h => (Or.inr (Or.inl h))) (fun h => (Or.elim h (fun h => (Or.inr (Or.inr (Or.inl h)))) (fun h => (Or.inr (Or.inr (Or.inr (Or.inl h)))))))))))))))) (by decide) (by decide) hE)
            · exfalso; omega
          · skip
            replace hE := zf_in hE c105_22
            refine mm_g 2 (pc1 := 110) (lo1 := [some (.ref 81), some (.ref q1), some (.ref u11), some (.int (Int32.ofInt v20))]) (st1 := [.int (Int32.ofInt v20), .ref q1]) (H1 := mz_mk g21 x) rfl ?_
            refine mz_cv rfl mt_4_126 (by decide) (kc_words h_q1 _) rfl (Nat.le_of_ble_eq_true rfl) (by omega) (f_X10_takeNext (by omega) hx hIg21 h_q1 l_v20 u_v20 (fun g23 hIg23 hfg23 hc24 => ⟨_, rfl, ?_⟩))
            show mm_W d mmX4_readWord 113 [some (.ref 81), some (.ref q1), some (.ref u11), some (.int (Int32.ofInt v20))] [] (mz_mk g23 x) Q
            replace hE := zf_t1 hE hc24
            refine mm_g 2 (pc1 := 115) (lo1 := [some (.ref 81), some (.ref q1), some (.ref u11), some (.int (Int32.ofInt v20))]) (st1 := [.int (Int32.ofInt (-1)), .int (Int32.ofInt v20)]) (H1 := mz_mk g23 x) rfl ?_
            refine mz_ic_eq (tgt := 122) rfl rfl (mz_rg l_v20 u_v20) ⟨by decide, by decide⟩ (fun c115_24 => ?_) (fun c115_24 => ?_)
            · skip
              replace hE := zf_ip hE c115_24
              refine mm_g 1 (pc1 := 123) (lo1 := [some (.ref 81), some (.ref q1), some (.ref u11), some (.int (Int32.ofInt v20))]) (st1 := [.int (Int32.ofInt 0)]) (H1 := mz_mk g23 x) rfl ?_
              exact mz_rtZ rfl (by decide) (by omega) (hQ _ _ hIg23 (fun k j hk => ((hfg23 k j (fun h => hk (Or.elim h (fun h => (Or.inr (Or.inr (Or.inr (Or.inr (Or.inl (show (q1 ≤ k ∧ k < q1 + 25) by have h9 : k = (q1 + 4) := h; omega))))))) (fun h => (Or.inr (Or.inr (Or.inr (Or.inr (Or.inl (show (q1 ≤ k ∧ k < q1 + 25) by have h9 : k = q1 := h; omega)))))))))).trans ((hfg21 k j (fun h => hk (Or.elim h (fun h => (Or.inl h)) (fun h => (Or.elim h (fun h => (Or.inr (Or.inl h))) (fun h => (Or.elim h (fun h => (Or.inr (Or.inr (Or.inl h)))) (fun h => (Or.elim h (fun h => (Or.inr (Or.inr (Or.inr (Or.inl h))))) (fun h => (Or.elim h (fun h => (Or.inr (Or.inr (Or.inr (Or.inr (Or.inr (Or.inl h))))))) (fun h => (Or.inr (Or.inr (Or.inr (Or.inr (Or.inr (Or.inr h)))))))))))))))))).trans ((hfg18 k j (fun h => hk (Or.elim h (fun h => (Or.inl h)) (fun h => (Or.elim h (fun h => (Or.inr (Or.inl h))) (fun h => (Or.elim h (fun h => (Or.inr (Or.inr (Or.inl h)))) (fun h => (Or.inr (Or.inr (Or.inr (Or.inl h)))))))))))).trans ((hfg14 k j (fun h => hk (Or.elim h (fun h => (Or.inr (Or.inr (Or.inr (Or.inr (Or.inl (show (q1 ≤ k ∧ k < q1 + 25) by have h9 : k = u11 := h; omega))))))) (fun h => (Or.inr (Or.inr (Or.inr (Or.inr (Or.inl (show (q1 ≤ k ∧ k < q1 + 25) by have h9 : k = (u11 + 1) := h; omega)))))))))).trans (hfg3 k j (fun h => hk (Or.elim h (fun h => (Or.inl h)) (fun h => (Or.elim h (fun h => (Or.inr (Or.inl h))) (fun h => (Or.elim h (fun h => (Or.inr (Or.inr (Or.inl h)))) (fun h => (Or.inr (Or.inr (Or.inr (Or.inl h))))))))))))))))) (by decide) (by decide) hE)
            · skip
              replace hE := zf_in hE c115_24
              refine mm_g 1 (pc1 := 119) (lo1 := [some (.ref 81), some (.ref q1), some (.ref u11), some (.int (Int32.ofInt v20))]) (st1 := [.int (Int32.ofInt 1)]) (H1 := mz_mk g23 x) rfl ?_
              refine mz_gt (tgt := 123) rfl rfl ?_
              exact mz_rtZ rfl (by decide) (by omega) (hQ _ _ hIg23 (fun k j hk => ((hfg23 k j (fun h => hk (Or.elim h (fun h => (Or.inr (Or.inr (Or.inr (Or.inr (Or.inl (show (q1 ≤ k ∧ k < q1 + 25) by have h9 : k = (q1 + 4) := h; omega))))))) (fun h => (Or.inr (Or.inr (Or.inr (Or.inr (Or.inl (show (q1 ≤ k ∧ k < q1 + 25) by have h9 : k = q1 := h; omega)))))))))).trans ((hfg21 k j (fun h => hk (Or.elim h (fun h => (Or.inl h)) (fun h => (Or.elim h (fun h => (Or.inr (Or.inl h))) (fun h => (Or.elim h (fun h => (Or.inr (Or.inr (Or.inl h)))) (fun h => (Or.elim h (fun h => (Or.inr (Or.inr (Or.inr (Or.inl h))))) (fun h => (Or.elim h (fun h => (Or.inr (Or.inr (Or.inr (Or.inr (Or.inr (Or.inl h))))))) (fun h => (Or.inr (Or.inr (Or.inr (Or.inr (Or.inr (Or.inr h)))))))))))))))))).trans ((hfg18 k j (fun h => hk (Or.elim h (fun h => (Or.inl h)) (fun h => (Or.elim h (fun h => (Or.inr (Or.inl h))) (fun h => (Or.elim h (fun h => (Or.inr (Or.inr (Or.inl h)))) (fun h => (Or.inr (Or.inr (Or.inr (Or.inl h)))))))))))).trans ((hfg14 k j (fun h => hk (Or.elim h (fun h => (Or.inr (Or.inr (Or.inr (Or.inr (Or.inl (show (q1 ≤ k ∧ k < q1 + 25) by have h9 : k = u11 := h; omega))))))) (fun h => (Or.inr (Or.inr (Or.inr (Or.inr (Or.inl (show (q1 ≤ k ∧ k < q1 + 25) by have h9 : k = (u11 + 1) := h; omega)))))))))).trans (hfg3 k j (fun h => hk (Or.elim h (fun h => (Or.inl h)) (fun h => (Or.elim h (fun h => (Or.inr (Or.inl h))) (fun h => (Or.elim h (fun h => (Or.inr (Or.inr (Or.inl h)))) (fun h => (Or.inr (Or.inr (Or.inr (Or.inl h))))))))))))))))) (by decide) (by decide) hE)
        · skip
          replace hE := zf_in hE c79_17
          refine mm_g 2 (pc1 := 84) (lo1 := [some (.ref 81), some (.ref q1), some (.ref u11), none]) (st1 := [.int (Int32.ofInt 4), .ref 81]) (H1 := mz_mk g14 x) rfl ?_
          refine mz_cv rfl mt_4_95 (by decide) (sc_81 _) rfl (Nat.le_of_ble_eq_true rfl) (by omega) (f_X4_blame (by omega) hx hIg14 (by decide) (by decide) (fun v25 g26 hIg26 hfg26 l_v25 u_v25 hc27 => ⟨_, rfl, ?_⟩))
          show mm_W d mmX4_readWord 87 [some (.ref 81), some (.ref q1), some (.ref u11), none] [.int (Int32.ofInt v25)] (mz_mk g26 x) Q
          replace hE := zf_t2 hE hc27
          exact mz_rtZ rfl (by decide) (by omega) (hQ _ _ hIg26 (fun k j hk => ((hfg26 k j (fun h => hk (Or.elim h (fun h => (Or.inr (Or.inr (Or.inr (Or.inr (Or.inr (Or.inl h))))))) (fun h => (Or.inr (Or.inr (Or.inr (Or.inr (Or.inr (Or.inr h)))))))))).trans ((hfg14 k j (fun h => hk (Or.elim h (fun h => (Or.inr (Or.inr (Or.inr (Or.inr (Or.inl (show (q1 ≤ k ∧ k < q1 + 25) by have h9 : k = u11 := h; omega))))))) (fun h => (Or.inr (Or.inr (Or.inr (Or.inr (Or.inl (show (q1 ≤ k ∧ k < q1 + 25) by have h9 : k = (u11 + 1) := h; omega)))))))))).trans (hfg3 k j (fun h => hk (Or.elim h (fun h => (Or.inl h)) (fun h => (Or.elim h (fun h => (Or.inr (Or.inl h))) (fun h => (Or.elim h (fun h => (Or.inr (Or.inr (Or.inl h)))) (fun h => (Or.inr (Or.inr (Or.inr (Or.inl h))))))))))))))) (by omega) (by omega) hE)
      · skip
        replace hE := zf_ip hE c48_8
        refine mm_g 2 (pc1 := 53) (lo1 := [some (.ref 81), some (.ref q1), none, none]) (st1 := [.int (Int32.ofInt 2), .ref 81]) (H1 := mz_mk g3 x) rfl ?_
        refine mz_cv rfl mt_4_95 (by decide) (sc_81 _) rfl (Nat.le_of_ble_eq_true rfl) (by omega) (f_X4_blame (by omega) hx hIg3 (by decide) (by decide) (fun v28 g29 hIg29 hfg29 l_v28 u_v28 hc30 => ⟨_, rfl, ?_⟩))
        show mm_W d mmX4_readWord 56 [some (.ref 81), some (.ref q1), none, none] [.int (Int32.ofInt v28)] (mz_mk g29 x) Q
        replace hE := zf_t2 hE hc30
        exact mz_rtZ rfl (by decide) (by omega) (hQ _ _ hIg29 (fun k j hk => ((hfg29 k j (fun h => hk (Or.elim h (fun h => (Or.inr (Or.inr (Or.inr (Or.inr (Or.inr (Or.inl h))))))) (fun h => (Or.inr (Or.inr (Or.inr (Or.inr (Or.inr (Or.inr h)))))))))).trans (hfg3 k j (fun h => hk (Or.elim h (fun h => (Or.inl h)) (fun h => (Or.elim h (fun h => (Or.inr (Or.inl h))) (fun h => (Or.elim h (fun h => (Or.inr (Or.inr (Or.inl h)))) (fun h => (Or.inr (Or.inr (Or.inr (Or.inl h)))))))))))))) (by omega) (by omega) hE)
    · skip
      replace hE := zf_in hE c30_6
      refine mm_g 2 (pc1 := 35) (lo1 := [some (.ref 81), some (.ref q1), none, none]) (st1 := [.int (Int32.ofInt 1), .ref 81]) (H1 := mz_mk g3 x) rfl ?_
      refine mz_cv rfl mt_4_95 (by decide) (sc_81 _) rfl (Nat.le_of_ble_eq_true rfl) (by omega) (f_X4_blame (by omega) hx hIg3 (by decide) (by decide) (fun v31 g32 hIg32 hfg32 l_v31 u_v31 hc33 => ⟨_, rfl, ?_⟩))
      show mm_W d mmX4_readWord 38 [some (.ref 81), some (.ref q1), none, none] [.int (Int32.ofInt v31)] (mz_mk g32 x) Q
      replace hE := zf_t2 hE hc33
      exact mz_rtZ rfl (by decide) (by omega) (hQ _ _ hIg32 (fun k j hk => ((hfg32 k j (fun h => hk (Or.elim h (fun h => (Or.inr (Or.inr (Or.inr (Or.inr (Or.inr (Or.inl h))))))) (fun h => (Or.inr (Or.inr (Or.inr (Or.inr (Or.inr (Or.inr h)))))))))).trans (hfg3 k j (fun h => hk (Or.elim h (fun h => (Or.inl h)) (fun h => (Or.elim h (fun h => (Or.inr (Or.inl h))) (fun h => (Or.elim h (fun h => (Or.inr (Or.inr (Or.inl h)))) (fun h => (Or.inr (Or.inr (Or.inr (Or.inl h)))))))))))))) (by omega) (by omega) hE)
  · skip
    replace hE := zf_nl hE c6_2
    refine mm_g 2 (pc1 := 11) (lo1 := [some (.ref 81), some (.ref q1), none, none]) (st1 := [.int (Int32.ofInt 2), .ref 81]) (H1 := mz_mk g x) rfl ?_
    refine mz_cv rfl mt_4_95 (by decide) (sc_81 _) rfl (Nat.le_of_ble_eq_true rfl) (by omega) (f_X4_blame (by omega) hx hI (by decide) (by decide) (fun v34 g35 hIg35 hfg35 l_v34 u_v34 hc36 => ⟨_, rfl, ?_⟩))
    show mm_W d mmX4_readWord 14 [some (.ref 81), some (.ref q1), none, none] [.int (Int32.ofInt v34)] (mz_mk g35 x) Q
    replace hE := zf_t2 hE hc36
    exact mz_rtZ rfl (by decide) (by omega) (hQ _ _ hIg35 (fun k j hk => (hfg35 k j (fun h => hk (Or.elim h (fun h => (Or.inr (Or.inr (Or.inr (Or.inr (Or.inr (Or.inl h))))))) (fun h => (Or.inr (Or.inr (Or.inr (Or.inr (Or.inr (Or.inr h))))))))))) (by omega) (by omega) hE)
theorem f_X9_get {d : Nat} (hd : 1 ≤ d) {x : mm_X} (hx : mk_x x) {g : mz_G} (hI : mz_inv g) {q0 : Nat} (h_q0 : kd_tks q0) {a1 : Int} (l_a1 : (-2147483648) ≤ a1) (u_a1 : a1 ≤ 2147483647) {Q : (Option Value ⊕ Nat) → mm_H → Prop} (hQ : ∀ (r : Nat), kd_trunk r → (q0 + 2 ≤ r ∧ r ≤ q0 + 8) → zf_E (zF_X9_get q0 a1 g) (r) → Q (.inl (some (.ref r))) (mz_mk g x)) : mm_C d 99 [.ref q0, .int (Int32.ofInt a1)] (mz_mk g x) Q := by
  have kn_q0 := kn_tks h_q0
  refine ⟨mmX9_get, [some (.ref q0), some (.int (Int32.ofInt a1))], rfl, rfl, ?_⟩
  have hE : zf_E (zF_X9_get q0 a1 g) (zF_X9_get q0 a1 g) := zf_rf
  refine mm_g 1 (pc1 := 1) (lo1 := [some (.ref q0), some (.int (Int32.ofInt a1))]) (st1 := [.int (Int32.ofInt a1)]) (H1 := mz_mk g x) rfl ?_
  refine mz_if_lt (tgt := 22) rfl rfl (mz_rg l_a1 u_a1) (fun c1_0 => ?_) (fun c1_0 => ?_)
  · skip
    replace hE := zf_ip hE c1_0
    refine mm_g 1 (pc1 := 23) (lo1 := [some (.ref q0), some (.int (Int32.ofInt a1))]) (st1 := [.ref q0]) (H1 := mz_mk g x) rfl ?_
    refine mz_fgR (v := (q0 + 2)) rfl fd_9_18 (by decide) (kc_tks h_q0 _) (kr_tks_1 h_q0 _ _ _) ?_
    exact mm_rt rfl rfl (hQ _ (ks_tks_1 h_q0) (by omega) hE)
  · skip
    replace hE := zf_nl hE c1_0
    refine mm_g 2 (pc1 := 6) (lo1 := [some (.ref q0), some (.int (Int32.ofInt a1))]) (st1 := [.ref q0, .int (Int32.ofInt a1)]) (H1 := mz_mk g x) rfl ?_
    refine mz_fgR (v := (q0 + 1)) rfl fd_9_11 (by decide) (kc_tks h_q0 _) (kr_tks_0 h_q0 _ _ _) ?_
    refine mz_al rfl (ka_tks_0 h_q0 _) (by decide) ?_
    refine mz_ic_ge (tgt := 22) rfl rfl (mz_rg l_a1 u_a1) ⟨by omega, by omega⟩ (fun c10_0 => ?_) (fun c10_0 => ?_)
    · skip
      replace hE := zf_nl hE c10_0
      refine mm_g 1 (pc1 := 23) (lo1 := [some (.ref q0), some (.int (Int32.ofInt a1))]) (st1 := [.ref q0]) (H1 := mz_mk g x) rfl ?_
      refine mz_fgR (v := (q0 + 2)) rfl fd_9_18 (by decide) (kc_tks h_q0 _) (kr_tks_1 h_q0 _ _ _) ?_
      exact mm_rt rfl rfl (hQ _ (ks_tks_1 h_q0) (by omega) hE)
    · skip
      replace hE := zf_ip hE c10_0
      refine mm_g 1 (pc1 := 14) (lo1 := [some (.ref q0), some (.int (Int32.ofInt a1))]) (st1 := [.ref q0]) (H1 := mz_mk g x) rfl ?_
      refine mz_fgR (v := (q0 + 1)) rfl fd_9_11 (by decide) (kc_tks h_q0 _) (kr_tks_0 h_q0 _ _ _) ?_
      refine mm_g 1 (pc1 := 18) (lo1 := [some (.ref q0), some (.int (Int32.ofInt a1))]) (st1 := [.int (Int32.ofInt a1), .ref (q0 + 1)]) (H1 := mz_mk g x) rfl ?_
      obtain ⟨u1, e_u1, k_u1, r1_u1, r2_u1⟩ := kw_tks x h_q0 (a := a1) (by omega) (by omega)
      refine mz_aa rfl (ka_tks_0 h_q0 _) (by decide) (by omega) (by omega) (by decide) e_u1 ?_
      replace hE := zf_tr hE (zf_le (zf_tks x h_q0 (by omega) (by omega) e_u1))
      refine mz_nn (tgt := 27) rfl rfl ?_
      refine mm_g 1 (pc1 := 28) (lo1 := [some (.ref q0), some (.int (Int32.ofInt a1))]) (st1 := [.ref q0]) (H1 := mz_mk g x) rfl ?_
      refine mz_fgR (v := (q0 + 1)) rfl fd_9_11 (by decide) (kc_tks h_q0 _) (kr_tks_0 h_q0 _ _ _) ?_
      refine mm_g 1 (pc1 := 32) (lo1 := [some (.ref q0), some (.int (Int32.ofInt a1))]) (st1 := [.int (Int32.ofInt a1), .ref (q0 + 1)]) (H1 := mz_mk g x) rfl ?_
      obtain ⟨u2, e_u2, k_u2, r1_u2, r2_u2⟩ := kw_tks x h_q0 (a := a1) (by omega) (by omega)
      refine mz_aa rfl (ka_tks_0 h_q0 _) (by decide) (by omega) (by omega) (by decide) e_u2 ?_
      replace hE := zf_tr hE (zf_le (zf_tks x h_q0 (by omega) (by omega) e_u2))
      exact mm_rt rfl rfl (hQ _ k_u2 (by omega) hE)
def fw_X9_addTrunk (x : mm_X) (q0 : Nat) (a1 : Int) (a2 : Int) (a3 : Int) (a4 : Int) : Nat → Nat → Prop := fun k j => (q0 ≤ k ∧ k < q0 + 9)
theorem f_X9_addTrunk {d : Nat} (hd : 2 ≤ d) {x : mm_X} (hx : mk_x x) {g : mz_G} (hI : mz_inv g) {q0 : Nat} (h_q0 : kd_tks q0) {a1 : Int} (l_a1 : (-2147483648) ≤ a1) (u_a1 : a1 ≤ 2147483647) {a2 : Int} (l_a2 : (-2147483648) ≤ a2) (u_a2 : a2 ≤ 2147483647) {a3 : Int} (l_a3 : (-2147483648) ≤ a3) (u_a3 : a3 ≤ 2147483647) {a4 : Int} (l_a4 : 0 ≤ a4) (u_a4 : a4 ≤ 1) {Q : (Option Value ⊕ Nat) → mm_H → Prop} (hQ : ∀ (g1 : mz_G), mz_inv g1 → mz_fr (fw_X9_addTrunk x q0 a1 a2 a3 a4) g g1 → zf_E (zF_X9_addTrunk q0 a1 a2 a3 a4 g) (g1) → Q (.inl none) (mz_mk g1 x)) : mm_C d 100 [.ref q0, .int (Int32.ofInt a1), .int (Int32.ofInt a2), .int (Int32.ofInt a3), .int (Int32.ofInt a4)] (mz_mk g x) Q := by
  have kn_q0 := kn_tks h_q0
  refine ⟨mmX9_addTrunk, [some (.ref q0), some (.int (Int32.ofInt a1)), some (.int (Int32.ofInt a2)), some (.int (Int32.ofInt a3)), some (.int (Int32.ofInt a4)), none], rfl, rfl, ?_⟩
  have hE : zf_E (zF_X9_addTrunk q0 a1 a2 a3 a4 g) (zF_X9_addTrunk q0 a1 a2 a3 a4 g) := zf_rf
  refine mm_g 1 (pc1 := 1) (lo1 := [some (.ref q0), some (.int (Int32.ofInt a1)), some (.int (Int32.ofInt a2)), some (.int (Int32.ofInt a3)), some (.int (Int32.ofInt a4)), none]) (st1 := [.ref q0]) (H1 := mz_mk g x) rfl ?_
  refine mz_gI rfl fd_9_22 (by decide) (kc_tks h_q0 _) hI (kb_tks_2 h_q0) (fun v1 e_v1 l_v1 u_v1 => ?_)
  replace hE := zf_tr hE (zf_le e_v1)
  refine mz_bip rfl bip_6 ?_
  refine mz_ic_ge (tgt := 60) rfl rfl (mz_rg l_v1 u_v1) ⟨by decide, by decide⟩ (fun c6_1 => ?_) (fun c6_1 => ?_)
  · skip
    replace hE := zf_nl hE c6_1
    exact mm_rt rfl rfl (hQ _ hI (fun _ _ _ => rfl) hE)
  · skip
    replace hE := zf_ip hE c6_1
    refine mm_g 2 (pc1 := 11) (lo1 := [some (.ref q0), some (.int (Int32.ofInt a1)), some (.int (Int32.ofInt a2)), some (.int (Int32.ofInt a3)), some (.int (Int32.ofInt a4)), none]) (st1 := [.ref q0, .ref q0]) (H1 := mz_mk g x) rfl ?_
    refine mz_fgI (v := v1) rfl fd_9_22 (by decide) (kc_tks h_q0 _) e_v1 ?_
    replace hE := zf_tr hE (zf_le e_v1)
    refine mz_cv rfl mt_9_29 (by decide) (kc_tks h_q0 _) rfl (Nat.le_of_ble_eq_true rfl) (by omega) (f_X9_get (by omega) hx hI h_q0 (by omega) (by omega) (fun u2 k_u2 hp3 hc4 => ⟨_, rfl, ?_⟩))
    show mm_W d mmX9_addTrunk 17 [some (.ref q0), some (.int (Int32.ofInt a1)), some (.int (Int32.ofInt a2)), some (.int (Int32.ofInt a3)), some (.int (Int32.ofInt a4)), none] [.ref u2] (mz_mk g x) Q
    replace hE := zf_t1 hE hc4
    refine mm_g 3 (pc1 := 22) (lo1 := [some (.ref q0), some (.int (Int32.ofInt a1)), some (.int (Int32.ofInt a2)), some (.int (Int32.ofInt a3)), some (.int (Int32.ofInt a4)), some (.ref u2)]) (st1 := [.int (Int32.ofInt a1), .ref u2]) (H1 := mz_mk g x) rfl ?_
    refine mz_pI rfl fd_9_33 (kc_trunk k_u2 _) hI (kb_trunk_0 k_u2) (by omega) (by omega) (fun g5 hIg5 hug5 => ?_)
    replace hE := zf_tr hE (zf_lg hug5)
    refine mm_g 2 (pc1 := 28) (lo1 := [some (.ref q0), some (.int (Int32.ofInt a1)), some (.int (Int32.ofInt a2)), some (.int (Int32.ofInt a3)), some (.int (Int32.ofInt a4)), some (.ref u2)]) (st1 := [.int (Int32.ofInt a2), .ref u2]) (H1 := mz_mk g5 x) rfl ?_
    refine mz_pI rfl fd_9_36 (kc_trunk k_u2 _) hIg5 (kb_trunk_1 k_u2) (by omega) (by omega) (fun g6 hIg6 hug6 => ?_)
    replace hE := zf_tr hE (zf_lg hug6)
    refine mm_g 2 (pc1 := 34) (lo1 := [some (.ref q0), some (.int (Int32.ofInt a1)), some (.int (Int32.ofInt a2)), some (.int (Int32.ofInt a3)), some (.int (Int32.ofInt a4)), some (.ref u2)]) (st1 := [.int (Int32.ofInt a3), .ref u2]) (H1 := mz_mk g6 x) rfl ?_
    refine mz_pI rfl fd_9_39 (kc_trunk k_u2 _) hIg6 (kb_trunk_2 k_u2) (by omega) (by omega) (fun g7 hIg7 hug7 => ?_)
    replace hE := zf_tr hE (zf_lg hug7)
    refine mm_g 2 (pc1 := 40) (lo1 := [some (.ref q0), some (.int (Int32.ofInt a1)), some (.int (Int32.ofInt a2)), some (.int (Int32.ofInt a3)), some (.int (Int32.ofInt a4)), some (.ref u2)]) (st1 := [.int (Int32.ofInt 0), .ref u2]) (H1 := mz_mk g7 x) rfl ?_
    refine mz_pI rfl fd_9_42 (kc_trunk k_u2 _) hIg7 (kb_trunk_3 k_u2) (by omega) (by omega) (fun g8 hIg8 hug8 => ?_)
    replace hE := zf_tr hE (zf_lg hug8)
    refine mm_g 2 (pc1 := 47) (lo1 := [some (.ref q0), some (.int (Int32.ofInt a1)), some (.int (Int32.ofInt a2)), some (.int (Int32.ofInt a3)), some (.int (Int32.ofInt a4)), some (.ref u2)]) (st1 := [.int (Int32.ofInt a4), .ref u2]) (H1 := mz_mk g8 x) rfl ?_
    refine mz_pZ rfl fd_9_45 (kc_trunk k_u2 _) (by omega) hIg8 (kb_trunk_4 k_u2) (by omega) (by omega) (fun g9 hIg9 hug9 => ?_)
    replace hE := zf_tr hE (zf_lg hug9)
    refine mm_g 2 (pc1 := 52) (lo1 := [some (.ref q0), some (.int (Int32.ofInt a1)), some (.int (Int32.ofInt a2)), some (.int (Int32.ofInt a3)), some (.int (Int32.ofInt a4)), some (.ref u2)]) (st1 := [.ref q0, .ref q0]) (H1 := mz_mk g9 x) rfl ?_
    refine mz_fgI (v := v1) rfl fd_9_22 (by decide) (kc_tks h_q0 _) (show g9 q0 2 = v1 from ((hug9.2 q0 2 (by omega)).trans ((hug8.2 q0 2 (by omega)).trans ((hug7.2 q0 2 (by omega)).trans ((hug6.2 q0 2 (by omega)).trans ((hug5.2 q0 2 (by omega)).trans e_v1)))))) ?_
    replace hE := zf_tr hE (zf_le (show g9 q0 2 = v1 from ((hug9.2 q0 2 (by omega)).trans ((hug8.2 q0 2 (by omega)).trans ((hug7.2 q0 2 (by omega)).trans ((hug6.2 q0 2 (by omega)).trans ((hug5.2 q0 2 (by omega)).trans e_v1)))))))
    refine mm_g 1 (pc1 := 56) (lo1 := [some (.ref q0), some (.int (Int32.ofInt a1)), some (.int (Int32.ofInt a2)), some (.int (Int32.ofInt a3)), some (.int (Int32.ofInt a4)), some (.ref u2)]) (st1 := [.int (Int32.ofInt 1), .int (Int32.ofInt v1), .ref q0]) (H1 := mz_mk g9 x) rfl ?_
    refine mz_iadd rfl ?_
    refine mz_pI rfl fd_9_22 (kc_tks h_q0 _) hIg9 (kb_tks_2 h_q0) (by omega) (by omega) (fun g10 hIg10 hug10 => ?_)
    replace hE := zf_tr hE (zf_lg hug10)
    exact mm_rt rfl rfl (hQ _ hIg10 (fun k j hk => ((hug10.2 k j (fun h => hk (show (q0 ≤ k ∧ k < q0 + 9) by have h9 : k = q0 ∧ j = 2 := h; omega))).trans ((hug9.2 k j (fun h => hk (show (q0 ≤ k ∧ k < q0 + 9) by have h9 : k = u2 ∧ j = 4 := h; omega))).trans ((hug8.2 k j (fun h => hk (show (q0 ≤ k ∧ k < q0 + 9) by have h9 : k = u2 ∧ j = 3 := h; omega))).trans ((hug7.2 k j (fun h => hk (show (q0 ≤ k ∧ k < q0 + 9) by have h9 : k = u2 ∧ j = 2 := h; omega))).trans ((hug6.2 k j (fun h => hk (show (q0 ≤ k ∧ k < q0 + 9) by have h9 : k = u2 ∧ j = 1 := h; omega))).trans (hug5.2 k j (fun h => hk (show (q0 ≤ k ∧ k < q0 + 9) by have h9 : k = u2 ∧ j = 0 := h; omega))))))))) hE)
def fw_X4_readTrunk (x : mm_X) (q1 : Nat) (a2 : Int) : Nat → Nat → Prop := fun k j => (k = 82 ∧ j = 3) ∨ (k = 82 ∧ j = 5) ∨ (k = 82 ∧ j = 6) ∨ (k = 82 ∧ j = 4) ∨ (k = 81 ∧ j = 1) ∨ (k = 81 ∧ j = 2) ∨ ((q1 + 26) ≤ k ∧ k < (q1 + 26) + 9)
theorem f_X4_readTrunk {d : Nat} (hd : 5 ≤ d) {x : mm_X} (hx : mk_x x) {g : mz_G} (hI : mz_inv g) {q1 : Nat} (h_q1 : kd_load q1) {a2 : Int} (l_a2 : 0 ≤ a2) (u_a2 : a2 ≤ 1) {Q : (Option Value ⊕ Nat) → mm_H → Prop} (hQ : ∀ (r : Int) (g1 : mz_G), mz_inv g1 → mz_fr (fw_X4_readTrunk x q1 a2) g g1 → 0 ≤ r → r ≤ 1 → zf_E (zF_X4_readTrunk q1 a2 g) ((r, g1)) → Q (.inl (some (.int (Int32.ofInt r)))) (mz_mk g1 x)) : mm_C d 44 [.ref 81, .ref q1, .int (Int32.ofInt a2)] (mz_mk g x) Q := by
  have kn_q1 := kn_load h_q1
  refine ⟨mmX4_readTrunk, [some (.ref 81), some (.ref q1), some (.int (Int32.ofInt a2)), none, none, none, none], rfl, rfl, ?_⟩
  have hE : zf_E (zF_X4_readTrunk q1 a2 g) (zF_X4_readTrunk q1 a2 g) := zf_rf
  refine mm_g 1 (pc1 := 1) (lo1 := [some (.ref 81), some (.ref q1), some (.int (Int32.ofInt a2)), none, none, none, none]) (st1 := [.ref q1]) (H1 := mz_mk g x) rfl ?_
  refine mz_fgR (v := (q1 + 26)) rfl fd_4_132 (by decide) (kc_load h_q1 _) (kr_load_1 h_q1 _ _ _) ?_
  refine mz_gI rfl fd_4_136 (by decide) (kc_tks (ks_load_1 h_q1) _) hI (kb_tks_2 (ks_load_1 h_q1)) (fun v1 e_v1 l_v1 u_v1 => ?_)
  replace hE := zf_tr hE (zf_le e_v1)
  refine mz_bip rfl bip_6 ?_
  refine mz_ic_lt (tgt := 18) rfl rfl (mz_rg l_v1 u_v1) ⟨by decide, by decide⟩ (fun c9_1 => ?_) (fun c9_1 => ?_)
  · skip
    replace hE := zf_ip hE c9_1
    refine mm_g 1 (pc1 := 19) (lo1 := [some (.ref 81), some (.ref q1), some (.int (Int32.ofInt a2)), none, none, none, none]) (st1 := [.ref 81]) (H1 := mz_mk g x) rfl ?_
    refine mz_fgR (v := 82) rfl fd_4_12 (by decide) (sc_81 _) (rf_81_0 _ _ _) ?_
    refine mz_cv rfl mt_4_99 (by decide) (sc_82 _) rfl (Nat.le_of_ble_eq_true rfl) (by omega) (f_X7_step (by omega) hx hI (fun g2 hIg2 hfg2 hc3 => ⟨_, rfl, ?_⟩))
    show mm_W d mmX4_readTrunk 25 [some (.ref 81), some (.ref q1), some (.int (Int32.ofInt a2)), none, none, none, none] [] (mz_mk g2 x) Q
    replace hE := zf_t1 hE hc3
    refine mm_g 1 (pc1 := 26) (lo1 := [some (.ref 81), some (.ref q1), some (.int (Int32.ofInt a2)), none, none, none, none]) (st1 := [.ref q1]) (H1 := mz_mk g2 x) rfl ?_
    refine mz_fgR (v := (q1 + 1)) rfl fd_4_61 (by decide) (kc_load h_q1 _) (kr_load_0 h_q1 _ _ _) ?_
    refine mz_cv rfl mt_4_102 (by decide) (kc_words (ks_load_0 h_q1) _) rfl (Nat.le_of_ble_eq_true rfl) (by omega) (f_X10_many (by omega) hx hIg2 (ks_load_0 h_q1) (fun v4 l_v4 u_v4 hc5 => ⟨_, rfl, ?_⟩))
    show mm_W d mmX4_readTrunk 32 [some (.ref 81), some (.ref q1), some (.int (Int32.ofInt a2)), none, none, none, none] [.int (Int32.ofInt v4)] (mz_mk g2 x) Q
    replace hE := zf_t1 hE hc5
    refine mm_g 1 (pc1 := 33) (lo1 := [some (.ref 81), some (.ref q1), some (.int (Int32.ofInt a2)), none, none, none, none]) (st1 := [.int (Int32.ofInt 1), .int (Int32.ofInt v4)]) (H1 := mz_mk g2 x) rfl ?_
    refine mz_isub rfl ?_
    refine mm_g 4 (pc1 := 38) (lo1 := [some (.ref 81), some (.ref q1), some (.int (Int32.ofInt a2)), some (.int (Int32.ofInt (v4 - 1))), none, none, none]) (st1 := [.int (Int32.ofInt 3), .int (Int32.ofInt (v4 - 1)), .ref 81]) (H1 := mz_mk g2 x) rfl ?_
    refine mz_cv rfl mt_4_122 (by decide) (sc_81 _) rfl (Nat.le_of_ble_eq_true rfl) (by omega) (f_X4_readNumber (by omega) hx hIg2 (by omega) (by omega) (by decide) (by decide) (fun v6 g7 hIg7 hfg7 l_v6 u_v6 hc8 => ⟨_, rfl, ?_⟩))
    show mm_W d mmX4_readTrunk 41 [some (.ref 81), some (.ref q1), some (.int (Int32.ofInt a2)), some (.int (Int32.ofInt (v4 - 1))), none, none, none] [.int (Int32.ofInt v6)] (mz_mk g7 x) Q
    replace hE := zf_t2 hE hc8
    refine mm_g 3 (pc1 := 46) (lo1 := [some (.ref 81), some (.ref q1), some (.int (Int32.ofInt a2)), some (.int (Int32.ofInt (v4 - 1))), some (.int (Int32.ofInt v6)), none, none]) (st1 := [.int (Int32.ofInt (-1)), .int (Int32.ofInt v6)]) (H1 := mz_mk g7 x) rfl ?_
    refine mz_ic_ne (tgt := 53) rfl rfl (mz_rg l_v6 u_v6) ⟨by decide, by decide⟩ (fun c46_8 => ?_) (fun c46_8 => ?_)
    · skip
      replace hE := zf_in hE c46_8
      refine mm_g 3 (pc1 := 56) (lo1 := [some (.ref 81), some (.ref q1), some (.int (Int32.ofInt a2)), some (.int (Int32.ofInt (v4 - 1))), some (.int (Int32.ofInt v6)), none, none]) (st1 := [.int (Int32.ofInt 3), .int (Int32.ofInt (v4 - 1)), .ref 81]) (H1 := mz_mk g7 x) rfl ?_
      refine mz_cv rfl mt_4_122 (by decide) (sc_81 _) rfl (Nat.le_of_ble_eq_true rfl) (by omega) (f_X4_readNumber (by omega) hx hIg7 (by omega) (by omega) (by decide) (by decide) (fun v9 g10 hIg10 hfg10 l_v9 u_v9 hc11 => ⟨_, rfl, ?_⟩))
      show mm_W d mmX4_readTrunk 59 [some (.ref 81), some (.ref q1), some (.int (Int32.ofInt a2)), some (.int (Int32.ofInt (v4 - 1))), some (.int (Int32.ofInt v6)), none, none] [.int (Int32.ofInt v9)] (mz_mk g10 x) Q
      replace hE := zf_t2 hE hc11
      refine mm_g 3 (pc1 := 64) (lo1 := [some (.ref 81), some (.ref q1), some (.int (Int32.ofInt a2)), some (.int (Int32.ofInt (v4 - 1))), some (.int (Int32.ofInt v6)), some (.int (Int32.ofInt v9)), none]) (st1 := [.int (Int32.ofInt (-1)), .int (Int32.ofInt v9)]) (H1 := mz_mk g10 x) rfl ?_
      refine mz_ic_ne (tgt := 71) rfl rfl (mz_rg l_v9 u_v9) ⟨by decide, by decide⟩ (fun c64_11 => ?_) (fun c64_11 => ?_)
      · skip
        replace hE := zf_in hE c64_11
        refine mm_g 1 (pc1 := 72) (lo1 := [some (.ref 81), some (.ref q1), some (.int (Int32.ofInt a2)), some (.int (Int32.ofInt (v4 - 1))), some (.int (Int32.ofInt v6)), some (.int (Int32.ofInt v9)), none]) (st1 := [.ref 81]) (H1 := mz_mk g10 x) rfl ?_
        refine mz_bip rfl bip_9 ?_
        refine mm_g 1 (pc1 := 75) (lo1 := [some (.ref 81), some (.ref q1), some (.int (Int32.ofInt a2)), some (.int (Int32.ofInt (v4 - 1))), some (.int (Int32.ofInt v6)), some (.int (Int32.ofInt v9)), none]) (st1 := [.int (Int32.ofInt 2), .int (Int32.ofInt 9), .ref 81]) (H1 := mz_mk g10 x) rfl ?_
        refine mz_cv rfl mt_4_122 (by decide) (sc_81 _) rfl (Nat.le_of_ble_eq_true rfl) (by omega) (f_X4_readNumber (by omega) hx hIg10 (by decide) (by decide) (by decide) (by decide) (fun v12 g13 hIg13 hfg13 l_v12 u_v12 hc14 => ⟨_, rfl, ?_⟩))
        show mm_W d mmX4_readTrunk 78 [some (.ref 81), some (.ref q1), some (.int (Int32.ofInt a2)), some (.int (Int32.ofInt (v4 - 1))), some (.int (Int32.ofInt v6)), some (.int (Int32.ofInt v9)), none] [.int (Int32.ofInt v12)] (mz_mk g13 x) Q
        replace hE := zf_t2 hE hc14
        refine mm_g 3 (pc1 := 83) (lo1 := [some (.ref 81), some (.ref q1), some (.int (Int32.ofInt a2)), some (.int (Int32.ofInt (v4 - 1))), some (.int (Int32.ofInt v6)), some (.int (Int32.ofInt v9)), some (.int (Int32.ofInt v12))]) (st1 := [.int (Int32.ofInt (-1)), .int (Int32.ofInt v12)]) (H1 := mz_mk g13 x) rfl ?_
        refine mz_ic_eq (tgt := 100) rfl rfl (mz_rg l_v12 u_v12) ⟨by decide, by decide⟩ (fun c83_14 => ?_) (fun c83_14 => ?_)
        · skip
          replace hE := zf_ip hE c83_14
          refine mm_g 2 (pc1 := 103) (lo1 := [some (.ref 81), some (.ref q1), some (.int (Int32.ofInt a2)), some (.int (Int32.ofInt (v4 - 1))), some (.int (Int32.ofInt v6)), some (.int (Int32.ofInt v9)), some (.int (Int32.ofInt v12))]) (st1 := [.int (Int32.ofInt (-1)), .int (Int32.ofInt v12)]) (H1 := mz_mk g13 x) rfl ?_
          refine mz_ic_eq (tgt := 110) rfl rfl (mz_rg l_v12 u_v12) ⟨by decide, by decide⟩ (fun c103_14 => ?_) (fun c103_14 => ?_)
          · skip
            replace hE := zf_ip hE c103_14
            refine mm_g 1 (pc1 := 111) (lo1 := [some (.ref 81), some (.ref q1), some (.int (Int32.ofInt a2)), some (.int (Int32.ofInt (v4 - 1))), some (.int (Int32.ofInt v6)), some (.int (Int32.ofInt v9)), some (.int (Int32.ofInt v12))]) (st1 := [.int (Int32.ofInt 0)]) (H1 := mz_mk g13 x) rfl ?_
            exact mz_rtZ rfl (by decide) (by omega) (hQ _ _ hIg13 (fun k j hk => ((hfg13 k j (fun h => hk (Or.elim h (fun h => (Or.inl h)) (fun h => (Or.elim h (fun h => (Or.inr (Or.inl h))) (fun h => (Or.elim h (fun h => (Or.inr (Or.inr (Or.inl h)))) (fun h => (Or.elim h (fun h => (Or.inr (Or.inr (Or.inr (Or.inl h))))) (fun h => (Or.elim h (fun h => (Or.inr (Or.inr (Or.inr (Or.inr (Or.inl h)))))) (fun h => (Or.inr (Or.inr (Or.inr (Or.inr (Or.inr (Or.inl h)))))))))))))))))).trans ((hfg10 k j (fun h => hk (Or.elim h (fun h => (Or.inl h)) (fun h => (Or.elim h (fun h => (Or.inr (Or.inl h))) (fun h => (Or.elim h (fun h => (Or.inr (Or.inr (Or.inl h)))) (fun h => (Or.elim h (fun h => (Or.inr (Or.inr (Or.inr (Or.inl h))))) (fun h => (Or.elim h (fun h => (Or.inr (Or.inr (Or.inr (Or.inr (Or.inl h)))))) (fun h => (Or.inr (Or.inr (Or.inr (Or.inr (Or.inr (Or.inl h)))))))))))))))))).trans ((hfg7 k j (fun h => hk (Or.elim h (fun h => (Or.inl h)) (fun h => (Or.elim h (fun h => (Or.inr (Or.inl h))) (fun h => (Or.elim h (fun h => (Or.inr (Or.inr (Or.inl h)))) (fun h => (Or.elim h (fun h => (Or.inr (Or.inr (Or.inr (Or.inl h))))) (fun h => (Or.elim h (fun h => (Or.inr (Or.inr (Or.inr (Or.inr (Or.inl h)))))) (fun h => (Or.inr (Or.inr (Or.inr (Or.inr (Or.inr (Or.inl h)))))))))))))))))).trans (hfg2 k j (fun h => hk (Or.elim h (fun h => (Or.inl h)) (fun h => (Or.elim h (fun h => (Or.inr (Or.inl h))) (fun h => (Or.elim h (fun h => (Or.inr (Or.inr (Or.inl h)))) (fun h => (Or.inr (Or.inr (Or.inr (Or.inl h)))))))))))))))) (by decide) (by decide) hE)
          · exfalso; omega
        · skip
          replace hE := zf_in hE c83_14
          refine mm_g 1 (pc1 := 87) (lo1 := [some (.ref 81), some (.ref q1), some (.int (Int32.ofInt a2)), some (.int (Int32.ofInt (v4 - 1))), some (.int (Int32.ofInt v6)), some (.int (Int32.ofInt v9)), some (.int (Int32.ofInt v12))]) (st1 := [.ref q1]) (H1 := mz_mk g13 x) rfl ?_
          refine mz_fgR (v := (q1 + 26)) rfl fd_4_132 (by decide) (kc_load h_q1 _) (kr_load_1 h_q1 _ _ _) ?_
          refine mm_g 4 (pc1 := 97) (lo1 := [some (.ref 81), some (.ref q1), some (.int (Int32.ofInt a2)), some (.int (Int32.ofInt (v4 - 1))), some (.int (Int32.ofInt v6)), some (.int (Int32.ofInt v9)), some (.int (Int32.ofInt v12))]) (st1 := [.int (Int32.ofInt a2), .int (Int32.ofInt v12), .int (Int32.ofInt v9), .int (Int32.ofInt v6), .ref (q1 + 26)]) (H1 := mz_mk g13 x) rfl ?_
          refine mz_cv rfl mt_4_141 (by decide) (kc_tks (ks_load_1 h_q1) _) rfl (Nat.le_of_ble_eq_true rfl) (by omega) (f_X9_addTrunk (by omega) hx hIg13 (ks_load_1 h_q1) l_v6 u_v6 l_v9 u_v9 l_v12 u_v12 l_a2 u_a2 (fun g15 hIg15 hfg15 hc16 => ⟨_, rfl, ?_⟩))
          show mm_W d mmX4_readTrunk 100 [some (.ref 81), some (.ref q1), some (.int (Int32.ofInt a2)), some (.int (Int32.ofInt (v4 - 1))), some (.int (Int32.ofInt v6)), some (.int (Int32.ofInt v9)), some (.int (Int32.ofInt v12))] [] (mz_mk g15 x) Q
          replace hE := zf_t1 hE hc16
          refine mm_g 2 (pc1 := 103) (lo1 := [some (.ref 81), some (.ref q1), some (.int (Int32.ofInt a2)), some (.int (Int32.ofInt (v4 - 1))), some (.int (Int32.ofInt v6)), some (.int (Int32.ofInt v9)), some (.int (Int32.ofInt v12))]) (st1 := [.int (Int32.ofInt (-1)), .int (Int32.ofInt v12)]) (H1 := mz_mk g15 x) rfl ?_
          refine mz_ic_eq (tgt := 110) rfl rfl (mz_rg l_v12 u_v12) ⟨by decide, by decide⟩ (fun c103_16 => ?_) (fun c103_16 => ?_)
          · skip
            replace hE := zf_ip hE c103_16
            refine mm_g 1 (pc1 := 111) (lo1 := [some (.ref 81), some (.ref q1), some (.int (Int32.ofInt a2)), some (.int (Int32.ofInt (v4 - 1))), some (.int (Int32.ofInt v6)), some (.int (Int32.ofInt v9)), some (.int (Int32.ofInt v12))]) (st1 := [.int (Int32.ofInt 0)]) (H1 := mz_mk g15 x) rfl ?_
            exact mz_rtZ rfl (by decide) (by omega) (hQ _ _ hIg15 (fun k j hk => ((hfg15 k j (fun h => hk (Or.inr (Or.inr (Or.inr (Or.inr (Or.inr (Or.inr h)))))))).trans ((hfg13 k j (fun h => hk (Or.elim h (fun h => (Or.inl h)) (fun h => (Or.elim h (fun h => (Or.inr (Or.inl h))) (fun h => (Or.elim h (fun h => (Or.inr (Or.inr (Or.inl h)))) (fun h => (Or.elim h (fun h => (Or.inr (Or.inr (Or.inr (Or.inl h))))) (fun h => (Or.elim h (fun h => (Or.inr (Or.inr (Or.inr (Or.inr (Or.inl h)))))) (fun h => (Or.inr (Or.inr (Or.inr (Or.inr (Or.inr (Or.inl h)))))))))))))))))).trans ((hfg10 k j (fun h => hk (Or.elim h (fun h => (Or.inl h)) (fun h => (Or.elim h (fun h => (Or.inr (Or.inl h))) (fun h => (Or.elim h (fun h => (Or.inr (Or.inr (Or.inl h)))) (fun h => (Or.elim h (fun h => (Or.inr (Or.inr (Or.inr (Or.inl h))))) (fun h => (Or.elim h (fun h => (Or.inr (Or.inr (Or.inr (Or.inr (Or.inl h)))))) (fun h => (Or.inr (Or.inr (Or.inr (Or.inr (Or.inr (Or.inl h)))))))))))))))))).trans ((hfg7 k j (fun h => hk (Or.elim h (fun h => (Or.inl h)) (fun h => (Or.elim h (fun h => (Or.inr (Or.inl h))) (fun h => (Or.elim h (fun h => (Or.inr (Or.inr (Or.inl h)))) (fun h => (Or.elim h (fun h => (Or.inr (Or.inr (Or.inr (Or.inl h))))) (fun h => (Or.elim h (fun h => (Or.inr (Or.inr (Or.inr (Or.inr (Or.inl h)))))) (fun h => (Or.inr (Or.inr (Or.inr (Or.inr (Or.inr (Or.inl h)))))))))))))))))).trans (hfg2 k j (fun h => hk (Or.elim h (fun h => (Or.inl h)) (fun h => (Or.elim h (fun h => (Or.inr (Or.inl h))) (fun h => (Or.elim h (fun h => (Or.inr (Or.inr (Or.inl h)))) (fun h => (Or.inr (Or.inr (Or.inr (Or.inl h))))))))))))))))) (by decide) (by decide) hE)
          · skip
            replace hE := zf_in hE c103_16
            refine mm_g 1 (pc1 := 107) (lo1 := [some (.ref 81), some (.ref q1), some (.int (Int32.ofInt a2)), some (.int (Int32.ofInt (v4 - 1))), some (.int (Int32.ofInt v6)), some (.int (Int32.ofInt v9)), some (.int (Int32.ofInt v12))]) (st1 := [.int (Int32.ofInt 1)]) (H1 := mz_mk g15 x) rfl ?_
            refine mz_gt (tgt := 111) rfl rfl ?_
            exact mz_rtZ rfl (by decide) (by omega) (hQ _ _ hIg15 (fun k j hk => ((hfg15 k j (fun h => hk (Or.inr (Or.inr (Or.inr (Or.inr (Or.inr (Or.inr h)))))))).trans ((hfg13 k j (fun h => hk (Or.elim h (fun h => (Or.inl h)) (fun h => (Or.elim h (fun h => (Or.inr (Or.inl h))) (fun h => (Or.elim h (fun h => (Or.inr (Or.inr (Or.inl h)))) (fun h => (Or.elim h (fun h => (Or.inr (Or.inr (Or.inr (Or.inl h))))) (fun h => (Or.elim h (fun h => (Or.inr (Or.inr (Or.inr (Or.inr (Or.inl h)))))) (fun h => (Or.inr (Or.inr (Or.inr (Or.inr (Or.inr (Or.inl h)))))))))))))))))).trans ((hfg10 k j (fun h => hk (Or.elim h (fun h => (Or.inl h)) (fun h => (Or.elim h (fun h => (Or.inr (Or.inl h))) (fun h => (Or.elim h (fun h => (Or.inr (Or.inr (Or.inl h)))) (fun h => (Or.elim h (fun h => (Or.inr (Or.inr (Or.inr (Or.inl h))))) (fun h => (Or.elim h (fun h => (Or.inr (Or.inr (Or.inr (Or.inr (Or.inl h)))))) (fun h => (Or.inr (Or.inr (Or.inr (Or.inr (Or.inr (Or.inl h)))))))))))))))))).trans ((hfg7 k j (fun h => hk (Or.elim h (fun h => (Or.inl h)) (fun h => (Or.elim h (fun h => (Or.inr (Or.inl h))) (fun h => (Or.elim h (fun h => (Or.inr (Or.inr (Or.inl h)))) (fun h => (Or.elim h (fun h => (Or.inr (Or.inr (Or.inr (Or.inl h))))) (fun h => (Or.elim h (fun h => (Or.inr (Or.inr (Or.inr (Or.inr (Or.inl h)))))) (fun h => (Or.inr (Or.inr (Or.inr (Or.inr (Or.inr (Or.inl h)))))))))))))))))).trans (hfg2 k j (fun h => hk (Or.elim h (fun h => (Or.inl h)) (fun h => (Or.elim h (fun h => (Or.inr (Or.inl h))) (fun h => (Or.elim h (fun h => (Or.inr (Or.inr (Or.inl h)))) (fun h => (Or.inr (Or.inr (Or.inr (Or.inl h))))))))))))))))) (by decide) (by decide) hE)
      · skip
        replace hE := zf_ip hE c64_11
        refine mm_g 1 (pc1 := 68) (lo1 := [some (.ref 81), some (.ref q1), some (.int (Int32.ofInt a2)), some (.int (Int32.ofInt (v4 - 1))), some (.int (Int32.ofInt v6)), some (.int (Int32.ofInt v9)), none]) (st1 := [.int (Int32.ofInt (-1))]) (H1 := mz_mk g10 x) rfl ?_
        refine mz_gt (tgt := 78) rfl rfl ?_
        refine mm_g 3 (pc1 := 83) (lo1 := [some (.ref 81), some (.ref q1), some (.int (Int32.ofInt a2)), some (.int (Int32.ofInt (v4 - 1))), some (.int (Int32.ofInt v6)), some (.int (Int32.ofInt v9)), some (.int (Int32.ofInt (-1)))]) (st1 := [.int (Int32.ofInt (-1)), .int (Int32.ofInt (-1))]) (H1 := mz_mk g10 x) rfl ?_
        refine mz_ic_eq (tgt := 100) rfl rfl ⟨by decide, by decide⟩ ⟨by decide, by decide⟩ (fun c83_16 => ?_) (fun c83_16 => ?_)
        · skip
          (try unfold zJ_X4_readTrunk_59 at hE)
          (try unfold zJ_X4_readTrunk_78 at hE)
          (try unfold zJ_X4_readTrunk_100 at hE)
          (try unfold zJ_X4_readTrunk_59 at hE)
          (try unfold zJ_X4_readTrunk_78 at hE)
          (try unfold zJ_X4_readTrunk_100 at hE)
          replace hE := zf_ip hE c83_16
          refine mm_g 2 (pc1 := 103) (lo1 := [some (.ref 81), some (.ref q1), some (.int (Int32.ofInt a2)), some (.int (Int32.ofInt (v4 - 1))), some (.int (Int32.ofInt v6)), some (.int (Int32.ofInt v9)), some (.int (Int32.ofInt (-1)))]) (st1 := [.int (Int32.ofInt (-1)), .int (Int32.ofInt (-1))]) (H1 := mz_mk g10 x) rfl ?_
          refine mz_ic_eq (tgt := 110) rfl rfl ⟨by decide, by decide⟩ ⟨by decide, by decide⟩ (fun c103_16 => ?_) (fun c103_16 => ?_)
          · skip
            (try unfold zJ_X4_readTrunk_59 at hE)
            (try unfold zJ_X4_readTrunk_78 at hE)
            (try unfold zJ_X4_readTrunk_100 at hE)
            (try unfold zJ_X4_readTrunk_59 at hE)
            (try unfold zJ_X4_readTrunk_78 at hE)
            (try unfold zJ_X4_readTrunk_100 at hE)
            replace hE := zf_ip hE c103_16
            refine mm_g 1 (pc1 := 111) (lo1 := [some (.ref 81), some (.ref q1), some (.int (Int32.ofInt a2)), some (.int (Int32.ofInt (v4 - 1))), some (.int (Int32.ofInt v6)), some (.int (Int32.ofInt v9)), some (.int (Int32.ofInt (-1)))]) (st1 := [.int (Int32.ofInt 0)]) (H1 := mz_mk g10 x) rfl ?_
            exact mz_rtZ rfl (by decide) (by omega) (hQ _ _ hIg10 (fun k j hk => ((hfg10 k j (fun h => hk (Or.elim h (fun h => (Or.inl h)) (fun h => (Or.elim h (fun h => (Or.inr (Or.inl h))) (fun h => (Or.elim h (fun h => (Or.inr (Or.inr (Or.inl h)))) (fun h => (Or.elim h (fun h => (Or.inr (Or.inr (Or.inr (Or.inl h))))) (fun h => (Or.elim h (fun h => (Or.inr (Or.inr (Or.inr (Or.inr (Or.inl h)))))) (fun h => (Or.inr (Or.inr (Or.inr (Or.inr (Or.inr (Or.inl h)))))))))))))))))).trans ((hfg7 k j (fun h => hk (Or.elim h (fun h => (Or.inl h)) (fun h => (Or.elim h (fun h => (Or.inr (Or.inl h))) (fun h => (Or.elim h (fun h => (Or.inr (Or.inr (Or.inl h)))) (fun h => (Or.elim h (fun h => (Or.inr (Or.inr (Or.inr (Or.inl h))))) (fun h => (Or.elim h (fun h => (Or.inr (Or.inr (Or.inr (Or.inr (Or.inl h)))))) (fun h => (Or.inr (Or.inr (Or.inr (Or.inr (Or.inr (Or.inl h)))))))))))))))))).trans (hfg2 k j (fun h => hk (Or.elim h (fun h => (Or.inl h)) (fun h => (Or.elim h (fun h => (Or.inr (Or.inl h))) (fun h => (Or.elim h (fun h => (Or.inr (Or.inr (Or.inl h)))) (fun h => (Or.inr (Or.inr (Or.inr (Or.inl h))))))))))))))) (by decide) (by decide) hE)
          · exfalso; omega
        · exfalso; omega
    · skip
      replace hE := zf_ip hE c46_8
      refine mm_g 1 (pc1 := 50) (lo1 := [some (.ref 81), some (.ref q1), some (.int (Int32.ofInt a2)), some (.int (Int32.ofInt (v4 - 1))), some (.int (Int32.ofInt v6)), none, none]) (st1 := [.int (Int32.ofInt (-1))]) (H1 := mz_mk g7 x) rfl ?_
      refine mz_gt (tgt := 59) rfl rfl ?_
      refine mm_g 3 (pc1 := 64) (lo1 := [some (.ref 81), some (.ref q1), some (.int (Int32.ofInt a2)), some (.int (Int32.ofInt (v4 - 1))), some (.int (Int32.ofInt v6)), some (.int (Int32.ofInt (-1))), none]) (st1 := [.int (Int32.ofInt (-1)), .int (Int32.ofInt (-1))]) (H1 := mz_mk g7 x) rfl ?_
      refine mz_ic_ne (tgt := 71) rfl rfl ⟨by decide, by decide⟩ ⟨by decide, by decide⟩ (fun c64_16 => ?_) (fun c64_16 => ?_)
      · exfalso; omega
      · skip
        (try unfold zJ_X4_readTrunk_59 at hE)
        (try unfold zJ_X4_readTrunk_78 at hE)
        (try unfold zJ_X4_readTrunk_100 at hE)
        (try unfold zJ_X4_readTrunk_59 at hE)
        (try unfold zJ_X4_readTrunk_78 at hE)
        (try unfold zJ_X4_readTrunk_100 at hE)
        replace hE := zf_ip hE c64_16
        refine mm_g 1 (pc1 := 68) (lo1 := [some (.ref 81), some (.ref q1), some (.int (Int32.ofInt a2)), some (.int (Int32.ofInt (v4 - 1))), some (.int (Int32.ofInt v6)), some (.int (Int32.ofInt (-1))), none]) (st1 := [.int (Int32.ofInt (-1))]) (H1 := mz_mk g7 x) rfl ?_
        refine mz_gt (tgt := 78) rfl rfl ?_
        refine mm_g 3 (pc1 := 83) (lo1 := [some (.ref 81), some (.ref q1), some (.int (Int32.ofInt a2)), some (.int (Int32.ofInt (v4 - 1))), some (.int (Int32.ofInt v6)), some (.int (Int32.ofInt (-1))), some (.int (Int32.ofInt (-1)))]) (st1 := [.int (Int32.ofInt (-1)), .int (Int32.ofInt (-1))]) (H1 := mz_mk g7 x) rfl ?_
        refine mz_ic_eq (tgt := 100) rfl rfl ⟨by decide, by decide⟩ ⟨by decide, by decide⟩ (fun c83_16 => ?_) (fun c83_16 => ?_)
        · skip
          (try unfold zJ_X4_readTrunk_59 at hE)
          (try unfold zJ_X4_readTrunk_78 at hE)
          (try unfold zJ_X4_readTrunk_100 at hE)
          (try unfold zJ_X4_readTrunk_59 at hE)
          (try unfold zJ_X4_readTrunk_78 at hE)
          (try unfold zJ_X4_readTrunk_100 at hE)
          replace hE := zf_ip hE c83_16
          refine mm_g 2 (pc1 := 103) (lo1 := [some (.ref 81), some (.ref q1), some (.int (Int32.ofInt a2)), some (.int (Int32.ofInt (v4 - 1))), some (.int (Int32.ofInt v6)), some (.int (Int32.ofInt (-1))), some (.int (Int32.ofInt (-1)))]) (st1 := [.int (Int32.ofInt (-1)), .int (Int32.ofInt (-1))]) (H1 := mz_mk g7 x) rfl ?_
          refine mz_ic_eq (tgt := 110) rfl rfl ⟨by decide, by decide⟩ ⟨by decide, by decide⟩ (fun c103_16 => ?_) (fun c103_16 => ?_)
          · skip
            (try unfold zJ_X4_readTrunk_59 at hE)
            (try unfold zJ_X4_readTrunk_78 at hE)
            (try unfold zJ_X4_readTrunk_100 at hE)
            (try unfold zJ_X4_readTrunk_59 at hE)
            (try unfold zJ_X4_readTrunk_78 at hE)
            (try unfold zJ_X4_readTrunk_100 at hE)
            replace hE := zf_ip hE c103_16
            refine mm_g 1 (pc1 := 111) (lo1 := [some (.ref 81), some (.ref q1), some (.int (Int32.ofInt a2)), some (.int (Int32.ofInt (v4 - 1))), some (.int (Int32.ofInt v6)), some (.int (Int32.ofInt (-1))), some (.int (Int32.ofInt (-1)))]) (st1 := [.int (Int32.ofInt 0)]) (H1 := mz_mk g7 x) rfl ?_
            exact mz_rtZ rfl (by decide) (by omega) (hQ _ _ hIg7 (fun k j hk => ((hfg7 k j (fun h => hk (Or.elim h (fun h => (Or.inl h)) (fun h => (Or.elim h (fun h => (Or.inr (Or.inl h))) (fun h => (Or.elim h (fun h => (Or.inr (Or.inr (Or.inl h)))) (fun h => (Or.elim h (fun h => (Or.inr (Or.inr (Or.inr (Or.inl h))))) (fun h => (Or.elim h (fun h => (Or.inr (Or.inr (Or.inr (Or.inr (Or.inl h)))))) (fun h => (Or.inr (Or.inr (Or.inr (Or.inr (Or.inr (Or.inl h)))))))))))))))))).trans (hfg2 k j (fun h => hk (Or.elim h (fun h => (Or.inl h)) (fun h => (Or.elim h (fun h => (Or.inr (Or.inl h))) (fun h => (Or.elim h (fun h => (Or.inr (Or.inr (Or.inl h)))) (fun h => (Or.inr (Or.inr (Or.inr (Or.inl h)))))))))))))) (by decide) (by decide) hE)
          · exfalso; omega
        · exfalso; omega
  · skip
    replace hE := zf_nl hE c9_1
    refine mm_g 2 (pc1 := 14) (lo1 := [some (.ref 81), some (.ref q1), some (.int (Int32.ofInt a2)), none, none, none, none]) (st1 := [.int (Int32.ofInt 2), .ref 81]) (H1 := mz_mk g x) rfl ?_
    refine mz_cv rfl mt_4_95 (by decide) (sc_81 _) rfl (Nat.le_of_ble_eq_true rfl) (by omega) (f_X4_blame (by omega) hx hI (by decide) (by decide) (fun v17 g18 hIg18 hfg18 l_v17 u_v17 hc19 => ⟨_, rfl, ?_⟩))
    show mm_W d mmX4_readTrunk 17 [some (.ref 81), some (.ref q1), some (.int (Int32.ofInt a2)), none, none, none, none] [.int (Int32.ofInt v17)] (mz_mk g18 x) Q
    replace hE := zf_t2 hE hc19
    exact mz_rtZ rfl (by decide) (by omega) (hQ _ _ hIg18 (fun k j hk => (hfg18 k j (fun h => hk (Or.elim h (fun h => (Or.inr (Or.inr (Or.inr (Or.inr (Or.inl h)))))) (fun h => (Or.inr (Or.inr (Or.inr (Or.inr (Or.inr (Or.inl h))))))))))) (by omega) (by omega) hE)
def fw_X1_addHeat (x : mm_X) (q0 : Nat) (a1 : Int) : Nat → Nat → Prop := fun k j => k = (q0 + 35) ∨ k = q0
theorem f_X1_addHeat {d : Nat} (hd : 2 ≤ d) {x : mm_X} (hx : mk_x x) {g : mz_G} (hI : mz_inv g) {q0 : Nat} (h_q0 : kd_load q0) {a1 : Int} (l_a1 : (-2147483648) ≤ a1) (u_a1 : a1 ≤ 2147483647) {Q : (Option Value ⊕ Nat) → mm_H → Prop} (hQ : ∀ (g1 : mz_G), mz_inv g1 → mz_fr (fw_X1_addHeat x q0 a1) g g1 → zf_E (zF_X1_addHeat q0 a1 g) (g1) → Q (.inl none) (mz_mk g1 x)) : mm_C d 14 [.ref q0, .int (Int32.ofInt a1)] (mz_mk g x) Q := by
  have kn_q0 := kn_load h_q0
  refine ⟨mmX1_addHeat, [some (.ref q0), some (.int (Int32.ofInt a1))], rfl, rfl, ?_⟩
  have hE : zf_E (zF_X1_addHeat q0 a1 g) (zF_X1_addHeat q0 a1 g) := zf_rf
  refine mm_g 1 (pc1 := 1) (lo1 := [some (.ref q0), some (.int (Int32.ofInt a1))]) (st1 := [.ref q0]) (H1 := mz_mk g x) rfl ?_
  refine mz_gI rfl fd_1_29 (by decide) (kc_load h_q0 _) hI (kb_load_3 h_q0) (fun v1 e_v1 l_v1 u_v1 => ?_)
  replace hE := zf_tr hE (zf_le e_v1)
  refine mz_bip rfl bip_8 ?_
  refine mz_ic_ge (tgt := 31) rfl rfl (mz_rg l_v1 u_v1) ⟨by decide, by decide⟩ (fun c6_1 => ?_) (fun c6_1 => ?_)
  · skip
    replace hE := zf_nl hE c6_1
    exact mm_rt rfl rfl (hQ _ hI (fun _ _ _ => rfl) hE)
  · skip
    replace hE := zf_ip hE c6_1
    refine mm_g 1 (pc1 := 10) (lo1 := [some (.ref q0), some (.int (Int32.ofInt a1))]) (st1 := [.ref q0]) (H1 := mz_mk g x) rfl ?_
    refine mz_fgR (v := (q0 + 35)) rfl fd_1_25 (by decide) (kc_load h_q0 _) (kr_load_2 h_q0 _ _ _) ?_
    refine mm_g 1 (pc1 := 14) (lo1 := [some (.ref q0), some (.int (Int32.ofInt a1))]) (st1 := [.ref q0, .ref (q0 + 35)]) (H1 := mz_mk g x) rfl ?_
    refine mz_fgI (v := v1) rfl fd_1_29 (by decide) (kc_load h_q0 _) e_v1 ?_
    replace hE := zf_tr hE (zf_le e_v1)
    refine mm_g 1 (pc1 := 18) (lo1 := [some (.ref q0), some (.int (Int32.ofInt a1))]) (st1 := [.int (Int32.ofInt a1), .int (Int32.ofInt v1), .ref (q0 + 35)]) (H1 := mz_mk g x) rfl ?_
    refine mz_cs rfl mt_1_49 (by decide) rfl (Nat.le_of_ble_eq_true rfl) (by omega) (f_X11_put (by omega) hx hI (ka_load_2 h_q0 _) (by decide) (kba_load_2 h_q0) (by omega) (by omega) (by omega) (by omega) l_a1 u_a1 (by omega) (by omega) (fun g2 hIg2 hfg2 hc3 => ⟨_, rfl, ?_⟩))
    show mm_W d mmX1_addHeat 21 [some (.ref q0), some (.int (Int32.ofInt a1))] [] (mz_mk g2 x) Q
    replace hE := zf_t1 hE hc3
    refine mm_g 2 (pc1 := 23) (lo1 := [some (.ref q0), some (.int (Int32.ofInt a1))]) (st1 := [.ref q0, .ref q0]) (H1 := mz_mk g2 x) rfl ?_
    refine mz_fgI (v := v1) rfl fd_1_29 (by decide) (kc_load h_q0 _) (show g2 q0 3 = v1 from ((hfg2 q0 3 (fun h => (by have h9 : q0 = (q0 + 35) := h; omega))).trans e_v1)) ?_
    replace hE := zf_tr hE (zf_le (show g2 q0 3 = v1 from ((hfg2 q0 3 (fun h => (by have h9 : q0 = (q0 + 35) := h; omega))).trans e_v1)))
    refine mm_g 1 (pc1 := 27) (lo1 := [some (.ref q0), some (.int (Int32.ofInt a1))]) (st1 := [.int (Int32.ofInt 1), .int (Int32.ofInt v1), .ref q0]) (H1 := mz_mk g2 x) rfl ?_
    refine mz_iadd rfl ?_
    refine mz_pI rfl fd_1_29 (kc_load h_q0 _) hIg2 (kb_load_3 h_q0) (by omega) (by omega) (fun g4 hIg4 hug4 => ?_)
    replace hE := zf_tr hE (zf_lg hug4)
    exact mm_rt rfl rfl (hQ _ hIg4 (fun k j hk => ((hug4.2 k j (fun h => hk (Or.inr h.1))).trans (hfg2 k j (fun h => hk (Or.inl h))))) hE)
def fl_X4_readHeat_22 (x : mm_X) (q1 : Nat) : Nat → Nat → Prop := fun k j => (k = 82 ∧ j = 3) ∨ (k = 82 ∧ j = 5) ∨ (k = 82 ∧ j = 6) ∨ (k = 82 ∧ j = 4) ∨ (k = 81 ∧ j = 1) ∨ (k = 81 ∧ j = 2) ∨ k = (q1 + 35) ∨ k = q1
def fw_X4_readHeat (x : mm_X) (q1 : Nat) : Nat → Nat → Prop := fun k j => (k = 82 ∧ j = 3) ∨ (k = 82 ∧ j = 5) ∨ (k = 82 ∧ j = 6) ∨ (k = 82 ∧ j = 4) ∨ (k = 81 ∧ j = 1) ∨ (k = 81 ∧ j = 2) ∨ k = (q1 + 35) ∨ k = q1
theorem f_X4_readHeat {d : Nat} (hd : 5 ≤ d) {x : mm_X} (hx : mk_x x) {g : mz_G} (hI : mz_inv g) {q1 : Nat} (h_q1 : kd_load q1) {Q : (Option Value ⊕ Nat) → mm_H → Prop} (hQ : ∀ (r : Int) (g1 : mz_G), mz_inv g1 → mz_fr (fw_X4_readHeat x q1) g g1 → 0 ≤ r → r ≤ 1 → zf_E (zF_X4_readHeat q1 g) ((r, g1)) → Q (.inl (some (.int (Int32.ofInt r)))) (mz_mk g1 x)) : mm_C d 45 [.ref 81, .ref q1] (mz_mk g x) Q := by
  have kn_q1 := kn_load h_q1
  refine ⟨mmX4_readHeat, [some (.ref 81), some (.ref q1), none, none], rfl, rfl, ?_⟩
  have hE : zf_E (zF_X4_readHeat q1 g) (zF_X4_readHeat q1 g) := zf_rf
  refine mm_g 1 (pc1 := 1) (lo1 := [some (.ref 81), some (.ref q1), none, none]) (st1 := [.ref q1]) (H1 := mz_mk g x) rfl ?_
  refine mz_gI rfl fd_4_145 (by decide) (kc_load h_q1 _) hI (kb_load_3 h_q1) (fun v1 e_v1 l_v1 u_v1 => ?_)
  replace hE := zf_tr hE (zf_le e_v1)
  refine mz_if_le (tgt := 13) rfl rfl (mz_rg l_v1 u_v1) (fun c4_1 => ?_) (fun c4_1 => ?_)
  · skip
    replace hE := zf_nl hE c4_1
    refine mm_g 1 (pc1 := 14) (lo1 := [some (.ref 81), some (.ref q1), none, none]) (st1 := [.ref 81]) (H1 := mz_mk g x) rfl ?_
    refine mz_fgR (v := 82) rfl fd_4_12 (by decide) (sc_81 _) (rf_81_0 _ _ _) ?_
    refine mz_cv rfl mt_4_99 (by decide) (sc_82 _) rfl (Nat.le_of_ble_eq_true rfl) (by omega) (f_X7_step (by omega) hx hI (fun g2 hIg2 hfg2 hc3 => ⟨_, rfl, ?_⟩))
    show mm_W d mmX4_readHeat 20 [some (.ref 81), some (.ref q1), none, none] [] (mz_mk g2 x) Q
    replace hE := zf_t1 hE hc3
    refine mm_g 2 (pc1 := 22) (lo1 := [some (.ref 81), some (.ref q1), some (.int (Int32.ofInt 0)), none]) (st1 := []) (H1 := mz_mk g2 x) rfl ?_
    have L9 : ∀ n8 : Nat, ∀ (v4 : Int) (o5 : Option Value) (g6 : mz_G), (8 - v4).toNat = n8 → 0 ≤ v4 → v4 ≤ 8 → mz_nl o5 → mz_inv g6 → mz_fr (fl_X4_readHeat_22 x q1) g2 g6 → (∃ fk : Nat, (8 - v4).toNat < fk ∧ zf_E (zF_X4_readHeat q1 g) (zL_X4_readHeat_22 q1 fk v4 g6)) → mm_W d mmX4_readHeat 22 [some (.ref 81), some (.ref q1), some (.int (Int32.ofInt v4)), o5] [] (mz_mk g6 x) Q := by
      intro n8
      induction n8 using Nat.strongRecOn with
      | ind n8 ih7 =>
      intro v4 o5 g6 hmn8 l_v4 u_v4 h_o5 hIg6 hfg6 hF
      obtain ⟨fk, fl, hE⟩ := hF
      obtain ⟨fj10, rfl⟩ : ∃ fj, fk = fj + 1 := ⟨fk - 1, by omega⟩
      have fn11 : n8 ≤ fj10 := by omega
      replace hE := zf_tr hE zL_X4_readHeat_22_s
      refine mm_g 1 (pc1 := 23) (lo1 := [some (.ref 81), some (.ref q1), some (.int (Int32.ofInt v4)), o5]) (st1 := [.int (Int32.ofInt v4)]) (H1 := mz_mk g6 x) rfl ?_
      refine mz_bip rfl bip_8 ?_
      refine mz_ic_ge (tgt := 71) rfl rfl (mz_rg l_v4 u_v4) ⟨by decide, by decide⟩ (fun c25_11 => ?_) (fun c25_11 => ?_)
      · skip
        replace hE := zf_nl hE c25_11
        refine mm_g 1 (pc1 := 72) (lo1 := [some (.ref 81), some (.ref q1), some (.int (Int32.ofInt v4)), o5]) (st1 := [.ref 81]) (H1 := mz_mk g6 x) rfl ?_
        refine mz_fgR (v := 82) rfl fd_4_12 (by decide) (sc_81 _) (rf_81_0 _ _ _) ?_
        refine mz_cv rfl mt_4_48 (by decide) (sc_82 _) rfl (Nat.le_of_ble_eq_true rfl) (by omega) (f_X7_kind (by omega) hx hIg6 (fun v12 l_v12 u_v12 hc13 => ⟨_, rfl, ?_⟩))
        show mm_W d mmX4_readHeat 78 [some (.ref 81), some (.ref q1), some (.int (Int32.ofInt v4)), o5] [.int (Int32.ofInt v12)] (mz_mk g6 x) Q
        replace hE := zf_t1 hE hc13
        refine mm_g 1 (pc1 := 79) (lo1 := [some (.ref 81), some (.ref q1), some (.int (Int32.ofInt v4)), o5]) (st1 := [.int (Int32.ofInt 2), .int (Int32.ofInt v12)]) (H1 := mz_mk g6 x) rfl ?_
        refine mz_ic_ne (tgt := 90) rfl rfl (mz_rg l_v12 u_v12) ⟨by decide, by decide⟩ (fun c79_13 => ?_) (fun c79_13 => ?_)
        · skip
          replace hE := zf_in hE c79_13
          refine mm_g 1 (pc1 := 91) (lo1 := [some (.ref 81), some (.ref q1), some (.int (Int32.ofInt v4)), o5]) (st1 := [.int (Int32.ofInt 1)]) (H1 := mz_mk g6 x) rfl ?_
          refine mz_gt (tgt := 95) rfl rfl ?_
          exact mz_rtZ rfl (by decide) (by omega) (hQ _ _ hIg6 (fun k j hk => ((hfg6 k j (fun h => hk (Or.elim h (fun h => (Or.inl h)) (fun h => (Or.elim h (fun h => (Or.inr (Or.inl h))) (fun h => (Or.elim h (fun h => (Or.inr (Or.inr (Or.inl h)))) (fun h => (Or.elim h (fun h => (Or.inr (Or.inr (Or.inr (Or.inl h))))) (fun h => (Or.elim h (fun h => (Or.inr (Or.inr (Or.inr (Or.inr (Or.inl h)))))) (fun h => (Or.elim h (fun h => (Or.inr (Or.inr (Or.inr (Or.inr (Or.inr (Or.inl h))))))) (fun h => (Or.elim h (fun h => (Or.inr (Or.inr (Or.inr (Or.inr (Or.inr (Or.inr (Or.inl h)))))))) (fun h => (Or.inr (Or.inr (Or.inr (Or.inr (Or.inr (Or.inr (Or.inr h))))))))))))))))))))))).trans (hfg2 k j (fun h => hk (Or.elim h (fun h => (Or.inl h)) (fun h => (Or.elim h (fun h => (Or.inr (Or.inl h))) (fun h => (Or.elim h (fun h => (Or.inr (Or.inr (Or.inl h)))) (fun h => (Or.inr (Or.inr (Or.inr (Or.inl h)))))))))))))) (by decide) (by decide) hE)
        · skip
          replace hE := zf_ip hE c79_13
          refine mm_g 2 (pc1 := 84) (lo1 := [some (.ref 81), some (.ref q1), some (.int (Int32.ofInt v4)), o5]) (st1 := [.int (Int32.ofInt 2), .ref 81]) (H1 := mz_mk g6 x) rfl ?_
          refine mz_cv rfl mt_4_95 (by decide) (sc_81 _) rfl (Nat.le_of_ble_eq_true rfl) (by omega) (f_X4_blame (by omega) hx hIg6 (by decide) (by decide) (fun v14 g15 hIg15 hfg15 l_v14 u_v14 hc16 => ⟨_, rfl, ?_⟩))
          show mm_W d mmX4_readHeat 87 [some (.ref 81), some (.ref q1), some (.int (Int32.ofInt v4)), o5] [.int (Int32.ofInt v14)] (mz_mk g15 x) Q
          replace hE := zf_t2 hE hc16
          refine mz_if_eq (tgt := 94) rfl rfl (mz_rg l_v14 u_v14) (fun c87_16 => ?_) (fun c87_16 => ?_)
          · skip
            replace hE := zf_ip hE c87_16
            refine mm_g 1 (pc1 := 95) (lo1 := [some (.ref 81), some (.ref q1), some (.int (Int32.ofInt v4)), o5]) (st1 := [.int (Int32.ofInt 0)]) (H1 := mz_mk g15 x) rfl ?_
            exact mz_rtZ rfl (by decide) (by omega) (hQ _ _ hIg15 (fun k j hk => ((hfg15 k j (fun h => hk (Or.elim h (fun h => (Or.inr (Or.inr (Or.inr (Or.inr (Or.inl h)))))) (fun h => (Or.inr (Or.inr (Or.inr (Or.inr (Or.inr (Or.inl h)))))))))).trans ((hfg6 k j (fun h => hk (Or.elim h (fun h => (Or.inl h)) (fun h => (Or.elim h (fun h => (Or.inr (Or.inl h))) (fun h => (Or.elim h (fun h => (Or.inr (Or.inr (Or.inl h)))) (fun h => (Or.elim h (fun h => (Or.inr (Or.inr (Or.inr (Or.inl h))))) (fun h => (Or.elim h (fun h => (Or.inr (Or.inr (Or.inr (Or.inr (Or.inl h)))))) (fun h => (Or.elim h (fun h => (Or.inr (Or.inr (Or.inr (Or.inr (Or.inr (Or.inl h))))))) (fun h => (Or.elim h (fun h => (Or.inr (Or.inr (Or.inr (Or.inr (Or.inr (Or.inr (Or.inl h)))))))) (fun h => (Or.inr (Or.inr (Or.inr (Or.inr (Or.inr (Or.inr (Or.inr h))))))))))))))))))))))).trans (hfg2 k j (fun h => hk (Or.elim h (fun h => (Or.inl h)) (fun h => (Or.elim h (fun h => (Or.inr (Or.inl h))) (fun h => (Or.elim h (fun h => (Or.inr (Or.inr (Or.inl h)))) (fun h => (Or.inr (Or.inr (Or.inr (Or.inl h))))))))))))))) (by decide) (by decide) hE)
          · exfalso; omega
      · skip
        replace hE := zf_ip hE c25_11
        refine mm_g 1 (pc1 := 29) (lo1 := [some (.ref 81), some (.ref q1), some (.int (Int32.ofInt v4)), o5]) (st1 := [.int (Int32.ofInt v4)]) (H1 := mz_mk g6 x) rfl ?_
        refine mz_if_le (tgt := 45) rfl rfl (mz_rg l_v4 u_v4) (fun c29_16 => ?_) (fun c29_16 => ?_)
        · skip
          replace hE := zf_nl hE c29_16
          refine mm_g 1 (pc1 := 46) (lo1 := [some (.ref 81), some (.ref q1), some (.int (Int32.ofInt v4)), o5]) (st1 := [.ref 81]) (H1 := mz_mk g6 x) rfl ?_
          refine mz_bip rfl bip_9 ?_
          refine mm_g 1 (pc1 := 49) (lo1 := [some (.ref 81), some (.ref q1), some (.int (Int32.ofInt v4)), o5]) (st1 := [.int (Int32.ofInt 2), .int (Int32.ofInt 9), .ref 81]) (H1 := mz_mk g6 x) rfl ?_
          refine mz_cv rfl mt_4_122 (by decide) (sc_81 _) rfl (Nat.le_of_ble_eq_true rfl) (by omega) (f_X4_readNumber (by omega) hx hIg6 (by decide) (by decide) (by decide) (by decide) (fun v17 g18 hIg18 hfg18 l_v17 u_v17 hc19 => ⟨_, rfl, ?_⟩))
          show mm_W d mmX4_readHeat 52 [some (.ref 81), some (.ref q1), some (.int (Int32.ofInt v4)), o5] [.int (Int32.ofInt v17)] (mz_mk g18 x) Q
          replace hE := zf_t2 hE hc19
          refine mm_g 3 (pc1 := 55) (lo1 := [some (.ref 81), some (.ref q1), some (.int (Int32.ofInt v4)), some (.int (Int32.ofInt v17))]) (st1 := [.int (Int32.ofInt (-1)), .int (Int32.ofInt v17)]) (H1 := mz_mk g18 x) rfl ?_
          refine mz_ic_ne (tgt := 60) rfl rfl (mz_rg l_v17 u_v17) ⟨by decide, by decide⟩ (fun c55_19 => ?_) (fun c55_19 => ?_)
          · skip
            replace hE := zf_in hE c55_19
            refine mm_g 2 (pc1 := 62) (lo1 := [some (.ref 81), some (.ref q1), some (.int (Int32.ofInt v4)), some (.int (Int32.ofInt v17))]) (st1 := [.int (Int32.ofInt v17), .ref q1]) (H1 := mz_mk g18 x) rfl ?_
            refine mz_cv rfl mt_4_148 (by decide) (kc_load h_q1 _) rfl (Nat.le_of_ble_eq_true rfl) (by omega) (f_X1_addHeat (by omega) hx hIg18 h_q1 l_v17 u_v17 (fun g20 hIg20 hfg20 hc21 => ⟨_, rfl, ?_⟩))
            show mm_W d mmX4_readHeat 65 [some (.ref 81), some (.ref q1), some (.int (Int32.ofInt v4)), some (.int (Int32.ofInt v17))] [] (mz_mk g20 x) Q
            replace hE := zf_t1 hE hc21
            refine mz_iincR (v := v4) (lo2 := [some (.ref 81), some (.ref q1), some (.int (Int32.ofInt (v4 + 1))), some (.int (Int32.ofInt v17))]) rfl rfl rfl (Nat.le_of_ble_eq_true rfl) rfl ?_
            refine mz_gt (tgt := 22) rfl rfl ?_
            exact ih7 ((8 - (v4 + 1)).toNat) (by omega) (v4 + 1) (some (.int (Int32.ofInt v17))) g20 rfl (by omega) (by omega) (mz_nl_i _) hIg20 (fun k j hk => ((hfg20 k j (fun h => hk (Or.elim h (fun h => (Or.inr (Or.inr (Or.inr (Or.inr (Or.inr (Or.inr (Or.inl h)))))))) (fun h => (Or.inr (Or.inr (Or.inr (Or.inr (Or.inr (Or.inr (Or.inr h))))))))))).trans ((hfg18 k j (fun h => hk (Or.elim h (fun h => (Or.inl h)) (fun h => (Or.elim h (fun h => (Or.inr (Or.inl h))) (fun h => (Or.elim h (fun h => (Or.inr (Or.inr (Or.inl h)))) (fun h => (Or.elim h (fun h => (Or.inr (Or.inr (Or.inr (Or.inl h))))) (fun h => (Or.elim h (fun h => (Or.inr (Or.inr (Or.inr (Or.inr (Or.inl h)))))) (fun h => (Or.inr (Or.inr (Or.inr (Or.inr (Or.inr (Or.inl h)))))))))))))))))).trans (hfg6 k j (fun h => hk (Or.elim h (fun h => (Or.inl h)) (fun h => (Or.elim h (fun h => (Or.inr (Or.inl h))) (fun h => (Or.elim h (fun h => (Or.inr (Or.inr (Or.inl h)))) (fun h => (Or.elim h (fun h => (Or.inr (Or.inr (Or.inr (Or.inl h))))) (fun h => (Or.elim h (fun h => (Or.inr (Or.inr (Or.inr (Or.inr (Or.inl h)))))) (fun h => (Or.elim h (fun h => (Or.inr (Or.inr (Or.inr (Or.inr (Or.inr (Or.inl h))))))) (fun h => (Or.elim h (fun h => (Or.inr (Or.inr (Or.inr (Or.inr (Or.inr (Or.inr (Or.inl h)))))))) (fun h => (Or.inr (Or.inr (Or.inr (Or.inr (Or.inr (Or.inr (Or.inr h)))))))))))))))))))))))))) ⟨fj10, Nat.lt_of_lt_of_le (show ((8 - (v4 + 1)).toNat) < n8 from (by omega)) fn11, hE⟩
          · skip
            replace hE := zf_ip hE c55_19
            refine mm_g 1 (pc1 := 59) (lo1 := [some (.ref 81), some (.ref q1), some (.int (Int32.ofInt v4)), some (.int (Int32.ofInt v17))]) (st1 := [.int (Int32.ofInt 0)]) (H1 := mz_mk g18 x) rfl ?_
            exact mz_rtZ rfl (by decide) (by omega) (hQ _ _ hIg18 (fun k j hk => ((hfg18 k j (fun h => hk (Or.elim h (fun h => (Or.inl h)) (fun h => (Or.elim h (fun h => (Or.inr (Or.inl h))) (fun h => (Or.elim h (fun h => (Or.inr (Or.inr (Or.inl h)))) (fun h => (Or.elim h (fun h => (Or.inr (Or.inr (Or.inr (Or.inl h))))) (fun h => (Or.elim h (fun h => (Or.inr (Or.inr (Or.inr (Or.inr (Or.inl h)))))) (fun h => (Or.inr (Or.inr (Or.inr (Or.inr (Or.inr (Or.inl h)))))))))))))))))).trans ((hfg6 k j (fun h => hk (Or.elim h (fun h => (Or.inl h)) (fun h => (Or.elim h (fun h => (Or.inr (Or.inl h))) (fun h => (Or.elim h (fun h => (Or.inr (Or.inr (Or.inl h)))) (fun h => (Or.elim h (fun h => (Or.inr (Or.inr (Or.inr (Or.inl h))))) (fun h => (Or.elim h (fun h => (Or.inr (Or.inr (Or.inr (Or.inr (Or.inl h)))))) (fun h => (Or.elim h (fun h => (Or.inr (Or.inr (Or.inr (Or.inr (Or.inr (Or.inl h))))))) (fun h => (Or.elim h (fun h => (Or.inr (Or.inr (Or.inr (Or.inr (Or.inr (Or.inr (Or.inl h)))))))) (fun h => (Or.inr (Or.inr (Or.inr (Or.inr (Or.inr (Or.inr (Or.inr h))))))))))))))))))))))).trans (hfg2 k j (fun h => hk (Or.elim h (fun h => (Or.inl h)) (fun h => (Or.elim h (fun h => (Or.inr (Or.inl h))) (fun h => (Or.elim h (fun h => (Or.inr (Or.inr (Or.inl h)))) (fun h => (Or.inr (Or.inr (Or.inr (Or.inl h))))))))))))))) (by decide) (by decide) hE)
        · skip
          replace hE := zf_ip hE c29_16
          refine mm_g 1 (pc1 := 33) (lo1 := [some (.ref 81), some (.ref q1), some (.int (Int32.ofInt v4)), o5]) (st1 := [.ref 81]) (H1 := mz_mk g6 x) rfl ?_
          refine mz_fgR (v := 82) rfl fd_4_12 (by decide) (sc_81 _) (rf_81_0 _ _ _) ?_
          refine mz_cv rfl mt_4_48 (by decide) (sc_82 _) rfl (Nat.le_of_ble_eq_true rfl) (by omega) (f_X7_kind (by omega) hx hIg6 (fun v22 l_v22 u_v22 hc23 => ⟨_, rfl, ?_⟩))
          show mm_W d mmX4_readHeat 39 [some (.ref 81), some (.ref q1), some (.int (Int32.ofInt v4)), o5] [.int (Int32.ofInt v22)] (mz_mk g6 x) Q
          replace hE := zf_t1 hE hc23
          refine mm_g 1 (pc1 := 40) (lo1 := [some (.ref 81), some (.ref q1), some (.int (Int32.ofInt v4)), o5]) (st1 := [.int (Int32.ofInt 2), .int (Int32.ofInt v22)]) (H1 := mz_mk g6 x) rfl ?_
          refine mz_ic_eq (tgt := 45) rfl rfl (mz_rg l_v22 u_v22) ⟨by decide, by decide⟩ (fun c40_23 => ?_) (fun c40_23 => ?_)
          · skip
            replace hE := zf_ip hE c40_23
            refine mm_g 1 (pc1 := 46) (lo1 := [some (.ref 81), some (.ref q1), some (.int (Int32.ofInt v4)), o5]) (st1 := [.ref 81]) (H1 := mz_mk g6 x) rfl ?_
            refine mz_bip rfl bip_9 ?_
            refine mm_g 1 (pc1 := 49) (lo1 := [some (.ref 81), some (.ref q1), some (.int (Int32.ofInt v4)), o5]) (st1 := [.int (Int32.ofInt 2), .int (Int32.ofInt 9), .ref 81]) (H1 := mz_mk g6 x) rfl ?_
            refine mz_cv rfl mt_4_122 (by decide) (sc_81 _) rfl (Nat.le_of_ble_eq_true rfl) (by omega) (f_X4_readNumber (by omega) hx hIg6 (by decide) (by decide) (by decide) (by decide) (fun v24 g25 hIg25 hfg25 l_v24 u_v24 hc26 => ⟨_, rfl, ?_⟩))
            show mm_W d mmX4_readHeat 52 [some (.ref 81), some (.ref q1), some (.int (Int32.ofInt v4)), o5] [.int (Int32.ofInt v24)] (mz_mk g25 x) Q
            replace hE := zf_t2 hE hc26
            refine mm_g 3 (pc1 := 55) (lo1 := [some (.ref 81), some (.ref q1), some (.int (Int32.ofInt v4)), some (.int (Int32.ofInt v24))]) (st1 := [.int (Int32.ofInt (-1)), .int (Int32.ofInt v24)]) (H1 := mz_mk g25 x) rfl ?_
            refine mz_ic_ne (tgt := 60) rfl rfl (mz_rg l_v24 u_v24) ⟨by decide, by decide⟩ (fun c55_26 => ?_) (fun c55_26 => ?_)
            · skip
              replace hE := zf_in hE c55_26
              refine mm_g 2 (pc1 := 62) (lo1 := [some (.ref 81), some (.ref q1), some (.int (Int32.ofInt v4)), some (.int (Int32.ofInt v24))]) (st1 := [.int (Int32.ofInt v24), .ref q1]) (H1 := mz_mk g25 x) rfl ?_
              refine mz_cv rfl mt_4_148 (by decide) (kc_load h_q1 _) rfl (Nat.le_of_ble_eq_true rfl) (by omega) (f_X1_addHeat (by omega) hx hIg25 h_q1 l_v24 u_v24 (fun g27 hIg27 hfg27 hc28 => ⟨_, rfl, ?_⟩))
              show mm_W d mmX4_readHeat 65 [some (.ref 81), some (.ref q1), some (.int (Int32.ofInt v4)), some (.int (Int32.ofInt v24))] [] (mz_mk g27 x) Q
              replace hE := zf_t1 hE hc28
              refine mz_iincR (v := v4) (lo2 := [some (.ref 81), some (.ref q1), some (.int (Int32.ofInt (v4 + 1))), some (.int (Int32.ofInt v24))]) rfl rfl rfl (Nat.le_of_ble_eq_true rfl) rfl ?_
              refine mz_gt (tgt := 22) rfl rfl ?_
              exact ih7 ((8 - (v4 + 1)).toNat) (by omega) (v4 + 1) (some (.int (Int32.ofInt v24))) g27 rfl (by omega) (by omega) (mz_nl_i _) hIg27 (fun k j hk => ((hfg27 k j (fun h => hk (Or.elim h (fun h => (Or.inr (Or.inr (Or.inr (Or.inr (Or.inr (Or.inr (Or.inl h)))))))) (fun h => (Or.inr (Or.inr (Or.inr (Or.inr (Or.inr (Or.inr (Or.inr h))))))))))).trans ((hfg25 k j (fun h => hk (Or.elim h (fun h => (Or.inl h)) (fun h => (Or.elim h (fun h => (Or.inr (Or.inl h))) (fun h => (Or.elim h (fun h => (Or.inr (Or.inr (Or.inl h)))) (fun h => (Or.elim h (fun h => (Or.inr (Or.inr (Or.inr (Or.inl h))))) (fun h => (Or.elim h (fun h => (Or.inr (Or.inr (Or.inr (Or.inr (Or.inl h)))))) (fun h => (Or.inr (Or.inr (Or.inr (Or.inr (Or.inr (Or.inl h)))))))))))))))))).trans (hfg6 k j (fun h => hk (Or.elim h (fun h => (Or.inl h)) (fun h => (Or.elim h (fun h => (Or.inr (Or.inl h))) (fun h => (Or.elim h (fun h => (Or.inr (Or.inr (Or.inl h)))) (fun h => (Or.elim h (fun h => (Or.inr (Or.inr (Or.inr (Or.inl h))))) (fun h => (Or.elim h (fun h => (Or.inr (Or.inr (Or.inr (Or.inr (Or.inl h)))))) (fun h => (Or.elim h (fun h => (Or.inr (Or.inr (Or.inr (Or.inr (Or.inr (Or.inl h))))))) (fun h => (Or.elim h (fun h => (Or.inr (Or.inr (Or.inr (Or.inr (Or.inr (Or.inr (Or.inl h)))))))) (fun h => (Or.inr (Or.inr (Or.inr (Or.inr (Or.inr (Or.inr (Or.inr h)))))))))))))))))))))))))) ⟨fj10, Nat.lt_of_lt_of_le (show ((8 - (v4 + 1)).toNat) < n8 from (by omega)) fn11, hE⟩
            · skip
              replace hE := zf_ip hE c55_26
              refine mm_g 1 (pc1 := 59) (lo1 := [some (.ref 81), some (.ref q1), some (.int (Int32.ofInt v4)), some (.int (Int32.ofInt v24))]) (st1 := [.int (Int32.ofInt 0)]) (H1 := mz_mk g25 x) rfl ?_
              exact mz_rtZ rfl (by decide) (by omega) (hQ _ _ hIg25 (fun k j hk => ((hfg25 k j (fun h => hk (Or.elim h (fun h => (Or.inl h)) (fun h => (Or.elim h (fun h => (Or.inr (Or.inl h))) (fun h => (Or.elim h (fun h => (Or.inr (Or.inr (Or.inl h)))) (fun h => (Or.elim h (fun h => (Or.inr (Or.inr (Or.inr (Or.inl h))))) (fun h => (Or.elim h (fun h => (Or.inr (Or.inr (Or.inr (Or.inr (Or.inl h)))))) (fun h => (Or.inr (Or.inr (Or.inr (Or.inr (Or.inr (Or.inl h)))))))))))))))))).trans ((hfg6 k j (fun h => hk (Or.elim h (fun h => (Or.inl h)) (fun h => (Or.elim h (fun h => (Or.inr (Or.inl h))) (fun h => (Or.elim h (fun h => (Or.inr (Or.inr (Or.inl h)))) (fun h => (Or.elim h (fun h => (Or.inr (Or.inr (Or.inr (Or.inl h))))) (fun h => (Or.elim h (fun h => (Or.inr (Or.inr (Or.inr (Or.inr (Or.inl h)))))) (fun h => (Or.elim h (fun h => (Or.inr (Or.inr (Or.inr (Or.inr (Or.inr (Or.inl h))))))) (fun h => (Or.elim h (fun h => (Or.inr (Or.inr (Or.inr (Or.inr (Or.inr (Or.inr (Or.inl h)))))))) (fun h => (Or.inr (Or.inr (Or.inr (Or.inr (Or.inr (Or.inr (Or.inr h))))))))))))))))))))))).trans (hfg2 k j (fun h => hk (Or.elim h (fun h => (Or.inl h)) (fun h => (Or.elim h (fun h => (Or.inr (Or.inl h))) (fun h => (Or.elim h (fun h => (Or.inr (Or.inr (Or.inl h)))) (fun h => (Or.inr (Or.inr (Or.inr (Or.inl h))))))))))))))) (by decide) (by decide) hE)
          · skip
            replace hE := zf_in hE c40_23
            refine mm_g 1 (pc1 := 44) (lo1 := [some (.ref 81), some (.ref q1), some (.int (Int32.ofInt v4)), o5]) (st1 := [.int (Int32.ofInt 1)]) (H1 := mz_mk g6 x) rfl ?_
            exact mz_rtZ rfl (by decide) (by omega) (hQ _ _ hIg6 (fun k j hk => ((hfg6 k j (fun h => hk (Or.elim h (fun h => (Or.inl h)) (fun h => (Or.elim h (fun h => (Or.inr (Or.inl h))) (fun h => (Or.elim h (fun h => (Or.inr (Or.inr (Or.inl h)))) (fun h => (Or.elim h (fun h => (Or.inr (Or.inr (Or.inr (Or.inl h))))) (fun h => (Or.elim h (fun h => (Or.inr (Or.inr (Or.inr (Or.inr (Or.inl h)))))) (fun h => (Or.elim h (fun h => (Or.inr (Or.inr (Or.inr (Or.inr (Or.inr (Or.inl h))))))) (fun h => (Or.elim h (fun h => (Or.inr (Or.inr (Or.inr (Or.inr (Or.inr (Or.inr (Or.inl h)))))))) (fun h => (Or.inr (Or.inr (Or.inr (Or.inr (Or.inr (Or.inr (Or.inr h))))))))))))))))))))))).trans (hfg2 k j (fun h => hk (Or.elim h (fun h => (Or.inl h)) (fun h => (Or.elim h (fun h => (Or.inr (Or.inl h))) (fun h => (Or.elim h (fun h => (Or.inr (Or.inr (Or.inl h)))) (fun h => (Or.inr (Or.inr (Or.inr (Or.inl h)))))))))))))) (by decide) (by decide) hE)
    exact L9 _ 0 none g2 rfl (by decide) (by decide) mz_nl_n hIg2 (fun _ _ _ => rfl) ⟨3000000000, by omega, hE⟩
  · skip
    replace hE := zf_ip hE c4_1
    refine mm_g 2 (pc1 := 9) (lo1 := [some (.ref 81), some (.ref q1), none, none]) (st1 := [.int (Int32.ofInt 5), .ref 81]) (H1 := mz_mk g x) rfl ?_
    refine mz_cv rfl mt_4_95 (by decide) (sc_81 _) rfl (Nat.le_of_ble_eq_true rfl) (by omega) (f_X4_blame (by omega) hx hI (by decide) (by decide) (fun v29 g30 hIg30 hfg30 l_v29 u_v29 hc31 => ⟨_, rfl, ?_⟩))
    show mm_W d mmX4_readHeat 12 [some (.ref 81), some (.ref q1), none, none] [.int (Int32.ofInt v29)] (mz_mk g30 x) Q
    replace hE := zf_t2 hE hc31
    exact mz_rtZ rfl (by decide) (by omega) (hQ _ _ hIg30 (fun k j hk => (hfg30 k j (fun h => hk (Or.elim h (fun h => (Or.inr (Or.inr (Or.inr (Or.inr (Or.inl h)))))) (fun h => (Or.inr (Or.inr (Or.inr (Or.inr (Or.inr (Or.inl h))))))))))) (by omega) (by omega) hE)
theorem f_X5_isTold {d : Nat} (hd : 1 ≤ d) {x : mm_X} (hx : mk_x x) {g : mz_G} (hI : mz_inv g) {q0 : Nat} (h_q0 : kd_rule q0) {Q : (Option Value ⊕ Nat) → mm_H → Prop} (hQ : ∀ (r : Int), 0 ≤ r → r ≤ 1 → zf_E (zF_X5_isTold q0 g) (r) → Q (.inl (some (.int (Int32.ofInt r)))) (mz_mk g x)) : mm_C d 59 [.ref q0] (mz_mk g x) Q := by
  have kn_q0 := kn_rule h_q0
  refine ⟨mmX5_isTold, [some (.ref q0)], rfl, rfl, ?_⟩
  have hE : zf_E (zF_X5_isTold q0 g) (zF_X5_isTold q0 g) := zf_rf
  refine mm_g 1 (pc1 := 1) (lo1 := [some (.ref q0)]) (st1 := [.ref q0]) (H1 := mz_mk g x) rfl ?_
  refine mz_gI rfl fd_5_15 (by decide) (kc_rule h_q0 _) hI (kb_rule_1 h_q0) (fun v1 e_v1 l_v1 u_v1 => ?_)
  replace hE := zf_tr hE (zf_le e_v1)
  refine mz_if_le (tgt := 11) rfl rfl (mz_rg l_v1 u_v1) (fun c4_1 => ?_) (fun c4_1 => ?_)
  · skip
    replace hE := zf_nl hE c4_1
    refine mm_g 1 (pc1 := 12) (lo1 := [some (.ref q0)]) (st1 := [.int (Int32.ofInt 0)]) (H1 := mz_mk g x) rfl ?_
    exact mz_rtZ rfl (by decide) (by omega) (hQ _ (by decide) (by decide) hE)
  · skip
    replace hE := zf_ip hE c4_1
    refine mm_g 1 (pc1 := 8) (lo1 := [some (.ref q0)]) (st1 := [.int (Int32.ofInt 1)]) (H1 := mz_mk g x) rfl ?_
    refine mz_gt (tgt := 12) rfl rfl ?_
    exact mz_rtZ rfl (by decide) (by omega) (hQ _ (by decide) (by decide) hE)
