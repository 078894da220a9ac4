/-! EXACT: the class (wip/p2/tools/gen50.py) -/
theorem fd_11_65 : mm_tab mm_fldT 11 65 = some (11, 10, 0) ∧ mm_tab mm_ftT 11 10 = some 6 := ⟨rfl, rfl⟩
theorem fd_11_69 : mm_tab mm_fldT 11 69 = some (11, 11, 0) ∧ mm_tab mm_ftT 11 11 = some 6 := ⟨rfl, rfl⟩
theorem mt_2_39 : mm_tab mm_mthT 2 39 = some (4, 0, 2, 0, 0) := rfl
theorem mt_6_64 : mm_tab mm_mthT 6 64 = some (1, 103, 2, 0, 9) := rfl
theorem mt_9_57 : mm_tab mm_mthT 9 57 = some (0, 176, 2, 1, 11) := rfl
theorem mt_11_272 : mm_tab mm_mthT 11 272 = some (1, 97, 2, 0, 8) := rfl
theorem mt_11_276 : mm_tab mm_mthT 11 276 = some (1, 72, 0, 0, 6) := rfl
theorem mt_11_279 : mm_tab mm_mthT 11 279 = some (0, 173, 1, 0, 11) := rfl
theorem mt_11_282 : mm_tab mm_mthT 11 282 = some (1, 147, 3, 0, 11) := rfl
theorem mt_11_290 : mm_tab mm_mthT 11 290 = some (1, 140, 0, 0, 11) := rfl
theorem mt_11_297 : mm_tab mm_mthT 11 297 = some (1, 95, 1, 0, 8) := rfl
theorem mt_11_301 : mm_tab mm_mthT 11 301 = some (1, 146, 2, 0, 11) := rfl
theorem mt_11_305 : mm_tab mm_mthT 11 305 = some (1, 7, 1, 0, 0) := rfl
theorem mt_11_309 : mm_tab mm_mthT 11 309 = some (1, 6, 1, 0, 0) := rfl
theorem mt_11_312 : mm_tab mm_mthT 11 312 = some (1, 23, 3, 0, 1) := rfl
theorem sc_122 (L : Nat) : (mm_SH L 122).1 = 8 := rfl
theorem sc_123 (L : Nat) : (mm_SH L 123).1 = 8 := rfl
theorem sc_133 (L : Nat) : (mm_SH L 133).1 = 0 := rfl
theorem bd_122_2 : mz_bd 122 2 = ((-2147483648), 2147483647) := rfl
theorem bd_122_3 : mz_bd 122 3 = ((-2147483648), 2147483647) := rfl
theorem rf_0_10 (a b : Nat) (c : Option Nat) : mm_HR a b c 0 10 = some 122 := rfl
theorem rf_0_11 (a b : Nat) (c : Option Nat) : mm_HR a b c 0 11 = some 123 := rfl
theorem kp_trunk_122 : kd_trunk 122 := by unfold kd_trunk; decide
theorem kp_trunk_123 : kd_trunk 123 := by unfold kd_trunk; decide
def fw_X8_packIn (x : mm_X) (q0 : Nat) (a1 : Int) (a2 : Int) : Nat → Nat → Prop := fun k j => k = q0
theorem f_X8_packIn {d : Nat} (hd : 1 ≤ d) {x : mm_X} (hx : mk_x x) {g : mz_G} (hI : mz_inv g) {q0 : Nat} (h_q0 : kd_trunk q0) {a1 : Int} (l_a1 : (-2147483648) ≤ a1) (u_a1 : a1 ≤ 2147483647) {a2 : Int} (l_a2 : (-2147483648) ≤ a2) (u_a2 : a2 ≤ 2147483647) {Q : (Option Value ⊕ Nat) → mm_H → Prop} (hQ : ∀ (g1 : mz_G), mz_inv g1 → mz_fr (fw_X8_packIn x q0 a1 a2) g g1 → zf_E (zF_X8_packIn q0 a1 a2 g) (g1) → Q (.inl none) (mz_mk g1 x)) : mm_C d 97 [.ref q0, .int (Int32.ofInt a1), .int (Int32.ofInt a2)] (mz_mk g x) Q := by
  have kn_q0 := kn_trunk h_q0
  refine ⟨mmX8_packIn, [some (.ref q0), some (.int (Int32.ofInt a1)), some (.int (Int32.ofInt a2))], rfl, rfl, ?_⟩
  have hE : zf_E (zF_X8_packIn q0 a1 a2 g) (zF_X8_packIn q0 a1 a2 g) := zf_rf
  refine mm_g 1 (pc1 := 1) (lo1 := [some (.ref q0), some (.int (Int32.ofInt a1)), some (.int (Int32.ofInt a2))]) (st1 := [.int (Int32.ofInt a1)]) (H1 := mz_mk g x) rfl ?_
  refine mz_if_ne (tgt := 12) rfl rfl (mz_rg l_a1 u_a1) (fun c1_0 => ?_) (fun c1_0 => ?_)
  · skip
    replace hE := zf_in hE c1_0
    refine mm_g 2 (pc1 := 14) (lo1 := [some (.ref q0), some (.int (Int32.ofInt a1)), some (.int (Int32.ofInt a2))]) (st1 := [.int (Int32.ofInt a2), .ref q0]) (H1 := mz_mk g x) rfl ?_
    refine mz_pI rfl fd_8_13 (kc_trunk h_q0 _) hI (kb_trunk_1 h_q0) (by omega) (by omega) (fun g1 hIg1 hug1 => ?_)
    replace hE := zf_tr hE (zf_lg hug1)
    refine mm_g 2 (pc1 := 19) (lo1 := [some (.ref q0), some (.int (Int32.ofInt a1)), some (.int (Int32.ofInt a2))]) (st1 := [.int (Int32.ofInt 0), .ref q0]) (H1 := mz_mk g1 x) rfl ?_
    refine mz_pI rfl fd_8_19 (kc_trunk h_q0 _) hIg1 (kb_trunk_3 h_q0) (by omega) (by omega) (fun g2 hIg2 hug2 => ?_)
    replace hE := zf_tr hE (zf_lg hug2)
    exact mm_rt rfl rfl (hQ _ hIg2 (fun k j hk => ((hug2.2 k j (fun h => hk h.1)).trans (hug1.2 k j (fun h => hk h.1)))) hE)
  · skip
    replace hE := zf_ip hE c1_0
    refine mm_g 2 (pc1 := 6) (lo1 := [some (.ref q0), some (.int (Int32.ofInt a1)), some (.int (Int32.ofInt a2))]) (st1 := [.int (Int32.ofInt a2), .ref q0]) (H1 := mz_mk g x) rfl ?_
    refine mz_pI rfl fd_8_7 (kc_trunk h_q0 _) hI (kb_trunk_0 h_q0) (by omega) (by omega) (fun g3 hIg3 hug3 => ?_)
    replace hE := zf_tr hE (zf_lg hug3)
    refine mz_gt (tgt := 17) rfl rfl ?_
    refine mm_g 2 (pc1 := 19) (lo1 := [some (.ref q0), some (.int (Int32.ofInt a1)), some (.int (Int32.ofInt a2))]) (st1 := [.int (Int32.ofInt 0), .ref q0]) (H1 := mz_mk g3 x) rfl ?_
    refine mz_pI rfl fd_8_19 (kc_trunk h_q0 _) hIg3 (kb_trunk_3 h_q0) (by omega) (by omega) (fun g4 hIg4 hug4 => ?_)
    replace hE := zf_tr hE (zf_lg hug4)
    exact mm_rt rfl rfl (hQ _ hIg4 (fun k j hk => ((hug4.2 k j (fun h => hk h.1)).trans (hug3.2 k j (fun h => hk h.1)))) hE)
def fw_X11_pack (x : mm_X) (a1 : Int) (a2 : Int) (a3 : Int) : Nat → Nat → Prop := fun k j => k = 96 ∨ k = 86 ∨ (87 ≤ k ∧ k < 96) ∨ k = 100
theorem f_X11_pack {d : Nat} (hd : 13 ≤ d) {x : mm_X} (hx : mk_x x) {g : mz_G} (hI : mz_inv g) {a1 : Int} (l_a1 : (-2147483648) ≤ a1) (u_a1 : a1 ≤ 2147483647) {a2 : Int} (l_a2 : (-2147483648) ≤ a2) (u_a2 : a2 ≤ 2147483647) {a3 : Int} (l_a3 : (-2147483648) ≤ a3) (u_a3 : a3 ≤ 2147483647) {Q : (Option Value ⊕ Nat) → mm_H → Prop} (hQ : ∀ (r : Int) (g1 : mz_G), mz_inv g1 → mz_fr (fw_X11_pack x a1 a2 a3) g g1 → (-2147483648) ≤ r → r ≤ 2147483647 → zf_E (zF_X11_pack x a1 a2 a3 g) ((0, r, g1)) → Q (.inl (some (.int (Int32.ofInt r)))) (mz_mk g1 x)) (hX0 : (zf_E (zF_X11_pack x a1 a2 a3 g) ((1, 0, g))) → Q (.inr 0) (mz_mk g (mz_tx x))) : mm_C d 137 [.ref 0, .int (Int32.ofInt a1), .int (Int32.ofInt a2), .int (Int32.ofInt a3)] (mz_mk g x) Q := by
  have kx := kn_x hx
  refine ⟨mmX11_pack, [some (.ref 0), some (.int (Int32.ofInt a1)), some (.int (Int32.ofInt a2)), some (.int (Int32.ofInt a3)), none, none], rfl, rfl, ?_⟩
  have hE : zf_E (zF_X11_pack x a1 a2 a3 g) (zF_X11_pack x a1 a2 a3 g) := zf_rf
  refine mm_g 2 (pc1 := 2) (lo1 := [some (.ref 0), some (.int (Int32.ofInt a1)), some (.int (Int32.ofInt a2)), some (.int (Int32.ofInt a3)), none, none]) (st1 := [.int (Int32.ofInt a1), .ref 0]) (H1 := mz_mk g x) rfl ?_
  refine mz_cv rfl mt_11_231 (by decide) (sc_0 _) rfl (Nat.le_of_ble_eq_true rfl) (by omega) (f_X11_isTrunk (by omega) hx hI l_a1 u_a1 (fun v1 l_v1 u_v1 hc2 => ⟨_, rfl, ?_⟩))
  show mm_W d mmX11_pack 5 [some (.ref 0), some (.int (Int32.ofInt a1)), some (.int (Int32.ofInt a2)), some (.int (Int32.ofInt a3)), none, none] [.int (Int32.ofInt v1)] (mz_mk g x) Q
  replace hE := zf_t1 hE hc2
  refine mz_if_eq (tgt := 29) rfl rfl (mz_rg l_v1 u_v1) (fun c5_2 => ?_) (fun c5_2 => ?_)
  · skip
    replace hE := zf_ip hE c5_2
    refine mm_g 1 (pc1 := 30) (lo1 := [some (.ref 0), some (.int (Int32.ofInt a1)), some (.int (Int32.ofInt a2)), some (.int (Int32.ofInt a3)), none, none]) (st1 := [.int (Int32.ofInt 0)]) (H1 := mz_mk g x) rfl ?_
    (try unfold zJ_X11_pack_29 at hE)
    (try unfold zJ_X11_pack_30 at hE)
    (try unfold zJ_X11_pack_63 at hE)
    (try unfold zJ_X11_pack_17 at hE)
    (try unfold zJ_X11_pack_29 at hE)
    (try unfold zJ_X11_pack_30 at hE)
    (try unfold zJ_X11_pack_63 at hE)
    (try unfold zJ_X11_pack_17 at hE)
    refine mz_csx rfl mt_11_183 rfl (Nat.le_of_ble_eq_true rfl) (by omega) rfl nh_X11_mustBe (f_X11_mustBe (by omega) hx hI (by decide) (by decide) (fun hp3 hc4 => ?_) (fun hc => hX0 (zf_x2 hE hc (by decide))))
    show mm_W d mmX11_pack 33 [some (.ref 0), some (.int (Int32.ofInt a1)), some (.int (Int32.ofInt a2)), some (.int (Int32.ofInt a3)), none, none] [] (mz_mk g x) Q
    replace hE := zf_x1 hE hc4
    exfalso; omega
  · skip
    replace hE := zf_in hE c5_2
    refine mm_g 1 (pc1 := 9) (lo1 := [some (.ref 0), some (.int (Int32.ofInt a1)), some (.int (Int32.ofInt a2)), some (.int (Int32.ofInt a3)), none, none]) (st1 := [.int (Int32.ofInt a2)]) (H1 := mz_mk g x) rfl ?_
    refine mz_if_eq (tgt := 17) rfl rfl (mz_rg l_a2 u_a2) (fun c9_4 => ?_) (fun c9_4 => ?_)
    · skip
      replace hE := zf_ip hE c9_4
      refine mm_g 2 (pc1 := 19) (lo1 := [some (.ref 0), some (.int (Int32.ofInt a1)), some (.int (Int32.ofInt a2)), some (.int (Int32.ofInt a3)), none, none]) (st1 := [.int (Int32.ofInt a3), .ref 0]) (H1 := mz_mk g x) rfl ?_
      refine mz_cv rfl mt_11_199 (by decide) (sc_0 _) rfl (Nat.le_of_ble_eq_true rfl) (by omega) (f_X11_isWord (by omega) hx hI l_a3 u_a3 (fun v5 l_v5 u_v5 hc6 => ⟨_, rfl, ?_⟩))
      show mm_W d mmX11_pack 22 [some (.ref 0), some (.int (Int32.ofInt a1)), some (.int (Int32.ofInt a2)), some (.int (Int32.ofInt a3)), none, none] [.int (Int32.ofInt v5)] (mz_mk g x) Q
      replace hE := zf_t1 hE hc6
      refine mz_if_eq (tgt := 29) rfl rfl (mz_rg l_v5 u_v5) (fun c22_6 => ?_) (fun c22_6 => ?_)
      · skip
        replace hE := zf_ip hE c22_6
        refine mm_g 1 (pc1 := 30) (lo1 := [some (.ref 0), some (.int (Int32.ofInt a1)), some (.int (Int32.ofInt a2)), some (.int (Int32.ofInt a3)), none, none]) (st1 := [.int (Int32.ofInt 0)]) (H1 := mz_mk g x) rfl ?_
        (try unfold zJ_X11_pack_29 at hE)
        (try unfold zJ_X11_pack_30 at hE)
        (try unfold zJ_X11_pack_63 at hE)
        (try unfold zJ_X11_pack_17 at hE)
        (try unfold zJ_X11_pack_29 at hE)
        (try unfold zJ_X11_pack_30 at hE)
        (try unfold zJ_X11_pack_63 at hE)
        (try unfold zJ_X11_pack_17 at hE)
        refine mz_csx rfl mt_11_183 rfl (Nat.le_of_ble_eq_true rfl) (by omega) rfl nh_X11_mustBe (f_X11_mustBe (by omega) hx hI (by decide) (by decide) (fun hp7 hc8 => ?_) (fun hc => hX0 (zf_x2 hE hc (by decide))))
        show mm_W d mmX11_pack 33 [some (.ref 0), some (.int (Int32.ofInt a1)), some (.int (Int32.ofInt a2)), some (.int (Int32.ofInt a3)), none, none] [] (mz_mk g x) Q
        replace hE := zf_x1 hE hc8
        exfalso; omega
      · skip
        replace hE := zf_in hE c22_6
        refine mm_g 1 (pc1 := 26) (lo1 := [some (.ref 0), some (.int (Int32.ofInt a1)), some (.int (Int32.ofInt a2)), some (.int (Int32.ofInt a3)), none, none]) (st1 := [.int (Int32.ofInt 1)]) (H1 := mz_mk g x) rfl ?_
        refine mz_gt (tgt := 30) rfl rfl ?_
        (try unfold zJ_X11_pack_29 at hE)
        (try unfold zJ_X11_pack_30 at hE)
        (try unfold zJ_X11_pack_63 at hE)
        (try unfold zJ_X11_pack_17 at hE)
        (try unfold zJ_X11_pack_29 at hE)
        (try unfold zJ_X11_pack_30 at hE)
        (try unfold zJ_X11_pack_63 at hE)
        (try unfold zJ_X11_pack_17 at hE)
        refine mz_csx rfl mt_11_183 rfl (Nat.le_of_ble_eq_true rfl) (by omega) rfl nh_X11_mustBe (f_X11_mustBe (by omega) hx hI (by decide) (by decide) (fun hp9 hc10 => ?_) (fun hc => hX0 (zf_x2 hE hc (by decide))))
        show mm_W d mmX11_pack 33 [some (.ref 0), some (.int (Int32.ofInt a1)), some (.int (Int32.ofInt a2)), some (.int (Int32.ofInt a3)), none, none] [] (mz_mk g x) Q
        replace hE := zf_x1 hE hc10
        refine mm_g 1 (pc1 := 34) (lo1 := [some (.ref 0), some (.int (Int32.ofInt a1)), some (.int (Int32.ofInt a2)), some (.int (Int32.ofInt a3)), none, none]) (st1 := [.ref 0]) (H1 := mz_mk g x) rfl ?_
        refine mz_fgR (v := 86) rfl fd_11_37 (by decide) (sc_0 _) (rf_0_5 _ _ _) ?_
        refine mz_fgR (v := 87) rfl fd_11_158 (by decide) (sc_86 _) (rf_86_0 _ _ _) ?_
        refine mm_g 1 (pc1 := 41) (lo1 := [some (.ref 0), some (.int (Int32.ofInt a1)), some (.int (Int32.ofInt a2)), some (.int (Int32.ofInt a3)), none, none]) (st1 := [.int (Int32.ofInt a1), .ref 87]) (H1 := mz_mk g x) rfl ?_
        refine mz_cv rfl mt_11_192 (by decide) (sc_87 _) rfl (Nat.le_of_ble_eq_true rfl) (by omega) (f_X9_get (by omega) hx hI kp_tks_87 l_a1 u_a1 (fun u11 k_u11 hp12 hc13 => ⟨_, rfl, ?_⟩))
        show mm_W d mmX11_pack 44 [some (.ref 0), some (.int (Int32.ofInt a1)), some (.int (Int32.ofInt a2)), some (.int (Int32.ofInt a3)), none, none] [.ref u11] (mz_mk g x) Q
        replace hE := zf_t1 hE hc13
        refine mm_g 2 (pc1 := 47) (lo1 := [some (.ref 0), some (.int (Int32.ofInt a1)), some (.int (Int32.ofInt a2)), some (.int (Int32.ofInt a3)), some (.ref u11), none]) (st1 := [.int (Int32.ofInt a2)]) (H1 := mz_mk g x) rfl ?_
        refine mz_if_ne (tgt := 58) rfl rfl (mz_rg l_a2 u_a2) (fun c47_13 => ?_) (fun c47_13 => ?_)
        · exfalso; omega
        · skip
          replace hE := zf_ip hE c47_13
          refine mm_g 1 (pc1 := 52) (lo1 := [some (.ref 0), some (.int (Int32.ofInt a1)), some (.int (Int32.ofInt a2)), some (.int (Int32.ofInt a3)), some (.ref u11), none]) (st1 := [.ref u11]) (H1 := mz_mk g x) rfl ?_
          refine mz_gI rfl fd_11_222 (by decide) (kc_trunk k_u11 _) hI (kb_trunk_0 k_u11) (fun v14 e_v14 l_v14 u_v14 => ?_)
          replace hE := zf_tr hE (zf_le e_v14)
          refine mz_gt (tgt := 63) rfl rfl ?_
          refine mm_g 3 (pc1 := 68) (lo1 := [some (.ref 0), some (.int (Int32.ofInt a1)), some (.int (Int32.ofInt a2)), some (.int (Int32.ofInt a3)), some (.ref u11), some (.int (Int32.ofInt v14))]) (st1 := [.int (Int32.ofInt a3), .int (Int32.ofInt v14)]) (H1 := mz_mk g x) rfl ?_
          refine mz_ic_ne (tgt := 80) rfl rfl (mz_rg l_v14 u_v14) (mz_rg l_a3 u_a3) (fun c68_14 => ?_) (fun c68_14 => ?_)
          · skip
            replace hE := zf_in hE c68_14
            refine mm_g 1 (pc1 := 81) (lo1 := [some (.ref 0), some (.int (Int32.ofInt a1)), some (.int (Int32.ofInt a2)), some (.int (Int32.ofInt a3)), some (.ref u11), some (.int (Int32.ofInt v14))]) (st1 := [.ref 0]) (H1 := mz_mk g x) rfl ?_
            refine mz_fgR (v := 86) rfl fd_11_37 (by decide) (sc_0 _) (rf_0_5 _ _ _) ?_
            refine mz_cv rfl mt_11_253 (by decide) (sc_86 _) rfl (Nat.le_of_ble_eq_true rfl) (by omega) (f_X6_keepAct (by omega) hx hI kp_story_86 (fun g15 hIg15 hfg15 hc16 => ⟨_, rfl, ?_⟩))
            show mm_W d mmX11_pack 87 [some (.ref 0), some (.int (Int32.ofInt a1)), some (.int (Int32.ofInt a2)), some (.int (Int32.ofInt a3)), some (.ref u11), some (.int (Int32.ofInt v14))] [] (mz_mk g15 x) Q
            replace hE := zf_t1 hE hc16
            refine mm_g 3 (pc1 := 91) (lo1 := [some (.ref 0), some (.int (Int32.ofInt a1)), some (.int (Int32.ofInt a2)), some (.int (Int32.ofInt a3)), some (.ref u11), some (.int (Int32.ofInt v14))]) (st1 := [.int (Int32.ofInt a3), .int (Int32.ofInt a2), .ref u11]) (H1 := mz_mk g15 x) rfl ?_
            refine mz_cv rfl mt_11_272 (by decide) (kc_trunk k_u11 _) rfl (Nat.le_of_ble_eq_true rfl) (by omega) (f_X8_packIn (by omega) hx hIg15 k_u11 l_a2 u_a2 l_a3 u_a3 (fun g17 hIg17 hfg17 hc18 => ⟨_, rfl, ?_⟩))
            show mm_W d mmX11_pack 94 [some (.ref 0), some (.int (Int32.ofInt a1)), some (.int (Int32.ofInt a2)), some (.int (Int32.ofInt a3)), some (.ref u11), some (.int (Int32.ofInt v14))] [] (mz_mk g17 x) Q
            replace hE := zf_t1 hE hc18
            refine mm_g 1 (pc1 := 96) (lo1 := [some (.ref 0), some (.int (Int32.ofInt a1)), some (.int (Int32.ofInt a2)), some (.int (Int32.ofInt a3)), some (.ref u11), some (.int (Int32.ofInt v14))]) (st1 := [.int (Int32.ofInt v14)]) (H1 := mz_mk g17 x) rfl ?_
            exact mm_rt rfl rfl (hQ _ _ hIg17 (fun k j hk => ((hfg17 k j (fun h => hk (Or.inr (Or.inr (Or.inl (show (87 ≤ k ∧ k < 96) by have h9 : k = u11 := h; omega)))))).trans (hfg15 k j (fun h => hk (Or.elim h (fun h => (Or.inl h)) (fun h => (Or.inr (Or.inl h)))))))) (by omega) (by omega) hE)
          · skip
            replace hE := zf_ip hE c68_14
            refine mm_g 1 (pc1 := 72) (lo1 := [some (.ref 0), some (.int (Int32.ofInt a1)), some (.int (Int32.ofInt a2)), some (.int (Int32.ofInt a3)), some (.ref u11), some (.int (Int32.ofInt v14))]) (st1 := [.ref 0]) (H1 := mz_mk g x) rfl ?_
            refine mz_fgR (v := 86) rfl fd_11_37 (by decide) (sc_0 _) (rf_0_5 _ _ _) ?_
            refine mm_g 1 (pc1 := 76) (lo1 := [some (.ref 0), some (.int (Int32.ofInt a1)), some (.int (Int32.ofInt a2)), some (.int (Int32.ofInt a3)), some (.ref u11), some (.int (Int32.ofInt v14))]) (st1 := [.int (Int32.ofInt 1), .ref 86]) (H1 := mz_mk g x) rfl ?_
            refine mz_cv rfl mt_11_131 (by decide) (sc_86 _) rfl (Nat.le_of_ble_eq_true rfl) (by omega) (f_X6_refuse (by omega) hx hI kp_story_86 (by decide) (by decide) (fun v19 g20 hIg20 hfg20 l_v19 u_v19 hc21 => ⟨_, rfl, ?_⟩))
            show mm_W d mmX11_pack 79 [some (.ref 0), some (.int (Int32.ofInt a1)), some (.int (Int32.ofInt a2)), some (.int (Int32.ofInt a3)), some (.ref u11), some (.int (Int32.ofInt v14))] [.int (Int32.ofInt v19)] (mz_mk g20 x) Q
            replace hE := zf_t2 hE hc21
            exact mm_rt rfl rfl (hQ _ _ hIg20 (fun k j hk => (hfg20 k j (fun h => hk (Or.inr (Or.inr (Or.inr h)))))) (by omega) (by omega) hE)
    · skip
      replace hE := zf_in hE c9_4
      refine mm_g 2 (pc1 := 14) (lo1 := [some (.ref 0), some (.int (Int32.ofInt a1)), some (.int (Int32.ofInt a2)), some (.int (Int32.ofInt a3)), none, none]) (st1 := [.int (Int32.ofInt 1), .int (Int32.ofInt a2)]) (H1 := mz_mk g x) rfl ?_
      refine mz_ic_ne (tgt := 29) rfl rfl (mz_rg l_a2 u_a2) ⟨by decide, by decide⟩ (fun c14_21 => ?_) (fun c14_21 => ?_)
      · skip
        replace hE := zf_in hE c14_21
        refine mm_g 1 (pc1 := 30) (lo1 := [some (.ref 0), some (.int (Int32.ofInt a1)), some (.int (Int32.ofInt a2)), some (.int (Int32.ofInt a3)), none, none]) (st1 := [.int (Int32.ofInt 0)]) (H1 := mz_mk g x) rfl ?_
        (try unfold zJ_X11_pack_29 at hE)
        (try unfold zJ_X11_pack_30 at hE)
        (try unfold zJ_X11_pack_63 at hE)
        (try unfold zJ_X11_pack_17 at hE)
        (try unfold zJ_X11_pack_29 at hE)
        (try unfold zJ_X11_pack_30 at hE)
        (try unfold zJ_X11_pack_63 at hE)
        (try unfold zJ_X11_pack_17 at hE)
        refine mz_csx rfl mt_11_183 rfl (Nat.le_of_ble_eq_true rfl) (by omega) rfl nh_X11_mustBe (f_X11_mustBe (by omega) hx hI (by decide) (by decide) (fun hp22 hc23 => ?_) (fun hc => hX0 (zf_x2 hE hc (by decide))))
        show mm_W d mmX11_pack 33 [some (.ref 0), some (.int (Int32.ofInt a1)), some (.int (Int32.ofInt a2)), some (.int (Int32.ofInt a3)), none, none] [] (mz_mk g x) Q
        replace hE := zf_x1 hE hc23
        exfalso; omega
      · skip
        replace hE := zf_ip hE c14_21
        refine mm_g 2 (pc1 := 19) (lo1 := [some (.ref 0), some (.int (Int32.ofInt a1)), some (.int (Int32.ofInt a2)), some (.int (Int32.ofInt a3)), none, none]) (st1 := [.int (Int32.ofInt a3), .ref 0]) (H1 := mz_mk g x) rfl ?_
        refine mz_cv rfl mt_11_199 (by decide) (sc_0 _) rfl (Nat.le_of_ble_eq_true rfl) (by omega) (f_X11_isWord (by omega) hx hI l_a3 u_a3 (fun v24 l_v24 u_v24 hc25 => ⟨_, rfl, ?_⟩))
        show mm_W d mmX11_pack 22 [some (.ref 0), some (.int (Int32.ofInt a1)), some (.int (Int32.ofInt a2)), some (.int (Int32.ofInt a3)), none, none] [.int (Int32.ofInt v24)] (mz_mk g x) Q
        replace hE := zf_t1 hE hc25
        refine mz_if_eq (tgt := 29) rfl rfl (mz_rg l_v24 u_v24) (fun c22_25 => ?_) (fun c22_25 => ?_)
        · skip
          replace hE := zf_ip hE c22_25
          refine mm_g 1 (pc1 := 30) (lo1 := [some (.ref 0), some (.int (Int32.ofInt a1)), some (.int (Int32.ofInt a2)), some (.int (Int32.ofInt a3)), none, none]) (st1 := [.int (Int32.ofInt 0)]) (H1 := mz_mk g x) rfl ?_
          (try unfold zJ_X11_pack_29 at hE)
          (try unfold zJ_X11_pack_30 at hE)
          (try unfold zJ_X11_pack_63 at hE)
          (try unfold zJ_X11_pack_17 at hE)
          (try unfold zJ_X11_pack_29 at hE)
          (try unfold zJ_X11_pack_30 at hE)
          (try unfold zJ_X11_pack_63 at hE)
          (try unfold zJ_X11_pack_17 at hE)
          refine mz_csx rfl mt_11_183 rfl (Nat.le_of_ble_eq_true rfl) (by omega) rfl nh_X11_mustBe (f_X11_mustBe (by omega) hx hI (by decide) (by decide) (fun hp26 hc27 => ?_) (fun hc => hX0 (zf_x2 hE hc (by decide))))
          show mm_W d mmX11_pack 33 [some (.ref 0), some (.int (Int32.ofInt a1)), some (.int (Int32.ofInt a2)), some (.int (Int32.ofInt a3)), none, none] [] (mz_mk g x) Q
          replace hE := zf_x1 hE hc27
          exfalso; omega
        · skip
          replace hE := zf_in hE c22_25
          refine mm_g 1 (pc1 := 26) (lo1 := [some (.ref 0), some (.int (Int32.ofInt a1)), some (.int (Int32.ofInt a2)), some (.int (Int32.ofInt a3)), none, none]) (st1 := [.int (Int32.ofInt 1)]) (H1 := mz_mk g x) rfl ?_
          refine mz_gt (tgt := 30) rfl rfl ?_
          (try unfold zJ_X11_pack_29 at hE)
          (try unfold zJ_X11_pack_30 at hE)
          (try unfold zJ_X11_pack_63 at hE)
          (try unfold zJ_X11_pack_17 at hE)
          (try unfold zJ_X11_pack_29 at hE)
          (try unfold zJ_X11_pack_30 at hE)
          (try unfold zJ_X11_pack_63 at hE)
          (try unfold zJ_X11_pack_17 at hE)
          refine mz_csx rfl mt_11_183 rfl (Nat.le_of_ble_eq_true rfl) (by omega) rfl nh_X11_mustBe (f_X11_mustBe (by omega) hx hI (by decide) (by decide) (fun hp28 hc29 => ?_) (fun hc => hX0 (zf_x2 hE hc (by decide))))
          show mm_W d mmX11_pack 33 [some (.ref 0), some (.int (Int32.ofInt a1)), some (.int (Int32.ofInt a2)), some (.int (Int32.ofInt a3)), none, none] [] (mz_mk g x) Q
          replace hE := zf_x1 hE hc29
          refine mm_g 1 (pc1 := 34) (lo1 := [some (.ref 0), some (.int (Int32.ofInt a1)), some (.int (Int32.ofInt a2)), some (.int (Int32.ofInt a3)), none, none]) (st1 := [.ref 0]) (H1 := mz_mk g x) rfl ?_
          refine mz_fgR (v := 86) rfl fd_11_37 (by decide) (sc_0 _) (rf_0_5 _ _ _) ?_
          refine mz_fgR (v := 87) rfl fd_11_158 (by decide) (sc_86 _) (rf_86_0 _ _ _) ?_
          refine mm_g 1 (pc1 := 41) (lo1 := [some (.ref 0), some (.int (Int32.ofInt a1)), some (.int (Int32.ofInt a2)), some (.int (Int32.ofInt a3)), none, none]) (st1 := [.int (Int32.ofInt a1), .ref 87]) (H1 := mz_mk g x) rfl ?_
          refine mz_cv rfl mt_11_192 (by decide) (sc_87 _) rfl (Nat.le_of_ble_eq_true rfl) (by omega) (f_X9_get (by omega) hx hI kp_tks_87 l_a1 u_a1 (fun u30 k_u30 hp31 hc32 => ⟨_, rfl, ?_⟩))
          show mm_W d mmX11_pack 44 [some (.ref 0), some (.int (Int32.ofInt a1)), some (.int (Int32.ofInt a2)), some (.int (Int32.ofInt a3)), none, none] [.ref u30] (mz_mk g x) Q
          replace hE := zf_t1 hE hc32
          refine mm_g 2 (pc1 := 47) (lo1 := [some (.ref 0), some (.int (Int32.ofInt a1)), some (.int (Int32.ofInt a2)), some (.int (Int32.ofInt a3)), some (.ref u30), none]) (st1 := [.int (Int32.ofInt a2)]) (H1 := mz_mk g x) rfl ?_
          refine mz_if_ne (tgt := 58) rfl rfl (mz_rg l_a2 u_a2) (fun c47_32 => ?_) (fun c47_32 => ?_)
          · skip
            replace hE := zf_in hE c47_32
            refine mm_g 1 (pc1 := 60) (lo1 := [some (.ref 0), some (.int (Int32.ofInt a1)), some (.int (Int32.ofInt a2)), some (.int (Int32.ofInt a3)), some (.ref u30), none]) (st1 := [.ref u30]) (H1 := mz_mk g x) rfl ?_
            refine mz_gI rfl fd_11_225 (by decide) (kc_trunk k_u30 _) hI (kb_trunk_1 k_u30) (fun v33 e_v33 l_v33 u_v33 => ?_)
            replace hE := zf_tr hE (zf_le e_v33)
            refine mm_g 3 (pc1 := 68) (lo1 := [some (.ref 0), some (.int (Int32.ofInt a1)), some (.int (Int32.ofInt a2)), some (.int (Int32.ofInt a3)), some (.ref u30), some (.int (Int32.ofInt v33))]) (st1 := [.int (Int32.ofInt a3), .int (Int32.ofInt v33)]) (H1 := mz_mk g x) rfl ?_
            refine mz_ic_ne (tgt := 80) rfl rfl (mz_rg l_v33 u_v33) (mz_rg l_a3 u_a3) (fun c68_33 => ?_) (fun c68_33 => ?_)
            · skip
              replace hE := zf_in hE c68_33
              refine mm_g 1 (pc1 := 81) (lo1 := [some (.ref 0), some (.int (Int32.ofInt a1)), some (.int (Int32.ofInt a2)), some (.int (Int32.ofInt a3)), some (.ref u30), some (.int (Int32.ofInt v33))]) (st1 := [.ref 0]) (H1 := mz_mk g x) rfl ?_
              refine mz_fgR (v := 86) rfl fd_11_37 (by decide) (sc_0 _) (rf_0_5 _ _ _) ?_
              refine mz_cv rfl mt_11_253 (by decide) (sc_86 _) rfl (Nat.le_of_ble_eq_true rfl) (by omega) (f_X6_keepAct (by omega) hx hI kp_story_86 (fun g34 hIg34 hfg34 hc35 => ⟨_, rfl, ?_⟩))
              show mm_W d mmX11_pack 87 [some (.ref 0), some (.int (Int32.ofInt a1)), some (.int (Int32.ofInt a2)), some (.int (Int32.ofInt a3)), some (.ref u30), some (.int (Int32.ofInt v33))] [] (mz_mk g34 x) Q
              replace hE := zf_t1 hE hc35
              refine mm_g 3 (pc1 := 91) (lo1 := [some (.ref 0), some (.int (Int32.ofInt a1)), some (.int (Int32.ofInt a2)), some (.int (Int32.ofInt a3)), some (.ref u30), some (.int (Int32.ofInt v33))]) (st1 := [.int (Int32.ofInt a3), .int (Int32.ofInt a2), .ref u30]) (H1 := mz_mk g34 x) rfl ?_
              refine mz_cv rfl mt_11_272 (by decide) (kc_trunk k_u30 _) rfl (Nat.le_of_ble_eq_true rfl) (by omega) (f_X8_packIn (by omega) hx hIg34 k_u30 l_a2 u_a2 l_a3 u_a3 (fun g36 hIg36 hfg36 hc37 => ⟨_, rfl, ?_⟩))
              show mm_W d mmX11_pack 94 [some (.ref 0), some (.int (Int32.ofInt a1)), some (.int (Int32.ofInt a2)), some (.int (Int32.ofInt a3)), some (.ref u30), some (.int (Int32.ofInt v33))] [] (mz_mk g36 x) Q
              replace hE := zf_t1 hE hc37
              refine mm_g 1 (pc1 := 96) (lo1 := [some (.ref 0), some (.int (Int32.ofInt a1)), some (.int (Int32.ofInt a2)), some (.int (Int32.ofInt a3)), some (.ref u30), some (.int (Int32.ofInt v33))]) (st1 := [.int (Int32.ofInt v33)]) (H1 := mz_mk g36 x) rfl ?_
              exact mm_rt rfl rfl (hQ _ _ hIg36 (fun k j hk => ((hfg36 k j (fun h => hk (Or.inr (Or.inr (Or.inl (show (87 ≤ k ∧ k < 96) by have h9 : k = u30 := h; omega)))))).trans (hfg34 k j (fun h => hk (Or.elim h (fun h => (Or.inl h)) (fun h => (Or.inr (Or.inl h)))))))) (by omega) (by omega) hE)
            · skip
              replace hE := zf_ip hE c68_33
              refine mm_g 1 (pc1 := 72) (lo1 := [some (.ref 0), some (.int (Int32.ofInt a1)), some (.int (Int32.ofInt a2)), some (.int (Int32.ofInt a3)), some (.ref u30), some (.int (Int32.ofInt v33))]) (st1 := [.ref 0]) (H1 := mz_mk g x) rfl ?_
              refine mz_fgR (v := 86) rfl fd_11_37 (by decide) (sc_0 _) (rf_0_5 _ _ _) ?_
              refine mm_g 1 (pc1 := 76) (lo1 := [some (.ref 0), some (.int (Int32.ofInt a1)), some (.int (Int32.ofInt a2)), some (.int (Int32.ofInt a3)), some (.ref u30), some (.int (Int32.ofInt v33))]) (st1 := [.int (Int32.ofInt 1), .ref 86]) (H1 := mz_mk g x) rfl ?_
              refine mz_cv rfl mt_11_131 (by decide) (sc_86 _) rfl (Nat.le_of_ble_eq_true rfl) (by omega) (f_X6_refuse (by omega) hx hI kp_story_86 (by decide) (by decide) (fun v38 g39 hIg39 hfg39 l_v38 u_v38 hc40 => ⟨_, rfl, ?_⟩))
              show mm_W d mmX11_pack 79 [some (.ref 0), some (.int (Int32.ofInt a1)), some (.int (Int32.ofInt a2)), some (.int (Int32.ofInt a3)), some (.ref u30), some (.int (Int32.ofInt v33))] [.int (Int32.ofInt v38)] (mz_mk g39 x) Q
              replace hE := zf_t2 hE hc40
              exact mm_rt rfl rfl (hQ _ _ hIg39 (fun k j hk => (hfg39 k j (fun h => hk (Or.inr (Or.inr (Or.inr h)))))) (by omega) (by omega) hE)
          · exfalso; omega
def fl_X9_takeFrom_11 (x : mm_X) (q0 : Nat) (q1 : Nat) (a2 : Int) : Nat → Nat → Prop := fun k j => (q0 ≤ k ∧ k < q0 + 9)
def fw_X9_takeFrom (x : mm_X) (q0 : Nat) (q1 : Nat) (a2 : Int) : Nat → Nat → Prop := fun k j => (q0 ≤ k ∧ k < q0 + 9)
theorem f_X9_takeFrom {d : Nat} (hd : 2 ≤ d) {x : mm_X} (hx : mk_x x) {g : mz_G} (hI : mz_inv g) {q0 : Nat} (h_q0 : kd_tks q0) {q1 n_q1 : Nat} (h_q1 : mm_SH x.2.2.2.1 q1 = (100, n_q1)) (m_q1 : n_q1 ≤ 2048) (b_q1 : ∀ j, mz_bd q1 j = (-2147483648, 2147483647)) {a2 : Int} (l_a2 : (-2147483648) ≤ a2) (u_a2 : a2 ≤ 2147483647) {Q : (Option Value ⊕ Nat) → mm_H → Prop} (hQ : ∀ (g1 : mz_G), mz_inv g1 → mz_fr (fw_X9_takeFrom x q0 q1 a2) g g1 → zf_E (zF_X9_takeFrom q0 q1 n_q1 a2 g) (g1) → Q (.inl none) (mz_mk g1 x)) : mm_C d 103 [.ref q0, .ref q1, .int (Int32.ofInt a2)] (mz_mk g x) Q := by
  have kn_q0 := kn_tks h_q0
  refine ⟨mmX9_takeFrom, [some (.ref q0), some (.ref q1), some (.int (Int32.ofInt a2)), none, none, none], rfl, rfl, ?_⟩
  have hE : zf_E (zF_X9_takeFrom q0 q1 n_q1 a2 g) (zF_X9_takeFrom q0 q1 n_q1 a2 g) := zf_rf
  refine mm_g 3 (pc1 := 3) (lo1 := [some (.ref q0), some (.ref q1), some (.int (Int32.ofInt a2)), none, none, none]) (st1 := [.int (Int32.ofInt a2), .ref q1, .ref q0]) (H1 := mz_mk g x) rfl ?_
  refine mz_cs rfl mt_9_57 (by decide) rfl (Nat.le_of_ble_eq_true rfl) (by omega) (f_X11_at (by omega) hx hI h_q1 (by omega) b_q1 (by omega) (by omega) l_a2 u_a2 (fun v1 l_v1 u_v1 hc2 => ⟨_, rfl, ?_⟩))
  show mm_W d mmX9_takeFrom 6 [some (.ref q0), some (.ref q1), some (.int (Int32.ofInt a2)), none, none, none] [.int (Int32.ofInt v1), .ref q0] (mz_mk g x) Q
  replace hE := zf_t1 hE hc2
  refine mz_pI rfl fd_9_26 (kc_tks h_q0 _) hI (kb_tks_3 h_q0) (by omega) (by omega) (fun g3 hIg3 hug3 => ?_)
  replace hE := zf_tr hE (zf_lg hug3)
  refine mm_g 2 (pc1 := 11) (lo1 := [some (.ref q0), some (.ref q1), some (.int (Int32.ofInt a2)), some (.int (Int32.ofInt 0)), none, none]) (st1 := []) (H1 := mz_mk g3 x) rfl ?_
  have L10 : ∀ n9 : Nat, ∀ (v4 : Int) (o5 : Option Value) (o6 : Option Value) (g7 : mz_G), (6 - v4).toNat = n9 → 0 ≤ v4 → v4 ≤ 6 → mz_nl o5 → mz_nl o6 → mz_inv g7 → mz_fr (fl_X9_takeFrom_11 x q0 q1 a2) g3 g7 → (∃ fk : Nat, (6 - v4).toNat < fk ∧ zf_E (zF_X9_takeFrom q0 q1 n_q1 a2 g) (zL_X9_takeFrom_11 q0 q1 n_q1 a2 fk v4 g7)) → mm_W d mmX9_takeFrom 11 [some (.ref q0), some (.ref q1), some (.int (Int32.ofInt a2)), some (.int (Int32.ofInt v4)), o5, o6] [] (mz_mk g7 x) Q := by
    intro n9
    induction n9 using Nat.strongRecOn with
    | ind n9 ih8 =>
    intro v4 o5 o6 g7 hmn9 l_v4 u_v4 h_o5 h_o6 hIg7 hfg7 hF
    obtain ⟨fk, fl, hE⟩ := hF
    obtain ⟨fj11, rfl⟩ : ∃ fj, fk = fj + 1 := ⟨fk - 1, by omega⟩
    have fn12 : n9 ≤ fj11 := by omega
    replace hE := zf_tr hE zL_X9_takeFrom_11_s
    refine mm_g 2 (pc1 := 13) (lo1 := [some (.ref q0), some (.ref q1), some (.int (Int32.ofInt a2)), some (.int (Int32.ofInt v4)), o5, o6]) (st1 := [.ref q0, .int (Int32.ofInt v4)]) (H1 := mz_mk g7 x) rfl ?_
    refine mz_gI rfl fd_9_22 (by decide) (kc_tks h_q0 _) hIg7 (kb_tks_2 h_q0) (fun v13 e_v13 l_v13 u_v13 => ?_)
    replace hE := zf_tr hE (zf_le e_v13)
    refine mz_ic_ge (tgt := 91) rfl rfl (mz_rg l_v4 u_v4) (mz_rg l_v13 u_v13) (fun c16_13 => ?_) (fun c16_13 => ?_)
    · skip
      replace hE := zf_nl hE c16_13
      exact mm_rt rfl rfl (hQ _ hIg7 (fun k j hk => ((hfg7 k j (fun h => hk h)).trans (hug3.2 k j (fun h => hk (show (q0 ≤ k ∧ k < q0 + 9) by have h9 : k = q0 ∧ j = 3 := h; omega))))) hE)
    · skip
      replace hE := zf_ip hE c16_13
      refine mm_g 2 (pc1 := 21) (lo1 := [some (.ref q0), some (.ref q1), some (.int (Int32.ofInt a2)), some (.int (Int32.ofInt v4)), o5, o6]) (st1 := [.int (Int32.ofInt v4), .ref q0]) (H1 := mz_mk g7 x) rfl ?_
      refine mz_cv rfl mt_9_29 (by decide) (kc_tks h_q0 _) rfl (Nat.le_of_ble_eq_true rfl) (by omega) (f_X9_get (by omega) hx hIg7 h_q0 (by omega) (by omega) (fun u14 k_u14 hp15 hc16 => ⟨_, rfl, ?_⟩))
      show mm_W d mmX9_takeFrom 24 [some (.ref q0), some (.ref q1), some (.int (Int32.ofInt a2)), some (.int (Int32.ofInt v4)), o5, o6] [.ref u14] (mz_mk g7 x) Q
      replace hE := zf_t1 hE hc16
      refine mm_g 3 (pc1 := 28) (lo1 := [some (.ref q0), some (.ref q1), some (.int (Int32.ofInt a2)), some (.int (Int32.ofInt v4)), some (.ref u14), o6]) (st1 := [.int (Int32.ofInt 1), .int (Int32.ofInt a2)]) (H1 := mz_mk g7 x) rfl ?_
      refine mz_iadd_w rfl (fun v17 e_v17 hwv17 => ?_)
      have l_v17 := hwv17.1
      have u_v17 := hwv17.2
      replace hE := zf_tr hE (zf_le e_v17.symm)
      refine mm_g 2 (pc1 := 31) (lo1 := [some (.ref q0), some (.ref q1), some (.int (Int32.ofInt a2)), some (.int (Int32.ofInt v4)), some (.ref u14), o6]) (st1 := [.int (Int32.ofInt v4), .int (Int32.ofInt 4), .int (Int32.ofInt v17)]) (H1 := mz_mk g7 x) rfl ?_
      refine mz_imul rfl ?_
      refine mz_iadd_w rfl (fun v18 e_v18 hwv18 => ?_)
      have l_v18 := hwv18.1
      have u_v18 := hwv18.2
      replace hE := zf_tr hE (zf_le e_v18.symm)
      refine mm_g 4 (pc1 := 40) (lo1 := [some (.ref q0), some (.ref q1), some (.int (Int32.ofInt a2)), some (.int (Int32.ofInt v4)), some (.ref u14), some (.int (Int32.ofInt v18))]) (st1 := [.int (Int32.ofInt v18), .ref q1, .ref u14]) (H1 := mz_mk g7 x) rfl ?_
      refine mz_cs rfl mt_9_57 (by decide) rfl (Nat.le_of_ble_eq_true rfl) (by omega) (f_X11_at (by omega) hx hIg7 h_q1 (by omega) b_q1 (by omega) (by omega) l_v18 u_v18 (fun v19 l_v19 u_v19 hc20 => ⟨_, rfl, ?_⟩))
      show mm_W d mmX9_takeFrom 43 [some (.ref q0), some (.ref q1), some (.int (Int32.ofInt a2)), some (.int (Int32.ofInt v4)), some (.ref u14), some (.int (Int32.ofInt v18))] [.int (Int32.ofInt v19), .ref u14] (mz_mk g7 x) Q
      replace hE := zf_t1 hE hc20
      refine mz_pI rfl fd_9_33 (kc_trunk k_u14 _) hIg7 (kb_trunk_0 k_u14) (by omega) (by omega) (fun g21 hIg21 hug21 => ?_)
      replace hE := zf_tr hE (zf_lg hug21)
      refine mm_g 4 (pc1 := 52) (lo1 := [some (.ref q0), some (.ref q1), some (.int (Int32.ofInt a2)), some (.int (Int32.ofInt v4)), some (.ref u14), some (.int (Int32.ofInt v18))]) (st1 := [.int (Int32.ofInt 1), .int (Int32.ofInt v18), .ref q1, .ref u14]) (H1 := mz_mk g21 x) rfl ?_
      refine mz_iadd_w rfl (fun v22 e_v22 hwv22 => ?_)
      have l_v22 := hwv22.1
      have u_v22 := hwv22.2
      replace hE := zf_tr hE (zf_le e_v22.symm)
      refine mz_cs rfl mt_9_57 (by decide) rfl (Nat.le_of_ble_eq_true rfl) (by omega) (f_X11_at (by omega) hx hIg21 h_q1 (by omega) b_q1 (by omega) (by omega) l_v22 u_v22 (fun v23 l_v23 u_v23 hc24 => ⟨_, rfl, ?_⟩))
      show mm_W d mmX9_takeFrom 56 [some (.ref q0), some (.ref q1), some (.int (Int32.ofInt a2)), some (.int (Int32.ofInt v4)), some (.ref u14), some (.int (Int32.ofInt v18))] [.int (Int32.ofInt v23), .ref u14] (mz_mk g21 x) Q
      replace hE := zf_t1 hE hc24
      refine mz_pI rfl fd_9_36 (kc_trunk k_u14 _) hIg21 (kb_trunk_1 k_u14) (by omega) (by omega) (fun g25 hIg25 hug25 => ?_)
      replace hE := zf_tr hE (zf_lg hug25)
      refine mm_g 4 (pc1 := 65) (lo1 := [some (.ref q0), some (.ref q1), some (.int (Int32.ofInt a2)), some (.int (Int32.ofInt v4)), some (.ref u14), some (.int (Int32.ofInt v18))]) (st1 := [.int (Int32.ofInt 2), .int (Int32.ofInt v18), .ref q1, .ref u14]) (H1 := mz_mk g25 x) rfl ?_
      refine mz_iadd_w rfl (fun v26 e_v26 hwv26 => ?_)
      have l_v26 := hwv26.1
      have u_v26 := hwv26.2
      replace hE := zf_tr hE (zf_le e_v26.symm)
      refine mz_cs rfl mt_9_57 (by decide) rfl (Nat.le_of_ble_eq_true rfl) (by omega) (f_X11_at (by omega) hx hIg25 h_q1 (by omega) b_q1 (by omega) (by omega) l_v26 u_v26 (fun v27 l_v27 u_v27 hc28 => ⟨_, rfl, ?_⟩))
      show mm_W d mmX9_takeFrom 69 [some (.ref q0), some (.ref q1), some (.int (Int32.ofInt a2)), some (.int (Int32.ofInt v4)), some (.ref u14), some (.int (Int32.ofInt v18))] [.int (Int32.ofInt v27), .ref u14] (mz_mk g25 x) Q
      replace hE := zf_t1 hE hc28
      refine mz_pI rfl fd_9_39 (kc_trunk k_u14 _) hIg25 (kb_trunk_2 k_u14) (by omega) (by omega) (fun g29 hIg29 hug29 => ?_)
      replace hE := zf_tr hE (zf_lg hug29)
      refine mm_g 4 (pc1 := 78) (lo1 := [some (.ref q0), some (.ref q1), some (.int (Int32.ofInt a2)), some (.int (Int32.ofInt v4)), some (.ref u14), some (.int (Int32.ofInt v18))]) (st1 := [.int (Int32.ofInt 3), .int (Int32.ofInt v18), .ref q1, .ref u14]) (H1 := mz_mk g29 x) rfl ?_
      refine mz_iadd_w rfl (fun v30 e_v30 hwv30 => ?_)
      have l_v30 := hwv30.1
      have u_v30 := hwv30.2
      replace hE := zf_tr hE (zf_le e_v30.symm)
      refine mz_cs rfl mt_9_57 (by decide) rfl (Nat.le_of_ble_eq_true rfl) (by omega) (f_X11_at (by omega) hx hIg29 h_q1 (by omega) b_q1 (by omega) (by omega) l_v30 u_v30 (fun v31 l_v31 u_v31 hc32 => ⟨_, rfl, ?_⟩))
      show mm_W d mmX9_takeFrom 82 [some (.ref q0), some (.ref q1), some (.int (Int32.ofInt a2)), some (.int (Int32.ofInt v4)), some (.ref u14), some (.int (Int32.ofInt v18))] [.int (Int32.ofInt v31), .ref u14] (mz_mk g29 x) Q
      replace hE := zf_t1 hE hc32
      refine mz_pI rfl fd_9_42 (kc_trunk k_u14 _) hIg29 (kb_trunk_3 k_u14) (by omega) (by omega) (fun g33 hIg33 hug33 => ?_)
      replace hE := zf_tr hE (zf_lg hug33)
      refine mz_iincR (v := v4) (lo2 := [some (.ref q0), some (.ref q1), some (.int (Int32.ofInt a2)), some (.int (Int32.ofInt (v4 + 1))), some (.ref u14), some (.int (Int32.ofInt v18))]) rfl rfl rfl (Nat.le_of_ble_eq_true rfl) rfl ?_
      refine mz_gt (tgt := 11) rfl rfl ?_
      exact ih8 ((6 - (v4 + 1)).toNat) (by omega) (v4 + 1) (some (.ref u14)) (some (.int (Int32.ofInt v18))) g33 rfl (by omega) (by omega) (mz_nl_r _) (mz_nl_i _) hIg33 (fun k j hk => ((hug33.2 k j (fun h => hk (show (q0 ≤ k ∧ k < q0 + 9) by have h9 : k = u14 ∧ j = 3 := h; omega))).trans ((hug29.2 k j (fun h => hk (show (q0 ≤ k ∧ k < q0 + 9) by have h9 : k = u14 ∧ j = 2 := h; omega))).trans ((hug25.2 k j (fun h => hk (show (q0 ≤ k ∧ k < q0 + 9) by have h9 : k = u14 ∧ j = 1 := h; omega))).trans ((hug21.2 k j (fun h => hk (show (q0 ≤ k ∧ k < q0 + 9) by have h9 : k = u14 ∧ j = 0 := h; omega))).trans (hfg7 k j (fun h => hk h))))))) ⟨fj11, Nat.lt_of_lt_of_le (show ((6 - (v4 + 1)).toNat) < n9 from (by omega)) fn12, hE⟩
  exact L10 _ 0 none none g3 rfl (by decide) (by decide) mz_nl_n mz_nl_n hIg3 (fun _ _ _ => rfl) ⟨3000000000, by omega, hE⟩
def fw_X6_undoAct (x : mm_X) (q0 : Nat) : Nat → Nat → Prop := fun k j => k = q0 ∨ ((q0 + 1) ≤ k ∧ k < (q0 + 1) + 9)
theorem f_X6_undoAct {d : Nat} (hd : 3 ≤ d) {x : mm_X} (hx : mk_x x) {g : mz_G} (hI : mz_inv g) {q0 : Nat} (h_q0 : kd_story q0) {Q : (Option Value ⊕ Nat) → mm_H → Prop} (hQ : ∀ (g1 : mz_G), mz_inv g1 → mz_fr (fw_X6_undoAct x q0) g g1 → zf_E (zF_X6_undoAct q0 g) (g1) → Q (.inl none) (mz_mk g1 x)) : mm_C d 72 [.ref q0] (mz_mk g x) Q := by
  have kn_q0 := kn_story h_q0
  refine ⟨mmX6_undoAct, [some (.ref q0)], rfl, rfl, ?_⟩
  have hE : zf_E (zF_X6_undoAct q0 g) (zF_X6_undoAct q0 g) := zf_rf
  refine mm_g 1 (pc1 := 1) (lo1 := [some (.ref q0)]) (st1 := [.ref q0]) (H1 := mz_mk g x) rfl ?_
  refine mz_gI rfl fd_6_26 (by decide) (kc_story h_q0 _) hI (kb_story_3 h_q0) (fun v1 e_v1 l_v1 u_v1 => ?_)
  replace hE := zf_tr hE (zf_le e_v1)
  refine mz_if_le (tgt := 43) rfl rfl (mz_rg l_v1 u_v1) (fun c4_1 => ?_) (fun c4_1 => ?_)
  · skip
    replace hE := zf_nl hE c4_1
    exact mm_rt rfl rfl (hQ _ hI (fun _ _ _ => rfl) hE)
  · skip
    replace hE := zf_ip hE c4_1
    refine mm_g 2 (pc1 := 9) (lo1 := [some (.ref q0)]) (st1 := [.ref q0, .ref q0]) (H1 := mz_mk g x) rfl ?_
    refine mz_fgI (v := v1) rfl fd_6_26 (by decide) (kc_story h_q0 _) e_v1 ?_
    replace hE := zf_tr hE (zf_le e_v1)
    refine mm_g 1 (pc1 := 13) (lo1 := [some (.ref q0)]) (st1 := [.int (Int32.ofInt 1), .int (Int32.ofInt v1), .ref q0]) (H1 := mz_mk g x) rfl ?_
    refine mz_isub rfl ?_
    refine mz_pI rfl fd_6_26 (kc_story h_q0 _) hI (kb_story_3 h_q0) (by omega) (by omega) (fun g2 hIg2 hug2 => ?_)
    replace hE := zf_tr hE (zf_lg hug2)
    refine mm_g 1 (pc1 := 18) (lo1 := [some (.ref q0)]) (st1 := [.ref q0]) (H1 := mz_mk g2 x) rfl ?_
    refine mz_fgR (v := (q0 + 1)) rfl fd_6_12 (by decide) (kc_story h_q0 _) (kr_story_0 h_q0 _ _ _) ?_
    refine mm_g 1 (pc1 := 22) (lo1 := [some (.ref q0)]) (st1 := [.ref q0, .ref (q0 + 1)]) (H1 := mz_mk g2 x) rfl ?_
    refine mz_fgR (v := (q0 + 10)) rfl fd_6_18 (by decide) (kc_story h_q0 _) (kr_story_1 h_q0 _ _ _) ?_
    refine mm_g 1 (pc1 := 26) (lo1 := [some (.ref q0)]) (st1 := [.ref q0, .ref (q0 + 10), .ref (q0 + 1)]) (H1 := mz_mk g2 x) rfl ?_
    refine mz_gI rfl fd_6_22 (by decide) (kc_story h_q0 _) hIg2 (kb_story_2 h_q0) (fun v3 e_v3 l_v3 u_v3 => ?_)
    replace hE := zf_tr hE (zf_le e_v3)
    refine mm_g 1 (pc1 := 30) (lo1 := [some (.ref q0)]) (st1 := [.ref q0, .int (Int32.ofInt v3), .ref (q0 + 10), .ref (q0 + 1)]) (H1 := mz_mk g2 x) rfl ?_
    refine mz_fgI (v := (v1 - 1)) rfl fd_6_26 (by decide) (kc_story h_q0 _) (show g2 q0 3 = (v1 - 1) from hug2.1) ?_
    replace hE := zf_tr hE (zf_le (show g2 q0 3 = (v1 - 1) from hug2.1))
    refine mz_iadd rfl ?_
    refine mz_bip rfl bip_40 ?_
    refine mz_iremq rfl ⟨by omega, by omega⟩ ⟨by decide, by decide⟩ (by omega) (by omega) (fun v4 e_v4 l_v4 w_v4 z_v4 => ?_)
    have u_v4 : v4 ≤ 39 := by omega
    replace hE := zf_tr hE (zf_le e_v4.symm)
    refine mz_bip rfl bip_25 ?_
    refine mz_imul rfl ?_
    refine mz_cv rfl mt_6_64 (by decide) (kc_tks (ks_story_0 h_q0) _) rfl (Nat.le_of_ble_eq_true rfl) (by omega) (f_X9_takeFrom (by omega) hx hIg2 (ks_story_0 h_q0) (ka_story_1 h_q0 _) (by decide) (kba_story_1 h_q0) (by omega) (by omega) (fun g5 hIg5 hfg5 hc6 => ⟨_, rfl, ?_⟩))
    show mm_W d mmX6_undoAct 43 [some (.ref q0)] [] (mz_mk g5 x) Q
    replace hE := zf_t1 hE hc6
    exact mm_rt rfl rfl (hQ _ hIg5 (fun k j hk => ((hfg5 k j (fun h => hk (Or.inr h))).trans (hug2.2 k j (fun h => hk (Or.inl h.1))))) hE)
def fw_X11_undo (x : mm_X) : Nat → Nat → Prop := fun k j => k = 86 ∨ (87 ≤ k ∧ k < 96)
theorem f_X11_undo {d : Nat} (hd : 4 ≤ d) {x : mm_X} (hx : mk_x x) {g : mz_G} (hI : mz_inv g) {Q : (Option Value ⊕ Nat) → mm_H → Prop} (hQ : ∀ (r : Int) (g1 : mz_G), mz_inv g1 → mz_fr (fw_X11_undo x) g g1 → (-1) ≤ r → r ≤ 40 → zf_E (zF_X11_undo x g) ((r, g1)) → Q (.inl (some (.int (Int32.ofInt r)))) (mz_mk g1 x)) : mm_C d 138 [.ref 0] (mz_mk g x) Q := by
  have kx := kn_x hx
  refine ⟨mmX11_undo, [some (.ref 0)], rfl, rfl, ?_⟩
  have hE : zf_E (zF_X11_undo x g) (zF_X11_undo x g) := zf_rf
  refine mm_g 1 (pc1 := 1) (lo1 := [some (.ref 0)]) (st1 := [.ref 0]) (H1 := mz_mk g x) rfl ?_
  refine mz_fgR (v := 86) rfl fd_11_37 (by decide) (sc_0 _) (rf_0_5 _ _ _) ?_
  refine mz_cv rfl mt_11_177 (by decide) (sc_86 _) rfl (Nat.le_of_ble_eq_true rfl) (by omega) (f_X6_actsKept (by omega) hx hI kp_story_86 (fun v1 l_v1 u_v1 hc2 => ⟨_, rfl, ?_⟩))
  show mm_W d mmX11_undo 7 [some (.ref 0)] [.int (Int32.ofInt v1)] (mz_mk g x) Q
  replace hE := zf_t1 hE hc2
  refine mz_if_ne (tgt := 12) rfl rfl (mz_rg l_v1 u_v1) (fun c7_2 => ?_) (fun c7_2 => ?_)
  · skip
    replace hE := zf_in hE c7_2
    refine mm_g 1 (pc1 := 13) (lo1 := [some (.ref 0)]) (st1 := [.ref 0]) (H1 := mz_mk g x) rfl ?_
    refine mz_fgR (v := 86) rfl fd_11_37 (by decide) (sc_0 _) (rf_0_5 _ _ _) ?_
    refine mz_cv rfl mt_11_276 (by decide) (sc_86 _) rfl (Nat.le_of_ble_eq_true rfl) (by omega) (f_X6_undoAct (by omega) hx hI kp_story_86 (fun g3 hIg3 hfg3 hc4 => ⟨_, rfl, ?_⟩))
    show mm_W d mmX11_undo 19 [some (.ref 0)] [] (mz_mk g3 x) Q
    replace hE := zf_t1 hE hc4
    refine mm_g 1 (pc1 := 20) (lo1 := [some (.ref 0)]) (st1 := [.ref 0]) (H1 := mz_mk g3 x) rfl ?_
    refine mz_fgR (v := 86) rfl fd_11_37 (by decide) (sc_0 _) (rf_0_5 _ _ _) ?_
    refine mz_cv rfl mt_11_177 (by decide) (sc_86 _) rfl (Nat.le_of_ble_eq_true rfl) (by omega) (f_X6_actsKept (by omega) hx hIg3 kp_story_86 (fun v5 l_v5 u_v5 hc6 => ⟨_, rfl, ?_⟩))
    show mm_W d mmX11_undo 26 [some (.ref 0)] [.int (Int32.ofInt v5)] (mz_mk g3 x) Q
    replace hE := zf_t1 hE hc6
    exact mm_rt rfl rfl (hQ _ _ hIg3 (fun k j hk => (hfg3 k j (fun h => hk (Or.elim h (fun h => (Or.inl h)) (fun h => (Or.inr h)))))) (by omega) (by omega) hE)
  · skip
    replace hE := zf_ip hE c7_2
    refine mm_g 1 (pc1 := 11) (lo1 := [some (.ref 0)]) (st1 := [.int (Int32.ofInt (-1))]) (H1 := mz_mk g x) rfl ?_
    exact mm_rt rfl rfl (hQ _ _ hI (fun _ _ _ => rfl) (by decide) (by decide) hE)
theorem f_X11_isAhead {d : Nat} (hd : 1 ≤ d) {x : mm_X} (hx : mk_x x) {g : mz_G} (hI : mz_inv g) {a1 : Int} (l_a1 : (-2147483648) ≤ a1) (u_a1 : a1 ≤ 2147483647) {Q : (Option Value ⊕ Nat) → mm_H → Prop} (hQ : ∀ (r : Int), 0 ≤ r → r ≤ 1 → zf_E (zF_X11_isAhead a1 g) (r) → Q (.inl (some (.int (Int32.ofInt r)))) (mz_mk g x)) : mm_C d 173 [.int (Int32.ofInt a1)] (mz_mk g x) Q := by
  have kx := kn_x hx
  refine ⟨mmX11_isAhead, [some (.int (Int32.ofInt a1))], rfl, rfl, ?_⟩
  have hE : zf_E (zF_X11_isAhead a1 g) (zF_X11_isAhead a1 g) := zf_rf
  refine mm_g 1 (pc1 := 1) (lo1 := [some (.int (Int32.ofInt a1))]) (st1 := [.int (Int32.ofInt a1)]) (H1 := mz_mk g x) rfl ?_
  refine mz_if_lt (tgt := 14) rfl rfl (mz_rg l_a1 u_a1) (fun c1_0 => ?_) (fun c1_0 => ?_)
  · skip
    replace hE := zf_ip hE c1_0
    refine mm_g 1 (pc1 := 15) (lo1 := [some (.int (Int32.ofInt a1))]) (st1 := [.int (Int32.ofInt 0)]) (H1 := mz_mk g x) rfl ?_
    exact mz_rtZ rfl (by decide) (by omega) (hQ _ (by decide) (by decide) hE)
  · skip
    replace hE := zf_nl hE c1_0
    refine mm_g 1 (pc1 := 5) (lo1 := [some (.int (Int32.ofInt a1))]) (st1 := [.int (Int32.ofInt a1)]) (H1 := mz_mk g x) rfl ?_
    refine mz_bip rfl bip_60 ?_
    refine mz_ic_gt (tgt := 14) rfl rfl (mz_rg l_a1 u_a1) ⟨by decide, by decide⟩ (fun c7_0 => ?_) (fun c7_0 => ?_)
    · skip
      replace hE := zf_ip hE c7_0
      refine mm_g 1 (pc1 := 15) (lo1 := [some (.int (Int32.ofInt a1))]) (st1 := [.int (Int32.ofInt 0)]) (H1 := mz_mk g x) rfl ?_
      exact mz_rtZ rfl (by decide) (by omega) (hQ _ (by decide) (by decide) hE)
    · skip
      replace hE := zf_nl hE c7_0
      refine mm_g 1 (pc1 := 11) (lo1 := [some (.int (Int32.ofInt a1))]) (st1 := [.int (Int32.ofInt 1)]) (H1 := mz_mk g x) rfl ?_
      refine mz_gt (tgt := 15) rfl rfl ?_
      exact mz_rtZ rfl (by decide) (by omega) (hQ _ (by decide) (by decide) hE)
def fw_X11_growBy (x : mm_X) (q1 : Nat) (a2 : Int) : Nat → Nat → Prop := fun k j => k = q1 ∨ k = ((x.1 + 36) + 2) ∨ k = ((x.1 + 36) + 3)
theorem f_X11_growBy {d : Nat} (hd : 14 ≤ d) {x : mm_X} (hx : mk_x x) {g : mz_G} (hI : mz_inv g) {q1 : Nat} (h_q1 : kd_trunk q1) {a2 : Int} (l_a2 : (-2147483648) ≤ a2) (u_a2 : a2 ≤ 2147483647) {Q : (Option Value ⊕ Nat) → mm_H → Prop} (hQ : ∀ (g1 : mz_G), mz_inv g1 → mz_fr (fw_X11_growBy x q1 a2) g g1 → zf_E (zF_X11_growBy x q1 a2 g) (g1) → Q (.inl none) (mz_mk g1 x)) : mm_C d 146 [.ref 0, .ref q1, .int (Int32.ofInt a2)] (mz_mk g x) Q := by
  have kn_q1 := kn_trunk h_q1
  have kx := kn_x hx
  refine ⟨mmX11_growBy, [some (.ref 0), some (.ref q1), some (.int (Int32.ofInt a2)), none], rfl, rfl, ?_⟩
  have hE : zf_E (zF_X11_growBy x q1 a2 g) (zF_X11_growBy x q1 a2 g) := zf_rf
  refine mm_g 1 (pc1 := 1) (lo1 := [some (.ref 0), some (.ref q1), some (.int (Int32.ofInt a2)), none]) (st1 := [.ref 0]) (H1 := mz_mk g x) rfl ?_
  refine mz_fgR (v := 86) rfl fd_11_37 (by decide) (sc_0 _) (rf_0_5 _ _ _) ?_
  refine mz_fgR (v := 87) rfl fd_11_158 (by decide) (sc_86 _) (rf_86_0 _ _ _) ?_
  refine mz_gI rfl fd_11_161 (by decide) (sc_87 _) hI bd_87_3 (fun v1 e_v1 l_v1 u_v1 => ?_)
  replace hE := zf_tr hE (zf_le e_v1)
  refine mm_g 1 (pc1 := 11) (lo1 := [some (.ref 0), some (.ref q1), some (.int (Int32.ofInt a2)), none]) (st1 := [.int (Int32.ofInt a2), .int (Int32.ofInt v1)]) (H1 := mz_mk g x) rfl ?_
  refine mz_iadd_w rfl (fun v2 e_v2 hwv2 => ?_)
  have l_v2 := hwv2.1
  have u_v2 := hwv2.2
  replace hE := zf_tr hE (zf_le e_v2.symm)
  refine mm_g 2 (pc1 := 14) (lo1 := [some (.ref 0), some (.ref q1), some (.int (Int32.ofInt a2)), some (.int (Int32.ofInt v2))]) (st1 := [.ref 0]) (H1 := mz_mk g x) rfl ?_
  refine mz_fgR (v := x.1) rfl fd_11_16 (by decide) (sc_0 _) rfl ?_
  refine mm_g 3 (pc1 := 20) (lo1 := [some (.ref 0), some (.ref q1), some (.int (Int32.ofInt a2)), some (.int (Int32.ofInt v2))]) (st1 := [.ref 0, .int (Int32.ofInt v2), .ref q1, .ref x.1]) (H1 := mz_mk g x) rfl ?_
  refine mz_fgR (v := x.1) rfl fd_11_16 (by decide) (sc_0 _) rfl ?_
  refine mm_g 1 (pc1 := 24) (lo1 := [some (.ref 0), some (.ref q1), some (.int (Int32.ofInt a2)), some (.int (Int32.ofInt v2))]) (st1 := [.int (Int32.ofInt v2), .ref x.1, .int (Int32.ofInt v2), .ref q1, .ref x.1]) (H1 := mz_mk g x) rfl ?_
  refine mz_cv rfl mt_11_164 (by decide) (kc_load (kx_1 hx) _) rfl (Nat.le_of_ble_eq_true rfl) (by omega) (f_X1_heatOf (by omega) hx hI (kx_1 hx) l_v2 u_v2 (fun v3 l_v3 u_v3 hc4 => ⟨_, rfl, ?_⟩))
  show mm_W d mmX11_growBy 27 [some (.ref 0), some (.ref q1), some (.int (Int32.ofInt a2)), some (.int (Int32.ofInt v2))] [.int (Int32.ofInt v3), .int (Int32.ofInt v2), .ref q1, .ref x.1] (mz_mk g x) Q
  replace hE := zf_t1 hE hc4
  refine mz_cv rfl mt_11_312 (by decide) (kc_load (kx_1 hx) _) rfl (Nat.le_of_ble_eq_true rfl) (by omega) (f_X1_grow (by omega) hx hI (kx_1 hx) h_q1 l_v2 u_v2 l_v3 u_v3 (fun g5 hIg5 hfg5 hc6 => ⟨_, rfl, ?_⟩))
  show mm_W d mmX11_growBy 30 [some (.ref 0), some (.ref q1), some (.int (Int32.ofInt a2)), some (.int (Int32.ofInt v2))] [] (mz_mk g5 x) Q
  replace hE := zf_t1 hE hc6
  exact mm_rt rfl rfl (hQ _ hIg5 (fun k j hk => (hfg5 k j (fun h => hk (Or.elim h (fun h => (Or.inl h)) (fun h => (Or.elim h (fun h => (Or.inr (Or.inl h))) (fun h => (Or.inr (Or.inr h))))))))) hE)
def fl_X11_growProbe_29 (x : mm_X) (a1 : Int) (a2 : Int) (a3 : Int) : Nat → Nat → Prop := fun k j => k = 122 ∨ k = ((x.1 + 36) + 2) ∨ k = ((x.1 + 36) + 3)
def fw_X11_growProbe (x : mm_X) (a1 : Int) (a2 : Int) (a3 : Int) : Nat → Nat → Prop := fun k j => k = 122 ∨ k = ((x.1 + 36) + 2) ∨ k = ((x.1 + 36) + 3)
theorem f_X11_growProbe {d : Nat} (hd : 15 ≤ d) {x : mm_X} (hx : mk_x x) {g : mz_G} (hI : mz_inv g) {a1 : Int} (l_a1 : (-2147483648) ≤ a1) (u_a1 : a1 ≤ 2147483647) {a2 : Int} (l_a2 : (-2147483648) ≤ a2) (u_a2 : a2 ≤ 2147483647) {a3 : Int} (l_a3 : (-2147483648) ≤ a3) (u_a3 : a3 ≤ 2147483647) {Q : (Option Value ⊕ Nat) → mm_H → Prop} (hQ : ∀ (g1 : mz_G), mz_inv g1 → mz_fr (fw_X11_growProbe x a1 a2 a3) g g1 → zf_E (zF_X11_growProbe x a1 a2 a3 g) (g1) → Q (.inl none) (mz_mk g1 x)) : mm_C d 147 [.ref 0, .int (Int32.ofInt a1), .int (Int32.ofInt a2), .int (Int32.ofInt a3)] (mz_mk g x) Q := by
  have kx := kn_x hx
  refine ⟨mmX11_growProbe, [some (.ref 0), some (.int (Int32.ofInt a1)), some (.int (Int32.ofInt a2)), some (.int (Int32.ofInt a3)), none], rfl, rfl, ?_⟩
  have hE : zf_E (zF_X11_growProbe x a1 a2 a3 g) (zF_X11_growProbe x a1 a2 a3 g) := zf_rf
  refine mm_g 1 (pc1 := 1) (lo1 := [some (.ref 0), some (.int (Int32.ofInt a1)), some (.int (Int32.ofInt a2)), some (.int (Int32.ofInt a3)), none]) (st1 := [.ref 0]) (H1 := mz_mk g x) rfl ?_
  refine mz_fgR (v := 122) rfl fd_11_65 (by decide) (sc_0 _) (rf_0_10 _ _ _) ?_
  refine mm_g 1 (pc1 := 5) (lo1 := [some (.ref 0), some (.int (Int32.ofInt a1)), some (.int (Int32.ofInt a2)), some (.int (Int32.ofInt a3)), none]) (st1 := [.ref 0, .ref 122]) (H1 := mz_mk g x) rfl ?_
  refine mz_fgR (v := 86) rfl fd_11_37 (by decide) (sc_0 _) (rf_0_5 _ _ _) ?_
  refine mz_fgR (v := 87) rfl fd_11_158 (by decide) (sc_86 _) (rf_86_0 _ _ _) ?_
  refine mm_g 1 (pc1 := 12) (lo1 := [some (.ref 0), some (.int (Int32.ofInt a1)), some (.int (Int32.ofInt a2)), some (.int (Int32.ofInt a3)), none]) (st1 := [.int (Int32.ofInt a1), .ref 87, .ref 122]) (H1 := mz_mk g x) rfl ?_
  refine mz_cv rfl mt_11_192 (by decide) (sc_87 _) rfl (Nat.le_of_ble_eq_true rfl) (by omega) (f_X9_get (by omega) hx hI kp_tks_87 l_a1 u_a1 (fun u1 k_u1 hp2 hc3 => ⟨_, rfl, ?_⟩))
  show mm_W d mmX11_growProbe 15 [some (.ref 0), some (.int (Int32.ofInt a1)), some (.int (Int32.ofInt a2)), some (.int (Int32.ofInt a3)), none] [.ref u1, .ref 122] (mz_mk g x) Q
  replace hE := zf_t1 hE hc3
  refine mz_cv rfl mt_11_297 (by decide) (sc_122 _) rfl (Nat.le_of_ble_eq_true rfl) (by omega) (f_X8_becomeAs (by omega) hx hI kp_trunk_122 k_u1 (fun g4 hIg4 hfg4 hc5 => ⟨_, rfl, ?_⟩))
  show mm_W d mmX11_growProbe 18 [some (.ref 0), some (.int (Int32.ofInt a1)), some (.int (Int32.ofInt a2)), some (.int (Int32.ofInt a3)), none] [] (mz_mk g4 x) Q
  replace hE := zf_t1 hE hc5
  refine mm_g 1 (pc1 := 19) (lo1 := [some (.ref 0), some (.int (Int32.ofInt a1)), some (.int (Int32.ofInt a2)), some (.int (Int32.ofInt a3)), none]) (st1 := [.ref 0]) (H1 := mz_mk g4 x) rfl ?_
  refine mz_fgR (v := 122) rfl fd_11_65 (by decide) (sc_0 _) (rf_0_10 _ _ _) ?_
  refine mm_g 1 (pc1 := 23) (lo1 := [some (.ref 0), some (.int (Int32.ofInt a1)), some (.int (Int32.ofInt a2)), some (.int (Int32.ofInt a3)), none]) (st1 := [.int (Int32.ofInt a2), .ref 122]) (H1 := mz_mk g4 x) rfl ?_
  refine mz_pI rfl fd_11_234 (sc_122 _) hIg4 bd_122_2 (by omega) (by omega) (fun g6 hIg6 hug6 => ?_)
  replace hE := zf_tr hE (zf_lg hug6)
  refine mm_g 2 (pc1 := 29) (lo1 := [some (.ref 0), some (.int (Int32.ofInt a1)), some (.int (Int32.ofInt a2)), some (.int (Int32.ofInt a3)), some (.int (Int32.ofInt 0))]) (st1 := []) (H1 := mz_mk g6 x) rfl ?_
  have L11 : ∀ n10 : Nat, ∀ (v7 : Int) (g8 : mz_G), (2147483647 - v7).toNat = n10 → 0 ≤ v7 → v7 ≤ 2147483647 → mz_inv g8 → mz_fr (fl_X11_growProbe_29 x a1 a2 a3) g6 g8 → (∃ fk : Nat, (2147483647 - v7).toNat < fk ∧ zf_E (zF_X11_growProbe x a1 a2 a3 g) (zL_X11_growProbe_29 x a1 a2 a3 fk v7 g8)) → mm_W d mmX11_growProbe 29 [some (.ref 0), some (.int (Int32.ofInt a1)), some (.int (Int32.ofInt a2)), some (.int (Int32.ofInt a3)), some (.int (Int32.ofInt v7))] [] (mz_mk g8 x) Q := by
    intro n10
    induction n10 using Nat.strongRecOn with
    | ind n10 ih9 =>
    intro v7 g8 hmn10 l_v7 u_v7 hIg8 hfg8 hF
    obtain ⟨fk, fl, hE⟩ := hF
    obtain ⟨fj12, rfl⟩ : ∃ fj, fk = fj + 1 := ⟨fk - 1, by omega⟩
    have fn13 : n10 ≤ fj12 := by omega
    replace hE := zf_tr hE zL_X11_growProbe_29_s
    refine mm_g 2 (pc1 := 32) (lo1 := [some (.ref 0), some (.int (Int32.ofInt a1)), some (.int (Int32.ofInt a2)), some (.int (Int32.ofInt a3)), some (.int (Int32.ofInt v7))]) (st1 := [.int (Int32.ofInt a3), .int (Int32.ofInt v7)]) (H1 := mz_mk g8 x) rfl ?_
    refine mz_ic_ge (tgt := 51) rfl rfl (mz_rg l_v7 u_v7) (mz_rg l_a3 u_a3) (fun c32_13 => ?_) (fun c32_13 => ?_)
    · skip
      replace hE := zf_nl hE c32_13
      exact mm_rt rfl rfl (hQ _ hIg8 (fun k j hk => ((hfg8 k j (fun h => hk (Or.elim h (fun h => (Or.inl h)) (fun h => (Or.elim h (fun h => (Or.inr (Or.inl h))) (fun h => (Or.inr (Or.inr h)))))))).trans ((hug6.2 k j (fun h => hk (Or.inl h.1))).trans (hfg4 k j (fun h => hk (Or.inl h)))))) hE)
    · skip
      replace hE := zf_ip hE c32_13
      refine mm_g 2 (pc1 := 37) (lo1 := [some (.ref 0), some (.int (Int32.ofInt a1)), some (.int (Int32.ofInt a2)), some (.int (Int32.ofInt a3)), some (.int (Int32.ofInt v7))]) (st1 := [.ref 0, .ref 0]) (H1 := mz_mk g8 x) rfl ?_
      refine mz_fgR (v := 122) rfl fd_11_65 (by decide) (sc_0 _) (rf_0_10 _ _ _) ?_
      refine mm_g 1 (pc1 := 42) (lo1 := [some (.ref 0), some (.int (Int32.ofInt a1)), some (.int (Int32.ofInt a2)), some (.int (Int32.ofInt a3)), some (.int (Int32.ofInt v7))]) (st1 := [.int (Int32.ofInt v7), .ref 122, .ref 0]) (H1 := mz_mk g8 x) rfl ?_
      refine mz_cv rfl mt_11_301 (by decide) (sc_0 _) rfl (Nat.le_of_ble_eq_true rfl) (by omega) (f_X11_growBy (by omega) hx hIg8 kp_trunk_122 (by omega) (by omega) (fun g14 hIg14 hfg14 hc15 => ⟨_, rfl, ?_⟩))
      show mm_W d mmX11_growProbe 45 [some (.ref 0), some (.int (Int32.ofInt a1)), some (.int (Int32.ofInt a2)), some (.int (Int32.ofInt a3)), some (.int (Int32.ofInt v7))] [] (mz_mk g14 x) Q
      replace hE := zf_t1 hE hc15
      refine mz_iincR (v := v7) (lo2 := [some (.ref 0), some (.int (Int32.ofInt a1)), some (.int (Int32.ofInt a2)), some (.int (Int32.ofInt a3)), some (.int (Int32.ofInt (v7 + 1)))]) rfl rfl rfl (Nat.le_of_ble_eq_true rfl) rfl ?_
      refine mz_gt (tgt := 29) rfl rfl ?_
      exact ih9 ((2147483647 - (v7 + 1)).toNat) (by omega) (v7 + 1) g14 rfl (by omega) (by omega) hIg14 (fun k j hk => ((hfg14 k j (fun h => hk (Or.elim h (fun h => (Or.inl h)) (fun h => (Or.elim h (fun h => (Or.inr (Or.inl h))) (fun h => (Or.inr (Or.inr h)))))))).trans (hfg8 k j (fun h => hk (Or.elim h (fun h => (Or.inl h)) (fun h => (Or.elim h (fun h => (Or.inr (Or.inl h))) (fun h => (Or.inr (Or.inr h)))))))))) ⟨fj12, Nat.lt_of_lt_of_le (show ((2147483647 - (v7 + 1)).toNat) < n10 from (by omega)) fn13, hE⟩
  exact L11 _ 0 g6 rfl (by decide) (by decide) hIg6 (fun _ _ _ => rfl) ⟨3000000000, by omega, hE⟩
def fl_X11_nearestToBlend_6 (x : mm_X) : Nat → Nat → Prop := fun k j => k = 117
def fw_X11_nearestToBlend (x : mm_X) : Nat → Nat → Prop := fun k j => k = 117
theorem f_X11_nearestToBlend {d : Nat} (hd : 13 ≤ d) {x : mm_X} (hx : mk_x x) {g : mz_G} (hI : mz_inv g) {Q : (Option Value ⊕ Nat) → mm_H → Prop} (hQ : ∀ (r : Int) (g1 : mz_G), mz_inv g1 → mz_fr (fw_X11_nearestToBlend x) g g1 → (-1) ≤ r → r ≤ 16 → zf_E (zF_X11_nearestToBlend x g) ((r, g1)) → Q (.inl (some (.int (Int32.ofInt r)))) (mz_mk g1 x)) : mm_C d 140 [.ref 0] (mz_mk g x) Q := by
  have kx := kn_x hx
  refine ⟨mmX11_nearestToBlend, [some (.ref 0), none, none, none, none], rfl, rfl, ?_⟩
  have hE : zf_E (zF_X11_nearestToBlend x g) (zF_X11_nearestToBlend x g) := zf_rf
  refine mm_g 6 (pc1 := 6) (lo1 := [some (.ref 0), some (.int (Int32.ofInt (-1))), some (.int (Int32.ofInt 0)), some (.int (Int32.ofInt 0)), none]) (st1 := []) (H1 := mz_mk g x) rfl ?_
  have L8 : ∀ n7 : Nat, ∀ (v1 : Int) (v2 : Int) (v3 : Int) (o4 : Option Value) (g5 : mz_G), (8 - v3).toNat = n7 → (-1) ≤ v1 → v1 ≤ 16 → (-2147483648) ≤ v2 → v2 ≤ 2147483647 → 0 ≤ v3 → v3 ≤ 8 → mz_nl o4 → mz_inv g5 → mz_fr (fl_X11_nearestToBlend_6 x) g g5 → (∃ fk : Nat, (8 - v3).toNat < fk ∧ zf_E (zF_X11_nearestToBlend x g) (zL_X11_nearestToBlend_6 x fk v1 v2 v3 g5)) → mm_W d mmX11_nearestToBlend 6 [some (.ref 0), some (.int (Int32.ofInt v1)), some (.int (Int32.ofInt v2)), some (.int (Int32.ofInt v3)), o4] [] (mz_mk g5 x) Q := by
    intro n7
    induction n7 using Nat.strongRecOn with
    | ind n7 ih6 =>
    intro v1 v2 v3 o4 g5 hmn7 l_v1 u_v1 l_v2 u_v2 l_v3 u_v3 h_o4 hIg5 hfg5 hF
    obtain ⟨fk, fl, hE⟩ := hF
    obtain ⟨fj9, rfl⟩ : ∃ fj, fk = fj + 1 := ⟨fk - 1, by omega⟩
    have fn10 : n7 ≤ fj9 := by omega
    replace hE := zf_tr hE zL_X11_nearestToBlend_6_s
    refine mm_g 2 (pc1 := 8) (lo1 := [some (.ref 0), some (.int (Int32.ofInt v1)), some (.int (Int32.ofInt v2)), some (.int (Int32.ofInt v3)), o4]) (st1 := [.ref 0, .int (Int32.ofInt v3)]) (H1 := mz_mk g5 x) rfl ?_
    refine mz_fgR (v := x.1) rfl fd_11_16 (by decide) (sc_0 _) rfl ?_
    refine mz_fgR (v := (x.1 + 1)) rfl fd_11_135 (by decide) (kc_load (kx_1 hx) _) (kr_load_0 (kx_1 hx) _ _ _) ?_
    refine mz_cv rfl mt_11_152 (by decide) (kc_words (ks_load_0 (kx_1 hx)) _) rfl (Nat.le_of_ble_eq_true rfl) (by omega) (f_X10_many (by omega) hx hIg5 (ks_load_0 (kx_1 hx)) (fun v11 l_v11 u_v11 hc12 => ⟨_, rfl, ?_⟩))
    show mm_W d mmX11_nearestToBlend 17 [some (.ref 0), some (.int (Int32.ofInt v1)), some (.int (Int32.ofInt v2)), some (.int (Int32.ofInt v3)), o4] [.int (Int32.ofInt v11), .int (Int32.ofInt v3)] (mz_mk g5 x) Q
    replace hE := zf_t1 hE hc12
    refine mz_ic_ge (tgt := 66) rfl rfl (mz_rg l_v3 u_v3) (mz_rg l_v11 u_v11) (fun c17_12 => ?_) (fun c17_12 => ?_)
    · skip
      replace hE := zf_nl hE c17_12
      refine mm_g 1 (pc1 := 67) (lo1 := [some (.ref 0), some (.int (Int32.ofInt v1)), some (.int (Int32.ofInt v2)), some (.int (Int32.ofInt v3)), o4]) (st1 := [.int (Int32.ofInt v1)]) (H1 := mz_mk g5 x) rfl ?_
      exact mm_rt rfl rfl (hQ _ _ hIg5 (fun k j hk => (hfg5 k j (fun h => hk h))) (by omega) (by omega) hE)
    · skip
      replace hE := zf_ip hE c17_12
      refine mm_g 1 (pc1 := 21) (lo1 := [some (.ref 0), some (.int (Int32.ofInt v1)), some (.int (Int32.ofInt v2)), some (.int (Int32.ofInt v3)), o4]) (st1 := [.ref 0]) (H1 := mz_mk g5 x) rfl ?_
      refine mz_fgR (v := 116) rfl fd_11_51 (by decide) (sc_0 _) (rf_0_8 _ _ _) ?_
      refine mm_g 1 (pc1 := 25) (lo1 := [some (.ref 0), some (.int (Int32.ofInt v1)), some (.int (Int32.ofInt v2)), some (.int (Int32.ofInt v3)), o4]) (st1 := [.ref 0, .ref 116]) (H1 := mz_mk g5 x) rfl ?_
      refine mz_fgR (v := 133) rfl fd_11_84 (by decide) (sc_0 _) (rf_0_13 _ _ _) ?_
      refine mm_g 1 (pc1 := 29) (lo1 := [some (.ref 0), some (.int (Int32.ofInt v1)), some (.int (Int32.ofInt v2)), some (.int (Int32.ofInt v3)), o4]) (st1 := [.ref 0, .ref 133, .ref 116]) (H1 := mz_mk g5 x) rfl ?_
      refine mz_fgR (v := x.1) rfl fd_11_16 (by decide) (sc_0 _) rfl ?_
      refine mz_fgR (v := (x.1 + 1)) rfl fd_11_135 (by decide) (kc_load (kx_1 hx) _) (kr_load_0 (kx_1 hx) _ _ _) ?_
      refine mm_g 1 (pc1 := 36) (lo1 := [some (.ref 0), some (.int (Int32.ofInt v1)), some (.int (Int32.ofInt v2)), some (.int (Int32.ofInt v3)), o4]) (st1 := [.int (Int32.ofInt v3), .ref (x.1 + 1), .ref 133, .ref 116]) (H1 := mz_mk g5 x) rfl ?_
      refine mz_cv rfl mt_11_203 (by decide) (kc_words (ks_load_0 (kx_1 hx)) _) rfl (Nat.le_of_ble_eq_true rfl) (by omega) (f_X10_of (by omega) hx hIg5 (ks_load_0 (kx_1 hx)) (by omega) (by omega) (fun u13 k_u13 hp14 hc15 => ⟨_, rfl, ?_⟩))
      show mm_W d mmX11_nearestToBlend 39 [some (.ref 0), some (.int (Int32.ofInt v1)), some (.int (Int32.ofInt v2)), some (.int (Int32.ofInt v3)), o4] [.ref u13, .ref 133, .ref 116] (mz_mk g5 x) Q
      replace hE := zf_t1 hE hc15
      refine mz_cv rfl mt_11_293 (by decide) (sc_116 _) rfl (Nat.le_of_ble_eq_true rfl) (by omega) (f_X2_changes (by omega) hx hIg5 kp_let_133 k_u13 (fun v16 g17 hIg17 hfg17 l_v16 u_v16 hc18 => ⟨_, rfl, ?_⟩))
      show mm_W d mmX11_nearestToBlend 42 [some (.ref 0), some (.int (Int32.ofInt v1)), some (.int (Int32.ofInt v2)), some (.int (Int32.ofInt v3)), o4] [.int (Int32.ofInt v16)] (mz_mk g17 x) Q
      replace hE := zf_t2 hE hc18
      refine mm_g 3 (pc1 := 46) (lo1 := [some (.ref 0), some (.int (Int32.ofInt v1)), some (.int (Int32.ofInt v2)), some (.int (Int32.ofInt v3)), some (.int (Int32.ofInt v16))]) (st1 := [.int (Int32.ofInt (-1)), .int (Int32.ofInt v1)]) (H1 := mz_mk g17 x) rfl ?_
      refine mz_ic_eq (tgt := 55) rfl rfl (mz_rg l_v1 u_v1) ⟨by decide, by decide⟩ (fun c46_18 => ?_) (fun c46_18 => ?_)
      · skip
        replace hE := zf_ip hE c46_18
        refine mm_g 4 (pc1 := 60) (lo1 := [some (.ref 0), some (.int (Int32.ofInt v3)), some (.int (Int32.ofInt v16)), some (.int (Int32.ofInt v3)), some (.int (Int32.ofInt v16))]) (st1 := []) (H1 := mz_mk g17 x) rfl ?_
        refine mz_iincR (v := v3) (lo2 := [some (.ref 0), some (.int (Int32.ofInt v3)), some (.int (Int32.ofInt v16)), some (.int (Int32.ofInt (v3 + 1))), some (.int (Int32.ofInt v16))]) rfl rfl rfl (Nat.le_of_ble_eq_true rfl) rfl ?_
        refine mz_gt (tgt := 6) rfl rfl ?_
        exact ih6 ((8 - (v3 + 1)).toNat) (by omega) v3 v16 (v3 + 1) (some (.int (Int32.ofInt v16))) g17 rfl (by omega) (by omega) (by omega) (by omega) (by omega) (by omega) (mz_nl_i _) hIg17 (fun k j hk => ((hfg17 k j (fun h => hk h)).trans (hfg5 k j (fun h => hk h)))) ⟨fj9, Nat.lt_of_lt_of_le (show ((8 - (v3 + 1)).toNat) < n7 from (by omega)) fn10, hE⟩
      · skip
        replace hE := zf_in hE c46_18
        refine mm_g 2 (pc1 := 52) (lo1 := [some (.ref 0), some (.int (Int32.ofInt v1)), some (.int (Int32.ofInt v2)), some (.int (Int32.ofInt v3)), some (.int (Int32.ofInt v16))]) (st1 := [.int (Int32.ofInt v2), .int (Int32.ofInt v16)]) (H1 := mz_mk g17 x) rfl ?_
        refine mz_ic_ge (tgt := 60) rfl rfl (mz_rg l_v16 u_v16) (mz_rg l_v2 u_v2) (fun c52_18 => ?_) (fun c52_18 => ?_)
        · skip
          replace hE := zf_nl hE c52_18
          refine mz_iincR (v := v3) (lo2 := [some (.ref 0), some (.int (Int32.ofInt v1)), some (.int (Int32.ofInt v2)), some (.int (Int32.ofInt (v3 + 1))), some (.int (Int32.ofInt v16))]) rfl rfl rfl (Nat.le_of_ble_eq_true rfl) rfl ?_
          refine mz_gt (tgt := 6) rfl rfl ?_
          exact ih6 ((8 - (v3 + 1)).toNat) (by omega) v1 v2 (v3 + 1) (some (.int (Int32.ofInt v16))) g17 rfl (by omega) (by omega) (by omega) (by omega) (by omega) (by omega) (mz_nl_i _) hIg17 (fun k j hk => ((hfg17 k j (fun h => hk h)).trans (hfg5 k j (fun h => hk h)))) ⟨fj9, Nat.lt_of_lt_of_le (show ((8 - (v3 + 1)).toNat) < n7 from (by omega)) fn10, hE⟩
        · skip
          replace hE := zf_ip hE c52_18
          refine mm_g 4 (pc1 := 60) (lo1 := [some (.ref 0), some (.int (Int32.ofInt v3)), some (.int (Int32.ofInt v16)), some (.int (Int32.ofInt v3)), some (.int (Int32.ofInt v16))]) (st1 := []) (H1 := mz_mk g17 x) rfl ?_
          refine mz_iincR (v := v3) (lo2 := [some (.ref 0), some (.int (Int32.ofInt v3)), some (.int (Int32.ofInt v16)), some (.int (Int32.ofInt (v3 + 1))), some (.int (Int32.ofInt v16))]) rfl rfl rfl (Nat.le_of_ble_eq_true rfl) rfl ?_
          refine mz_gt (tgt := 6) rfl rfl ?_
          exact ih6 ((8 - (v3 + 1)).toNat) (by omega) v3 v16 (v3 + 1) (some (.int (Int32.ofInt v16))) g17 rfl (by omega) (by omega) (by omega) (by omega) (by omega) (by omega) (mz_nl_i _) hIg17 (fun k j hk => ((hfg17 k j (fun h => hk h)).trans (hfg5 k j (fun h => hk h)))) ⟨fj9, Nat.lt_of_lt_of_le (show ((8 - (v3 + 1)).toNat) < n7 from (by omega)) fn10, hE⟩
  exact L8 _ (-1) 0 0 none g rfl (by decide) (by decide) (by decide) (by decide) (by decide) (by decide) mz_nl_n hI (fun _ _ _ => rfl) ⟨3000000000, by omega, hE⟩
def fw_X11_then (x : mm_X) (a1 : Int) (a2 : Int) (a3 : Int) : Nat → Nat → Prop := fun k j => k = 122 ∨ k = ((x.1 + 36) + 2) ∨ k = ((x.1 + 36) + 3) ∨ k = 133 ∨ k = 134 ∨ k = 117
theorem f_X11_then {d : Nat} (hd : 16 ≤ d) {x : mm_X} (hx : mk_x x) {g : mz_G} (hI : mz_inv g) {a1 : Int} (l_a1 : (-2147483648) ≤ a1) (u_a1 : a1 ≤ 2147483647) {a2 : Int} (l_a2 : (-2147483648) ≤ a2) (u_a2 : a2 ≤ 2147483647) {a3 : Int} (l_a3 : (-2147483648) ≤ a3) (u_a3 : a3 ≤ 2147483647) {Q : (Option Value ⊕ Nat) → mm_H → Prop} (hQ : ∀ (r : Int) (g1 : mz_G), mz_inv g1 → mz_fr (fw_X11_then x a1 a2 a3) g g1 → (-2147483648) ≤ r → r ≤ 2147483647 → zf_E (zF_X11_then x a1 a2 a3 g) ((0, r, g1)) → Q (.inl (some (.int (Int32.ofInt r)))) (mz_mk g1 x)) (hX0 : (zf_E (zF_X11_then x a1 a2 a3 g) ((1, 0, g))) → Q (.inr 0) (mz_mk g (mz_tx x))) (hX1 : (zf_E (zF_X11_then x a1 a2 a3 g) ((2, 0, g))) → Q (.inr 1) (mz_mk g (mz_tx x))) : mm_C d 139 [.ref 0, .int (Int32.ofInt a1), .int (Int32.ofInt a2), .int (Int32.ofInt a3)] (mz_mk g x) Q := by
  have kx := kn_x hx
  refine ⟨mmX11_then, [some (.ref 0), some (.int (Int32.ofInt a1)), some (.int (Int32.ofInt a2)), some (.int (Int32.ofInt a3)), none], rfl, rfl, ?_⟩
  have hE : zf_E (zF_X11_then x a1 a2 a3 g) (zF_X11_then x a1 a2 a3 g) := zf_rf
  refine mm_g 2 (pc1 := 2) (lo1 := [some (.ref 0), some (.int (Int32.ofInt a1)), some (.int (Int32.ofInt a2)), some (.int (Int32.ofInt a3)), none]) (st1 := [.int (Int32.ofInt a1), .ref 0]) (H1 := mz_mk g x) rfl ?_
  refine mz_cv rfl mt_11_231 (by decide) (sc_0 _) rfl (Nat.le_of_ble_eq_true rfl) (by omega) (f_X11_isTrunk (by omega) hx hI l_a1 u_a1 (fun v1 l_v1 u_v1 hc2 => ⟨_, rfl, ?_⟩))
  show mm_W d mmX11_then 5 [some (.ref 0), some (.int (Int32.ofInt a1)), some (.int (Int32.ofInt a2)), some (.int (Int32.ofInt a3)), none] [.int (Int32.ofInt v1)] (mz_mk g x) Q
  replace hE := zf_t1 hE hc2
  refine mz_if_eq (tgt := 21) rfl rfl (mz_rg l_v1 u_v1) (fun c5_2 => ?_) (fun c5_2 => ?_)
  · skip
    replace hE := zf_ip hE c5_2
    refine mm_g 1 (pc1 := 22) (lo1 := [some (.ref 0), some (.int (Int32.ofInt a1)), some (.int (Int32.ofInt a2)), some (.int (Int32.ofInt a3)), none]) (st1 := [.int (Int32.ofInt 0)]) (H1 := mz_mk g x) rfl ?_
    (try unfold zJ_X11_then_21 at hE)
    (try unfold zJ_X11_then_22 at hE)
    (try unfold zJ_X11_then_21 at hE)
    (try unfold zJ_X11_then_22 at hE)
    refine mz_csx rfl mt_11_183 rfl (Nat.le_of_ble_eq_true rfl) (by omega) rfl nh_X11_mustBe (f_X11_mustBe (by omega) hx hI (by decide) (by decide) (fun hp3 hc4 => ?_) (fun hc => hX0 (zf_x2 hE hc (by decide))))
    show mm_W d mmX11_then 25 [some (.ref 0), some (.int (Int32.ofInt a1)), some (.int (Int32.ofInt a2)), some (.int (Int32.ofInt a3)), none] [] (mz_mk g x) Q
    replace hE := zf_x1 hE hc4
    exfalso; omega
  · skip
    replace hE := zf_in hE c5_2
    refine mm_g 1 (pc1 := 9) (lo1 := [some (.ref 0), some (.int (Int32.ofInt a1)), some (.int (Int32.ofInt a2)), some (.int (Int32.ofInt a3)), none]) (st1 := [.int (Int32.ofInt a3)]) (H1 := mz_mk g x) rfl ?_
    refine mz_if_lt (tgt := 21) rfl rfl (mz_rg l_a3 u_a3) (fun c9_4 => ?_) (fun c9_4 => ?_)
    · skip
      replace hE := zf_ip hE c9_4
      refine mm_g 1 (pc1 := 22) (lo1 := [some (.ref 0), some (.int (Int32.ofInt a1)), some (.int (Int32.ofInt a2)), some (.int (Int32.ofInt a3)), none]) (st1 := [.int (Int32.ofInt 0)]) (H1 := mz_mk g x) rfl ?_
      (try unfold zJ_X11_then_21 at hE)
      (try unfold zJ_X11_then_22 at hE)
      (try unfold zJ_X11_then_21 at hE)
      (try unfold zJ_X11_then_22 at hE)
      refine mz_csx rfl mt_11_183 rfl (Nat.le_of_ble_eq_true rfl) (by omega) rfl nh_X11_mustBe (f_X11_mustBe (by omega) hx hI (by decide) (by decide) (fun hp5 hc6 => ?_) (fun hc => hX0 (zf_x2 hE hc (by decide))))
      show mm_W d mmX11_then 25 [some (.ref 0), some (.int (Int32.ofInt a1)), some (.int (Int32.ofInt a2)), some (.int (Int32.ofInt a3)), none] [] (mz_mk g x) Q
      replace hE := zf_x1 hE hc6
      exfalso; omega
    · skip
      replace hE := zf_nl hE c9_4
      refine mm_g 2 (pc1 := 14) (lo1 := [some (.ref 0), some (.int (Int32.ofInt a1)), some (.int (Int32.ofInt a2)), some (.int (Int32.ofInt a3)), none]) (st1 := [.int (Int32.ofInt 3), .int (Int32.ofInt a3)]) (H1 := mz_mk g x) rfl ?_
      refine mz_ic_gt (tgt := 21) rfl rfl (mz_rg l_a3 u_a3) ⟨by decide, by decide⟩ (fun c14_6 => ?_) (fun c14_6 => ?_)
      · skip
        replace hE := zf_ip hE c14_6
        refine mm_g 1 (pc1 := 22) (lo1 := [some (.ref 0), some (.int (Int32.ofInt a1)), some (.int (Int32.ofInt a2)), some (.int (Int32.ofInt a3)), none]) (st1 := [.int (Int32.ofInt 0)]) (H1 := mz_mk g x) rfl ?_
        (try unfold zJ_X11_then_21 at hE)
        (try unfold zJ_X11_then_22 at hE)
        (try unfold zJ_X11_then_21 at hE)
        (try unfold zJ_X11_then_22 at hE)
        refine mz_csx rfl mt_11_183 rfl (Nat.le_of_ble_eq_true rfl) (by omega) rfl nh_X11_mustBe (f_X11_mustBe (by omega) hx hI (by decide) (by decide) (fun hp7 hc8 => ?_) (fun hc => hX0 (zf_x2 hE hc (by decide))))
        show mm_W d mmX11_then 25 [some (.ref 0), some (.int (Int32.ofInt a1)), some (.int (Int32.ofInt a2)), some (.int (Int32.ofInt a3)), none] [] (mz_mk g x) Q
        replace hE := zf_x1 hE hc8
        exfalso; omega
      · skip
        replace hE := zf_nl hE c14_6
        refine mm_g 1 (pc1 := 18) (lo1 := [some (.ref 0), some (.int (Int32.ofInt a1)), some (.int (Int32.ofInt a2)), some (.int (Int32.ofInt a3)), none]) (st1 := [.int (Int32.ofInt 1)]) (H1 := mz_mk g x) rfl ?_
        refine mz_gt (tgt := 22) rfl rfl ?_
        (try unfold zJ_X11_then_21 at hE)
        (try unfold zJ_X11_then_22 at hE)
        (try unfold zJ_X11_then_21 at hE)
        (try unfold zJ_X11_then_22 at hE)
        refine mz_csx rfl mt_11_183 rfl (Nat.le_of_ble_eq_true rfl) (by omega) rfl nh_X11_mustBe (f_X11_mustBe (by omega) hx hI (by decide) (by decide) (fun hp9 hc10 => ?_) (fun hc => hX0 (zf_x2 hE hc (by decide))))
        show mm_W d mmX11_then 25 [some (.ref 0), some (.int (Int32.ofInt a1)), some (.int (Int32.ofInt a2)), some (.int (Int32.ofInt a3)), none] [] (mz_mk g x) Q
        replace hE := zf_x1 hE hc10
        refine mm_g 1 (pc1 := 26) (lo1 := [some (.ref 0), some (.int (Int32.ofInt a1)), some (.int (Int32.ofInt a2)), some (.int (Int32.ofInt a3)), none]) (st1 := [.int (Int32.ofInt a2)]) (H1 := mz_mk g x) rfl ?_
        refine mz_cs rfl mt_11_279 (by decide) rfl (Nat.le_of_ble_eq_true rfl) (by omega) (f_X11_isAhead (by omega) hx hI l_a2 u_a2 (fun v11 l_v11 u_v11 hc12 => ⟨_, rfl, ?_⟩))
        show mm_W d mmX11_then 29 [some (.ref 0), some (.int (Int32.ofInt a1)), some (.int (Int32.ofInt a2)), some (.int (Int32.ofInt a3)), none] [.int (Int32.ofInt v11)] (mz_mk g x) Q
        replace hE := zf_t1 hE hc12
        (try unfold zJ_X11_then_21 at hE)
        (try unfold zJ_X11_then_22 at hE)
        (try unfold zJ_X11_then_21 at hE)
        (try unfold zJ_X11_then_22 at hE)
        refine mz_csx rfl mt_11_106 rfl (Nat.le_of_ble_eq_true rfl) (by omega) rfl nh_X11_mustFit (f_X11_mustFit (by omega) hx hI l_v11 u_v11 (fun hp13 hc14 => ?_) (fun hc => hX1 (zf_x2 hE hc (by decide))))
        show mm_W d mmX11_then 32 [some (.ref 0), some (.int (Int32.ofInt a1)), some (.int (Int32.ofInt a2)), some (.int (Int32.ofInt a3)), none] [] (mz_mk g x) Q
        replace hE := zf_x1 hE hc14
        refine mm_g 3 (pc1 := 35) (lo1 := [some (.ref 0), some (.int (Int32.ofInt a1)), some (.int (Int32.ofInt a2)), some (.int (Int32.ofInt a3)), none]) (st1 := [.ref 0, .int (Int32.ofInt a1), .ref 0]) (H1 := mz_mk g x) rfl ?_
        refine mz_fgR (v := 86) rfl fd_11_37 (by decide) (sc_0 _) (rf_0_5 _ _ _) ?_
        refine mz_fgR (v := 87) rfl fd_11_158 (by decide) (sc_86 _) (rf_86_0 _ _ _) ?_
        refine mm_g 1 (pc1 := 42) (lo1 := [some (.ref 0), some (.int (Int32.ofInt a1)), some (.int (Int32.ofInt a2)), some (.int (Int32.ofInt a3)), none]) (st1 := [.int (Int32.ofInt a1), .ref 87, .int (Int32.ofInt a1), .ref 0]) (H1 := mz_mk g x) rfl ?_
        refine mz_cv rfl mt_11_192 (by decide) (sc_87 _) rfl (Nat.le_of_ble_eq_true rfl) (by omega) (f_X9_get (by omega) hx hI kp_tks_87 l_a1 u_a1 (fun u15 k_u15 hp16 hc17 => ⟨_, rfl, ?_⟩))
        show mm_W d mmX11_then 45 [some (.ref 0), some (.int (Int32.ofInt a1)), some (.int (Int32.ofInt a2)), some (.int (Int32.ofInt a3)), none] [.ref u15, .int (Int32.ofInt a1), .ref 0] (mz_mk g x) Q
        replace hE := zf_t1 hE hc17
        refine mz_gI rfl fd_11_234 (by decide) (kc_trunk k_u15 _) hI (kb_trunk_2 k_u15) (fun v18 e_v18 l_v18 u_v18 => ?_)
        replace hE := zf_tr hE (zf_le e_v18)
        refine mm_g 1 (pc1 := 49) (lo1 := [some (.ref 0), some (.int (Int32.ofInt a1)), some (.int (Int32.ofInt a2)), some (.int (Int32.ofInt a3)), none]) (st1 := [.int (Int32.ofInt a2), .int (Int32.ofInt v18), .int (Int32.ofInt a1), .ref 0]) (H1 := mz_mk g x) rfl ?_
        refine mz_cv rfl mt_11_282 (by decide) (sc_0 _) rfl (Nat.le_of_ble_eq_true rfl) (by omega) (f_X11_growProbe (by omega) hx hI l_a1 u_a1 l_v18 u_v18 l_a2 u_a2 (fun g19 hIg19 hfg19 hc20 => ⟨_, rfl, ?_⟩))
        show mm_W d mmX11_then 52 [some (.ref 0), some (.int (Int32.ofInt a1)), some (.int (Int32.ofInt a2)), some (.int (Int32.ofInt a3)), none] [] (mz_mk g19 x) Q
        replace hE := zf_t1 hE hc20
        refine mm_g 1 (pc1 := 53) (lo1 := [some (.ref 0), some (.int (Int32.ofInt a1)), some (.int (Int32.ofInt a2)), some (.int (Int32.ofInt a3)), none]) (st1 := [.int (Int32.ofInt a3)]) (H1 := mz_mk g19 x) rfl ?_
        refine mz_if_ne (tgt := 64) rfl rfl (mz_rg l_a3 u_a3) (fun c53_20 => ?_) (fun c53_20 => ?_)
        · skip
          replace hE := zf_in hE c53_20
          refine mm_g 2 (pc1 := 66) (lo1 := [some (.ref 0), some (.int (Int32.ofInt a1)), some (.int (Int32.ofInt a2)), some (.int (Int32.ofInt a3)), none]) (st1 := [.int (Int32.ofInt 1), .int (Int32.ofInt a3)]) (H1 := mz_mk g19 x) rfl ?_
          refine mz_ic_ne (tgt := 81) rfl rfl (mz_rg l_a3 u_a3) ⟨by decide, by decide⟩ (fun c66_20 => ?_) (fun c66_20 => ?_)
          · skip
            replace hE := zf_in hE c66_20
            refine mm_g 1 (pc1 := 82) (lo1 := [some (.ref 0), some (.int (Int32.ofInt a1)), some (.int (Int32.ofInt a2)), some (.int (Int32.ofInt a3)), none]) (st1 := [.ref 0]) (H1 := mz_mk g19 x) rfl ?_
            refine mz_fgR (v := x.1) rfl fd_11_16 (by decide) (sc_0 _) rfl ?_
            refine mm_g 1 (pc1 := 86) (lo1 := [some (.ref 0), some (.int (Int32.ofInt a1)), some (.int (Int32.ofInt a2)), some (.int (Int32.ofInt a3)), none]) (st1 := [.ref 0, .ref x.1]) (H1 := mz_mk g19 x) rfl ?_
            refine mz_fgR (v := 122) rfl fd_11_65 (by decide) (sc_0 _) (rf_0_10 _ _ _) ?_
            refine mm_g 1 (pc1 := 90) (lo1 := [some (.ref 0), some (.int (Int32.ofInt a1)), some (.int (Int32.ofInt a2)), some (.int (Int32.ofInt a3)), none]) (st1 := [.ref 0, .ref 122, .ref x.1]) (H1 := mz_mk g19 x) rfl ?_
            refine mz_fgR (v := 133) rfl fd_11_84 (by decide) (sc_0 _) (rf_0_13 _ _ _) ?_
            refine mz_cv rfl mt_11_286 (by decide) (kc_load (kx_1 hx) _) rfl (Nat.le_of_ble_eq_true rfl) (by omega) (f_X1_blendInto (by omega) hx hIg19 (kx_1 hx) kp_trunk_122 kp_let_133 (fun g21 hIg21 hfg21 hc22 => ⟨_, rfl, ?_⟩))
            show mm_W d mmX11_then 96 [some (.ref 0), some (.int (Int32.ofInt a1)), some (.int (Int32.ofInt a2)), some (.int (Int32.ofInt a3)), none] [] (mz_mk g21 x) Q
            replace hE := zf_t1 hE hc22
            refine mm_g 1 (pc1 := 97) (lo1 := [some (.ref 0), some (.int (Int32.ofInt a1)), some (.int (Int32.ofInt a2)), some (.int (Int32.ofInt a3)), none]) (st1 := [.ref 0]) (H1 := mz_mk g21 x) rfl ?_
            refine mz_cv rfl mt_11_290 (by decide) (sc_0 _) rfl (Nat.le_of_ble_eq_true rfl) (by omega) (f_X11_nearestToBlend (by omega) hx hIg21 (fun v23 g24 hIg24 hfg24 l_v23 u_v23 hc25 => ⟨_, rfl, ?_⟩))
            show mm_W d mmX11_then 100 [some (.ref 0), some (.int (Int32.ofInt a1)), some (.int (Int32.ofInt a2)), some (.int (Int32.ofInt a3)), none] [.int (Int32.ofInt v23)] (mz_mk g24 x) Q
            replace hE := zf_t2 hE hc25
            refine mm_g 3 (pc1 := 104) (lo1 := [some (.ref 0), some (.int (Int32.ofInt a1)), some (.int (Int32.ofInt a2)), some (.int (Int32.ofInt a3)), some (.int (Int32.ofInt v23))]) (st1 := [.int (Int32.ofInt 2), .int (Int32.ofInt a3)]) (H1 := mz_mk g24 x) rfl ?_
            refine mz_ic_ne (tgt := 112) rfl rfl (mz_rg l_a3 u_a3) ⟨by decide, by decide⟩ (fun c104_25 => ?_) (fun c104_25 => ?_)
            · skip
              replace hE := zf_in hE c104_25
              refine mm_g 1 (pc1 := 113) (lo1 := [some (.ref 0), some (.int (Int32.ofInt a1)), some (.int (Int32.ofInt a2)), some (.int (Int32.ofInt a3)), some (.int (Int32.ofInt v23))]) (st1 := [.ref 0]) (H1 := mz_mk g24 x) rfl ?_
              refine mz_fgR (v := 116) rfl fd_11_51 (by decide) (sc_0 _) (rf_0_8 _ _ _) ?_
              refine mm_g 1 (pc1 := 117) (lo1 := [some (.ref 0), some (.int (Int32.ofInt a1)), some (.int (Int32.ofInt a2)), some (.int (Int32.ofInt a3)), some (.int (Int32.ofInt v23))]) (st1 := [.ref 0, .ref 116]) (H1 := mz_mk g24 x) rfl ?_
              refine mz_fgR (v := 133) rfl fd_11_84 (by decide) (sc_0 _) (rf_0_13 _ _ _) ?_
              refine mm_g 1 (pc1 := 121) (lo1 := [some (.ref 0), some (.int (Int32.ofInt a1)), some (.int (Int32.ofInt a2)), some (.int (Int32.ofInt a3)), some (.int (Int32.ofInt v23))]) (st1 := [.ref 0, .ref 133, .ref 116]) (H1 := mz_mk g24 x) rfl ?_
              refine mz_fgR (v := x.1) rfl fd_11_16 (by decide) (sc_0 _) rfl ?_
              refine mz_fgR (v := (x.1 + 1)) rfl fd_11_135 (by decide) (kc_load (kx_1 hx) _) (kr_load_0 (kx_1 hx) _ _ _) ?_
              refine mm_g 1 (pc1 := 129) (lo1 := [some (.ref 0), some (.int (Int32.ofInt a1)), some (.int (Int32.ofInt a2)), some (.int (Int32.ofInt a3)), some (.int (Int32.ofInt v23))]) (st1 := [.int (Int32.ofInt v23), .ref (x.1 + 1), .ref 133, .ref 116]) (H1 := mz_mk g24 x) rfl ?_
              refine mz_cv rfl mt_11_203 (by decide) (kc_words (ks_load_0 (kx_1 hx)) _) rfl (Nat.le_of_ble_eq_true rfl) (by omega) (f_X10_of (by omega) hx hIg24 (ks_load_0 (kx_1 hx)) (by omega) (by omega) (fun u26 k_u26 hp27 hc28 => ⟨_, rfl, ?_⟩))
              show mm_W d mmX11_then 132 [some (.ref 0), some (.int (Int32.ofInt a1)), some (.int (Int32.ofInt a2)), some (.int (Int32.ofInt a3)), some (.int (Int32.ofInt v23))] [.ref u26, .ref 133, .ref 116] (mz_mk g24 x) Q
              replace hE := zf_t1 hE hc28
              refine mz_cv rfl mt_11_293 (by decide) (sc_116 _) rfl (Nat.le_of_ble_eq_true rfl) (by omega) (f_X2_changes (by omega) hx hIg24 kp_let_133 k_u26 (fun v29 g30 hIg30 hfg30 l_v29 u_v29 hc31 => ⟨_, rfl, ?_⟩))
              show mm_W d mmX11_then 135 [some (.ref 0), some (.int (Int32.ofInt a1)), some (.int (Int32.ofInt a2)), some (.int (Int32.ofInt a3)), some (.int (Int32.ofInt v23))] [.int (Int32.ofInt v29)] (mz_mk g30 x) Q
              replace hE := zf_t2 hE hc31
              exact mm_rt rfl rfl (hQ _ _ hIg30 (fun k j hk => ((hfg30 k j (fun h => hk (Or.inr (Or.inr (Or.inr (Or.inr (Or.inr h))))))).trans ((hfg24 k j (fun h => hk (Or.inr (Or.inr (Or.inr (Or.inr (Or.inr h))))))).trans ((hfg21 k j (fun h => hk (Or.elim h (fun h => (Or.inr (Or.inr (Or.inr (Or.inl h))))) (fun h => (Or.inr (Or.inr (Or.inr (Or.inr (Or.inl h))))))))).trans (hfg19 k j (fun h => hk (Or.elim h (fun h => (Or.inl h)) (fun h => (Or.elim h (fun h => (Or.inr (Or.inl h))) (fun h => (Or.inr (Or.inr (Or.inl h))))))))))))) (by omega) (by omega) hE)
            · skip
              replace hE := zf_ip hE c104_25
              refine mm_g 1 (pc1 := 109) (lo1 := [some (.ref 0), some (.int (Int32.ofInt a1)), some (.int (Int32.ofInt a2)), some (.int (Int32.ofInt a3)), some (.int (Int32.ofInt v23))]) (st1 := [.int (Int32.ofInt v23)]) (H1 := mz_mk g24 x) rfl ?_
              refine mz_gt (tgt := 135) rfl rfl ?_
              exact mm_rt rfl rfl (hQ _ _ hIg24 (fun k j hk => ((hfg24 k j (fun h => hk (Or.inr (Or.inr (Or.inr (Or.inr (Or.inr h))))))).trans ((hfg21 k j (fun h => hk (Or.elim h (fun h => (Or.inr (Or.inr (Or.inr (Or.inl h))))) (fun h => (Or.inr (Or.inr (Or.inr (Or.inr (Or.inl h))))))))).trans (hfg19 k j (fun h => hk (Or.elim h (fun h => (Or.inl h)) (fun h => (Or.elim h (fun h => (Or.inr (Or.inl h))) (fun h => (Or.inr (Or.inr (Or.inl h)))))))))))) (by omega) (by omega) hE)
          · skip
            replace hE := zf_ip hE c66_20
            refine mm_g 1 (pc1 := 70) (lo1 := [some (.ref 0), some (.int (Int32.ofInt a1)), some (.int (Int32.ofInt a2)), some (.int (Int32.ofInt a3)), none]) (st1 := [.ref 0]) (H1 := mz_mk g19 x) rfl ?_
            refine mz_fgR (v := x.1) rfl fd_11_16 (by decide) (sc_0 _) rfl ?_
            refine mm_g 1 (pc1 := 74) (lo1 := [some (.ref 0), some (.int (Int32.ofInt a1)), some (.int (Int32.ofInt a2)), some (.int (Int32.ofInt a3)), none]) (st1 := [.ref 0, .ref x.1]) (H1 := mz_mk g19 x) rfl ?_
            refine mz_fgR (v := 122) rfl fd_11_65 (by decide) (sc_0 _) (rf_0_10 _ _ _) ?_
            refine mz_cv rfl mt_11_244 (by decide) (kc_load (kx_1 hx) _) rfl (Nat.le_of_ble_eq_true rfl) (by omega) (f_X1_blendSize (by omega) hx hIg19 (kx_1 hx) kp_trunk_122 (fun v32 l_v32 u_v32 hc33 => ⟨_, rfl, ?_⟩))
            show mm_W d mmX11_then 80 [some (.ref 0), some (.int (Int32.ofInt a1)), some (.int (Int32.ofInt a2)), some (.int (Int32.ofInt a3)), none] [.int (Int32.ofInt v32)] (mz_mk g19 x) Q
            replace hE := zf_t1 hE hc33
            exact mm_rt rfl rfl (hQ _ _ hIg19 (fun k j hk => (hfg19 k j (fun h => hk (Or.elim h (fun h => (Or.inl h)) (fun h => (Or.elim h (fun h => (Or.inr (Or.inl h))) (fun h => (Or.inr (Or.inr (Or.inl h)))))))))) (by omega) (by omega) hE)
        · skip
          replace hE := zf_ip hE c53_20
          refine mm_g 1 (pc1 := 57) (lo1 := [some (.ref 0), some (.int (Int32.ofInt a1)), some (.int (Int32.ofInt a2)), some (.int (Int32.ofInt a3)), none]) (st1 := [.ref 0]) (H1 := mz_mk g19 x) rfl ?_
          refine mz_fgR (v := 122) rfl fd_11_65 (by decide) (sc_0 _) (rf_0_10 _ _ _) ?_
          refine mz_gI rfl fd_11_237 (by decide) (sc_122 _) hIg19 bd_122_3 (fun v34 e_v34 l_v34 u_v34 => ?_)
          replace hE := zf_tr hE (zf_le e_v34)
          exact mm_rt rfl rfl (hQ _ _ hIg19 (fun k j hk => (hfg19 k j (fun h => hk (Or.elim h (fun h => (Or.inl h)) (fun h => (Or.elim h (fun h => (Or.inr (Or.inl h))) (fun h => (Or.inr (Or.inr (Or.inl h)))))))))) (by omega) (by omega) hE)
def fw_X11_blend (x : mm_X) (a1 : Int) (a2 : Int) (a3 : Int) : Nat → Nat → Prop := fun k j => k = 122 ∨ k = ((x.1 + 36) + 2) ∨ k = ((x.1 + 36) + 3) ∨ k = 133 ∨ k = 134
theorem f_X11_blend {d : Nat} (hd : 16 ≤ d) {x : mm_X} (hx : mk_x x) {g : mz_G} (hI : mz_inv g) {a1 : Int} (l_a1 : (-2147483648) ≤ a1) (u_a1 : a1 ≤ 2147483647) {a2 : Int} (l_a2 : (-2147483648) ≤ a2) (u_a2 : a2 ≤ 2147483647) {a3 : Int} (l_a3 : (-2147483648) ≤ a3) (u_a3 : a3 ≤ 2147483647) {Q : (Option Value ⊕ Nat) → mm_H → Prop} (hQ : ∀ (r : Int) (g1 : mz_G), mz_inv g1 → mz_fr (fw_X11_blend x a1 a2 a3) g g1 → (-2147483648) ≤ r → r ≤ 2147483647 → zf_E (zF_X11_blend x a1 a2 a3 g) ((0, r, g1)) → Q (.inl (some (.int (Int32.ofInt r)))) (mz_mk g1 x)) (hX0 : (zf_E (zF_X11_blend x a1 a2 a3 g) ((1, 0, g))) → Q (.inr 0) (mz_mk g (mz_tx x))) (hX1 : (zf_E (zF_X11_blend x a1 a2 a3 g) ((2, 0, g))) → Q (.inr 1) (mz_mk g (mz_tx x))) : mm_C d 141 [.ref 0, .int (Int32.ofInt a1), .int (Int32.ofInt a2), .int (Int32.ofInt a3)] (mz_mk g x) Q := by
  have kx := kn_x hx
  refine ⟨mmX11_blend, [some (.ref 0), some (.int (Int32.ofInt a1)), some (.int (Int32.ofInt a2)), some (.int (Int32.ofInt a3))], rfl, rfl, ?_⟩
  have hE : zf_E (zF_X11_blend x a1 a2 a3 g) (zF_X11_blend x a1 a2 a3 g) := zf_rf
  refine mm_g 2 (pc1 := 2) (lo1 := [some (.ref 0), some (.int (Int32.ofInt a1)), some (.int (Int32.ofInt a2)), some (.int (Int32.ofInt a3))]) (st1 := [.int (Int32.ofInt a1), .ref 0]) (H1 := mz_mk g x) rfl ?_
  refine mz_cv rfl mt_11_231 (by decide) (sc_0 _) rfl (Nat.le_of_ble_eq_true rfl) (by omega) (f_X11_isTrunk (by omega) hx hI l_a1 u_a1 (fun v1 l_v1 u_v1 hc2 => ⟨_, rfl, ?_⟩))
  show mm_W d mmX11_blend 5 [some (.ref 0), some (.int (Int32.ofInt a1)), some (.int (Int32.ofInt a2)), some (.int (Int32.ofInt a3))] [.int (Int32.ofInt v1)] (mz_mk g x) Q
  replace hE := zf_t1 hE hc2
  (try unfold zJ_X11_blend_76 at hE)
  (try unfold zJ_X11_blend_76 at hE)
  refine mz_csx rfl mt_11_183 rfl (Nat.le_of_ble_eq_true rfl) (by omega) rfl nh_X11_mustBe (f_X11_mustBe (by omega) hx hI l_v1 u_v1 (fun hp3 hc4 => ?_) (fun hc => hX0 (zf_x2 hE hc (by decide))))
  show mm_W d mmX11_blend 8 [some (.ref 0), some (.int (Int32.ofInt a1)), some (.int (Int32.ofInt a2)), some (.int (Int32.ofInt a3))] [] (mz_mk g x) Q
  replace hE := zf_x1 hE hc4
  refine mm_g 1 (pc1 := 9) (lo1 := [some (.ref 0), some (.int (Int32.ofInt a1)), some (.int (Int32.ofInt a2)), some (.int (Int32.ofInt a3))]) (st1 := [.int (Int32.ofInt a3)]) (H1 := mz_mk g x) rfl ?_
  refine mz_cs rfl mt_11_279 (by decide) rfl (Nat.le_of_ble_eq_true rfl) (by omega) (f_X11_isAhead (by omega) hx hI l_a3 u_a3 (fun v5 l_v5 u_v5 hc6 => ⟨_, rfl, ?_⟩))
  show mm_W d mmX11_blend 12 [some (.ref 0), some (.int (Int32.ofInt a1)), some (.int (Int32.ofInt a2)), some (.int (Int32.ofInt a3))] [.int (Int32.ofInt v5)] (mz_mk g x) Q
  replace hE := zf_t1 hE hc6
  (try unfold zJ_X11_blend_76 at hE)
  (try unfold zJ_X11_blend_76 at hE)
  refine mz_csx rfl mt_11_106 rfl (Nat.le_of_ble_eq_true rfl) (by omega) rfl nh_X11_mustFit (f_X11_mustFit (by omega) hx hI l_v5 u_v5 (fun hp7 hc8 => ?_) (fun hc => hX1 (zf_x2 hE hc (by decide))))
  show mm_W d mmX11_blend 15 [some (.ref 0), some (.int (Int32.ofInt a1)), some (.int (Int32.ofInt a2)), some (.int (Int32.ofInt a3))] [] (mz_mk g x) Q
  replace hE := zf_x1 hE hc8
  refine mm_g 3 (pc1 := 18) (lo1 := [some (.ref 0), some (.int (Int32.ofInt a1)), some (.int (Int32.ofInt a2)), some (.int (Int32.ofInt a3))]) (st1 := [.ref 0, .int (Int32.ofInt a1), .ref 0]) (H1 := mz_mk g x) rfl ?_
  refine mz_fgR (v := 86) rfl fd_11_37 (by decide) (sc_0 _) (rf_0_5 _ _ _) ?_
  refine mz_fgR (v := 87) rfl fd_11_158 (by decide) (sc_86 _) (rf_86_0 _ _ _) ?_
  refine mm_g 1 (pc1 := 25) (lo1 := [some (.ref 0), some (.int (Int32.ofInt a1)), some (.int (Int32.ofInt a2)), some (.int (Int32.ofInt a3))]) (st1 := [.int (Int32.ofInt a1), .ref 87, .int (Int32.ofInt a1), .ref 0]) (H1 := mz_mk g x) rfl ?_
  refine mz_cv rfl mt_11_192 (by decide) (sc_87 _) rfl (Nat.le_of_ble_eq_true rfl) (by omega) (f_X9_get (by omega) hx hI kp_tks_87 l_a1 u_a1 (fun u9 k_u9 hp10 hc11 => ⟨_, rfl, ?_⟩))
  show mm_W d mmX11_blend 28 [some (.ref 0), some (.int (Int32.ofInt a1)), some (.int (Int32.ofInt a2)), some (.int (Int32.ofInt a3))] [.ref u9, .int (Int32.ofInt a1), .ref 0] (mz_mk g x) Q
  replace hE := zf_t1 hE hc11
  refine mz_gI rfl fd_11_234 (by decide) (kc_trunk k_u9 _) hI (kb_trunk_2 k_u9) (fun v12 e_v12 l_v12 u_v12 => ?_)
  replace hE := zf_tr hE (zf_le e_v12)
  refine mm_g 1 (pc1 := 32) (lo1 := [some (.ref 0), some (.int (Int32.ofInt a1)), some (.int (Int32.ofInt a2)), some (.int (Int32.ofInt a3))]) (st1 := [.int (Int32.ofInt a3), .int (Int32.ofInt v12), .int (Int32.ofInt a1), .ref 0]) (H1 := mz_mk g x) rfl ?_
  refine mz_cv rfl mt_11_282 (by decide) (sc_0 _) rfl (Nat.le_of_ble_eq_true rfl) (by omega) (f_X11_growProbe (by omega) hx hI l_a1 u_a1 l_v12 u_v12 l_a3 u_a3 (fun g13 hIg13 hfg13 hc14 => ⟨_, rfl, ?_⟩))
  show mm_W d mmX11_blend 35 [some (.ref 0), some (.int (Int32.ofInt a1)), some (.int (Int32.ofInt a2)), some (.int (Int32.ofInt a3))] [] (mz_mk g13 x) Q
  replace hE := zf_t1 hE hc14
  refine mm_g 1 (pc1 := 36) (lo1 := [some (.ref 0), some (.int (Int32.ofInt a1)), some (.int (Int32.ofInt a2)), some (.int (Int32.ofInt a3))]) (st1 := [.ref 0]) (H1 := mz_mk g13 x) rfl ?_
  refine mz_fgR (v := x.1) rfl fd_11_16 (by decide) (sc_0 _) rfl ?_
  refine mm_g 1 (pc1 := 40) (lo1 := [some (.ref 0), some (.int (Int32.ofInt a1)), some (.int (Int32.ofInt a2)), some (.int (Int32.ofInt a3))]) (st1 := [.ref 0, .ref x.1]) (H1 := mz_mk g13 x) rfl ?_
  refine mz_fgR (v := 122) rfl fd_11_65 (by decide) (sc_0 _) (rf_0_10 _ _ _) ?_
  refine mm_g 1 (pc1 := 44) (lo1 := [some (.ref 0), some (.int (Int32.ofInt a1)), some (.int (Int32.ofInt a2)), some (.int (Int32.ofInt a3))]) (st1 := [.ref 0, .ref 122, .ref x.1]) (H1 := mz_mk g13 x) rfl ?_
  refine mz_fgR (v := 133) rfl fd_11_84 (by decide) (sc_0 _) (rf_0_13 _ _ _) ?_
  refine mz_cv rfl mt_11_286 (by decide) (kc_load (kx_1 hx) _) rfl (Nat.le_of_ble_eq_true rfl) (by omega) (f_X1_blendInto (by omega) hx hIg13 (kx_1 hx) kp_trunk_122 kp_let_133 (fun g15 hIg15 hfg15 hc16 => ⟨_, rfl, ?_⟩))
  show mm_W d mmX11_blend 50 [some (.ref 0), some (.int (Int32.ofInt a1)), some (.int (Int32.ofInt a2)), some (.int (Int32.ofInt a3))] [] (mz_mk g15 x) Q
  replace hE := zf_t1 hE hc16
  refine mm_g 1 (pc1 := 51) (lo1 := [some (.ref 0), some (.int (Int32.ofInt a1)), some (.int (Int32.ofInt a2)), some (.int (Int32.ofInt a3))]) (st1 := [.int (Int32.ofInt a2)]) (H1 := mz_mk g15 x) rfl ?_
  refine mz_if_lt (tgt := 76) rfl rfl (mz_rg l_a2 u_a2) (fun c51_16 => ?_) (fun c51_16 => ?_)
  · skip
    replace hE := zf_ip hE c51_16
    refine mm_g 1 (pc1 := 77) (lo1 := [some (.ref 0), some (.int (Int32.ofInt a1)), some (.int (Int32.ofInt a2)), some (.int (Int32.ofInt a3))]) (st1 := [.int (Int32.ofInt (-1))]) (H1 := mz_mk g15 x) rfl ?_
    exact mm_rt rfl rfl (hQ _ _ hIg15 (fun k j hk => ((hfg15 k j (fun h => hk (Or.elim h (fun h => (Or.inr (Or.inr (Or.inr (Or.inl h))))) (fun h => (Or.inr (Or.inr (Or.inr (Or.inr h)))))))).trans (hfg13 k j (fun h => hk (Or.elim h (fun h => (Or.inl h)) (fun h => (Or.elim h (fun h => (Or.inr (Or.inl h))) (fun h => (Or.inr (Or.inr (Or.inl h))))))))))) (by decide) (by decide) hE)
  · skip
    replace hE := zf_nl hE c51_16
    refine mm_g 2 (pc1 := 56) (lo1 := [some (.ref 0), some (.int (Int32.ofInt a1)), some (.int (Int32.ofInt a2)), some (.int (Int32.ofInt a3))]) (st1 := [.ref 0, .int (Int32.ofInt a2)]) (H1 := mz_mk g15 x) rfl ?_
    refine mz_fgR (v := 133) rfl fd_11_84 (by decide) (sc_0 _) (rf_0_13 _ _ _) ?_
    refine mz_cv rfl mt_11_207 (by decide) (sc_133 _) rfl (Nat.le_of_ble_eq_true rfl) (by omega) (f_X0_length (by omega) hx hIg15 kp_let_133 (fun v17 l_v17 u_v17 hc18 => ⟨_, rfl, ?_⟩))
    show mm_W d mmX11_blend 62 [some (.ref 0), some (.int (Int32.ofInt a1)), some (.int (Int32.ofInt a2)), some (.int (Int32.ofInt a3))] [.int (Int32.ofInt v17), .int (Int32.ofInt a2)] (mz_mk g15 x) Q
    replace hE := zf_t1 hE hc18
    refine mz_ic_ge (tgt := 76) rfl rfl (mz_rg l_a2 u_a2) (mz_rg l_v17 u_v17) (fun c62_18 => ?_) (fun c62_18 => ?_)
    · skip
      replace hE := zf_nl hE c62_18
      refine mm_g 1 (pc1 := 77) (lo1 := [some (.ref 0), some (.int (Int32.ofInt a1)), some (.int (Int32.ofInt a2)), some (.int (Int32.ofInt a3))]) (st1 := [.int (Int32.ofInt (-1))]) (H1 := mz_mk g15 x) rfl ?_
      exact mm_rt rfl rfl (hQ _ _ hIg15 (fun k j hk => ((hfg15 k j (fun h => hk (Or.elim h (fun h => (Or.inr (Or.inr (Or.inr (Or.inl h))))) (fun h => (Or.inr (Or.inr (Or.inr (Or.inr h)))))))).trans (hfg13 k j (fun h => hk (Or.elim h (fun h => (Or.inl h)) (fun h => (Or.elim h (fun h => (Or.inr (Or.inl h))) (fun h => (Or.inr (Or.inr (Or.inl h))))))))))) (by decide) (by decide) hE)
    · skip
      replace hE := zf_ip hE c62_18
      refine mm_g 1 (pc1 := 66) (lo1 := [some (.ref 0), some (.int (Int32.ofInt a1)), some (.int (Int32.ofInt a2)), some (.int (Int32.ofInt a3))]) (st1 := [.ref 0]) (H1 := mz_mk g15 x) rfl ?_
      refine mz_fgR (v := 133) rfl fd_11_84 (by decide) (sc_0 _) (rf_0_13 _ _ _) ?_
      refine mm_g 1 (pc1 := 70) (lo1 := [some (.ref 0), some (.int (Int32.ofInt a1)), some (.int (Int32.ofInt a2)), some (.int (Int32.ofInt a3))]) (st1 := [.int (Int32.ofInt a2), .ref 133]) (H1 := mz_mk g15 x) rfl ?_
      refine mz_cv rfl mt_11_228 (by decide) (sc_133 _) rfl (Nat.le_of_ble_eq_true rfl) (by omega) (f_X0_signAt (by omega) hx hIg15 kp_let_133 l_a2 u_a2 (fun v19 l_v19 u_v19 hc20 => ⟨_, rfl, ?_⟩))
      show mm_W d mmX11_blend 73 [some (.ref 0), some (.int (Int32.ofInt a1)), some (.int (Int32.ofInt a2)), some (.int (Int32.ofInt a3))] [.int (Int32.ofInt v19)] (mz_mk g15 x) Q
      replace hE := zf_t1 hE hc20
      refine mz_gt (tgt := 77) rfl rfl ?_
      exact mm_rt rfl rfl (hQ _ _ hIg15 (fun k j hk => ((hfg15 k j (fun h => hk (Or.elim h (fun h => (Or.inr (Or.inr (Or.inr (Or.inl h))))) (fun h => (Or.inr (Or.inr (Or.inr (Or.inr h)))))))).trans (hfg13 k j (fun h => hk (Or.elim h (fun h => (Or.inl h)) (fun h => (Or.elim h (fun h => (Or.inr (Or.inl h))) (fun h => (Or.inr (Or.inr (Or.inl h))))))))))) (by omega) (by omega) hE)
def fl_X11_later_38 (x : mm_X) (a1 : Int) (a2 : Int) : Nat → Nat → Prop := fun k j => k = 122 ∨ k = ((x.1 + 36) + 2) ∨ k = ((x.1 + 36) + 3)
def fw_X11_later (x : mm_X) (a1 : Int) (a2 : Int) : Nat → Nat → Prop := fun k j => k = 122 ∨ k = ((x.1 + 36) + 2) ∨ k = ((x.1 + 36) + 3)
theorem f_X11_later {d : Nat} (hd : 16 ≤ d) {x : mm_X} (hx : mk_x x) {g : mz_G} (hI : mz_inv g) {a1 : Int} (l_a1 : (-2147483648) ≤ a1) (u_a1 : a1 ≤ 2147483647) {a2 : Int} (l_a2 : (-2147483648) ≤ a2) (u_a2 : a2 ≤ 2147483647) {Q : (Option Value ⊕ Nat) → mm_H → Prop} (hQ : ∀ (r : Int) (g1 : mz_G), mz_inv g1 → mz_fr (fw_X11_later x a1 a2) g g1 → (-2147483648) ≤ r → r ≤ 2147483647 → zf_E (zF_X11_later x a1 a2 g) ((0, r, g1)) → Q (.inl (some (.int (Int32.ofInt r)))) (mz_mk g1 x)) (hX0 : (zf_E (zF_X11_later x a1 a2 g) ((1, 0, g))) → Q (.inr 0) (mz_mk g (mz_tx x))) (hX1 : (zf_E (zF_X11_later x a1 a2 g) ((2, 0, g))) → Q (.inr 1) (mz_mk g (mz_tx x))) : mm_C d 142 [.ref 0, .int (Int32.ofInt a1), .int (Int32.ofInt a2)] (mz_mk g x) Q := by
  have kx := kn_x hx
  refine ⟨mmX11_later, [some (.ref 0), some (.int (Int32.ofInt a1)), some (.int (Int32.ofInt a2)), none, none, none, none, none, none], rfl, rfl, ?_⟩
  have hE : zf_E (zF_X11_later x a1 a2 g) (zF_X11_later x a1 a2 g) := zf_rf
  refine mm_g 1 (pc1 := 1) (lo1 := [some (.ref 0), some (.int (Int32.ofInt a1)), some (.int (Int32.ofInt a2)), none, none, none, none, none, none]) (st1 := [.int (Int32.ofInt a2)]) (H1 := mz_mk g x) rfl ?_
  refine mz_if_lt (tgt := 13) rfl rfl (mz_rg l_a2 u_a2) (fun c1_0 => ?_) (fun c1_0 => ?_)
  · skip
    replace hE := zf_ip hE c1_0
    refine mm_g 1 (pc1 := 14) (lo1 := [some (.ref 0), some (.int (Int32.ofInt a1)), some (.int (Int32.ofInt a2)), none, none, none, none, none, none]) (st1 := [.int (Int32.ofInt 0)]) (H1 := mz_mk g x) rfl ?_
    (try unfold zJ_X11_later_13 at hE)
    (try unfold zJ_X11_later_14 at hE)
    (try unfold zJ_X11_later_96 at hE)
    (try unfold zJ_X11_later_131 at hE)
    (try unfold zJ_X11_later_13 at hE)
    (try unfold zJ_X11_later_14 at hE)
    (try unfold zJ_X11_later_96 at hE)
    (try unfold zJ_X11_later_131 at hE)
    refine mz_csx rfl mt_11_183 rfl (Nat.le_of_ble_eq_true rfl) (by omega) rfl nh_X11_mustBe (f_X11_mustBe (by omega) hx hI (by decide) (by decide) (fun hp1 hc2 => ?_) (fun hc => hX0 (zf_x2 hE hc (by decide))))
    show mm_W d mmX11_later 17 [some (.ref 0), some (.int (Int32.ofInt a1)), some (.int (Int32.ofInt a2)), none, none, none, none, none, none] [] (mz_mk g x) Q
    replace hE := zf_x1 hE hc2
    exfalso; omega
  · skip
    replace hE := zf_nl hE c1_0
    refine mm_g 2 (pc1 := 6) (lo1 := [some (.ref 0), some (.int (Int32.ofInt a1)), some (.int (Int32.ofInt a2)), none, none, none, none, none, none]) (st1 := [.int (Int32.ofInt 2), .int (Int32.ofInt a2)]) (H1 := mz_mk g x) rfl ?_
    refine mz_ic_gt (tgt := 13) rfl rfl (mz_rg l_a2 u_a2) ⟨by decide, by decide⟩ (fun c6_2 => ?_) (fun c6_2 => ?_)
    · skip
      replace hE := zf_ip hE c6_2
      refine mm_g 1 (pc1 := 14) (lo1 := [some (.ref 0), some (.int (Int32.ofInt a1)), some (.int (Int32.ofInt a2)), none, none, none, none, none, none]) (st1 := [.int (Int32.ofInt 0)]) (H1 := mz_mk g x) rfl ?_
      (try unfold zJ_X11_later_13 at hE)
      (try unfold zJ_X11_later_14 at hE)
      (try unfold zJ_X11_later_96 at hE)
      (try unfold zJ_X11_later_131 at hE)
      (try unfold zJ_X11_later_13 at hE)
      (try unfold zJ_X11_later_14 at hE)
      (try unfold zJ_X11_later_96 at hE)
      (try unfold zJ_X11_later_131 at hE)
      refine mz_csx rfl mt_11_183 rfl (Nat.le_of_ble_eq_true rfl) (by omega) rfl nh_X11_mustBe (f_X11_mustBe (by omega) hx hI (by decide) (by decide) (fun hp3 hc4 => ?_) (fun hc => hX0 (zf_x2 hE hc (by decide))))
      show mm_W d mmX11_later 17 [some (.ref 0), some (.int (Int32.ofInt a1)), some (.int (Int32.ofInt a2)), none, none, none, none, none, none] [] (mz_mk g x) Q
      replace hE := zf_x1 hE hc4
      exfalso; omega
    · skip
      replace hE := zf_nl hE c6_2
      refine mm_g 1 (pc1 := 10) (lo1 := [some (.ref 0), some (.int (Int32.ofInt a1)), some (.int (Int32.ofInt a2)), none, none, none, none, none, none]) (st1 := [.int (Int32.ofInt 1)]) (H1 := mz_mk g x) rfl ?_
      refine mz_gt (tgt := 14) rfl rfl ?_
      (try unfold zJ_X11_later_13 at hE)
      (try unfold zJ_X11_later_14 at hE)
      (try unfold zJ_X11_later_96 at hE)
      (try unfold zJ_X11_later_131 at hE)
      (try unfold zJ_X11_later_13 at hE)
      (try unfold zJ_X11_later_14 at hE)
      (try unfold zJ_X11_later_96 at hE)
      (try unfold zJ_X11_later_131 at hE)
      refine mz_csx rfl mt_11_183 rfl (Nat.le_of_ble_eq_true rfl) (by omega) rfl nh_X11_mustBe (f_X11_mustBe (by omega) hx hI (by decide) (by decide) (fun hp5 hc6 => ?_) (fun hc => hX0 (zf_x2 hE hc (by decide))))
      show mm_W d mmX11_later 17 [some (.ref 0), some (.int (Int32.ofInt a1)), some (.int (Int32.ofInt a2)), none, none, none, none, none, none] [] (mz_mk g x) Q
      replace hE := zf_x1 hE hc6
      refine mm_g 1 (pc1 := 18) (lo1 := [some (.ref 0), some (.int (Int32.ofInt a1)), some (.int (Int32.ofInt a2)), none, none, none, none, none, none]) (st1 := [.int (Int32.ofInt a1)]) (H1 := mz_mk g x) rfl ?_
      refine mz_cs rfl mt_11_279 (by decide) rfl (Nat.le_of_ble_eq_true rfl) (by omega) (f_X11_isAhead (by omega) hx hI l_a1 u_a1 (fun v7 l_v7 u_v7 hc8 => ⟨_, rfl, ?_⟩))
      show mm_W d mmX11_later 21 [some (.ref 0), some (.int (Int32.ofInt a1)), some (.int (Int32.ofInt a2)), none, none, none, none, none, none] [.int (Int32.ofInt v7)] (mz_mk g x) Q
      replace hE := zf_t1 hE hc8
      (try unfold zJ_X11_later_13 at hE)
      (try unfold zJ_X11_later_14 at hE)
      (try unfold zJ_X11_later_96 at hE)
      (try unfold zJ_X11_later_131 at hE)
      (try unfold zJ_X11_later_13 at hE)
      (try unfold zJ_X11_later_14 at hE)
      (try unfold zJ_X11_later_96 at hE)
      (try unfold zJ_X11_later_131 at hE)
      refine mz_csx rfl mt_11_106 rfl (Nat.le_of_ble_eq_true rfl) (by omega) rfl nh_X11_mustFit (f_X11_mustFit (by omega) hx hI l_v7 u_v7 (fun hp9 hc10 => ?_) (fun hc => hX1 (zf_x2 hE hc (by decide))))
      show mm_W d mmX11_later 24 [some (.ref 0), some (.int (Int32.ofInt a1)), some (.int (Int32.ofInt a2)), none, none, none, none, none, none] [] (mz_mk g x) Q
      replace hE := zf_x1 hE hc10
      refine mm_g 10 (pc1 := 38) (lo1 := [some (.ref 0), some (.int (Int32.ofInt a1)), some (.int (Int32.ofInt a2)), some (.int (Int32.ofInt 0)), some (.int (Int32.ofInt (-1))), some (.int (Int32.ofInt 0)), some (.int (Int32.ofInt 0)), some (.int (Int32.ofInt 0)), none]) (st1 := []) (H1 := mz_mk g x) rfl ?_
      have L20 : ∀ n19 : Nat, ∀ (v11 : Int) (v12 : Int) (v13 : Int) (v14 : Int) (v15 : Int) (o16 : Option Value) (g17 : mz_G), (6 - v15).toNat = n19 → 0 ≤ v11 → v11 ≤ 63 → (-1) ≤ v12 → v12 ≤ 5 → (-2147483648) ≤ v13 → v13 ≤ 2147483647 → (-2147483648) ≤ v14 → v14 ≤ 2147483647 → 0 ≤ v15 → v15 ≤ 6 → mz_nl o16 → mz_inv g17 → mz_fr (fl_X11_later_38 x a1 a2) g g17 → (∃ fk : Nat, (6 - v15).toNat < fk ∧ zf_E (zF_X11_later x a1 a2 g) (zL_X11_later_38 x a1 a2 fk v11 v12 v13 v14 v15 g17)) → mm_W d mmX11_later 38 [some (.ref 0), some (.int (Int32.ofInt a1)), some (.int (Int32.ofInt a2)), some (.int (Int32.ofInt v11)), some (.int (Int32.ofInt v12)), some (.int (Int32.ofInt v13)), some (.int (Int32.ofInt v14)), some (.int (Int32.ofInt v15)), o16] [] (mz_mk g17 x) Q := by
        intro n19
        induction n19 using Nat.strongRecOn with
        | ind n19 ih18 =>
        intro v11 v12 v13 v14 v15 o16 g17 hmn19 l_v11 u_v11 l_v12 u_v12 l_v13 u_v13 l_v14 u_v14 l_v15 u_v15 h_o16 hIg17 hfg17 hF
        obtain ⟨fk, fl, hE⟩ := hF
        obtain ⟨fj21, rfl⟩ : ∃ fj, fk = fj + 1 := ⟨fk - 1, by omega⟩
        have fn22 : n19 ≤ fj21 := by omega
        replace hE := zf_tr hE zL_X11_later_38_s
        refine mm_g 2 (pc1 := 41) (lo1 := [some (.ref 0), some (.int (Int32.ofInt a1)), some (.int (Int32.ofInt a2)), some (.int (Int32.ofInt v11)), some (.int (Int32.ofInt v12)), some (.int (Int32.ofInt v13)), some (.int (Int32.ofInt v14)), some (.int (Int32.ofInt v15)), o16]) (st1 := [.ref 0, .int (Int32.ofInt v15)]) (H1 := mz_mk g17 x) rfl ?_
        refine mz_cv rfl mt_11_155 (by decide) (sc_0 _) rfl (Nat.le_of_ble_eq_true rfl) (by omega) (f_X11_trunkCount (by omega) hx hIg17 (fun v23 l_v23 u_v23 hc24 => ⟨_, rfl, ?_⟩))
        show mm_W d mmX11_later 44 [some (.ref 0), some (.int (Int32.ofInt a1)), some (.int (Int32.ofInt a2)), some (.int (Int32.ofInt v11)), some (.int (Int32.ofInt v12)), some (.int (Int32.ofInt v13)), some (.int (Int32.ofInt v14)), some (.int (Int32.ofInt v15)), o16] [.int (Int32.ofInt v23), .int (Int32.ofInt v15)] (mz_mk g17 x) Q
        replace hE := zf_t1 hE hc24
        refine mz_ic_ge (tgt := 155) rfl rfl (mz_rg l_v15 u_v15) (mz_rg l_v23 u_v23) (fun c44_24 => ?_) (fun c44_24 => ?_)
        · skip
          replace hE := zf_nl hE c44_24
          refine mm_g 1 (pc1 := 156) (lo1 := [some (.ref 0), some (.int (Int32.ofInt a1)), some (.int (Int32.ofInt a2)), some (.int (Int32.ofInt v11)), some (.int (Int32.ofInt v12)), some (.int (Int32.ofInt v13)), some (.int (Int32.ofInt v14)), some (.int (Int32.ofInt v15)), o16]) (st1 := [.int (Int32.ofInt a2)]) (H1 := mz_mk g17 x) rfl ?_
          refine mz_if_ne (tgt := 163) rfl rfl (mz_rg l_a2 u_a2) (fun c156_24 => ?_) (fun c156_24 => ?_)
          · skip
            replace hE := zf_in hE c156_24
            refine mm_g 2 (pc1 := 165) (lo1 := [some (.ref 0), some (.int (Int32.ofInt a1)), some (.int (Int32.ofInt a2)), some (.int (Int32.ofInt v11)), some (.int (Int32.ofInt v12)), some (.int (Int32.ofInt v13)), some (.int (Int32.ofInt v14)), some (.int (Int32.ofInt v15)), o16]) (st1 := [.int (Int32.ofInt 1), .int (Int32.ofInt a2)]) (H1 := mz_mk g17 x) rfl ?_
            refine mz_ic_ne (tgt := 173) rfl rfl (mz_rg l_a2 u_a2) ⟨by decide, by decide⟩ (fun c165_24 => ?_) (fun c165_24 => ?_)
            · skip
              replace hE := zf_in hE c165_24
              refine mm_g 1 (pc1 := 175) (lo1 := [some (.ref 0), some (.int (Int32.ofInt a1)), some (.int (Int32.ofInt a2)), some (.int (Int32.ofInt v11)), some (.int (Int32.ofInt v12)), some (.int (Int32.ofInt v13)), some (.int (Int32.ofInt v14)), some (.int (Int32.ofInt v15)), o16]) (st1 := [.int (Int32.ofInt v14)]) (H1 := mz_mk g17 x) rfl ?_
              exact mm_rt rfl rfl (hQ _ _ hIg17 (fun k j hk => (hfg17 k j (fun h => hk (Or.elim h (fun h => (Or.inl h)) (fun h => (Or.elim h (fun h => (Or.inr (Or.inl h))) (fun h => (Or.inr (Or.inr h))))))))) (by omega) (by omega) hE)
            · skip
              replace hE := zf_ip hE c165_24
              refine mm_g 1 (pc1 := 170) (lo1 := [some (.ref 0), some (.int (Int32.ofInt a1)), some (.int (Int32.ofInt a2)), some (.int (Int32.ofInt v11)), some (.int (Int32.ofInt v12)), some (.int (Int32.ofInt v13)), some (.int (Int32.ofInt v14)), some (.int (Int32.ofInt v15)), o16]) (st1 := [.int (Int32.ofInt v12)]) (H1 := mz_mk g17 x) rfl ?_
              refine mz_gt (tgt := 175) rfl rfl ?_
              exact mm_rt rfl rfl (hQ _ _ hIg17 (fun k j hk => (hfg17 k j (fun h => hk (Or.elim h (fun h => (Or.inl h)) (fun h => (Or.elim h (fun h => (Or.inr (Or.inl h))) (fun h => (Or.inr (Or.inr h))))))))) (by omega) (by omega) hE)
          · skip
            replace hE := zf_ip hE c156_24
            refine mm_g 1 (pc1 := 160) (lo1 := [some (.ref 0), some (.int (Int32.ofInt a1)), some (.int (Int32.ofInt a2)), some (.int (Int32.ofInt v11)), some (.int (Int32.ofInt v12)), some (.int (Int32.ofInt v13)), some (.int (Int32.ofInt v14)), some (.int (Int32.ofInt v15)), o16]) (st1 := [.int (Int32.ofInt v11)]) (H1 := mz_mk g17 x) rfl ?_
            refine mz_gt (tgt := 175) rfl rfl ?_
            exact mm_rt rfl rfl (hQ _ _ hIg17 (fun k j hk => (hfg17 k j (fun h => hk (Or.elim h (fun h => (Or.inl h)) (fun h => (Or.elim h (fun h => (Or.inr (Or.inl h))) (fun h => (Or.inr (Or.inr h))))))))) (by omega) (by omega) hE)
        · skip
          replace hE := zf_ip hE c44_24
          refine mm_g 1 (pc1 := 48) (lo1 := [some (.ref 0), some (.int (Int32.ofInt a1)), some (.int (Int32.ofInt a2)), some (.int (Int32.ofInt v11)), some (.int (Int32.ofInt v12)), some (.int (Int32.ofInt v13)), some (.int (Int32.ofInt v14)), some (.int (Int32.ofInt v15)), o16]) (st1 := [.ref 0]) (H1 := mz_mk g17 x) rfl ?_
          refine mz_fgR (v := 86) rfl fd_11_37 (by decide) (sc_0 _) (rf_0_5 _ _ _) ?_
          refine mz_fgR (v := 87) rfl fd_11_158 (by decide) (sc_86 _) (rf_86_0 _ _ _) ?_
          refine mm_g 1 (pc1 := 56) (lo1 := [some (.ref 0), some (.int (Int32.ofInt a1)), some (.int (Int32.ofInt a2)), some (.int (Int32.ofInt v11)), some (.int (Int32.ofInt v12)), some (.int (Int32.ofInt v13)), some (.int (Int32.ofInt v14)), some (.int (Int32.ofInt v15)), o16]) (st1 := [.int (Int32.ofInt v15), .ref 87]) (H1 := mz_mk g17 x) rfl ?_
          refine mz_cv rfl mt_11_192 (by decide) (sc_87 _) rfl (Nat.le_of_ble_eq_true rfl) (by omega) (f_X9_get (by omega) hx hIg17 kp_tks_87 (by omega) (by omega) (fun u25 k_u25 hp26 hc27 => ⟨_, rfl, ?_⟩))
          show mm_W d mmX11_later 59 [some (.ref 0), some (.int (Int32.ofInt a1)), some (.int (Int32.ofInt a2)), some (.int (Int32.ofInt v11)), some (.int (Int32.ofInt v12)), some (.int (Int32.ofInt v13)), some (.int (Int32.ofInt v14)), some (.int (Int32.ofInt v15)), o16] [.ref u25] (mz_mk g17 x) Q
          replace hE := zf_t1 hE hc27
          refine mm_g 4 (pc1 := 66) (lo1 := [some (.ref 0), some (.int (Int32.ofInt a1)), some (.int (Int32.ofInt a2)), some (.int (Int32.ofInt v11)), some (.int (Int32.ofInt v12)), some (.int (Int32.ofInt v13)), some (.int (Int32.ofInt v14)), some (.int (Int32.ofInt v15)), some (.ref u25)]) (st1 := [.ref u25, .int (Int32.ofInt v15), .ref 0]) (H1 := mz_mk g17 x) rfl ?_
          refine mz_gI rfl fd_11_234 (by decide) (kc_trunk k_u25 _) hIg17 (kb_trunk_2 k_u25) (fun v28 e_v28 l_v28 u_v28 => ?_)
          replace hE := zf_tr hE (zf_le e_v28)
          refine mm_g 1 (pc1 := 70) (lo1 := [some (.ref 0), some (.int (Int32.ofInt a1)), some (.int (Int32.ofInt a2)), some (.int (Int32.ofInt v11)), some (.int (Int32.ofInt v12)), some (.int (Int32.ofInt v13)), some (.int (Int32.ofInt v14)), some (.int (Int32.ofInt v15)), some (.ref u25)]) (st1 := [.int (Int32.ofInt a1), .int (Int32.ofInt v28), .int (Int32.ofInt v15), .ref 0]) (H1 := mz_mk g17 x) rfl ?_
          refine mz_cv rfl mt_11_282 (by decide) (sc_0 _) rfl (Nat.le_of_ble_eq_true rfl) (by omega) (f_X11_growProbe (by omega) hx hIg17 (by omega) (by omega) l_v28 u_v28 l_a1 u_a1 (fun g29 hIg29 hfg29 hc30 => ⟨_, rfl, ?_⟩))
          show mm_W d mmX11_later 73 [some (.ref 0), some (.int (Int32.ofInt a1)), some (.int (Int32.ofInt a2)), some (.int (Int32.ofInt v11)), some (.int (Int32.ofInt v12)), some (.int (Int32.ofInt v13)), some (.int (Int32.ofInt v14)), some (.int (Int32.ofInt v15)), some (.ref u25)] [] (mz_mk g29 x) Q
          replace hE := zf_t1 hE hc30
          refine mm_g 2 (pc1 := 75) (lo1 := [some (.ref 0), some (.int (Int32.ofInt a1)), some (.int (Int32.ofInt a2)), some (.int (Int32.ofInt v11)), some (.int (Int32.ofInt v12)), some (.int (Int32.ofInt v13)), some (.int (Int32.ofInt v14)), some (.int (Int32.ofInt v15)), some (.ref u25)]) (st1 := [.ref 0, .int (Int32.ofInt v11)]) (H1 := mz_mk g29 x) rfl ?_
          refine mz_fgR (v := x.1) rfl fd_11_16 (by decide) (sc_0 _) rfl ?_
          refine mm_g 1 (pc1 := 79) (lo1 := [some (.ref 0), some (.int (Int32.ofInt a1)), some (.int (Int32.ofInt a2)), some (.int (Int32.ofInt v11)), some (.int (Int32.ofInt v12)), some (.int (Int32.ofInt v13)), some (.int (Int32.ofInt v14)), some (.int (Int32.ofInt v15)), some (.ref u25)]) (st1 := [.ref 0, .ref x.1, .int (Int32.ofInt v11)]) (H1 := mz_mk g29 x) rfl ?_
          refine mz_fgR (v := 122) rfl fd_11_65 (by decide) (sc_0 _) (rf_0_10 _ _ _) ?_
          refine mz_cv rfl mt_11_259 (by decide) (kc_load (kx_1 hx) _) rfl (Nat.le_of_ble_eq_true rfl) (by omega) (f_X1_isFull (by omega) hx hIg29 (kx_1 hx) kp_trunk_122 (fun v31 l_v31 u_v31 hc32 => ⟨_, rfl, ?_⟩))
          show mm_W d mmX11_later 85 [some (.ref 0), some (.int (Int32.ofInt a1)), some (.int (Int32.ofInt a2)), some (.int (Int32.ofInt v11)), some (.int (Int32.ofInt v12)), some (.int (Int32.ofInt v13)), some (.int (Int32.ofInt v14)), some (.int (Int32.ofInt v15)), some (.ref u25)] [.int (Int32.ofInt v31), .int (Int32.ofInt v11)] (mz_mk g29 x) Q
          replace hE := zf_t1 hE hc32
          refine mz_if_eq (tgt := 95) rfl rfl (mz_rg l_v31 u_v31) (fun c85_32 => ?_) (fun c85_32 => ?_)
          · skip
            replace hE := zf_ip hE c85_32
            refine mm_g 1 (pc1 := 96) (lo1 := [some (.ref 0), some (.int (Int32.ofInt a1)), some (.int (Int32.ofInt a2)), some (.int (Int32.ofInt v11)), some (.int (Int32.ofInt v12)), some (.int (Int32.ofInt v13)), some (.int (Int32.ofInt v14)), some (.int (Int32.ofInt v15)), some (.ref u25)]) (st1 := [.int (Int32.ofInt 0), .int (Int32.ofInt v11)]) (H1 := mz_mk g29 x) rfl ?_
            refine mz_ior rfl (fun v33 e_v33 hwv33 => ?_)
            have b_v33 : 0 ≤ v33 ∧ v33 ≤ 63 := by rw [e_v33]; exact mz_or_lt (n := 6) (by decide) (by omega) (by omega) (by omega) (by omega)
            have l_v33 := b_v33.1
            have u_v33 := b_v33.2
            replace hE := zf_tr hE (zf_le e_v33.symm)
            refine mm_g 2 (pc1 := 99) (lo1 := [some (.ref 0), some (.int (Int32.ofInt a1)), some (.int (Int32.ofInt a2)), some (.int (Int32.ofInt v33)), some (.int (Int32.ofInt v12)), some (.int (Int32.ofInt v13)), some (.int (Int32.ofInt v14)), some (.int (Int32.ofInt v15)), some (.ref u25)]) (st1 := [.ref 0]) (H1 := mz_mk g29 x) rfl ?_
            refine mz_fgR (v := x.1) rfl fd_11_16 (by decide) (sc_0 _) rfl ?_
            refine mm_g 1 (pc1 := 103) (lo1 := [some (.ref 0), some (.int (Int32.ofInt a1)), some (.int (Int32.ofInt a2)), some (.int (Int32.ofInt v33)), some (.int (Int32.ofInt v12)), some (.int (Int32.ofInt v13)), some (.int (Int32.ofInt v14)), some (.int (Int32.ofInt v15)), some (.ref u25)]) (st1 := [.ref 0, .ref x.1]) (H1 := mz_mk g29 x) rfl ?_
            refine mz_fgR (v := 122) rfl fd_11_65 (by decide) (sc_0 _) (rf_0_10 _ _ _) ?_
            refine mz_cv rfl mt_11_244 (by decide) (kc_load (kx_1 hx) _) rfl (Nat.le_of_ble_eq_true rfl) (by omega) (f_X1_blendSize (by omega) hx hIg29 (kx_1 hx) kp_trunk_122 (fun v34 l_v34 u_v34 hc35 => ⟨_, rfl, ?_⟩))
            show mm_W d mmX11_later 109 [some (.ref 0), some (.int (Int32.ofInt a1)), some (.int (Int32.ofInt a2)), some (.int (Int32.ofInt v33)), some (.int (Int32.ofInt v12)), some (.int (Int32.ofInt v13)), some (.int (Int32.ofInt v14)), some (.int (Int32.ofInt v15)), some (.ref u25)] [.int (Int32.ofInt v34)] (mz_mk g29 x) Q
            replace hE := zf_t1 hE hc35
            refine mm_g 1 (pc1 := 111) (lo1 := [some (.ref 0), some (.int (Int32.ofInt a1)), some (.int (Int32.ofInt a2)), some (.int (Int32.ofInt v33)), some (.int (Int32.ofInt v12)), some (.int (Int32.ofInt v13)), some (.int (Int32.ofInt v14)), some (.int (Int32.ofInt v15)), some (.ref u25)]) (st1 := [.int (Int32.ofInt v13), .int (Int32.ofInt v34)]) (H1 := mz_mk g29 x) rfl ?_
            refine mz_ic_le (tgt := 131) rfl rfl (mz_rg l_v34 u_v34) (mz_rg l_v13 u_v13) (fun c111_35 => ?_) (fun c111_35 => ?_)
            · skip
              replace hE := zf_nl hE c111_35
              refine mm_g 2 (pc1 := 134) (lo1 := [some (.ref 0), some (.int (Int32.ofInt a1)), some (.int (Int32.ofInt a2)), some (.int (Int32.ofInt v33)), some (.int (Int32.ofInt v12)), some (.int (Int32.ofInt v13)), some (.int (Int32.ofInt v14)), some (.int (Int32.ofInt v15)), some (.ref u25)]) (st1 := [.ref 0, .int (Int32.ofInt v14)]) (H1 := mz_mk g29 x) rfl ?_
              refine mz_fgR (v := 122) rfl fd_11_65 (by decide) (sc_0 _) (rf_0_10 _ _ _) ?_
              refine mz_gI rfl fd_11_237 (by decide) (sc_122 _) hIg29 bd_122_3 (fun v36 e_v36 l_v36 u_v36 => ?_)
              replace hE := zf_tr hE (zf_le e_v36)
              refine mm_g 1 (pc1 := 142) (lo1 := [some (.ref 0), some (.int (Int32.ofInt a1)), some (.int (Int32.ofInt a2)), some (.int (Int32.ofInt v33)), some (.int (Int32.ofInt v12)), some (.int (Int32.ofInt v13)), some (.int (Int32.ofInt v14)), some (.int (Int32.ofInt v15)), some (.ref u25)]) (st1 := [.ref u25, .int (Int32.ofInt v36), .int (Int32.ofInt v14)]) (H1 := mz_mk g29 x) rfl ?_
              refine mz_gI rfl fd_11_237 (by decide) (kc_trunk k_u25 _) hIg29 (kb_trunk_3 k_u25) (fun v37 e_v37 l_v37 u_v37 => ?_)
              replace hE := zf_tr hE (zf_le e_v37)
              refine mz_isub_w rfl (fun v38 e_v38 hwv38 => ?_)
              have l_v38 := hwv38.1
              have u_v38 := hwv38.2
              replace hE := zf_tr hE (zf_le e_v38.symm)
              refine mz_iadd_w rfl (fun v39 e_v39 hwv39 => ?_)
              have l_v39 := hwv39.1
              have u_v39 := hwv39.2
              replace hE := zf_tr hE (zf_le e_v39.symm)
              refine mm_g 1 (pc1 := 149) (lo1 := [some (.ref 0), some (.int (Int32.ofInt a1)), some (.int (Int32.ofInt a2)), some (.int (Int32.ofInt v33)), some (.int (Int32.ofInt v12)), some (.int (Int32.ofInt v13)), some (.int (Int32.ofInt v39)), some (.int (Int32.ofInt v15)), some (.ref u25)]) (st1 := []) (H1 := mz_mk g29 x) rfl ?_
              refine mz_iincR (v := v15) (lo2 := [some (.ref 0), some (.int (Int32.ofInt a1)), some (.int (Int32.ofInt a2)), some (.int (Int32.ofInt v33)), some (.int (Int32.ofInt v12)), some (.int (Int32.ofInt v13)), some (.int (Int32.ofInt v39)), some (.int (Int32.ofInt (v15 + 1))), some (.ref u25)]) rfl rfl rfl (Nat.le_of_ble_eq_true rfl) rfl ?_
              refine mz_gt (tgt := 38) rfl rfl ?_
              exact ih18 ((6 - (v15 + 1)).toNat) (by omega) v33 v12 v13 v39 (v15 + 1) (some (.ref u25)) g29 rfl (by omega) (by omega) (by omega) (by omega) (by omega) (by omega) (by omega) (by omega) (by omega) (by omega) (mz_nl_r _) hIg29 (fun k j hk => ((hfg29 k j (fun h => hk (Or.elim h (fun h => (Or.inl h)) (fun h => (Or.elim h (fun h => (Or.inr (Or.inl h))) (fun h => (Or.inr (Or.inr h)))))))).trans (hfg17 k j (fun h => hk (Or.elim h (fun h => (Or.inl h)) (fun h => (Or.elim h (fun h => (Or.inr (Or.inl h))) (fun h => (Or.inr (Or.inr h)))))))))) ⟨fj21, Nat.lt_of_lt_of_le (show ((6 - (v15 + 1)).toNat) < n19 from (by omega)) fn22, hE⟩
            · skip
              replace hE := zf_ip hE c111_35
              refine mm_g 3 (pc1 := 119) (lo1 := [some (.ref 0), some (.int (Int32.ofInt a1)), some (.int (Int32.ofInt a2)), some (.int (Int32.ofInt v33)), some (.int (Int32.ofInt v15)), some (.int (Int32.ofInt v13)), some (.int (Int32.ofInt v14)), some (.int (Int32.ofInt v15)), some (.ref u25)]) (st1 := [.ref 0]) (H1 := mz_mk g29 x) rfl ?_
              refine mz_fgR (v := x.1) rfl fd_11_16 (by decide) (sc_0 _) rfl ?_
              refine mm_g 1 (pc1 := 123) (lo1 := [some (.ref 0), some (.int (Int32.ofInt a1)), some (.int (Int32.ofInt a2)), some (.int (Int32.ofInt v33)), some (.int (Int32.ofInt v15)), some (.int (Int32.ofInt v13)), some (.int (Int32.ofInt v14)), some (.int (Int32.ofInt v15)), some (.ref u25)]) (st1 := [.ref 0, .ref x.1]) (H1 := mz_mk g29 x) rfl ?_
              refine mz_fgR (v := 122) rfl fd_11_65 (by decide) (sc_0 _) (rf_0_10 _ _ _) ?_
              refine mz_cv rfl mt_11_244 (by decide) (kc_load (kx_1 hx) _) rfl (Nat.le_of_ble_eq_true rfl) (by omega) (f_X1_blendSize (by omega) hx hIg29 (kx_1 hx) kp_trunk_122 (fun v40 l_v40 u_v40 hc41 => ⟨_, rfl, ?_⟩))
              show mm_W d mmX11_later 129 [some (.ref 0), some (.int (Int32.ofInt a1)), some (.int (Int32.ofInt a2)), some (.int (Int32.ofInt v33)), some (.int (Int32.ofInt v15)), some (.int (Int32.ofInt v13)), some (.int (Int32.ofInt v14)), some (.int (Int32.ofInt v15)), some (.ref u25)] [.int (Int32.ofInt v40)] (mz_mk g29 x) Q
              replace hE := zf_t1 hE hc41
              refine mm_g 3 (pc1 := 134) (lo1 := [some (.ref 0), some (.int (Int32.ofInt a1)), some (.int (Int32.ofInt a2)), some (.int (Int32.ofInt v33)), some (.int (Int32.ofInt v15)), some (.int (Int32.ofInt v40)), some (.int (Int32.ofInt v14)), some (.int (Int32.ofInt v15)), some (.ref u25)]) (st1 := [.ref 0, .int (Int32.ofInt v14)]) (H1 := mz_mk g29 x) rfl ?_
              refine mz_fgR (v := 122) rfl fd_11_65 (by decide) (sc_0 _) (rf_0_10 _ _ _) ?_
              refine mz_gI rfl fd_11_237 (by decide) (sc_122 _) hIg29 bd_122_3 (fun v42 e_v42 l_v42 u_v42 => ?_)
              replace hE := zf_tr hE (zf_le e_v42)
              refine mm_g 1 (pc1 := 142) (lo1 := [some (.ref 0), some (.int (Int32.ofInt a1)), some (.int (Int32.ofInt a2)), some (.int (Int32.ofInt v33)), some (.int (Int32.ofInt v15)), some (.int (Int32.ofInt v40)), some (.int (Int32.ofInt v14)), some (.int (Int32.ofInt v15)), some (.ref u25)]) (st1 := [.ref u25, .int (Int32.ofInt v42), .int (Int32.ofInt v14)]) (H1 := mz_mk g29 x) rfl ?_
              refine mz_gI rfl fd_11_237 (by decide) (kc_trunk k_u25 _) hIg29 (kb_trunk_3 k_u25) (fun v43 e_v43 l_v43 u_v43 => ?_)
              replace hE := zf_tr hE (zf_le e_v43)
              refine mz_isub_w rfl (fun v44 e_v44 hwv44 => ?_)
              have l_v44 := hwv44.1
              have u_v44 := hwv44.2
              replace hE := zf_tr hE (zf_le e_v44.symm)
              refine mz_iadd_w rfl (fun v45 e_v45 hwv45 => ?_)
              have l_v45 := hwv45.1
              have u_v45 := hwv45.2
              replace hE := zf_tr hE (zf_le e_v45.symm)
              refine mm_g 1 (pc1 := 149) (lo1 := [some (.ref 0), some (.int (Int32.ofInt a1)), some (.int (Int32.ofInt a2)), some (.int (Int32.ofInt v33)), some (.int (Int32.ofInt v15)), some (.int (Int32.ofInt v40)), some (.int (Int32.ofInt v45)), some (.int (Int32.ofInt v15)), some (.ref u25)]) (st1 := []) (H1 := mz_mk g29 x) rfl ?_
              refine mz_iincR (v := v15) (lo2 := [some (.ref 0), some (.int (Int32.ofInt a1)), some (.int (Int32.ofInt a2)), some (.int (Int32.ofInt v33)), some (.int (Int32.ofInt v15)), some (.int (Int32.ofInt v40)), some (.int (Int32.ofInt v45)), some (.int (Int32.ofInt (v15 + 1))), some (.ref u25)]) rfl rfl rfl (Nat.le_of_ble_eq_true rfl) rfl ?_
              refine mz_gt (tgt := 38) rfl rfl ?_
              exact ih18 ((6 - (v15 + 1)).toNat) (by omega) v33 v15 v40 v45 (v15 + 1) (some (.ref u25)) g29 rfl (by omega) (by omega) (by omega) (by omega) (by omega) (by omega) (by omega) (by omega) (by omega) (by omega) (mz_nl_r _) hIg29 (fun k j hk => ((hfg29 k j (fun h => hk (Or.elim h (fun h => (Or.inl h)) (fun h => (Or.elim h (fun h => (Or.inr (Or.inl h))) (fun h => (Or.inr (Or.inr h)))))))).trans (hfg17 k j (fun h => hk (Or.elim h (fun h => (Or.inl h)) (fun h => (Or.elim h (fun h => (Or.inr (Or.inl h))) (fun h => (Or.inr (Or.inr h)))))))))) ⟨fj21, Nat.lt_of_lt_of_le (show ((6 - (v15 + 1)).toNat) < n19 from (by omega)) fn22, hE⟩
          · skip
            replace hE := zf_in hE c85_32
            refine mm_g 2 (pc1 := 91) (lo1 := [some (.ref 0), some (.int (Int32.ofInt a1)), some (.int (Int32.ofInt a2)), some (.int (Int32.ofInt v11)), some (.int (Int32.ofInt v12)), some (.int (Int32.ofInt v13)), some (.int (Int32.ofInt v14)), some (.int (Int32.ofInt v15)), some (.ref u25)]) (st1 := [.int (Int32.ofInt v15), .int (Int32.ofInt 1), .int (Int32.ofInt v11)]) (H1 := mz_mk g29 x) rfl ?_
            refine mz_ishl rfl (fun v46 e_v46 hwv46 => ?_)
            have b_v46 : 1 ≤ v46 ∧ v46 ≤ 32 := by rw [e_v46]; exact mz_shl_b (lx := 1) (hx := 1) (k := 5) (by decide) (by decide) (by omega) (by omega) (by omega) (by omega)
            have l_v46 := b_v46.1
            have u_v46 := b_v46.2
            replace hE := zf_tr hE (zf_le e_v46.symm)
            refine mz_gt (tgt := 96) rfl rfl ?_
            refine mz_ior rfl (fun v47 e_v47 hwv47 => ?_)
            have b_v47 : 0 ≤ v47 ∧ v47 ≤ 63 := by rw [e_v47]; exact mz_or_lt (n := 6) (by decide) (by omega) (by omega) (by omega) (by omega)
            have l_v47 := b_v47.1
            have u_v47 := b_v47.2
            replace hE := zf_tr hE (zf_le e_v47.symm)
            refine mm_g 2 (pc1 := 99) (lo1 := [some (.ref 0), some (.int (Int32.ofInt a1)), some (.int (Int32.ofInt a2)), some (.int (Int32.ofInt v47)), some (.int (Int32.ofInt v12)), some (.int (Int32.ofInt v13)), some (.int (Int32.ofInt v14)), some (.int (Int32.ofInt v15)), some (.ref u25)]) (st1 := [.ref 0]) (H1 := mz_mk g29 x) rfl ?_
            refine mz_fgR (v := x.1) rfl fd_11_16 (by decide) (sc_0 _) rfl ?_
            refine mm_g 1 (pc1 := 103) (lo1 := [some (.ref 0), some (.int (Int32.ofInt a1)), some (.int (Int32.ofInt a2)), some (.int (Int32.ofInt v47)), some (.int (Int32.ofInt v12)), some (.int (Int32.ofInt v13)), some (.int (Int32.ofInt v14)), some (.int (Int32.ofInt v15)), some (.ref u25)]) (st1 := [.ref 0, .ref x.1]) (H1 := mz_mk g29 x) rfl ?_
            refine mz_fgR (v := 122) rfl fd_11_65 (by decide) (sc_0 _) (rf_0_10 _ _ _) ?_
            refine mz_cv rfl mt_11_244 (by decide) (kc_load (kx_1 hx) _) rfl (Nat.le_of_ble_eq_true rfl) (by omega) (f_X1_blendSize (by omega) hx hIg29 (kx_1 hx) kp_trunk_122 (fun v48 l_v48 u_v48 hc49 => ⟨_, rfl, ?_⟩))
            show mm_W d mmX11_later 109 [some (.ref 0), some (.int (Int32.ofInt a1)), some (.int (Int32.ofInt a2)), some (.int (Int32.ofInt v47)), some (.int (Int32.ofInt v12)), some (.int (Int32.ofInt v13)), some (.int (Int32.ofInt v14)), some (.int (Int32.ofInt v15)), some (.ref u25)] [.int (Int32.ofInt v48)] (mz_mk g29 x) Q
            replace hE := zf_t1 hE hc49
            refine mm_g 1 (pc1 := 111) (lo1 := [some (.ref 0), some (.int (Int32.ofInt a1)), some (.int (Int32.ofInt a2)), some (.int (Int32.ofInt v47)), some (.int (Int32.ofInt v12)), some (.int (Int32.ofInt v13)), some (.int (Int32.ofInt v14)), some (.int (Int32.ofInt v15)), some (.ref u25)]) (st1 := [.int (Int32.ofInt v13), .int (Int32.ofInt v48)]) (H1 := mz_mk g29 x) rfl ?_
            refine mz_ic_le (tgt := 131) rfl rfl (mz_rg l_v48 u_v48) (mz_rg l_v13 u_v13) (fun c111_49 => ?_) (fun c111_49 => ?_)
            · skip
              replace hE := zf_nl hE c111_49
              refine mm_g 2 (pc1 := 134) (lo1 := [some (.ref 0), some (.int (Int32.ofInt a1)), some (.int (Int32.ofInt a2)), some (.int (Int32.ofInt v47)), some (.int (Int32.ofInt v12)), some (.int (Int32.ofInt v13)), some (.int (Int32.ofInt v14)), some (.int (Int32.ofInt v15)), some (.ref u25)]) (st1 := [.ref 0, .int (Int32.ofInt v14)]) (H1 := mz_mk g29 x) rfl ?_
              refine mz_fgR (v := 122) rfl fd_11_65 (by decide) (sc_0 _) (rf_0_10 _ _ _) ?_
              refine mz_gI rfl fd_11_237 (by decide) (sc_122 _) hIg29 bd_122_3 (fun v50 e_v50 l_v50 u_v50 => ?_)
              replace hE := zf_tr hE (zf_le e_v50)
              refine mm_g 1 (pc1 := 142) (lo1 := [some (.ref 0), some (.int (Int32.ofInt a1)), some (.int (Int32.ofInt a2)), some (.int (Int32.ofInt v47)), some (.int (Int32.ofInt v12)), some (.int (Int32.ofInt v13)), some (.int (Int32.ofInt v14)), some (.int (Int32.ofInt v15)), some (.ref u25)]) (st1 := [.ref u25, .int (Int32.ofInt v50), .int (Int32.ofInt v14)]) (H1 := mz_mk g29 x) rfl ?_
              refine mz_gI rfl fd_11_237 (by decide) (kc_trunk k_u25 _) hIg29 (kb_trunk_3 k_u25) (fun v51 e_v51 l_v51 u_v51 => ?_)
              replace hE := zf_tr hE (zf_le e_v51)
              refine mz_isub_w rfl (fun v52 e_v52 hwv52 => ?_)
              have l_v52 := hwv52.1
              have u_v52 := hwv52.2
              replace hE := zf_tr hE (zf_le e_v52.symm)
              refine mz_iadd_w rfl (fun v53 e_v53 hwv53 => ?_)
              have l_v53 := hwv53.1
              have u_v53 := hwv53.2
              replace hE := zf_tr hE (zf_le e_v53.symm)
              refine mm_g 1 (pc1 := 149) (lo1 := [some (.ref 0), some (.int (Int32.ofInt a1)), some (.int (Int32.ofInt a2)), some (.int (Int32.ofInt v47)), some (.int (Int32.ofInt v12)), some (.int (Int32.ofInt v13)), some (.int (Int32.ofInt v53)), some (.int (Int32.ofInt v15)), some (.ref u25)]) (st1 := []) (H1 := mz_mk g29 x) rfl ?_
              refine mz_iincR (v := v15) (lo2 := [some (.ref 0), some (.int (Int32.ofInt a1)), some (.int (Int32.ofInt a2)), some (.int (Int32.ofInt v47)), some (.int (Int32.ofInt v12)), some (.int (Int32.ofInt v13)), some (.int (Int32.ofInt v53)), some (.int (Int32.ofInt (v15 + 1))), some (.ref u25)]) rfl rfl rfl (Nat.le_of_ble_eq_true rfl) rfl ?_
              refine mz_gt (tgt := 38) rfl rfl ?_
              exact ih18 ((6 - (v15 + 1)).toNat) (by omega) v47 v12 v13 v53 (v15 + 1) (some (.ref u25)) g29 rfl (by omega) (by omega) (by omega) (by omega) (by omega) (by omega) (by omega) (by omega) (by omega) (by omega) (mz_nl_r _) hIg29 (fun k j hk => ((hfg29 k j (fun h => hk (Or.elim h (fun h => (Or.inl h)) (fun h => (Or.elim h (fun h => (Or.inr (Or.inl h))) (fun h => (Or.inr (Or.inr h)))))))).trans (hfg17 k j (fun h => hk (Or.elim h (fun h => (Or.inl h)) (fun h => (Or.elim h (fun h => (Or.inr (Or.inl h))) (fun h => (Or.inr (Or.inr h)))))))))) ⟨fj21, Nat.lt_of_lt_of_le (show ((6 - (v15 + 1)).toNat) < n19 from (by omega)) fn22, hE⟩
            · skip
              replace hE := zf_ip hE c111_49
              refine mm_g 3 (pc1 := 119) (lo1 := [some (.ref 0), some (.int (Int32.ofInt a1)), some (.int (Int32.ofInt a2)), some (.int (Int32.ofInt v47)), some (.int (Int32.ofInt v15)), some (.int (Int32.ofInt v13)), some (.int (Int32.ofInt v14)), some (.int (Int32.ofInt v15)), some (.ref u25)]) (st1 := [.ref 0]) (H1 := mz_mk g29 x) rfl ?_
              refine mz_fgR (v := x.1) rfl fd_11_16 (by decide) (sc_0 _) rfl ?_
              refine mm_g 1 (pc1 := 123) (lo1 := [some (.ref 0), some (.int (Int32.ofInt a1)), some (.int (Int32.ofInt a2)), some (.int (Int32.ofInt v47)), some (.int (Int32.ofInt v15)), some (.int (Int32.ofInt v13)), some (.int (Int32.ofInt v14)), some (.int (Int32.ofInt v15)), some (.ref u25)]) (st1 := [.ref 0, .ref x.1]) (H1 := mz_mk g29 x) rfl ?_
              refine mz_fgR (v := 122) rfl fd_11_65 (by decide) (sc_0 _) (rf_0_10 _ _ _) ?_
              refine mz_cv rfl mt_11_244 (by decide) (kc_load (kx_1 hx) _) rfl (Nat.le_of_ble_eq_true rfl) (by omega) (f_X1_blendSize (by omega) hx hIg29 (kx_1 hx) kp_trunk_122 (fun v54 l_v54 u_v54 hc55 => ⟨_, rfl, ?_⟩))
              show mm_W d mmX11_later 129 [some (.ref 0), some (.int (Int32.ofInt a1)), some (.int (Int32.ofInt a2)), some (.int (Int32.ofInt v47)), some (.int (Int32.ofInt v15)), some (.int (Int32.ofInt v13)), some (.int (Int32.ofInt v14)), some (.int (Int32.ofInt v15)), some (.ref u25)] [.int (Int32.ofInt v54)] (mz_mk g29 x) Q
              replace hE := zf_t1 hE hc55
              refine mm_g 3 (pc1 := 134) (lo1 := [some (.ref 0), some (.int (Int32.ofInt a1)), some (.int (Int32.ofInt a2)), some (.int (Int32.ofInt v47)), some (.int (Int32.ofInt v15)), some (.int (Int32.ofInt v54)), some (.int (Int32.ofInt v14)), some (.int (Int32.ofInt v15)), some (.ref u25)]) (st1 := [.ref 0, .int (Int32.ofInt v14)]) (H1 := mz_mk g29 x) rfl ?_
              refine mz_fgR (v := 122) rfl fd_11_65 (by decide) (sc_0 _) (rf_0_10 _ _ _) ?_
              refine mz_gI rfl fd_11_237 (by decide) (sc_122 _) hIg29 bd_122_3 (fun v56 e_v56 l_v56 u_v56 => ?_)
              replace hE := zf_tr hE (zf_le e_v56)
              refine mm_g 1 (pc1 := 142) (lo1 := [some (.ref 0), some (.int (Int32.ofInt a1)), some (.int (Int32.ofInt a2)), some (.int (Int32.ofInt v47)), some (.int (Int32.ofInt v15)), some (.int (Int32.ofInt v54)), some (.int (Int32.ofInt v14)), some (.int (Int32.ofInt v15)), some (.ref u25)]) (st1 := [.ref u25, .int (Int32.ofInt v56), .int (Int32.ofInt v14)]) (H1 := mz_mk g29 x) rfl ?_
              refine mz_gI rfl fd_11_237 (by decide) (kc_trunk k_u25 _) hIg29 (kb_trunk_3 k_u25) (fun v57 e_v57 l_v57 u_v57 => ?_)
              replace hE := zf_tr hE (zf_le e_v57)
              refine mz_isub_w rfl (fun v58 e_v58 hwv58 => ?_)
              have l_v58 := hwv58.1
              have u_v58 := hwv58.2
              replace hE := zf_tr hE (zf_le e_v58.symm)
              refine mz_iadd_w rfl (fun v59 e_v59 hwv59 => ?_)
              have l_v59 := hwv59.1
              have u_v59 := hwv59.2
              replace hE := zf_tr hE (zf_le e_v59.symm)
              refine mm_g 1 (pc1 := 149) (lo1 := [some (.ref 0), some (.int (Int32.ofInt a1)), some (.int (Int32.ofInt a2)), some (.int (Int32.ofInt v47)), some (.int (Int32.ofInt v15)), some (.int (Int32.ofInt v54)), some (.int (Int32.ofInt v59)), some (.int (Int32.ofInt v15)), some (.ref u25)]) (st1 := []) (H1 := mz_mk g29 x) rfl ?_
              refine mz_iincR (v := v15) (lo2 := [some (.ref 0), some (.int (Int32.ofInt a1)), some (.int (Int32.ofInt a2)), some (.int (Int32.ofInt v47)), some (.int (Int32.ofInt v15)), some (.int (Int32.ofInt v54)), some (.int (Int32.ofInt v59)), some (.int (Int32.ofInt (v15 + 1))), some (.ref u25)]) rfl rfl rfl (Nat.le_of_ble_eq_true rfl) rfl ?_
              refine mz_gt (tgt := 38) rfl rfl ?_
              exact ih18 ((6 - (v15 + 1)).toNat) (by omega) v47 v15 v54 v59 (v15 + 1) (some (.ref u25)) g29 rfl (by omega) (by omega) (by omega) (by omega) (by omega) (by omega) (by omega) (by omega) (by omega) (by omega) (mz_nl_r _) hIg29 (fun k j hk => ((hfg29 k j (fun h => hk (Or.elim h (fun h => (Or.inl h)) (fun h => (Or.elim h (fun h => (Or.inr (Or.inl h))) (fun h => (Or.inr (Or.inr h)))))))).trans (hfg17 k j (fun h => hk (Or.elim h (fun h => (Or.inl h)) (fun h => (Or.elim h (fun h => (Or.inr (Or.inl h))) (fun h => (Or.inr (Or.inr h)))))))))) ⟨fj21, Nat.lt_of_lt_of_le (show ((6 - (v15 + 1)).toNat) < n19 from (by omega)) fn22, hE⟩
      exact L20 _ 0 (-1) 0 0 0 none g rfl (by decide) (by decide) (by decide) (by decide) (by decide) (by decide) (by decide) (by decide) (by decide) (by decide) mz_nl_n hI (fun _ _ _ => rfl) ⟨3000000000, by omega, hE⟩
def fl_X11_full_28 (x : mm_X) (a1 : Int) : Nat → Nat → Prop := fun k j => k = 122 ∨ k = ((x.1 + 36) + 2) ∨ k = ((x.1 + 36) + 3)
def fw_X11_full (x : mm_X) (a1 : Int) : Nat → Nat → Prop := fun k j => k = 122 ∨ k = ((x.1 + 36) + 2) ∨ k = ((x.1 + 36) + 3)
theorem f_X11_full {d : Nat} (hd : 15 ≤ d) {x : mm_X} (hx : mk_x x) {g : mz_G} (hI : mz_inv g) {a1 : Int} (l_a1 : (-2147483648) ≤ a1) (u_a1 : a1 ≤ 2147483647) {Q : (Option Value ⊕ Nat) → mm_H → Prop} (hQ : ∀ (r : Int) (g1 : mz_G), mz_inv g1 → mz_fr (fw_X11_full x a1) g g1 → (-1) ≤ r → r ≤ 60 → zf_E (zF_X11_full x a1 g) ((0, r, g1)) → Q (.inl (some (.int (Int32.ofInt r)))) (mz_mk g1 x)) (hX0 : (zf_E (zF_X11_full x a1 g) ((1, 0, g))) → Q (.inr 0) (mz_mk g (mz_tx x))) : mm_C d 143 [.ref 0, .int (Int32.ofInt a1)] (mz_mk g x) Q := by
  have kx := kn_x hx
  refine ⟨mmX11_full, [some (.ref 0), some (.int (Int32.ofInt a1)), none], rfl, rfl, ?_⟩
  have hE : zf_E (zF_X11_full x a1 g) (zF_X11_full x a1 g) := zf_rf
  refine mm_g 2 (pc1 := 2) (lo1 := [some (.ref 0), some (.int (Int32.ofInt a1)), none]) (st1 := [.int (Int32.ofInt a1), .ref 0]) (H1 := mz_mk g x) rfl ?_
  refine mz_cv rfl mt_11_231 (by decide) (sc_0 _) rfl (Nat.le_of_ble_eq_true rfl) (by omega) (f_X11_isTrunk (by omega) hx hI l_a1 u_a1 (fun v1 l_v1 u_v1 hc2 => ⟨_, rfl, ?_⟩))
  show mm_W d mmX11_full 5 [some (.ref 0), some (.int (Int32.ofInt a1)), none] [.int (Int32.ofInt v1)] (mz_mk g x) Q
  replace hE := zf_t1 hE hc2
  refine mz_csx rfl mt_11_183 rfl (Nat.le_of_ble_eq_true rfl) (by omega) rfl nh_X11_mustBe (f_X11_mustBe (by omega) hx hI l_v1 u_v1 (fun hp3 hc4 => ?_) (fun hc => hX0 (zf_x2 hE hc (by decide))))
  show mm_W d mmX11_full 8 [some (.ref 0), some (.int (Int32.ofInt a1)), none] [] (mz_mk g x) Q
  replace hE := zf_x1 hE hc4
  refine mm_g 1 (pc1 := 9) (lo1 := [some (.ref 0), some (.int (Int32.ofInt a1)), none]) (st1 := [.ref 0]) (H1 := mz_mk g x) rfl ?_
  refine mz_fgR (v := 122) rfl fd_11_65 (by decide) (sc_0 _) (rf_0_10 _ _ _) ?_
  refine mm_g 1 (pc1 := 13) (lo1 := [some (.ref 0), some (.int (Int32.ofInt a1)), none]) (st1 := [.ref 0, .ref 122]) (H1 := mz_mk g x) rfl ?_
  refine mz_fgR (v := 86) rfl fd_11_37 (by decide) (sc_0 _) (rf_0_5 _ _ _) ?_
  refine mz_fgR (v := 87) rfl fd_11_158 (by decide) (sc_86 _) (rf_86_0 _ _ _) ?_
  refine mm_g 1 (pc1 := 20) (lo1 := [some (.ref 0), some (.int (Int32.ofInt a1)), none]) (st1 := [.int (Int32.ofInt a1), .ref 87, .ref 122]) (H1 := mz_mk g x) rfl ?_
  refine mz_cv rfl mt_11_192 (by decide) (sc_87 _) rfl (Nat.le_of_ble_eq_true rfl) (by omega) (f_X9_get (by omega) hx hI kp_tks_87 l_a1 u_a1 (fun u5 k_u5 hp6 hc7 => ⟨_, rfl, ?_⟩))
  show mm_W d mmX11_full 23 [some (.ref 0), some (.int (Int32.ofInt a1)), none] [.ref u5, .ref 122] (mz_mk g x) Q
  replace hE := zf_t1 hE hc7
  refine mz_cv rfl mt_11_297 (by decide) (sc_122 _) rfl (Nat.le_of_ble_eq_true rfl) (by omega) (f_X8_becomeAs (by omega) hx hI kp_trunk_122 k_u5 (fun g8 hIg8 hfg8 hc9 => ⟨_, rfl, ?_⟩))
  show mm_W d mmX11_full 26 [some (.ref 0), some (.int (Int32.ofInt a1)), none] [] (mz_mk g8 x) Q
  replace hE := zf_t1 hE hc9
  refine mm_g 2 (pc1 := 28) (lo1 := [some (.ref 0), some (.int (Int32.ofInt a1)), some (.int (Int32.ofInt 0))]) (st1 := []) (H1 := mz_mk g8 x) rfl ?_
  have L14 : ∀ n13 : Nat, ∀ (v10 : Int) (g11 : mz_G), (61 - v10).toNat = n13 → 0 ≤ v10 → v10 ≤ 61 → mz_inv g11 → mz_fr (fl_X11_full_28 x a1) g8 g11 → (∃ fk : Nat, (61 - v10).toNat < fk ∧ zf_E (zF_X11_full x a1 g) (zL_X11_full_28 x a1 fk v10 g11)) → mm_W d mmX11_full 28 [some (.ref 0), some (.int (Int32.ofInt a1)), some (.int (Int32.ofInt v10))] [] (mz_mk g11 x) Q := by
    intro n13
    induction n13 using Nat.strongRecOn with
    | ind n13 ih12 =>
    intro v10 g11 hmn13 l_v10 u_v10 hIg11 hfg11 hF
    obtain ⟨fk, fl, hE⟩ := hF
    obtain ⟨fj15, rfl⟩ : ∃ fj, fk = fj + 1 := ⟨fk - 1, by omega⟩
    have fn16 : n13 ≤ fj15 := by omega
    replace hE := zf_tr hE zL_X11_full_28_s
    refine mm_g 1 (pc1 := 29) (lo1 := [some (.ref 0), some (.int (Int32.ofInt a1)), some (.int (Int32.ofInt v10))]) (st1 := [.int (Int32.ofInt v10)]) (H1 := mz_mk g11 x) rfl ?_
    refine mz_bip rfl bip_60 ?_
    refine mz_ic_gt (tgt := 65) rfl rfl (mz_rg l_v10 u_v10) ⟨by decide, by decide⟩ (fun c31_16 => ?_) (fun c31_16 => ?_)
    · skip
      replace hE := zf_ip hE c31_16
      refine mm_g 1 (pc1 := 66) (lo1 := [some (.ref 0), some (.int (Int32.ofInt a1)), some (.int (Int32.ofInt v10))]) (st1 := [.int (Int32.ofInt (-1))]) (H1 := mz_mk g11 x) rfl ?_
      exact mm_rt rfl rfl (hQ _ _ hIg11 (fun k j hk => ((hfg11 k j (fun h => hk (Or.elim h (fun h => (Or.inl h)) (fun h => (Or.elim h (fun h => (Or.inr (Or.inl h))) (fun h => (Or.inr (Or.inr h)))))))).trans (hfg8 k j (fun h => hk (Or.inl h))))) (by decide) (by decide) hE)
    · skip
      replace hE := zf_nl hE c31_16
      refine mm_g 1 (pc1 := 35) (lo1 := [some (.ref 0), some (.int (Int32.ofInt a1)), some (.int (Int32.ofInt v10))]) (st1 := [.ref 0]) (H1 := mz_mk g11 x) rfl ?_
      refine mz_fgR (v := x.1) rfl fd_11_16 (by decide) (sc_0 _) rfl ?_
      refine mm_g 1 (pc1 := 39) (lo1 := [some (.ref 0), some (.int (Int32.ofInt a1)), some (.int (Int32.ofInt v10))]) (st1 := [.ref 0, .ref x.1]) (H1 := mz_mk g11 x) rfl ?_
      refine mz_fgR (v := 122) rfl fd_11_65 (by decide) (sc_0 _) (rf_0_10 _ _ _) ?_
      refine mz_cv rfl mt_11_259 (by decide) (kc_load (kx_1 hx) _) rfl (Nat.le_of_ble_eq_true rfl) (by omega) (f_X1_isFull (by omega) hx hIg11 (kx_1 hx) kp_trunk_122 (fun v17 l_v17 u_v17 hc18 => ⟨_, rfl, ?_⟩))
      show mm_W d mmX11_full 45 [some (.ref 0), some (.int (Int32.ofInt a1)), some (.int (Int32.ofInt v10))] [.int (Int32.ofInt v17)] (mz_mk g11 x) Q
      replace hE := zf_t1 hE hc18
      refine mz_if_eq (tgt := 50) rfl rfl (mz_rg l_v17 u_v17) (fun c45_18 => ?_) (fun c45_18 => ?_)
      · skip
        replace hE := zf_ip hE c45_18
        refine mm_g 2 (pc1 := 52) (lo1 := [some (.ref 0), some (.int (Int32.ofInt a1)), some (.int (Int32.ofInt v10))]) (st1 := [.ref 0, .ref 0]) (H1 := mz_mk g11 x) rfl ?_
        refine mz_fgR (v := 122) rfl fd_11_65 (by decide) (sc_0 _) (rf_0_10 _ _ _) ?_
        refine mm_g 1 (pc1 := 56) (lo1 := [some (.ref 0), some (.int (Int32.ofInt a1)), some (.int (Int32.ofInt v10))]) (st1 := [.int (Int32.ofInt v10), .ref 122, .ref 0]) (H1 := mz_mk g11 x) rfl ?_
        refine mz_cv rfl mt_11_301 (by decide) (sc_0 _) rfl (Nat.le_of_ble_eq_true rfl) (by omega) (f_X11_growBy (by omega) hx hIg11 kp_trunk_122 (by omega) (by omega) (fun g19 hIg19 hfg19 hc20 => ⟨_, rfl, ?_⟩))
        show mm_W d mmX11_full 59 [some (.ref 0), some (.int (Int32.ofInt a1)), some (.int (Int32.ofInt v10))] [] (mz_mk g19 x) Q
        replace hE := zf_t1 hE hc20
        refine mz_iincR (v := v10) (lo2 := [some (.ref 0), some (.int (Int32.ofInt a1)), some (.int (Int32.ofInt (v10 + 1)))]) rfl rfl rfl (Nat.le_of_ble_eq_true rfl) rfl ?_
        refine mz_gt (tgt := 28) rfl rfl ?_
        exact ih12 ((61 - (v10 + 1)).toNat) (by omega) (v10 + 1) g19 rfl (by omega) (by omega) hIg19 (fun k j hk => ((hfg19 k j (fun h => hk (Or.elim h (fun h => (Or.inl h)) (fun h => (Or.elim h (fun h => (Or.inr (Or.inl h))) (fun h => (Or.inr (Or.inr h)))))))).trans (hfg11 k j (fun h => hk (Or.elim h (fun h => (Or.inl h)) (fun h => (Or.elim h (fun h => (Or.inr (Or.inl h))) (fun h => (Or.inr (Or.inr h)))))))))) ⟨fj15, Nat.lt_of_lt_of_le (show ((61 - (v10 + 1)).toNat) < n13 from (by omega)) fn16, hE⟩
      · skip
        replace hE := zf_in hE c45_18
        refine mm_g 1 (pc1 := 49) (lo1 := [some (.ref 0), some (.int (Int32.ofInt a1)), some (.int (Int32.ofInt v10))]) (st1 := [.int (Int32.ofInt v10)]) (H1 := mz_mk g11 x) rfl ?_
        exact mm_rt rfl rfl (hQ _ _ hIg11 (fun k j hk => ((hfg11 k j (fun h => hk (Or.elim h (fun h => (Or.inl h)) (fun h => (Or.elim h (fun h => (Or.inr (Or.inl h))) (fun h => (Or.inr (Or.inr h)))))))).trans (hfg8 k j (fun h => hk (Or.inl h))))) (by omega) (by omega) hE)
  exact L14 _ 0 g8 rfl (by decide) (by decide) hIg8 (fun _ _ _ => rfl) ⟨3000000000, by omega, hE⟩
def fl_X11_read_44 (x : mm_X) (a1 : Int) (a2 : Int) : Nat → Nat → Prop := fun k j => k = 133 ∨ k = 134 ∨ k = 122 ∨ k = ((x.1 + 36) + 2) ∨ k = ((x.1 + 36) + 3)
def fw_X11_read (x : mm_X) (a1 : Int) (a2 : Int) : Nat → Nat → Prop := fun k j => k = 122 ∨ k = 133 ∨ k = 134 ∨ k = ((x.1 + 36) + 2) ∨ k = ((x.1 + 36) + 3)
theorem f_X11_read {d : Nat} (hd : 15 ≤ d) {x : mm_X} (hx : mk_x x) {g : mz_G} (hI : mz_inv g) {a1 : Int} (l_a1 : (-2147483648) ≤ a1) (u_a1 : a1 ≤ 2147483647) {a2 : Int} (l_a2 : (-2147483648) ≤ a2) (u_a2 : a2 ≤ 2147483647) {Q : (Option Value ⊕ Nat) → mm_H → Prop} (hQ : ∀ (r : Int) (g1 : mz_G), mz_inv g1 → mz_fr (fw_X11_read x a1 a2) g g1 → (-1) ≤ r → r ≤ 60 → zf_E (zF_X11_read x a1 a2 g) ((0, r, g1)) → Q (.inl (some (.int (Int32.ofInt r)))) (mz_mk g1 x)) (hX0 : (zf_E (zF_X11_read x a1 a2 g) ((1, 0, g))) → Q (.inr 0) (mz_mk g (mz_tx x))) : mm_C d 144 [.ref 0, .int (Int32.ofInt a1), .int (Int32.ofInt a2)] (mz_mk g x) Q := by
  have kx := kn_x hx
  refine ⟨mmX11_read, [some (.ref 0), some (.int (Int32.ofInt a1)), some (.int (Int32.ofInt a2)), none], rfl, rfl, ?_⟩
  have hE : zf_E (zF_X11_read x a1 a2 g) (zF_X11_read x a1 a2 g) := zf_rf
  refine mm_g 2 (pc1 := 2) (lo1 := [some (.ref 0), some (.int (Int32.ofInt a1)), some (.int (Int32.ofInt a2)), none]) (st1 := [.int (Int32.ofInt a1), .ref 0]) (H1 := mz_mk g x) rfl ?_
  refine mz_cv rfl mt_11_231 (by decide) (sc_0 _) rfl (Nat.le_of_ble_eq_true rfl) (by omega) (f_X11_isTrunk (by omega) hx hI l_a1 u_a1 (fun v1 l_v1 u_v1 hc2 => ⟨_, rfl, ?_⟩))
  show mm_W d mmX11_read 5 [some (.ref 0), some (.int (Int32.ofInt a1)), some (.int (Int32.ofInt a2)), none] [.int (Int32.ofInt v1)] (mz_mk g x) Q
  replace hE := zf_t1 hE hc2
  refine mz_if_eq (tgt := 20) rfl rfl (mz_rg l_v1 u_v1) (fun c5_2 => ?_) (fun c5_2 => ?_)
  · skip
    replace hE := zf_ip hE c5_2
    refine mm_g 1 (pc1 := 21) (lo1 := [some (.ref 0), some (.int (Int32.ofInt a1)), some (.int (Int32.ofInt a2)), none]) (st1 := [.int (Int32.ofInt 0)]) (H1 := mz_mk g x) rfl ?_
    (try unfold zJ_X11_read_20 at hE)
    (try unfold zJ_X11_read_21 at hE)
    (try unfold zJ_X11_read_20 at hE)
    (try unfold zJ_X11_read_21 at hE)
    refine mz_csx rfl mt_11_183 rfl (Nat.le_of_ble_eq_true rfl) (by omega) rfl nh_X11_mustBe (f_X11_mustBe (by omega) hx hI (by decide) (by decide) (fun hp3 hc4 => ?_) (fun hc => hX0 (zf_x2 hE hc (by decide))))
    show mm_W d mmX11_read 24 [some (.ref 0), some (.int (Int32.ofInt a1)), some (.int (Int32.ofInt a2)), none] [] (mz_mk g x) Q
    replace hE := zf_x1 hE hc4
    exfalso; omega
  · skip
    replace hE := zf_in hE c5_2
    refine mm_g 2 (pc1 := 10) (lo1 := [some (.ref 0), some (.int (Int32.ofInt a1)), some (.int (Int32.ofInt a2)), none]) (st1 := [.int (Int32.ofInt a2), .ref 0]) (H1 := mz_mk g x) rfl ?_
    refine mz_cv rfl mt_11_199 (by decide) (sc_0 _) rfl (Nat.le_of_ble_eq_true rfl) (by omega) (f_X11_isWord (by omega) hx hI l_a2 u_a2 (fun v5 l_v5 u_v5 hc6 => ⟨_, rfl, ?_⟩))
    show mm_W d mmX11_read 13 [some (.ref 0), some (.int (Int32.ofInt a1)), some (.int (Int32.ofInt a2)), none] [.int (Int32.ofInt v5)] (mz_mk g x) Q
    replace hE := zf_t1 hE hc6
    refine mz_if_eq (tgt := 20) rfl rfl (mz_rg l_v5 u_v5) (fun c13_6 => ?_) (fun c13_6 => ?_)
    · skip
      replace hE := zf_ip hE c13_6
      refine mm_g 1 (pc1 := 21) (lo1 := [some (.ref 0), some (.int (Int32.ofInt a1)), some (.int (Int32.ofInt a2)), none]) (st1 := [.int (Int32.ofInt 0)]) (H1 := mz_mk g x) rfl ?_
      (try unfold zJ_X11_read_20 at hE)
      (try unfold zJ_X11_read_21 at hE)
      (try unfold zJ_X11_read_20 at hE)
      (try unfold zJ_X11_read_21 at hE)
      refine mz_csx rfl mt_11_183 rfl (Nat.le_of_ble_eq_true rfl) (by omega) rfl nh_X11_mustBe (f_X11_mustBe (by omega) hx hI (by decide) (by decide) (fun hp7 hc8 => ?_) (fun hc => hX0 (zf_x2 hE hc (by decide))))
      show mm_W d mmX11_read 24 [some (.ref 0), some (.int (Int32.ofInt a1)), some (.int (Int32.ofInt a2)), none] [] (mz_mk g x) Q
      replace hE := zf_x1 hE hc8
      exfalso; omega
    · skip
      replace hE := zf_in hE c13_6
      refine mm_g 1 (pc1 := 17) (lo1 := [some (.ref 0), some (.int (Int32.ofInt a1)), some (.int (Int32.ofInt a2)), none]) (st1 := [.int (Int32.ofInt 1)]) (H1 := mz_mk g x) rfl ?_
      refine mz_gt (tgt := 21) rfl rfl ?_
      (try unfold zJ_X11_read_20 at hE)
      (try unfold zJ_X11_read_21 at hE)
      (try unfold zJ_X11_read_20 at hE)
      (try unfold zJ_X11_read_21 at hE)
      refine mz_csx rfl mt_11_183 rfl (Nat.le_of_ble_eq_true rfl) (by omega) rfl nh_X11_mustBe (f_X11_mustBe (by omega) hx hI (by decide) (by decide) (fun hp9 hc10 => ?_) (fun hc => hX0 (zf_x2 hE hc (by decide))))
      show mm_W d mmX11_read 24 [some (.ref 0), some (.int (Int32.ofInt a1)), some (.int (Int32.ofInt a2)), none] [] (mz_mk g x) Q
      replace hE := zf_x1 hE hc10
      refine mm_g 1 (pc1 := 25) (lo1 := [some (.ref 0), some (.int (Int32.ofInt a1)), some (.int (Int32.ofInt a2)), none]) (st1 := [.ref 0]) (H1 := mz_mk g x) rfl ?_
      refine mz_fgR (v := 122) rfl fd_11_65 (by decide) (sc_0 _) (rf_0_10 _ _ _) ?_
      refine mm_g 1 (pc1 := 29) (lo1 := [some (.ref 0), some (.int (Int32.ofInt a1)), some (.int (Int32.ofInt a2)), none]) (st1 := [.ref 0, .ref 122]) (H1 := mz_mk g x) rfl ?_
      refine mz_fgR (v := 86) rfl fd_11_37 (by decide) (sc_0 _) (rf_0_5 _ _ _) ?_
      refine mz_fgR (v := 87) rfl fd_11_158 (by decide) (sc_86 _) (rf_86_0 _ _ _) ?_
      refine mm_g 1 (pc1 := 36) (lo1 := [some (.ref 0), some (.int (Int32.ofInt a1)), some (.int (Int32.ofInt a2)), none]) (st1 := [.int (Int32.ofInt a1), .ref 87, .ref 122]) (H1 := mz_mk g x) rfl ?_
      refine mz_cv rfl mt_11_192 (by decide) (sc_87 _) rfl (Nat.le_of_ble_eq_true rfl) (by omega) (f_X9_get (by omega) hx hI kp_tks_87 l_a1 u_a1 (fun u11 k_u11 hp12 hc13 => ⟨_, rfl, ?_⟩))
      show mm_W d mmX11_read 39 [some (.ref 0), some (.int (Int32.ofInt a1)), some (.int (Int32.ofInt a2)), none] [.ref u11, .ref 122] (mz_mk g x) Q
      replace hE := zf_t1 hE hc13
      refine mz_cv rfl mt_11_297 (by decide) (sc_122 _) rfl (Nat.le_of_ble_eq_true rfl) (by omega) (f_X8_becomeAs (by omega) hx hI kp_trunk_122 k_u11 (fun g14 hIg14 hfg14 hc15 => ⟨_, rfl, ?_⟩))
      show mm_W d mmX11_read 42 [some (.ref 0), some (.int (Int32.ofInt a1)), some (.int (Int32.ofInt a2)), none] [] (mz_mk g14 x) Q
      replace hE := zf_t1 hE hc15
      refine mm_g 2 (pc1 := 44) (lo1 := [some (.ref 0), some (.int (Int32.ofInt a1)), some (.int (Int32.ofInt a2)), some (.int (Int32.ofInt 0))]) (st1 := []) (H1 := mz_mk g14 x) rfl ?_
      have L20 : ∀ n19 : Nat, ∀ (v16 : Int) (g17 : mz_G), (61 - v16).toNat = n19 → 0 ≤ v16 → v16 ≤ 61 → mz_inv g17 → mz_fr (fl_X11_read_44 x a1 a2) g14 g17 → (∃ fk : Nat, (61 - v16).toNat < fk ∧ zf_E (zF_X11_read x a1 a2 g) (zL_X11_read_44 x a1 a2 fk v16 g17)) → mm_W d mmX11_read 44 [some (.ref 0), some (.int (Int32.ofInt a1)), some (.int (Int32.ofInt a2)), some (.int (Int32.ofInt v16))] [] (mz_mk g17 x) Q := by
        intro n19
        induction n19 using Nat.strongRecOn with
        | ind n19 ih18 =>
        intro v16 g17 hmn19 l_v16 u_v16 hIg17 hfg17 hF
        obtain ⟨fk, fl, hE⟩ := hF
        obtain ⟨fj21, rfl⟩ : ∃ fj, fk = fj + 1 := ⟨fk - 1, by omega⟩
        have fn22 : n19 ≤ fj21 := by omega
        replace hE := zf_tr hE zL_X11_read_44_s
        refine mm_g 1 (pc1 := 45) (lo1 := [some (.ref 0), some (.int (Int32.ofInt a1)), some (.int (Int32.ofInt a2)), some (.int (Int32.ofInt v16))]) (st1 := [.int (Int32.ofInt v16)]) (H1 := mz_mk g17 x) rfl ?_
        refine mz_bip rfl bip_60 ?_
        refine mz_ic_gt (tgt := 103) rfl rfl (mz_rg l_v16 u_v16) ⟨by decide, by decide⟩ (fun c47_22 => ?_) (fun c47_22 => ?_)
        · skip
          replace hE := zf_ip hE c47_22
          refine mm_g 1 (pc1 := 104) (lo1 := [some (.ref 0), some (.int (Int32.ofInt a1)), some (.int (Int32.ofInt a2)), some (.int (Int32.ofInt v16))]) (st1 := [.int (Int32.ofInt (-1))]) (H1 := mz_mk g17 x) rfl ?_
          exact mm_rt rfl rfl (hQ _ _ hIg17 (fun k j hk => ((hfg17 k j (fun h => hk (Or.elim h (fun h => (Or.inr (Or.inl h))) (fun h => (Or.elim h (fun h => (Or.inr (Or.inr (Or.inl h)))) (fun h => (Or.elim h (fun h => (Or.inl h)) (fun h => (Or.elim h (fun h => (Or.inr (Or.inr (Or.inr (Or.inl h))))) (fun h => (Or.inr (Or.inr (Or.inr (Or.inr h)))))))))))))).trans (hfg14 k j (fun h => hk (Or.inl h))))) (by decide) (by decide) hE)
        · skip
          replace hE := zf_nl hE c47_22
          refine mm_g 1 (pc1 := 51) (lo1 := [some (.ref 0), some (.int (Int32.ofInt a1)), some (.int (Int32.ofInt a2)), some (.int (Int32.ofInt v16))]) (st1 := [.ref 0]) (H1 := mz_mk g17 x) rfl ?_
          refine mz_fgR (v := x.1) rfl fd_11_16 (by decide) (sc_0 _) rfl ?_
          refine mm_g 1 (pc1 := 55) (lo1 := [some (.ref 0), some (.int (Int32.ofInt a1)), some (.int (Int32.ofInt a2)), some (.int (Int32.ofInt v16))]) (st1 := [.ref 0, .ref x.1]) (H1 := mz_mk g17 x) rfl ?_
          refine mz_fgR (v := 122) rfl fd_11_65 (by decide) (sc_0 _) (rf_0_10 _ _ _) ?_
          refine mm_g 1 (pc1 := 59) (lo1 := [some (.ref 0), some (.int (Int32.ofInt a1)), some (.int (Int32.ofInt a2)), some (.int (Int32.ofInt v16))]) (st1 := [.ref 0, .ref 122, .ref x.1]) (H1 := mz_mk g17 x) rfl ?_
          refine mz_fgR (v := 133) rfl fd_11_84 (by decide) (sc_0 _) (rf_0_13 _ _ _) ?_
          refine mz_cv rfl mt_11_286 (by decide) (kc_load (kx_1 hx) _) rfl (Nat.le_of_ble_eq_true rfl) (by omega) (f_X1_blendInto (by omega) hx hIg17 (kx_1 hx) kp_trunk_122 kp_let_133 (fun g23 hIg23 hfg23 hc24 => ⟨_, rfl, ?_⟩))
          show mm_W d mmX11_read 65 [some (.ref 0), some (.int (Int32.ofInt a1)), some (.int (Int32.ofInt a2)), some (.int (Int32.ofInt v16))] [] (mz_mk g23 x) Q
          replace hE := zf_t1 hE hc24
          refine mm_g 1 (pc1 := 66) (lo1 := [some (.ref 0), some (.int (Int32.ofInt a1)), some (.int (Int32.ofInt a2)), some (.int (Int32.ofInt v16))]) (st1 := [.ref 0]) (H1 := mz_mk g23 x) rfl ?_
          refine mz_fgR (v := 133) rfl fd_11_84 (by decide) (sc_0 _) (rf_0_13 _ _ _) ?_
          refine mm_g 1 (pc1 := 70) (lo1 := [some (.ref 0), some (.int (Int32.ofInt a1)), some (.int (Int32.ofInt a2)), some (.int (Int32.ofInt v16))]) (st1 := [.ref 0, .ref 133]) (H1 := mz_mk g23 x) rfl ?_
          refine mz_fgR (v := x.1) rfl fd_11_16 (by decide) (sc_0 _) rfl ?_
          refine mz_fgR (v := (x.1 + 1)) rfl fd_11_135 (by decide) (kc_load (kx_1 hx) _) (kr_load_0 (kx_1 hx) _ _ _) ?_
          refine mm_g 1 (pc1 := 77) (lo1 := [some (.ref 0), some (.int (Int32.ofInt a1)), some (.int (Int32.ofInt a2)), some (.int (Int32.ofInt v16))]) (st1 := [.int (Int32.ofInt a2), .ref (x.1 + 1), .ref 133]) (H1 := mz_mk g23 x) rfl ?_
          refine mz_cv rfl mt_11_203 (by decide) (kc_words (ks_load_0 (kx_1 hx)) _) rfl (Nat.le_of_ble_eq_true rfl) (by omega) (f_X10_of (by omega) hx hIg23 (ks_load_0 (kx_1 hx)) l_a2 u_a2 (fun u25 k_u25 hp26 hc27 => ⟨_, rfl, ?_⟩))
          show mm_W d mmX11_read 80 [some (.ref 0), some (.int (Int32.ofInt a1)), some (.int (Int32.ofInt a2)), some (.int (Int32.ofInt v16))] [.ref u25, .ref 133] (mz_mk g23 x) Q
          replace hE := zf_t1 hE hc27
          refine mz_cv rfl mt_11_305 (by decide) (sc_133 _) rfl (Nat.le_of_ble_eq_true rfl) (by omega) (f_X0_holds (by omega) hx hIg23 kp_let_133 k_u25 (fun v28 l_v28 u_v28 hc29 => ⟨_, rfl, ?_⟩))
          show mm_W d mmX11_read 83 [some (.ref 0), some (.int (Int32.ofInt a1)), some (.int (Int32.ofInt a2)), some (.int (Int32.ofInt v16))] [.int (Int32.ofInt v28)] (mz_mk g23 x) Q
          replace hE := zf_t1 hE hc29
          refine mz_if_eq (tgt := 88) rfl rfl (mz_rg l_v28 u_v28) (fun c83_29 => ?_) (fun c83_29 => ?_)
          · skip
            replace hE := zf_ip hE c83_29
            refine mm_g 2 (pc1 := 90) (lo1 := [some (.ref 0), some (.int (Int32.ofInt a1)), some (.int (Int32.ofInt a2)), some (.int (Int32.ofInt v16))]) (st1 := [.ref 0, .ref 0]) (H1 := mz_mk g23 x) rfl ?_
            refine mz_fgR (v := 122) rfl fd_11_65 (by decide) (sc_0 _) (rf_0_10 _ _ _) ?_
            refine mm_g 1 (pc1 := 94) (lo1 := [some (.ref 0), some (.int (Int32.ofInt a1)), some (.int (Int32.ofInt a2)), some (.int (Int32.ofInt v16))]) (st1 := [.int (Int32.ofInt v16), .ref 122, .ref 0]) (H1 := mz_mk g23 x) rfl ?_
            refine mz_cv rfl mt_11_301 (by decide) (sc_0 _) rfl (Nat.le_of_ble_eq_true rfl) (by omega) (f_X11_growBy (by omega) hx hIg23 kp_trunk_122 (by omega) (by omega) (fun g30 hIg30 hfg30 hc31 => ⟨_, rfl, ?_⟩))
            show mm_W d mmX11_read 97 [some (.ref 0), some (.int (Int32.ofInt a1)), some (.int (Int32.ofInt a2)), some (.int (Int32.ofInt v16))] [] (mz_mk g30 x) Q
            replace hE := zf_t1 hE hc31
            refine mz_iincR (v := v16) (lo2 := [some (.ref 0), some (.int (Int32.ofInt a1)), some (.int (Int32.ofInt a2)), some (.int (Int32.ofInt (v16 + 1)))]) rfl rfl rfl (Nat.le_of_ble_eq_true rfl) rfl ?_
            refine mz_gt (tgt := 44) rfl rfl ?_
            exact ih18 ((61 - (v16 + 1)).toNat) (by omega) (v16 + 1) g30 rfl (by omega) (by omega) hIg30 (fun k j hk => ((hfg30 k j (fun h => hk (Or.elim h (fun h => (Or.inr (Or.inr (Or.inl h)))) (fun h => (Or.elim h (fun h => (Or.inr (Or.inr (Or.inr (Or.inl h))))) (fun h => (Or.inr (Or.inr (Or.inr (Or.inr h)))))))))).trans ((hfg23 k j (fun h => hk (Or.elim h (fun h => (Or.inl h)) (fun h => (Or.inr (Or.inl h)))))).trans (hfg17 k j (fun h => hk (Or.elim h (fun h => (Or.inl h)) (fun h => (Or.elim h (fun h => (Or.inr (Or.inl h))) (fun h => (Or.elim h (fun h => (Or.inr (Or.inr (Or.inl h)))) (fun h => (Or.elim h (fun h => (Or.inr (Or.inr (Or.inr (Or.inl h))))) (fun h => (Or.inr (Or.inr (Or.inr (Or.inr h))))))))))))))))) ⟨fj21, Nat.lt_of_lt_of_le (show ((61 - (v16 + 1)).toNat) < n19 from (by omega)) fn22, hE⟩
          · skip
            replace hE := zf_in hE c83_29
            refine mm_g 1 (pc1 := 87) (lo1 := [some (.ref 0), some (.int (Int32.ofInt a1)), some (.int (Int32.ofInt a2)), some (.int (Int32.ofInt v16))]) (st1 := [.int (Int32.ofInt v16)]) (H1 := mz_mk g23 x) rfl ?_
            exact mm_rt rfl rfl (hQ _ _ hIg23 (fun k j hk => ((hfg23 k j (fun h => hk (Or.elim h (fun h => (Or.inr (Or.inl h))) (fun h => (Or.inr (Or.inr (Or.inl h))))))).trans ((hfg17 k j (fun h => hk (Or.elim h (fun h => (Or.inr (Or.inl h))) (fun h => (Or.elim h (fun h => (Or.inr (Or.inr (Or.inl h)))) (fun h => (Or.elim h (fun h => (Or.inl h)) (fun h => (Or.elim h (fun h => (Or.inr (Or.inr (Or.inr (Or.inl h))))) (fun h => (Or.inr (Or.inr (Or.inr (Or.inr h)))))))))))))).trans (hfg14 k j (fun h => hk (Or.inl h)))))) (by omega) (by omega) hE)
      exact L20 _ 0 g14 rfl (by decide) (by decide) hIg14 (fun _ _ _ => rfl) ⟨3000000000, by omega, hE⟩
def fl_X11_alike_69 (x : mm_X) (a1 : Int) (a2 : Int) : Nat → Nat → Prop := fun k j => k = 133 ∨ k = 134 ∨ k = 135 ∨ k = 136 ∨ k = 122 ∨ k = ((x.1 + 36) + 2) ∨ k = ((x.1 + 36) + 3) ∨ k = 123
def fw_X11_alike (x : mm_X) (a1 : Int) (a2 : Int) : Nat → Nat → Prop := fun k j => k = 122 ∨ k = 123 ∨ k = 133 ∨ k = 134 ∨ k = 135 ∨ k = 136 ∨ k = ((x.1 + 36) + 2) ∨ k = ((x.1 + 36) + 3)
theorem f_X11_alike {d : Nat} (hd : 15 ≤ d) {x : mm_X} (hx : mk_x x) {g : mz_G} (hI : mz_inv g) {a1 : Int} (l_a1 : (-2147483648) ≤ a1) (u_a1 : a1 ≤ 2147483647) {a2 : Int} (l_a2 : (-2147483648) ≤ a2) (u_a2 : a2 ≤ 2147483647) {Q : (Option Value ⊕ Nat) → mm_H → Prop} (hQ : ∀ (r : Int) (g1 : mz_G), mz_inv g1 → mz_fr (fw_X11_alike x a1 a2) g g1 → (-1) ≤ r → r ≤ 60 → zf_E (zF_X11_alike x a1 a2 g) ((0, r, g1)) → Q (.inl (some (.int (Int32.ofInt r)))) (mz_mk g1 x)) (hX0 : (zf_E (zF_X11_alike x a1 a2 g) ((1, 0, g))) → Q (.inr 0) (mz_mk g (mz_tx x))) : mm_C d 145 [.ref 0, .int (Int32.ofInt a1), .int (Int32.ofInt a2)] (mz_mk g x) Q := by
  have kx := kn_x hx
  refine ⟨mmX11_alike, [some (.ref 0), some (.int (Int32.ofInt a1)), some (.int (Int32.ofInt a2)), none], rfl, rfl, ?_⟩
  have hE : zf_E (zF_X11_alike x a1 a2 g) (zF_X11_alike x a1 a2 g) := zf_rf
  refine mm_g 2 (pc1 := 2) (lo1 := [some (.ref 0), some (.int (Int32.ofInt a1)), some (.int (Int32.ofInt a2)), none]) (st1 := [.int (Int32.ofInt a1), .ref 0]) (H1 := mz_mk g x) rfl ?_
  refine mz_cv rfl mt_11_231 (by decide) (sc_0 _) rfl (Nat.le_of_ble_eq_true rfl) (by omega) (f_X11_isTrunk (by omega) hx hI l_a1 u_a1 (fun v1 l_v1 u_v1 hc2 => ⟨_, rfl, ?_⟩))
  show mm_W d mmX11_alike 5 [some (.ref 0), some (.int (Int32.ofInt a1)), some (.int (Int32.ofInt a2)), none] [.int (Int32.ofInt v1)] (mz_mk g x) Q
  replace hE := zf_t1 hE hc2
  refine mz_if_eq (tgt := 20) rfl rfl (mz_rg l_v1 u_v1) (fun c5_2 => ?_) (fun c5_2 => ?_)
  · skip
    replace hE := zf_ip hE c5_2
    refine mm_g 1 (pc1 := 21) (lo1 := [some (.ref 0), some (.int (Int32.ofInt a1)), some (.int (Int32.ofInt a2)), none]) (st1 := [.int (Int32.ofInt 0)]) (H1 := mz_mk g x) rfl ?_
    (try unfold zJ_X11_alike_20 at hE)
    (try unfold zJ_X11_alike_21 at hE)
    (try unfold zJ_X11_alike_20 at hE)
    (try unfold zJ_X11_alike_21 at hE)
    refine mz_csx rfl mt_11_183 rfl (Nat.le_of_ble_eq_true rfl) (by omega) rfl nh_X11_mustBe (f_X11_mustBe (by omega) hx hI (by decide) (by decide) (fun hp3 hc4 => ?_) (fun hc => hX0 (zf_x2 hE hc (by decide))))
    show mm_W d mmX11_alike 24 [some (.ref 0), some (.int (Int32.ofInt a1)), some (.int (Int32.ofInt a2)), none] [] (mz_mk g x) Q
    replace hE := zf_x1 hE hc4
    exfalso; omega
  · skip
    replace hE := zf_in hE c5_2
    refine mm_g 2 (pc1 := 10) (lo1 := [some (.ref 0), some (.int (Int32.ofInt a1)), some (.int (Int32.ofInt a2)), none]) (st1 := [.int (Int32.ofInt a2), .ref 0]) (H1 := mz_mk g x) rfl ?_
    refine mz_cv rfl mt_11_231 (by decide) (sc_0 _) rfl (Nat.le_of_ble_eq_true rfl) (by omega) (f_X11_isTrunk (by omega) hx hI l_a2 u_a2 (fun v5 l_v5 u_v5 hc6 => ⟨_, rfl, ?_⟩))
    show mm_W d mmX11_alike 13 [some (.ref 0), some (.int (Int32.ofInt a1)), some (.int (Int32.ofInt a2)), none] [.int (Int32.ofInt v5)] (mz_mk g x) Q
    replace hE := zf_t1 hE hc6
    refine mz_if_eq (tgt := 20) rfl rfl (mz_rg l_v5 u_v5) (fun c13_6 => ?_) (fun c13_6 => ?_)
    · skip
      replace hE := zf_ip hE c13_6
      refine mm_g 1 (pc1 := 21) (lo1 := [some (.ref 0), some (.int (Int32.ofInt a1)), some (.int (Int32.ofInt a2)), none]) (st1 := [.int (Int32.ofInt 0)]) (H1 := mz_mk g x) rfl ?_
      (try unfold zJ_X11_alike_20 at hE)
      (try unfold zJ_X11_alike_21 at hE)
      (try unfold zJ_X11_alike_20 at hE)
      (try unfold zJ_X11_alike_21 at hE)
      refine mz_csx rfl mt_11_183 rfl (Nat.le_of_ble_eq_true rfl) (by omega) rfl nh_X11_mustBe (f_X11_mustBe (by omega) hx hI (by decide) (by decide) (fun hp7 hc8 => ?_) (fun hc => hX0 (zf_x2 hE hc (by decide))))
      show mm_W d mmX11_alike 24 [some (.ref 0), some (.int (Int32.ofInt a1)), some (.int (Int32.ofInt a2)), none] [] (mz_mk g x) Q
      replace hE := zf_x1 hE hc8
      exfalso; omega
    · skip
      replace hE := zf_in hE c13_6
      refine mm_g 1 (pc1 := 17) (lo1 := [some (.ref 0), some (.int (Int32.ofInt a1)), some (.int (Int32.ofInt a2)), none]) (st1 := [.int (Int32.ofInt 1)]) (H1 := mz_mk g x) rfl ?_
      refine mz_gt (tgt := 21) rfl rfl ?_
      (try unfold zJ_X11_alike_20 at hE)
      (try unfold zJ_X11_alike_21 at hE)
      (try unfold zJ_X11_alike_20 at hE)
      (try unfold zJ_X11_alike_21 at hE)
      refine mz_csx rfl mt_11_183 rfl (Nat.le_of_ble_eq_true rfl) (by omega) rfl nh_X11_mustBe (f_X11_mustBe (by omega) hx hI (by decide) (by decide) (fun hp9 hc10 => ?_) (fun hc => hX0 (zf_x2 hE hc (by decide))))
      show mm_W d mmX11_alike 24 [some (.ref 0), some (.int (Int32.ofInt a1)), some (.int (Int32.ofInt a2)), none] [] (mz_mk g x) Q
      replace hE := zf_x1 hE hc10
      refine mm_g 2 (pc1 := 26) (lo1 := [some (.ref 0), some (.int (Int32.ofInt a1)), some (.int (Int32.ofInt a2)), none]) (st1 := [.int (Int32.ofInt a2), .int (Int32.ofInt a1)]) (H1 := mz_mk g x) rfl ?_
      refine mz_ic_ne (tgt := 31) rfl rfl (mz_rg l_a1 u_a1) (mz_rg l_a2 u_a2) (fun c26_10 => ?_) (fun c26_10 => ?_)
      · skip
        replace hE := zf_in hE c26_10
        refine mm_g 1 (pc1 := 32) (lo1 := [some (.ref 0), some (.int (Int32.ofInt a1)), some (.int (Int32.ofInt a2)), none]) (st1 := [.ref 0]) (H1 := mz_mk g x) rfl ?_
        refine mz_fgR (v := 122) rfl fd_11_65 (by decide) (sc_0 _) (rf_0_10 _ _ _) ?_
        refine mm_g 1 (pc1 := 36) (lo1 := [some (.ref 0), some (.int (Int32.ofInt a1)), some (.int (Int32.ofInt a2)), none]) (st1 := [.ref 0, .ref 122]) (H1 := mz_mk g x) rfl ?_
        refine mz_fgR (v := 86) rfl fd_11_37 (by decide) (sc_0 _) (rf_0_5 _ _ _) ?_
        refine mz_fgR (v := 87) rfl fd_11_158 (by decide) (sc_86 _) (rf_86_0 _ _ _) ?_
        refine mm_g 1 (pc1 := 43) (lo1 := [some (.ref 0), some (.int (Int32.ofInt a1)), some (.int (Int32.ofInt a2)), none]) (st1 := [.int (Int32.ofInt a1), .ref 87, .ref 122]) (H1 := mz_mk g x) rfl ?_
        refine mz_cv rfl mt_11_192 (by decide) (sc_87 _) rfl (Nat.le_of_ble_eq_true rfl) (by omega) (f_X9_get (by omega) hx hI kp_tks_87 l_a1 u_a1 (fun u11 k_u11 hp12 hc13 => ⟨_, rfl, ?_⟩))
        show mm_W d mmX11_alike 46 [some (.ref 0), some (.int (Int32.ofInt a1)), some (.int (Int32.ofInt a2)), none] [.ref u11, .ref 122] (mz_mk g x) Q
        replace hE := zf_t1 hE hc13
        refine mz_cv rfl mt_11_297 (by decide) (sc_122 _) rfl (Nat.le_of_ble_eq_true rfl) (by omega) (f_X8_becomeAs (by omega) hx hI kp_trunk_122 k_u11 (fun g14 hIg14 hfg14 hc15 => ⟨_, rfl, ?_⟩))
        show mm_W d mmX11_alike 49 [some (.ref 0), some (.int (Int32.ofInt a1)), some (.int (Int32.ofInt a2)), none] [] (mz_mk g14 x) Q
        replace hE := zf_t1 hE hc15
        refine mm_g 1 (pc1 := 50) (lo1 := [some (.ref 0), some (.int (Int32.ofInt a1)), some (.int (Int32.ofInt a2)), none]) (st1 := [.ref 0]) (H1 := mz_mk g14 x) rfl ?_
        refine mz_fgR (v := 123) rfl fd_11_69 (by decide) (sc_0 _) (rf_0_11 _ _ _) ?_
        refine mm_g 1 (pc1 := 54) (lo1 := [some (.ref 0), some (.int (Int32.ofInt a1)), some (.int (Int32.ofInt a2)), none]) (st1 := [.ref 0, .ref 123]) (H1 := mz_mk g14 x) rfl ?_
        refine mz_fgR (v := 86) rfl fd_11_37 (by decide) (sc_0 _) (rf_0_5 _ _ _) ?_
        refine mz_fgR (v := 87) rfl fd_11_158 (by decide) (sc_86 _) (rf_86_0 _ _ _) ?_
        refine mm_g 1 (pc1 := 61) (lo1 := [some (.ref 0), some (.int (Int32.ofInt a1)), some (.int (Int32.ofInt a2)), none]) (st1 := [.int (Int32.ofInt a2), .ref 87, .ref 123]) (H1 := mz_mk g14 x) rfl ?_
        refine mz_cv rfl mt_11_192 (by decide) (sc_87 _) rfl (Nat.le_of_ble_eq_true rfl) (by omega) (f_X9_get (by omega) hx hIg14 kp_tks_87 l_a2 u_a2 (fun u16 k_u16 hp17 hc18 => ⟨_, rfl, ?_⟩))
        show mm_W d mmX11_alike 64 [some (.ref 0), some (.int (Int32.ofInt a1)), some (.int (Int32.ofInt a2)), none] [.ref u16, .ref 123] (mz_mk g14 x) Q
        replace hE := zf_t1 hE hc18
        refine mz_cv rfl mt_11_297 (by decide) (sc_123 _) rfl (Nat.le_of_ble_eq_true rfl) (by omega) (f_X8_becomeAs (by omega) hx hIg14 kp_trunk_123 k_u16 (fun g19 hIg19 hfg19 hc20 => ⟨_, rfl, ?_⟩))
        show mm_W d mmX11_alike 67 [some (.ref 0), some (.int (Int32.ofInt a1)), some (.int (Int32.ofInt a2)), none] [] (mz_mk g19 x) Q
        replace hE := zf_t1 hE hc20
        refine mm_g 2 (pc1 := 69) (lo1 := [some (.ref 0), some (.int (Int32.ofInt a1)), some (.int (Int32.ofInt a2)), some (.int (Int32.ofInt 0))]) (st1 := []) (H1 := mz_mk g19 x) rfl ?_
        have L25 : ∀ n24 : Nat, ∀ (v21 : Int) (g22 : mz_G), (61 - v21).toNat = n24 → 0 ≤ v21 → v21 ≤ 61 → mz_inv g22 → mz_fr (fl_X11_alike_69 x a1 a2) g19 g22 → (∃ fk : Nat, (61 - v21).toNat < fk ∧ zf_E (zF_X11_alike x a1 a2 g) (zL_X11_alike_69 x a1 a2 fk v21 g22)) → mm_W d mmX11_alike 69 [some (.ref 0), some (.int (Int32.ofInt a1)), some (.int (Int32.ofInt a2)), some (.int (Int32.ofInt v21))] [] (mz_mk g22 x) Q := by
          intro n24
          induction n24 using Nat.strongRecOn with
          | ind n24 ih23 =>
          intro v21 g22 hmn24 l_v21 u_v21 hIg22 hfg22 hF
          obtain ⟨fk, fl, hE⟩ := hF
          obtain ⟨fj26, rfl⟩ : ∃ fj, fk = fj + 1 := ⟨fk - 1, by omega⟩
          have fn27 : n24 ≤ fj26 := by omega
          replace hE := zf_tr hE zL_X11_alike_69_s
          refine mm_g 1 (pc1 := 70) (lo1 := [some (.ref 0), some (.int (Int32.ofInt a1)), some (.int (Int32.ofInt a2)), some (.int (Int32.ofInt v21))]) (st1 := [.int (Int32.ofInt v21)]) (H1 := mz_mk g22 x) rfl ?_
          refine mz_bip rfl bip_60 ?_
          refine mz_ic_gt (tgt := 145) rfl rfl (mz_rg l_v21 u_v21) ⟨by decide, by decide⟩ (fun c72_27 => ?_) (fun c72_27 => ?_)
          · skip
            replace hE := zf_ip hE c72_27
            refine mm_g 1 (pc1 := 146) (lo1 := [some (.ref 0), some (.int (Int32.ofInt a1)), some (.int (Int32.ofInt a2)), some (.int (Int32.ofInt v21))]) (st1 := [.int (Int32.ofInt (-1))]) (H1 := mz_mk g22 x) rfl ?_
            exact mm_rt rfl rfl (hQ _ _ hIg22 (fun k j hk => ((hfg22 k j (fun h => hk (Or.elim h (fun h => (Or.inr (Or.inr (Or.inl h)))) (fun h => (Or.elim h (fun h => (Or.inr (Or.inr (Or.inr (Or.inl h))))) (fun h => (Or.elim h (fun h => (Or.inr (Or.inr (Or.inr (Or.inr (Or.inl h)))))) (fun h => (Or.elim h (fun h => (Or.inr (Or.inr (Or.inr (Or.inr (Or.inr (Or.inl h))))))) (fun h => (Or.elim h (fun h => (Or.inl h)) (fun h => (Or.elim h (fun h => (Or.inr (Or.inr (Or.inr (Or.inr (Or.inr (Or.inr (Or.inl h)))))))) (fun h => (Or.elim h (fun h => (Or.inr (Or.inr (Or.inr (Or.inr (Or.inr (Or.inr (Or.inr h)))))))) (fun h => (Or.inr (Or.inl h)))))))))))))))))).trans ((hfg19 k j (fun h => hk (Or.inr (Or.inl h)))).trans (hfg14 k j (fun h => hk (Or.inl h)))))) (by decide) (by decide) hE)
          · skip
            replace hE := zf_nl hE c72_27
            refine mm_g 1 (pc1 := 76) (lo1 := [some (.ref 0), some (.int (Int32.ofInt a1)), some (.int (Int32.ofInt a2)), some (.int (Int32.ofInt v21))]) (st1 := [.ref 0]) (H1 := mz_mk g22 x) rfl ?_
            refine mz_fgR (v := x.1) rfl fd_11_16 (by decide) (sc_0 _) rfl ?_
            refine mm_g 1 (pc1 := 80) (lo1 := [some (.ref 0), some (.int (Int32.ofInt a1)), some (.int (Int32.ofInt a2)), some (.int (Int32.ofInt v21))]) (st1 := [.ref 0, .ref x.1]) (H1 := mz_mk g22 x) rfl ?_
            refine mz_fgR (v := 122) rfl fd_11_65 (by decide) (sc_0 _) (rf_0_10 _ _ _) ?_
            refine mm_g 1 (pc1 := 84) (lo1 := [some (.ref 0), some (.int (Int32.ofInt a1)), some (.int (Int32.ofInt a2)), some (.int (Int32.ofInt v21))]) (st1 := [.ref 0, .ref 122, .ref x.1]) (H1 := mz_mk g22 x) rfl ?_
            refine mz_fgR (v := 133) rfl fd_11_84 (by decide) (sc_0 _) (rf_0_13 _ _ _) ?_
            refine mz_cv rfl mt_11_286 (by decide) (kc_load (kx_1 hx) _) rfl (Nat.le_of_ble_eq_true rfl) (by omega) (f_X1_blendInto (by omega) hx hIg22 (kx_1 hx) kp_trunk_122 kp_let_133 (fun g28 hIg28 hfg28 hc29 => ⟨_, rfl, ?_⟩))
            show mm_W d mmX11_alike 90 [some (.ref 0), some (.int (Int32.ofInt a1)), some (.int (Int32.ofInt a2)), some (.int (Int32.ofInt v21))] [] (mz_mk g28 x) Q
            replace hE := zf_t1 hE hc29
            refine mm_g 1 (pc1 := 91) (lo1 := [some (.ref 0), some (.int (Int32.ofInt a1)), some (.int (Int32.ofInt a2)), some (.int (Int32.ofInt v21))]) (st1 := [.ref 0]) (H1 := mz_mk g28 x) rfl ?_
            refine mz_fgR (v := x.1) rfl fd_11_16 (by decide) (sc_0 _) rfl ?_
            refine mm_g 1 (pc1 := 95) (lo1 := [some (.ref 0), some (.int (Int32.ofInt a1)), some (.int (Int32.ofInt a2)), some (.int (Int32.ofInt v21))]) (st1 := [.ref 0, .ref x.1]) (H1 := mz_mk g28 x) rfl ?_
            refine mz_fgR (v := 123) rfl fd_11_69 (by decide) (sc_0 _) (rf_0_11 _ _ _) ?_
            refine mm_g 1 (pc1 := 99) (lo1 := [some (.ref 0), some (.int (Int32.ofInt a1)), some (.int (Int32.ofInt a2)), some (.int (Int32.ofInt v21))]) (st1 := [.ref 0, .ref 123, .ref x.1]) (H1 := mz_mk g28 x) rfl ?_
            refine mz_fgR (v := 135) rfl fd_11_88 (by decide) (sc_0 _) (rf_0_14 _ _ _) ?_
            refine mz_cv rfl mt_11_286 (by decide) (kc_load (kx_1 hx) _) rfl (Nat.le_of_ble_eq_true rfl) (by omega) (f_X1_blendInto (by omega) hx hIg28 (kx_1 hx) kp_trunk_123 kp_let_135 (fun g30 hIg30 hfg30 hc31 => ⟨_, rfl, ?_⟩))
            show mm_W d mmX11_alike 105 [some (.ref 0), some (.int (Int32.ofInt a1)), some (.int (Int32.ofInt a2)), some (.int (Int32.ofInt v21))] [] (mz_mk g30 x) Q
            replace hE := zf_t1 hE hc31
            refine mm_g 1 (pc1 := 106) (lo1 := [some (.ref 0), some (.int (Int32.ofInt a1)), some (.int (Int32.ofInt a2)), some (.int (Int32.ofInt v21))]) (st1 := [.ref 0]) (H1 := mz_mk g30 x) rfl ?_
            refine mz_fgR (v := 133) rfl fd_11_84 (by decide) (sc_0 _) (rf_0_13 _ _ _) ?_
            refine mm_g 1 (pc1 := 110) (lo1 := [some (.ref 0), some (.int (Int32.ofInt a1)), some (.int (Int32.ofInt a2)), some (.int (Int32.ofInt v21))]) (st1 := [.ref 0, .ref 133]) (H1 := mz_mk g30 x) rfl ?_
            refine mz_fgR (v := 135) rfl fd_11_88 (by decide) (sc_0 _) (rf_0_14 _ _ _) ?_
            refine mz_cv rfl mt_11_309 (by decide) (sc_133 _) rfl (Nat.le_of_ble_eq_true rfl) (by omega) (f_X0_isSame (by omega) hx hIg30 kp_let_133 kp_let_135 (fun v32 l_v32 u_v32 hc33 => ⟨_, rfl, ?_⟩))
            show mm_W d mmX11_alike 116 [some (.ref 0), some (.int (Int32.ofInt a1)), some (.int (Int32.ofInt a2)), some (.int (Int32.ofInt v21))] [.int (Int32.ofInt v32)] (mz_mk g30 x) Q
            replace hE := zf_t1 hE hc33
            refine mz_if_eq (tgt := 121) rfl rfl (mz_rg l_v32 u_v32) (fun c116_33 => ?_) (fun c116_33 => ?_)
            · skip
              replace hE := zf_ip hE c116_33
              refine mm_g 2 (pc1 := 123) (lo1 := [some (.ref 0), some (.int (Int32.ofInt a1)), some (.int (Int32.ofInt a2)), some (.int (Int32.ofInt v21))]) (st1 := [.ref 0, .ref 0]) (H1 := mz_mk g30 x) rfl ?_
              refine mz_fgR (v := 122) rfl fd_11_65 (by decide) (sc_0 _) (rf_0_10 _ _ _) ?_
              refine mm_g 1 (pc1 := 127) (lo1 := [some (.ref 0), some (.int (Int32.ofInt a1)), some (.int (Int32.ofInt a2)), some (.int (Int32.ofInt v21))]) (st1 := [.int (Int32.ofInt v21), .ref 122, .ref 0]) (H1 := mz_mk g30 x) rfl ?_
              refine mz_cv rfl mt_11_301 (by decide) (sc_0 _) rfl (Nat.le_of_ble_eq_true rfl) (by omega) (f_X11_growBy (by omega) hx hIg30 kp_trunk_122 (by omega) (by omega) (fun g34 hIg34 hfg34 hc35 => ⟨_, rfl, ?_⟩))
              show mm_W d mmX11_alike 130 [some (.ref 0), some (.int (Int32.ofInt a1)), some (.int (Int32.ofInt a2)), some (.int (Int32.ofInt v21))] [] (mz_mk g34 x) Q
              replace hE := zf_t1 hE hc35
              refine mm_g 2 (pc1 := 132) (lo1 := [some (.ref 0), some (.int (Int32.ofInt a1)), some (.int (Int32.ofInt a2)), some (.int (Int32.ofInt v21))]) (st1 := [.ref 0, .ref 0]) (H1 := mz_mk g34 x) rfl ?_
              refine mz_fgR (v := 123) rfl fd_11_69 (by decide) (sc_0 _) (rf_0_11 _ _ _) ?_
              refine mm_g 1 (pc1 := 136) (lo1 := [some (.ref 0), some (.int (Int32.ofInt a1)), some (.int (Int32.ofInt a2)), some (.int (Int32.ofInt v21))]) (st1 := [.int (Int32.ofInt v21), .ref 123, .ref 0]) (H1 := mz_mk g34 x) rfl ?_
              refine mz_cv rfl mt_11_301 (by decide) (sc_0 _) rfl (Nat.le_of_ble_eq_true rfl) (by omega) (f_X11_growBy (by omega) hx hIg34 kp_trunk_123 (by omega) (by omega) (fun g36 hIg36 hfg36 hc37 => ⟨_, rfl, ?_⟩))
              show mm_W d mmX11_alike 139 [some (.ref 0), some (.int (Int32.ofInt a1)), some (.int (Int32.ofInt a2)), some (.int (Int32.ofInt v21))] [] (mz_mk g36 x) Q
              replace hE := zf_t1 hE hc37
              refine mz_iincR (v := v21) (lo2 := [some (.ref 0), some (.int (Int32.ofInt a1)), some (.int (Int32.ofInt a2)), some (.int (Int32.ofInt (v21 + 1)))]) rfl rfl rfl (Nat.le_of_ble_eq_true rfl) rfl ?_
              refine mz_gt (tgt := 69) rfl rfl ?_
              exact ih23 ((61 - (v21 + 1)).toNat) (by omega) (v21 + 1) g36 rfl (by omega) (by omega) hIg36 (fun k j hk => ((hfg36 k j (fun h => hk (Or.elim h (fun h => (Or.inr (Or.inr (Or.inr (Or.inr (Or.inr (Or.inr (Or.inr h)))))))) (fun h => (Or.elim h (fun h => (Or.inr (Or.inr (Or.inr (Or.inr (Or.inr (Or.inl h))))))) (fun h => (Or.inr (Or.inr (Or.inr (Or.inr (Or.inr (Or.inr (Or.inl h))))))))))))).trans ((hfg34 k j (fun h => hk (Or.elim h (fun h => (Or.inr (Or.inr (Or.inr (Or.inr (Or.inl h)))))) (fun h => (Or.elim h (fun h => (Or.inr (Or.inr (Or.inr (Or.inr (Or.inr (Or.inl h))))))) (fun h => (Or.inr (Or.inr (Or.inr (Or.inr (Or.inr (Or.inr (Or.inl h))))))))))))).trans ((hfg30 k j (fun h => hk (Or.elim h (fun h => (Or.inr (Or.inr (Or.inl h)))) (fun h => (Or.inr (Or.inr (Or.inr (Or.inl h)))))))).trans ((hfg28 k j (fun h => hk (Or.elim h (fun h => (Or.inl h)) (fun h => (Or.inr (Or.inl h)))))).trans (hfg22 k j (fun h => hk (Or.elim h (fun h => (Or.inl h)) (fun h => (Or.elim h (fun h => (Or.inr (Or.inl h))) (fun h => (Or.elim h (fun h => (Or.inr (Or.inr (Or.inl h)))) (fun h => (Or.elim h (fun h => (Or.inr (Or.inr (Or.inr (Or.inl h))))) (fun h => (Or.elim h (fun h => (Or.inr (Or.inr (Or.inr (Or.inr (Or.inl h)))))) (fun h => (Or.elim h (fun h => (Or.inr (Or.inr (Or.inr (Or.inr (Or.inr (Or.inl h))))))) (fun h => (Or.elim h (fun h => (Or.inr (Or.inr (Or.inr (Or.inr (Or.inr (Or.inr (Or.inl h)))))))) (fun h => (Or.inr (Or.inr (Or.inr (Or.inr (Or.inr (Or.inr (Or.inr h)))))))))))))))))))))))))))) ⟨fj26, Nat.lt_of_lt_of_le (show ((61 - (v21 + 1)).toNat) < n24 from (by omega)) fn27, hE⟩
            · skip
              replace hE := zf_in hE c116_33
              refine mm_g 1 (pc1 := 120) (lo1 := [some (.ref 0), some (.int (Int32.ofInt a1)), some (.int (Int32.ofInt a2)), some (.int (Int32.ofInt v21))]) (st1 := [.int (Int32.ofInt v21)]) (H1 := mz_mk g30 x) rfl ?_
              exact mm_rt rfl rfl (hQ _ _ hIg30 (fun k j hk => ((hfg30 k j (fun h => hk (Or.elim h (fun h => (Or.inr (Or.inr (Or.inr (Or.inr (Or.inl h)))))) (fun h => (Or.inr (Or.inr (Or.inr (Or.inr (Or.inr (Or.inl h)))))))))).trans ((hfg28 k j (fun h => hk (Or.elim h (fun h => (Or.inr (Or.inr (Or.inl h)))) (fun h => (Or.inr (Or.inr (Or.inr (Or.inl h)))))))).trans ((hfg22 k j (fun h => hk (Or.elim h (fun h => (Or.inr (Or.inr (Or.inl h)))) (fun h => (Or.elim h (fun h => (Or.inr (Or.inr (Or.inr (Or.inl h))))) (fun h => (Or.elim h (fun h => (Or.inr (Or.inr (Or.inr (Or.inr (Or.inl h)))))) (fun h => (Or.elim h (fun h => (Or.inr (Or.inr (Or.inr (Or.inr (Or.inr (Or.inl h))))))) (fun h => (Or.elim h (fun h => (Or.inl h)) (fun h => (Or.elim h (fun h => (Or.inr (Or.inr (Or.inr (Or.inr (Or.inr (Or.inr (Or.inl h)))))))) (fun h => (Or.elim h (fun h => (Or.inr (Or.inr (Or.inr (Or.inr (Or.inr (Or.inr (Or.inr h)))))))) (fun h => (Or.inr (Or.inl h)))))))))))))))))).trans ((hfg19 k j (fun h => hk (Or.inr (Or.inl h)))).trans (hfg14 k j (fun h => hk (Or.inl h)))))))) (by omega) (by omega) hE)
        exact L25 _ 0 g19 rfl (by decide) (by decide) hIg19 (fun _ _ _ => rfl) ⟨3000000000, by omega, hE⟩
      · skip
        replace hE := zf_ip hE c26_10
        refine mm_g 1 (pc1 := 30) (lo1 := [some (.ref 0), some (.int (Int32.ofInt a1)), some (.int (Int32.ofInt a2)), none]) (st1 := [.int (Int32.ofInt (-1))]) (H1 := mz_mk g x) rfl ?_
        exact mm_rt rfl rfl (hQ _ _ hI (fun _ _ _ => rfl) (by decide) (by decide) hE)
def fl_X2_common_2 (x : mm_X) (q1 : Nat) (q2 : Nat) : Nat → Nat → Prop := fun k j => k = 117
def fl_X2_common_27 (x : mm_X) (q1 : Nat) (q2 : Nat) : Nat → Nat → Prop := fun k j => k = 117
def fl_X2_common_41 (x : mm_X) (q1 : Nat) (q2 : Nat) : Nat → Nat → Prop := fun k j => k = 117
def fw_X2_common (x : mm_X) (q1 : Nat) (q2 : Nat) : Nat → Nat → Prop := fun k j => k = 117
theorem f_X2_common {d : Nat} (hd : 12 ≤ d) {x : mm_X} (hx : mk_x x) {g : mz_G} (hI : mz_inv g) {q1 : Nat} (h_q1 : kd_let q1) {q2 : Nat} (h_q2 : kd_let q2) {Q : (Option Value ⊕ Nat) → mm_H → Prop} (hQ : ∀ (r : Int) (g1 : mz_G), mz_inv g1 → mz_fr (fw_X2_common x q1 q2) g g1 → (-2147483648) ≤ r → r ≤ 2147483647 → zf_E (zF_X2_common q1 q2 g) ((r, g1)) → Q (.inl (some (.int (Int32.ofInt r)))) (mz_mk g1 x)) : mm_C d 26 [.ref 116, .ref q1, .ref q2] (mz_mk g x) Q := by
  have kn_q1 := kn_let h_q1
  have kn_q2 := kn_let h_q2
  refine ⟨mmX2_common, [some (.ref 116), some (.ref q1), some (.ref q2), none, none, none, none, none], rfl, rfl, ?_⟩
  have hE : zf_E (zF_X2_common q1 q2 g) (zF_X2_common q1 q2 g) := zf_rf
  refine mm_g 2 (pc1 := 2) (lo1 := [some (.ref 116), some (.ref q1), some (.ref q2), some (.int (Int32.ofInt 0)), none, none, none, none]) (st1 := []) (H1 := mz_mk g x) rfl ?_
  have L5 : ∀ n4 : Nat, ∀ (v1 : Int) (g2 : mz_G), (17 - v1).toNat = n4 → 0 ≤ v1 → v1 ≤ 17 → mz_inv g2 → mz_fr (fl_X2_common_2 x q1 q2) g g2 → (∃ fk : Nat, (17 - v1).toNat < fk ∧ zf_E (zF_X2_common q1 q2 g) (zL_X2_common_2 q1 q2 fk v1 g2)) → mm_W d mmX2_common 2 [some (.ref 116), some (.ref q1), some (.ref q2), some (.int (Int32.ofInt v1)), none, none, none, none] [] (mz_mk g2 x) Q := by
    intro n4
    induction n4 using Nat.strongRecOn with
    | ind n4 ih3 =>
    intro v1 g2 hmn4 l_v1 u_v1 hIg2 hfg2 hF
    obtain ⟨fk, fl, hE⟩ := hF
    obtain ⟨fj6, rfl⟩ : ∃ fj, fk = fj + 1 := ⟨fk - 1, by omega⟩
    have fn7 : n4 ≤ fj6 := by omega
    replace hE := zf_tr hE zL_X2_common_2_s
    refine mm_g 2 (pc1 := 4) (lo1 := [some (.ref 116), some (.ref q1), some (.ref q2), some (.int (Int32.ofInt v1)), none, none, none, none]) (st1 := [.ref q2, .int (Int32.ofInt v1)]) (H1 := mz_mk g2 x) rfl ?_
    refine mz_cv rfl mt_2_15 (by decide) (kc_let h_q2 _) rfl (Nat.le_of_ble_eq_true rfl) (by omega) (f_X0_length (by omega) hx hIg2 h_q2 (fun v8 l_v8 u_v8 hc9 => ⟨_, rfl, ?_⟩))
    show mm_W d mmX2_common 7 [some (.ref 116), some (.ref q1), some (.ref q2), some (.int (Int32.ofInt v1)), none, none, none, none] [.int (Int32.ofInt v8), .int (Int32.ofInt v1)] (mz_mk g2 x) Q
    replace hE := zf_t1 hE hc9
    refine mz_ic_gt (tgt := 25) rfl rfl (mz_rg l_v1 u_v1) (mz_rg l_v8 u_v8) (fun c7_9 => ?_) (fun c7_9 => ?_)
    · skip
      replace hE := zf_ip hE c7_9
      refine mm_g 2 (pc1 := 27) (lo1 := [some (.ref 116), some (.ref q1), some (.ref q2), some (.int (Int32.ofInt 0)), none, none, none, none]) (st1 := []) (H1 := mz_mk g2 x) rfl ?_
      have L18 : ∀ n17 : Nat, ∀ (v10 : Int) (o11 : Option Value) (o12 : Option Value) (o13 : Option Value) (o14 : Option Value) (g15 : mz_G), (16 - v10).toNat = n17 → 0 ≤ v10 → v10 ≤ 16 → mz_nl o11 → mz_nl o12 → mz_nl o13 → mz_nl o14 → mz_inv g15 → mz_fr (fl_X2_common_27 x q1 q2) g2 g15 → (∃ fk : Nat, (16 - v10).toNat < fk ∧ zf_E (zF_X2_common q1 q2 g) (zL_X2_common_27 q1 q2 fk v10 g15)) → mm_W d mmX2_common 27 [some (.ref 116), some (.ref q1), some (.ref q2), some (.int (Int32.ofInt v10)), o11, o12, o13, o14] [] (mz_mk g15 x) Q := by
        intro n17
        induction n17 using Nat.strongRecOn with
        | ind n17 ih16 =>
        intro v10 o11 o12 o13 o14 g15 hmn17 l_v10 u_v10 h_o11 h_o12 h_o13 h_o14 hIg15 hfg15 hF
        obtain ⟨fk, fl, hE⟩ := hF
        obtain ⟨fj19, rfl⟩ : ∃ fj, fk = fj + 1 := ⟨fk - 1, by omega⟩
        have fn20 : n17 ≤ fj19 := by omega
        replace hE := zf_tr hE zL_X2_common_27_s
        refine mm_g 2 (pc1 := 29) (lo1 := [some (.ref 116), some (.ref q1), some (.ref q2), some (.int (Int32.ofInt v10)), o11, o12, o13, o14]) (st1 := [.ref q1, .int (Int32.ofInt v10)]) (H1 := mz_mk g15 x) rfl ?_
        refine mz_cv rfl mt_2_15 (by decide) (kc_let h_q1 _) rfl (Nat.le_of_ble_eq_true rfl) (by omega) (f_X0_length (by omega) hx hIg15 h_q1 (fun v21 l_v21 u_v21 hc22 => ⟨_, rfl, ?_⟩))
        show mm_W d mmX2_common 32 [some (.ref 116), some (.ref q1), some (.ref q2), some (.int (Int32.ofInt v10)), o11, o12, o13, o14] [.int (Int32.ofInt v21), .int (Int32.ofInt v10)] (mz_mk g15 x) Q
        replace hE := zf_t1 hE hc22
        refine mz_ic_ge (tgt := 137) rfl rfl (mz_rg l_v10 u_v10) (mz_rg l_v21 u_v21) (fun c32_22 => ?_) (fun c32_22 => ?_)
        · skip
          replace hE := zf_nl hE c32_22
          refine mm_g 1 (pc1 := 138) (lo1 := [some (.ref 116), some (.ref q1), some (.ref q2), some (.int (Int32.ofInt v10)), o11, o12, o13, o14]) (st1 := [.ref 116]) (H1 := mz_mk g15 x) rfl ?_
          refine mz_fgR (v := 117) rfl fd_2_9 (by decide) (sc_116 _) (rf_116_0 _ _ _) ?_
          refine mm_g 1 (pc1 := 142) (lo1 := [some (.ref 116), some (.ref q1), some (.ref q2), some (.int (Int32.ofInt v10)), o11, o12, o13, o14]) (st1 := [.ref q2, .ref 117]) (H1 := mz_mk g15 x) rfl ?_
          refine mz_cv rfl mt_2_15 (by decide) (kc_let h_q2 _) rfl (Nat.le_of_ble_eq_true rfl) (by omega) (f_X0_length (by omega) hx hIg15 h_q2 (fun v23 l_v23 u_v23 hc24 => ⟨_, rfl, ?_⟩))
          show mm_W d mmX2_common 145 [some (.ref 116), some (.ref q1), some (.ref q2), some (.int (Int32.ofInt v10)), o11, o12, o13, o14] [.int (Int32.ofInt v23), .ref 117] (mz_mk g15 x) Q
          replace hE := zf_t1 hE hc24
          refine mz_cs rfl mt_2_25 (by decide) rfl (Nat.le_of_ble_eq_true rfl) (by omega) (f_X11_at (by omega) hx hIg15 (sh_117 _) (by decide) ba_117 (by omega) (by omega) (by omega) (by omega) (fun v25 l_v25 u_v25 hc26 => ⟨_, rfl, ?_⟩))
          show mm_W d mmX2_common 148 [some (.ref 116), some (.ref q1), some (.ref q2), some (.int (Int32.ofInt v10)), o11, o12, o13, o14] [.int (Int32.ofInt v25)] (mz_mk g15 x) Q
          replace hE := zf_t1 hE hc26
          exact mm_rt rfl rfl (hQ _ _ hIg15 (fun k j hk => ((hfg15 k j (fun h => hk h)).trans (hfg2 k j (fun h => hk h)))) (by omega) (by omega) hE)
        · skip
          replace hE := zf_ip hE c32_22
          refine mm_g 4 (pc1 := 41) (lo1 := [some (.ref 116), some (.ref q1), some (.ref q2), some (.int (Int32.ofInt v10)), some (.int (Int32.ofInt 0)), some (.int (Int32.ofInt 0)), o13, o14]) (st1 := []) (H1 := mz_mk g15 x) rfl ?_
          have hO34 := hE
          have L35 : ∀ n33 : Nat, ∀ (v27 : Int) (v28 : Int) (o29 : Option Value) (o30 : Option Value) (g31 : mz_G), (16 - v28).toNat = n33 → (-2147483648) ≤ v27 → v27 ≤ 2147483647 → 0 ≤ v28 → v28 ≤ 16 → mz_nl o29 → mz_nl o30 → mz_inv g31 → mz_fr (fl_X2_common_41 x q1 q2) g15 g31 → (∃ fk : Nat, (16 - v28).toNat < fk ∧ zf_E (zL_X2_common_41 q1 q2 3000000000 v10 0 0 g15) (zL_X2_common_41 q1 q2 fk v10 v27 v28 g31)) → mm_W d mmX2_common 41 [some (.ref 116), some (.ref q1), some (.ref q2), some (.int (Int32.ofInt v10)), some (.int (Int32.ofInt v27)), some (.int (Int32.ofInt v28)), o29, o30] [] (mz_mk g31 x) Q := by
            intro n33
            induction n33 using Nat.strongRecOn with
            | ind n33 ih32 =>
            intro v27 v28 o29 o30 g31 hmn33 l_v27 u_v27 l_v28 u_v28 h_o29 h_o30 hIg31 hfg31 hF
            obtain ⟨fk, fl, hE⟩ := hF
            obtain ⟨fj36, rfl⟩ : ∃ fj, fk = fj + 1 := ⟨fk - 1, by omega⟩
            have fn37 : n33 ≤ fj36 := by omega
            replace hE := zf_tr hE zL_X2_common_41_s
            refine mm_g 2 (pc1 := 44) (lo1 := [some (.ref 116), some (.ref q1), some (.ref q2), some (.int (Int32.ofInt v10)), some (.int (Int32.ofInt v27)), some (.int (Int32.ofInt v28)), o29, o30]) (st1 := [.ref q2, .int (Int32.ofInt v28)]) (H1 := mz_mk g31 x) rfl ?_
            refine mz_cv rfl mt_2_15 (by decide) (kc_let h_q2 _) rfl (Nat.le_of_ble_eq_true rfl) (by omega) (f_X0_length (by omega) hx hIg31 h_q2 (fun v38 l_v38 u_v38 hc39 => ⟨_, rfl, ?_⟩))
            show mm_W d mmX2_common 47 [some (.ref 116), some (.ref q1), some (.ref q2), some (.int (Int32.ofInt v10)), some (.int (Int32.ofInt v27)), some (.int (Int32.ofInt v28)), o29, o30] [.int (Int32.ofInt v38), .int (Int32.ofInt v28)] (mz_mk g31 x) Q
            replace hE := zf_t1 hE hc39
            refine mz_ic_ge (tgt := 131) rfl rfl (mz_rg l_v28 u_v28) (mz_rg l_v38 u_v38) (fun c47_39 => ?_) (fun c47_39 => ?_)
            · skip
              replace hE := zf_nl hE c47_39
              replace hE := zf_t1 hO34 hE
              refine mz_iincR (v := v10) (lo2 := [some (.ref 116), some (.ref q1), some (.ref q2), some (.int (Int32.ofInt (v10 + 1))), some (.int (Int32.ofInt v27)), some (.int (Int32.ofInt v28)), o29, o30]) rfl rfl rfl (Nat.le_of_ble_eq_true rfl) rfl ?_
              refine mz_gt (tgt := 27) rfl rfl ?_
              exact ih16 ((16 - (v10 + 1)).toNat) (by omega) (v10 + 1) (some (.int (Int32.ofInt v27))) (some (.int (Int32.ofInt v28))) o29 o30 g31 rfl (by omega) (by omega) (mz_nl_i _) (mz_nl_i _) h_o29 h_o30 hIg31 (fun k j hk => ((hfg31 k j (fun h => hk h)).trans (hfg15 k j (fun h => hk h)))) ⟨fj19, Nat.lt_of_lt_of_le (show ((16 - (v10 + 1)).toNat) < n17 from (by omega)) fn20, hE⟩
            · skip
              replace hE := zf_ip hE c47_39
              refine mm_g 1 (pc1 := 51) (lo1 := [some (.ref 116), some (.ref q1), some (.ref q2), some (.int (Int32.ofInt v10)), some (.int (Int32.ofInt v27)), some (.int (Int32.ofInt v28)), o29, o30]) (st1 := [.ref 116]) (H1 := mz_mk g31 x) rfl ?_
              refine mz_fgR (v := 117) rfl fd_2_9 (by decide) (sc_116 _) (rf_116_0 _ _ _) ?_
              refine mm_g 2 (pc1 := 57) (lo1 := [some (.ref 116), some (.ref q1), some (.ref q2), some (.int (Int32.ofInt v10)), some (.int (Int32.ofInt v27)), some (.int (Int32.ofInt v28)), o29, o30]) (st1 := [.int (Int32.ofInt 1), .int (Int32.ofInt v28), .ref 117]) (H1 := mz_mk g31 x) rfl ?_
              refine mz_iadd rfl ?_
              refine mz_cs rfl mt_2_25 (by decide) rfl (Nat.le_of_ble_eq_true rfl) (by omega) (f_X11_at (by omega) hx hIg31 (sh_117 _) (by decide) ba_117 (by omega) (by omega) (by omega) (by omega) (fun v40 l_v40 u_v40 hc41 => ⟨_, rfl, ?_⟩))
              show mm_W d mmX2_common 61 [some (.ref 116), some (.ref q1), some (.ref q2), some (.int (Int32.ofInt v10)), some (.int (Int32.ofInt v27)), some (.int (Int32.ofInt v28)), o29, o30] [.int (Int32.ofInt v40)] (mz_mk g31 x) Q
              replace hE := zf_t1 hE hc41
              refine mm_g 3 (pc1 := 65) (lo1 := [some (.ref 116), some (.ref q1), some (.ref q2), some (.int (Int32.ofInt v10)), some (.int (Int32.ofInt v27)), some (.int (Int32.ofInt v28)), some (.int (Int32.ofInt v40)), o30]) (st1 := [.int (Int32.ofInt v10), .ref q1]) (H1 := mz_mk g31 x) rfl ?_
              refine mz_cv rfl mt_2_29 (by decide) (kc_let h_q1 _) rfl (Nat.le_of_ble_eq_true rfl) (by omega) (f_X0_signAt (by omega) hx hIg31 h_q1 (by omega) (by omega) (fun v42 l_v42 u_v42 hc43 => ⟨_, rfl, ?_⟩))
              show mm_W d mmX2_common 68 [some (.ref 116), some (.ref q1), some (.ref q2), some (.int (Int32.ofInt v10)), some (.int (Int32.ofInt v27)), some (.int (Int32.ofInt v28)), some (.int (Int32.ofInt v40)), o30] [.int (Int32.ofInt v42)] (mz_mk g31 x) Q
              replace hE := zf_t1 hE hc43
              refine mm_g 2 (pc1 := 71) (lo1 := [some (.ref 116), some (.ref q1), some (.ref q2), some (.int (Int32.ofInt v10)), some (.int (Int32.ofInt v27)), some (.int (Int32.ofInt v28)), some (.int (Int32.ofInt v40)), o30]) (st1 := [.int (Int32.ofInt v28), .ref q2, .int (Int32.ofInt v42)]) (H1 := mz_mk g31 x) rfl ?_
              refine mz_cv rfl mt_2_29 (by decide) (kc_let h_q2 _) rfl (Nat.le_of_ble_eq_true rfl) (by omega) (f_X0_signAt (by omega) hx hIg31 h_q2 (by omega) (by omega) (fun v44 l_v44 u_v44 hc45 => ⟨_, rfl, ?_⟩))
              show mm_W d mmX2_common 74 [some (.ref 116), some (.ref q1), some (.ref q2), some (.int (Int32.ofInt v10)), some (.int (Int32.ofInt v27)), some (.int (Int32.ofInt v28)), some (.int (Int32.ofInt v40)), o30] [.int (Int32.ofInt v44), .int (Int32.ofInt v42)] (mz_mk g31 x) Q
              replace hE := zf_t1 hE hc45
              refine mz_ic_ne (tgt := 81) rfl rfl (mz_rg l_v42 u_v42) (mz_rg l_v44 u_v44) (fun c74_45 => ?_) (fun c74_45 => ?_)
              · skip
                replace hE := zf_in hE c74_45
                refine mm_g 3 (pc1 := 85) (lo1 := [some (.ref 116), some (.ref q1), some (.ref q2), some (.int (Int32.ofInt v10)), some (.int (Int32.ofInt v27)), some (.int (Int32.ofInt v28)), some (.int (Int32.ofInt v40)), some (.int (Int32.ofInt 0))]) (st1 := [.ref 116]) (H1 := mz_mk g31 x) rfl ?_
                refine mz_fgR (v := 117) rfl fd_2_9 (by decide) (sc_116 _) (rf_116_0 _ _ _) ?_
                refine mm_g 2 (pc1 := 91) (lo1 := [some (.ref 116), some (.ref q1), some (.ref q2), some (.int (Int32.ofInt v10)), some (.int (Int32.ofInt v27)), some (.int (Int32.ofInt v28)), some (.int (Int32.ofInt v40)), some (.int (Int32.ofInt 0))]) (st1 := [.int (Int32.ofInt 1), .int (Int32.ofInt v28), .ref 117]) (H1 := mz_mk g31 x) rfl ?_
                refine mz_iadd rfl ?_
                refine mm_g 1 (pc1 := 94) (lo1 := [some (.ref 116), some (.ref q1), some (.ref q2), some (.int (Int32.ofInt v10)), some (.int (Int32.ofInt v27)), some (.int (Int32.ofInt v28)), some (.int (Int32.ofInt v40)), some (.int (Int32.ofInt 0))]) (st1 := [.int (Int32.ofInt 0), .int (Int32.ofInt (v28 + 1)), .ref 117]) (H1 := mz_mk g31 x) rfl ?_
                refine mz_if_eq (tgt := 104) rfl rfl ⟨by decide, by decide⟩ (fun c94_45 => ?_) (fun c94_45 => ?_)
                · skip
                  (try unfold zJ_X2_common_82 at hE)
                  (try unfold zJ_X2_common_118 at hE)
                  (try unfold zJ_X2_common_82 at hE)
                  (try unfold zJ_X2_common_118 at hE)
                  replace hE := zf_ip hE c94_45
                  refine mm_g 2 (pc1 := 107) (lo1 := [some (.ref 116), some (.ref q1), some (.ref q2), some (.int (Int32.ofInt v10)), some (.int (Int32.ofInt v27)), some (.int (Int32.ofInt v28)), some (.int (Int32.ofInt v40)), some (.int (Int32.ofInt 0))]) (st1 := [.ref 116, .int (Int32.ofInt v40), .int (Int32.ofInt (v28 + 1)), .ref 117]) (H1 := mz_mk g31 x) rfl ?_
                  refine mz_fgR (v := 117) rfl fd_2_9 (by decide) (sc_116 _) (rf_116_0 _ _ _) ?_
                  refine mm_g 1 (pc1 := 112) (lo1 := [some (.ref 116), some (.ref q1), some (.ref q2), some (.int (Int32.ofInt v10)), some (.int (Int32.ofInt v27)), some (.int (Int32.ofInt v28)), some (.int (Int32.ofInt v40)), some (.int (Int32.ofInt 0))]) (st1 := [.int (Int32.ofInt v28), .ref 117, .int (Int32.ofInt v40), .int (Int32.ofInt (v28 + 1)), .ref 117]) (H1 := mz_mk g31 x) rfl ?_
                  refine mz_cs rfl mt_2_25 (by decide) rfl (Nat.le_of_ble_eq_true rfl) (by omega) (f_X11_at (by omega) hx hIg31 (sh_117 _) (by decide) ba_117 (by omega) (by omega) (by omega) (by omega) (fun v46 l_v46 u_v46 hc47 => ⟨_, rfl, ?_⟩))
                  show mm_W d mmX2_common 115 [some (.ref 116), some (.ref q1), some (.ref q2), some (.int (Int32.ofInt v10)), some (.int (Int32.ofInt v27)), some (.int (Int32.ofInt v28)), some (.int (Int32.ofInt v40)), some (.int (Int32.ofInt 0))] [.int (Int32.ofInt v46), .int (Int32.ofInt v40), .int (Int32.ofInt (v28 + 1)), .ref 117] (mz_mk g31 x) Q
                  replace hE := zf_t1 hE hc47
                  refine mz_mx rfl mt_2_39 (Nat.le_of_ble_eq_true rfl) (by omega) (mz_rg l_v40 u_v40) (mz_rg l_v46 u_v46) (fun v48 e_v48 => ?_)
                  have l_v48 : (-2147483648) ≤ v48 := by omega
                  have u_v48 : v48 ≤ 2147483647 := by omega
                  replace hE := zf_tr hE (zf_le e_v48.symm)
                  refine mz_cs rfl mt_2_21 (by decide) rfl (Nat.le_of_ble_eq_true rfl) (by omega) (f_X11_put (by omega) hx hIg31 (sh_117 _) (by decide) ba_117 (by omega) (by omega) (by omega) (by omega) l_v48 u_v48 (by omega) (by omega) (fun g49 hIg49 hfg49 hc50 => ⟨_, rfl, ?_⟩))
                  show mm_W d mmX2_common 121 [some (.ref 116), some (.ref q1), some (.ref q2), some (.int (Int32.ofInt v10)), some (.int (Int32.ofInt v27)), some (.int (Int32.ofInt v28)), some (.int (Int32.ofInt v40)), some (.int (Int32.ofInt 0))] [] (mz_mk g49 x) Q
                  replace hE := zf_t1 hE hc50
                  refine mm_g 2 (pc1 := 125) (lo1 := [some (.ref 116), some (.ref q1), some (.ref q2), some (.int (Int32.ofInt v10)), some (.int (Int32.ofInt v40)), some (.int (Int32.ofInt v28)), some (.int (Int32.ofInt v40)), some (.int (Int32.ofInt 0))]) (st1 := []) (H1 := mz_mk g49 x) rfl ?_
                  refine mz_iincR (v := v28) (lo2 := [some (.ref 116), some (.ref q1), some (.ref q2), some (.int (Int32.ofInt v10)), some (.int (Int32.ofInt v40)), some (.int (Int32.ofInt (v28 + 1))), some (.int (Int32.ofInt v40)), some (.int (Int32.ofInt 0))]) rfl rfl rfl (Nat.le_of_ble_eq_true rfl) rfl ?_
                  refine mz_gt (tgt := 41) rfl rfl ?_
                  exact ih32 ((16 - (v28 + 1)).toNat) (by omega) v40 (v28 + 1) (some (.int (Int32.ofInt v40))) (some (.int (Int32.ofInt 0))) g49 rfl (by omega) (by omega) (by omega) (by omega) (mz_nl_i _) (mz_nl_i _) hIg49 (fun k j hk => ((hfg49 k j (fun h => hk h)).trans (hfg31 k j (fun h => hk h)))) ⟨fj36, Nat.lt_of_lt_of_le (show ((16 - (v28 + 1)).toNat) < n33 from (by omega)) fn37, hE⟩
                · exfalso; omega
              · skip
                replace hE := zf_ip hE c74_45
                refine mm_g 1 (pc1 := 78) (lo1 := [some (.ref 116), some (.ref q1), some (.ref q2), some (.int (Int32.ofInt v10)), some (.int (Int32.ofInt v27)), some (.int (Int32.ofInt v28)), some (.int (Int32.ofInt v40)), o30]) (st1 := [.int (Int32.ofInt 1)]) (H1 := mz_mk g31 x) rfl ?_
                refine mz_gt (tgt := 82) rfl rfl ?_
                refine mm_g 2 (pc1 := 85) (lo1 := [some (.ref 116), some (.ref q1), some (.ref q2), some (.int (Int32.ofInt v10)), some (.int (Int32.ofInt v27)), some (.int (Int32.ofInt v28)), some (.int (Int32.ofInt v40)), some (.int (Int32.ofInt 1))]) (st1 := [.ref 116]) (H1 := mz_mk g31 x) rfl ?_
                refine mz_fgR (v := 117) rfl fd_2_9 (by decide) (sc_116 _) (rf_116_0 _ _ _) ?_
                refine mm_g 2 (pc1 := 91) (lo1 := [some (.ref 116), some (.ref q1), some (.ref q2), some (.int (Int32.ofInt v10)), some (.int (Int32.ofInt v27)), some (.int (Int32.ofInt v28)), some (.int (Int32.ofInt v40)), some (.int (Int32.ofInt 1))]) (st1 := [.int (Int32.ofInt 1), .int (Int32.ofInt v28), .ref 117]) (H1 := mz_mk g31 x) rfl ?_
                refine mz_iadd rfl ?_
                refine mm_g 1 (pc1 := 94) (lo1 := [some (.ref 116), some (.ref q1), some (.ref q2), some (.int (Int32.ofInt v10)), some (.int (Int32.ofInt v27)), some (.int (Int32.ofInt v28)), some (.int (Int32.ofInt v40)), some (.int (Int32.ofInt 1))]) (st1 := [.int (Int32.ofInt 1), .int (Int32.ofInt (v28 + 1)), .ref 117]) (H1 := mz_mk g31 x) rfl ?_
                refine mz_if_eq (tgt := 104) rfl rfl ⟨by decide, by decide⟩ (fun c94_50 => ?_) (fun c94_50 => ?_)
                · exfalso; omega
                · skip
                  (try unfold zJ_X2_common_82 at hE)
                  (try unfold zJ_X2_common_118 at hE)
                  (try unfold zJ_X2_common_82 at hE)
                  (try unfold zJ_X2_common_118 at hE)
                  replace hE := zf_in hE c94_50
                  refine mm_g 2 (pc1 := 100) (lo1 := [some (.ref 116), some (.ref q1), some (.ref q2), some (.int (Int32.ofInt v10)), some (.int (Int32.ofInt v27)), some (.int (Int32.ofInt v28)), some (.int (Int32.ofInt v40)), some (.int (Int32.ofInt 1))]) (st1 := [.int (Int32.ofInt 1), .int (Int32.ofInt v27), .int (Int32.ofInt (v28 + 1)), .ref 117]) (H1 := mz_mk g31 x) rfl ?_
                  refine mz_iadd_w rfl (fun v51 e_v51 hwv51 => ?_)
                  have l_v51 := hwv51.1
                  have u_v51 := hwv51.2
                  replace hE := zf_tr hE (zf_le e_v51.symm)
                  refine mz_gt (tgt := 118) rfl rfl ?_
                  refine mz_cs rfl mt_2_21 (by decide) rfl (Nat.le_of_ble_eq_true rfl) (by omega) (f_X11_put (by omega) hx hIg31 (sh_117 _) (by decide) ba_117 (by omega) (by omega) (by omega) (by omega) l_v51 u_v51 (by omega) (by omega) (fun g52 hIg52 hfg52 hc53 => ⟨_, rfl, ?_⟩))
                  show mm_W d mmX2_common 121 [some (.ref 116), some (.ref q1), some (.ref q2), some (.int (Int32.ofInt v10)), some (.int (Int32.ofInt v27)), some (.int (Int32.ofInt v28)), some (.int (Int32.ofInt v40)), some (.int (Int32.ofInt 1))] [] (mz_mk g52 x) Q
                  replace hE := zf_t1 hE hc53
                  refine mm_g 2 (pc1 := 125) (lo1 := [some (.ref 116), some (.ref q1), some (.ref q2), some (.int (Int32.ofInt v10)), some (.int (Int32.ofInt v40)), some (.int (Int32.ofInt v28)), some (.int (Int32.ofInt v40)), some (.int (Int32.ofInt 1))]) (st1 := []) (H1 := mz_mk g52 x) rfl ?_
                  refine mz_iincR (v := v28) (lo2 := [some (.ref 116), some (.ref q1), some (.ref q2), some (.int (Int32.ofInt v10)), some (.int (Int32.ofInt v40)), some (.int (Int32.ofInt (v28 + 1))), some (.int (Int32.ofInt v40)), some (.int (Int32.ofInt 1))]) rfl rfl rfl (Nat.le_of_ble_eq_true rfl) rfl ?_
                  refine mz_gt (tgt := 41) rfl rfl ?_
                  exact ih32 ((16 - (v28 + 1)).toNat) (by omega) v40 (v28 + 1) (some (.int (Int32.ofInt v40))) (some (.int (Int32.ofInt 1))) g52 rfl (by omega) (by omega) (by omega) (by omega) (mz_nl_i _) (mz_nl_i _) hIg52 (fun k j hk => ((hfg52 k j (fun h => hk h)).trans (hfg31 k j (fun h => hk h)))) ⟨fj36, Nat.lt_of_lt_of_le (show ((16 - (v28 + 1)).toNat) < n33 from (by omega)) fn37, hE⟩
          exact L35 _ 0 0 o13 o14 g15 rfl (by decide) (by decide) (by decide) (by decide) h_o13 h_o14 hIg15 (fun _ _ _ => rfl) ⟨3000000000, by omega, zf_rf⟩
      exact L18 _ 0 none none none none g2 rfl (by decide) (by decide) mz_nl_n mz_nl_n mz_nl_n mz_nl_n hIg2 (fun _ _ _ => rfl) ⟨3000000000, by omega, hE⟩
    · skip
      replace hE := zf_nl hE c7_9
      refine mm_g 1 (pc1 := 11) (lo1 := [some (.ref 116), some (.ref q1), some (.ref q2), some (.int (Int32.ofInt v1)), none, none, none, none]) (st1 := [.ref 116]) (H1 := mz_mk g2 x) rfl ?_
      refine mz_fgR (v := 117) rfl fd_2_9 (by decide) (sc_116 _) (rf_116_0 _ _ _) ?_
      refine mm_g 2 (pc1 := 16) (lo1 := [some (.ref 116), some (.ref q1), some (.ref q2), some (.int (Int32.ofInt v1)), none, none, none, none]) (st1 := [.int (Int32.ofInt 0), .int (Int32.ofInt v1), .ref 117]) (H1 := mz_mk g2 x) rfl ?_
      refine mz_cs rfl mt_2_21 (by decide) rfl (Nat.le_of_ble_eq_true rfl) (by omega) (f_X11_put (by omega) hx hIg2 (sh_117 _) (by decide) ba_117 (by omega) (by omega) (by omega) (by omega) (by decide) (by decide) (by omega) (by omega) (fun g54 hIg54 hfg54 hc55 => ⟨_, rfl, ?_⟩))
      show mm_W d mmX2_common 19 [some (.ref 116), some (.ref q1), some (.ref q2), some (.int (Int32.ofInt v1)), none, none, none, none] [] (mz_mk g54 x) Q
      replace hE := zf_t1 hE hc55
      refine mz_iincR (v := v1) (lo2 := [some (.ref 116), some (.ref q1), some (.ref q2), some (.int (Int32.ofInt (v1 + 1))), none, none, none, none]) rfl rfl rfl (Nat.le_of_ble_eq_true rfl) rfl ?_
      refine mz_gt (tgt := 2) rfl rfl ?_
      exact ih3 ((17 - (v1 + 1)).toNat) (by omega) (v1 + 1) g54 rfl (by omega) (by omega) hIg54 (fun k j hk => ((hfg54 k j (fun h => hk h)).trans (hfg2 k j (fun h => hk h)))) ⟨fj6, Nat.lt_of_lt_of_le (show ((17 - (v1 + 1)).toNat) < n4 from (by omega)) fn7, hE⟩
  exact L5 _ 0 g rfl (by decide) (by decide) hI (fun _ _ _ => rfl) ⟨3000000000, by omega, hE⟩
