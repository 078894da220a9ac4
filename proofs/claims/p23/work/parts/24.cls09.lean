/-! EXACT: the class (wip/p2/tools/gen50.py) -/
theorem fd_6_29 : mm_tab mm_fldT 6 29 = some (6, 4, 0) ∧ mm_tab mm_ftT 6 4 = some 6 := ⟨rfl, rfl⟩
theorem fd_6_32 : mm_tab mm_fldT 6 32 = some (6, 5, 0) ∧ mm_tab mm_ftT 6 5 = some 6 := ⟨rfl, rfl⟩
theorem fd_6_35 : mm_tab mm_fldT 6 35 = some (6, 6, 0) ∧ mm_tab mm_ftT 6 6 = some 6 := ⟨rfl, rfl⟩
theorem mt_6_67 : mm_tab mm_mthT 6 67 = some (4, 0, 2, 0, 0) := rfl
theorem mt_11_316 : mm_tab mm_mthT 11 316 = some (1, 111, 2, 0, 10) := rfl
theorem mt_11_319 : mm_tab mm_mthT 11 319 = some (1, 26, 2, 0, 2) := rfl
theorem mt_11_322 : mm_tab mm_mthT 11 322 = some (1, 112, 0, 0, 10) := rfl
theorem mt_11_325 : mm_tab mm_mthT 11 325 = some (1, 113, 1, 0, 10) := rfl
theorem mt_11_328 : mm_tab mm_mthT 11 328 = some (1, 114, 0, 0, 10) := rfl
theorem mt_11_331 : mm_tab mm_mthT 11 331 = some (1, 115, 1, 0, 10) := rfl
theorem mt_11_334 : mm_tab mm_mthT 11 334 = some (1, 29, 0, 0, 3) := rfl
theorem mt_11_343 : mm_tab mm_mthT 11 343 = some (1, 74, 3, 0, 6) := rfl
theorem mt_11_370 : mm_tab mm_mthT 11 370 = some (1, 161, 2, 0, 11) := rfl
theorem mt_11_374 : mm_tab mm_mthT 11 374 = some (1, 76, 1, 0, 6) := rfl
theorem mt_11_377 : mm_tab mm_mthT 11 377 = some (1, 77, 3, 0, 6) := rfl
theorem kr_story_4 {q : Nat} (h : kd_story q) (a b : Nat) (c : Option Nat) : mm_HR a b c q 4 = some (q + 11) := by unfold kd_story at h; rcases h with rfl | rfl <;> rfl
theorem kr_story_5 {q : Nat} (h : kd_story q) (a b : Nat) (c : Option Nat) : mm_HR a b c q 5 = some (q + 12) := by unfold kd_story at h; rcases h with rfl | rfl <;> rfl
theorem kr_story_6 {q : Nat} (h : kd_story q) (a b : Nat) (c : Option Nat) : mm_HR a b c q 6 = some (q + 13) := by unfold kd_story at h; rcases h with rfl | rfl <;> rfl
theorem ka_story_4 {q : Nat} (h : kd_story q) (L : Nat) : mm_SH L (q + 11) = (100, 8) := by unfold kd_story at h; rcases h with rfl | rfl <;> rfl
theorem kba_story_4 {q : Nat} (h : kd_story q) (j : Nat) : mz_bd (q + 11) j = ((-2147483648), 2147483647) := by unfold kd_story at h; rcases h with rfl | rfl <;> rfl
theorem ka_story_5 {q : Nat} (h : kd_story q) (L : Nat) : mm_SH L (q + 12) = (100, 8) := by unfold kd_story at h; rcases h with rfl | rfl <;> rfl
theorem kba_story_5 {q : Nat} (h : kd_story q) (j : Nat) : mz_bd (q + 12) j = (0, 20) := by unfold kd_story at h; rcases h with rfl | rfl <;> rfl
theorem ka_story_6 {q : Nat} (h : kd_story q) (L : Nat) : mm_SH L (q + 13) = (100, 8) := by unfold kd_story at h; rcases h with rfl | rfl <;> rfl
theorem kba_story_6 {q : Nat} (h : kd_story q) (j : Nat) : mz_bd (q + 13) j = ((-2147483648), 2147483647) := by unfold kd_story at h; rcases h with rfl | rfl <;> rfl
def fw_X11_both (x : mm_X) (a1 : Int) (a2 : Int) (a3 : Int) : Nat → Nat → Prop := fun k j => k = 117
theorem f_X11_both {d : Nat} (hd : 13 ≤ d) {x : mm_X} (hx : mk_x x) {g : mz_G} (hI : mz_inv g) {a1 : Int} (l_a1 : (-2147483648) ≤ a1) (u_a1 : a1 ≤ 2147483647) {a2 : Int} (l_a2 : (-2147483648) ≤ a2) (u_a2 : a2 ≤ 2147483647) {a3 : Int} (l_a3 : (-2147483648) ≤ a3) (u_a3 : a3 ≤ 2147483647) {Q : (Option Value ⊕ Nat) → mm_H → Prop} (hQ : ∀ (r : Int) (g1 : mz_G), mz_inv g1 → mz_fr (fw_X11_both x a1 a2 a3) g g1 → (-2147483648) ≤ r → r ≤ 2147483647 → zf_E (zF_X11_both x a1 a2 a3 g) ((0, r, g1)) → Q (.inl (some (.int (Int32.ofInt r)))) (mz_mk g1 x)) (hX0 : (zf_E (zF_X11_both x a1 a2 a3 g) ((1, 0, g))) → Q (.inr 0) (mz_mk g (mz_tx x))) : mm_C d 148 [.ref 0, .int (Int32.ofInt a1), .int (Int32.ofInt a2), .int (Int32.ofInt a3)] (mz_mk g x) Q := by
  have kx := kn_x hx
  refine ⟨mmX11_both, [some (.ref 0), some (.int (Int32.ofInt a1)), some (.int (Int32.ofInt a2)), some (.int (Int32.ofInt a3)), none, none], rfl, rfl, ?_⟩
  have hE : zf_E (zF_X11_both x a1 a2 a3 g) (zF_X11_both x a1 a2 a3 g) := zf_rf
  refine mm_g 2 (pc1 := 2) (lo1 := [some (.ref 0), some (.int (Int32.ofInt a1)), some (.int (Int32.ofInt a2)), some (.int (Int32.ofInt a3)), none, none]) (st1 := [.int (Int32.ofInt a1), .ref 0]) (H1 := mz_mk g x) rfl ?_
  refine mz_cv rfl mt_11_199 (by decide) (sc_0 _) rfl (Nat.le_of_ble_eq_true rfl) (by omega) (f_X11_isWord (by omega) hx hI l_a1 u_a1 (fun v1 l_v1 u_v1 hc2 => ⟨_, rfl, ?_⟩))
  show mm_W d mmX11_both 5 [some (.ref 0), some (.int (Int32.ofInt a1)), some (.int (Int32.ofInt a2)), some (.int (Int32.ofInt a3)), none, none] [.int (Int32.ofInt v1)] (mz_mk g x) Q
  replace hE := zf_t1 hE hc2
  refine mz_if_eq (tgt := 29) rfl rfl (mz_rg l_v1 u_v1) (fun c5_2 => ?_) (fun c5_2 => ?_)
  · skip
    replace hE := zf_ip hE c5_2
    refine mm_g 1 (pc1 := 30) (lo1 := [some (.ref 0), some (.int (Int32.ofInt a1)), some (.int (Int32.ofInt a2)), some (.int (Int32.ofInt a3)), none, none]) (st1 := [.int (Int32.ofInt 0)]) (H1 := mz_mk g x) rfl ?_
    (try unfold zJ_X11_both_29 at hE)
    (try unfold zJ_X11_both_30 at hE)
    (try unfold zJ_X11_both_29 at hE)
    (try unfold zJ_X11_both_30 at hE)
    refine mz_csx rfl mt_11_183 rfl (Nat.le_of_ble_eq_true rfl) (by omega) rfl nh_X11_mustBe (f_X11_mustBe (by omega) hx hI (by decide) (by decide) (fun hp3 hc4 => ?_) (fun hc => hX0 (zf_x2 hE hc (by decide))))
    show mm_W d mmX11_both 33 [some (.ref 0), some (.int (Int32.ofInt a1)), some (.int (Int32.ofInt a2)), some (.int (Int32.ofInt a3)), none, none] [] (mz_mk g x) Q
    replace hE := zf_x1 hE hc4
    exfalso; omega
  · skip
    replace hE := zf_in hE c5_2
    refine mm_g 2 (pc1 := 10) (lo1 := [some (.ref 0), some (.int (Int32.ofInt a1)), some (.int (Int32.ofInt a2)), some (.int (Int32.ofInt a3)), none, none]) (st1 := [.int (Int32.ofInt a2), .ref 0]) (H1 := mz_mk g x) rfl ?_
    refine mz_cv rfl mt_11_199 (by decide) (sc_0 _) rfl (Nat.le_of_ble_eq_true rfl) (by omega) (f_X11_isWord (by omega) hx hI l_a2 u_a2 (fun v5 l_v5 u_v5 hc6 => ⟨_, rfl, ?_⟩))
    show mm_W d mmX11_both 13 [some (.ref 0), some (.int (Int32.ofInt a1)), some (.int (Int32.ofInt a2)), some (.int (Int32.ofInt a3)), none, none] [.int (Int32.ofInt v5)] (mz_mk g x) Q
    replace hE := zf_t1 hE hc6
    refine mz_if_eq (tgt := 29) rfl rfl (mz_rg l_v5 u_v5) (fun c13_6 => ?_) (fun c13_6 => ?_)
    · skip
      replace hE := zf_ip hE c13_6
      refine mm_g 1 (pc1 := 30) (lo1 := [some (.ref 0), some (.int (Int32.ofInt a1)), some (.int (Int32.ofInt a2)), some (.int (Int32.ofInt a3)), none, none]) (st1 := [.int (Int32.ofInt 0)]) (H1 := mz_mk g x) rfl ?_
      (try unfold zJ_X11_both_29 at hE)
      (try unfold zJ_X11_both_30 at hE)
      (try unfold zJ_X11_both_29 at hE)
      (try unfold zJ_X11_both_30 at hE)
      refine mz_csx rfl mt_11_183 rfl (Nat.le_of_ble_eq_true rfl) (by omega) rfl nh_X11_mustBe (f_X11_mustBe (by omega) hx hI (by decide) (by decide) (fun hp7 hc8 => ?_) (fun hc => hX0 (zf_x2 hE hc (by decide))))
      show mm_W d mmX11_both 33 [some (.ref 0), some (.int (Int32.ofInt a1)), some (.int (Int32.ofInt a2)), some (.int (Int32.ofInt a3)), none, none] [] (mz_mk g x) Q
      replace hE := zf_x1 hE hc8
      exfalso; omega
    · skip
      replace hE := zf_in hE c13_6
      refine mm_g 1 (pc1 := 17) (lo1 := [some (.ref 0), some (.int (Int32.ofInt a1)), some (.int (Int32.ofInt a2)), some (.int (Int32.ofInt a3)), none, none]) (st1 := [.int (Int32.ofInt a3)]) (H1 := mz_mk g x) rfl ?_
      refine mz_if_lt (tgt := 29) rfl rfl (mz_rg l_a3 u_a3) (fun c17_8 => ?_) (fun c17_8 => ?_)
      · skip
        replace hE := zf_ip hE c17_8
        refine mm_g 1 (pc1 := 30) (lo1 := [some (.ref 0), some (.int (Int32.ofInt a1)), some (.int (Int32.ofInt a2)), some (.int (Int32.ofInt a3)), none, none]) (st1 := [.int (Int32.ofInt 0)]) (H1 := mz_mk g x) rfl ?_
        (try unfold zJ_X11_both_29 at hE)
        (try unfold zJ_X11_both_30 at hE)
        (try unfold zJ_X11_both_29 at hE)
        (try unfold zJ_X11_both_30 at hE)
        refine mz_csx rfl mt_11_183 rfl (Nat.le_of_ble_eq_true rfl) (by omega) rfl nh_X11_mustBe (f_X11_mustBe (by omega) hx hI (by decide) (by decide) (fun hp9 hc10 => ?_) (fun hc => hX0 (zf_x2 hE hc (by decide))))
        show mm_W d mmX11_both 33 [some (.ref 0), some (.int (Int32.ofInt a1)), some (.int (Int32.ofInt a2)), some (.int (Int32.ofInt a3)), none, none] [] (mz_mk g x) Q
        replace hE := zf_x1 hE hc10
        exfalso; omega
      · skip
        replace hE := zf_nl hE c17_8
        refine mm_g 2 (pc1 := 22) (lo1 := [some (.ref 0), some (.int (Int32.ofInt a1)), some (.int (Int32.ofInt a2)), some (.int (Int32.ofInt a3)), none, none]) (st1 := [.int (Int32.ofInt 2), .int (Int32.ofInt a3)]) (H1 := mz_mk g x) rfl ?_
        refine mz_ic_gt (tgt := 29) rfl rfl (mz_rg l_a3 u_a3) ⟨by decide, by decide⟩ (fun c22_10 => ?_) (fun c22_10 => ?_)
        · skip
          replace hE := zf_ip hE c22_10
          refine mm_g 1 (pc1 := 30) (lo1 := [some (.ref 0), some (.int (Int32.ofInt a1)), some (.int (Int32.ofInt a2)), some (.int (Int32.ofInt a3)), none, none]) (st1 := [.int (Int32.ofInt 0)]) (H1 := mz_mk g x) rfl ?_
          (try unfold zJ_X11_both_29 at hE)
          (try unfold zJ_X11_both_30 at hE)
          (try unfold zJ_X11_both_29 at hE)
          (try unfold zJ_X11_both_30 at hE)
          refine mz_csx rfl mt_11_183 rfl (Nat.le_of_ble_eq_true rfl) (by omega) rfl nh_X11_mustBe (f_X11_mustBe (by omega) hx hI (by decide) (by decide) (fun hp11 hc12 => ?_) (fun hc => hX0 (zf_x2 hE hc (by decide))))
          show mm_W d mmX11_both 33 [some (.ref 0), some (.int (Int32.ofInt a1)), some (.int (Int32.ofInt a2)), some (.int (Int32.ofInt a3)), none, none] [] (mz_mk g x) Q
          replace hE := zf_x1 hE hc12
          exfalso; omega
        · skip
          replace hE := zf_nl hE c22_10
          refine mm_g 1 (pc1 := 26) (lo1 := [some (.ref 0), some (.int (Int32.ofInt a1)), some (.int (Int32.ofInt a2)), some (.int (Int32.ofInt a3)), none, none]) (st1 := [.int (Int32.ofInt 1)]) (H1 := mz_mk g x) rfl ?_
          refine mz_gt (tgt := 30) rfl rfl ?_
          (try unfold zJ_X11_both_29 at hE)
          (try unfold zJ_X11_both_30 at hE)
          (try unfold zJ_X11_both_29 at hE)
          (try unfold zJ_X11_both_30 at hE)
          refine mz_csx rfl mt_11_183 rfl (Nat.le_of_ble_eq_true rfl) (by omega) rfl nh_X11_mustBe (f_X11_mustBe (by omega) hx hI (by decide) (by decide) (fun hp13 hc14 => ?_) (fun hc => hX0 (zf_x2 hE hc (by decide))))
          show mm_W d mmX11_both 33 [some (.ref 0), some (.int (Int32.ofInt a1)), some (.int (Int32.ofInt a2)), some (.int (Int32.ofInt a3)), none, none] [] (mz_mk g x) Q
          replace hE := zf_x1 hE hc14
          refine mm_g 1 (pc1 := 34) (lo1 := [some (.ref 0), some (.int (Int32.ofInt a1)), some (.int (Int32.ofInt a2)), some (.int (Int32.ofInt a3)), none, none]) (st1 := [.int (Int32.ofInt a3)]) (H1 := mz_mk g x) rfl ?_
          refine mz_if_ne (tgt := 50) rfl rfl (mz_rg l_a3 u_a3) (fun c34_14 => ?_) (fun c34_14 => ?_)
          · skip
            replace hE := zf_in hE c34_14
            refine mm_g 1 (pc1 := 51) (lo1 := [some (.ref 0), some (.int (Int32.ofInt a1)), some (.int (Int32.ofInt a2)), some (.int (Int32.ofInt a3)), none, none]) (st1 := [.ref 0]) (H1 := mz_mk g x) rfl ?_
            refine mz_fgR (v := x.1) rfl fd_11_16 (by decide) (sc_0 _) rfl ?_
            refine mz_fgR (v := (x.1 + 1)) rfl fd_11_135 (by decide) (kc_load (kx_1 hx) _) (kr_load_0 (kx_1 hx) _ _ _) ?_
            refine mm_g 1 (pc1 := 58) (lo1 := [some (.ref 0), some (.int (Int32.ofInt a1)), some (.int (Int32.ofInt a2)), some (.int (Int32.ofInt a3)), none, none]) (st1 := [.int (Int32.ofInt a1), .ref (x.1 + 1)]) (H1 := mz_mk g x) rfl ?_
            refine mz_cv rfl mt_11_203 (by decide) (kc_words (ks_load_0 (kx_1 hx)) _) rfl (Nat.le_of_ble_eq_true rfl) (by omega) (f_X10_of (by omega) hx hI (ks_load_0 (kx_1 hx)) l_a1 u_a1 (fun u15 k_u15 hp16 hc17 => ⟨_, rfl, ?_⟩))
            show mm_W d mmX11_both 61 [some (.ref 0), some (.int (Int32.ofInt a1)), some (.int (Int32.ofInt a2)), some (.int (Int32.ofInt a3)), none, none] [.ref u15] (mz_mk g x) Q
            replace hE := zf_t1 hE hc17
            refine mm_g 2 (pc1 := 64) (lo1 := [some (.ref 0), some (.int (Int32.ofInt a1)), some (.int (Int32.ofInt a2)), some (.int (Int32.ofInt a3)), some (.ref u15), none]) (st1 := [.ref 0]) (H1 := mz_mk g x) rfl ?_
            refine mz_fgR (v := x.1) rfl fd_11_16 (by decide) (sc_0 _) rfl ?_
            refine mz_fgR (v := (x.1 + 1)) rfl fd_11_135 (by decide) (kc_load (kx_1 hx) _) (kr_load_0 (kx_1 hx) _ _ _) ?_
            refine mm_g 1 (pc1 := 71) (lo1 := [some (.ref 0), some (.int (Int32.ofInt a1)), some (.int (Int32.ofInt a2)), some (.int (Int32.ofInt a3)), some (.ref u15), none]) (st1 := [.int (Int32.ofInt a2), .ref (x.1 + 1)]) (H1 := mz_mk g x) rfl ?_
            refine mz_cv rfl mt_11_203 (by decide) (kc_words (ks_load_0 (kx_1 hx)) _) rfl (Nat.le_of_ble_eq_true rfl) (by omega) (f_X10_of (by omega) hx hI (ks_load_0 (kx_1 hx)) l_a2 u_a2 (fun u18 k_u18 hp19 hc20 => ⟨_, rfl, ?_⟩))
            show mm_W d mmX11_both 74 [some (.ref 0), some (.int (Int32.ofInt a1)), some (.int (Int32.ofInt a2)), some (.int (Int32.ofInt a3)), some (.ref u15), none] [.ref u18] (mz_mk g x) Q
            replace hE := zf_t1 hE hc20
            refine mm_g 3 (pc1 := 78) (lo1 := [some (.ref 0), some (.int (Int32.ofInt a1)), some (.int (Int32.ofInt a2)), some (.int (Int32.ofInt a3)), some (.ref u15), some (.ref u18)]) (st1 := [.int (Int32.ofInt 1), .int (Int32.ofInt a3)]) (H1 := mz_mk g x) rfl ?_
            refine mz_ic_ne (tgt := 95) rfl rfl (mz_rg l_a3 u_a3) ⟨by decide, by decide⟩ (fun c78_20 => ?_) (fun c78_20 => ?_)
            · skip
              replace hE := zf_in hE c78_20
              refine mm_g 1 (pc1 := 96) (lo1 := [some (.ref 0), some (.int (Int32.ofInt a1)), some (.int (Int32.ofInt a2)), some (.int (Int32.ofInt a3)), some (.ref u15), some (.ref u18)]) (st1 := [.ref 0]) (H1 := mz_mk g x) rfl ?_
              refine mz_fgR (v := 116) rfl fd_11_51 (by decide) (sc_0 _) (rf_0_8 _ _ _) ?_
              refine mm_g 2 (pc1 := 103) (lo1 := [some (.ref 0), some (.int (Int32.ofInt a1)), some (.int (Int32.ofInt a2)), some (.int (Int32.ofInt a3)), some (.ref u15), some (.ref u18)]) (st1 := [.ref u18, .ref u15, .ref 116]) (H1 := mz_mk g x) rfl ?_
              refine mz_cv rfl mt_11_319 (by decide) (sc_116 _) rfl (Nat.le_of_ble_eq_true rfl) (by omega) (f_X2_common (by omega) hx hI k_u15 k_u18 (fun v21 g22 hIg22 hfg22 l_v21 u_v21 hc23 => ⟨_, rfl, ?_⟩))
              show mm_W d mmX11_both 106 [some (.ref 0), some (.int (Int32.ofInt a1)), some (.int (Int32.ofInt a2)), some (.int (Int32.ofInt a3)), some (.ref u15), some (.ref u18)] [.int (Int32.ofInt v21)] (mz_mk g22 x) Q
              replace hE := zf_t2 hE hc23
              exact mm_rt rfl rfl (hQ _ _ hIg22 (fun k j hk => (hfg22 k j (fun h => hk h))) (by omega) (by omega) hE)
            · skip
              replace hE := zf_ip hE c78_20
              refine mm_g 1 (pc1 := 82) (lo1 := [some (.ref 0), some (.int (Int32.ofInt a1)), some (.int (Int32.ofInt a2)), some (.int (Int32.ofInt a3)), some (.ref u15), some (.ref u18)]) (st1 := [.ref 0]) (H1 := mz_mk g x) rfl ?_
              refine mz_fgR (v := 116) rfl fd_11_51 (by decide) (sc_0 _) (rf_0_8 _ _ _) ?_
              refine mm_g 2 (pc1 := 89) (lo1 := [some (.ref 0), some (.int (Int32.ofInt a1)), some (.int (Int32.ofInt a2)), some (.int (Int32.ofInt a3)), some (.ref u15), some (.ref u18)]) (st1 := [.ref u18, .ref u15, .ref 116]) (H1 := mz_mk g x) rfl ?_
              refine mz_cv rfl mt_11_293 (by decide) (sc_116 _) rfl (Nat.le_of_ble_eq_true rfl) (by omega) (f_X2_changes (by omega) hx hI k_u15 k_u18 (fun v24 g25 hIg25 hfg25 l_v24 u_v24 hc26 => ⟨_, rfl, ?_⟩))
              show mm_W d mmX11_both 92 [some (.ref 0), some (.int (Int32.ofInt a1)), some (.int (Int32.ofInt a2)), some (.int (Int32.ofInt a3)), some (.ref u15), some (.ref u18)] [.int (Int32.ofInt v24)] (mz_mk g25 x) Q
              replace hE := zf_t2 hE hc26
              refine mz_gt (tgt := 106) rfl rfl ?_
              exact mm_rt rfl rfl (hQ _ _ hIg25 (fun k j hk => (hfg25 k j (fun h => hk h))) (by omega) (by omega) hE)
          · skip
            replace hE := zf_ip hE c34_14
            refine mm_g 1 (pc1 := 38) (lo1 := [some (.ref 0), some (.int (Int32.ofInt a1)), some (.int (Int32.ofInt a2)), some (.int (Int32.ofInt a3)), none, none]) (st1 := [.ref 0]) (H1 := mz_mk g x) rfl ?_
            refine mz_fgR (v := x.1) rfl fd_11_16 (by decide) (sc_0 _) rfl ?_
            refine mz_fgR (v := (x.1 + 1)) rfl fd_11_135 (by decide) (kc_load (kx_1 hx) _) (kr_load_0 (kx_1 hx) _ _ _) ?_
            refine mm_g 2 (pc1 := 46) (lo1 := [some (.ref 0), some (.int (Int32.ofInt a1)), some (.int (Int32.ofInt a2)), some (.int (Int32.ofInt a3)), none, none]) (st1 := [.int (Int32.ofInt a2), .int (Int32.ofInt a1), .ref (x.1 + 1)]) (H1 := mz_mk g x) rfl ?_
            refine mz_cv rfl mt_11_316 (by decide) (kc_words (ks_load_0 (kx_1 hx)) _) rfl (Nat.le_of_ble_eq_true rfl) (by omega) (f_X10_overlapOf (by omega) hx hI (ks_load_0 (kx_1 hx)) l_a1 u_a1 l_a2 u_a2 (fun v27 l_v27 u_v27 hc28 => ⟨_, rfl, ?_⟩))
            show mm_W d mmX11_both 49 [some (.ref 0), some (.int (Int32.ofInt a1)), some (.int (Int32.ofInt a2)), some (.int (Int32.ofInt a3)), none, none] [.int (Int32.ofInt v27)] (mz_mk g x) Q
            replace hE := zf_t1 hE hc28
            exact mm_rt rfl rfl (hQ _ _ hI (fun _ _ _ => rfl) (by omega) (by omega) hE)
theorem f_X10_rowLetters {d : Nat} (hd : 1 ≤ d) {x : mm_X} (hx : mk_x x) {g : mz_G} (hI : mz_inv g) {q0 : Nat} (h_q0 : kd_words q0) {Q : (Option Value ⊕ Nat) → mm_H → Prop} (hQ : ∀ (r : Int), (-2147483648) ≤ r → r ≤ 2147483647 → zf_E (zF_X10_rowLetters q0 g) (r) → Q (.inl (some (.int (Int32.ofInt r)))) (mz_mk g x)) : mm_C d 112 [.ref q0] (mz_mk g x) Q := by
  have kn_q0 := kn_words h_q0
  refine ⟨mmX10_rowLetters, [some (.ref q0)], rfl, rfl, ?_⟩
  have hE : zf_E (zF_X10_rowLetters q0 g) (zF_X10_rowLetters q0 g) := zf_rf
  refine mm_g 1 (pc1 := 1) (lo1 := [some (.ref q0)]) (st1 := [.ref q0]) (H1 := mz_mk g x) rfl ?_
  refine mz_gI rfl fd_10_44 (by decide) (kc_words h_q0 _) hI (kb_words_8 h_q0) (fun v1 e_v1 l_v1 u_v1 => ?_)
  replace hE := zf_tr hE (zf_le e_v1)
  exact mm_rt rfl rfl (hQ _ (by omega) (by omega) hE)
theorem f_X11_row {d : Nat} (hd : 13 ≤ d) {x : mm_X} (hx : mk_x x) {g : mz_G} (hI : mz_inv g) {a1 : Int} (l_a1 : (-2147483648) ≤ a1) (u_a1 : a1 ≤ 2147483647) {Q : (Option Value ⊕ Nat) → mm_H → Prop} (hQ : ∀ (r : Int), (-2147483648) ≤ r → r ≤ 2147483647 → zf_E (zF_X11_row x a1 g) ((0, r, g)) → Q (.inl (some (.int (Int32.ofInt r)))) (mz_mk g x)) (hX0 : (zf_E (zF_X11_row x a1 g) ((1, 0, g))) → Q (.inr 0) (mz_mk g (mz_tx x))) : mm_C d 149 [.ref 0, .int (Int32.ofInt a1)] (mz_mk g x) Q := by
  have kx := kn_x hx
  refine ⟨mmX11_row, [some (.ref 0), some (.int (Int32.ofInt a1))], rfl, rfl, ?_⟩
  have hE : zf_E (zF_X11_row x a1 g) (zF_X11_row x a1 g) := zf_rf
  refine mm_g 2 (pc1 := 2) (lo1 := [some (.ref 0), some (.int (Int32.ofInt a1))]) (st1 := [.int (Int32.ofInt (-1)), .int (Int32.ofInt a1)]) (H1 := mz_mk g x) rfl ?_
  refine mz_ic_ne (tgt := 16) rfl rfl (mz_rg l_a1 u_a1) ⟨by decide, by decide⟩ (fun c2_0 => ?_) (fun c2_0 => ?_)
  · skip
    replace hE := zf_in hE c2_0
    refine mm_g 1 (pc1 := 17) (lo1 := [some (.ref 0), some (.int (Int32.ofInt a1))]) (st1 := [.int (Int32.ofInt a1)]) (H1 := mz_mk g x) rfl ?_
    refine mz_if_lt (tgt := 38) rfl rfl (mz_rg l_a1 u_a1) (fun c17_0 => ?_) (fun c17_0 => ?_)
    · skip
      replace hE := zf_ip hE c17_0
      refine mm_g 1 (pc1 := 39) (lo1 := [some (.ref 0), some (.int (Int32.ofInt a1))]) (st1 := [.int (Int32.ofInt 0)]) (H1 := mz_mk g x) rfl ?_
      (try unfold zJ_X11_row_38 at hE)
      (try unfold zJ_X11_row_39 at hE)
      (try unfold zJ_X11_row_38 at hE)
      (try unfold zJ_X11_row_39 at hE)
      refine mz_csx rfl mt_11_183 rfl (Nat.le_of_ble_eq_true rfl) (by omega) rfl nh_X11_mustBe (f_X11_mustBe (by omega) hx hI (by decide) (by decide) (fun hp1 hc2 => ?_) (fun hc => hX0 (zf_x2 hE hc (by decide))))
      show mm_W d mmX11_row 42 [some (.ref 0), some (.int (Int32.ofInt a1))] [] (mz_mk g x) Q
      replace hE := zf_x1 hE hc2
      exfalso; omega
    · skip
      replace hE := zf_nl hE c17_0
      refine mm_g 2 (pc1 := 22) (lo1 := [some (.ref 0), some (.int (Int32.ofInt a1))]) (st1 := [.ref 0, .int (Int32.ofInt a1)]) (H1 := mz_mk g x) rfl ?_
      refine mz_fgR (v := x.1) rfl fd_11_16 (by decide) (sc_0 _) rfl ?_
      refine mz_fgR (v := (x.1 + 1)) rfl fd_11_135 (by decide) (kc_load (kx_1 hx) _) (kr_load_0 (kx_1 hx) _ _ _) ?_
      refine mz_cv rfl mt_11_152 (by decide) (kc_words (ks_load_0 (kx_1 hx)) _) rfl (Nat.le_of_ble_eq_true rfl) (by omega) (f_X10_many (by omega) hx hI (ks_load_0 (kx_1 hx)) (fun v3 l_v3 u_v3 hc4 => ⟨_, rfl, ?_⟩))
      show mm_W d mmX11_row 31 [some (.ref 0), some (.int (Int32.ofInt a1))] [.int (Int32.ofInt v3), .int (Int32.ofInt a1)] (mz_mk g x) Q
      replace hE := zf_t1 hE hc4
      refine mz_ic_ge (tgt := 38) rfl rfl (mz_rg l_a1 u_a1) (mz_rg l_v3 u_v3) (fun c31_4 => ?_) (fun c31_4 => ?_)
      · skip
        replace hE := zf_nl hE c31_4
        refine mm_g 1 (pc1 := 39) (lo1 := [some (.ref 0), some (.int (Int32.ofInt a1))]) (st1 := [.int (Int32.ofInt 0)]) (H1 := mz_mk g x) rfl ?_
        (try unfold zJ_X11_row_38 at hE)
        (try unfold zJ_X11_row_39 at hE)
        (try unfold zJ_X11_row_38 at hE)
        (try unfold zJ_X11_row_39 at hE)
        refine mz_csx rfl mt_11_183 rfl (Nat.le_of_ble_eq_true rfl) (by omega) rfl nh_X11_mustBe (f_X11_mustBe (by omega) hx hI (by decide) (by decide) (fun hp5 hc6 => ?_) (fun hc => hX0 (zf_x2 hE hc (by decide))))
        show mm_W d mmX11_row 42 [some (.ref 0), some (.int (Int32.ofInt a1))] [] (mz_mk g x) Q
        replace hE := zf_x1 hE hc6
        exfalso; omega
      · skip
        replace hE := zf_ip hE c31_4
        refine mm_g 1 (pc1 := 35) (lo1 := [some (.ref 0), some (.int (Int32.ofInt a1))]) (st1 := [.int (Int32.ofInt 1)]) (H1 := mz_mk g x) rfl ?_
        refine mz_gt (tgt := 39) rfl rfl ?_
        (try unfold zJ_X11_row_38 at hE)
        (try unfold zJ_X11_row_39 at hE)
        (try unfold zJ_X11_row_38 at hE)
        (try unfold zJ_X11_row_39 at hE)
        refine mz_csx rfl mt_11_183 rfl (Nat.le_of_ble_eq_true rfl) (by omega) rfl nh_X11_mustBe (f_X11_mustBe (by omega) hx hI (by decide) (by decide) (fun hp7 hc8 => ?_) (fun hc => hX0 (zf_x2 hE hc (by decide))))
        show mm_W d mmX11_row 42 [some (.ref 0), some (.int (Int32.ofInt a1))] [] (mz_mk g x) Q
        replace hE := zf_x1 hE hc8
        refine mm_g 1 (pc1 := 43) (lo1 := [some (.ref 0), some (.int (Int32.ofInt a1))]) (st1 := [.ref 0]) (H1 := mz_mk g x) rfl ?_
        refine mz_fgR (v := x.1) rfl fd_11_16 (by decide) (sc_0 _) rfl ?_
        refine mz_fgR (v := (x.1 + 1)) rfl fd_11_135 (by decide) (kc_load (kx_1 hx) _) (kr_load_0 (kx_1 hx) _ _ _) ?_
        refine mm_g 1 (pc1 := 50) (lo1 := [some (.ref 0), some (.int (Int32.ofInt a1))]) (st1 := [.int (Int32.ofInt a1), .ref (x.1 + 1)]) (H1 := mz_mk g x) rfl ?_
        refine mz_cv rfl mt_11_325 (by decide) (kc_words (ks_load_0 (kx_1 hx)) _) rfl (Nat.le_of_ble_eq_true rfl) (by omega) (f_X10_inRow (by omega) hx hI (ks_load_0 (kx_1 hx)) l_a1 u_a1 (fun v9 l_v9 u_v9 hc10 => ⟨_, rfl, ?_⟩))
        show mm_W d mmX11_row 53 [some (.ref 0), some (.int (Int32.ofInt a1))] [.int (Int32.ofInt v9)] (mz_mk g x) Q
        replace hE := zf_t1 hE hc10
        exact mm_rt rfl rfl (hQ _ (by omega) (by omega) hE)
  · skip
    replace hE := zf_ip hE c2_0
    refine mm_g 1 (pc1 := 6) (lo1 := [some (.ref 0), some (.int (Int32.ofInt a1))]) (st1 := [.ref 0]) (H1 := mz_mk g x) rfl ?_
    refine mz_fgR (v := x.1) rfl fd_11_16 (by decide) (sc_0 _) rfl ?_
    refine mz_fgR (v := (x.1 + 1)) rfl fd_11_135 (by decide) (kc_load (kx_1 hx) _) (kr_load_0 (kx_1 hx) _ _ _) ?_
    refine mz_cv rfl mt_11_322 (by decide) (kc_words (ks_load_0 (kx_1 hx)) _) rfl (Nat.le_of_ble_eq_true rfl) (by omega) (f_X10_rowLetters (by omega) hx hI (ks_load_0 (kx_1 hx)) (fun v11 l_v11 u_v11 hc12 => ⟨_, rfl, ?_⟩))
    show mm_W d mmX11_row 15 [some (.ref 0), some (.int (Int32.ofInt a1))] [.int (Int32.ofInt v11)] (mz_mk g x) Q
    replace hE := zf_t1 hE hc12
    exact mm_rt rfl rfl (hQ _ (by omega) (by omega) hE)
theorem f_X10_chainSize {d : Nat} (hd : 1 ≤ d) {x : mm_X} (hx : mk_x x) {g : mz_G} (hI : mz_inv g) {q0 : Nat} (h_q0 : kd_words q0) {Q : (Option Value ⊕ Nat) → mm_H → Prop} (hQ : ∀ (r : Int), 0 ≤ r → r ≤ 8 → zf_E (zF_X10_chainSize q0 g) (r) → Q (.inl (some (.int (Int32.ofInt r)))) (mz_mk g x)) : mm_C d 114 [.ref q0] (mz_mk g x) Q := by
  have kn_q0 := kn_words h_q0
  refine ⟨mmX10_chainSize, [some (.ref q0)], rfl, rfl, ?_⟩
  have hE : zf_E (zF_X10_chainSize q0 g) (zF_X10_chainSize q0 g) := zf_rf
  refine mm_g 1 (pc1 := 1) (lo1 := [some (.ref q0)]) (st1 := [.ref q0]) (H1 := mz_mk g x) rfl ?_
  refine mz_gI rfl fd_10_47 (by decide) (kc_words h_q0 _) hI (kb_words_9 h_q0) (fun v1 e_v1 l_v1 u_v1 => ?_)
  replace hE := zf_tr hE (zf_le e_v1)
  exact mm_rt rfl rfl (hQ _ (by omega) (by omega) hE)
theorem f_X10_inChain {d : Nat} (hd : 2 ≤ d) {x : mm_X} (hx : mk_x x) {g : mz_G} (hI : mz_inv g) {q0 : Nat} (h_q0 : kd_words q0) {a1 : Int} (l_a1 : (-2147483648) ≤ a1) (u_a1 : a1 ≤ 2147483647) {Q : (Option Value ⊕ Nat) → mm_H → Prop} (hQ : ∀ (r : Int), (-2147483648) ≤ r → r ≤ 2147483647 → zf_E (zF_X10_inChain q0 a1 g) (r) → Q (.inl (some (.int (Int32.ofInt r)))) (mz_mk g x)) : mm_C d 115 [.ref q0, .int (Int32.ofInt a1)] (mz_mk g x) Q := by
  have kn_q0 := kn_words h_q0
  refine ⟨mmX10_inChain, [some (.ref q0), some (.int (Int32.ofInt a1))], rfl, rfl, ?_⟩
  have hE : zf_E (zF_X10_inChain q0 a1 g) (zF_X10_inChain q0 a1 g) := zf_rf
  refine mm_g 1 (pc1 := 1) (lo1 := [some (.ref q0), some (.int (Int32.ofInt a1))]) (st1 := [.ref q0]) (H1 := mz_mk g x) rfl ?_
  refine mz_fgR (v := (q0 + 8)) rfl fd_10_41 (by decide) (kc_words h_q0 _) (kr_words_7 h_q0 _ _ _) ?_
  refine mm_g 1 (pc1 := 5) (lo1 := [some (.ref q0), some (.int (Int32.ofInt a1))]) (st1 := [.int (Int32.ofInt a1), .ref (q0 + 8)]) (H1 := mz_mk g x) rfl ?_
  refine mz_cs rfl mt_10_62 (by decide) rfl (Nat.le_of_ble_eq_true rfl) (by omega) (f_X11_at (by omega) hx hI (ka_words_7 h_q0 _) (by decide) (kba_words_7 h_q0) (by omega) (by omega) l_a1 u_a1 (fun v1 l_v1 u_v1 hc2 => ⟨_, rfl, ?_⟩))
  show mm_W d mmX10_inChain 8 [some (.ref q0), some (.int (Int32.ofInt a1))] [.int (Int32.ofInt v1)] (mz_mk g x) Q
  replace hE := zf_t1 hE hc2
  exact mm_rt rfl rfl (hQ _ (by omega) (by omega) hE)
theorem f_X11_chain {d : Nat} (hd : 13 ≤ d) {x : mm_X} (hx : mk_x x) {g : mz_G} (hI : mz_inv g) {a1 : Int} (l_a1 : (-2147483648) ≤ a1) (u_a1 : a1 ≤ 2147483647) {Q : (Option Value ⊕ Nat) → mm_H → Prop} (hQ : ∀ (r : Int), (-2147483648) ≤ r → r ≤ 2147483647 → zf_E (zF_X11_chain x a1 g) ((0, r, g)) → Q (.inl (some (.int (Int32.ofInt r)))) (mz_mk g x)) (hX0 : (zf_E (zF_X11_chain x a1 g) ((1, 0, g))) → Q (.inr 0) (mz_mk g (mz_tx x))) : mm_C d 150 [.ref 0, .int (Int32.ofInt a1)] (mz_mk g x) Q := by
  have kx := kn_x hx
  refine ⟨mmX11_chain, [some (.ref 0), some (.int (Int32.ofInt a1))], rfl, rfl, ?_⟩
  have hE : zf_E (zF_X11_chain x a1 g) (zF_X11_chain x a1 g) := zf_rf
  refine mm_g 2 (pc1 := 2) (lo1 := [some (.ref 0), some (.int (Int32.ofInt a1))]) (st1 := [.int (Int32.ofInt (-1)), .int (Int32.ofInt a1)]) (H1 := mz_mk g x) rfl ?_
  refine mz_ic_ne (tgt := 16) rfl rfl (mz_rg l_a1 u_a1) ⟨by decide, by decide⟩ (fun c2_0 => ?_) (fun c2_0 => ?_)
  · skip
    replace hE := zf_in hE c2_0
    refine mm_g 1 (pc1 := 17) (lo1 := [some (.ref 0), some (.int (Int32.ofInt a1))]) (st1 := [.int (Int32.ofInt a1)]) (H1 := mz_mk g x) rfl ?_
    refine mz_if_lt (tgt := 38) rfl rfl (mz_rg l_a1 u_a1) (fun c17_0 => ?_) (fun c17_0 => ?_)
    · skip
      replace hE := zf_ip hE c17_0
      refine mm_g 1 (pc1 := 39) (lo1 := [some (.ref 0), some (.int (Int32.ofInt a1))]) (st1 := [.int (Int32.ofInt 0)]) (H1 := mz_mk g x) rfl ?_
      (try unfold zJ_X11_chain_38 at hE)
      (try unfold zJ_X11_chain_39 at hE)
      (try unfold zJ_X11_chain_38 at hE)
      (try unfold zJ_X11_chain_39 at hE)
      refine mz_csx rfl mt_11_183 rfl (Nat.le_of_ble_eq_true rfl) (by omega) rfl nh_X11_mustBe (f_X11_mustBe (by omega) hx hI (by decide) (by decide) (fun hp1 hc2 => ?_) (fun hc => hX0 (zf_x2 hE hc (by decide))))
      show mm_W d mmX11_chain 42 [some (.ref 0), some (.int (Int32.ofInt a1))] [] (mz_mk g x) Q
      replace hE := zf_x1 hE hc2
      exfalso; omega
    · skip
      replace hE := zf_nl hE c17_0
      refine mm_g 2 (pc1 := 22) (lo1 := [some (.ref 0), some (.int (Int32.ofInt a1))]) (st1 := [.ref 0, .int (Int32.ofInt a1)]) (H1 := mz_mk g x) rfl ?_
      refine mz_fgR (v := x.1) rfl fd_11_16 (by decide) (sc_0 _) rfl ?_
      refine mz_fgR (v := (x.1 + 1)) rfl fd_11_135 (by decide) (kc_load (kx_1 hx) _) (kr_load_0 (kx_1 hx) _ _ _) ?_
      refine mz_cv rfl mt_11_328 (by decide) (kc_words (ks_load_0 (kx_1 hx)) _) rfl (Nat.le_of_ble_eq_true rfl) (by omega) (f_X10_chainSize (by omega) hx hI (ks_load_0 (kx_1 hx)) (fun v3 l_v3 u_v3 hc4 => ⟨_, rfl, ?_⟩))
      show mm_W d mmX11_chain 31 [some (.ref 0), some (.int (Int32.ofInt a1))] [.int (Int32.ofInt v3), .int (Int32.ofInt a1)] (mz_mk g x) Q
      replace hE := zf_t1 hE hc4
      refine mz_ic_ge (tgt := 38) rfl rfl (mz_rg l_a1 u_a1) (mz_rg l_v3 u_v3) (fun c31_4 => ?_) (fun c31_4 => ?_)
      · skip
        replace hE := zf_nl hE c31_4
        refine mm_g 1 (pc1 := 39) (lo1 := [some (.ref 0), some (.int (Int32.ofInt a1))]) (st1 := [.int (Int32.ofInt 0)]) (H1 := mz_mk g x) rfl ?_
        (try unfold zJ_X11_chain_38 at hE)
        (try unfold zJ_X11_chain_39 at hE)
        (try unfold zJ_X11_chain_38 at hE)
        (try unfold zJ_X11_chain_39 at hE)
        refine mz_csx rfl mt_11_183 rfl (Nat.le_of_ble_eq_true rfl) (by omega) rfl nh_X11_mustBe (f_X11_mustBe (by omega) hx hI (by decide) (by decide) (fun hp5 hc6 => ?_) (fun hc => hX0 (zf_x2 hE hc (by decide))))
        show mm_W d mmX11_chain 42 [some (.ref 0), some (.int (Int32.ofInt a1))] [] (mz_mk g x) Q
        replace hE := zf_x1 hE hc6
        exfalso; omega
      · skip
        replace hE := zf_ip hE c31_4
        refine mm_g 1 (pc1 := 35) (lo1 := [some (.ref 0), some (.int (Int32.ofInt a1))]) (st1 := [.int (Int32.ofInt 1)]) (H1 := mz_mk g x) rfl ?_
        refine mz_gt (tgt := 39) rfl rfl ?_
        (try unfold zJ_X11_chain_38 at hE)
        (try unfold zJ_X11_chain_39 at hE)
        (try unfold zJ_X11_chain_38 at hE)
        (try unfold zJ_X11_chain_39 at hE)
        refine mz_csx rfl mt_11_183 rfl (Nat.le_of_ble_eq_true rfl) (by omega) rfl nh_X11_mustBe (f_X11_mustBe (by omega) hx hI (by decide) (by decide) (fun hp7 hc8 => ?_) (fun hc => hX0 (zf_x2 hE hc (by decide))))
        show mm_W d mmX11_chain 42 [some (.ref 0), some (.int (Int32.ofInt a1))] [] (mz_mk g x) Q
        replace hE := zf_x1 hE hc8
        refine mm_g 1 (pc1 := 43) (lo1 := [some (.ref 0), some (.int (Int32.ofInt a1))]) (st1 := [.ref 0]) (H1 := mz_mk g x) rfl ?_
        refine mz_fgR (v := x.1) rfl fd_11_16 (by decide) (sc_0 _) rfl ?_
        refine mz_fgR (v := (x.1 + 1)) rfl fd_11_135 (by decide) (kc_load (kx_1 hx) _) (kr_load_0 (kx_1 hx) _ _ _) ?_
        refine mm_g 1 (pc1 := 50) (lo1 := [some (.ref 0), some (.int (Int32.ofInt a1))]) (st1 := [.int (Int32.ofInt a1), .ref (x.1 + 1)]) (H1 := mz_mk g x) rfl ?_
        refine mz_cv rfl mt_11_331 (by decide) (kc_words (ks_load_0 (kx_1 hx)) _) rfl (Nat.le_of_ble_eq_true rfl) (by omega) (f_X10_inChain (by omega) hx hI (ks_load_0 (kx_1 hx)) l_a1 u_a1 (fun v9 l_v9 u_v9 hc10 => ⟨_, rfl, ?_⟩))
        show mm_W d mmX11_chain 53 [some (.ref 0), some (.int (Int32.ofInt a1))] [.int (Int32.ofInt v9)] (mz_mk g x) Q
        replace hE := zf_t1 hE hc10
        exact mm_rt rfl rfl (hQ _ (by omega) (by omega) hE)
  · skip
    replace hE := zf_ip hE c2_0
    refine mm_g 1 (pc1 := 6) (lo1 := [some (.ref 0), some (.int (Int32.ofInt a1))]) (st1 := [.ref 0]) (H1 := mz_mk g x) rfl ?_
    refine mz_fgR (v := x.1) rfl fd_11_16 (by decide) (sc_0 _) rfl ?_
    refine mz_fgR (v := (x.1 + 1)) rfl fd_11_135 (by decide) (kc_load (kx_1 hx) _) (kr_load_0 (kx_1 hx) _ _ _) ?_
    refine mz_cv rfl mt_11_328 (by decide) (kc_words (ks_load_0 (kx_1 hx)) _) rfl (Nat.le_of_ble_eq_true rfl) (by omega) (f_X10_chainSize (by omega) hx hI (ks_load_0 (kx_1 hx)) (fun v11 l_v11 u_v11 hc12 => ⟨_, rfl, ?_⟩))
    show mm_W d mmX11_chain 15 [some (.ref 0), some (.int (Int32.ofInt a1))] [.int (Int32.ofInt v11)] (mz_mk g x) Q
    replace hE := zf_t1 hE hc12
    exact mm_rt rfl rfl (hQ _ (by omega) (by omega) hE)
def fl_X11_toDraw_18 (x : mm_X) (a1 : Int) (a2 : Int) : Nat → Nat → Prop := fun k j => k = 122 ∨ k = ((x.1 + 36) + 2) ∨ k = ((x.1 + 36) + 3)
def fw_X11_toDraw (x : mm_X) (a1 : Int) (a2 : Int) : Nat → Nat → Prop := fun k j => k = 122 ∨ k = ((x.1 + 36) + 2) ∨ k = ((x.1 + 36) + 3)
theorem f_X11_toDraw {d : Nat} (hd : 16 ≤ d) {x : mm_X} (hx : mk_x x) {g : mz_G} (hI : mz_inv g) {a1 : Int} (l_a1 : (-2147483648) ≤ a1) (u_a1 : a1 ≤ 2147483647) {a2 : Int} (l_a2 : (-2147483648) ≤ a2) (u_a2 : a2 ≤ 2147483647) {Q : (Option Value ⊕ Nat) → mm_H → Prop} (hQ : ∀ (r : Int) (g1 : mz_G), mz_inv g1 → mz_fr (fw_X11_toDraw x a1 a2) g g1 → (-1) ≤ r → r ≤ 9 → zf_E (zF_X11_toDraw x a1 a2 g) ((0, r, g1)) → Q (.inl (some (.int (Int32.ofInt r)))) (mz_mk g1 x)) (hX0 : (zf_E (zF_X11_toDraw x a1 a2 g) ((1, 0, g))) → Q (.inr 0) (mz_mk g (mz_tx x))) (hX1 : (zf_E (zF_X11_toDraw x a1 a2 g) ((2, 0, g))) → Q (.inr 1) (mz_mk g (mz_tx x))) : mm_C d 151 [.ref 0, .int (Int32.ofInt a1), .int (Int32.ofInt a2)] (mz_mk g x) Q := by
  have kx := kn_x hx
  refine ⟨mmX11_toDraw, [some (.ref 0), some (.int (Int32.ofInt a1)), some (.int (Int32.ofInt a2)), none], rfl, rfl, ?_⟩
  have hE : zf_E (zF_X11_toDraw x a1 a2 g) (zF_X11_toDraw x a1 a2 g) := zf_rf
  refine mm_g 2 (pc1 := 2) (lo1 := [some (.ref 0), some (.int (Int32.ofInt a1)), some (.int (Int32.ofInt a2)), none]) (st1 := [.int (Int32.ofInt a1), .ref 0]) (H1 := mz_mk g x) rfl ?_
  refine mz_cv rfl mt_11_231 (by decide) (sc_0 _) rfl (Nat.le_of_ble_eq_true rfl) (by omega) (f_X11_isTrunk (by omega) hx hI l_a1 u_a1 (fun v1 l_v1 u_v1 hc2 => ⟨_, rfl, ?_⟩))
  show mm_W d mmX11_toDraw 5 [some (.ref 0), some (.int (Int32.ofInt a1)), some (.int (Int32.ofInt a2)), none] [.int (Int32.ofInt v1)] (mz_mk g x) Q
  replace hE := zf_t1 hE hc2
  refine mz_csx rfl mt_11_183 rfl (Nat.le_of_ble_eq_true rfl) (by omega) rfl nh_X11_mustBe (f_X11_mustBe (by omega) hx hI l_v1 u_v1 (fun hp3 hc4 => ?_) (fun hc => hX0 (zf_x2 hE hc (by decide))))
  show mm_W d mmX11_toDraw 8 [some (.ref 0), some (.int (Int32.ofInt a1)), some (.int (Int32.ofInt a2)), none] [] (mz_mk g x) Q
  replace hE := zf_x1 hE hc4
  refine mm_g 1 (pc1 := 9) (lo1 := [some (.ref 0), some (.int (Int32.ofInt a1)), some (.int (Int32.ofInt a2)), none]) (st1 := [.int (Int32.ofInt a2)]) (H1 := mz_mk g x) rfl ?_
  refine mz_cs rfl mt_11_279 (by decide) rfl (Nat.le_of_ble_eq_true rfl) (by omega) (f_X11_isAhead (by omega) hx hI l_a2 u_a2 (fun v5 l_v5 u_v5 hc6 => ⟨_, rfl, ?_⟩))
  show mm_W d mmX11_toDraw 12 [some (.ref 0), some (.int (Int32.ofInt a1)), some (.int (Int32.ofInt a2)), none] [.int (Int32.ofInt v5)] (mz_mk g x) Q
  replace hE := zf_t1 hE hc6
  refine mz_csx rfl mt_11_106 rfl (Nat.le_of_ble_eq_true rfl) (by omega) rfl nh_X11_mustFit (f_X11_mustFit (by omega) hx hI l_v5 u_v5 (fun hp7 hc8 => ?_) (fun hc => hX1 (zf_x2 hE hc (by decide))))
  show mm_W d mmX11_toDraw 15 [some (.ref 0), some (.int (Int32.ofInt a1)), some (.int (Int32.ofInt a2)), none] [] (mz_mk g x) Q
  replace hE := zf_x1 hE hc8
  refine mz_bip rfl bip_9 ?_
  refine mm_g 1 (pc1 := 18) (lo1 := [some (.ref 0), some (.int (Int32.ofInt a1)), some (.int (Int32.ofInt a2)), some (.int (Int32.ofInt 9))]) (st1 := []) (H1 := mz_mk g x) rfl ?_
  have L13 : ∀ n12 : Nat, ∀ (v9 : Int) (g10 : mz_G), (v9 - (-1)).toNat = n12 → (-1) ≤ v9 → v9 ≤ 9 → mz_inv g10 → mz_fr (fl_X11_toDraw_18 x a1 a2) g g10 → (∃ fk : Nat, (v9 - (-1)).toNat < fk ∧ zf_E (zF_X11_toDraw x a1 a2 g) (zL_X11_toDraw_18 x a1 a2 fk v9 g10)) → mm_W d mmX11_toDraw 18 [some (.ref 0), some (.int (Int32.ofInt a1)), some (.int (Int32.ofInt a2)), some (.int (Int32.ofInt v9))] [] (mz_mk g10 x) Q := by
    intro n12
    induction n12 using Nat.strongRecOn with
    | ind n12 ih11 =>
    intro v9 g10 hmn12 l_v9 u_v9 hIg10 hfg10 hF
    obtain ⟨fk, fl, hE⟩ := hF
    obtain ⟨fj14, rfl⟩ : ∃ fj, fk = fj + 1 := ⟨fk - 1, by omega⟩
    have fn15 : n12 ≤ fj14 := by omega
    replace hE := zf_tr hE zL_X11_toDraw_18_s
    refine mm_g 1 (pc1 := 19) (lo1 := [some (.ref 0), some (.int (Int32.ofInt a1)), some (.int (Int32.ofInt a2)), some (.int (Int32.ofInt v9))]) (st1 := [.int (Int32.ofInt v9)]) (H1 := mz_mk g10 x) rfl ?_
    refine mz_if_lt (tgt := 51) rfl rfl (mz_rg l_v9 u_v9) (fun c19_15 => ?_) (fun c19_15 => ?_)
    · skip
      replace hE := zf_ip hE c19_15
      refine mm_g 1 (pc1 := 52) (lo1 := [some (.ref 0), some (.int (Int32.ofInt a1)), some (.int (Int32.ofInt a2)), some (.int (Int32.ofInt v9))]) (st1 := [.int (Int32.ofInt (-1))]) (H1 := mz_mk g10 x) rfl ?_
      exact mm_rt rfl rfl (hQ _ _ hIg10 (fun k j hk => (hfg10 k j (fun h => hk (Or.elim h (fun h => (Or.inl h)) (fun h => (Or.elim h (fun h => (Or.inr (Or.inl h))) (fun h => (Or.inr (Or.inr h))))))))) (by decide) (by decide) hE)
    · skip
      replace hE := zf_nl hE c19_15
      refine mm_g 4 (pc1 := 26) (lo1 := [some (.ref 0), some (.int (Int32.ofInt a1)), some (.int (Int32.ofInt a2)), some (.int (Int32.ofInt v9))]) (st1 := [.int (Int32.ofInt a2), .int (Int32.ofInt v9), .int (Int32.ofInt a1), .ref 0]) (H1 := mz_mk g10 x) rfl ?_
      refine mz_cv rfl mt_11_282 (by decide) (sc_0 _) rfl (Nat.le_of_ble_eq_true rfl) (by omega) (f_X11_growProbe (by omega) hx hIg10 l_a1 u_a1 (by omega) (by omega) l_a2 u_a2 (fun g16 hIg16 hfg16 hc17 => ⟨_, rfl, ?_⟩))
      show mm_W d mmX11_toDraw 29 [some (.ref 0), some (.int (Int32.ofInt a1)), some (.int (Int32.ofInt a2)), some (.int (Int32.ofInt v9))] [] (mz_mk g16 x) Q
      replace hE := zf_t1 hE hc17
      refine mm_g 1 (pc1 := 30) (lo1 := [some (.ref 0), some (.int (Int32.ofInt a1)), some (.int (Int32.ofInt a2)), some (.int (Int32.ofInt v9))]) (st1 := [.ref 0]) (H1 := mz_mk g16 x) rfl ?_
      refine mz_fgR (v := x.1) rfl fd_11_16 (by decide) (sc_0 _) rfl ?_
      refine mm_g 1 (pc1 := 34) (lo1 := [some (.ref 0), some (.int (Int32.ofInt a1)), some (.int (Int32.ofInt a2)), some (.int (Int32.ofInt v9))]) (st1 := [.ref 0, .ref x.1]) (H1 := mz_mk g16 x) rfl ?_
      refine mz_fgR (v := 122) rfl fd_11_65 (by decide) (sc_0 _) (rf_0_10 _ _ _) ?_
      refine mz_cv rfl mt_11_259 (by decide) (kc_load (kx_1 hx) _) rfl (Nat.le_of_ble_eq_true rfl) (by omega) (f_X1_isFull (by omega) hx hIg16 (kx_1 hx) kp_trunk_122 (fun v18 l_v18 u_v18 hc19 => ⟨_, rfl, ?_⟩))
      show mm_W d mmX11_toDraw 40 [some (.ref 0), some (.int (Int32.ofInt a1)), some (.int (Int32.ofInt a2)), some (.int (Int32.ofInt v9))] [.int (Int32.ofInt v18)] (mz_mk g16 x) Q
      replace hE := zf_t1 hE hc19
      refine mz_if_eq (tgt := 45) rfl rfl (mz_rg l_v18 u_v18) (fun c40_19 => ?_) (fun c40_19 => ?_)
      · skip
        replace hE := zf_ip hE c40_19
        refine mz_iincR (v := v9) (lo2 := [some (.ref 0), some (.int (Int32.ofInt a1)), some (.int (Int32.ofInt a2)), some (.int (Int32.ofInt (v9 + (-1))))]) rfl rfl rfl (Nat.le_of_ble_eq_true rfl) rfl ?_
        refine mz_gt (tgt := 18) rfl rfl ?_
        exact ih11 (((v9 + (-1)) - (-1)).toNat) (by omega) (v9 + (-1)) g16 rfl (by omega) (by omega) hIg16 (fun k j hk => ((hfg16 k j (fun h => hk (Or.elim h (fun h => (Or.inl h)) (fun h => (Or.elim h (fun h => (Or.inr (Or.inl h))) (fun h => (Or.inr (Or.inr h)))))))).trans (hfg10 k j (fun h => hk (Or.elim h (fun h => (Or.inl h)) (fun h => (Or.elim h (fun h => (Or.inr (Or.inl h))) (fun h => (Or.inr (Or.inr h)))))))))) ⟨fj14, Nat.lt_of_lt_of_le (show (((v9 + (-1)) - (-1)).toNat) < n12 from (by omega)) fn15, hE⟩
      · skip
        replace hE := zf_in hE c40_19
        refine mm_g 1 (pc1 := 44) (lo1 := [some (.ref 0), some (.int (Int32.ofInt a1)), some (.int (Int32.ofInt a2)), some (.int (Int32.ofInt v9))]) (st1 := [.int (Int32.ofInt v9)]) (H1 := mz_mk g16 x) rfl ?_
        exact mm_rt rfl rfl (hQ _ _ hIg16 (fun k j hk => ((hfg16 k j (fun h => hk (Or.elim h (fun h => (Or.inl h)) (fun h => (Or.elim h (fun h => (Or.inr (Or.inl h))) (fun h => (Or.inr (Or.inr h)))))))).trans (hfg10 k j (fun h => hk (Or.elim h (fun h => (Or.inl h)) (fun h => (Or.elim h (fun h => (Or.inr (Or.inl h))) (fun h => (Or.inr (Or.inr h)))))))))) (by omega) (by omega) hE)
  exact L13 _ 9 g rfl (by decide) (by decide) hI (fun _ _ _ => rfl) ⟨3000000000, by omega, hE⟩
theorem f_X3_total {d : Nat} (hd : 1 ≤ d) {x : mm_X} (hx : mk_x x) {g : mz_G} (hI : mz_inv g) {Q : (Option Value ⊕ Nat) → mm_H → Prop} (hQ : ∀ (r : Int), (-2147483648) ≤ r → r ≤ 2147483647 → zf_E (zF_X3_total g) (r) → Q (.inl (some (.int (Int32.ofInt r)))) (mz_mk g x)) : mm_C d 29 [.ref 118] (mz_mk g x) Q := by
  refine ⟨mmX3_total, [some (.ref 118)], rfl, rfl, ?_⟩
  have hE : zf_E (zF_X3_total g) (zF_X3_total g) := zf_rf
  refine mm_g 1 (pc1 := 1) (lo1 := [some (.ref 118)]) (st1 := [.ref 118]) (H1 := mz_mk g x) rfl ?_
  refine mz_gI rfl fd_3_21 (by decide) (sc_118 _) hI bd_118_3 (fun v1 e_v1 l_v1 u_v1 => ?_)
  replace hE := zf_tr hE (zf_le e_v1)
  exact mm_rt rfl rfl (hQ _ (by omega) (by omega) hE)
def fw_X11_couples (x : mm_X) : Nat → Nat → Prop := fun k j => k = 133 ∨ k = 134 ∨ k = 135 ∨ k = 136 ∨ k = 117 ∨ k = 119 ∨ k = 120 ∨ (k = 118 ∧ j = 3) ∨ k = 121
theorem f_X11_couples {d : Nat} (hd : 15 ≤ d) {x : mm_X} (hx : mk_x x) {g : mz_G} (hI : mz_inv g) {Q : (Option Value ⊕ Nat) → mm_H → Prop} (hQ : ∀ (r : Int) (g1 : mz_G), mz_inv g1 → mz_fr (fw_X11_couples x) g g1 → (-2147483648) ≤ r → r ≤ 2147483647 → zf_E (zF_X11_couples x g) ((r, g1)) → Q (.inl (some (.int (Int32.ofInt r)))) (mz_mk g1 x)) : mm_C d 152 [.ref 0] (mz_mk g x) Q := by
  have kx := kn_x hx
  refine ⟨mmX11_couples, [some (.ref 0)], rfl, rfl, ?_⟩
  have hE : zf_E (zF_X11_couples x g) (zF_X11_couples x g) := zf_rf
  refine mm_g 1 (pc1 := 1) (lo1 := [some (.ref 0)]) (st1 := [.ref 0]) (H1 := mz_mk g x) rfl ?_
  refine mz_cv rfl mt_11_247 (by decide) (sc_0 _) rfl (Nat.le_of_ble_eq_true rfl) (by omega) (f_X11_findCouples (by omega) hx hI (fun g1 hIg1 hfg1 hc2 => ⟨_, rfl, ?_⟩))
  show mm_W d mmX11_couples 4 [some (.ref 0)] [] (mz_mk g1 x) Q
  replace hE := zf_t1 hE hc2
  refine mm_g 1 (pc1 := 5) (lo1 := [some (.ref 0)]) (st1 := [.ref 0]) (H1 := mz_mk g1 x) rfl ?_
  refine mz_fgR (v := 118) rfl fd_11_58 (by decide) (sc_0 _) (rf_0_9 _ _ _) ?_
  refine mz_cv rfl mt_11_334 (by decide) (sc_118 _) rfl (Nat.le_of_ble_eq_true rfl) (by omega) (f_X3_total (by omega) hx hIg1 (fun v3 l_v3 u_v3 hc4 => ⟨_, rfl, ?_⟩))
  show mm_W d mmX11_couples 11 [some (.ref 0)] [.int (Int32.ofInt v3)] (mz_mk g1 x) Q
  replace hE := zf_t1 hE hc4
  exact mm_rt rfl rfl (hQ _ _ hIg1 (fun k j hk => (hfg1 k j (fun h => hk (Or.elim h (fun h => (Or.inl h)) (fun h => (Or.elim h (fun h => (Or.inr (Or.inl h))) (fun h => (Or.elim h (fun h => (Or.inr (Or.inr (Or.inl h)))) (fun h => (Or.elim h (fun h => (Or.inr (Or.inr (Or.inr (Or.inl h))))) (fun h => (Or.elim h (fun h => (Or.inr (Or.inr (Or.inr (Or.inr (Or.inl h)))))) (fun h => (Or.elim h (fun h => (Or.inr (Or.inr (Or.inr (Or.inr (Or.inr (Or.inl h))))))) (fun h => (Or.elim h (fun h => (Or.inr (Or.inr (Or.inr (Or.inr (Or.inr (Or.inr (Or.inl h)))))))) (fun h => (Or.elim h (fun h => (Or.inr (Or.inr (Or.inr (Or.inr (Or.inr (Or.inr (Or.inr (Or.inl h))))))))) (fun h => (Or.inr (Or.inr (Or.inr (Or.inr (Or.inr (Or.inr (Or.inr (Or.inr h))))))))))))))))))))))))))) (by omega) (by omega) hE)
def fw_X6_addSeen (x : mm_X) (q0 : Nat) (a1 : Int) (a2 : Int) (a3 : Int) : Nat → Nat → Prop := fun k j => k = (q0 + 11) ∨ k = (q0 + 12) ∨ k = (q0 + 13) ∨ k = q0
theorem f_X6_addSeen {d : Nat} (hd : 2 ≤ d) {x : mm_X} (hx : mk_x x) {g : mz_G} (hI : mz_inv g) {q0 : Nat} (h_q0 : kd_story q0) {a1 : Int} (l_a1 : (-2147483648) ≤ a1) (u_a1 : a1 ≤ 2147483647) {a2 : Int} (l_a2 : 0 ≤ a2) (u_a2 : a2 ≤ 20) {a3 : Int} (l_a3 : (-2147483648) ≤ a3) (u_a3 : a3 ≤ 2147483647) {Q : (Option Value ⊕ Nat) → mm_H → Prop} (hQ : ∀ (g1 : mz_G), mz_inv g1 → mz_fr (fw_X6_addSeen x q0 a1 a2 a3) g g1 → zf_E (zF_X6_addSeen q0 a1 a2 a3 g) (g1) → Q (.inl none) (mz_mk g1 x)) : mm_C d 74 [.ref q0, .int (Int32.ofInt a1), .int (Int32.ofInt a2), .int (Int32.ofInt a3)] (mz_mk g x) Q := by
  have kn_q0 := kn_story h_q0
  refine ⟨mmX6_addSeen, [some (.ref q0), some (.int (Int32.ofInt a1)), some (.int (Int32.ofInt a2)), some (.int (Int32.ofInt a3))], rfl, rfl, ?_⟩
  have hE : zf_E (zF_X6_addSeen q0 a1 a2 a3 g) (zF_X6_addSeen q0 a1 a2 a3 g) := zf_rf
  refine mm_g 1 (pc1 := 1) (lo1 := [some (.ref q0), some (.int (Int32.ofInt a1)), some (.int (Int32.ofInt a2)), some (.int (Int32.ofInt a3))]) (st1 := [.ref q0]) (H1 := mz_mk g x) rfl ?_
  refine mz_gI rfl fd_6_38 (by decide) (kc_story h_q0 _) hI (kb_story_7 h_q0) (fun v1 e_v1 l_v1 u_v1 => ?_)
  replace hE := zf_tr hE (zf_le e_v1)
  refine mz_bip rfl bip_8 ?_
  refine mz_ic_ge (tgt := 55) rfl rfl (mz_rg l_v1 u_v1) ⟨by decide, by decide⟩ (fun c6_1 => ?_) (fun c6_1 => ?_)
  · skip
    replace hE := zf_nl hE c6_1
    exact mm_rt rfl rfl (hQ _ hI (fun _ _ _ => rfl) hE)
  · skip
    replace hE := zf_ip hE c6_1
    refine mm_g 1 (pc1 := 10) (lo1 := [some (.ref q0), some (.int (Int32.ofInt a1)), some (.int (Int32.ofInt a2)), some (.int (Int32.ofInt a3))]) (st1 := [.ref q0]) (H1 := mz_mk g x) rfl ?_
    refine mz_fgR (v := (q0 + 11)) rfl fd_6_29 (by decide) (kc_story h_q0 _) (kr_story_4 h_q0 _ _ _) ?_
    refine mm_g 1 (pc1 := 14) (lo1 := [some (.ref q0), some (.int (Int32.ofInt a1)), some (.int (Int32.ofInt a2)), some (.int (Int32.ofInt a3))]) (st1 := [.ref q0, .ref (q0 + 11)]) (H1 := mz_mk g x) rfl ?_
    refine mz_fgI (v := v1) rfl fd_6_38 (by decide) (kc_story h_q0 _) e_v1 ?_
    replace hE := zf_tr hE (zf_le e_v1)
    refine mm_g 1 (pc1 := 18) (lo1 := [some (.ref q0), some (.int (Int32.ofInt a1)), some (.int (Int32.ofInt a2)), some (.int (Int32.ofInt a3))]) (st1 := [.int (Int32.ofInt a1), .int (Int32.ofInt v1), .ref (q0 + 11)]) (H1 := mz_mk g x) rfl ?_
    refine mz_cs rfl mt_6_56 (by decide) rfl (Nat.le_of_ble_eq_true rfl) (by omega) (f_X11_put (by omega) hx hI (ka_story_4 h_q0 _) (by decide) (kba_story_4 h_q0) (by omega) (by omega) (by omega) (by omega) l_a1 u_a1 (by omega) (by omega) (fun g2 hIg2 hfg2 hc3 => ⟨_, rfl, ?_⟩))
    show mm_W d mmX6_addSeen 21 [some (.ref q0), some (.int (Int32.ofInt a1)), some (.int (Int32.ofInt a2)), some (.int (Int32.ofInt a3))] [] (mz_mk g2 x) Q
    replace hE := zf_t1 hE hc3
    refine mm_g 1 (pc1 := 22) (lo1 := [some (.ref q0), some (.int (Int32.ofInt a1)), some (.int (Int32.ofInt a2)), some (.int (Int32.ofInt a3))]) (st1 := [.ref q0]) (H1 := mz_mk g2 x) rfl ?_
    refine mz_fgR (v := (q0 + 12)) rfl fd_6_32 (by decide) (kc_story h_q0 _) (kr_story_5 h_q0 _ _ _) ?_
    refine mm_g 1 (pc1 := 26) (lo1 := [some (.ref q0), some (.int (Int32.ofInt a1)), some (.int (Int32.ofInt a2)), some (.int (Int32.ofInt a3))]) (st1 := [.ref q0, .ref (q0 + 12)]) (H1 := mz_mk g2 x) rfl ?_
    refine mz_fgI (v := v1) rfl fd_6_38 (by decide) (kc_story h_q0 _) (show g2 q0 7 = v1 from ((hfg2 q0 7 (fun h => (by have h9 : q0 = (q0 + 11) := h; omega))).trans e_v1)) ?_
    replace hE := zf_tr hE (zf_le (show g2 q0 7 = v1 from ((hfg2 q0 7 (fun h => (by have h9 : q0 = (q0 + 11) := h; omega))).trans e_v1)))
    refine mm_g 1 (pc1 := 30) (lo1 := [some (.ref q0), some (.int (Int32.ofInt a1)), some (.int (Int32.ofInt a2)), some (.int (Int32.ofInt a3))]) (st1 := [.int (Int32.ofInt a2), .int (Int32.ofInt v1), .ref (q0 + 12)]) (H1 := mz_mk g2 x) rfl ?_
    refine mz_cs rfl mt_6_56 (by decide) rfl (Nat.le_of_ble_eq_true rfl) (by omega) (f_X11_put (by omega) hx hIg2 (ka_story_5 h_q0 _) (by decide) (kba_story_5 h_q0) (by omega) (by omega) (by omega) (by omega) (by omega) (by omega) (by omega) (by omega) (fun g4 hIg4 hfg4 hc5 => ⟨_, rfl, ?_⟩))
    show mm_W d mmX6_addSeen 33 [some (.ref q0), some (.int (Int32.ofInt a1)), some (.int (Int32.ofInt a2)), some (.int (Int32.ofInt a3))] [] (mz_mk g4 x) Q
    replace hE := zf_t1 hE hc5
    refine mm_g 1 (pc1 := 34) (lo1 := [some (.ref q0), some (.int (Int32.ofInt a1)), some (.int (Int32.ofInt a2)), some (.int (Int32.ofInt a3))]) (st1 := [.ref q0]) (H1 := mz_mk g4 x) rfl ?_
    refine mz_fgR (v := (q0 + 13)) rfl fd_6_35 (by decide) (kc_story h_q0 _) (kr_story_6 h_q0 _ _ _) ?_
    refine mm_g 1 (pc1 := 38) (lo1 := [some (.ref q0), some (.int (Int32.ofInt a1)), some (.int (Int32.ofInt a2)), some (.int (Int32.ofInt a3))]) (st1 := [.ref q0, .ref (q0 + 13)]) (H1 := mz_mk g4 x) rfl ?_
    refine mz_fgI (v := v1) rfl fd_6_38 (by decide) (kc_story h_q0 _) (show g4 q0 7 = v1 from ((hfg4 q0 7 (fun h => (by have h9 : q0 = (q0 + 12) := h; omega))).trans ((hfg2 q0 7 (fun h => (by have h9 : q0 = (q0 + 11) := h; omega))).trans e_v1))) ?_
    replace hE := zf_tr hE (zf_le (show g4 q0 7 = v1 from ((hfg4 q0 7 (fun h => (by have h9 : q0 = (q0 + 12) := h; omega))).trans ((hfg2 q0 7 (fun h => (by have h9 : q0 = (q0 + 11) := h; omega))).trans e_v1))))
    refine mm_g 1 (pc1 := 42) (lo1 := [some (.ref q0), some (.int (Int32.ofInt a1)), some (.int (Int32.ofInt a2)), some (.int (Int32.ofInt a3))]) (st1 := [.int (Int32.ofInt a3), .int (Int32.ofInt v1), .ref (q0 + 13)]) (H1 := mz_mk g4 x) rfl ?_
    refine mz_cs rfl mt_6_56 (by decide) rfl (Nat.le_of_ble_eq_true rfl) (by omega) (f_X11_put (by omega) hx hIg4 (ka_story_6 h_q0 _) (by decide) (kba_story_6 h_q0) (by omega) (by omega) (by omega) (by omega) l_a3 u_a3 (by omega) (by omega) (fun g6 hIg6 hfg6 hc7 => ⟨_, rfl, ?_⟩))
    show mm_W d mmX6_addSeen 45 [some (.ref q0), some (.int (Int32.ofInt a1)), some (.int (Int32.ofInt a2)), some (.int (Int32.ofInt a3))] [] (mz_mk g6 x) Q
    replace hE := zf_t1 hE hc7
    refine mm_g 2 (pc1 := 47) (lo1 := [some (.ref q0), some (.int (Int32.ofInt a1)), some (.int (Int32.ofInt a2)), some (.int (Int32.ofInt a3))]) (st1 := [.ref q0, .ref q0]) (H1 := mz_mk g6 x) rfl ?_
    refine mz_fgI (v := v1) rfl fd_6_38 (by decide) (kc_story h_q0 _) (show g6 q0 7 = v1 from ((hfg6 q0 7 (fun h => (by have h9 : q0 = (q0 + 13) := h; omega))).trans ((hfg4 q0 7 (fun h => (by have h9 : q0 = (q0 + 12) := h; omega))).trans ((hfg2 q0 7 (fun h => (by have h9 : q0 = (q0 + 11) := h; omega))).trans e_v1)))) ?_
    replace hE := zf_tr hE (zf_le (show g6 q0 7 = v1 from ((hfg6 q0 7 (fun h => (by have h9 : q0 = (q0 + 13) := h; omega))).trans ((hfg4 q0 7 (fun h => (by have h9 : q0 = (q0 + 12) := h; omega))).trans ((hfg2 q0 7 (fun h => (by have h9 : q0 = (q0 + 11) := h; omega))).trans e_v1)))))
    refine mm_g 1 (pc1 := 51) (lo1 := [some (.ref q0), some (.int (Int32.ofInt a1)), some (.int (Int32.ofInt a2)), some (.int (Int32.ofInt a3))]) (st1 := [.int (Int32.ofInt 1), .int (Int32.ofInt v1), .ref q0]) (H1 := mz_mk g6 x) rfl ?_
    refine mz_iadd rfl ?_
    refine mz_pI rfl fd_6_38 (kc_story h_q0 _) hIg6 (kb_story_7 h_q0) (by omega) (by omega) (fun g8 hIg8 hug8 => ?_)
    replace hE := zf_tr hE (zf_lg hug8)
    exact mm_rt rfl rfl (hQ _ hIg8 (fun k j hk => ((hug8.2 k j (fun h => hk (Or.inr (Or.inr (Or.inr h.1))))).trans ((hfg6 k j (fun h => hk (Or.inr (Or.inr (Or.inl h))))).trans ((hfg4 k j (fun h => hk (Or.inr (Or.inl h)))).trans (hfg2 k j (fun h => hk (Or.inl h))))))) hE)
def fw_X11_see (x : mm_X) (a1 : Int) (a2 : Int) (a3 : Int) : Nat → Nat → Prop := fun k j => k = 100 ∨ k = 97 ∨ k = 98 ∨ k = 99 ∨ k = 86
theorem f_X11_see {d : Nat} (hd : 13 ≤ d) {x : mm_X} (hx : mk_x x) {g : mz_G} (hI : mz_inv g) {a1 : Int} (l_a1 : (-2147483648) ≤ a1) (u_a1 : a1 ≤ 2147483647) {a2 : Int} (l_a2 : (-2147483648) ≤ a2) (u_a2 : a2 ≤ 2147483647) {a3 : Int} (l_a3 : (-2147483648) ≤ a3) (u_a3 : a3 ≤ 2147483647) {Q : (Option Value ⊕ Nat) → mm_H → Prop} (hQ : ∀ (r : Int) (g1 : mz_G), mz_inv g1 → mz_fr (fw_X11_see x a1 a2 a3) g g1 → (-1) ≤ r → r ≤ 8 → zf_E (zF_X11_see x a1 a2 a3 g) ((0, r, g1)) → Q (.inl (some (.int (Int32.ofInt r)))) (mz_mk g1 x)) (hX0 : (zf_E (zF_X11_see x a1 a2 a3 g) ((1, 0, g))) → Q (.inr 0) (mz_mk g (mz_tx x))) : mm_C d 154 [.ref 0, .int (Int32.ofInt a1), .int (Int32.ofInt a2), .int (Int32.ofInt a3)] (mz_mk g x) Q := by
  have kx := kn_x hx
  refine ⟨mmX11_see, [some (.ref 0), some (.int (Int32.ofInt a1)), some (.int (Int32.ofInt a2)), some (.int (Int32.ofInt a3)), none], rfl, rfl, ?_⟩
  have hE : zf_E (zF_X11_see x a1 a2 a3 g) (zF_X11_see x a1 a2 a3 g) := zf_rf
  refine mm_g 2 (pc1 := 2) (lo1 := [some (.ref 0), some (.int (Int32.ofInt a1)), some (.int (Int32.ofInt a2)), some (.int (Int32.ofInt a3)), none]) (st1 := [.int (Int32.ofInt a1), .ref 0]) (H1 := mz_mk g x) rfl ?_
  refine mz_cv rfl mt_11_231 (by decide) (sc_0 _) rfl (Nat.le_of_ble_eq_true rfl) (by omega) (f_X11_isTrunk (by omega) hx hI l_a1 u_a1 (fun v1 l_v1 u_v1 hc2 => ⟨_, rfl, ?_⟩))
  show mm_W d mmX11_see 5 [some (.ref 0), some (.int (Int32.ofInt a1)), some (.int (Int32.ofInt a2)), some (.int (Int32.ofInt a3)), none] [.int (Int32.ofInt v1)] (mz_mk g x) Q
  replace hE := zf_t1 hE hc2
  (try unfold zJ_X11_see_32 at hE)
  (try unfold zJ_X11_see_33 at hE)
  (try unfold zJ_X11_see_52 at hE)
  (try unfold zJ_X11_see_32 at hE)
  (try unfold zJ_X11_see_33 at hE)
  (try unfold zJ_X11_see_52 at hE)
  refine mz_csx rfl mt_11_183 rfl (Nat.le_of_ble_eq_true rfl) (by omega) rfl nh_X11_mustBe (f_X11_mustBe (by omega) hx hI l_v1 u_v1 (fun hp3 hc4 => ?_) (fun hc => hX0 (zf_x2 hE hc (by decide))))
  show mm_W d mmX11_see 8 [some (.ref 0), some (.int (Int32.ofInt a1)), some (.int (Int32.ofInt a2)), some (.int (Int32.ofInt a3)), none] [] (mz_mk g x) Q
  replace hE := zf_x1 hE hc4
  refine mm_g 1 (pc1 := 9) (lo1 := [some (.ref 0), some (.int (Int32.ofInt a1)), some (.int (Int32.ofInt a2)), some (.int (Int32.ofInt a3)), none]) (st1 := [.int (Int32.ofInt a2)]) (H1 := mz_mk g x) rfl ?_
  refine mz_if_lt (tgt := 32) rfl rfl (mz_rg l_a2 u_a2) (fun c9_4 => ?_) (fun c9_4 => ?_)
  · skip
    replace hE := zf_ip hE c9_4
    refine mm_g 3 (pc1 := 37) (lo1 := [some (.ref 0), some (.int (Int32.ofInt a1)), some (.int (Int32.ofInt a2)), some (.int (Int32.ofInt a3)), some (.int (Int32.ofInt 0))]) (st1 := [.int (Int32.ofInt 0)]) (H1 := mz_mk g x) rfl ?_
    refine mz_if_eq (tgt := 52) rfl rfl ⟨by decide, by decide⟩ (fun c37_4 => ?_) (fun c37_4 => ?_)
    · skip
      (try unfold zJ_X11_see_32 at hE)
      (try unfold zJ_X11_see_33 at hE)
      (try unfold zJ_X11_see_52 at hE)
      (try unfold zJ_X11_see_32 at hE)
      (try unfold zJ_X11_see_33 at hE)
      (try unfold zJ_X11_see_52 at hE)
      replace hE := zf_ip hE c37_4
      refine mm_g 1 (pc1 := 53) (lo1 := [some (.ref 0), some (.int (Int32.ofInt a1)), some (.int (Int32.ofInt a2)), some (.int (Int32.ofInt a3)), some (.int (Int32.ofInt 0))]) (st1 := [.ref 0]) (H1 := mz_mk g x) rfl ?_
      refine mz_fgR (v := 86) rfl fd_11_37 (by decide) (sc_0 _) (rf_0_5 _ _ _) ?_
      refine mm_g 1 (pc1 := 57) (lo1 := [some (.ref 0), some (.int (Int32.ofInt a1)), some (.int (Int32.ofInt a2)), some (.int (Int32.ofInt a3)), some (.int (Int32.ofInt 0))]) (st1 := [.int (Int32.ofInt 2), .ref 86]) (H1 := mz_mk g x) rfl ?_
      refine mz_cv rfl mt_11_131 (by decide) (sc_86 _) rfl (Nat.le_of_ble_eq_true rfl) (by omega) (f_X6_refuse (by omega) hx hI kp_story_86 (by decide) (by decide) (fun v5 g6 hIg6 hfg6 l_v5 u_v5 hc7 => ⟨_, rfl, ?_⟩))
      show mm_W d mmX11_see 60 [some (.ref 0), some (.int (Int32.ofInt a1)), some (.int (Int32.ofInt a2)), some (.int (Int32.ofInt a3)), some (.int (Int32.ofInt 0))] [.int (Int32.ofInt v5)] (mz_mk g6 x) Q
      replace hE := zf_t2 hE hc7
      exact mm_rt rfl rfl (hQ _ _ hIg6 (fun k j hk => (hfg6 k j (fun h => hk (Or.inl h)))) (by omega) (by omega) hE)
    · exfalso; omega
  · skip
    replace hE := zf_nl hE c9_4
    refine mm_g 1 (pc1 := 13) (lo1 := [some (.ref 0), some (.int (Int32.ofInt a1)), some (.int (Int32.ofInt a2)), some (.int (Int32.ofInt a3)), none]) (st1 := [.int (Int32.ofInt a2)]) (H1 := mz_mk g x) rfl ?_
    refine mz_bip rfl bip_20 ?_
    refine mz_ic_gt (tgt := 32) rfl rfl (mz_rg l_a2 u_a2) ⟨by decide, by decide⟩ (fun c15_7 => ?_) (fun c15_7 => ?_)
    · skip
      replace hE := zf_ip hE c15_7
      refine mm_g 3 (pc1 := 37) (lo1 := [some (.ref 0), some (.int (Int32.ofInt a1)), some (.int (Int32.ofInt a2)), some (.int (Int32.ofInt a3)), some (.int (Int32.ofInt 0))]) (st1 := [.int (Int32.ofInt 0)]) (H1 := mz_mk g x) rfl ?_
      refine mz_if_eq (tgt := 52) rfl rfl ⟨by decide, by decide⟩ (fun c37_7 => ?_) (fun c37_7 => ?_)
      · skip
        (try unfold zJ_X11_see_32 at hE)
        (try unfold zJ_X11_see_33 at hE)
        (try unfold zJ_X11_see_52 at hE)
        (try unfold zJ_X11_see_32 at hE)
        (try unfold zJ_X11_see_33 at hE)
        (try unfold zJ_X11_see_52 at hE)
        replace hE := zf_ip hE c37_7
        refine mm_g 1 (pc1 := 53) (lo1 := [some (.ref 0), some (.int (Int32.ofInt a1)), some (.int (Int32.ofInt a2)), some (.int (Int32.ofInt a3)), some (.int (Int32.ofInt 0))]) (st1 := [.ref 0]) (H1 := mz_mk g x) rfl ?_
        refine mz_fgR (v := 86) rfl fd_11_37 (by decide) (sc_0 _) (rf_0_5 _ _ _) ?_
        refine mm_g 1 (pc1 := 57) (lo1 := [some (.ref 0), some (.int (Int32.ofInt a1)), some (.int (Int32.ofInt a2)), some (.int (Int32.ofInt a3)), some (.int (Int32.ofInt 0))]) (st1 := [.int (Int32.ofInt 2), .ref 86]) (H1 := mz_mk g x) rfl ?_
        refine mz_cv rfl mt_11_131 (by decide) (sc_86 _) rfl (Nat.le_of_ble_eq_true rfl) (by omega) (f_X6_refuse (by omega) hx hI kp_story_86 (by decide) (by decide) (fun v8 g9 hIg9 hfg9 l_v8 u_v8 hc10 => ⟨_, rfl, ?_⟩))
        show mm_W d mmX11_see 60 [some (.ref 0), some (.int (Int32.ofInt a1)), some (.int (Int32.ofInt a2)), some (.int (Int32.ofInt a3)), some (.int (Int32.ofInt 0))] [.int (Int32.ofInt v8)] (mz_mk g9 x) Q
        replace hE := zf_t2 hE hc10
        exact mm_rt rfl rfl (hQ _ _ hIg9 (fun k j hk => (hfg9 k j (fun h => hk (Or.inl h)))) (by omega) (by omega) hE)
      · exfalso; omega
    · skip
      replace hE := zf_nl hE c15_7
      refine mm_g 1 (pc1 := 19) (lo1 := [some (.ref 0), some (.int (Int32.ofInt a1)), some (.int (Int32.ofInt a2)), some (.int (Int32.ofInt a3)), none]) (st1 := [.int (Int32.ofInt a3)]) (H1 := mz_mk g x) rfl ?_
      refine mz_if_lt (tgt := 32) rfl rfl (mz_rg l_a3 u_a3) (fun c19_10 => ?_) (fun c19_10 => ?_)
      · skip
        replace hE := zf_ip hE c19_10
        refine mm_g 3 (pc1 := 37) (lo1 := [some (.ref 0), some (.int (Int32.ofInt a1)), some (.int (Int32.ofInt a2)), some (.int (Int32.ofInt a3)), some (.int (Int32.ofInt 0))]) (st1 := [.int (Int32.ofInt 0)]) (H1 := mz_mk g x) rfl ?_
        refine mz_if_eq (tgt := 52) rfl rfl ⟨by decide, by decide⟩ (fun c37_10 => ?_) (fun c37_10 => ?_)
        · skip
          (try unfold zJ_X11_see_32 at hE)
          (try unfold zJ_X11_see_33 at hE)
          (try unfold zJ_X11_see_52 at hE)
          (try unfold zJ_X11_see_32 at hE)
          (try unfold zJ_X11_see_33 at hE)
          (try unfold zJ_X11_see_52 at hE)
          replace hE := zf_ip hE c37_10
          refine mm_g 1 (pc1 := 53) (lo1 := [some (.ref 0), some (.int (Int32.ofInt a1)), some (.int (Int32.ofInt a2)), some (.int (Int32.ofInt a3)), some (.int (Int32.ofInt 0))]) (st1 := [.ref 0]) (H1 := mz_mk g x) rfl ?_
          refine mz_fgR (v := 86) rfl fd_11_37 (by decide) (sc_0 _) (rf_0_5 _ _ _) ?_
          refine mm_g 1 (pc1 := 57) (lo1 := [some (.ref 0), some (.int (Int32.ofInt a1)), some (.int (Int32.ofInt a2)), some (.int (Int32.ofInt a3)), some (.int (Int32.ofInt 0))]) (st1 := [.int (Int32.ofInt 2), .ref 86]) (H1 := mz_mk g x) rfl ?_
          refine mz_cv rfl mt_11_131 (by decide) (sc_86 _) rfl (Nat.le_of_ble_eq_true rfl) (by omega) (f_X6_refuse (by omega) hx hI kp_story_86 (by decide) (by decide) (fun v11 g12 hIg12 hfg12 l_v11 u_v11 hc13 => ⟨_, rfl, ?_⟩))
          show mm_W d mmX11_see 60 [some (.ref 0), some (.int (Int32.ofInt a1)), some (.int (Int32.ofInt a2)), some (.int (Int32.ofInt a3)), some (.int (Int32.ofInt 0))] [.int (Int32.ofInt v11)] (mz_mk g12 x) Q
          replace hE := zf_t2 hE hc13
          exact mm_rt rfl rfl (hQ _ _ hIg12 (fun k j hk => (hfg12 k j (fun h => hk (Or.inl h)))) (by omega) (by omega) hE)
        · exfalso; omega
      · skip
        replace hE := zf_nl hE c19_10
        refine mm_g 1 (pc1 := 23) (lo1 := [some (.ref 0), some (.int (Int32.ofInt a1)), some (.int (Int32.ofInt a2)), some (.int (Int32.ofInt a3)), none]) (st1 := [.int (Int32.ofInt a3)]) (H1 := mz_mk g x) rfl ?_
        refine mz_bip rfl bip_16 ?_
        refine mz_ic_gt (tgt := 32) rfl rfl (mz_rg l_a3 u_a3) ⟨by decide, by decide⟩ (fun c25_13 => ?_) (fun c25_13 => ?_)
        · skip
          replace hE := zf_ip hE c25_13
          refine mm_g 3 (pc1 := 37) (lo1 := [some (.ref 0), some (.int (Int32.ofInt a1)), some (.int (Int32.ofInt a2)), some (.int (Int32.ofInt a3)), some (.int (Int32.ofInt 0))]) (st1 := [.int (Int32.ofInt 0)]) (H1 := mz_mk g x) rfl ?_
          refine mz_if_eq (tgt := 52) rfl rfl ⟨by decide, by decide⟩ (fun c37_13 => ?_) (fun c37_13 => ?_)
          · skip
            (try unfold zJ_X11_see_32 at hE)
            (try unfold zJ_X11_see_33 at hE)
            (try unfold zJ_X11_see_52 at hE)
            (try unfold zJ_X11_see_32 at hE)
            (try unfold zJ_X11_see_33 at hE)
            (try unfold zJ_X11_see_52 at hE)
            replace hE := zf_ip hE c37_13
            refine mm_g 1 (pc1 := 53) (lo1 := [some (.ref 0), some (.int (Int32.ofInt a1)), some (.int (Int32.ofInt a2)), some (.int (Int32.ofInt a3)), some (.int (Int32.ofInt 0))]) (st1 := [.ref 0]) (H1 := mz_mk g x) rfl ?_
            refine mz_fgR (v := 86) rfl fd_11_37 (by decide) (sc_0 _) (rf_0_5 _ _ _) ?_
            refine mm_g 1 (pc1 := 57) (lo1 := [some (.ref 0), some (.int (Int32.ofInt a1)), some (.int (Int32.ofInt a2)), some (.int (Int32.ofInt a3)), some (.int (Int32.ofInt 0))]) (st1 := [.int (Int32.ofInt 2), .ref 86]) (H1 := mz_mk g x) rfl ?_
            refine mz_cv rfl mt_11_131 (by decide) (sc_86 _) rfl (Nat.le_of_ble_eq_true rfl) (by omega) (f_X6_refuse (by omega) hx hI kp_story_86 (by decide) (by decide) (fun v14 g15 hIg15 hfg15 l_v14 u_v14 hc16 => ⟨_, rfl, ?_⟩))
            show mm_W d mmX11_see 60 [some (.ref 0), some (.int (Int32.ofInt a1)), some (.int (Int32.ofInt a2)), some (.int (Int32.ofInt a3)), some (.int (Int32.ofInt 0))] [.int (Int32.ofInt v14)] (mz_mk g15 x) Q
            replace hE := zf_t2 hE hc16
            exact mm_rt rfl rfl (hQ _ _ hIg15 (fun k j hk => (hfg15 k j (fun h => hk (Or.inl h)))) (by omega) (by omega) hE)
          · exfalso; omega
        · skip
          replace hE := zf_nl hE c25_13
          refine mm_g 1 (pc1 := 29) (lo1 := [some (.ref 0), some (.int (Int32.ofInt a1)), some (.int (Int32.ofInt a2)), some (.int (Int32.ofInt a3)), none]) (st1 := [.int (Int32.ofInt 1)]) (H1 := mz_mk g x) rfl ?_
          refine mz_gt (tgt := 33) rfl rfl ?_
          refine mm_g 2 (pc1 := 37) (lo1 := [some (.ref 0), some (.int (Int32.ofInt a1)), some (.int (Int32.ofInt a2)), some (.int (Int32.ofInt a3)), some (.int (Int32.ofInt 1))]) (st1 := [.int (Int32.ofInt 1)]) (H1 := mz_mk g x) rfl ?_
          refine mz_if_eq (tgt := 52) rfl rfl ⟨by decide, by decide⟩ (fun c37_16 => ?_) (fun c37_16 => ?_)
          · exfalso; omega
          · skip
            (try unfold zJ_X11_see_32 at hE)
            (try unfold zJ_X11_see_33 at hE)
            (try unfold zJ_X11_see_52 at hE)
            (try unfold zJ_X11_see_32 at hE)
            (try unfold zJ_X11_see_33 at hE)
            (try unfold zJ_X11_see_52 at hE)
            replace hE := zf_in hE c37_16
            refine mm_g 1 (pc1 := 41) (lo1 := [some (.ref 0), some (.int (Int32.ofInt a1)), some (.int (Int32.ofInt a2)), some (.int (Int32.ofInt a3)), some (.int (Int32.ofInt 1))]) (st1 := [.ref 0]) (H1 := mz_mk g x) rfl ?_
            refine mz_fgR (v := 86) rfl fd_11_37 (by decide) (sc_0 _) (rf_0_5 _ _ _) ?_
            refine mz_cv rfl mt_11_180 (by decide) (sc_86 _) rfl (Nat.le_of_ble_eq_true rfl) (by omega) (f_X6_seenSize (by omega) hx hI kp_story_86 (fun v17 l_v17 u_v17 hc18 => ⟨_, rfl, ?_⟩))
            show mm_W d mmX11_see 47 [some (.ref 0), some (.int (Int32.ofInt a1)), some (.int (Int32.ofInt a2)), some (.int (Int32.ofInt a3)), some (.int (Int32.ofInt 1))] [.int (Int32.ofInt v17)] (mz_mk g x) Q
            replace hE := zf_t1 hE hc18
            refine mz_bip rfl bip_8 ?_
            refine mz_ic_lt (tgt := 61) rfl rfl (mz_rg l_v17 u_v17) ⟨by decide, by decide⟩ (fun c49_18 => ?_) (fun c49_18 => ?_)
            · skip
              replace hE := zf_ip hE c49_18
              refine mm_g 1 (pc1 := 62) (lo1 := [some (.ref 0), some (.int (Int32.ofInt a1)), some (.int (Int32.ofInt a2)), some (.int (Int32.ofInt a3)), some (.int (Int32.ofInt 1))]) (st1 := [.ref 0]) (H1 := mz_mk g x) rfl ?_
              refine mz_fgR (v := 86) rfl fd_11_37 (by decide) (sc_0 _) (rf_0_5 _ _ _) ?_
              refine mm_g 3 (pc1 := 68) (lo1 := [some (.ref 0), some (.int (Int32.ofInt a1)), some (.int (Int32.ofInt a2)), some (.int (Int32.ofInt a3)), some (.int (Int32.ofInt 1))]) (st1 := [.int (Int32.ofInt a3), .int (Int32.ofInt a2), .int (Int32.ofInt a1), .ref 86]) (H1 := mz_mk g x) rfl ?_
              refine mz_cv rfl mt_11_343 (by decide) (sc_86 _) rfl (Nat.le_of_ble_eq_true rfl) (by omega) (f_X6_addSeen (by omega) hx hI kp_story_86 l_a1 u_a1 (by omega) (by omega) l_a3 u_a3 (fun g19 hIg19 hfg19 hc20 => ⟨_, rfl, ?_⟩))
              show mm_W d mmX11_see 71 [some (.ref 0), some (.int (Int32.ofInt a1)), some (.int (Int32.ofInt a2)), some (.int (Int32.ofInt a3)), some (.int (Int32.ofInt 1))] [] (mz_mk g19 x) Q
              replace hE := zf_t1 hE hc20
              refine mm_g 1 (pc1 := 72) (lo1 := [some (.ref 0), some (.int (Int32.ofInt a1)), some (.int (Int32.ofInt a2)), some (.int (Int32.ofInt a3)), some (.int (Int32.ofInt 1))]) (st1 := [.ref 0]) (H1 := mz_mk g19 x) rfl ?_
              refine mz_fgR (v := 86) rfl fd_11_37 (by decide) (sc_0 _) (rf_0_5 _ _ _) ?_
              refine mz_cv rfl mt_11_180 (by decide) (sc_86 _) rfl (Nat.le_of_ble_eq_true rfl) (by omega) (f_X6_seenSize (by omega) hx hIg19 kp_story_86 (fun v21 l_v21 u_v21 hc22 => ⟨_, rfl, ?_⟩))
              show mm_W d mmX11_see 78 [some (.ref 0), some (.int (Int32.ofInt a1)), some (.int (Int32.ofInt a2)), some (.int (Int32.ofInt a3)), some (.int (Int32.ofInt 1))] [.int (Int32.ofInt v21)] (mz_mk g19 x) Q
              replace hE := zf_t1 hE hc22
              exact mm_rt rfl rfl (hQ _ _ hIg19 (fun k j hk => (hfg19 k j (fun h => hk (Or.elim h (fun h => (Or.inr (Or.inl h))) (fun h => (Or.elim h (fun h => (Or.inr (Or.inr (Or.inl h)))) (fun h => (Or.elim h (fun h => (Or.inr (Or.inr (Or.inr (Or.inl h))))) (fun h => (Or.inr (Or.inr (Or.inr (Or.inr h))))))))))))) (by omega) (by omega) hE)
            · skip
              replace hE := zf_nl hE c49_18
              refine mm_g 1 (pc1 := 53) (lo1 := [some (.ref 0), some (.int (Int32.ofInt a1)), some (.int (Int32.ofInt a2)), some (.int (Int32.ofInt a3)), some (.int (Int32.ofInt 1))]) (st1 := [.ref 0]) (H1 := mz_mk g x) rfl ?_
              refine mz_fgR (v := 86) rfl fd_11_37 (by decide) (sc_0 _) (rf_0_5 _ _ _) ?_
              refine mm_g 1 (pc1 := 57) (lo1 := [some (.ref 0), some (.int (Int32.ofInt a1)), some (.int (Int32.ofInt a2)), some (.int (Int32.ofInt a3)), some (.int (Int32.ofInt 1))]) (st1 := [.int (Int32.ofInt 2), .ref 86]) (H1 := mz_mk g x) rfl ?_
              refine mz_cv rfl mt_11_131 (by decide) (sc_86 _) rfl (Nat.le_of_ble_eq_true rfl) (by omega) (f_X6_refuse (by omega) hx hI kp_story_86 (by decide) (by decide) (fun v23 g24 hIg24 hfg24 l_v23 u_v23 hc25 => ⟨_, rfl, ?_⟩))
              show mm_W d mmX11_see 60 [some (.ref 0), some (.int (Int32.ofInt a1)), some (.int (Int32.ofInt a2)), some (.int (Int32.ofInt a3)), some (.int (Int32.ofInt 1))] [.int (Int32.ofInt v23)] (mz_mk g24 x) Q
              replace hE := zf_t2 hE hc25
              exact mm_rt rfl rfl (hQ _ _ hIg24 (fun k j hk => (hfg24 k j (fun h => hk (Or.inl h)))) (by omega) (by omega) hE)
theorem f_X6_lastSeenDay {d : Nat} (hd : 12 ≤ d) {x : mm_X} (hx : mk_x x) {g : mz_G} (hI : mz_inv g) {q0 : Nat} (h_q0 : kd_story q0) {a1 : Int} (l_a1 : (-2147483648) ≤ a1) (u_a1 : a1 ≤ 2147483647) {Q : (Option Value ⊕ Nat) → mm_H → Prop} (hQ : ∀ (r : Int), (-1) ≤ r → r ≤ 20 → zf_E (zF_X6_lastSeenDay q0 a1 g) (r) → Q (.inl (some (.int (Int32.ofInt r)))) (mz_mk g x)) : mm_C d 76 [.ref q0, .int (Int32.ofInt a1)] (mz_mk g x) Q := by
  have kn_q0 := kn_story h_q0
  refine ⟨mmX6_lastSeenDay, [some (.ref q0), some (.int (Int32.ofInt a1)), none, none], rfl, rfl, ?_⟩
  have hE : zf_E (zF_X6_lastSeenDay q0 a1 g) (zF_X6_lastSeenDay q0 a1 g) := zf_rf
  refine mm_g 4 (pc1 := 4) (lo1 := [some (.ref q0), some (.int (Int32.ofInt a1)), some (.int (Int32.ofInt (-1))), some (.int (Int32.ofInt 0))]) (st1 := []) (H1 := mz_mk g x) rfl ?_
  have L6 : ∀ n5 : Nat, ∀ (v1 : Int) (v2 : Int), (8 - v2).toNat = n5 → (-1) ≤ v1 → v1 ≤ 20 → 0 ≤ v2 → v2 ≤ 8 → (∃ fk : Nat, (8 - v2).toNat < fk ∧ zf_E (zF_X6_lastSeenDay q0 a1 g) (zL_X6_lastSeenDay_4 q0 a1 g fk v1 v2)) → mm_W d mmX6_lastSeenDay 4 [some (.ref q0), some (.int (Int32.ofInt a1)), some (.int (Int32.ofInt v1)), some (.int (Int32.ofInt v2))] [] (mz_mk g x) Q := by
    intro n5
    induction n5 using Nat.strongRecOn with
    | ind n5 ih4 =>
    intro v1 v2 hmn5 l_v1 u_v1 l_v2 u_v2 hF
    obtain ⟨fk, fl, hE⟩ := hF
    obtain ⟨fj7, rfl⟩ : ∃ fj, fk = fj + 1 := ⟨fk - 1, by omega⟩
    have fn8 : n5 ≤ fj7 := by omega
    replace hE := zf_tr hE zL_X6_lastSeenDay_4_s
    refine mm_g 2 (pc1 := 6) (lo1 := [some (.ref q0), some (.int (Int32.ofInt a1)), some (.int (Int32.ofInt v1)), some (.int (Int32.ofInt v2))]) (st1 := [.ref q0, .int (Int32.ofInt v2)]) (H1 := mz_mk g x) rfl ?_
    refine mz_gI rfl fd_6_38 (by decide) (kc_story h_q0 _) hI (kb_story_7 h_q0) (fun v9 e_v9 l_v9 u_v9 => ?_)
    replace hE := zf_tr hE (zf_le e_v9)
    refine mz_ic_ge (tgt := 43) rfl rfl (mz_rg l_v2 u_v2) (mz_rg l_v9 u_v9) (fun c9_9 => ?_) (fun c9_9 => ?_)
    · skip
      replace hE := zf_nl hE c9_9
      refine mm_g 1 (pc1 := 44) (lo1 := [some (.ref q0), some (.int (Int32.ofInt a1)), some (.int (Int32.ofInt v1)), some (.int (Int32.ofInt v2))]) (st1 := [.int (Int32.ofInt v1)]) (H1 := mz_mk g x) rfl ?_
      exact mm_rt rfl rfl (hQ _ (by omega) (by omega) hE)
    · skip
      replace hE := zf_ip hE c9_9
      refine mm_g 1 (pc1 := 13) (lo1 := [some (.ref q0), some (.int (Int32.ofInt a1)), some (.int (Int32.ofInt v1)), some (.int (Int32.ofInt v2))]) (st1 := [.ref q0]) (H1 := mz_mk g x) rfl ?_
      refine mz_fgR (v := (q0 + 11)) rfl fd_6_29 (by decide) (kc_story h_q0 _) (kr_story_4 h_q0 _ _ _) ?_
      refine mm_g 1 (pc1 := 17) (lo1 := [some (.ref q0), some (.int (Int32.ofInt a1)), some (.int (Int32.ofInt v1)), some (.int (Int32.ofInt v2))]) (st1 := [.int (Int32.ofInt v2), .ref (q0 + 11)]) (H1 := mz_mk g x) rfl ?_
      refine mz_cs rfl mt_6_52 (by decide) rfl (Nat.le_of_ble_eq_true rfl) (by omega) (f_X11_at (by omega) hx hI (ka_story_4 h_q0 _) (by decide) (kba_story_4 h_q0) (by omega) (by omega) (by omega) (by omega) (fun v10 l_v10 u_v10 hc11 => ⟨_, rfl, ?_⟩))
      show mm_W d mmX6_lastSeenDay 20 [some (.ref q0), some (.int (Int32.ofInt a1)), some (.int (Int32.ofInt v1)), some (.int (Int32.ofInt v2))] [.int (Int32.ofInt v10)] (mz_mk g x) Q
      replace hE := zf_t1 hE hc11
      refine mm_g 1 (pc1 := 21) (lo1 := [some (.ref q0), some (.int (Int32.ofInt a1)), some (.int (Int32.ofInt v1)), some (.int (Int32.ofInt v2))]) (st1 := [.int (Int32.ofInt a1), .int (Int32.ofInt v10)]) (H1 := mz_mk g x) rfl ?_
      refine mz_ic_ne (tgt := 37) rfl rfl (mz_rg l_v10 u_v10) (mz_rg l_a1 u_a1) (fun c21_11 => ?_) (fun c21_11 => ?_)
      · skip
        replace hE := zf_in hE c21_11
        refine mz_iincR (v := v2) (lo2 := [some (.ref q0), some (.int (Int32.ofInt a1)), some (.int (Int32.ofInt v1)), some (.int (Int32.ofInt (v2 + 1)))]) rfl rfl rfl (Nat.le_of_ble_eq_true rfl) rfl ?_
        refine mz_gt (tgt := 4) rfl rfl ?_
        exact ih4 ((8 - (v2 + 1)).toNat) (by omega) v1 (v2 + 1) rfl (by omega) (by omega) (by omega) (by omega) ⟨fj7, Nat.lt_of_lt_of_le (show ((8 - (v2 + 1)).toNat) < n5 from (by omega)) fn8, hE⟩
      · skip
        replace hE := zf_ip hE c21_11
        refine mm_g 2 (pc1 := 26) (lo1 := [some (.ref q0), some (.int (Int32.ofInt a1)), some (.int (Int32.ofInt v1)), some (.int (Int32.ofInt v2))]) (st1 := [.ref q0, .int (Int32.ofInt v1)]) (H1 := mz_mk g x) rfl ?_
        refine mz_fgR (v := (q0 + 12)) rfl fd_6_32 (by decide) (kc_story h_q0 _) (kr_story_5 h_q0 _ _ _) ?_
        refine mm_g 1 (pc1 := 30) (lo1 := [some (.ref q0), some (.int (Int32.ofInt a1)), some (.int (Int32.ofInt v1)), some (.int (Int32.ofInt v2))]) (st1 := [.int (Int32.ofInt v2), .ref (q0 + 12), .int (Int32.ofInt v1)]) (H1 := mz_mk g x) rfl ?_
        refine mz_cs rfl mt_6_52 (by decide) rfl (Nat.le_of_ble_eq_true rfl) (by omega) (f_X11_at (by omega) hx hI (ka_story_5 h_q0 _) (by decide) (kba_story_5 h_q0) (by omega) (by omega) (by omega) (by omega) (fun v12 l_v12 u_v12 hc13 => ⟨_, rfl, ?_⟩))
        show mm_W d mmX6_lastSeenDay 33 [some (.ref q0), some (.int (Int32.ofInt a1)), some (.int (Int32.ofInt v1)), some (.int (Int32.ofInt v2))] [.int (Int32.ofInt v12), .int (Int32.ofInt v1)] (mz_mk g x) Q
        replace hE := zf_t1 hE hc13
        refine mz_mx rfl mt_6_67 (Nat.le_of_ble_eq_true rfl) (by omega) (mz_rg l_v1 u_v1) (mz_rg l_v12 u_v12) (fun v14 e_v14 => ?_)
        have l_v14 : 0 ≤ v14 := by omega
        have u_v14 : v14 ≤ 20 := by omega
        replace hE := zf_tr hE (zf_le e_v14.symm)
        refine mm_g 1 (pc1 := 37) (lo1 := [some (.ref q0), some (.int (Int32.ofInt a1)), some (.int (Int32.ofInt v14)), some (.int (Int32.ofInt v2))]) (st1 := []) (H1 := mz_mk g x) rfl ?_
        refine mz_iincR (v := v2) (lo2 := [some (.ref q0), some (.int (Int32.ofInt a1)), some (.int (Int32.ofInt v14)), some (.int (Int32.ofInt (v2 + 1)))]) rfl rfl rfl (Nat.le_of_ble_eq_true rfl) rfl ?_
        refine mz_gt (tgt := 4) rfl rfl ?_
        exact ih4 ((8 - (v2 + 1)).toNat) (by omega) v14 (v2 + 1) rfl (by omega) (by omega) (by omega) (by omega) ⟨fj7, Nat.lt_of_lt_of_le (show ((8 - (v2 + 1)).toNat) < n5 from (by omega)) fn8, hE⟩
  exact L6 _ (-1) 0 rfl (by decide) (by decide) (by decide) (by decide) ⟨3000000000, by omega, hE⟩
theorem f_X6_agrees {d : Nat} (hd : 2 ≤ d) {x : mm_X} (hx : mk_x x) {g : mz_G} (hI : mz_inv g) {q0 : Nat} (h_q0 : kd_story q0) {a1 : Int} (l_a1 : (-2147483648) ≤ a1) (u_a1 : a1 ≤ 2147483647) {a2 : Int} (l_a2 : (-2147483648) ≤ a2) (u_a2 : a2 ≤ 2147483647) {a3 : Int} (l_a3 : (-2147483648) ≤ a3) (u_a3 : a3 ≤ 2147483647) {Q : (Option Value ⊕ Nat) → mm_H → Prop} (hQ : ∀ (r : Int), 0 ≤ r → r ≤ 1 → zf_E (zF_X6_agrees q0 a1 a2 a3 g) (r) → Q (.inl (some (.int (Int32.ofInt r)))) (mz_mk g x)) : mm_C d 77 [.ref q0, .int (Int32.ofInt a1), .int (Int32.ofInt a2), .int (Int32.ofInt a3)] (mz_mk g x) Q := by
  have kn_q0 := kn_story h_q0
  refine ⟨mmX6_agrees, [some (.ref q0), some (.int (Int32.ofInt a1)), some (.int (Int32.ofInt a2)), some (.int (Int32.ofInt a3)), none, none], rfl, rfl, ?_⟩
  have hE : zf_E (zF_X6_agrees q0 a1 a2 a3 g) (zF_X6_agrees q0 a1 a2 a3 g) := zf_rf
  refine mm_g 2 (pc1 := 3) (lo1 := [some (.ref q0), some (.int (Int32.ofInt a1)), some (.int (Int32.ofInt a2)), some (.int (Int32.ofInt a3)), some (.int (Int32.ofInt 0)), none]) (st1 := []) (H1 := mz_mk g x) rfl ?_
  have L6 : ∀ n5 : Nat, ∀ (v1 : Int) (o2 : Option Value), (8 - v1).toNat = n5 → 0 ≤ v1 → v1 ≤ 8 → mz_nl o2 → (∃ fk : Nat, (8 - v1).toNat < fk ∧ zf_E (zF_X6_agrees q0 a1 a2 a3 g) (zL_X6_agrees_3 q0 a1 a2 a3 g fk v1)) → mm_W d mmX6_agrees 3 [some (.ref q0), some (.int (Int32.ofInt a1)), some (.int (Int32.ofInt a2)), some (.int (Int32.ofInt a3)), some (.int (Int32.ofInt v1)), o2] [] (mz_mk g x) Q := by
    intro n5
    induction n5 using Nat.strongRecOn with
    | ind n5 ih4 =>
    intro v1 o2 hmn5 l_v1 u_v1 h_o2 hF
    obtain ⟨fk, fl, hE⟩ := hF
    obtain ⟨fj7, rfl⟩ : ∃ fj, fk = fj + 1 := ⟨fk - 1, by omega⟩
    have fn8 : n5 ≤ fj7 := by omega
    replace hE := zf_tr hE zL_X6_agrees_3_s
    refine mm_g 2 (pc1 := 6) (lo1 := [some (.ref q0), some (.int (Int32.ofInt a1)), some (.int (Int32.ofInt a2)), some (.int (Int32.ofInt a3)), some (.int (Int32.ofInt v1)), o2]) (st1 := [.ref q0, .int (Int32.ofInt v1)]) (H1 := mz_mk g x) rfl ?_
    refine mz_gI rfl fd_6_38 (by decide) (kc_story h_q0 _) hI (kb_story_7 h_q0) (fun v9 e_v9 l_v9 u_v9 => ?_)
    replace hE := zf_tr hE (zf_le e_v9)
    refine mz_ic_ge (tgt := 71) rfl rfl (mz_rg l_v1 u_v1) (mz_rg l_v9 u_v9) (fun c9_9 => ?_) (fun c9_9 => ?_)
    · skip
      replace hE := zf_nl hE c9_9
      refine mm_g 1 (pc1 := 72) (lo1 := [some (.ref q0), some (.int (Int32.ofInt a1)), some (.int (Int32.ofInt a2)), some (.int (Int32.ofInt a3)), some (.int (Int32.ofInt v1)), o2]) (st1 := [.int (Int32.ofInt 1)]) (H1 := mz_mk g x) rfl ?_
      exact mz_rtZ rfl (by decide) (by omega) (hQ _ (by decide) (by decide) hE)
    · skip
      replace hE := zf_ip hE c9_9
      refine mm_g 1 (pc1 := 13) (lo1 := [some (.ref q0), some (.int (Int32.ofInt a1)), some (.int (Int32.ofInt a2)), some (.int (Int32.ofInt a3)), some (.int (Int32.ofInt v1)), o2]) (st1 := [.ref q0]) (H1 := mz_mk g x) rfl ?_
      refine mz_fgR (v := (q0 + 11)) rfl fd_6_29 (by decide) (kc_story h_q0 _) (kr_story_4 h_q0 _ _ _) ?_
      refine mm_g 1 (pc1 := 18) (lo1 := [some (.ref q0), some (.int (Int32.ofInt a1)), some (.int (Int32.ofInt a2)), some (.int (Int32.ofInt a3)), some (.int (Int32.ofInt v1)), o2]) (st1 := [.int (Int32.ofInt v1), .ref (q0 + 11)]) (H1 := mz_mk g x) rfl ?_
      refine mz_cs rfl mt_6_52 (by decide) rfl (Nat.le_of_ble_eq_true rfl) (by omega) (f_X11_at (by omega) hx hI (ka_story_4 h_q0 _) (by decide) (kba_story_4 h_q0) (by omega) (by omega) (by omega) (by omega) (fun v10 l_v10 u_v10 hc11 => ⟨_, rfl, ?_⟩))
      show mm_W d mmX6_agrees 21 [some (.ref q0), some (.int (Int32.ofInt a1)), some (.int (Int32.ofInt a2)), some (.int (Int32.ofInt a3)), some (.int (Int32.ofInt v1)), o2] [.int (Int32.ofInt v10)] (mz_mk g x) Q
      replace hE := zf_t1 hE hc11
      refine mm_g 1 (pc1 := 22) (lo1 := [some (.ref q0), some (.int (Int32.ofInt a1)), some (.int (Int32.ofInt a2)), some (.int (Int32.ofInt a3)), some (.int (Int32.ofInt v1)), o2]) (st1 := [.int (Int32.ofInt a1), .int (Int32.ofInt v10)]) (H1 := mz_mk g x) rfl ?_
      refine mz_ic_ne (tgt := 42) rfl rfl (mz_rg l_v10 u_v10) (mz_rg l_a1 u_a1) (fun c22_11 => ?_) (fun c22_11 => ?_)
      · skip
        replace hE := zf_in hE c22_11
        refine mm_g 3 (pc1 := 47) (lo1 := [some (.ref q0), some (.int (Int32.ofInt a1)), some (.int (Int32.ofInt a2)), some (.int (Int32.ofInt a3)), some (.int (Int32.ofInt v1)), some (.int (Int32.ofInt 0))]) (st1 := [.int (Int32.ofInt 0)]) (H1 := mz_mk g x) rfl ?_
        refine mz_if_eq (tgt := 65) rfl rfl ⟨by decide, by decide⟩ (fun c47_11 => ?_) (fun c47_11 => ?_)
        · skip
          (try unfold zJ_X6_agrees_43 at hE)
          (try unfold zJ_X6_agrees_65 at hE)
          (try unfold zJ_X6_agrees_42 at hE)
          (try unfold zJ_X6_agrees_43 at hE)
          (try unfold zJ_X6_agrees_65 at hE)
          (try unfold zJ_X6_agrees_42 at hE)
          replace hE := zf_ip hE c47_11
          refine mz_iincR (v := v1) (lo2 := [some (.ref q0), some (.int (Int32.ofInt a1)), some (.int (Int32.ofInt a2)), some (.int (Int32.ofInt a3)), some (.int (Int32.ofInt (v1 + 1))), some (.int (Int32.ofInt 0))]) rfl rfl rfl (Nat.le_of_ble_eq_true rfl) rfl ?_
          refine mz_gt (tgt := 3) rfl rfl ?_
          exact ih4 ((8 - (v1 + 1)).toNat) (by omega) (v1 + 1) (some (.int (Int32.ofInt 0))) rfl (by omega) (by omega) (mz_nl_i _) ⟨fj7, Nat.lt_of_lt_of_le (show ((8 - (v1 + 1)).toNat) < n5 from (by omega)) fn8, hE⟩
        · exfalso; omega
      · skip
        replace hE := zf_ip hE c22_11
        refine mm_g 1 (pc1 := 26) (lo1 := [some (.ref q0), some (.int (Int32.ofInt a1)), some (.int (Int32.ofInt a2)), some (.int (Int32.ofInt a3)), some (.int (Int32.ofInt v1)), o2]) (st1 := [.ref q0]) (H1 := mz_mk g x) rfl ?_
        refine mz_fgR (v := (q0 + 12)) rfl fd_6_32 (by decide) (kc_story h_q0 _) (kr_story_5 h_q0 _ _ _) ?_
        refine mm_g 1 (pc1 := 31) (lo1 := [some (.ref q0), some (.int (Int32.ofInt a1)), some (.int (Int32.ofInt a2)), some (.int (Int32.ofInt a3)), some (.int (Int32.ofInt v1)), o2]) (st1 := [.int (Int32.ofInt v1), .ref (q0 + 12)]) (H1 := mz_mk g x) rfl ?_
        refine mz_cs rfl mt_6_52 (by decide) rfl (Nat.le_of_ble_eq_true rfl) (by omega) (f_X11_at (by omega) hx hI (ka_story_5 h_q0 _) (by decide) (kba_story_5 h_q0) (by omega) (by omega) (by omega) (by omega) (fun v12 l_v12 u_v12 hc13 => ⟨_, rfl, ?_⟩))
        show mm_W d mmX6_agrees 34 [some (.ref q0), some (.int (Int32.ofInt a1)), some (.int (Int32.ofInt a2)), some (.int (Int32.ofInt a3)), some (.int (Int32.ofInt v1)), o2] [.int (Int32.ofInt v12)] (mz_mk g x) Q
        replace hE := zf_t1 hE hc13
        refine mm_g 1 (pc1 := 35) (lo1 := [some (.ref q0), some (.int (Int32.ofInt a1)), some (.int (Int32.ofInt a2)), some (.int (Int32.ofInt a3)), some (.int (Int32.ofInt v1)), o2]) (st1 := [.int (Int32.ofInt a2), .int (Int32.ofInt v12)]) (H1 := mz_mk g x) rfl ?_
        refine mz_ic_ne (tgt := 42) rfl rfl (mz_rg l_v12 u_v12) (mz_rg l_a2 u_a2) (fun c35_13 => ?_) (fun c35_13 => ?_)
        · skip
          replace hE := zf_in hE c35_13
          refine mm_g 3 (pc1 := 47) (lo1 := [some (.ref q0), some (.int (Int32.ofInt a1)), some (.int (Int32.ofInt a2)), some (.int (Int32.ofInt a3)), some (.int (Int32.ofInt v1)), some (.int (Int32.ofInt 0))]) (st1 := [.int (Int32.ofInt 0)]) (H1 := mz_mk g x) rfl ?_
          refine mz_if_eq (tgt := 65) rfl rfl ⟨by decide, by decide⟩ (fun c47_13 => ?_) (fun c47_13 => ?_)
          · skip
            (try unfold zJ_X6_agrees_43 at hE)
            (try unfold zJ_X6_agrees_65 at hE)
            (try unfold zJ_X6_agrees_42 at hE)
            (try unfold zJ_X6_agrees_43 at hE)
            (try unfold zJ_X6_agrees_65 at hE)
            (try unfold zJ_X6_agrees_42 at hE)
            replace hE := zf_ip hE c47_13
            refine mz_iincR (v := v1) (lo2 := [some (.ref q0), some (.int (Int32.ofInt a1)), some (.int (Int32.ofInt a2)), some (.int (Int32.ofInt a3)), some (.int (Int32.ofInt (v1 + 1))), some (.int (Int32.ofInt 0))]) rfl rfl rfl (Nat.le_of_ble_eq_true rfl) rfl ?_
            refine mz_gt (tgt := 3) rfl rfl ?_
            exact ih4 ((8 - (v1 + 1)).toNat) (by omega) (v1 + 1) (some (.int (Int32.ofInt 0))) rfl (by omega) (by omega) (mz_nl_i _) ⟨fj7, Nat.lt_of_lt_of_le (show ((8 - (v1 + 1)).toNat) < n5 from (by omega)) fn8, hE⟩
          · exfalso; omega
        · skip
          replace hE := zf_ip hE c35_13
          refine mm_g 1 (pc1 := 39) (lo1 := [some (.ref q0), some (.int (Int32.ofInt a1)), some (.int (Int32.ofInt a2)), some (.int (Int32.ofInt a3)), some (.int (Int32.ofInt v1)), o2]) (st1 := [.int (Int32.ofInt 1)]) (H1 := mz_mk g x) rfl ?_
          refine mz_gt (tgt := 43) rfl rfl ?_
          refine mm_g 2 (pc1 := 47) (lo1 := [some (.ref q0), some (.int (Int32.ofInt a1)), some (.int (Int32.ofInt a2)), some (.int (Int32.ofInt a3)), some (.int (Int32.ofInt v1)), some (.int (Int32.ofInt 1))]) (st1 := [.int (Int32.ofInt 1)]) (H1 := mz_mk g x) rfl ?_
          refine mz_if_eq (tgt := 65) rfl rfl ⟨by decide, by decide⟩ (fun c47_13 => ?_) (fun c47_13 => ?_)
          · exfalso; omega
          · skip
            (try unfold zJ_X6_agrees_43 at hE)
            (try unfold zJ_X6_agrees_65 at hE)
            (try unfold zJ_X6_agrees_42 at hE)
            (try unfold zJ_X6_agrees_43 at hE)
            (try unfold zJ_X6_agrees_65 at hE)
            (try unfold zJ_X6_agrees_42 at hE)
            replace hE := zf_in hE c47_13
            refine mm_g 1 (pc1 := 51) (lo1 := [some (.ref q0), some (.int (Int32.ofInt a1)), some (.int (Int32.ofInt a2)), some (.int (Int32.ofInt a3)), some (.int (Int32.ofInt v1)), some (.int (Int32.ofInt 1))]) (st1 := [.ref q0]) (H1 := mz_mk g x) rfl ?_
            refine mz_fgR (v := (q0 + 13)) rfl fd_6_35 (by decide) (kc_story h_q0 _) (kr_story_6 h_q0 _ _ _) ?_
            refine mm_g 1 (pc1 := 56) (lo1 := [some (.ref q0), some (.int (Int32.ofInt a1)), some (.int (Int32.ofInt a2)), some (.int (Int32.ofInt a3)), some (.int (Int32.ofInt v1)), some (.int (Int32.ofInt 1))]) (st1 := [.int (Int32.ofInt v1), .ref (q0 + 13)]) (H1 := mz_mk g x) rfl ?_
            refine mz_cs rfl mt_6_52 (by decide) rfl (Nat.le_of_ble_eq_true rfl) (by omega) (f_X11_at (by omega) hx hI (ka_story_6 h_q0 _) (by decide) (kba_story_6 h_q0) (by omega) (by omega) (by omega) (by omega) (fun v14 l_v14 u_v14 hc15 => ⟨_, rfl, ?_⟩))
            show mm_W d mmX6_agrees 59 [some (.ref q0), some (.int (Int32.ofInt a1)), some (.int (Int32.ofInt a2)), some (.int (Int32.ofInt a3)), some (.int (Int32.ofInt v1)), some (.int (Int32.ofInt 1))] [.int (Int32.ofInt v14)] (mz_mk g x) Q
            replace hE := zf_t1 hE hc15
            refine mm_g 1 (pc1 := 60) (lo1 := [some (.ref q0), some (.int (Int32.ofInt a1)), some (.int (Int32.ofInt a2)), some (.int (Int32.ofInt a3)), some (.int (Int32.ofInt v1)), some (.int (Int32.ofInt 1))]) (st1 := [.int (Int32.ofInt a3), .int (Int32.ofInt v14)]) (H1 := mz_mk g x) rfl ?_
            refine mz_ic_eq (tgt := 65) rfl rfl (mz_rg l_v14 u_v14) (mz_rg l_a3 u_a3) (fun c60_15 => ?_) (fun c60_15 => ?_)
            · skip
              replace hE := zf_ip hE c60_15
              refine mz_iincR (v := v1) (lo2 := [some (.ref q0), some (.int (Int32.ofInt a1)), some (.int (Int32.ofInt a2)), some (.int (Int32.ofInt a3)), some (.int (Int32.ofInt (v1 + 1))), some (.int (Int32.ofInt 1))]) rfl rfl rfl (Nat.le_of_ble_eq_true rfl) rfl ?_
              refine mz_gt (tgt := 3) rfl rfl ?_
              exact ih4 ((8 - (v1 + 1)).toNat) (by omega) (v1 + 1) (some (.int (Int32.ofInt 1))) rfl (by omega) (by omega) (mz_nl_i _) ⟨fj7, Nat.lt_of_lt_of_le (show ((8 - (v1 + 1)).toNat) < n5 from (by omega)) fn8, hE⟩
            · skip
              replace hE := zf_in hE c60_15
              refine mm_g 1 (pc1 := 64) (lo1 := [some (.ref q0), some (.int (Int32.ofInt a1)), some (.int (Int32.ofInt a2)), some (.int (Int32.ofInt a3)), some (.int (Int32.ofInt v1)), some (.int (Int32.ofInt 1))]) (st1 := [.int (Int32.ofInt 0)]) (H1 := mz_mk g x) rfl ?_
              exact mz_rtZ rfl (by decide) (by omega) (hQ _ (by decide) (by decide) hE)
  exact L6 _ 0 none rfl (by decide) (by decide) mz_nl_n ⟨3000000000, by omega, hE⟩
def fl_X11_fitsSeen_38 (x : mm_X) (a1 : Int) (a2 : Int) : Nat → Nat → Prop := fun k j => k = 122 ∨ k = ((x.1 + 36) + 2) ∨ k = ((x.1 + 36) + 3)
def fw_X11_fitsSeen (x : mm_X) (a1 : Int) (a2 : Int) : Nat → Nat → Prop := fun k j => k = 122 ∨ k = ((x.1 + 36) + 2) ∨ k = ((x.1 + 36) + 3)
theorem f_X11_fitsSeen {d : Nat} (hd : 15 ≤ d) {x : mm_X} (hx : mk_x x) {g : mz_G} (hI : mz_inv g) {a1 : Int} (l_a1 : (-2147483648) ≤ a1) (u_a1 : a1 ≤ 2147483647) {a2 : Int} (l_a2 : (-2147483648) ≤ a2) (u_a2 : a2 ≤ 2147483647) {Q : (Option Value ⊕ Nat) → mm_H → Prop} (hQ : ∀ (r : Int) (g1 : mz_G), mz_inv g1 → mz_fr (fw_X11_fitsSeen x a1 a2) g g1 → 0 ≤ r → r ≤ 1 → zf_E (zF_X11_fitsSeen x a1 a2 g) ((r, g1)) → Q (.inl (some (.int (Int32.ofInt r)))) (mz_mk g1 x)) : mm_C d 161 [.ref 0, .int (Int32.ofInt a1), .int (Int32.ofInt a2)] (mz_mk g x) Q := by
  have kx := kn_x hx
  refine ⟨mmX11_fitsSeen, [some (.ref 0), some (.int (Int32.ofInt a1)), some (.int (Int32.ofInt a2)), none, none], rfl, rfl, ?_⟩
  have hE : zf_E (zF_X11_fitsSeen x a1 a2 g) (zF_X11_fitsSeen x a1 a2 g) := zf_rf
  refine mm_g 1 (pc1 := 1) (lo1 := [some (.ref 0), some (.int (Int32.ofInt a1)), some (.int (Int32.ofInt a2)), none, none]) (st1 := [.ref 0]) (H1 := mz_mk g x) rfl ?_
  refine mz_fgR (v := 86) rfl fd_11_37 (by decide) (sc_0 _) (rf_0_5 _ _ _) ?_
  refine mm_g 1 (pc1 := 5) (lo1 := [some (.ref 0), some (.int (Int32.ofInt a1)), some (.int (Int32.ofInt a2)), none, none]) (st1 := [.int (Int32.ofInt a1), .ref 86]) (H1 := mz_mk g x) rfl ?_
  refine mz_cv rfl mt_11_374 (by decide) (sc_86 _) rfl (Nat.le_of_ble_eq_true rfl) (by omega) (f_X6_lastSeenDay (by omega) hx hI kp_story_86 l_a1 u_a1 (fun v1 l_v1 u_v1 hc2 => ⟨_, rfl, ?_⟩))
  show mm_W d mmX11_fitsSeen 8 [some (.ref 0), some (.int (Int32.ofInt a1)), some (.int (Int32.ofInt a2)), none, none] [.int (Int32.ofInt v1)] (mz_mk g x) Q
  replace hE := zf_t1 hE hc2
  refine mm_g 2 (pc1 := 10) (lo1 := [some (.ref 0), some (.int (Int32.ofInt a1)), some (.int (Int32.ofInt a2)), some (.int (Int32.ofInt v1)), none]) (st1 := [.ref 0]) (H1 := mz_mk g x) rfl ?_
  refine mz_fgR (v := 122) rfl fd_11_65 (by decide) (sc_0 _) (rf_0_10 _ _ _) ?_
  refine mm_g 1 (pc1 := 14) (lo1 := [some (.ref 0), some (.int (Int32.ofInt a1)), some (.int (Int32.ofInt a2)), some (.int (Int32.ofInt v1)), none]) (st1 := [.ref 0, .ref 122]) (H1 := mz_mk g x) rfl ?_
  refine mz_fgR (v := 86) rfl fd_11_37 (by decide) (sc_0 _) (rf_0_5 _ _ _) ?_
  refine mz_fgR (v := 87) rfl fd_11_158 (by decide) (sc_86 _) (rf_86_0 _ _ _) ?_
  refine mm_g 1 (pc1 := 21) (lo1 := [some (.ref 0), some (.int (Int32.ofInt a1)), some (.int (Int32.ofInt a2)), some (.int (Int32.ofInt v1)), none]) (st1 := [.int (Int32.ofInt a1), .ref 87, .ref 122]) (H1 := mz_mk g x) rfl ?_
  refine mz_cv rfl mt_11_192 (by decide) (sc_87 _) rfl (Nat.le_of_ble_eq_true rfl) (by omega) (f_X9_get (by omega) hx hI kp_tks_87 l_a1 u_a1 (fun u3 k_u3 hp4 hc5 => ⟨_, rfl, ?_⟩))
  show mm_W d mmX11_fitsSeen 24 [some (.ref 0), some (.int (Int32.ofInt a1)), some (.int (Int32.ofInt a2)), some (.int (Int32.ofInt v1)), none] [.ref u3, .ref 122] (mz_mk g x) Q
  replace hE := zf_t1 hE hc5
  refine mz_cv rfl mt_11_297 (by decide) (sc_122 _) rfl (Nat.le_of_ble_eq_true rfl) (by omega) (f_X8_becomeAs (by omega) hx hI kp_trunk_122 k_u3 (fun g6 hIg6 hfg6 hc7 => ⟨_, rfl, ?_⟩))
  show mm_W d mmX11_fitsSeen 27 [some (.ref 0), some (.int (Int32.ofInt a1)), some (.int (Int32.ofInt a2)), some (.int (Int32.ofInt v1)), none] [] (mz_mk g6 x) Q
  replace hE := zf_t1 hE hc7
  refine mm_g 1 (pc1 := 28) (lo1 := [some (.ref 0), some (.int (Int32.ofInt a1)), some (.int (Int32.ofInt a2)), some (.int (Int32.ofInt v1)), none]) (st1 := [.ref 0]) (H1 := mz_mk g6 x) rfl ?_
  refine mz_fgR (v := 122) rfl fd_11_65 (by decide) (sc_0 _) (rf_0_10 _ _ _) ?_
  refine mm_g 1 (pc1 := 32) (lo1 := [some (.ref 0), some (.int (Int32.ofInt a1)), some (.int (Int32.ofInt a2)), some (.int (Int32.ofInt v1)), none]) (st1 := [.int (Int32.ofInt a2), .ref 122]) (H1 := mz_mk g6 x) rfl ?_
  refine mz_pI rfl fd_11_234 (sc_122 _) hIg6 bd_122_2 (by omega) (by omega) (fun g8 hIg8 hug8 => ?_)
  replace hE := zf_tr hE (zf_lg hug8)
  refine mm_g 2 (pc1 := 38) (lo1 := [some (.ref 0), some (.int (Int32.ofInt a1)), some (.int (Int32.ofInt a2)), some (.int (Int32.ofInt v1)), some (.int (Int32.ofInt 0))]) (st1 := []) (H1 := mz_mk g8 x) rfl ?_
  have L13 : ∀ n12 : Nat, ∀ (v9 : Int) (g10 : mz_G), (21 - v9).toNat = n12 → 0 ≤ v9 → v9 ≤ 21 → mz_inv g10 → mz_fr (fl_X11_fitsSeen_38 x a1 a2) g8 g10 → (∃ fk : Nat, (21 - v9).toNat < fk ∧ zf_E (zF_X11_fitsSeen x a1 a2 g) (zL_X11_fitsSeen_38 x a1 a2 fk v1 v9 g10)) → mm_W d mmX11_fitsSeen 38 [some (.ref 0), some (.int (Int32.ofInt a1)), some (.int (Int32.ofInt a2)), some (.int (Int32.ofInt v1)), some (.int (Int32.ofInt v9))] [] (mz_mk g10 x) Q := by
    intro n12
    induction n12 using Nat.strongRecOn with
    | ind n12 ih11 =>
    intro v9 g10 hmn12 l_v9 u_v9 hIg10 hfg10 hF
    obtain ⟨fk, fl, hE⟩ := hF
    obtain ⟨fj14, rfl⟩ : ∃ fj, fk = fj + 1 := ⟨fk - 1, by omega⟩
    have fn15 : n12 ≤ fj14 := by omega
    replace hE := zf_tr hE zL_X11_fitsSeen_38_s
    refine mm_g 2 (pc1 := 41) (lo1 := [some (.ref 0), some (.int (Int32.ofInt a1)), some (.int (Int32.ofInt a2)), some (.int (Int32.ofInt v1)), some (.int (Int32.ofInt v9))]) (st1 := [.int (Int32.ofInt v1), .int (Int32.ofInt v9)]) (H1 := mz_mk g10 x) rfl ?_
    refine mz_ic_gt (tgt := 86) rfl rfl (mz_rg l_v9 u_v9) (mz_rg l_v1 u_v1) (fun c41_15 => ?_) (fun c41_15 => ?_)
    · skip
      replace hE := zf_ip hE c41_15
      refine mm_g 1 (pc1 := 87) (lo1 := [some (.ref 0), some (.int (Int32.ofInt a1)), some (.int (Int32.ofInt a2)), some (.int (Int32.ofInt v1)), some (.int (Int32.ofInt v9))]) (st1 := [.int (Int32.ofInt 1)]) (H1 := mz_mk g10 x) rfl ?_
      exact mz_rtZ rfl (by decide) (by omega) (hQ _ _ hIg10 (fun k j hk => ((hfg10 k j (fun h => hk (Or.elim h (fun h => (Or.inl h)) (fun h => (Or.elim h (fun h => (Or.inr (Or.inl h))) (fun h => (Or.inr (Or.inr h)))))))).trans ((hug8.2 k j (fun h => hk (Or.inl h.1))).trans (hfg6 k j (fun h => hk (Or.inl h)))))) (by decide) (by decide) hE)
    · skip
      replace hE := zf_nl hE c41_15
      refine mm_g 1 (pc1 := 45) (lo1 := [some (.ref 0), some (.int (Int32.ofInt a1)), some (.int (Int32.ofInt a2)), some (.int (Int32.ofInt v1)), some (.int (Int32.ofInt v9))]) (st1 := [.ref 0]) (H1 := mz_mk g10 x) rfl ?_
      refine mz_fgR (v := 86) rfl fd_11_37 (by decide) (sc_0 _) (rf_0_5 _ _ _) ?_
      refine mm_g 3 (pc1 := 52) (lo1 := [some (.ref 0), some (.int (Int32.ofInt a1)), some (.int (Int32.ofInt a2)), some (.int (Int32.ofInt v1)), some (.int (Int32.ofInt v9))]) (st1 := [.ref 0, .int (Int32.ofInt v9), .int (Int32.ofInt a1), .ref 86]) (H1 := mz_mk g10 x) rfl ?_
      refine mz_fgR (v := x.1) rfl fd_11_16 (by decide) (sc_0 _) rfl ?_
      refine mm_g 1 (pc1 := 56) (lo1 := [some (.ref 0), some (.int (Int32.ofInt a1)), some (.int (Int32.ofInt a2)), some (.int (Int32.ofInt v1)), some (.int (Int32.ofInt v9))]) (st1 := [.ref 0, .ref x.1, .int (Int32.ofInt v9), .int (Int32.ofInt a1), .ref 86]) (H1 := mz_mk g10 x) rfl ?_
      refine mz_fgR (v := 122) rfl fd_11_65 (by decide) (sc_0 _) (rf_0_10 _ _ _) ?_
      refine mz_cv rfl mt_11_244 (by decide) (kc_load (kx_1 hx) _) rfl (Nat.le_of_ble_eq_true rfl) (by omega) (f_X1_blendSize (by omega) hx hIg10 (kx_1 hx) kp_trunk_122 (fun v16 l_v16 u_v16 hc17 => ⟨_, rfl, ?_⟩))
      show mm_W d mmX11_fitsSeen 62 [some (.ref 0), some (.int (Int32.ofInt a1)), some (.int (Int32.ofInt a2)), some (.int (Int32.ofInt v1)), some (.int (Int32.ofInt v9))] [.int (Int32.ofInt v16), .int (Int32.ofInt v9), .int (Int32.ofInt a1), .ref 86] (mz_mk g10 x) Q
      replace hE := zf_t1 hE hc17
      refine mz_cv rfl mt_11_377 (by decide) (sc_86 _) rfl (Nat.le_of_ble_eq_true rfl) (by omega) (f_X6_agrees (by omega) hx hIg10 kp_story_86 l_a1 u_a1 (by omega) (by omega) l_v16 u_v16 (fun v18 l_v18 u_v18 hc19 => ⟨_, rfl, ?_⟩))
      show mm_W d mmX11_fitsSeen 65 [some (.ref 0), some (.int (Int32.ofInt a1)), some (.int (Int32.ofInt a2)), some (.int (Int32.ofInt v1)), some (.int (Int32.ofInt v9))] [.int (Int32.ofInt v18)] (mz_mk g10 x) Q
      replace hE := zf_t1 hE hc19
      refine mz_if_ne (tgt := 70) rfl rfl (mz_rg l_v18 u_v18) (fun c65_19 => ?_) (fun c65_19 => ?_)
      · skip
        replace hE := zf_in hE c65_19
        refine mm_g 2 (pc1 := 72) (lo1 := [some (.ref 0), some (.int (Int32.ofInt a1)), some (.int (Int32.ofInt a2)), some (.int (Int32.ofInt v1)), some (.int (Int32.ofInt v9))]) (st1 := [.ref 0, .ref 0]) (H1 := mz_mk g10 x) rfl ?_
        refine mz_fgR (v := 122) rfl fd_11_65 (by decide) (sc_0 _) (rf_0_10 _ _ _) ?_
        refine mm_g 1 (pc1 := 77) (lo1 := [some (.ref 0), some (.int (Int32.ofInt a1)), some (.int (Int32.ofInt a2)), some (.int (Int32.ofInt v1)), some (.int (Int32.ofInt v9))]) (st1 := [.int (Int32.ofInt v9), .ref 122, .ref 0]) (H1 := mz_mk g10 x) rfl ?_
        refine mz_cv rfl mt_11_301 (by decide) (sc_0 _) rfl (Nat.le_of_ble_eq_true rfl) (by omega) (f_X11_growBy (by omega) hx hIg10 kp_trunk_122 (by omega) (by omega) (fun g20 hIg20 hfg20 hc21 => ⟨_, rfl, ?_⟩))
        show mm_W d mmX11_fitsSeen 80 [some (.ref 0), some (.int (Int32.ofInt a1)), some (.int (Int32.ofInt a2)), some (.int (Int32.ofInt v1)), some (.int (Int32.ofInt v9))] [] (mz_mk g20 x) Q
        replace hE := zf_t1 hE hc21
        refine mz_iincR (v := v9) (lo2 := [some (.ref 0), some (.int (Int32.ofInt a1)), some (.int (Int32.ofInt a2)), some (.int (Int32.ofInt v1)), some (.int (Int32.ofInt (v9 + 1)))]) rfl rfl rfl (Nat.le_of_ble_eq_true rfl) rfl ?_
        refine mz_gt (tgt := 38) rfl rfl ?_
        exact ih11 ((21 - (v9 + 1)).toNat) (by omega) (v9 + 1) g20 rfl (by omega) (by omega) hIg20 (fun k j hk => ((hfg20 k j (fun h => hk (Or.elim h (fun h => (Or.inl h)) (fun h => (Or.elim h (fun h => (Or.inr (Or.inl h))) (fun h => (Or.inr (Or.inr h)))))))).trans (hfg10 k j (fun h => hk (Or.elim h (fun h => (Or.inl h)) (fun h => (Or.elim h (fun h => (Or.inr (Or.inl h))) (fun h => (Or.inr (Or.inr h)))))))))) ⟨fj14, Nat.lt_of_lt_of_le (show ((21 - (v9 + 1)).toNat) < n12 from (by omega)) fn15, hE⟩
      · skip
        replace hE := zf_ip hE c65_19
        refine mm_g 1 (pc1 := 69) (lo1 := [some (.ref 0), some (.int (Int32.ofInt a1)), some (.int (Int32.ofInt a2)), some (.int (Int32.ofInt v1)), some (.int (Int32.ofInt v9))]) (st1 := [.int (Int32.ofInt 0)]) (H1 := mz_mk g10 x) rfl ?_
        exact mz_rtZ rfl (by decide) (by omega) (hQ _ _ hIg10 (fun k j hk => ((hfg10 k j (fun h => hk (Or.elim h (fun h => (Or.inl h)) (fun h => (Or.elim h (fun h => (Or.inr (Or.inl h))) (fun h => (Or.inr (Or.inr h)))))))).trans ((hug8.2 k j (fun h => hk (Or.inl h.1))).trans (hfg6 k j (fun h => hk (Or.inl h)))))) (by decide) (by decide) hE)
  exact L13 _ 0 g8 rfl (by decide) (by decide) hIg8 (fun _ _ _ => rfl) ⟨3000000000, by omega, hE⟩
def fl_X11_fittingTrunks_4 (x : mm_X) : Nat → Nat → Prop := fun k j => k = 122 ∨ k = ((x.1 + 36) + 2) ∨ k = ((x.1 + 36) + 3)
def fw_X11_fittingTrunks (x : mm_X) : Nat → Nat → Prop := fun k j => k = 122 ∨ k = ((x.1 + 36) + 2) ∨ k = ((x.1 + 36) + 3)
theorem f_X11_fittingTrunks {d : Nat} (hd : 16 ≤ d) {x : mm_X} (hx : mk_x x) {g : mz_G} (hI : mz_inv g) {Q : (Option Value ⊕ Nat) → mm_H → Prop} (hQ : ∀ (r : Int) (g1 : mz_G), mz_inv g1 → mz_fr (fw_X11_fittingTrunks x) g g1 → 0 ≤ r → r ≤ 63 → zf_E (zF_X11_fittingTrunks x g) ((r, g1)) → Q (.inl (some (.int (Int32.ofInt r)))) (mz_mk g1 x)) : mm_C d 159 [.ref 0] (mz_mk g x) Q := by
  have kx := kn_x hx
  refine ⟨mmX11_fittingTrunks, [some (.ref 0), none, none], rfl, rfl, ?_⟩
  have hE : zf_E (zF_X11_fittingTrunks x g) (zF_X11_fittingTrunks x g) := zf_rf
  refine mm_g 4 (pc1 := 4) (lo1 := [some (.ref 0), some (.int (Int32.ofInt 0)), some (.int (Int32.ofInt 0))]) (st1 := []) (H1 := mz_mk g x) rfl ?_
  have L6 : ∀ n5 : Nat, ∀ (v1 : Int) (v2 : Int) (g3 : mz_G), (6 - v2).toNat = n5 → 0 ≤ v1 → v1 ≤ 63 → 0 ≤ v2 → v2 ≤ 6 → mz_inv g3 → mz_fr (fl_X11_fittingTrunks_4 x) g g3 → (∃ fk : Nat, (6 - v2).toNat < fk ∧ zf_E (zF_X11_fittingTrunks x g) (zL_X11_fittingTrunks_4 x fk v1 v2 g3)) → mm_W d mmX11_fittingTrunks 4 [some (.ref 0), some (.int (Int32.ofInt v1)), some (.int (Int32.ofInt v2))] [] (mz_mk g3 x) Q := by
    intro n5
    induction n5 using Nat.strongRecOn with
    | ind n5 ih4 =>
    intro v1 v2 g3 hmn5 l_v1 u_v1 l_v2 u_v2 hIg3 hfg3 hF
    obtain ⟨fk, fl, hE⟩ := hF
    obtain ⟨fj7, rfl⟩ : ∃ fj, fk = fj + 1 := ⟨fk - 1, by omega⟩
    have fn8 : n5 ≤ fj7 := by omega
    replace hE := zf_tr hE zL_X11_fittingTrunks_4_s
    refine mm_g 2 (pc1 := 6) (lo1 := [some (.ref 0), some (.int (Int32.ofInt v1)), some (.int (Int32.ofInt v2))]) (st1 := [.ref 0, .int (Int32.ofInt v2)]) (H1 := mz_mk g3 x) rfl ?_
    refine mz_cv rfl mt_11_155 (by decide) (sc_0 _) rfl (Nat.le_of_ble_eq_true rfl) (by omega) (f_X11_trunkCount (by omega) hx hIg3 (fun v9 l_v9 u_v9 hc10 => ⟨_, rfl, ?_⟩))
    show mm_W d mmX11_fittingTrunks 9 [some (.ref 0), some (.int (Int32.ofInt v1)), some (.int (Int32.ofInt v2))] [.int (Int32.ofInt v9), .int (Int32.ofInt v2)] (mz_mk g3 x) Q
    replace hE := zf_t1 hE hc10
    refine mz_ic_ge (tgt := 46) rfl rfl (mz_rg l_v2 u_v2) (mz_rg l_v9 u_v9) (fun c9_10 => ?_) (fun c9_10 => ?_)
    · skip
      replace hE := zf_nl hE c9_10
      refine mm_g 1 (pc1 := 47) (lo1 := [some (.ref 0), some (.int (Int32.ofInt v1)), some (.int (Int32.ofInt v2))]) (st1 := [.int (Int32.ofInt v1)]) (H1 := mz_mk g3 x) rfl ?_
      exact mm_rt rfl rfl (hQ _ _ hIg3 (fun k j hk => (hfg3 k j (fun h => hk (Or.elim h (fun h => (Or.inl h)) (fun h => (Or.elim h (fun h => (Or.inr (Or.inl h))) (fun h => (Or.inr (Or.inr h))))))))) (by omega) (by omega) hE)
    · skip
      replace hE := zf_ip hE c9_10
      refine mm_g 3 (pc1 := 15) (lo1 := [some (.ref 0), some (.int (Int32.ofInt v1)), some (.int (Int32.ofInt v2))]) (st1 := [.ref 0, .int (Int32.ofInt v2), .ref 0]) (H1 := mz_mk g3 x) rfl ?_
      refine mz_fgR (v := 86) rfl fd_11_37 (by decide) (sc_0 _) (rf_0_5 _ _ _) ?_
      refine mz_fgR (v := 87) rfl fd_11_158 (by decide) (sc_86 _) (rf_86_0 _ _ _) ?_
      refine mm_g 1 (pc1 := 22) (lo1 := [some (.ref 0), some (.int (Int32.ofInt v1)), some (.int (Int32.ofInt v2))]) (st1 := [.int (Int32.ofInt v2), .ref 87, .int (Int32.ofInt v2), .ref 0]) (H1 := mz_mk g3 x) rfl ?_
      refine mz_cv rfl mt_11_192 (by decide) (sc_87 _) rfl (Nat.le_of_ble_eq_true rfl) (by omega) (f_X9_get (by omega) hx hIg3 kp_tks_87 (by omega) (by omega) (fun u11 k_u11 hp12 hc13 => ⟨_, rfl, ?_⟩))
      show mm_W d mmX11_fittingTrunks 25 [some (.ref 0), some (.int (Int32.ofInt v1)), some (.int (Int32.ofInt v2))] [.ref u11, .int (Int32.ofInt v2), .ref 0] (mz_mk g3 x) Q
      replace hE := zf_t1 hE hc13
      refine mz_gI rfl fd_11_234 (by decide) (kc_trunk k_u11 _) hIg3 (kb_trunk_2 k_u11) (fun v14 e_v14 l_v14 u_v14 => ?_)
      replace hE := zf_tr hE (zf_le e_v14)
      refine mz_cv rfl mt_11_370 (by decide) (sc_0 _) rfl (Nat.le_of_ble_eq_true rfl) (by omega) (f_X11_fitsSeen (by omega) hx hIg3 (by omega) (by omega) l_v14 u_v14 (fun v15 g16 hIg16 hfg16 l_v15 u_v15 hc17 => ⟨_, rfl, ?_⟩))
      show mm_W d mmX11_fittingTrunks 31 [some (.ref 0), some (.int (Int32.ofInt v1)), some (.int (Int32.ofInt v2))] [.int (Int32.ofInt v15)] (mz_mk g16 x) Q
      replace hE := zf_t2 hE hc17
      refine mz_if_eq (tgt := 40) rfl rfl (mz_rg l_v15 u_v15) (fun c31_17 => ?_) (fun c31_17 => ?_)
      · skip
        replace hE := zf_ip hE c31_17
        refine mz_iincR (v := v2) (lo2 := [some (.ref 0), some (.int (Int32.ofInt v1)), some (.int (Int32.ofInt (v2 + 1)))]) rfl rfl rfl (Nat.le_of_ble_eq_true rfl) rfl ?_
        refine mz_gt (tgt := 4) rfl rfl ?_
        exact ih4 ((6 - (v2 + 1)).toNat) (by omega) v1 (v2 + 1) g16 rfl (by omega) (by omega) (by omega) (by omega) hIg16 (fun k j hk => ((hfg16 k j (fun h => hk (Or.elim h (fun h => (Or.inl h)) (fun h => (Or.elim h (fun h => (Or.inr (Or.inl h))) (fun h => (Or.inr (Or.inr h)))))))).trans (hfg3 k j (fun h => hk (Or.elim h (fun h => (Or.inl h)) (fun h => (Or.elim h (fun h => (Or.inr (Or.inl h))) (fun h => (Or.inr (Or.inr h)))))))))) ⟨fj7, Nat.lt_of_lt_of_le (show ((6 - (v2 + 1)).toNat) < n5 from (by omega)) fn8, hE⟩
      · skip
        replace hE := zf_in hE c31_17
        refine mm_g 3 (pc1 := 37) (lo1 := [some (.ref 0), some (.int (Int32.ofInt v1)), some (.int (Int32.ofInt v2))]) (st1 := [.int (Int32.ofInt v2), .int (Int32.ofInt 1), .int (Int32.ofInt v1)]) (H1 := mz_mk g16 x) rfl ?_
        refine mz_ishl rfl (fun v18 e_v18 hwv18 => ?_)
        have b_v18 : 1 ≤ v18 ∧ v18 ≤ 32 := by rw [e_v18]; exact mz_shl_b (lx := 1) (hx := 1) (k := 5) (by decide) (by decide) (by omega) (by omega) (by omega) (by omega)
        have l_v18 := b_v18.1
        have u_v18 := b_v18.2
        replace hE := zf_tr hE (zf_le e_v18.symm)
        refine mz_ior rfl (fun v19 e_v19 hwv19 => ?_)
        have b_v19 : 0 ≤ v19 ∧ v19 ≤ 63 := by rw [e_v19]; exact mz_or_lt (n := 6) (by decide) (by omega) (by omega) (by omega) (by omega)
        have l_v19 := b_v19.1
        have u_v19 := b_v19.2
        replace hE := zf_tr hE (zf_le e_v19.symm)
        refine mm_g 1 (pc1 := 40) (lo1 := [some (.ref 0), some (.int (Int32.ofInt v19)), some (.int (Int32.ofInt v2))]) (st1 := []) (H1 := mz_mk g16 x) rfl ?_
        refine mz_iincR (v := v2) (lo2 := [some (.ref 0), some (.int (Int32.ofInt v19)), some (.int (Int32.ofInt (v2 + 1)))]) rfl rfl rfl (Nat.le_of_ble_eq_true rfl) rfl ?_
        refine mz_gt (tgt := 4) rfl rfl ?_
        exact ih4 ((6 - (v2 + 1)).toNat) (by omega) v19 (v2 + 1) g16 rfl (by omega) (by omega) (by omega) (by omega) hIg16 (fun k j hk => ((hfg16 k j (fun h => hk (Or.elim h (fun h => (Or.inl h)) (fun h => (Or.elim h (fun h => (Or.inr (Or.inl h))) (fun h => (Or.inr (Or.inr h)))))))).trans (hfg3 k j (fun h => hk (Or.elim h (fun h => (Or.inl h)) (fun h => (Or.elim h (fun h => (Or.inr (Or.inl h))) (fun h => (Or.inr (Or.inr h)))))))))) ⟨fj7, Nat.lt_of_lt_of_le (show ((6 - (v2 + 1)).toNat) < n5 from (by omega)) fn8, hE⟩
  exact L6 _ 0 0 g rfl (by decide) (by decide) (by decide) (by decide) hI (fun _ _ _ => rfl) ⟨3000000000, by omega, hE⟩
theorem f_X11_allTrunks {d : Nat} (hd : 2 ≤ d) {x : mm_X} (hx : mk_x x) {g : mz_G} (hI : mz_inv g) {Q : (Option Value ⊕ Nat) → mm_H → Prop} (hQ : ∀ (r : Int), 0 ≤ r → r ≤ 63 → zf_E (zF_X11_allTrunks x g) (r) → Q (.inl (some (.int (Int32.ofInt r)))) (mz_mk g x)) : mm_C d 158 [.ref 0] (mz_mk g x) Q := by
  have kx := kn_x hx
  refine ⟨mmX11_allTrunks, [some (.ref 0)], rfl, rfl, ?_⟩
  have hE : zf_E (zF_X11_allTrunks x g) (zF_X11_allTrunks x g) := zf_rf
  refine mm_g 2 (pc1 := 2) (lo1 := [some (.ref 0)]) (st1 := [.ref 0, .int (Int32.ofInt 1)]) (H1 := mz_mk g x) rfl ?_
  refine mz_cv rfl mt_11_155 (by decide) (sc_0 _) rfl (Nat.le_of_ble_eq_true rfl) (by omega) (f_X11_trunkCount (by omega) hx hI (fun v1 l_v1 u_v1 hc2 => ⟨_, rfl, ?_⟩))
  show mm_W d mmX11_allTrunks 5 [some (.ref 0)] [.int (Int32.ofInt v1), .int (Int32.ofInt 1)] (mz_mk g x) Q
  replace hE := zf_t1 hE hc2
  refine mz_ishl rfl (fun v3 e_v3 hwv3 => ?_)
  have b_v3 : 1 ≤ v3 ∧ v3 ≤ 64 := by rw [e_v3]; exact mz_shl_b (lx := 1) (hx := 1) (k := 6) (by decide) (by decide) (by omega) (by omega) (by omega) (by omega)
  have l_v3 := b_v3.1
  have u_v3 := b_v3.2
  replace hE := zf_tr hE (zf_le e_v3.symm)
  refine mm_g 1 (pc1 := 7) (lo1 := [some (.ref 0)]) (st1 := [.int (Int32.ofInt 1), .int (Int32.ofInt v3)]) (H1 := mz_mk g x) rfl ?_
  refine mz_isub rfl ?_
  exact mm_rt rfl rfl (hQ _ (by omega) (by omega) hE)
