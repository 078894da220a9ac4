/-! CONTRACTS OF THE CLASS, by program (wip/p2/tools/gen23.py) -/
def fw_X11_both (x : mm_X) (a1 : Int) (a2 : Int) (a3 : Int) : Nat → Nat → Prop := fun k j => k = 117
theorem c_X11_both {d : Nat} (hd : 13 ≤ d) {x : mm_X} (hx : mk_x x) {g : mz_G} (hI : mz_inv g) {a1 : Int} (l_a1 : (-2147483648) ≤ a1) (u_a1 : a1 ≤ 2147483647) {a2 : Int} (l_a2 : (-2147483648) ≤ a2) (u_a2 : a2 ≤ 2147483647) {a3 : Int} (l_a3 : (-2147483648) ≤ a3) (u_a3 : a3 ≤ 2147483647) {Q : (Option Value ⊕ Nat) → mm_H → Prop} (hQ : ∀ (r : Int) (g1 : mz_G), mz_inv g1 → mz_fr (fw_X11_both x a1 a2 a3) g g1 → (-2147483648) ≤ r → r ≤ 2147483647 → Q (.inl (some (.int (Int32.ofInt r)))) (mz_mk g1 x)) (hX : ∀ E, Q (.inr E) (mz_mk g (mz_tx x))) : mm_C d 148 [.ref 0, .int (Int32.ofInt a1), .int (Int32.ofInt a2), .int (Int32.ofInt a3)] (mz_mk g x) Q := by
  have kx := kn_x hx
  refine ⟨mmX11_both, [some (.ref 0), some (.int (Int32.ofInt a1)), some (.int (Int32.ofInt a2)), some (.int (Int32.ofInt a3)), none, none], rfl, rfl, ?_⟩
  refine mm_g 2 (pc1 := 2) (lo1 := [some (.ref 0), some (.int (Int32.ofInt a1)), some (.int (Int32.ofInt a2)), some (.int (Int32.ofInt a3)), none, none]) (st1 := [.int (Int32.ofInt a1), .ref 0]) (H1 := mz_mk g x) rfl ?_
  refine mz_cv rfl mt_11_199 (by decide) (sc_0 _) rfl (Nat.le_of_ble_eq_true rfl) (by omega) (c_X11_isWord (by omega) hx hI l_a1 u_a1 (fun v1 l_v1 u_v1 => ⟨_, rfl, ?_⟩))
  show mm_W d mmX11_both 5 [some (.ref 0), some (.int (Int32.ofInt a1)), some (.int (Int32.ofInt a2)), some (.int (Int32.ofInt a3)), none, none] [.int (Int32.ofInt v1)] (mz_mk g x) Q
  refine mz_if_eq (tgt := 29) rfl rfl (mz_rg l_v1 u_v1) (fun c5_1 => ?_) (fun c5_1 => ?_)
  · skip
    refine mm_g 1 (pc1 := 30) (lo1 := [some (.ref 0), some (.int (Int32.ofInt a1)), some (.int (Int32.ofInt a2)), some (.int (Int32.ofInt a3)), none, none]) (st1 := [.int (Int32.ofInt 0)]) (H1 := mz_mk g x) rfl ?_
    refine mz_csx rfl mt_11_183 rfl (Nat.le_of_ble_eq_true rfl) (by omega) rfl nh_X11_mustBe (c_X11_mustBe (by omega) hx hI (by decide) (by decide) (fun hp2 => ?_) (fun E => hX E))
    show mm_W d mmX11_both 33 [some (.ref 0), some (.int (Int32.ofInt a1)), some (.int (Int32.ofInt a2)), some (.int (Int32.ofInt a3)), none, none] [] (mz_mk g x) Q
    exfalso; omega
  · skip
    refine mm_g 2 (pc1 := 10) (lo1 := [some (.ref 0), some (.int (Int32.ofInt a1)), some (.int (Int32.ofInt a2)), some (.int (Int32.ofInt a3)), none, none]) (st1 := [.int (Int32.ofInt a2), .ref 0]) (H1 := mz_mk g x) rfl ?_
    refine mz_cv rfl mt_11_199 (by decide) (sc_0 _) rfl (Nat.le_of_ble_eq_true rfl) (by omega) (c_X11_isWord (by omega) hx hI l_a2 u_a2 (fun v3 l_v3 u_v3 => ⟨_, rfl, ?_⟩))
    show mm_W d mmX11_both 13 [some (.ref 0), some (.int (Int32.ofInt a1)), some (.int (Int32.ofInt a2)), some (.int (Int32.ofInt a3)), none, none] [.int (Int32.ofInt v3)] (mz_mk g x) Q
    refine mz_if_eq (tgt := 29) rfl rfl (mz_rg l_v3 u_v3) (fun c13_3 => ?_) (fun c13_3 => ?_)
    · skip
      refine mm_g 1 (pc1 := 30) (lo1 := [some (.ref 0), some (.int (Int32.ofInt a1)), some (.int (Int32.ofInt a2)), some (.int (Int32.ofInt a3)), none, none]) (st1 := [.int (Int32.ofInt 0)]) (H1 := mz_mk g x) rfl ?_
      refine mz_csx rfl mt_11_183 rfl (Nat.le_of_ble_eq_true rfl) (by omega) rfl nh_X11_mustBe (c_X11_mustBe (by omega) hx hI (by decide) (by decide) (fun hp4 => ?_) (fun E => hX E))
      show mm_W d mmX11_both 33 [some (.ref 0), some (.int (Int32.ofInt a1)), some (.int (Int32.ofInt a2)), some (.int (Int32.ofInt a3)), none, none] [] (mz_mk g x) Q
      exfalso; omega
    · skip
      refine mm_g 1 (pc1 := 17) (lo1 := [some (.ref 0), some (.int (Int32.ofInt a1)), some (.int (Int32.ofInt a2)), some (.int (Int32.ofInt a3)), none, none]) (st1 := [.int (Int32.ofInt a3)]) (H1 := mz_mk g x) rfl ?_
      refine mz_if_lt (tgt := 29) rfl rfl (mz_rg l_a3 u_a3) (fun c17_4 => ?_) (fun c17_4 => ?_)
      · skip
        refine mm_g 1 (pc1 := 30) (lo1 := [some (.ref 0), some (.int (Int32.ofInt a1)), some (.int (Int32.ofInt a2)), some (.int (Int32.ofInt a3)), none, none]) (st1 := [.int (Int32.ofInt 0)]) (H1 := mz_mk g x) rfl ?_
        refine mz_csx rfl mt_11_183 rfl (Nat.le_of_ble_eq_true rfl) (by omega) rfl nh_X11_mustBe (c_X11_mustBe (by omega) hx hI (by decide) (by decide) (fun hp5 => ?_) (fun E => hX E))
        show mm_W d mmX11_both 33 [some (.ref 0), some (.int (Int32.ofInt a1)), some (.int (Int32.ofInt a2)), some (.int (Int32.ofInt a3)), none, none] [] (mz_mk g x) Q
        exfalso; omega
      · skip
        refine mm_g 2 (pc1 := 22) (lo1 := [some (.ref 0), some (.int (Int32.ofInt a1)), some (.int (Int32.ofInt a2)), some (.int (Int32.ofInt a3)), none, none]) (st1 := [.int (Int32.ofInt 2), .int (Int32.ofInt a3)]) (H1 := mz_mk g x) rfl ?_
        refine mz_ic_gt (tgt := 29) rfl rfl (mz_rg l_a3 u_a3) ⟨by decide, by decide⟩ (fun c22_5 => ?_) (fun c22_5 => ?_)
        · skip
          refine mm_g 1 (pc1 := 30) (lo1 := [some (.ref 0), some (.int (Int32.ofInt a1)), some (.int (Int32.ofInt a2)), some (.int (Int32.ofInt a3)), none, none]) (st1 := [.int (Int32.ofInt 0)]) (H1 := mz_mk g x) rfl ?_
          refine mz_csx rfl mt_11_183 rfl (Nat.le_of_ble_eq_true rfl) (by omega) rfl nh_X11_mustBe (c_X11_mustBe (by omega) hx hI (by decide) (by decide) (fun hp6 => ?_) (fun E => hX E))
          show mm_W d mmX11_both 33 [some (.ref 0), some (.int (Int32.ofInt a1)), some (.int (Int32.ofInt a2)), some (.int (Int32.ofInt a3)), none, none] [] (mz_mk g x) Q
          exfalso; omega
        · skip
          refine mm_g 1 (pc1 := 26) (lo1 := [some (.ref 0), some (.int (Int32.ofInt a1)), some (.int (Int32.ofInt a2)), some (.int (Int32.ofInt a3)), none, none]) (st1 := [.int (Int32.ofInt 1)]) (H1 := mz_mk g x) rfl ?_
          refine mz_gt (tgt := 30) rfl rfl ?_
          refine mz_csx rfl mt_11_183 rfl (Nat.le_of_ble_eq_true rfl) (by omega) rfl nh_X11_mustBe (c_X11_mustBe (by omega) hx hI (by decide) (by decide) (fun hp7 => ?_) (fun E => hX E))
          show mm_W d mmX11_both 33 [some (.ref 0), some (.int (Int32.ofInt a1)), some (.int (Int32.ofInt a2)), some (.int (Int32.ofInt a3)), none, none] [] (mz_mk g x) Q
          refine mm_g 1 (pc1 := 34) (lo1 := [some (.ref 0), some (.int (Int32.ofInt a1)), some (.int (Int32.ofInt a2)), some (.int (Int32.ofInt a3)), none, none]) (st1 := [.int (Int32.ofInt a3)]) (H1 := mz_mk g x) rfl ?_
          refine mz_if_ne (tgt := 50) rfl rfl (mz_rg l_a3 u_a3) (fun c34_7 => ?_) (fun c34_7 => ?_)
          · skip
            refine mm_g 1 (pc1 := 51) (lo1 := [some (.ref 0), some (.int (Int32.ofInt a1)), some (.int (Int32.ofInt a2)), some (.int (Int32.ofInt a3)), none, none]) (st1 := [.ref 0]) (H1 := mz_mk g x) rfl ?_
            refine mz_fgR (v := x.1) rfl fd_11_16 (by decide) (sc_0 _) rfl ?_
            refine mz_fgR (v := (x.1 + 1)) rfl fd_11_135 (by decide) (kc_load (kx_1 hx) _) (kr_load_0 (kx_1 hx) _ _ _) ?_
            refine mm_g 1 (pc1 := 58) (lo1 := [some (.ref 0), some (.int (Int32.ofInt a1)), some (.int (Int32.ofInt a2)), some (.int (Int32.ofInt a3)), none, none]) (st1 := [.int (Int32.ofInt a1), .ref (x.1 + 1)]) (H1 := mz_mk g x) rfl ?_
            refine mz_cv rfl mt_11_203 (by decide) (kc_words (ks_load_0 (kx_1 hx)) _) rfl (Nat.le_of_ble_eq_true rfl) (by omega) (c_X10_of (by omega) hx hI (ks_load_0 (kx_1 hx)) l_a1 u_a1 (fun u8 k_u8 hp9 => ⟨_, rfl, ?_⟩))
            show mm_W d mmX11_both 61 [some (.ref 0), some (.int (Int32.ofInt a1)), some (.int (Int32.ofInt a2)), some (.int (Int32.ofInt a3)), none, none] [.ref u8] (mz_mk g x) Q
            refine mm_g 2 (pc1 := 64) (lo1 := [some (.ref 0), some (.int (Int32.ofInt a1)), some (.int (Int32.ofInt a2)), some (.int (Int32.ofInt a3)), some (.ref u8), none]) (st1 := [.ref 0]) (H1 := mz_mk g x) rfl ?_
            refine mz_fgR (v := x.1) rfl fd_11_16 (by decide) (sc_0 _) rfl ?_
            refine mz_fgR (v := (x.1 + 1)) rfl fd_11_135 (by decide) (kc_load (kx_1 hx) _) (kr_load_0 (kx_1 hx) _ _ _) ?_
            refine mm_g 1 (pc1 := 71) (lo1 := [some (.ref 0), some (.int (Int32.ofInt a1)), some (.int (Int32.ofInt a2)), some (.int (Int32.ofInt a3)), some (.ref u8), none]) (st1 := [.int (Int32.ofInt a2), .ref (x.1 + 1)]) (H1 := mz_mk g x) rfl ?_
            refine mz_cv rfl mt_11_203 (by decide) (kc_words (ks_load_0 (kx_1 hx)) _) rfl (Nat.le_of_ble_eq_true rfl) (by omega) (c_X10_of (by omega) hx hI (ks_load_0 (kx_1 hx)) l_a2 u_a2 (fun u10 k_u10 hp11 => ⟨_, rfl, ?_⟩))
            show mm_W d mmX11_both 74 [some (.ref 0), some (.int (Int32.ofInt a1)), some (.int (Int32.ofInt a2)), some (.int (Int32.ofInt a3)), some (.ref u8), none] [.ref u10] (mz_mk g x) Q
            refine mm_g 3 (pc1 := 78) (lo1 := [some (.ref 0), some (.int (Int32.ofInt a1)), some (.int (Int32.ofInt a2)), some (.int (Int32.ofInt a3)), some (.ref u8), some (.ref u10)]) (st1 := [.int (Int32.ofInt 1), .int (Int32.ofInt a3)]) (H1 := mz_mk g x) rfl ?_
            refine mz_ic_ne (tgt := 95) rfl rfl (mz_rg l_a3 u_a3) ⟨by decide, by decide⟩ (fun c78_11 => ?_) (fun c78_11 => ?_)
            · skip
              refine mm_g 1 (pc1 := 96) (lo1 := [some (.ref 0), some (.int (Int32.ofInt a1)), some (.int (Int32.ofInt a2)), some (.int (Int32.ofInt a3)), some (.ref u8), some (.ref u10)]) (st1 := [.ref 0]) (H1 := mz_mk g x) rfl ?_
              refine mz_fgR (v := 116) rfl fd_11_51 (by decide) (sc_0 _) (rf_0_8 _ _ _) ?_
              refine mm_g 2 (pc1 := 103) (lo1 := [some (.ref 0), some (.int (Int32.ofInt a1)), some (.int (Int32.ofInt a2)), some (.int (Int32.ofInt a3)), some (.ref u8), some (.ref u10)]) (st1 := [.ref u10, .ref u8, .ref 116]) (H1 := mz_mk g x) rfl ?_
              refine mz_cv rfl mt_11_319 (by decide) (sc_116 _) rfl (Nat.le_of_ble_eq_true rfl) (by omega) (c_X2_common (by omega) hx hI k_u8 k_u10 (fun v12 g13 hIg13 hfg13 l_v12 u_v12 => ⟨_, rfl, ?_⟩))
              show mm_W d mmX11_both 106 [some (.ref 0), some (.int (Int32.ofInt a1)), some (.int (Int32.ofInt a2)), some (.int (Int32.ofInt a3)), some (.ref u8), some (.ref u10)] [.int (Int32.ofInt v12)] (mz_mk g13 x) Q
              exact mm_rt rfl rfl (hQ _ _ hIg13 (fun k j hk => (hfg13 k j (fun h => hk h))) (by omega) (by omega))
            · skip
              refine mm_g 1 (pc1 := 82) (lo1 := [some (.ref 0), some (.int (Int32.ofInt a1)), some (.int (Int32.ofInt a2)), some (.int (Int32.ofInt a3)), some (.ref u8), some (.ref u10)]) (st1 := [.ref 0]) (H1 := mz_mk g x) rfl ?_
              refine mz_fgR (v := 116) rfl fd_11_51 (by decide) (sc_0 _) (rf_0_8 _ _ _) ?_
              refine mm_g 2 (pc1 := 89) (lo1 := [some (.ref 0), some (.int (Int32.ofInt a1)), some (.int (Int32.ofInt a2)), some (.int (Int32.ofInt a3)), some (.ref u8), some (.ref u10)]) (st1 := [.ref u10, .ref u8, .ref 116]) (H1 := mz_mk g x) rfl ?_
              refine mz_cv rfl mt_11_293 (by decide) (sc_116 _) rfl (Nat.le_of_ble_eq_true rfl) (by omega) (c_X2_changes (by omega) hx hI k_u8 k_u10 (fun v14 g15 hIg15 hfg15 l_v14 u_v14 => ⟨_, rfl, ?_⟩))
              show mm_W d mmX11_both 92 [some (.ref 0), some (.int (Int32.ofInt a1)), some (.int (Int32.ofInt a2)), some (.int (Int32.ofInt a3)), some (.ref u8), some (.ref u10)] [.int (Int32.ofInt v14)] (mz_mk g15 x) Q
              refine mz_gt (tgt := 106) rfl rfl ?_
              exact mm_rt rfl rfl (hQ _ _ hIg15 (fun k j hk => (hfg15 k j (fun h => hk h))) (by omega) (by omega))
          · skip
            refine mm_g 1 (pc1 := 38) (lo1 := [some (.ref 0), some (.int (Int32.ofInt a1)), some (.int (Int32.ofInt a2)), some (.int (Int32.ofInt a3)), none, none]) (st1 := [.ref 0]) (H1 := mz_mk g x) rfl ?_
            refine mz_fgR (v := x.1) rfl fd_11_16 (by decide) (sc_0 _) rfl ?_
            refine mz_fgR (v := (x.1 + 1)) rfl fd_11_135 (by decide) (kc_load (kx_1 hx) _) (kr_load_0 (kx_1 hx) _ _ _) ?_
            refine mm_g 2 (pc1 := 46) (lo1 := [some (.ref 0), some (.int (Int32.ofInt a1)), some (.int (Int32.ofInt a2)), some (.int (Int32.ofInt a3)), none, none]) (st1 := [.int (Int32.ofInt a2), .int (Int32.ofInt a1), .ref (x.1 + 1)]) (H1 := mz_mk g x) rfl ?_
            refine mz_cv rfl mt_11_316 (by decide) (kc_words (ks_load_0 (kx_1 hx)) _) rfl (Nat.le_of_ble_eq_true rfl) (by omega) (c_X10_overlapOf (by omega) hx hI (ks_load_0 (kx_1 hx)) l_a1 u_a1 l_a2 u_a2 (fun v16 l_v16 u_v16 => ⟨_, rfl, ?_⟩))
            show mm_W d mmX11_both 49 [some (.ref 0), some (.int (Int32.ofInt a1)), some (.int (Int32.ofInt a2)), some (.int (Int32.ofInt a3)), none, none] [.int (Int32.ofInt v16)] (mz_mk g x) Q
            exact mm_rt rfl rfl (hQ _ _ hI (fun _ _ _ => rfl) (by omega) (by omega))
theorem c_X10_rowLetters {d : Nat} (hd : 1 ≤ d) {x : mm_X} (hx : mk_x x) {g : mz_G} (hI : mz_inv g) {q0 : Nat} (h_q0 : kd_words q0) {Q : (Option Value ⊕ Nat) → mm_H → Prop} (hQ : ∀ (r : Int), (-2147483648) ≤ r → r ≤ 2147483647 → Q (.inl (some (.int (Int32.ofInt r)))) (mz_mk g x)) : mm_C d 112 [.ref q0] (mz_mk g x) Q := by
  have kn_q0 := kn_words h_q0
  refine ⟨mmX10_rowLetters, [some (.ref q0)], rfl, rfl, ?_⟩
  refine mm_g 1 (pc1 := 1) (lo1 := [some (.ref q0)]) (st1 := [.ref q0]) (H1 := mz_mk g x) rfl ?_
  refine mz_gI rfl fd_10_44 (by decide) (kc_words h_q0 _) hI (kb_words_8 h_q0) (fun v1 e_v1 l_v1 u_v1 => ?_)
  exact mm_rt rfl rfl (hQ _ (by omega) (by omega))
theorem c_X11_row {d : Nat} (hd : 13 ≤ d) {x : mm_X} (hx : mk_x x) {g : mz_G} (hI : mz_inv g) {a1 : Int} (l_a1 : (-2147483648) ≤ a1) (u_a1 : a1 ≤ 2147483647) {Q : (Option Value ⊕ Nat) → mm_H → Prop} (hQ : ∀ (r : Int), (-2147483648) ≤ r → r ≤ 2147483647 → Q (.inl (some (.int (Int32.ofInt r)))) (mz_mk g x)) (hX : ∀ E, Q (.inr E) (mz_mk g (mz_tx x))) : mm_C d 149 [.ref 0, .int (Int32.ofInt a1)] (mz_mk g x) Q := by
  have kx := kn_x hx
  refine ⟨mmX11_row, [some (.ref 0), some (.int (Int32.ofInt a1))], rfl, rfl, ?_⟩
  refine mm_g 2 (pc1 := 2) (lo1 := [some (.ref 0), some (.int (Int32.ofInt a1))]) (st1 := [.int (Int32.ofInt (-1)), .int (Int32.ofInt a1)]) (H1 := mz_mk g x) rfl ?_
  refine mz_ic_ne (tgt := 16) rfl rfl (mz_rg l_a1 u_a1) ⟨by decide, by decide⟩ (fun c2_0 => ?_) (fun c2_0 => ?_)
  · skip
    refine mm_g 1 (pc1 := 17) (lo1 := [some (.ref 0), some (.int (Int32.ofInt a1))]) (st1 := [.int (Int32.ofInt a1)]) (H1 := mz_mk g x) rfl ?_
    refine mz_if_lt (tgt := 38) rfl rfl (mz_rg l_a1 u_a1) (fun c17_0 => ?_) (fun c17_0 => ?_)
    · skip
      refine mm_g 1 (pc1 := 39) (lo1 := [some (.ref 0), some (.int (Int32.ofInt a1))]) (st1 := [.int (Int32.ofInt 0)]) (H1 := mz_mk g x) rfl ?_
      refine mz_csx rfl mt_11_183 rfl (Nat.le_of_ble_eq_true rfl) (by omega) rfl nh_X11_mustBe (c_X11_mustBe (by omega) hx hI (by decide) (by decide) (fun hp1 => ?_) (fun E => hX E))
      show mm_W d mmX11_row 42 [some (.ref 0), some (.int (Int32.ofInt a1))] [] (mz_mk g x) Q
      exfalso; omega
    · skip
      refine mm_g 2 (pc1 := 22) (lo1 := [some (.ref 0), some (.int (Int32.ofInt a1))]) (st1 := [.ref 0, .int (Int32.ofInt a1)]) (H1 := mz_mk g x) rfl ?_
      refine mz_fgR (v := x.1) rfl fd_11_16 (by decide) (sc_0 _) rfl ?_
      refine mz_fgR (v := (x.1 + 1)) rfl fd_11_135 (by decide) (kc_load (kx_1 hx) _) (kr_load_0 (kx_1 hx) _ _ _) ?_
      refine mz_cv rfl mt_11_152 (by decide) (kc_words (ks_load_0 (kx_1 hx)) _) rfl (Nat.le_of_ble_eq_true rfl) (by omega) (c_X10_many (by omega) hx hI (ks_load_0 (kx_1 hx)) (fun v2 l_v2 u_v2 => ⟨_, rfl, ?_⟩))
      show mm_W d mmX11_row 31 [some (.ref 0), some (.int (Int32.ofInt a1))] [.int (Int32.ofInt v2), .int (Int32.ofInt a1)] (mz_mk g x) Q
      refine mz_ic_ge (tgt := 38) rfl rfl (mz_rg l_a1 u_a1) (mz_rg l_v2 u_v2) (fun c31_2 => ?_) (fun c31_2 => ?_)
      · skip
        refine mm_g 1 (pc1 := 39) (lo1 := [some (.ref 0), some (.int (Int32.ofInt a1))]) (st1 := [.int (Int32.ofInt 0)]) (H1 := mz_mk g x) rfl ?_
        refine mz_csx rfl mt_11_183 rfl (Nat.le_of_ble_eq_true rfl) (by omega) rfl nh_X11_mustBe (c_X11_mustBe (by omega) hx hI (by decide) (by decide) (fun hp3 => ?_) (fun E => hX E))
        show mm_W d mmX11_row 42 [some (.ref 0), some (.int (Int32.ofInt a1))] [] (mz_mk g x) Q
        exfalso; omega
      · skip
        refine mm_g 1 (pc1 := 35) (lo1 := [some (.ref 0), some (.int (Int32.ofInt a1))]) (st1 := [.int (Int32.ofInt 1)]) (H1 := mz_mk g x) rfl ?_
        refine mz_gt (tgt := 39) rfl rfl ?_
        refine mz_csx rfl mt_11_183 rfl (Nat.le_of_ble_eq_true rfl) (by omega) rfl nh_X11_mustBe (c_X11_mustBe (by omega) hx hI (by decide) (by decide) (fun hp4 => ?_) (fun E => hX E))
        show mm_W d mmX11_row 42 [some (.ref 0), some (.int (Int32.ofInt a1))] [] (mz_mk g x) Q
        refine mm_g 1 (pc1 := 43) (lo1 := [some (.ref 0), some (.int (Int32.ofInt a1))]) (st1 := [.ref 0]) (H1 := mz_mk g x) rfl ?_
        refine mz_fgR (v := x.1) rfl fd_11_16 (by decide) (sc_0 _) rfl ?_
        refine mz_fgR (v := (x.1 + 1)) rfl fd_11_135 (by decide) (kc_load (kx_1 hx) _) (kr_load_0 (kx_1 hx) _ _ _) ?_
        refine mm_g 1 (pc1 := 50) (lo1 := [some (.ref 0), some (.int (Int32.ofInt a1))]) (st1 := [.int (Int32.ofInt a1), .ref (x.1 + 1)]) (H1 := mz_mk g x) rfl ?_
        refine mz_cv rfl mt_11_325 (by decide) (kc_words (ks_load_0 (kx_1 hx)) _) rfl (Nat.le_of_ble_eq_true rfl) (by omega) (c_X10_inRow (by omega) hx hI (ks_load_0 (kx_1 hx)) l_a1 u_a1 (fun v5 l_v5 u_v5 => ⟨_, rfl, ?_⟩))
        show mm_W d mmX11_row 53 [some (.ref 0), some (.int (Int32.ofInt a1))] [.int (Int32.ofInt v5)] (mz_mk g x) Q
        exact mm_rt rfl rfl (hQ _ (by omega) (by omega))
  · skip
    refine mm_g 1 (pc1 := 6) (lo1 := [some (.ref 0), some (.int (Int32.ofInt a1))]) (st1 := [.ref 0]) (H1 := mz_mk g x) rfl ?_
    refine mz_fgR (v := x.1) rfl fd_11_16 (by decide) (sc_0 _) rfl ?_
    refine mz_fgR (v := (x.1 + 1)) rfl fd_11_135 (by decide) (kc_load (kx_1 hx) _) (kr_load_0 (kx_1 hx) _ _ _) ?_
    refine mz_cv rfl mt_11_322 (by decide) (kc_words (ks_load_0 (kx_1 hx)) _) rfl (Nat.le_of_ble_eq_true rfl) (by omega) (c_X10_rowLetters (by omega) hx hI (ks_load_0 (kx_1 hx)) (fun v6 l_v6 u_v6 => ⟨_, rfl, ?_⟩))
    show mm_W d mmX11_row 15 [some (.ref 0), some (.int (Int32.ofInt a1))] [.int (Int32.ofInt v6)] (mz_mk g x) Q
    exact mm_rt rfl rfl (hQ _ (by omega) (by omega))
theorem c_X10_chainSize {d : Nat} (hd : 1 ≤ d) {x : mm_X} (hx : mk_x x) {g : mz_G} (hI : mz_inv g) {q0 : Nat} (h_q0 : kd_words q0) {Q : (Option Value ⊕ Nat) → mm_H → Prop} (hQ : ∀ (r : Int), 0 ≤ r → r ≤ 8 → Q (.inl (some (.int (Int32.ofInt r)))) (mz_mk g x)) : mm_C d 114 [.ref q0] (mz_mk g x) Q := by
  have kn_q0 := kn_words h_q0
  refine ⟨mmX10_chainSize, [some (.ref q0)], rfl, rfl, ?_⟩
  refine mm_g 1 (pc1 := 1) (lo1 := [some (.ref q0)]) (st1 := [.ref q0]) (H1 := mz_mk g x) rfl ?_
  refine mz_gI rfl fd_10_47 (by decide) (kc_words h_q0 _) hI (kb_words_9 h_q0) (fun v1 e_v1 l_v1 u_v1 => ?_)
  exact mm_rt rfl rfl (hQ _ (by omega) (by omega))
theorem c_X10_inChain {d : Nat} (hd : 2 ≤ d) {x : mm_X} (hx : mk_x x) {g : mz_G} (hI : mz_inv g) {q0 : Nat} (h_q0 : kd_words q0) {a1 : Int} (l_a1 : (-2147483648) ≤ a1) (u_a1 : a1 ≤ 2147483647) {Q : (Option Value ⊕ Nat) → mm_H → Prop} (hQ : ∀ (r : Int), (-2147483648) ≤ r → r ≤ 2147483647 → Q (.inl (some (.int (Int32.ofInt r)))) (mz_mk g x)) : mm_C d 115 [.ref q0, .int (Int32.ofInt a1)] (mz_mk g x) Q := by
  have kn_q0 := kn_words h_q0
  refine ⟨mmX10_inChain, [some (.ref q0), some (.int (Int32.ofInt a1))], rfl, rfl, ?_⟩
  refine mm_g 1 (pc1 := 1) (lo1 := [some (.ref q0), some (.int (Int32.ofInt a1))]) (st1 := [.ref q0]) (H1 := mz_mk g x) rfl ?_
  refine mz_fgR (v := (q0 + 8)) rfl fd_10_41 (by decide) (kc_words h_q0 _) (kr_words_7 h_q0 _ _ _) ?_
  refine mm_g 1 (pc1 := 5) (lo1 := [some (.ref q0), some (.int (Int32.ofInt a1))]) (st1 := [.int (Int32.ofInt a1), .ref (q0 + 8)]) (H1 := mz_mk g x) rfl ?_
  refine mz_cs rfl mt_10_62 (by decide) rfl (Nat.le_of_ble_eq_true rfl) (by omega) (c_X11_at (by omega) hx hI (ka_words_7 h_q0 _) (by decide) (kba_words_7 h_q0) (by omega) (by omega) l_a1 u_a1 (fun v1 l_v1 u_v1 => ⟨_, rfl, ?_⟩))
  show mm_W d mmX10_inChain 8 [some (.ref q0), some (.int (Int32.ofInt a1))] [.int (Int32.ofInt v1)] (mz_mk g x) Q
  exact mm_rt rfl rfl (hQ _ (by omega) (by omega))
theorem c_X11_chain {d : Nat} (hd : 13 ≤ d) {x : mm_X} (hx : mk_x x) {g : mz_G} (hI : mz_inv g) {a1 : Int} (l_a1 : (-2147483648) ≤ a1) (u_a1 : a1 ≤ 2147483647) {Q : (Option Value ⊕ Nat) → mm_H → Prop} (hQ : ∀ (r : Int), (-2147483648) ≤ r → r ≤ 2147483647 → Q (.inl (some (.int (Int32.ofInt r)))) (mz_mk g x)) (hX : ∀ E, Q (.inr E) (mz_mk g (mz_tx x))) : mm_C d 150 [.ref 0, .int (Int32.ofInt a1)] (mz_mk g x) Q := by
  have kx := kn_x hx
  refine ⟨mmX11_chain, [some (.ref 0), some (.int (Int32.ofInt a1))], rfl, rfl, ?_⟩
  refine mm_g 2 (pc1 := 2) (lo1 := [some (.ref 0), some (.int (Int32.ofInt a1))]) (st1 := [.int (Int32.ofInt (-1)), .int (Int32.ofInt a1)]) (H1 := mz_mk g x) rfl ?_
  refine mz_ic_ne (tgt := 16) rfl rfl (mz_rg l_a1 u_a1) ⟨by decide, by decide⟩ (fun c2_0 => ?_) (fun c2_0 => ?_)
  · skip
    refine mm_g 1 (pc1 := 17) (lo1 := [some (.ref 0), some (.int (Int32.ofInt a1))]) (st1 := [.int (Int32.ofInt a1)]) (H1 := mz_mk g x) rfl ?_
    refine mz_if_lt (tgt := 38) rfl rfl (mz_rg l_a1 u_a1) (fun c17_0 => ?_) (fun c17_0 => ?_)
    · skip
      refine mm_g 1 (pc1 := 39) (lo1 := [some (.ref 0), some (.int (Int32.ofInt a1))]) (st1 := [.int (Int32.ofInt 0)]) (H1 := mz_mk g x) rfl ?_
      refine mz_csx rfl mt_11_183 rfl (Nat.le_of_ble_eq_true rfl) (by omega) rfl nh_X11_mustBe (c_X11_mustBe (by omega) hx hI (by decide) (by decide) (fun hp1 => ?_) (fun E => hX E))
      show mm_W d mmX11_chain 42 [some (.ref 0), some (.int (Int32.ofInt a1))] [] (mz_mk g x) Q
      exfalso; omega
    · skip
      refine mm_g 2 (pc1 := 22) (lo1 := [some (.ref 0), some (.int (Int32.ofInt a1))]) (st1 := [.ref 0, .int (Int32.ofInt a1)]) (H1 := mz_mk g x) rfl ?_
      refine mz_fgR (v := x.1) rfl fd_11_16 (by decide) (sc_0 _) rfl ?_
      refine mz_fgR (v := (x.1 + 1)) rfl fd_11_135 (by decide) (kc_load (kx_1 hx) _) (kr_load_0 (kx_1 hx) _ _ _) ?_
      refine mz_cv rfl mt_11_328 (by decide) (kc_words (ks_load_0 (kx_1 hx)) _) rfl (Nat.le_of_ble_eq_true rfl) (by omega) (c_X10_chainSize (by omega) hx hI (ks_load_0 (kx_1 hx)) (fun v2 l_v2 u_v2 => ⟨_, rfl, ?_⟩))
      show mm_W d mmX11_chain 31 [some (.ref 0), some (.int (Int32.ofInt a1))] [.int (Int32.ofInt v2), .int (Int32.ofInt a1)] (mz_mk g x) Q
      refine mz_ic_ge (tgt := 38) rfl rfl (mz_rg l_a1 u_a1) (mz_rg l_v2 u_v2) (fun c31_2 => ?_) (fun c31_2 => ?_)
      · skip
        refine mm_g 1 (pc1 := 39) (lo1 := [some (.ref 0), some (.int (Int32.ofInt a1))]) (st1 := [.int (Int32.ofInt 0)]) (H1 := mz_mk g x) rfl ?_
        refine mz_csx rfl mt_11_183 rfl (Nat.le_of_ble_eq_true rfl) (by omega) rfl nh_X11_mustBe (c_X11_mustBe (by omega) hx hI (by decide) (by decide) (fun hp3 => ?_) (fun E => hX E))
        show mm_W d mmX11_chain 42 [some (.ref 0), some (.int (Int32.ofInt a1))] [] (mz_mk g x) Q
        exfalso; omega
      · skip
        refine mm_g 1 (pc1 := 35) (lo1 := [some (.ref 0), some (.int (Int32.ofInt a1))]) (st1 := [.int (Int32.ofInt 1)]) (H1 := mz_mk g x) rfl ?_
        refine mz_gt (tgt := 39) rfl rfl ?_
        refine mz_csx rfl mt_11_183 rfl (Nat.le_of_ble_eq_true rfl) (by omega) rfl nh_X11_mustBe (c_X11_mustBe (by omega) hx hI (by decide) (by decide) (fun hp4 => ?_) (fun E => hX E))
        show mm_W d mmX11_chain 42 [some (.ref 0), some (.int (Int32.ofInt a1))] [] (mz_mk g x) Q
        refine mm_g 1 (pc1 := 43) (lo1 := [some (.ref 0), some (.int (Int32.ofInt a1))]) (st1 := [.ref 0]) (H1 := mz_mk g x) rfl ?_
        refine mz_fgR (v := x.1) rfl fd_11_16 (by decide) (sc_0 _) rfl ?_
        refine mz_fgR (v := (x.1 + 1)) rfl fd_11_135 (by decide) (kc_load (kx_1 hx) _) (kr_load_0 (kx_1 hx) _ _ _) ?_
        refine mm_g 1 (pc1 := 50) (lo1 := [some (.ref 0), some (.int (Int32.ofInt a1))]) (st1 := [.int (Int32.ofInt a1), .ref (x.1 + 1)]) (H1 := mz_mk g x) rfl ?_
        refine mz_cv rfl mt_11_331 (by decide) (kc_words (ks_load_0 (kx_1 hx)) _) rfl (Nat.le_of_ble_eq_true rfl) (by omega) (c_X10_inChain (by omega) hx hI (ks_load_0 (kx_1 hx)) l_a1 u_a1 (fun v5 l_v5 u_v5 => ⟨_, rfl, ?_⟩))
        show mm_W d mmX11_chain 53 [some (.ref 0), some (.int (Int32.ofInt a1))] [.int (Int32.ofInt v5)] (mz_mk g x) Q
        exact mm_rt rfl rfl (hQ _ (by omega) (by omega))
  · skip
    refine mm_g 1 (pc1 := 6) (lo1 := [some (.ref 0), some (.int (Int32.ofInt a1))]) (st1 := [.ref 0]) (H1 := mz_mk g x) rfl ?_
    refine mz_fgR (v := x.1) rfl fd_11_16 (by decide) (sc_0 _) rfl ?_
    refine mz_fgR (v := (x.1 + 1)) rfl fd_11_135 (by decide) (kc_load (kx_1 hx) _) (kr_load_0 (kx_1 hx) _ _ _) ?_
    refine mz_cv rfl mt_11_328 (by decide) (kc_words (ks_load_0 (kx_1 hx)) _) rfl (Nat.le_of_ble_eq_true rfl) (by omega) (c_X10_chainSize (by omega) hx hI (ks_load_0 (kx_1 hx)) (fun v6 l_v6 u_v6 => ⟨_, rfl, ?_⟩))
    show mm_W d mmX11_chain 15 [some (.ref 0), some (.int (Int32.ofInt a1))] [.int (Int32.ofInt v6)] (mz_mk g x) Q
    exact mm_rt rfl rfl (hQ _ (by omega) (by omega))
def fl_X11_toDraw_18 (x : mm_X) (a1 : Int) (a2 : Int) : Nat → Nat → Prop := fun k j => k = 122 ∨ k = ((x.1 + 36) + 2) ∨ k = ((x.1 + 36) + 3)
def fw_X11_toDraw (x : mm_X) (a1 : Int) (a2 : Int) : Nat → Nat → Prop := fun k j => k = 122 ∨ k = ((x.1 + 36) + 2) ∨ k = ((x.1 + 36) + 3)
theorem c_X11_toDraw {d : Nat} (hd : 16 ≤ d) {x : mm_X} (hx : mk_x x) {g : mz_G} (hI : mz_inv g) {a1 : Int} (l_a1 : (-2147483648) ≤ a1) (u_a1 : a1 ≤ 2147483647) {a2 : Int} (l_a2 : (-2147483648) ≤ a2) (u_a2 : a2 ≤ 2147483647) {Q : (Option Value ⊕ Nat) → mm_H → Prop} (hQ : ∀ (r : Int) (g1 : mz_G), mz_inv g1 → mz_fr (fw_X11_toDraw x a1 a2) g g1 → (-1) ≤ r → r ≤ 9 → Q (.inl (some (.int (Int32.ofInt r)))) (mz_mk g1 x)) (hX : ∀ E, Q (.inr E) (mz_mk g (mz_tx x))) : mm_C d 151 [.ref 0, .int (Int32.ofInt a1), .int (Int32.ofInt a2)] (mz_mk g x) Q := by
  have kx := kn_x hx
  refine ⟨mmX11_toDraw, [some (.ref 0), some (.int (Int32.ofInt a1)), some (.int (Int32.ofInt a2)), none], rfl, rfl, ?_⟩
  refine mm_g 2 (pc1 := 2) (lo1 := [some (.ref 0), some (.int (Int32.ofInt a1)), some (.int (Int32.ofInt a2)), none]) (st1 := [.int (Int32.ofInt a1), .ref 0]) (H1 := mz_mk g x) rfl ?_
  refine mz_cv rfl mt_11_231 (by decide) (sc_0 _) rfl (Nat.le_of_ble_eq_true rfl) (by omega) (c_X11_isTrunk (by omega) hx hI l_a1 u_a1 (fun v1 l_v1 u_v1 => ⟨_, rfl, ?_⟩))
  show mm_W d mmX11_toDraw 5 [some (.ref 0), some (.int (Int32.ofInt a1)), some (.int (Int32.ofInt a2)), none] [.int (Int32.ofInt v1)] (mz_mk g x) Q
  refine mz_csx rfl mt_11_183 rfl (Nat.le_of_ble_eq_true rfl) (by omega) rfl nh_X11_mustBe (c_X11_mustBe (by omega) hx hI l_v1 u_v1 (fun hp2 => ?_) (fun E => hX E))
  show mm_W d mmX11_toDraw 8 [some (.ref 0), some (.int (Int32.ofInt a1)), some (.int (Int32.ofInt a2)), none] [] (mz_mk g x) Q
  refine mm_g 1 (pc1 := 9) (lo1 := [some (.ref 0), some (.int (Int32.ofInt a1)), some (.int (Int32.ofInt a2)), none]) (st1 := [.int (Int32.ofInt a2)]) (H1 := mz_mk g x) rfl ?_
  refine mz_cs rfl mt_11_279 (by decide) rfl (Nat.le_of_ble_eq_true rfl) (by omega) (c_X11_isAhead (by omega) hx hI l_a2 u_a2 (fun v3 l_v3 u_v3 => ⟨_, rfl, ?_⟩))
  show mm_W d mmX11_toDraw 12 [some (.ref 0), some (.int (Int32.ofInt a1)), some (.int (Int32.ofInt a2)), none] [.int (Int32.ofInt v3)] (mz_mk g x) Q
  refine mz_csx rfl mt_11_106 rfl (Nat.le_of_ble_eq_true rfl) (by omega) rfl nh_X11_mustFit (c_X11_mustFit (by omega) hx hI l_v3 u_v3 (fun hp4 => ?_) (fun E => hX E))
  show mm_W d mmX11_toDraw 15 [some (.ref 0), some (.int (Int32.ofInt a1)), some (.int (Int32.ofInt a2)), none] [] (mz_mk g x) Q
  refine mz_bip rfl bip_9 ?_
  refine mm_g 1 (pc1 := 18) (lo1 := [some (.ref 0), some (.int (Int32.ofInt a1)), some (.int (Int32.ofInt a2)), some (.int (Int32.ofInt 9))]) (st1 := []) (H1 := mz_mk g x) rfl ?_
  have L9 : ∀ n8 : Nat, ∀ (v5 : Int) (g6 : mz_G), (v5 - (-1)).toNat = n8 → (-1) ≤ v5 → v5 ≤ 9 → mz_inv g6 → mz_fr (fl_X11_toDraw_18 x a1 a2) g g6 → mm_W d mmX11_toDraw 18 [some (.ref 0), some (.int (Int32.ofInt a1)), some (.int (Int32.ofInt a2)), some (.int (Int32.ofInt v5))] [] (mz_mk g6 x) Q := by
    intro n8
    induction n8 using Nat.strongRecOn with
    | ind n8 ih7 =>
    intro v5 g6 hmn8 l_v5 u_v5 hIg6 hfg6
    refine mm_g 1 (pc1 := 19) (lo1 := [some (.ref 0), some (.int (Int32.ofInt a1)), some (.int (Int32.ofInt a2)), some (.int (Int32.ofInt v5))]) (st1 := [.int (Int32.ofInt v5)]) (H1 := mz_mk g6 x) rfl ?_
    refine mz_if_lt (tgt := 51) rfl rfl (mz_rg l_v5 u_v5) (fun c19_9 => ?_) (fun c19_9 => ?_)
    · skip
      refine mm_g 1 (pc1 := 52) (lo1 := [some (.ref 0), some (.int (Int32.ofInt a1)), some (.int (Int32.ofInt a2)), some (.int (Int32.ofInt v5))]) (st1 := [.int (Int32.ofInt (-1))]) (H1 := mz_mk g6 x) rfl ?_
      exact mm_rt rfl rfl (hQ _ _ hIg6 (fun k j hk => (hfg6 k j (fun h => hk (Or.elim h (fun h => (Or.inl h)) (fun h => (Or.elim h (fun h => (Or.inr (Or.inl h))) (fun h => (Or.inr (Or.inr h))))))))) (by decide) (by decide))
    · skip
      refine mm_g 4 (pc1 := 26) (lo1 := [some (.ref 0), some (.int (Int32.ofInt a1)), some (.int (Int32.ofInt a2)), some (.int (Int32.ofInt v5))]) (st1 := [.int (Int32.ofInt a2), .int (Int32.ofInt v5), .int (Int32.ofInt a1), .ref 0]) (H1 := mz_mk g6 x) rfl ?_
      refine mz_cv rfl mt_11_282 (by decide) (sc_0 _) rfl (Nat.le_of_ble_eq_true rfl) (by omega) (c_X11_growProbe (by omega) hx hIg6 l_a1 u_a1 (by omega) (by omega) l_a2 u_a2 (fun g10 hIg10 hfg10 => ⟨_, rfl, ?_⟩))
      show mm_W d mmX11_toDraw 29 [some (.ref 0), some (.int (Int32.ofInt a1)), some (.int (Int32.ofInt a2)), some (.int (Int32.ofInt v5))] [] (mz_mk g10 x) Q
      refine mm_g 1 (pc1 := 30) (lo1 := [some (.ref 0), some (.int (Int32.ofInt a1)), some (.int (Int32.ofInt a2)), some (.int (Int32.ofInt v5))]) (st1 := [.ref 0]) (H1 := mz_mk g10 x) rfl ?_
      refine mz_fgR (v := x.1) rfl fd_11_16 (by decide) (sc_0 _) rfl ?_
      refine mm_g 1 (pc1 := 34) (lo1 := [some (.ref 0), some (.int (Int32.ofInt a1)), some (.int (Int32.ofInt a2)), some (.int (Int32.ofInt v5))]) (st1 := [.ref 0, .ref x.1]) (H1 := mz_mk g10 x) rfl ?_
      refine mz_fgR (v := 122) rfl fd_11_65 (by decide) (sc_0 _) (rf_0_10 _ _ _) ?_
      refine mz_cv rfl mt_11_259 (by decide) (kc_load (kx_1 hx) _) rfl (Nat.le_of_ble_eq_true rfl) (by omega) (c_X1_isFull (by omega) hx hIg10 (kx_1 hx) kp_trunk_122 (fun v11 l_v11 u_v11 => ⟨_, rfl, ?_⟩))
      show mm_W d mmX11_toDraw 40 [some (.ref 0), some (.int (Int32.ofInt a1)), some (.int (Int32.ofInt a2)), some (.int (Int32.ofInt v5))] [.int (Int32.ofInt v11)] (mz_mk g10 x) Q
      refine mz_if_eq (tgt := 45) rfl rfl (mz_rg l_v11 u_v11) (fun c40_11 => ?_) (fun c40_11 => ?_)
      · skip
        refine mz_iincR (v := v5) (lo2 := [some (.ref 0), some (.int (Int32.ofInt a1)), some (.int (Int32.ofInt a2)), some (.int (Int32.ofInt (v5 + (-1))))]) rfl rfl rfl (Nat.le_of_ble_eq_true rfl) rfl ?_
        refine mz_gt (tgt := 18) rfl rfl ?_
        exact ih7 (((v5 + (-1)) - (-1)).toNat) (by omega) (v5 + (-1)) g10 rfl (by omega) (by omega) hIg10 (fun k j hk => ((hfg10 k j (fun h => hk (Or.elim h (fun h => (Or.inl h)) (fun h => (Or.elim h (fun h => (Or.inr (Or.inl h))) (fun h => (Or.inr (Or.inr h)))))))).trans (hfg6 k j (fun h => hk (Or.elim h (fun h => (Or.inl h)) (fun h => (Or.elim h (fun h => (Or.inr (Or.inl h))) (fun h => (Or.inr (Or.inr h))))))))))
      · skip
        refine mm_g 1 (pc1 := 44) (lo1 := [some (.ref 0), some (.int (Int32.ofInt a1)), some (.int (Int32.ofInt a2)), some (.int (Int32.ofInt v5))]) (st1 := [.int (Int32.ofInt v5)]) (H1 := mz_mk g10 x) rfl ?_
        exact mm_rt rfl rfl (hQ _ _ hIg10 (fun k j hk => ((hfg10 k j (fun h => hk (Or.elim h (fun h => (Or.inl h)) (fun h => (Or.elim h (fun h => (Or.inr (Or.inl h))) (fun h => (Or.inr (Or.inr h)))))))).trans (hfg6 k j (fun h => hk (Or.elim h (fun h => (Or.inl h)) (fun h => (Or.elim h (fun h => (Or.inr (Or.inl h))) (fun h => (Or.inr (Or.inr h)))))))))) (by omega) (by omega))
  exact L9 _ 9 g rfl (by decide) (by decide) hI (fun _ _ _ => rfl)
theorem c_X3_total {d : Nat} (hd : 1 ≤ d) {x : mm_X} (hx : mk_x x) {g : mz_G} (hI : mz_inv g) {Q : (Option Value ⊕ Nat) → mm_H → Prop} (hQ : ∀ (r : Int), (-2147483648) ≤ r → r ≤ 2147483647 → Q (.inl (some (.int (Int32.ofInt r)))) (mz_mk g x)) : mm_C d 29 [.ref 118] (mz_mk g x) Q := by
  refine ⟨mmX3_total, [some (.ref 118)], rfl, rfl, ?_⟩
  refine mm_g 1 (pc1 := 1) (lo1 := [some (.ref 118)]) (st1 := [.ref 118]) (H1 := mz_mk g x) rfl ?_
  refine mz_gI rfl fd_3_21 (by decide) (sc_118 _) hI bd_118_3 (fun v1 e_v1 l_v1 u_v1 => ?_)
  exact mm_rt rfl rfl (hQ _ (by omega) (by omega))
def fw_X11_couples (x : mm_X) : Nat → Nat → Prop := fun k j => k = 133 ∨ k = 134 ∨ k = 135 ∨ k = 136 ∨ k = 117 ∨ k = 119 ∨ k = 120 ∨ (k = 118 ∧ j = 3) ∨ k = 121
theorem c_X11_couples {d : Nat} (hd : 15 ≤ d) {x : mm_X} (hx : mk_x x) {g : mz_G} (hI : mz_inv g) {Q : (Option Value ⊕ Nat) → mm_H → Prop} (hQ : ∀ (r : Int) (g1 : mz_G), mz_inv g1 → mz_fr (fw_X11_couples x) g g1 → (-2147483648) ≤ r → r ≤ 2147483647 → Q (.inl (some (.int (Int32.ofInt r)))) (mz_mk g1 x)) : mm_C d 152 [.ref 0] (mz_mk g x) Q := by
  have kx := kn_x hx
  refine ⟨mmX11_couples, [some (.ref 0)], rfl, rfl, ?_⟩
  refine mm_g 1 (pc1 := 1) (lo1 := [some (.ref 0)]) (st1 := [.ref 0]) (H1 := mz_mk g x) rfl ?_
  refine mz_cv rfl mt_11_247 (by decide) (sc_0 _) rfl (Nat.le_of_ble_eq_true rfl) (by omega) (c_X11_findCouples (by omega) hx hI (fun g1 hIg1 hfg1 => ⟨_, rfl, ?_⟩))
  show mm_W d mmX11_couples 4 [some (.ref 0)] [] (mz_mk g1 x) Q
  refine mm_g 1 (pc1 := 5) (lo1 := [some (.ref 0)]) (st1 := [.ref 0]) (H1 := mz_mk g1 x) rfl ?_
  refine mz_fgR (v := 118) rfl fd_11_58 (by decide) (sc_0 _) (rf_0_9 _ _ _) ?_
  refine mz_cv rfl mt_11_334 (by decide) (sc_118 _) rfl (Nat.le_of_ble_eq_true rfl) (by omega) (c_X3_total (by omega) hx hIg1 (fun v2 l_v2 u_v2 => ⟨_, rfl, ?_⟩))
  show mm_W d mmX11_couples 11 [some (.ref 0)] [.int (Int32.ofInt v2)] (mz_mk g1 x) Q
  exact mm_rt rfl rfl (hQ _ _ hIg1 (fun k j hk => (hfg1 k j (fun h => hk (Or.elim h (fun h => (Or.inl h)) (fun h => (Or.elim h (fun h => (Or.inr (Or.inl h))) (fun h => (Or.elim h (fun h => (Or.inr (Or.inr (Or.inl h)))) (fun h => (Or.elim h (fun h => (Or.inr (Or.inr (Or.inr (Or.inl h))))) (fun h => (Or.elim h (fun h => (Or.inr (Or.inr (Or.inr (Or.inr (Or.inl h)))))) (fun h => (Or.elim h (fun h => (Or.inr (Or.inr (Or.inr (Or.inr (Or.inr (Or.inl h))))))) (fun h => (Or.elim h (fun h => (Or.inr (Or.inr (Or.inr (Or.inr (Or.inr (Or.inr (Or.inl h)))))))) (fun h => (Or.elim h (fun h => (Or.inr (Or.inr (Or.inr (Or.inr (Or.inr (Or.inr (Or.inr (Or.inl h))))))))) (fun h => (Or.inr (Or.inr (Or.inr (Or.inr (Or.inr (Or.inr (Or.inr (Or.inr h))))))))))))))))))))))))))) (by omega) (by omega))
def fw_X6_addSeen (x : mm_X) (q0 : Nat) (a1 : Int) (a2 : Int) (a3 : Int) : Nat → Nat → Prop := fun k j => k = (q0 + 11) ∨ k = (q0 + 12) ∨ k = (q0 + 13) ∨ k = q0
theorem c_X6_addSeen {d : Nat} (hd : 2 ≤ d) {x : mm_X} (hx : mk_x x) {g : mz_G} (hI : mz_inv g) {q0 : Nat} (h_q0 : kd_story q0) {a1 : Int} (l_a1 : (-2147483648) ≤ a1) (u_a1 : a1 ≤ 2147483647) {a2 : Int} (l_a2 : 0 ≤ a2) (u_a2 : a2 ≤ 20) {a3 : Int} (l_a3 : (-2147483648) ≤ a3) (u_a3 : a3 ≤ 2147483647) {Q : (Option Value ⊕ Nat) → mm_H → Prop} (hQ : ∀ (g1 : mz_G), mz_inv g1 → mz_fr (fw_X6_addSeen x q0 a1 a2 a3) g g1 → Q (.inl none) (mz_mk g1 x)) : mm_C d 74 [.ref q0, .int (Int32.ofInt a1), .int (Int32.ofInt a2), .int (Int32.ofInt a3)] (mz_mk g x) Q := by
  have kn_q0 := kn_story h_q0
  refine ⟨mmX6_addSeen, [some (.ref q0), some (.int (Int32.ofInt a1)), some (.int (Int32.ofInt a2)), some (.int (Int32.ofInt a3))], rfl, rfl, ?_⟩
  refine mm_g 1 (pc1 := 1) (lo1 := [some (.ref q0), some (.int (Int32.ofInt a1)), some (.int (Int32.ofInt a2)), some (.int (Int32.ofInt a3))]) (st1 := [.ref q0]) (H1 := mz_mk g x) rfl ?_
  refine mz_gI rfl fd_6_38 (by decide) (kc_story h_q0 _) hI (kb_story_7 h_q0) (fun v1 e_v1 l_v1 u_v1 => ?_)
  refine mz_bip rfl bip_8 ?_
  refine mz_ic_ge (tgt := 55) rfl rfl (mz_rg l_v1 u_v1) ⟨by decide, by decide⟩ (fun c6_1 => ?_) (fun c6_1 => ?_)
  · skip
    exact mm_rt rfl rfl (hQ _ hI (fun _ _ _ => rfl))
  · skip
    refine mm_g 1 (pc1 := 10) (lo1 := [some (.ref q0), some (.int (Int32.ofInt a1)), some (.int (Int32.ofInt a2)), some (.int (Int32.ofInt a3))]) (st1 := [.ref q0]) (H1 := mz_mk g x) rfl ?_
    refine mz_fgR (v := (q0 + 11)) rfl fd_6_29 (by decide) (kc_story h_q0 _) (kr_story_4 h_q0 _ _ _) ?_
    refine mm_g 1 (pc1 := 14) (lo1 := [some (.ref q0), some (.int (Int32.ofInt a1)), some (.int (Int32.ofInt a2)), some (.int (Int32.ofInt a3))]) (st1 := [.ref q0, .ref (q0 + 11)]) (H1 := mz_mk g x) rfl ?_
    refine mz_fgI (v := v1) rfl fd_6_38 (by decide) (kc_story h_q0 _) e_v1 ?_
    refine mm_g 1 (pc1 := 18) (lo1 := [some (.ref q0), some (.int (Int32.ofInt a1)), some (.int (Int32.ofInt a2)), some (.int (Int32.ofInt a3))]) (st1 := [.int (Int32.ofInt a1), .int (Int32.ofInt v1), .ref (q0 + 11)]) (H1 := mz_mk g x) rfl ?_
    refine mz_cs rfl mt_6_56 (by decide) rfl (Nat.le_of_ble_eq_true rfl) (by omega) (c_X11_put (by omega) hx hI (ka_story_4 h_q0 _) (by decide) (kba_story_4 h_q0) (by omega) (by omega) (by omega) (by omega) l_a1 u_a1 (by omega) (by omega) (fun g2 hIg2 hfg2 => ⟨_, rfl, ?_⟩))
    show mm_W d mmX6_addSeen 21 [some (.ref q0), some (.int (Int32.ofInt a1)), some (.int (Int32.ofInt a2)), some (.int (Int32.ofInt a3))] [] (mz_mk g2 x) Q
    refine mm_g 1 (pc1 := 22) (lo1 := [some (.ref q0), some (.int (Int32.ofInt a1)), some (.int (Int32.ofInt a2)), some (.int (Int32.ofInt a3))]) (st1 := [.ref q0]) (H1 := mz_mk g2 x) rfl ?_
    refine mz_fgR (v := (q0 + 12)) rfl fd_6_32 (by decide) (kc_story h_q0 _) (kr_story_5 h_q0 _ _ _) ?_
    refine mm_g 1 (pc1 := 26) (lo1 := [some (.ref q0), some (.int (Int32.ofInt a1)), some (.int (Int32.ofInt a2)), some (.int (Int32.ofInt a3))]) (st1 := [.ref q0, .ref (q0 + 12)]) (H1 := mz_mk g2 x) rfl ?_
    refine mz_fgI (v := v1) rfl fd_6_38 (by decide) (kc_story h_q0 _) (show g2 q0 7 = v1 from ((hfg2 q0 7 (fun h => (by have h9 : q0 = (q0 + 11) := h; omega))).trans e_v1)) ?_
    refine mm_g 1 (pc1 := 30) (lo1 := [some (.ref q0), some (.int (Int32.ofInt a1)), some (.int (Int32.ofInt a2)), some (.int (Int32.ofInt a3))]) (st1 := [.int (Int32.ofInt a2), .int (Int32.ofInt v1), .ref (q0 + 12)]) (H1 := mz_mk g2 x) rfl ?_
    refine mz_cs rfl mt_6_56 (by decide) rfl (Nat.le_of_ble_eq_true rfl) (by omega) (c_X11_put (by omega) hx hIg2 (ka_story_5 h_q0 _) (by decide) (kba_story_5 h_q0) (by omega) (by omega) (by omega) (by omega) (by omega) (by omega) (by omega) (by omega) (fun g3 hIg3 hfg3 => ⟨_, rfl, ?_⟩))
    show mm_W d mmX6_addSeen 33 [some (.ref q0), some (.int (Int32.ofInt a1)), some (.int (Int32.ofInt a2)), some (.int (Int32.ofInt a3))] [] (mz_mk g3 x) Q
    refine mm_g 1 (pc1 := 34) (lo1 := [some (.ref q0), some (.int (Int32.ofInt a1)), some (.int (Int32.ofInt a2)), some (.int (Int32.ofInt a3))]) (st1 := [.ref q0]) (H1 := mz_mk g3 x) rfl ?_
    refine mz_fgR (v := (q0 + 13)) rfl fd_6_35 (by decide) (kc_story h_q0 _) (kr_story_6 h_q0 _ _ _) ?_
    refine mm_g 1 (pc1 := 38) (lo1 := [some (.ref q0), some (.int (Int32.ofInt a1)), some (.int (Int32.ofInt a2)), some (.int (Int32.ofInt a3))]) (st1 := [.ref q0, .ref (q0 + 13)]) (H1 := mz_mk g3 x) rfl ?_
    refine mz_fgI (v := v1) rfl fd_6_38 (by decide) (kc_story h_q0 _) (show g3 q0 7 = v1 from ((hfg3 q0 7 (fun h => (by have h9 : q0 = (q0 + 12) := h; omega))).trans ((hfg2 q0 7 (fun h => (by have h9 : q0 = (q0 + 11) := h; omega))).trans e_v1))) ?_
    refine mm_g 1 (pc1 := 42) (lo1 := [some (.ref q0), some (.int (Int32.ofInt a1)), some (.int (Int32.ofInt a2)), some (.int (Int32.ofInt a3))]) (st1 := [.int (Int32.ofInt a3), .int (Int32.ofInt v1), .ref (q0 + 13)]) (H1 := mz_mk g3 x) rfl ?_
    refine mz_cs rfl mt_6_56 (by decide) rfl (Nat.le_of_ble_eq_true rfl) (by omega) (c_X11_put (by omega) hx hIg3 (ka_story_6 h_q0 _) (by decide) (kba_story_6 h_q0) (by omega) (by omega) (by omega) (by omega) l_a3 u_a3 (by omega) (by omega) (fun g4 hIg4 hfg4 => ⟨_, rfl, ?_⟩))
    show mm_W d mmX6_addSeen 45 [some (.ref q0), some (.int (Int32.ofInt a1)), some (.int (Int32.ofInt a2)), some (.int (Int32.ofInt a3))] [] (mz_mk g4 x) Q
    refine mm_g 2 (pc1 := 47) (lo1 := [some (.ref q0), some (.int (Int32.ofInt a1)), some (.int (Int32.ofInt a2)), some (.int (Int32.ofInt a3))]) (st1 := [.ref q0, .ref q0]) (H1 := mz_mk g4 x) rfl ?_
    refine mz_fgI (v := v1) rfl fd_6_38 (by decide) (kc_story h_q0 _) (show g4 q0 7 = v1 from ((hfg4 q0 7 (fun h => (by have h9 : q0 = (q0 + 13) := h; omega))).trans ((hfg3 q0 7 (fun h => (by have h9 : q0 = (q0 + 12) := h; omega))).trans ((hfg2 q0 7 (fun h => (by have h9 : q0 = (q0 + 11) := h; omega))).trans e_v1)))) ?_
    refine mm_g 1 (pc1 := 51) (lo1 := [some (.ref q0), some (.int (Int32.ofInt a1)), some (.int (Int32.ofInt a2)), some (.int (Int32.ofInt a3))]) (st1 := [.int (Int32.ofInt 1), .int (Int32.ofInt v1), .ref q0]) (H1 := mz_mk g4 x) rfl ?_
    refine mz_iadd rfl ?_
    refine mz_pI rfl fd_6_38 (kc_story h_q0 _) hIg4 (kb_story_7 h_q0) (by omega) (by omega) (fun g5 hIg5 hug5 => ?_)
    exact mm_rt rfl rfl (hQ _ hIg5 (fun k j hk => ((hug5.2 k j (fun h => hk (Or.inr (Or.inr (Or.inr h.1))))).trans ((hfg4 k j (fun h => hk (Or.inr (Or.inr (Or.inl h))))).trans ((hfg3 k j (fun h => hk (Or.inr (Or.inl h)))).trans (hfg2 k j (fun h => hk (Or.inl h))))))))
def fw_X11_see (x : mm_X) (a1 : Int) (a2 : Int) (a3 : Int) : Nat → Nat → Prop := fun k j => k = 100 ∨ k = 97 ∨ k = 98 ∨ k = 99 ∨ k = 86
theorem c_X11_see {d : Nat} (hd : 13 ≤ d) {x : mm_X} (hx : mk_x x) {g : mz_G} (hI : mz_inv g) {a1 : Int} (l_a1 : (-2147483648) ≤ a1) (u_a1 : a1 ≤ 2147483647) {a2 : Int} (l_a2 : (-2147483648) ≤ a2) (u_a2 : a2 ≤ 2147483647) {a3 : Int} (l_a3 : (-2147483648) ≤ a3) (u_a3 : a3 ≤ 2147483647) {Q : (Option Value ⊕ Nat) → mm_H → Prop} (hQ : ∀ (r : Int) (g1 : mz_G), mz_inv g1 → mz_fr (fw_X11_see x a1 a2 a3) g g1 → (-1) ≤ r → r ≤ 8 → Q (.inl (some (.int (Int32.ofInt r)))) (mz_mk g1 x)) (hX : ∀ E, Q (.inr E) (mz_mk g (mz_tx x))) : mm_C d 154 [.ref 0, .int (Int32.ofInt a1), .int (Int32.ofInt a2), .int (Int32.ofInt a3)] (mz_mk g x) Q := by
  have kx := kn_x hx
  refine ⟨mmX11_see, [some (.ref 0), some (.int (Int32.ofInt a1)), some (.int (Int32.ofInt a2)), some (.int (Int32.ofInt a3)), none], rfl, rfl, ?_⟩
  refine mm_g 2 (pc1 := 2) (lo1 := [some (.ref 0), some (.int (Int32.ofInt a1)), some (.int (Int32.ofInt a2)), some (.int (Int32.ofInt a3)), none]) (st1 := [.int (Int32.ofInt a1), .ref 0]) (H1 := mz_mk g x) rfl ?_
  refine mz_cv rfl mt_11_231 (by decide) (sc_0 _) rfl (Nat.le_of_ble_eq_true rfl) (by omega) (c_X11_isTrunk (by omega) hx hI l_a1 u_a1 (fun v1 l_v1 u_v1 => ⟨_, rfl, ?_⟩))
  show mm_W d mmX11_see 5 [some (.ref 0), some (.int (Int32.ofInt a1)), some (.int (Int32.ofInt a2)), some (.int (Int32.ofInt a3)), none] [.int (Int32.ofInt v1)] (mz_mk g x) Q
  refine mz_csx rfl mt_11_183 rfl (Nat.le_of_ble_eq_true rfl) (by omega) rfl nh_X11_mustBe (c_X11_mustBe (by omega) hx hI l_v1 u_v1 (fun hp2 => ?_) (fun E => hX E))
  show mm_W d mmX11_see 8 [some (.ref 0), some (.int (Int32.ofInt a1)), some (.int (Int32.ofInt a2)), some (.int (Int32.ofInt a3)), none] [] (mz_mk g x) Q
  refine mm_g 1 (pc1 := 9) (lo1 := [some (.ref 0), some (.int (Int32.ofInt a1)), some (.int (Int32.ofInt a2)), some (.int (Int32.ofInt a3)), none]) (st1 := [.int (Int32.ofInt a2)]) (H1 := mz_mk g x) rfl ?_
  refine mz_if_lt (tgt := 32) rfl rfl (mz_rg l_a2 u_a2) (fun c9_2 => ?_) (fun c9_2 => ?_)
  · skip
    refine mm_g 3 (pc1 := 37) (lo1 := [some (.ref 0), some (.int (Int32.ofInt a1)), some (.int (Int32.ofInt a2)), some (.int (Int32.ofInt a3)), some (.int (Int32.ofInt 0))]) (st1 := [.int (Int32.ofInt 0)]) (H1 := mz_mk g x) rfl ?_
    refine mz_if_eq (tgt := 52) rfl rfl ⟨by decide, by decide⟩ (fun c37_2 => ?_) (fun c37_2 => ?_)
    · skip
      refine mm_g 1 (pc1 := 53) (lo1 := [some (.ref 0), some (.int (Int32.ofInt a1)), some (.int (Int32.ofInt a2)), some (.int (Int32.ofInt a3)), some (.int (Int32.ofInt 0))]) (st1 := [.ref 0]) (H1 := mz_mk g x) rfl ?_
      refine mz_fgR (v := 86) rfl fd_11_37 (by decide) (sc_0 _) (rf_0_5 _ _ _) ?_
      refine mm_g 1 (pc1 := 57) (lo1 := [some (.ref 0), some (.int (Int32.ofInt a1)), some (.int (Int32.ofInt a2)), some (.int (Int32.ofInt a3)), some (.int (Int32.ofInt 0))]) (st1 := [.int (Int32.ofInt 2), .ref 86]) (H1 := mz_mk g x) rfl ?_
      refine mz_cv rfl mt_11_131 (by decide) (sc_86 _) rfl (Nat.le_of_ble_eq_true rfl) (by omega) (c_X6_refuse (by omega) hx hI kp_story_86 (by decide) (by decide) (fun v3 g4 hIg4 hfg4 l_v3 u_v3 => ⟨_, rfl, ?_⟩))
      show mm_W d mmX11_see 60 [some (.ref 0), some (.int (Int32.ofInt a1)), some (.int (Int32.ofInt a2)), some (.int (Int32.ofInt a3)), some (.int (Int32.ofInt 0))] [.int (Int32.ofInt v3)] (mz_mk g4 x) Q
      exact mm_rt rfl rfl (hQ _ _ hIg4 (fun k j hk => (hfg4 k j (fun h => hk (Or.inl h)))) (by omega) (by omega))
    · exfalso; omega
  · skip
    refine mm_g 1 (pc1 := 13) (lo1 := [some (.ref 0), some (.int (Int32.ofInt a1)), some (.int (Int32.ofInt a2)), some (.int (Int32.ofInt a3)), none]) (st1 := [.int (Int32.ofInt a2)]) (H1 := mz_mk g x) rfl ?_
    refine mz_bip rfl bip_20 ?_
    refine mz_ic_gt (tgt := 32) rfl rfl (mz_rg l_a2 u_a2) ⟨by decide, by decide⟩ (fun c15_4 => ?_) (fun c15_4 => ?_)
    · skip
      refine mm_g 3 (pc1 := 37) (lo1 := [some (.ref 0), some (.int (Int32.ofInt a1)), some (.int (Int32.ofInt a2)), some (.int (Int32.ofInt a3)), some (.int (Int32.ofInt 0))]) (st1 := [.int (Int32.ofInt 0)]) (H1 := mz_mk g x) rfl ?_
      refine mz_if_eq (tgt := 52) rfl rfl ⟨by decide, by decide⟩ (fun c37_4 => ?_) (fun c37_4 => ?_)
      · skip
        refine mm_g 1 (pc1 := 53) (lo1 := [some (.ref 0), some (.int (Int32.ofInt a1)), some (.int (Int32.ofInt a2)), some (.int (Int32.ofInt a3)), some (.int (Int32.ofInt 0))]) (st1 := [.ref 0]) (H1 := mz_mk g x) rfl ?_
        refine mz_fgR (v := 86) rfl fd_11_37 (by decide) (sc_0 _) (rf_0_5 _ _ _) ?_
        refine mm_g 1 (pc1 := 57) (lo1 := [some (.ref 0), some (.int (Int32.ofInt a1)), some (.int (Int32.ofInt a2)), some (.int (Int32.ofInt a3)), some (.int (Int32.ofInt 0))]) (st1 := [.int (Int32.ofInt 2), .ref 86]) (H1 := mz_mk g x) rfl ?_
        refine mz_cv rfl mt_11_131 (by decide) (sc_86 _) rfl (Nat.le_of_ble_eq_true rfl) (by omega) (c_X6_refuse (by omega) hx hI kp_story_86 (by decide) (by decide) (fun v5 g6 hIg6 hfg6 l_v5 u_v5 => ⟨_, rfl, ?_⟩))
        show mm_W d mmX11_see 60 [some (.ref 0), some (.int (Int32.ofInt a1)), some (.int (Int32.ofInt a2)), some (.int (Int32.ofInt a3)), some (.int (Int32.ofInt 0))] [.int (Int32.ofInt v5)] (mz_mk g6 x) Q
        exact mm_rt rfl rfl (hQ _ _ hIg6 (fun k j hk => (hfg6 k j (fun h => hk (Or.inl h)))) (by omega) (by omega))
      · exfalso; omega
    · skip
      refine mm_g 1 (pc1 := 19) (lo1 := [some (.ref 0), some (.int (Int32.ofInt a1)), some (.int (Int32.ofInt a2)), some (.int (Int32.ofInt a3)), none]) (st1 := [.int (Int32.ofInt a3)]) (H1 := mz_mk g x) rfl ?_
      refine mz_if_lt (tgt := 32) rfl rfl (mz_rg l_a3 u_a3) (fun c19_6 => ?_) (fun c19_6 => ?_)
      · skip
        refine mm_g 3 (pc1 := 37) (lo1 := [some (.ref 0), some (.int (Int32.ofInt a1)), some (.int (Int32.ofInt a2)), some (.int (Int32.ofInt a3)), some (.int (Int32.ofInt 0))]) (st1 := [.int (Int32.ofInt 0)]) (H1 := mz_mk g x) rfl ?_
        refine mz_if_eq (tgt := 52) rfl rfl ⟨by decide, by decide⟩ (fun c37_6 => ?_) (fun c37_6 => ?_)
        · skip
          refine mm_g 1 (pc1 := 53) (lo1 := [some (.ref 0), some (.int (Int32.ofInt a1)), some (.int (Int32.ofInt a2)), some (.int (Int32.ofInt a3)), some (.int (Int32.ofInt 0))]) (st1 := [.ref 0]) (H1 := mz_mk g x) rfl ?_
          refine mz_fgR (v := 86) rfl fd_11_37 (by decide) (sc_0 _) (rf_0_5 _ _ _) ?_
          refine mm_g 1 (pc1 := 57) (lo1 := [some (.ref 0), some (.int (Int32.ofInt a1)), some (.int (Int32.ofInt a2)), some (.int (Int32.ofInt a3)), some (.int (Int32.ofInt 0))]) (st1 := [.int (Int32.ofInt 2), .ref 86]) (H1 := mz_mk g x) rfl ?_
          refine mz_cv rfl mt_11_131 (by decide) (sc_86 _) rfl (Nat.le_of_ble_eq_true rfl) (by omega) (c_X6_refuse (by omega) hx hI kp_story_86 (by decide) (by decide) (fun v7 g8 hIg8 hfg8 l_v7 u_v7 => ⟨_, rfl, ?_⟩))
          show mm_W d mmX11_see 60 [some (.ref 0), some (.int (Int32.ofInt a1)), some (.int (Int32.ofInt a2)), some (.int (Int32.ofInt a3)), some (.int (Int32.ofInt 0))] [.int (Int32.ofInt v7)] (mz_mk g8 x) Q
          exact mm_rt rfl rfl (hQ _ _ hIg8 (fun k j hk => (hfg8 k j (fun h => hk (Or.inl h)))) (by omega) (by omega))
        · exfalso; omega
      · skip
        refine mm_g 1 (pc1 := 23) (lo1 := [some (.ref 0), some (.int (Int32.ofInt a1)), some (.int (Int32.ofInt a2)), some (.int (Int32.ofInt a3)), none]) (st1 := [.int (Int32.ofInt a3)]) (H1 := mz_mk g x) rfl ?_
        refine mz_bip rfl bip_16 ?_
        refine mz_ic_gt (tgt := 32) rfl rfl (mz_rg l_a3 u_a3) ⟨by decide, by decide⟩ (fun c25_8 => ?_) (fun c25_8 => ?_)
        · skip
          refine mm_g 3 (pc1 := 37) (lo1 := [some (.ref 0), some (.int (Int32.ofInt a1)), some (.int (Int32.ofInt a2)), some (.int (Int32.ofInt a3)), some (.int (Int32.ofInt 0))]) (st1 := [.int (Int32.ofInt 0)]) (H1 := mz_mk g x) rfl ?_
          refine mz_if_eq (tgt := 52) rfl rfl ⟨by decide, by decide⟩ (fun c37_8 => ?_) (fun c37_8 => ?_)
          · skip
            refine mm_g 1 (pc1 := 53) (lo1 := [some (.ref 0), some (.int (Int32.ofInt a1)), some (.int (Int32.ofInt a2)), some (.int (Int32.ofInt a3)), some (.int (Int32.ofInt 0))]) (st1 := [.ref 0]) (H1 := mz_mk g x) rfl ?_
            refine mz_fgR (v := 86) rfl fd_11_37 (by decide) (sc_0 _) (rf_0_5 _ _ _) ?_
            refine mm_g 1 (pc1 := 57) (lo1 := [some (.ref 0), some (.int (Int32.ofInt a1)), some (.int (Int32.ofInt a2)), some (.int (Int32.ofInt a3)), some (.int (Int32.ofInt 0))]) (st1 := [.int (Int32.ofInt 2), .ref 86]) (H1 := mz_mk g x) rfl ?_
            refine mz_cv rfl mt_11_131 (by decide) (sc_86 _) rfl (Nat.le_of_ble_eq_true rfl) (by omega) (c_X6_refuse (by omega) hx hI kp_story_86 (by decide) (by decide) (fun v9 g10 hIg10 hfg10 l_v9 u_v9 => ⟨_, rfl, ?_⟩))
            show mm_W d mmX11_see 60 [some (.ref 0), some (.int (Int32.ofInt a1)), some (.int (Int32.ofInt a2)), some (.int (Int32.ofInt a3)), some (.int (Int32.ofInt 0))] [.int (Int32.ofInt v9)] (mz_mk g10 x) Q
            exact mm_rt rfl rfl (hQ _ _ hIg10 (fun k j hk => (hfg10 k j (fun h => hk (Or.inl h)))) (by omega) (by omega))
          · exfalso; omega
        · skip
          refine mm_g 1 (pc1 := 29) (lo1 := [some (.ref 0), some (.int (Int32.ofInt a1)), some (.int (Int32.ofInt a2)), some (.int (Int32.ofInt a3)), none]) (st1 := [.int (Int32.ofInt 1)]) (H1 := mz_mk g x) rfl ?_
          refine mz_gt (tgt := 33) rfl rfl ?_
          refine mm_g 2 (pc1 := 37) (lo1 := [some (.ref 0), some (.int (Int32.ofInt a1)), some (.int (Int32.ofInt a2)), some (.int (Int32.ofInt a3)), some (.int (Int32.ofInt 1))]) (st1 := [.int (Int32.ofInt 1)]) (H1 := mz_mk g x) rfl ?_
          refine mz_if_eq (tgt := 52) rfl rfl ⟨by decide, by decide⟩ (fun c37_10 => ?_) (fun c37_10 => ?_)
          · exfalso; omega
          · skip
            refine mm_g 1 (pc1 := 41) (lo1 := [some (.ref 0), some (.int (Int32.ofInt a1)), some (.int (Int32.ofInt a2)), some (.int (Int32.ofInt a3)), some (.int (Int32.ofInt 1))]) (st1 := [.ref 0]) (H1 := mz_mk g x) rfl ?_
            refine mz_fgR (v := 86) rfl fd_11_37 (by decide) (sc_0 _) (rf_0_5 _ _ _) ?_
            refine mz_cv rfl mt_11_180 (by decide) (sc_86 _) rfl (Nat.le_of_ble_eq_true rfl) (by omega) (c_X6_seenSize (by omega) hx hI kp_story_86 (fun v11 l_v11 u_v11 => ⟨_, rfl, ?_⟩))
            show mm_W d mmX11_see 47 [some (.ref 0), some (.int (Int32.ofInt a1)), some (.int (Int32.ofInt a2)), some (.int (Int32.ofInt a3)), some (.int (Int32.ofInt 1))] [.int (Int32.ofInt v11)] (mz_mk g x) Q
            refine mz_bip rfl bip_8 ?_
            refine mz_ic_lt (tgt := 61) rfl rfl (mz_rg l_v11 u_v11) ⟨by decide, by decide⟩ (fun c49_11 => ?_) (fun c49_11 => ?_)
            · skip
              refine mm_g 1 (pc1 := 62) (lo1 := [some (.ref 0), some (.int (Int32.ofInt a1)), some (.int (Int32.ofInt a2)), some (.int (Int32.ofInt a3)), some (.int (Int32.ofInt 1))]) (st1 := [.ref 0]) (H1 := mz_mk g x) rfl ?_
              refine mz_fgR (v := 86) rfl fd_11_37 (by decide) (sc_0 _) (rf_0_5 _ _ _) ?_
              refine mm_g 3 (pc1 := 68) (lo1 := [some (.ref 0), some (.int (Int32.ofInt a1)), some (.int (Int32.ofInt a2)), some (.int (Int32.ofInt a3)), some (.int (Int32.ofInt 1))]) (st1 := [.int (Int32.ofInt a3), .int (Int32.ofInt a2), .int (Int32.ofInt a1), .ref 86]) (H1 := mz_mk g x) rfl ?_
              refine mz_cv rfl mt_11_343 (by decide) (sc_86 _) rfl (Nat.le_of_ble_eq_true rfl) (by omega) (c_X6_addSeen (by omega) hx hI kp_story_86 l_a1 u_a1 (by omega) (by omega) l_a3 u_a3 (fun g12 hIg12 hfg12 => ⟨_, rfl, ?_⟩))
              show mm_W d mmX11_see 71 [some (.ref 0), some (.int (Int32.ofInt a1)), some (.int (Int32.ofInt a2)), some (.int (Int32.ofInt a3)), some (.int (Int32.ofInt 1))] [] (mz_mk g12 x) Q
              refine mm_g 1 (pc1 := 72) (lo1 := [some (.ref 0), some (.int (Int32.ofInt a1)), some (.int (Int32.ofInt a2)), some (.int (Int32.ofInt a3)), some (.int (Int32.ofInt 1))]) (st1 := [.ref 0]) (H1 := mz_mk g12 x) rfl ?_
              refine mz_fgR (v := 86) rfl fd_11_37 (by decide) (sc_0 _) (rf_0_5 _ _ _) ?_
              refine mz_cv rfl mt_11_180 (by decide) (sc_86 _) rfl (Nat.le_of_ble_eq_true rfl) (by omega) (c_X6_seenSize (by omega) hx hIg12 kp_story_86 (fun v13 l_v13 u_v13 => ⟨_, rfl, ?_⟩))
              show mm_W d mmX11_see 78 [some (.ref 0), some (.int (Int32.ofInt a1)), some (.int (Int32.ofInt a2)), some (.int (Int32.ofInt a3)), some (.int (Int32.ofInt 1))] [.int (Int32.ofInt v13)] (mz_mk g12 x) Q
              exact mm_rt rfl rfl (hQ _ _ hIg12 (fun k j hk => (hfg12 k j (fun h => hk (Or.elim h (fun h => (Or.inr (Or.inl h))) (fun h => (Or.elim h (fun h => (Or.inr (Or.inr (Or.inl h)))) (fun h => (Or.elim h (fun h => (Or.inr (Or.inr (Or.inr (Or.inl h))))) (fun h => (Or.inr (Or.inr (Or.inr (Or.inr h))))))))))))) (by omega) (by omega))
            · skip
              refine mm_g 1 (pc1 := 53) (lo1 := [some (.ref 0), some (.int (Int32.ofInt a1)), some (.int (Int32.ofInt a2)), some (.int (Int32.ofInt a3)), some (.int (Int32.ofInt 1))]) (st1 := [.ref 0]) (H1 := mz_mk g x) rfl ?_
              refine mz_fgR (v := 86) rfl fd_11_37 (by decide) (sc_0 _) (rf_0_5 _ _ _) ?_
              refine mm_g 1 (pc1 := 57) (lo1 := [some (.ref 0), some (.int (Int32.ofInt a1)), some (.int (Int32.ofInt a2)), some (.int (Int32.ofInt a3)), some (.int (Int32.ofInt 1))]) (st1 := [.int (Int32.ofInt 2), .ref 86]) (H1 := mz_mk g x) rfl ?_
              refine mz_cv rfl mt_11_131 (by decide) (sc_86 _) rfl (Nat.le_of_ble_eq_true rfl) (by omega) (c_X6_refuse (by omega) hx hI kp_story_86 (by decide) (by decide) (fun v14 g15 hIg15 hfg15 l_v14 u_v14 => ⟨_, rfl, ?_⟩))
              show mm_W d mmX11_see 60 [some (.ref 0), some (.int (Int32.ofInt a1)), some (.int (Int32.ofInt a2)), some (.int (Int32.ofInt a3)), some (.int (Int32.ofInt 1))] [.int (Int32.ofInt v14)] (mz_mk g15 x) Q
              exact mm_rt rfl rfl (hQ _ _ hIg15 (fun k j hk => (hfg15 k j (fun h => hk (Or.inl h)))) (by omega) (by omega))
theorem c_X6_lastSeenDay {d : Nat} (hd : 12 ≤ d) {x : mm_X} (hx : mk_x x) {g : mz_G} (hI : mz_inv g) {q0 : Nat} (h_q0 : kd_story q0) {a1 : Int} (l_a1 : (-2147483648) ≤ a1) (u_a1 : a1 ≤ 2147483647) {Q : (Option Value ⊕ Nat) → mm_H → Prop} (hQ : ∀ (r : Int), (-1) ≤ r → r ≤ 20 → Q (.inl (some (.int (Int32.ofInt r)))) (mz_mk g x)) : mm_C d 76 [.ref q0, .int (Int32.ofInt a1)] (mz_mk g x) Q := by
  have kn_q0 := kn_story h_q0
  refine ⟨mmX6_lastSeenDay, [some (.ref q0), some (.int (Int32.ofInt a1)), none, none], rfl, rfl, ?_⟩
  refine mm_g 4 (pc1 := 4) (lo1 := [some (.ref q0), some (.int (Int32.ofInt a1)), some (.int (Int32.ofInt (-1))), some (.int (Int32.ofInt 0))]) (st1 := []) (H1 := mz_mk g x) rfl ?_
  have L6 : ∀ n5 : Nat, ∀ (v1 : Int) (v2 : Int), (8 - v2).toNat = n5 → (-1) ≤ v1 → v1 ≤ 20 → 0 ≤ v2 → v2 ≤ 8 → mm_W d mmX6_lastSeenDay 4 [some (.ref q0), some (.int (Int32.ofInt a1)), some (.int (Int32.ofInt v1)), some (.int (Int32.ofInt v2))] [] (mz_mk g x) Q := by
    intro n5
    induction n5 using Nat.strongRecOn with
    | ind n5 ih4 =>
    intro v1 v2 hmn5 l_v1 u_v1 l_v2 u_v2
    refine mm_g 2 (pc1 := 6) (lo1 := [some (.ref q0), some (.int (Int32.ofInt a1)), some (.int (Int32.ofInt v1)), some (.int (Int32.ofInt v2))]) (st1 := [.ref q0, .int (Int32.ofInt v2)]) (H1 := mz_mk g x) rfl ?_
    refine mz_gI rfl fd_6_38 (by decide) (kc_story h_q0 _) hI (kb_story_7 h_q0) (fun v7 e_v7 l_v7 u_v7 => ?_)
    refine mz_ic_ge (tgt := 43) rfl rfl (mz_rg l_v2 u_v2) (mz_rg l_v7 u_v7) (fun c9_7 => ?_) (fun c9_7 => ?_)
    · skip
      refine mm_g 1 (pc1 := 44) (lo1 := [some (.ref q0), some (.int (Int32.ofInt a1)), some (.int (Int32.ofInt v1)), some (.int (Int32.ofInt v2))]) (st1 := [.int (Int32.ofInt v1)]) (H1 := mz_mk g x) rfl ?_
      exact mm_rt rfl rfl (hQ _ (by omega) (by omega))
    · skip
      refine mm_g 1 (pc1 := 13) (lo1 := [some (.ref q0), some (.int (Int32.ofInt a1)), some (.int (Int32.ofInt v1)), some (.int (Int32.ofInt v2))]) (st1 := [.ref q0]) (H1 := mz_mk g x) rfl ?_
      refine mz_fgR (v := (q0 + 11)) rfl fd_6_29 (by decide) (kc_story h_q0 _) (kr_story_4 h_q0 _ _ _) ?_
      refine mm_g 1 (pc1 := 17) (lo1 := [some (.ref q0), some (.int (Int32.ofInt a1)), some (.int (Int32.ofInt v1)), some (.int (Int32.ofInt v2))]) (st1 := [.int (Int32.ofInt v2), .ref (q0 + 11)]) (H1 := mz_mk g x) rfl ?_
      refine mz_cs rfl mt_6_52 (by decide) rfl (Nat.le_of_ble_eq_true rfl) (by omega) (c_X11_at (by omega) hx hI (ka_story_4 h_q0 _) (by decide) (kba_story_4 h_q0) (by omega) (by omega) (by omega) (by omega) (fun v8 l_v8 u_v8 => ⟨_, rfl, ?_⟩))
      show mm_W d mmX6_lastSeenDay 20 [some (.ref q0), some (.int (Int32.ofInt a1)), some (.int (Int32.ofInt v1)), some (.int (Int32.ofInt v2))] [.int (Int32.ofInt v8)] (mz_mk g x) Q
      refine mm_g 1 (pc1 := 21) (lo1 := [some (.ref q0), some (.int (Int32.ofInt a1)), some (.int (Int32.ofInt v1)), some (.int (Int32.ofInt v2))]) (st1 := [.int (Int32.ofInt a1), .int (Int32.ofInt v8)]) (H1 := mz_mk g x) rfl ?_
      refine mz_ic_ne (tgt := 37) rfl rfl (mz_rg l_v8 u_v8) (mz_rg l_a1 u_a1) (fun c21_8 => ?_) (fun c21_8 => ?_)
      · skip
        refine mz_iincR (v := v2) (lo2 := [some (.ref q0), some (.int (Int32.ofInt a1)), some (.int (Int32.ofInt v1)), some (.int (Int32.ofInt (v2 + 1)))]) rfl rfl rfl (Nat.le_of_ble_eq_true rfl) rfl ?_
        refine mz_gt (tgt := 4) rfl rfl ?_
        exact ih4 ((8 - (v2 + 1)).toNat) (by omega) v1 (v2 + 1) rfl (by omega) (by omega) (by omega) (by omega)
      · skip
        refine mm_g 2 (pc1 := 26) (lo1 := [some (.ref q0), some (.int (Int32.ofInt a1)), some (.int (Int32.ofInt v1)), some (.int (Int32.ofInt v2))]) (st1 := [.ref q0, .int (Int32.ofInt v1)]) (H1 := mz_mk g x) rfl ?_
        refine mz_fgR (v := (q0 + 12)) rfl fd_6_32 (by decide) (kc_story h_q0 _) (kr_story_5 h_q0 _ _ _) ?_
        refine mm_g 1 (pc1 := 30) (lo1 := [some (.ref q0), some (.int (Int32.ofInt a1)), some (.int (Int32.ofInt v1)), some (.int (Int32.ofInt v2))]) (st1 := [.int (Int32.ofInt v2), .ref (q0 + 12), .int (Int32.ofInt v1)]) (H1 := mz_mk g x) rfl ?_
        refine mz_cs rfl mt_6_52 (by decide) rfl (Nat.le_of_ble_eq_true rfl) (by omega) (c_X11_at (by omega) hx hI (ka_story_5 h_q0 _) (by decide) (kba_story_5 h_q0) (by omega) (by omega) (by omega) (by omega) (fun v9 l_v9 u_v9 => ⟨_, rfl, ?_⟩))
        show mm_W d mmX6_lastSeenDay 33 [some (.ref q0), some (.int (Int32.ofInt a1)), some (.int (Int32.ofInt v1)), some (.int (Int32.ofInt v2))] [.int (Int32.ofInt v9), .int (Int32.ofInt v1)] (mz_mk g x) Q
        refine mz_mx rfl mt_6_67 (Nat.le_of_ble_eq_true rfl) (by omega) (mz_rg l_v1 u_v1) (mz_rg l_v9 u_v9) (fun v10 e_v10 => ?_)
        have l_v10 : 0 ≤ v10 := by omega
        have u_v10 : v10 ≤ 20 := by omega
        refine mm_g 1 (pc1 := 37) (lo1 := [some (.ref q0), some (.int (Int32.ofInt a1)), some (.int (Int32.ofInt v10)), some (.int (Int32.ofInt v2))]) (st1 := []) (H1 := mz_mk g x) rfl ?_
        refine mz_iincR (v := v2) (lo2 := [some (.ref q0), some (.int (Int32.ofInt a1)), some (.int (Int32.ofInt v10)), some (.int (Int32.ofInt (v2 + 1)))]) rfl rfl rfl (Nat.le_of_ble_eq_true rfl) rfl ?_
        refine mz_gt (tgt := 4) rfl rfl ?_
        exact ih4 ((8 - (v2 + 1)).toNat) (by omega) v10 (v2 + 1) rfl (by omega) (by omega) (by omega) (by omega)
  exact L6 _ (-1) 0 rfl (by decide) (by decide) (by decide) (by decide)
theorem c_X6_agrees {d : Nat} (hd : 2 ≤ d) {x : mm_X} (hx : mk_x x) {g : mz_G} (hI : mz_inv g) {q0 : Nat} (h_q0 : kd_story q0) {a1 : Int} (l_a1 : (-2147483648) ≤ a1) (u_a1 : a1 ≤ 2147483647) {a2 : Int} (l_a2 : (-2147483648) ≤ a2) (u_a2 : a2 ≤ 2147483647) {a3 : Int} (l_a3 : (-2147483648) ≤ a3) (u_a3 : a3 ≤ 2147483647) {Q : (Option Value ⊕ Nat) → mm_H → Prop} (hQ : ∀ (r : Int), 0 ≤ r → r ≤ 1 → Q (.inl (some (.int (Int32.ofInt r)))) (mz_mk g x)) : mm_C d 77 [.ref q0, .int (Int32.ofInt a1), .int (Int32.ofInt a2), .int (Int32.ofInt a3)] (mz_mk g x) Q := by
  have kn_q0 := kn_story h_q0
  refine ⟨mmX6_agrees, [some (.ref q0), some (.int (Int32.ofInt a1)), some (.int (Int32.ofInt a2)), some (.int (Int32.ofInt a3)), none, none], rfl, rfl, ?_⟩
  refine mm_g 2 (pc1 := 3) (lo1 := [some (.ref q0), some (.int (Int32.ofInt a1)), some (.int (Int32.ofInt a2)), some (.int (Int32.ofInt a3)), some (.int (Int32.ofInt 0)), none]) (st1 := []) (H1 := mz_mk g x) rfl ?_
  have L6 : ∀ n5 : Nat, ∀ (v1 : Int) (o2 : Option Value), (8 - v1).toNat = n5 → 0 ≤ v1 → v1 ≤ 8 → mz_nl o2 → mm_W d mmX6_agrees 3 [some (.ref q0), some (.int (Int32.ofInt a1)), some (.int (Int32.ofInt a2)), some (.int (Int32.ofInt a3)), some (.int (Int32.ofInt v1)), o2] [] (mz_mk g x) Q := by
    intro n5
    induction n5 using Nat.strongRecOn with
    | ind n5 ih4 =>
    intro v1 o2 hmn5 l_v1 u_v1 h_o2
    refine mm_g 2 (pc1 := 6) (lo1 := [some (.ref q0), some (.int (Int32.ofInt a1)), some (.int (Int32.ofInt a2)), some (.int (Int32.ofInt a3)), some (.int (Int32.ofInt v1)), o2]) (st1 := [.ref q0, .int (Int32.ofInt v1)]) (H1 := mz_mk g x) rfl ?_
    refine mz_gI rfl fd_6_38 (by decide) (kc_story h_q0 _) hI (kb_story_7 h_q0) (fun v7 e_v7 l_v7 u_v7 => ?_)
    refine mz_ic_ge (tgt := 71) rfl rfl (mz_rg l_v1 u_v1) (mz_rg l_v7 u_v7) (fun c9_7 => ?_) (fun c9_7 => ?_)
    · skip
      refine mm_g 1 (pc1 := 72) (lo1 := [some (.ref q0), some (.int (Int32.ofInt a1)), some (.int (Int32.ofInt a2)), some (.int (Int32.ofInt a3)), some (.int (Int32.ofInt v1)), o2]) (st1 := [.int (Int32.ofInt 1)]) (H1 := mz_mk g x) rfl ?_
      exact mz_rtZ rfl (by decide) (by omega) (hQ _ (by decide) (by decide))
    · skip
      refine mm_g 1 (pc1 := 13) (lo1 := [some (.ref q0), some (.int (Int32.ofInt a1)), some (.int (Int32.ofInt a2)), some (.int (Int32.ofInt a3)), some (.int (Int32.ofInt v1)), o2]) (st1 := [.ref q0]) (H1 := mz_mk g x) rfl ?_
      refine mz_fgR (v := (q0 + 11)) rfl fd_6_29 (by decide) (kc_story h_q0 _) (kr_story_4 h_q0 _ _ _) ?_
      refine mm_g 1 (pc1 := 18) (lo1 := [some (.ref q0), some (.int (Int32.ofInt a1)), some (.int (Int32.ofInt a2)), some (.int (Int32.ofInt a3)), some (.int (Int32.ofInt v1)), o2]) (st1 := [.int (Int32.ofInt v1), .ref (q0 + 11)]) (H1 := mz_mk g x) rfl ?_
      refine mz_cs rfl mt_6_52 (by decide) rfl (Nat.le_of_ble_eq_true rfl) (by omega) (c_X11_at (by omega) hx hI (ka_story_4 h_q0 _) (by decide) (kba_story_4 h_q0) (by omega) (by omega) (by omega) (by omega) (fun v8 l_v8 u_v8 => ⟨_, rfl, ?_⟩))
      show mm_W d mmX6_agrees 21 [some (.ref q0), some (.int (Int32.ofInt a1)), some (.int (Int32.ofInt a2)), some (.int (Int32.ofInt a3)), some (.int (Int32.ofInt v1)), o2] [.int (Int32.ofInt v8)] (mz_mk g x) Q
      refine mm_g 1 (pc1 := 22) (lo1 := [some (.ref q0), some (.int (Int32.ofInt a1)), some (.int (Int32.ofInt a2)), some (.int (Int32.ofInt a3)), some (.int (Int32.ofInt v1)), o2]) (st1 := [.int (Int32.ofInt a1), .int (Int32.ofInt v8)]) (H1 := mz_mk g x) rfl ?_
      refine mz_ic_ne (tgt := 42) rfl rfl (mz_rg l_v8 u_v8) (mz_rg l_a1 u_a1) (fun c22_8 => ?_) (fun c22_8 => ?_)
      · skip
        refine mm_g 3 (pc1 := 47) (lo1 := [some (.ref q0), some (.int (Int32.ofInt a1)), some (.int (Int32.ofInt a2)), some (.int (Int32.ofInt a3)), some (.int (Int32.ofInt v1)), some (.int (Int32.ofInt 0))]) (st1 := [.int (Int32.ofInt 0)]) (H1 := mz_mk g x) rfl ?_
        refine mz_if_eq (tgt := 65) rfl rfl ⟨by decide, by decide⟩ (fun c47_8 => ?_) (fun c47_8 => ?_)
        · skip
          refine mz_iincR (v := v1) (lo2 := [some (.ref q0), some (.int (Int32.ofInt a1)), some (.int (Int32.ofInt a2)), some (.int (Int32.ofInt a3)), some (.int (Int32.ofInt (v1 + 1))), some (.int (Int32.ofInt 0))]) rfl rfl rfl (Nat.le_of_ble_eq_true rfl) rfl ?_
          refine mz_gt (tgt := 3) rfl rfl ?_
          exact ih4 ((8 - (v1 + 1)).toNat) (by omega) (v1 + 1) (some (.int (Int32.ofInt 0))) rfl (by omega) (by omega) (mz_nl_i _)
        · exfalso; omega
      · skip
        refine mm_g 1 (pc1 := 26) (lo1 := [some (.ref q0), some (.int (Int32.ofInt a1)), some (.int (Int32.ofInt a2)), some (.int (Int32.ofInt a3)), some (.int (Int32.ofInt v1)), o2]) (st1 := [.ref q0]) (H1 := mz_mk g x) rfl ?_
        refine mz_fgR (v := (q0 + 12)) rfl fd_6_32 (by decide) (kc_story h_q0 _) (kr_story_5 h_q0 _ _ _) ?_
        refine mm_g 1 (pc1 := 31) (lo1 := [some (.ref q0), some (.int (Int32.ofInt a1)), some (.int (Int32.ofInt a2)), some (.int (Int32.ofInt a3)), some (.int (Int32.ofInt v1)), o2]) (st1 := [.int (Int32.ofInt v1), .ref (q0 + 12)]) (H1 := mz_mk g x) rfl ?_
        refine mz_cs rfl mt_6_52 (by decide) rfl (Nat.le_of_ble_eq_true rfl) (by omega) (c_X11_at (by omega) hx hI (ka_story_5 h_q0 _) (by decide) (kba_story_5 h_q0) (by omega) (by omega) (by omega) (by omega) (fun v9 l_v9 u_v9 => ⟨_, rfl, ?_⟩))
        show mm_W d mmX6_agrees 34 [some (.ref q0), some (.int (Int32.ofInt a1)), some (.int (Int32.ofInt a2)), some (.int (Int32.ofInt a3)), some (.int (Int32.ofInt v1)), o2] [.int (Int32.ofInt v9)] (mz_mk g x) Q
        refine mm_g 1 (pc1 := 35) (lo1 := [some (.ref q0), some (.int (Int32.ofInt a1)), some (.int (Int32.ofInt a2)), some (.int (Int32.ofInt a3)), some (.int (Int32.ofInt v1)), o2]) (st1 := [.int (Int32.ofInt a2), .int (Int32.ofInt v9)]) (H1 := mz_mk g x) rfl ?_
        refine mz_ic_ne (tgt := 42) rfl rfl (mz_rg l_v9 u_v9) (mz_rg l_a2 u_a2) (fun c35_9 => ?_) (fun c35_9 => ?_)
        · skip
          refine mm_g 3 (pc1 := 47) (lo1 := [some (.ref q0), some (.int (Int32.ofInt a1)), some (.int (Int32.ofInt a2)), some (.int (Int32.ofInt a3)), some (.int (Int32.ofInt v1)), some (.int (Int32.ofInt 0))]) (st1 := [.int (Int32.ofInt 0)]) (H1 := mz_mk g x) rfl ?_
          refine mz_if_eq (tgt := 65) rfl rfl ⟨by decide, by decide⟩ (fun c47_9 => ?_) (fun c47_9 => ?_)
          · skip
            refine mz_iincR (v := v1) (lo2 := [some (.ref q0), some (.int (Int32.ofInt a1)), some (.int (Int32.ofInt a2)), some (.int (Int32.ofInt a3)), some (.int (Int32.ofInt (v1 + 1))), some (.int (Int32.ofInt 0))]) rfl rfl rfl (Nat.le_of_ble_eq_true rfl) rfl ?_
            refine mz_gt (tgt := 3) rfl rfl ?_
            exact ih4 ((8 - (v1 + 1)).toNat) (by omega) (v1 + 1) (some (.int (Int32.ofInt 0))) rfl (by omega) (by omega) (mz_nl_i _)
          · exfalso; omega
        · skip
          refine mm_g 1 (pc1 := 39) (lo1 := [some (.ref q0), some (.int (Int32.ofInt a1)), some (.int (Int32.ofInt a2)), some (.int (Int32.ofInt a3)), some (.int (Int32.ofInt v1)), o2]) (st1 := [.int (Int32.ofInt 1)]) (H1 := mz_mk g x) rfl ?_
          refine mz_gt (tgt := 43) rfl rfl ?_
          refine mm_g 2 (pc1 := 47) (lo1 := [some (.ref q0), some (.int (Int32.ofInt a1)), some (.int (Int32.ofInt a2)), some (.int (Int32.ofInt a3)), some (.int (Int32.ofInt v1)), some (.int (Int32.ofInt 1))]) (st1 := [.int (Int32.ofInt 1)]) (H1 := mz_mk g x) rfl ?_
          refine mz_if_eq (tgt := 65) rfl rfl ⟨by decide, by decide⟩ (fun c47_9 => ?_) (fun c47_9 => ?_)
          · exfalso; omega
          · skip
            refine mm_g 1 (pc1 := 51) (lo1 := [some (.ref q0), some (.int (Int32.ofInt a1)), some (.int (Int32.ofInt a2)), some (.int (Int32.ofInt a3)), some (.int (Int32.ofInt v1)), some (.int (Int32.ofInt 1))]) (st1 := [.ref q0]) (H1 := mz_mk g x) rfl ?_
            refine mz_fgR (v := (q0 + 13)) rfl fd_6_35 (by decide) (kc_story h_q0 _) (kr_story_6 h_q0 _ _ _) ?_
            refine mm_g 1 (pc1 := 56) (lo1 := [some (.ref q0), some (.int (Int32.ofInt a1)), some (.int (Int32.ofInt a2)), some (.int (Int32.ofInt a3)), some (.int (Int32.ofInt v1)), some (.int (Int32.ofInt 1))]) (st1 := [.int (Int32.ofInt v1), .ref (q0 + 13)]) (H1 := mz_mk g x) rfl ?_
            refine mz_cs rfl mt_6_52 (by decide) rfl (Nat.le_of_ble_eq_true rfl) (by omega) (c_X11_at (by omega) hx hI (ka_story_6 h_q0 _) (by decide) (kba_story_6 h_q0) (by omega) (by omega) (by omega) (by omega) (fun v10 l_v10 u_v10 => ⟨_, rfl, ?_⟩))
            show mm_W d mmX6_agrees 59 [some (.ref q0), some (.int (Int32.ofInt a1)), some (.int (Int32.ofInt a2)), some (.int (Int32.ofInt a3)), some (.int (Int32.ofInt v1)), some (.int (Int32.ofInt 1))] [.int (Int32.ofInt v10)] (mz_mk g x) Q
            refine mm_g 1 (pc1 := 60) (lo1 := [some (.ref q0), some (.int (Int32.ofInt a1)), some (.int (Int32.ofInt a2)), some (.int (Int32.ofInt a3)), some (.int (Int32.ofInt v1)), some (.int (Int32.ofInt 1))]) (st1 := [.int (Int32.ofInt a3), .int (Int32.ofInt v10)]) (H1 := mz_mk g x) rfl ?_
            refine mz_ic_eq (tgt := 65) rfl rfl (mz_rg l_v10 u_v10) (mz_rg l_a3 u_a3) (fun c60_10 => ?_) (fun c60_10 => ?_)
            · skip
              refine mz_iincR (v := v1) (lo2 := [some (.ref q0), some (.int (Int32.ofInt a1)), some (.int (Int32.ofInt a2)), some (.int (Int32.ofInt a3)), some (.int (Int32.ofInt (v1 + 1))), some (.int (Int32.ofInt 1))]) rfl rfl rfl (Nat.le_of_ble_eq_true rfl) rfl ?_
              refine mz_gt (tgt := 3) rfl rfl ?_
              exact ih4 ((8 - (v1 + 1)).toNat) (by omega) (v1 + 1) (some (.int (Int32.ofInt 1))) rfl (by omega) (by omega) (mz_nl_i _)
            · skip
              refine mm_g 1 (pc1 := 64) (lo1 := [some (.ref q0), some (.int (Int32.ofInt a1)), some (.int (Int32.ofInt a2)), some (.int (Int32.ofInt a3)), some (.int (Int32.ofInt v1)), some (.int (Int32.ofInt 1))]) (st1 := [.int (Int32.ofInt 0)]) (H1 := mz_mk g x) rfl ?_
              exact mz_rtZ rfl (by decide) (by omega) (hQ _ (by decide) (by decide))
  exact L6 _ 0 none rfl (by decide) (by decide) mz_nl_n
def fl_X11_fitsSeen_38 (x : mm_X) (a1 : Int) (a2 : Int) : Nat → Nat → Prop := fun k j => k = 122 ∨ k = ((x.1 + 36) + 2) ∨ k = ((x.1 + 36) + 3)
def fw_X11_fitsSeen (x : mm_X) (a1 : Int) (a2 : Int) : Nat → Nat → Prop := fun k j => k = 122 ∨ k = ((x.1 + 36) + 2) ∨ k = ((x.1 + 36) + 3)
theorem c_X11_fitsSeen {d : Nat} (hd : 15 ≤ d) {x : mm_X} (hx : mk_x x) {g : mz_G} (hI : mz_inv g) {a1 : Int} (l_a1 : (-2147483648) ≤ a1) (u_a1 : a1 ≤ 2147483647) {a2 : Int} (l_a2 : (-2147483648) ≤ a2) (u_a2 : a2 ≤ 2147483647) {Q : (Option Value ⊕ Nat) → mm_H → Prop} (hQ : ∀ (r : Int) (g1 : mz_G), mz_inv g1 → mz_fr (fw_X11_fitsSeen x a1 a2) g g1 → 0 ≤ r → r ≤ 1 → Q (.inl (some (.int (Int32.ofInt r)))) (mz_mk g1 x)) : mm_C d 161 [.ref 0, .int (Int32.ofInt a1), .int (Int32.ofInt a2)] (mz_mk g x) Q := by
  have kx := kn_x hx
  refine ⟨mmX11_fitsSeen, [some (.ref 0), some (.int (Int32.ofInt a1)), some (.int (Int32.ofInt a2)), none, none], rfl, rfl, ?_⟩
  refine mm_g 1 (pc1 := 1) (lo1 := [some (.ref 0), some (.int (Int32.ofInt a1)), some (.int (Int32.ofInt a2)), none, none]) (st1 := [.ref 0]) (H1 := mz_mk g x) rfl ?_
  refine mz_fgR (v := 86) rfl fd_11_37 (by decide) (sc_0 _) (rf_0_5 _ _ _) ?_
  refine mm_g 1 (pc1 := 5) (lo1 := [some (.ref 0), some (.int (Int32.ofInt a1)), some (.int (Int32.ofInt a2)), none, none]) (st1 := [.int (Int32.ofInt a1), .ref 86]) (H1 := mz_mk g x) rfl ?_
  refine mz_cv rfl mt_11_374 (by decide) (sc_86 _) rfl (Nat.le_of_ble_eq_true rfl) (by omega) (c_X6_lastSeenDay (by omega) hx hI kp_story_86 l_a1 u_a1 (fun v1 l_v1 u_v1 => ⟨_, rfl, ?_⟩))
  show mm_W d mmX11_fitsSeen 8 [some (.ref 0), some (.int (Int32.ofInt a1)), some (.int (Int32.ofInt a2)), none, none] [.int (Int32.ofInt v1)] (mz_mk g x) Q
  refine mm_g 2 (pc1 := 10) (lo1 := [some (.ref 0), some (.int (Int32.ofInt a1)), some (.int (Int32.ofInt a2)), some (.int (Int32.ofInt v1)), none]) (st1 := [.ref 0]) (H1 := mz_mk g x) rfl ?_
  refine mz_fgR (v := 122) rfl fd_11_65 (by decide) (sc_0 _) (rf_0_10 _ _ _) ?_
  refine mm_g 1 (pc1 := 14) (lo1 := [some (.ref 0), some (.int (Int32.ofInt a1)), some (.int (Int32.ofInt a2)), some (.int (Int32.ofInt v1)), none]) (st1 := [.ref 0, .ref 122]) (H1 := mz_mk g x) rfl ?_
  refine mz_fgR (v := 86) rfl fd_11_37 (by decide) (sc_0 _) (rf_0_5 _ _ _) ?_
  refine mz_fgR (v := 87) rfl fd_11_158 (by decide) (sc_86 _) (rf_86_0 _ _ _) ?_
  refine mm_g 1 (pc1 := 21) (lo1 := [some (.ref 0), some (.int (Int32.ofInt a1)), some (.int (Int32.ofInt a2)), some (.int (Int32.ofInt v1)), none]) (st1 := [.int (Int32.ofInt a1), .ref 87, .ref 122]) (H1 := mz_mk g x) rfl ?_
  refine mz_cv rfl mt_11_192 (by decide) (sc_87 _) rfl (Nat.le_of_ble_eq_true rfl) (by omega) (c_X9_get (by omega) hx hI kp_tks_87 l_a1 u_a1 (fun u2 k_u2 hp3 => ⟨_, rfl, ?_⟩))
  show mm_W d mmX11_fitsSeen 24 [some (.ref 0), some (.int (Int32.ofInt a1)), some (.int (Int32.ofInt a2)), some (.int (Int32.ofInt v1)), none] [.ref u2, .ref 122] (mz_mk g x) Q
  refine mz_cv rfl mt_11_297 (by decide) (sc_122 _) rfl (Nat.le_of_ble_eq_true rfl) (by omega) (c_X8_becomeAs (by omega) hx hI kp_trunk_122 k_u2 (fun g4 hIg4 hfg4 => ⟨_, rfl, ?_⟩))
  show mm_W d mmX11_fitsSeen 27 [some (.ref 0), some (.int (Int32.ofInt a1)), some (.int (Int32.ofInt a2)), some (.int (Int32.ofInt v1)), none] [] (mz_mk g4 x) Q
  refine mm_g 1 (pc1 := 28) (lo1 := [some (.ref 0), some (.int (Int32.ofInt a1)), some (.int (Int32.ofInt a2)), some (.int (Int32.ofInt v1)), none]) (st1 := [.ref 0]) (H1 := mz_mk g4 x) rfl ?_
  refine mz_fgR (v := 122) rfl fd_11_65 (by decide) (sc_0 _) (rf_0_10 _ _ _) ?_
  refine mm_g 1 (pc1 := 32) (lo1 := [some (.ref 0), some (.int (Int32.ofInt a1)), some (.int (Int32.ofInt a2)), some (.int (Int32.ofInt v1)), none]) (st1 := [.int (Int32.ofInt a2), .ref 122]) (H1 := mz_mk g4 x) rfl ?_
  refine mz_pI rfl fd_11_234 (sc_122 _) hIg4 bd_122_2 (by omega) (by omega) (fun g5 hIg5 hug5 => ?_)
  refine mm_g 2 (pc1 := 38) (lo1 := [some (.ref 0), some (.int (Int32.ofInt a1)), some (.int (Int32.ofInt a2)), some (.int (Int32.ofInt v1)), some (.int (Int32.ofInt 0))]) (st1 := []) (H1 := mz_mk g5 x) rfl ?_
  have L10 : ∀ n9 : Nat, ∀ (v6 : Int) (g7 : mz_G), (21 - v6).toNat = n9 → 0 ≤ v6 → v6 ≤ 21 → mz_inv g7 → mz_fr (fl_X11_fitsSeen_38 x a1 a2) g5 g7 → mm_W d mmX11_fitsSeen 38 [some (.ref 0), some (.int (Int32.ofInt a1)), some (.int (Int32.ofInt a2)), some (.int (Int32.ofInt v1)), some (.int (Int32.ofInt v6))] [] (mz_mk g7 x) Q := by
    intro n9
    induction n9 using Nat.strongRecOn with
    | ind n9 ih8 =>
    intro v6 g7 hmn9 l_v6 u_v6 hIg7 hfg7
    refine mm_g 2 (pc1 := 41) (lo1 := [some (.ref 0), some (.int (Int32.ofInt a1)), some (.int (Int32.ofInt a2)), some (.int (Int32.ofInt v1)), some (.int (Int32.ofInt v6))]) (st1 := [.int (Int32.ofInt v1), .int (Int32.ofInt v6)]) (H1 := mz_mk g7 x) rfl ?_
    refine mz_ic_gt (tgt := 86) rfl rfl (mz_rg l_v6 u_v6) (mz_rg l_v1 u_v1) (fun c41_10 => ?_) (fun c41_10 => ?_)
    · skip
      refine mm_g 1 (pc1 := 87) (lo1 := [some (.ref 0), some (.int (Int32.ofInt a1)), some (.int (Int32.ofInt a2)), some (.int (Int32.ofInt v1)), some (.int (Int32.ofInt v6))]) (st1 := [.int (Int32.ofInt 1)]) (H1 := mz_mk g7 x) rfl ?_
      exact mz_rtZ rfl (by decide) (by omega) (hQ _ _ hIg7 (fun k j hk => ((hfg7 k j (fun h => hk (Or.elim h (fun h => (Or.inl h)) (fun h => (Or.elim h (fun h => (Or.inr (Or.inl h))) (fun h => (Or.inr (Or.inr h)))))))).trans ((hug5.2 k j (fun h => hk (Or.inl h.1))).trans (hfg4 k j (fun h => hk (Or.inl h)))))) (by decide) (by decide))
    · skip
      refine mm_g 1 (pc1 := 45) (lo1 := [some (.ref 0), some (.int (Int32.ofInt a1)), some (.int (Int32.ofInt a2)), some (.int (Int32.ofInt v1)), some (.int (Int32.ofInt v6))]) (st1 := [.ref 0]) (H1 := mz_mk g7 x) rfl ?_
      refine mz_fgR (v := 86) rfl fd_11_37 (by decide) (sc_0 _) (rf_0_5 _ _ _) ?_
      refine mm_g 3 (pc1 := 52) (lo1 := [some (.ref 0), some (.int (Int32.ofInt a1)), some (.int (Int32.ofInt a2)), some (.int (Int32.ofInt v1)), some (.int (Int32.ofInt v6))]) (st1 := [.ref 0, .int (Int32.ofInt v6), .int (Int32.ofInt a1), .ref 86]) (H1 := mz_mk g7 x) rfl ?_
      refine mz_fgR (v := x.1) rfl fd_11_16 (by decide) (sc_0 _) rfl ?_
      refine mm_g 1 (pc1 := 56) (lo1 := [some (.ref 0), some (.int (Int32.ofInt a1)), some (.int (Int32.ofInt a2)), some (.int (Int32.ofInt v1)), some (.int (Int32.ofInt v6))]) (st1 := [.ref 0, .ref x.1, .int (Int32.ofInt v6), .int (Int32.ofInt a1), .ref 86]) (H1 := mz_mk g7 x) rfl ?_
      refine mz_fgR (v := 122) rfl fd_11_65 (by decide) (sc_0 _) (rf_0_10 _ _ _) ?_
      refine mz_cv rfl mt_11_244 (by decide) (kc_load (kx_1 hx) _) rfl (Nat.le_of_ble_eq_true rfl) (by omega) (c_X1_blendSize (by omega) hx hIg7 (kx_1 hx) kp_trunk_122 (fun v11 l_v11 u_v11 => ⟨_, rfl, ?_⟩))
      show mm_W d mmX11_fitsSeen 62 [some (.ref 0), some (.int (Int32.ofInt a1)), some (.int (Int32.ofInt a2)), some (.int (Int32.ofInt v1)), some (.int (Int32.ofInt v6))] [.int (Int32.ofInt v11), .int (Int32.ofInt v6), .int (Int32.ofInt a1), .ref 86] (mz_mk g7 x) Q
      refine mz_cv rfl mt_11_377 (by decide) (sc_86 _) rfl (Nat.le_of_ble_eq_true rfl) (by omega) (c_X6_agrees (by omega) hx hIg7 kp_story_86 l_a1 u_a1 (by omega) (by omega) l_v11 u_v11 (fun v12 l_v12 u_v12 => ⟨_, rfl, ?_⟩))
      show mm_W d mmX11_fitsSeen 65 [some (.ref 0), some (.int (Int32.ofInt a1)), some (.int (Int32.ofInt a2)), some (.int (Int32.ofInt v1)), some (.int (Int32.ofInt v6))] [.int (Int32.ofInt v12)] (mz_mk g7 x) Q
      refine mz_if_ne (tgt := 70) rfl rfl (mz_rg l_v12 u_v12) (fun c65_12 => ?_) (fun c65_12 => ?_)
      · skip
        refine mm_g 2 (pc1 := 72) (lo1 := [some (.ref 0), some (.int (Int32.ofInt a1)), some (.int (Int32.ofInt a2)), some (.int (Int32.ofInt v1)), some (.int (Int32.ofInt v6))]) (st1 := [.ref 0, .ref 0]) (H1 := mz_mk g7 x) rfl ?_
        refine mz_fgR (v := 122) rfl fd_11_65 (by decide) (sc_0 _) (rf_0_10 _ _ _) ?_
        refine mm_g 1 (pc1 := 77) (lo1 := [some (.ref 0), some (.int (Int32.ofInt a1)), some (.int (Int32.ofInt a2)), some (.int (Int32.ofInt v1)), some (.int (Int32.ofInt v6))]) (st1 := [.int (Int32.ofInt v6), .ref 122, .ref 0]) (H1 := mz_mk g7 x) rfl ?_
        refine mz_cv rfl mt_11_301 (by decide) (sc_0 _) rfl (Nat.le_of_ble_eq_true rfl) (by omega) (c_X11_growBy (by omega) hx hIg7 kp_trunk_122 (by omega) (by omega) (fun g13 hIg13 hfg13 => ⟨_, rfl, ?_⟩))
        show mm_W d mmX11_fitsSeen 80 [some (.ref 0), some (.int (Int32.ofInt a1)), some (.int (Int32.ofInt a2)), some (.int (Int32.ofInt v1)), some (.int (Int32.ofInt v6))] [] (mz_mk g13 x) Q
        refine mz_iincR (v := v6) (lo2 := [some (.ref 0), some (.int (Int32.ofInt a1)), some (.int (Int32.ofInt a2)), some (.int (Int32.ofInt v1)), some (.int (Int32.ofInt (v6 + 1)))]) rfl rfl rfl (Nat.le_of_ble_eq_true rfl) rfl ?_
        refine mz_gt (tgt := 38) rfl rfl ?_
        exact ih8 ((21 - (v6 + 1)).toNat) (by omega) (v6 + 1) g13 rfl (by omega) (by omega) hIg13 (fun k j hk => ((hfg13 k j (fun h => hk (Or.elim h (fun h => (Or.inl h)) (fun h => (Or.elim h (fun h => (Or.inr (Or.inl h))) (fun h => (Or.inr (Or.inr h)))))))).trans (hfg7 k j (fun h => hk (Or.elim h (fun h => (Or.inl h)) (fun h => (Or.elim h (fun h => (Or.inr (Or.inl h))) (fun h => (Or.inr (Or.inr h))))))))))
      · skip
        refine mm_g 1 (pc1 := 69) (lo1 := [some (.ref 0), some (.int (Int32.ofInt a1)), some (.int (Int32.ofInt a2)), some (.int (Int32.ofInt v1)), some (.int (Int32.ofInt v6))]) (st1 := [.int (Int32.ofInt 0)]) (H1 := mz_mk g7 x) rfl ?_
        exact mz_rtZ rfl (by decide) (by omega) (hQ _ _ hIg7 (fun k j hk => ((hfg7 k j (fun h => hk (Or.elim h (fun h => (Or.inl h)) (fun h => (Or.elim h (fun h => (Or.inr (Or.inl h))) (fun h => (Or.inr (Or.inr h)))))))).trans ((hug5.2 k j (fun h => hk (Or.inl h.1))).trans (hfg4 k j (fun h => hk (Or.inl h)))))) (by decide) (by decide))
  exact L10 _ 0 g5 rfl (by decide) (by decide) hIg5 (fun _ _ _ => rfl)
def fl_X11_fittingTrunks_4 (x : mm_X) : Nat → Nat → Prop := fun k j => k = 122 ∨ k = ((x.1 + 36) + 2) ∨ k = ((x.1 + 36) + 3)
def fw_X11_fittingTrunks (x : mm_X) : Nat → Nat → Prop := fun k j => k = 122 ∨ k = ((x.1 + 36) + 2) ∨ k = ((x.1 + 36) + 3)
theorem c_X11_fittingTrunks {d : Nat} (hd : 16 ≤ d) {x : mm_X} (hx : mk_x x) {g : mz_G} (hI : mz_inv g) {Q : (Option Value ⊕ Nat) → mm_H → Prop} (hQ : ∀ (r : Int) (g1 : mz_G), mz_inv g1 → mz_fr (fw_X11_fittingTrunks x) g g1 → 0 ≤ r → r ≤ 63 → Q (.inl (some (.int (Int32.ofInt r)))) (mz_mk g1 x)) : mm_C d 159 [.ref 0] (mz_mk g x) Q := by
  have kx := kn_x hx
  refine ⟨mmX11_fittingTrunks, [some (.ref 0), none, none], rfl, rfl, ?_⟩
  refine mm_g 4 (pc1 := 4) (lo1 := [some (.ref 0), some (.int (Int32.ofInt 0)), some (.int (Int32.ofInt 0))]) (st1 := []) (H1 := mz_mk g x) rfl ?_
  have L6 : ∀ n5 : Nat, ∀ (v1 : Int) (v2 : Int) (g3 : mz_G), (6 - v2).toNat = n5 → 0 ≤ v1 → v1 ≤ 63 → 0 ≤ v2 → v2 ≤ 6 → mz_inv g3 → mz_fr (fl_X11_fittingTrunks_4 x) g g3 → mm_W d mmX11_fittingTrunks 4 [some (.ref 0), some (.int (Int32.ofInt v1)), some (.int (Int32.ofInt v2))] [] (mz_mk g3 x) Q := by
    intro n5
    induction n5 using Nat.strongRecOn with
    | ind n5 ih4 =>
    intro v1 v2 g3 hmn5 l_v1 u_v1 l_v2 u_v2 hIg3 hfg3
    refine mm_g 2 (pc1 := 6) (lo1 := [some (.ref 0), some (.int (Int32.ofInt v1)), some (.int (Int32.ofInt v2))]) (st1 := [.ref 0, .int (Int32.ofInt v2)]) (H1 := mz_mk g3 x) rfl ?_
    refine mz_cv rfl mt_11_155 (by decide) (sc_0 _) rfl (Nat.le_of_ble_eq_true rfl) (by omega) (c_X11_trunkCount (by omega) hx hIg3 (fun v7 l_v7 u_v7 => ⟨_, rfl, ?_⟩))
    show mm_W d mmX11_fittingTrunks 9 [some (.ref 0), some (.int (Int32.ofInt v1)), some (.int (Int32.ofInt v2))] [.int (Int32.ofInt v7), .int (Int32.ofInt v2)] (mz_mk g3 x) Q
    refine mz_ic_ge (tgt := 46) rfl rfl (mz_rg l_v2 u_v2) (mz_rg l_v7 u_v7) (fun c9_7 => ?_) (fun c9_7 => ?_)
    · skip
      refine mm_g 1 (pc1 := 47) (lo1 := [some (.ref 0), some (.int (Int32.ofInt v1)), some (.int (Int32.ofInt v2))]) (st1 := [.int (Int32.ofInt v1)]) (H1 := mz_mk g3 x) rfl ?_
      exact mm_rt rfl rfl (hQ _ _ hIg3 (fun k j hk => (hfg3 k j (fun h => hk (Or.elim h (fun h => (Or.inl h)) (fun h => (Or.elim h (fun h => (Or.inr (Or.inl h))) (fun h => (Or.inr (Or.inr h))))))))) (by omega) (by omega))
    · skip
      refine mm_g 3 (pc1 := 15) (lo1 := [some (.ref 0), some (.int (Int32.ofInt v1)), some (.int (Int32.ofInt v2))]) (st1 := [.ref 0, .int (Int32.ofInt v2), .ref 0]) (H1 := mz_mk g3 x) rfl ?_
      refine mz_fgR (v := 86) rfl fd_11_37 (by decide) (sc_0 _) (rf_0_5 _ _ _) ?_
      refine mz_fgR (v := 87) rfl fd_11_158 (by decide) (sc_86 _) (rf_86_0 _ _ _) ?_
      refine mm_g 1 (pc1 := 22) (lo1 := [some (.ref 0), some (.int (Int32.ofInt v1)), some (.int (Int32.ofInt v2))]) (st1 := [.int (Int32.ofInt v2), .ref 87, .int (Int32.ofInt v2), .ref 0]) (H1 := mz_mk g3 x) rfl ?_
      refine mz_cv rfl mt_11_192 (by decide) (sc_87 _) rfl (Nat.le_of_ble_eq_true rfl) (by omega) (c_X9_get (by omega) hx hIg3 kp_tks_87 (by omega) (by omega) (fun u8 k_u8 hp9 => ⟨_, rfl, ?_⟩))
      show mm_W d mmX11_fittingTrunks 25 [some (.ref 0), some (.int (Int32.ofInt v1)), some (.int (Int32.ofInt v2))] [.ref u8, .int (Int32.ofInt v2), .ref 0] (mz_mk g3 x) Q
      refine mz_gI rfl fd_11_234 (by decide) (kc_trunk k_u8 _) hIg3 (kb_trunk_2 k_u8) (fun v10 e_v10 l_v10 u_v10 => ?_)
      refine mz_cv rfl mt_11_370 (by decide) (sc_0 _) rfl (Nat.le_of_ble_eq_true rfl) (by omega) (c_X11_fitsSeen (by omega) hx hIg3 (by omega) (by omega) l_v10 u_v10 (fun v11 g12 hIg12 hfg12 l_v11 u_v11 => ⟨_, rfl, ?_⟩))
      show mm_W d mmX11_fittingTrunks 31 [some (.ref 0), some (.int (Int32.ofInt v1)), some (.int (Int32.ofInt v2))] [.int (Int32.ofInt v11)] (mz_mk g12 x) Q
      refine mz_if_eq (tgt := 40) rfl rfl (mz_rg l_v11 u_v11) (fun c31_12 => ?_) (fun c31_12 => ?_)
      · skip
        refine mz_iincR (v := v2) (lo2 := [some (.ref 0), some (.int (Int32.ofInt v1)), some (.int (Int32.ofInt (v2 + 1)))]) rfl rfl rfl (Nat.le_of_ble_eq_true rfl) rfl ?_
        refine mz_gt (tgt := 4) rfl rfl ?_
        exact ih4 ((6 - (v2 + 1)).toNat) (by omega) v1 (v2 + 1) g12 rfl (by omega) (by omega) (by omega) (by omega) hIg12 (fun k j hk => ((hfg12 k j (fun h => hk (Or.elim h (fun h => (Or.inl h)) (fun h => (Or.elim h (fun h => (Or.inr (Or.inl h))) (fun h => (Or.inr (Or.inr h)))))))).trans (hfg3 k j (fun h => hk (Or.elim h (fun h => (Or.inl h)) (fun h => (Or.elim h (fun h => (Or.inr (Or.inl h))) (fun h => (Or.inr (Or.inr h))))))))))
      · skip
        refine mm_g 3 (pc1 := 37) (lo1 := [some (.ref 0), some (.int (Int32.ofInt v1)), some (.int (Int32.ofInt v2))]) (st1 := [.int (Int32.ofInt v2), .int (Int32.ofInt 1), .int (Int32.ofInt v1)]) (H1 := mz_mk g12 x) rfl ?_
        refine mz_ishl rfl (fun v13 e_v13 hwv13 => ?_)
        have b_v13 : 1 ≤ v13 ∧ v13 ≤ 32 := by rw [e_v13]; exact mz_shl_b (lx := 1) (hx := 1) (k := 5) (by decide) (by decide) (by omega) (by omega) (by omega) (by omega)
        have l_v13 := b_v13.1
        have u_v13 := b_v13.2
        refine mz_ior rfl (fun v14 e_v14 hwv14 => ?_)
        have b_v14 : 0 ≤ v14 ∧ v14 ≤ 63 := by rw [e_v14]; exact mz_or_lt (n := 6) (by decide) (by omega) (by omega) (by omega) (by omega)
        have l_v14 := b_v14.1
        have u_v14 := b_v14.2
        refine mm_g 1 (pc1 := 40) (lo1 := [some (.ref 0), some (.int (Int32.ofInt v14)), some (.int (Int32.ofInt v2))]) (st1 := []) (H1 := mz_mk g12 x) rfl ?_
        refine mz_iincR (v := v2) (lo2 := [some (.ref 0), some (.int (Int32.ofInt v14)), some (.int (Int32.ofInt (v2 + 1)))]) rfl rfl rfl (Nat.le_of_ble_eq_true rfl) rfl ?_
        refine mz_gt (tgt := 4) rfl rfl ?_
        exact ih4 ((6 - (v2 + 1)).toNat) (by omega) v14 (v2 + 1) g12 rfl (by omega) (by omega) (by omega) (by omega) hIg12 (fun k j hk => ((hfg12 k j (fun h => hk (Or.elim h (fun h => (Or.inl h)) (fun h => (Or.elim h (fun h => (Or.inr (Or.inl h))) (fun h => (Or.inr (Or.inr h)))))))).trans (hfg3 k j (fun h => hk (Or.elim h (fun h => (Or.inl h)) (fun h => (Or.elim h (fun h => (Or.inr (Or.inl h))) (fun h => (Or.inr (Or.inr h))))))))))
  exact L6 _ 0 0 g rfl (by decide) (by decide) (by decide) (by decide) hI (fun _ _ _ => rfl)
theorem c_X11_allTrunks {d : Nat} (hd : 2 ≤ d) {x : mm_X} (hx : mk_x x) {g : mz_G} (hI : mz_inv g) {Q : (Option Value ⊕ Nat) → mm_H → Prop} (hQ : ∀ (r : Int), 0 ≤ r → r ≤ 63 → Q (.inl (some (.int (Int32.ofInt r)))) (mz_mk g x)) : mm_C d 158 [.ref 0] (mz_mk g x) Q := by
  have kx := kn_x hx
  refine ⟨mmX11_allTrunks, [some (.ref 0)], rfl, rfl, ?_⟩
  refine mm_g 2 (pc1 := 2) (lo1 := [some (.ref 0)]) (st1 := [.ref 0, .int (Int32.ofInt 1)]) (H1 := mz_mk g x) rfl ?_
  refine mz_cv rfl mt_11_155 (by decide) (sc_0 _) rfl (Nat.le_of_ble_eq_true rfl) (by omega) (c_X11_trunkCount (by omega) hx hI (fun v1 l_v1 u_v1 => ⟨_, rfl, ?_⟩))
  show mm_W d mmX11_allTrunks 5 [some (.ref 0)] [.int (Int32.ofInt v1), .int (Int32.ofInt 1)] (mz_mk g x) Q
  refine mz_ishl rfl (fun v2 e_v2 hwv2 => ?_)
  have b_v2 : 1 ≤ v2 ∧ v2 ≤ 64 := by rw [e_v2]; exact mz_shl_b (lx := 1) (hx := 1) (k := 6) (by decide) (by decide) (by omega) (by omega) (by omega) (by omega)
  have l_v2 := b_v2.1
  have u_v2 := b_v2.2
  refine mm_g 1 (pc1 := 7) (lo1 := [some (.ref 0)]) (st1 := [.int (Int32.ofInt 1), .int (Int32.ofInt v2)]) (H1 := mz_mk g x) rfl ?_
  refine mz_isub rfl ?_
  exact mm_rt rfl rfl (hQ _ (by omega) (by omega))
def fl_X11_looseStraps_19 (x : mm_X) (a1 : Int) (a2 : Int) : Nat → Nat → Prop := fun k j => k = 122 ∨ k = ((x.1 + 36) + 2) ∨ k = ((x.1 + 36) + 3)
def fw_X11_looseStraps (x : mm_X) (a1 : Int) (a2 : Int) : Nat → Nat → Prop := fun k j => k = 122 ∨ k = ((x.1 + 36) + 2) ∨ k = ((x.1 + 36) + 3)
theorem c_X11_looseStraps {d : Nat} (hd : 16 ≤ d) {x : mm_X} (hx : mk_x x) {g : mz_G} (hI : mz_inv g) {a1 : Int} (l_a1 : (-2147483648) ≤ a1) (u_a1 : a1 ≤ 2147483647) {a2 : Int} (l_a2 : (-2147483648) ≤ a2) (u_a2 : a2 ≤ 2147483647) {Q : (Option Value ⊕ Nat) → mm_H → Prop} (hQ : ∀ (r : Int) (g1 : mz_G), mz_inv g1 → mz_fr (fw_X11_looseStraps x a1 a2) g g1 → (-2147483648) ≤ r → r ≤ 2147483647 → Q (.inl (some (.int (Int32.ofInt r)))) (mz_mk g1 x)) : mm_C d 160 [.ref 0, .int (Int32.ofInt a1), .int (Int32.ofInt a2)] (mz_mk g x) Q := by
  have kx := kn_x hx
  refine ⟨mmX11_looseStraps, [some (.ref 0), some (.int (Int32.ofInt a1)), some (.int (Int32.ofInt a2)), none, none], rfl, rfl, ?_⟩
  refine mm_g 3 (pc1 := 3) (lo1 := [some (.ref 0), some (.int (Int32.ofInt a1)), some (.int (Int32.ofInt a2)), none, none]) (st1 := [.int (Int32.ofInt a1), .int (Int32.ofInt 1), .int (Int32.ofInt a2)]) (H1 := mz_mk g x) rfl ?_
  refine mz_ishl rfl (fun v1 e_v1 hwv1 => ?_)
  have l_v1 := hwv1.1
  have u_v1 := hwv1.2
  refine mz_ior rfl (fun v2 e_v2 hwv2 => ?_)
  have l_v2 := hwv2.1
  have u_v2 := hwv2.2
  refine mm_g 1 (pc1 := 6) (lo1 := [some (.ref 0), some (.int (Int32.ofInt a1)), some (.int (Int32.ofInt a2)), none, none]) (st1 := [.ref 0, .int (Int32.ofInt v2)]) (H1 := mz_mk g x) rfl ?_
  refine mz_cv rfl mt_11_349 (by decide) (sc_0 _) rfl (Nat.le_of_ble_eq_true rfl) (by omega) (c_X11_allTrunks (by omega) hx hI (fun v3 l_v3 u_v3 => ⟨_, rfl, ?_⟩))
  show mm_W d mmX11_looseStraps 9 [some (.ref 0), some (.int (Int32.ofInt a1)), some (.int (Int32.ofInt a2)), none, none] [.int (Int32.ofInt v3), .int (Int32.ofInt v2)] (mz_mk g x) Q
  refine mz_ic_eq (tgt := 14) rfl rfl (mz_rg l_v2 u_v2) (mz_rg l_v3 u_v3) (fun c9_3 => ?_) (fun c9_3 => ?_)
  · skip
    refine mm_g 4 (pc1 := 19) (lo1 := [some (.ref 0), some (.int (Int32.ofInt a1)), some (.int (Int32.ofInt a2)), some (.int (Int32.ofInt 0)), some (.int (Int32.ofInt 0))]) (st1 := []) (H1 := mz_mk g x) rfl ?_
    have L9 : ∀ n8 : Nat, ∀ (v4 : Int) (v5 : Int) (g6 : mz_G), (10 - v5).toNat = n8 → (-2147483648) ≤ v4 → v4 ≤ 2147483647 → 0 ≤ v5 → v5 ≤ 10 → mz_inv g6 → mz_fr (fl_X11_looseStraps_19 x a1 a2) g g6 → mm_W d mmX11_looseStraps 19 [some (.ref 0), some (.int (Int32.ofInt a1)), some (.int (Int32.ofInt a2)), some (.int (Int32.ofInt v4)), some (.int (Int32.ofInt v5))] [] (mz_mk g6 x) Q := by
      intro n8
      induction n8 using Nat.strongRecOn with
      | ind n8 ih7 =>
      intro v4 v5 g6 hmn8 l_v4 u_v4 l_v5 u_v5 hIg6 hfg6
      refine mm_g 1 (pc1 := 21) (lo1 := [some (.ref 0), some (.int (Int32.ofInt a1)), some (.int (Int32.ofInt a2)), some (.int (Int32.ofInt v4)), some (.int (Int32.ofInt v5))]) (st1 := [.int (Int32.ofInt v5)]) (H1 := mz_mk g6 x) rfl ?_
      refine mz_bip rfl bip_9 ?_
      refine mz_ic_gt (tgt := 68) rfl rfl (mz_rg l_v5 u_v5) ⟨by decide, by decide⟩ (fun c23_9 => ?_) (fun c23_9 => ?_)
      · skip
        refine mm_g 1 (pc1 := 69) (lo1 := [some (.ref 0), some (.int (Int32.ofInt a1)), some (.int (Int32.ofInt a2)), some (.int (Int32.ofInt v4)), some (.int (Int32.ofInt v5))]) (st1 := [.int (Int32.ofInt v4)]) (H1 := mz_mk g6 x) rfl ?_
        exact mm_rt rfl rfl (hQ _ _ hIg6 (fun k j hk => (hfg6 k j (fun h => hk (Or.elim h (fun h => (Or.inl h)) (fun h => (Or.elim h (fun h => (Or.inr (Or.inl h))) (fun h => (Or.inr (Or.inr h))))))))) (by omega) (by omega))
      · skip
        refine mm_g 2 (pc1 := 29) (lo1 := [some (.ref 0), some (.int (Int32.ofInt a1)), some (.int (Int32.ofInt a2)), some (.int (Int32.ofInt v4)), some (.int (Int32.ofInt v5))]) (st1 := [.ref 0, .int (Int32.ofInt v5)]) (H1 := mz_mk g6 x) rfl ?_
        refine mz_fgR (v := 86) rfl fd_11_37 (by decide) (sc_0 _) (rf_0_5 _ _ _) ?_
        refine mz_fgR (v := 87) rfl fd_11_158 (by decide) (sc_86 _) (rf_86_0 _ _ _) ?_
        refine mm_g 1 (pc1 := 36) (lo1 := [some (.ref 0), some (.int (Int32.ofInt a1)), some (.int (Int32.ofInt a2)), some (.int (Int32.ofInt v4)), some (.int (Int32.ofInt v5))]) (st1 := [.int (Int32.ofInt a1), .ref 87, .int (Int32.ofInt v5)]) (H1 := mz_mk g6 x) rfl ?_
        refine mz_cv rfl mt_11_192 (by decide) (sc_87 _) rfl (Nat.le_of_ble_eq_true rfl) (by omega) (c_X9_get (by omega) hx hIg6 kp_tks_87 l_a1 u_a1 (fun u10 k_u10 hp11 => ⟨_, rfl, ?_⟩))
        show mm_W d mmX11_looseStraps 39 [some (.ref 0), some (.int (Int32.ofInt a1)), some (.int (Int32.ofInt a2)), some (.int (Int32.ofInt v4)), some (.int (Int32.ofInt v5))] [.ref u10, .int (Int32.ofInt v5)] (mz_mk g6 x) Q
        refine mz_gI rfl fd_11_234 (by decide) (kc_trunk k_u10 _) hIg6 (kb_trunk_2 k_u10) (fun v12 e_v12 l_v12 u_v12 => ?_)
        refine mz_ic_eq (tgt := 62) rfl rfl (mz_rg l_v5 u_v5) (mz_rg l_v12 u_v12) (fun c42_12 => ?_) (fun c42_12 => ?_)
        · skip
          refine mz_iincR (v := v5) (lo2 := [some (.ref 0), some (.int (Int32.ofInt a1)), some (.int (Int32.ofInt a2)), some (.int (Int32.ofInt v4)), some (.int (Int32.ofInt (v5 + 1)))]) rfl rfl rfl (Nat.le_of_ble_eq_true rfl) rfl ?_
          refine mz_gt (tgt := 19) rfl rfl ?_
          exact ih7 ((10 - (v5 + 1)).toNat) (by omega) v4 (v5 + 1) g6 rfl (by omega) (by omega) (by omega) (by omega) hIg6 (fun k j hk => (hfg6 k j (fun h => hk (Or.elim h (fun h => (Or.inl h)) (fun h => (Or.elim h (fun h => (Or.inr (Or.inl h))) (fun h => (Or.inr (Or.inr h)))))))))
        · skip
          refine mm_g 3 (pc1 := 49) (lo1 := [some (.ref 0), some (.int (Int32.ofInt a1)), some (.int (Int32.ofInt a2)), some (.int (Int32.ofInt v4)), some (.int (Int32.ofInt v5))]) (st1 := [.int (Int32.ofInt v5), .int (Int32.ofInt a1), .ref 0]) (H1 := mz_mk g6 x) rfl ?_
          refine mz_cv rfl mt_11_370 (by decide) (sc_0 _) rfl (Nat.le_of_ble_eq_true rfl) (by omega) (c_X11_fitsSeen (by omega) hx hIg6 l_a1 u_a1 (by omega) (by omega) (fun v13 g14 hIg14 hfg14 l_v13 u_v13 => ⟨_, rfl, ?_⟩))
          show mm_W d mmX11_looseStraps 52 [some (.ref 0), some (.int (Int32.ofInt a1)), some (.int (Int32.ofInt a2)), some (.int (Int32.ofInt v4)), some (.int (Int32.ofInt v5))] [.int (Int32.ofInt v13)] (mz_mk g14 x) Q
          refine mz_if_eq (tgt := 62) rfl rfl (mz_rg l_v13 u_v13) (fun c52_14 => ?_) (fun c52_14 => ?_)
          · skip
            refine mz_iincR (v := v5) (lo2 := [some (.ref 0), some (.int (Int32.ofInt a1)), some (.int (Int32.ofInt a2)), some (.int (Int32.ofInt v4)), some (.int (Int32.ofInt (v5 + 1)))]) rfl rfl rfl (Nat.le_of_ble_eq_true rfl) rfl ?_
            refine mz_gt (tgt := 19) rfl rfl ?_
            exact ih7 ((10 - (v5 + 1)).toNat) (by omega) v4 (v5 + 1) g14 rfl (by omega) (by omega) (by omega) (by omega) hIg14 (fun k j hk => ((hfg14 k j (fun h => hk (Or.elim h (fun h => (Or.inl h)) (fun h => (Or.elim h (fun h => (Or.inr (Or.inl h))) (fun h => (Or.inr (Or.inr h)))))))).trans (hfg6 k j (fun h => hk (Or.elim h (fun h => (Or.inl h)) (fun h => (Or.elim h (fun h => (Or.inr (Or.inl h))) (fun h => (Or.inr (Or.inr h))))))))))
          · skip
            refine mm_g 3 (pc1 := 59) (lo1 := [some (.ref 0), some (.int (Int32.ofInt a1)), some (.int (Int32.ofInt a2)), some (.int (Int32.ofInt v4)), some (.int (Int32.ofInt v5))]) (st1 := [.int (Int32.ofInt v5), .int (Int32.ofInt 1), .int (Int32.ofInt v4)]) (H1 := mz_mk g14 x) rfl ?_
            refine mz_ishl rfl (fun v15 e_v15 hwv15 => ?_)
            have b_v15 : 1 ≤ v15 ∧ v15 ≤ 512 := by rw [e_v15]; exact mz_shl_b (lx := 1) (hx := 1) (k := 9) (by decide) (by decide) (by omega) (by omega) (by omega) (by omega)
            have l_v15 := b_v15.1
            have u_v15 := b_v15.2
            refine mz_ior rfl (fun v16 e_v16 hwv16 => ?_)
            have l_v16 := hwv16.1
            have u_v16 := hwv16.2
            refine mm_g 1 (pc1 := 62) (lo1 := [some (.ref 0), some (.int (Int32.ofInt a1)), some (.int (Int32.ofInt a2)), some (.int (Int32.ofInt v16)), some (.int (Int32.ofInt v5))]) (st1 := []) (H1 := mz_mk g14 x) rfl ?_
            refine mz_iincR (v := v5) (lo2 := [some (.ref 0), some (.int (Int32.ofInt a1)), some (.int (Int32.ofInt a2)), some (.int (Int32.ofInt v16)), some (.int (Int32.ofInt (v5 + 1)))]) rfl rfl rfl (Nat.le_of_ble_eq_true rfl) rfl ?_
            refine mz_gt (tgt := 19) rfl rfl ?_
            exact ih7 ((10 - (v5 + 1)).toNat) (by omega) v16 (v5 + 1) g14 rfl (by omega) (by omega) (by omega) (by omega) hIg14 (fun k j hk => ((hfg14 k j (fun h => hk (Or.elim h (fun h => (Or.inl h)) (fun h => (Or.elim h (fun h => (Or.inr (Or.inl h))) (fun h => (Or.inr (Or.inr h)))))))).trans (hfg6 k j (fun h => hk (Or.elim h (fun h => (Or.inl h)) (fun h => (Or.elim h (fun h => (Or.inr (Or.inl h))) (fun h => (Or.inr (Or.inr h))))))))))
    exact L9 _ 0 0 g rfl (by decide) (by decide) (by decide) (by decide) hI (fun _ _ _ => rfl)
  · skip
    refine mm_g 1 (pc1 := 13) (lo1 := [some (.ref 0), some (.int (Int32.ofInt a1)), some (.int (Int32.ofInt a2)), none, none]) (st1 := [.int (Int32.ofInt 0)]) (H1 := mz_mk g x) rfl ?_
    exact mm_rt rfl rfl (hQ _ _ hI (fun _ _ _ => rfl) (by decide) (by decide))
def fl_X11_loose_49 (x : mm_X) (a1 : Int) : Nat → Nat → Prop := fun k j => k = 122 ∨ k = ((x.1 + 36) + 2) ∨ k = ((x.1 + 36) + 3)
def fw_X11_loose (x : mm_X) (a1 : Int) : Nat → Nat → Prop := fun k j => k = 122 ∨ k = ((x.1 + 36) + 2) ∨ k = ((x.1 + 36) + 3)
theorem c_X11_loose {d : Nat} (hd : 17 ≤ d) {x : mm_X} (hx : mk_x x) {g : mz_G} (hI : mz_inv g) {a1 : Int} (l_a1 : (-2147483648) ≤ a1) (u_a1 : a1 ≤ 2147483647) {Q : (Option Value ⊕ Nat) → mm_H → Prop} (hQ : ∀ (r : Int) (g1 : mz_G), mz_inv g1 → mz_fr (fw_X11_loose x a1) g g1 → (-2147483648) ≤ r → r ≤ 2147483647 → Q (.inl (some (.int (Int32.ofInt r)))) (mz_mk g1 x)) (hX : ∀ E, Q (.inr E) (mz_mk g (mz_tx x))) : mm_C d 155 [.ref 0, .int (Int32.ofInt a1)] (mz_mk g x) Q := by
  have kx := kn_x hx
  refine ⟨mmX11_loose, [some (.ref 0), some (.int (Int32.ofInt a1)), none, none, none, none, none], rfl, rfl, ?_⟩
  refine mm_g 1 (pc1 := 1) (lo1 := [some (.ref 0), some (.int (Int32.ofInt a1)), none, none, none, none, none]) (st1 := [.int (Int32.ofInt a1)]) (H1 := mz_mk g x) rfl ?_
  refine mz_if_lt (tgt := 13) rfl rfl (mz_rg l_a1 u_a1) (fun c1_0 => ?_) (fun c1_0 => ?_)
  · skip
    refine mm_g 1 (pc1 := 14) (lo1 := [some (.ref 0), some (.int (Int32.ofInt a1)), none, none, none, none, none]) (st1 := [.int (Int32.ofInt 0)]) (H1 := mz_mk g x) rfl ?_
    refine mz_csx rfl mt_11_183 rfl (Nat.le_of_ble_eq_true rfl) (by omega) rfl nh_X11_mustBe (c_X11_mustBe (by omega) hx hI (by decide) (by decide) (fun hp1 => ?_) (fun E => hX E))
    show mm_W d mmX11_loose 17 [some (.ref 0), some (.int (Int32.ofInt a1)), none, none, none, none, none] [] (mz_mk g x) Q
    exfalso; omega
  · skip
    refine mm_g 2 (pc1 := 6) (lo1 := [some (.ref 0), some (.int (Int32.ofInt a1)), none, none, none, none, none]) (st1 := [.int (Int32.ofInt 2), .int (Int32.ofInt a1)]) (H1 := mz_mk g x) rfl ?_
    refine mz_ic_gt (tgt := 13) rfl rfl (mz_rg l_a1 u_a1) ⟨by decide, by decide⟩ (fun c6_1 => ?_) (fun c6_1 => ?_)
    · skip
      refine mm_g 1 (pc1 := 14) (lo1 := [some (.ref 0), some (.int (Int32.ofInt a1)), none, none, none, none, none]) (st1 := [.int (Int32.ofInt 0)]) (H1 := mz_mk g x) rfl ?_
      refine mz_csx rfl mt_11_183 rfl (Nat.le_of_ble_eq_true rfl) (by omega) rfl nh_X11_mustBe (c_X11_mustBe (by omega) hx hI (by decide) (by decide) (fun hp2 => ?_) (fun E => hX E))
      show mm_W d mmX11_loose 17 [some (.ref 0), some (.int (Int32.ofInt a1)), none, none, none, none, none] [] (mz_mk g x) Q
      exfalso; omega
    · skip
      refine mm_g 1 (pc1 := 10) (lo1 := [some (.ref 0), some (.int (Int32.ofInt a1)), none, none, none, none, none]) (st1 := [.int (Int32.ofInt 1)]) (H1 := mz_mk g x) rfl ?_
      refine mz_gt (tgt := 14) rfl rfl ?_
      refine mz_csx rfl mt_11_183 rfl (Nat.le_of_ble_eq_true rfl) (by omega) rfl nh_X11_mustBe (c_X11_mustBe (by omega) hx hI (by decide) (by decide) (fun hp3 => ?_) (fun E => hX E))
      show mm_W d mmX11_loose 17 [some (.ref 0), some (.int (Int32.ofInt a1)), none, none, none, none, none] [] (mz_mk g x) Q
      refine mm_g 1 (pc1 := 18) (lo1 := [some (.ref 0), some (.int (Int32.ofInt a1)), none, none, none, none, none]) (st1 := [.ref 0]) (H1 := mz_mk g x) rfl ?_
      refine mz_cv rfl mt_11_346 (by decide) (sc_0 _) rfl (Nat.le_of_ble_eq_true rfl) (by omega) (c_X11_fittingTrunks (by omega) hx hI (fun v4 g5 hIg5 hfg5 l_v4 u_v4 => ⟨_, rfl, ?_⟩))
      show mm_W d mmX11_loose 21 [some (.ref 0), some (.int (Int32.ofInt a1)), none, none, none, none, none] [.int (Int32.ofInt v4)] (mz_mk g5 x) Q
      refine mm_g 3 (pc1 := 24) (lo1 := [some (.ref 0), some (.int (Int32.ofInt a1)), some (.int (Int32.ofInt v4)), none, none, none, none]) (st1 := [.int (Int32.ofInt 2), .int (Int32.ofInt a1)]) (H1 := mz_mk g5 x) rfl ?_
      refine mz_ic_ne (tgt := 41) rfl rfl (mz_rg l_a1 u_a1) ⟨by decide, by decide⟩ (fun c24_5 => ?_) (fun c24_5 => ?_)
      · skip
        refine mm_g 6 (pc1 := 49) (lo1 := [some (.ref 0), some (.int (Int32.ofInt a1)), some (.int (Int32.ofInt v4)), some (.int (Int32.ofInt 0)), some (.int (Int32.ofInt (-1))), some (.int (Int32.ofInt 0)), none]) (st1 := []) (H1 := mz_mk g5 x) rfl ?_
        have L13 : ∀ n12 : Nat, ∀ (v6 : Int) (v7 : Int) (v8 : Int) (o9 : Option Value) (g10 : mz_G), (6 - v8).toNat = n12 → (-2147483648) ≤ v6 → v6 ≤ 2147483647 → (-1) ≤ v7 → v7 ≤ 99 → 0 ≤ v8 → v8 ≤ 6 → mz_nl o9 → mz_inv g10 → mz_fr (fl_X11_loose_49 x a1) g5 g10 → mm_W d mmX11_loose 49 [some (.ref 0), some (.int (Int32.ofInt a1)), some (.int (Int32.ofInt v4)), some (.int (Int32.ofInt v6)), some (.int (Int32.ofInt v7)), some (.int (Int32.ofInt v8)), o9] [] (mz_mk g10 x) Q := by
          intro n12
          induction n12 using Nat.strongRecOn with
          | ind n12 ih11 =>
          intro v6 v7 v8 o9 g10 hmn12 l_v6 u_v6 l_v7 u_v7 l_v8 u_v8 h_o9 hIg10 hfg10
          refine mm_g 2 (pc1 := 52) (lo1 := [some (.ref 0), some (.int (Int32.ofInt a1)), some (.int (Int32.ofInt v4)), some (.int (Int32.ofInt v6)), some (.int (Int32.ofInt v7)), some (.int (Int32.ofInt v8)), o9]) (st1 := [.ref 0, .int (Int32.ofInt v8)]) (H1 := mz_mk g10 x) rfl ?_
          refine mz_cv rfl mt_11_155 (by decide) (sc_0 _) rfl (Nat.le_of_ble_eq_true rfl) (by omega) (c_X11_trunkCount (by omega) hx hIg10 (fun v14 l_v14 u_v14 => ⟨_, rfl, ?_⟩))
          show mm_W d mmX11_loose 55 [some (.ref 0), some (.int (Int32.ofInt a1)), some (.int (Int32.ofInt v4)), some (.int (Int32.ofInt v6)), some (.int (Int32.ofInt v7)), some (.int (Int32.ofInt v8)), o9] [.int (Int32.ofInt v14), .int (Int32.ofInt v8)] (mz_mk g10 x) Q
          refine mz_ic_ge (tgt := 105) rfl rfl (mz_rg l_v8 u_v8) (mz_rg l_v14 u_v14) (fun c55_14 => ?_) (fun c55_14 => ?_)
          · skip
            refine mm_g 1 (pc1 := 106) (lo1 := [some (.ref 0), some (.int (Int32.ofInt a1)), some (.int (Int32.ofInt v4)), some (.int (Int32.ofInt v6)), some (.int (Int32.ofInt v7)), some (.int (Int32.ofInt v8)), o9]) (st1 := [.int (Int32.ofInt a1)]) (H1 := mz_mk g10 x) rfl ?_
            refine mz_if_ne (tgt := 113) rfl rfl (mz_rg l_a1 u_a1) (fun c106_14 => ?_) (fun c106_14 => ?_)
            · skip
              refine mm_g 1 (pc1 := 115) (lo1 := [some (.ref 0), some (.int (Int32.ofInt a1)), some (.int (Int32.ofInt v4)), some (.int (Int32.ofInt v6)), some (.int (Int32.ofInt v7)), some (.int (Int32.ofInt v8)), o9]) (st1 := [.int (Int32.ofInt v7)]) (H1 := mz_mk g10 x) rfl ?_
              exact mm_rt rfl rfl (hQ _ _ hIg10 (fun k j hk => ((hfg10 k j (fun h => hk (Or.elim h (fun h => (Or.inl h)) (fun h => (Or.elim h (fun h => (Or.inr (Or.inl h))) (fun h => (Or.inr (Or.inr h)))))))).trans (hfg5 k j (fun h => hk (Or.elim h (fun h => (Or.inl h)) (fun h => (Or.elim h (fun h => (Or.inr (Or.inl h))) (fun h => (Or.inr (Or.inr h)))))))))) (by omega) (by omega))
            · skip
              refine mm_g 1 (pc1 := 110) (lo1 := [some (.ref 0), some (.int (Int32.ofInt a1)), some (.int (Int32.ofInt v4)), some (.int (Int32.ofInt v6)), some (.int (Int32.ofInt v7)), some (.int (Int32.ofInt v8)), o9]) (st1 := [.int (Int32.ofInt v6)]) (H1 := mz_mk g10 x) rfl ?_
              refine mz_gt (tgt := 115) rfl rfl ?_
              exact mm_rt rfl rfl (hQ _ _ hIg10 (fun k j hk => ((hfg10 k j (fun h => hk (Or.elim h (fun h => (Or.inl h)) (fun h => (Or.elim h (fun h => (Or.inr (Or.inl h))) (fun h => (Or.inr (Or.inr h)))))))).trans (hfg5 k j (fun h => hk (Or.elim h (fun h => (Or.inl h)) (fun h => (Or.elim h (fun h => (Or.inr (Or.inl h))) (fun h => (Or.inr (Or.inr h)))))))))) (by omega) (by omega))
          · skip
            refine mm_g 3 (pc1 := 62) (lo1 := [some (.ref 0), some (.int (Int32.ofInt a1)), some (.int (Int32.ofInt v4)), some (.int (Int32.ofInt v6)), some (.int (Int32.ofInt v7)), some (.int (Int32.ofInt v8)), o9]) (st1 := [.int (Int32.ofInt v4), .int (Int32.ofInt v8), .ref 0]) (H1 := mz_mk g10 x) rfl ?_
            refine mz_cv rfl mt_11_352 (by decide) (sc_0 _) rfl (Nat.le_of_ble_eq_true rfl) (by omega) (c_X11_looseStraps (by omega) hx hIg10 (by omega) (by omega) (by omega) (by omega) (fun v15 g16 hIg16 hfg16 l_v15 u_v15 => ⟨_, rfl, ?_⟩))
            show mm_W d mmX11_loose 65 [some (.ref 0), some (.int (Int32.ofInt a1)), some (.int (Int32.ofInt v4)), some (.int (Int32.ofInt v6)), some (.int (Int32.ofInt v7)), some (.int (Int32.ofInt v8)), o9] [.int (Int32.ofInt v15)] (mz_mk g16 x) Q
            refine mm_g 2 (pc1 := 69) (lo1 := [some (.ref 0), some (.int (Int32.ofInt a1)), some (.int (Int32.ofInt v4)), some (.int (Int32.ofInt v6)), some (.int (Int32.ofInt v7)), some (.int (Int32.ofInt v8)), some (.int (Int32.ofInt v15))]) (st1 := [.int (Int32.ofInt v15)]) (H1 := mz_mk g16 x) rfl ?_
            refine mz_if_eq (tgt := 91) rfl rfl (mz_rg l_v15 u_v15) (fun c69_16 => ?_) (fun c69_16 => ?_)
            · skip
              refine mm_g 2 (pc1 := 94) (lo1 := [some (.ref 0), some (.int (Int32.ofInt a1)), some (.int (Int32.ofInt v4)), some (.int (Int32.ofInt v6)), some (.int (Int32.ofInt v7)), some (.int (Int32.ofInt v8)), some (.int (Int32.ofInt v15))]) (st1 := [.int (Int32.ofInt v15), .int (Int32.ofInt v6)]) (H1 := mz_mk g16 x) rfl ?_
              refine mz_cs rfl mt_11_358 (by decide) rfl (Nat.le_of_ble_eq_true rfl) (by omega) (c_J6_bitCount (by omega) hx hIg16 l_v15 u_v15 (fun v17 l_v17 u_v17 => ⟨_, rfl, ?_⟩))
              show mm_W d mmX11_loose 97 [some (.ref 0), some (.int (Int32.ofInt a1)), some (.int (Int32.ofInt v4)), some (.int (Int32.ofInt v6)), some (.int (Int32.ofInt v7)), some (.int (Int32.ofInt v8)), some (.int (Int32.ofInt v15))] [.int (Int32.ofInt v17), .int (Int32.ofInt v6)] (mz_mk g16 x) Q
              refine mz_iadd_w rfl (fun v18 _ hwv18 => ?_)
              have l_v18 := hwv18.1
              have u_v18 := hwv18.2
              refine mm_g 1 (pc1 := 99) (lo1 := [some (.ref 0), some (.int (Int32.ofInt a1)), some (.int (Int32.ofInt v4)), some (.int (Int32.ofInt v18)), some (.int (Int32.ofInt v7)), some (.int (Int32.ofInt v8)), some (.int (Int32.ofInt v15))]) (st1 := []) (H1 := mz_mk g16 x) rfl ?_
              refine mz_iincR (v := v8) (lo2 := [some (.ref 0), some (.int (Int32.ofInt a1)), some (.int (Int32.ofInt v4)), some (.int (Int32.ofInt v18)), some (.int (Int32.ofInt v7)), some (.int (Int32.ofInt (v8 + 1))), some (.int (Int32.ofInt v15))]) rfl rfl rfl (Nat.le_of_ble_eq_true rfl) rfl ?_
              refine mz_gt (tgt := 49) rfl rfl ?_
              exact ih11 ((6 - (v8 + 1)).toNat) (by omega) v18 v7 (v8 + 1) (some (.int (Int32.ofInt v15))) g16 rfl (by omega) (by omega) (by omega) (by omega) (by omega) (by omega) (mz_nl_i _) hIg16 (fun k j hk => ((hfg16 k j (fun h => hk (Or.elim h (fun h => (Or.inl h)) (fun h => (Or.elim h (fun h => (Or.inr (Or.inl h))) (fun h => (Or.inr (Or.inr h)))))))).trans (hfg10 k j (fun h => hk (Or.elim h (fun h => (Or.inl h)) (fun h => (Or.elim h (fun h => (Or.inr (Or.inl h))) (fun h => (Or.inr (Or.inr h))))))))))
            · skip
              refine mm_g 2 (pc1 := 75) (lo1 := [some (.ref 0), some (.int (Int32.ofInt a1)), some (.int (Int32.ofInt v4)), some (.int (Int32.ofInt v6)), some (.int (Int32.ofInt v7)), some (.int (Int32.ofInt v8)), some (.int (Int32.ofInt v15))]) (st1 := [.int (Int32.ofInt (-1)), .int (Int32.ofInt v7)]) (H1 := mz_mk g16 x) rfl ?_
              refine mz_ic_ne (tgt := 91) rfl rfl (mz_rg l_v7 u_v7) ⟨by decide, by decide⟩ (fun c75_18 => ?_) (fun c75_18 => ?_)
              · skip
                refine mm_g 2 (pc1 := 94) (lo1 := [some (.ref 0), some (.int (Int32.ofInt a1)), some (.int (Int32.ofInt v4)), some (.int (Int32.ofInt v6)), some (.int (Int32.ofInt v7)), some (.int (Int32.ofInt v8)), some (.int (Int32.ofInt v15))]) (st1 := [.int (Int32.ofInt v15), .int (Int32.ofInt v6)]) (H1 := mz_mk g16 x) rfl ?_
                refine mz_cs rfl mt_11_358 (by decide) rfl (Nat.le_of_ble_eq_true rfl) (by omega) (c_J6_bitCount (by omega) hx hIg16 l_v15 u_v15 (fun v19 l_v19 u_v19 => ⟨_, rfl, ?_⟩))
                show mm_W d mmX11_loose 97 [some (.ref 0), some (.int (Int32.ofInt a1)), some (.int (Int32.ofInt v4)), some (.int (Int32.ofInt v6)), some (.int (Int32.ofInt v7)), some (.int (Int32.ofInt v8)), some (.int (Int32.ofInt v15))] [.int (Int32.ofInt v19), .int (Int32.ofInt v6)] (mz_mk g16 x) Q
                refine mz_iadd_w rfl (fun v20 _ hwv20 => ?_)
                have l_v20 := hwv20.1
                have u_v20 := hwv20.2
                refine mm_g 1 (pc1 := 99) (lo1 := [some (.ref 0), some (.int (Int32.ofInt a1)), some (.int (Int32.ofInt v4)), some (.int (Int32.ofInt v20)), some (.int (Int32.ofInt v7)), some (.int (Int32.ofInt v8)), some (.int (Int32.ofInt v15))]) (st1 := []) (H1 := mz_mk g16 x) rfl ?_
                refine mz_iincR (v := v8) (lo2 := [some (.ref 0), some (.int (Int32.ofInt a1)), some (.int (Int32.ofInt v4)), some (.int (Int32.ofInt v20)), some (.int (Int32.ofInt v7)), some (.int (Int32.ofInt (v8 + 1))), some (.int (Int32.ofInt v15))]) rfl rfl rfl (Nat.le_of_ble_eq_true rfl) rfl ?_
                refine mz_gt (tgt := 49) rfl rfl ?_
                exact ih11 ((6 - (v8 + 1)).toNat) (by omega) v20 v7 (v8 + 1) (some (.int (Int32.ofInt v15))) g16 rfl (by omega) (by omega) (by omega) (by omega) (by omega) (by omega) (mz_nl_i _) hIg16 (fun k j hk => ((hfg16 k j (fun h => hk (Or.elim h (fun h => (Or.inl h)) (fun h => (Or.elim h (fun h => (Or.inr (Or.inl h))) (fun h => (Or.inr (Or.inr h)))))))).trans (hfg10 k j (fun h => hk (Or.elim h (fun h => (Or.inl h)) (fun h => (Or.elim h (fun h => (Or.inr (Or.inl h))) (fun h => (Or.inr (Or.inr h))))))))))
              · skip
                refine mz_bip rfl bip_10 ?_
                refine mm_g 1 (pc1 := 82) (lo1 := [some (.ref 0), some (.int (Int32.ofInt a1)), some (.int (Int32.ofInt v4)), some (.int (Int32.ofInt v6)), some (.int (Int32.ofInt v7)), some (.int (Int32.ofInt v8)), some (.int (Int32.ofInt v15))]) (st1 := [.int (Int32.ofInt v8), .int (Int32.ofInt 10)]) (H1 := mz_mk g16 x) rfl ?_
                refine mz_imul rfl ?_
                refine mm_g 1 (pc1 := 85) (lo1 := [some (.ref 0), some (.int (Int32.ofInt a1)), some (.int (Int32.ofInt v4)), some (.int (Int32.ofInt v6)), some (.int (Int32.ofInt v7)), some (.int (Int32.ofInt v8)), some (.int (Int32.ofInt v15))]) (st1 := [.int (Int32.ofInt v15), .int (Int32.ofInt (10 * v8))]) (H1 := mz_mk g16 x) rfl ?_
                refine mz_cs rfl mt_11_355 (by decide) rfl (Nat.le_of_ble_eq_true rfl) (by omega) (c_X11_lowestBit (by omega) hx hIg16 l_v15 u_v15 (fun v21 l_v21 u_v21 => ⟨_, rfl, ?_⟩))
                show mm_W d mmX11_loose 88 [some (.ref 0), some (.int (Int32.ofInt a1)), some (.int (Int32.ofInt v4)), some (.int (Int32.ofInt v6)), some (.int (Int32.ofInt v7)), some (.int (Int32.ofInt v8)), some (.int (Int32.ofInt v15))] [.int (Int32.ofInt v21), .int (Int32.ofInt (10 * v8))] (mz_mk g16 x) Q
                refine mz_iadd rfl ?_
                refine mm_g 3 (pc1 := 94) (lo1 := [some (.ref 0), some (.int (Int32.ofInt a1)), some (.int (Int32.ofInt v4)), some (.int (Int32.ofInt v6)), some (.int (Int32.ofInt ((10 * v8) + v21))), some (.int (Int32.ofInt v8)), some (.int (Int32.ofInt v15))]) (st1 := [.int (Int32.ofInt v15), .int (Int32.ofInt v6)]) (H1 := mz_mk g16 x) rfl ?_
                refine mz_cs rfl mt_11_358 (by decide) rfl (Nat.le_of_ble_eq_true rfl) (by omega) (c_J6_bitCount (by omega) hx hIg16 l_v15 u_v15 (fun v22 l_v22 u_v22 => ⟨_, rfl, ?_⟩))
                show mm_W d mmX11_loose 97 [some (.ref 0), some (.int (Int32.ofInt a1)), some (.int (Int32.ofInt v4)), some (.int (Int32.ofInt v6)), some (.int (Int32.ofInt ((10 * v8) + v21))), some (.int (Int32.ofInt v8)), some (.int (Int32.ofInt v15))] [.int (Int32.ofInt v22), .int (Int32.ofInt v6)] (mz_mk g16 x) Q
                refine mz_iadd_w rfl (fun v23 _ hwv23 => ?_)
                have l_v23 := hwv23.1
                have u_v23 := hwv23.2
                refine mm_g 1 (pc1 := 99) (lo1 := [some (.ref 0), some (.int (Int32.ofInt a1)), some (.int (Int32.ofInt v4)), some (.int (Int32.ofInt v23)), some (.int (Int32.ofInt ((10 * v8) + v21))), some (.int (Int32.ofInt v8)), some (.int (Int32.ofInt v15))]) (st1 := []) (H1 := mz_mk g16 x) rfl ?_
                refine mz_iincR (v := v8) (lo2 := [some (.ref 0), some (.int (Int32.ofInt a1)), some (.int (Int32.ofInt v4)), some (.int (Int32.ofInt v23)), some (.int (Int32.ofInt ((10 * v8) + v21))), some (.int (Int32.ofInt (v8 + 1))), some (.int (Int32.ofInt v15))]) rfl rfl rfl (Nat.le_of_ble_eq_true rfl) rfl ?_
                refine mz_gt (tgt := 49) rfl rfl ?_
                exact ih11 ((6 - (v8 + 1)).toNat) (by omega) v23 ((10 * v8) + v21) (v8 + 1) (some (.int (Int32.ofInt v15))) g16 rfl (by omega) (by omega) (by omega) (by omega) (by omega) (by omega) (mz_nl_i _) hIg16 (fun k j hk => ((hfg16 k j (fun h => hk (Or.elim h (fun h => (Or.inl h)) (fun h => (Or.elim h (fun h => (Or.inr (Or.inl h))) (fun h => (Or.inr (Or.inr h)))))))).trans (hfg10 k j (fun h => hk (Or.elim h (fun h => (Or.inl h)) (fun h => (Or.elim h (fun h => (Or.inr (Or.inl h))) (fun h => (Or.inr (Or.inr h))))))))))
        exact L13 _ 0 (-1) 0 none g5 rfl (by decide) (by decide) (by decide) (by decide) (by decide) (by decide) mz_nl_n hIg5 (fun _ _ _ => rfl)
      · skip
        refine mm_g 2 (pc1 := 29) (lo1 := [some (.ref 0), some (.int (Int32.ofInt a1)), some (.int (Int32.ofInt v4)), none, none, none, none]) (st1 := [.ref 0, .int (Int32.ofInt v4)]) (H1 := mz_mk g5 x) rfl ?_
        refine mz_cv rfl mt_11_349 (by decide) (sc_0 _) rfl (Nat.le_of_ble_eq_true rfl) (by omega) (c_X11_allTrunks (by omega) hx hIg5 (fun v24 l_v24 u_v24 => ⟨_, rfl, ?_⟩))
        show mm_W d mmX11_loose 32 [some (.ref 0), some (.int (Int32.ofInt a1)), some (.int (Int32.ofInt v4)), none, none, none, none] [.int (Int32.ofInt v24), .int (Int32.ofInt v4)] (mz_mk g5 x) Q
        refine mz_ic_ne (tgt := 39) rfl rfl (mz_rg l_v4 u_v4) (mz_rg l_v24 u_v24) (fun c32_24 => ?_) (fun c32_24 => ?_)
        · skip
          refine mm_g 1 (pc1 := 40) (lo1 := [some (.ref 0), some (.int (Int32.ofInt a1)), some (.int (Int32.ofInt v4)), none, none, none, none]) (st1 := [.int (Int32.ofInt 0)]) (H1 := mz_mk g5 x) rfl ?_
          exact mm_rt rfl rfl (hQ _ _ hIg5 (fun k j hk => (hfg5 k j (fun h => hk (Or.elim h (fun h => (Or.inl h)) (fun h => (Or.elim h (fun h => (Or.inr (Or.inl h))) (fun h => (Or.inr (Or.inr h))))))))) (by decide) (by decide))
        · skip
          refine mm_g 1 (pc1 := 36) (lo1 := [some (.ref 0), some (.int (Int32.ofInt a1)), some (.int (Int32.ofInt v4)), none, none, none, none]) (st1 := [.int (Int32.ofInt 1)]) (H1 := mz_mk g5 x) rfl ?_
          refine mz_gt (tgt := 40) rfl rfl ?_
          exact mm_rt rfl rfl (hQ _ _ hIg5 (fun k j hk => (hfg5 k j (fun h => hk (Or.elim h (fun h => (Or.inl h)) (fun h => (Or.elim h (fun h => (Or.inr (Or.inl h))) (fun h => (Or.inr (Or.inr h))))))))) (by decide) (by decide))
def fl_X11_unlikeNumbers_22 (x : mm_X) (a1 : Int) (a2 : Int) (a3 : Int) : Nat → Nat → Prop := fun k j => k = 122 ∨ k = ((x.1 + 36) + 2) ∨ k = ((x.1 + 36) + 3)
def fw_X11_unlikeNumbers (x : mm_X) (a1 : Int) (a2 : Int) (a3 : Int) : Nat → Nat → Prop := fun k j => k = 122 ∨ k = ((x.1 + 36) + 2) ∨ k = ((x.1 + 36) + 3)
theorem c_X11_unlikeNumbers {d : Nat} (hd : 16 ≤ d) {x : mm_X} (hx : mk_x x) {g : mz_G} (hI : mz_inv g) {a1 : Int} (l_a1 : (-2147483648) ≤ a1) (u_a1 : a1 ≤ 2147483647) {a2 : Int} (l_a2 : (-2147483648) ≤ a2) (u_a2 : a2 ≤ 2147483647) {a3 : Int} (l_a3 : 0 ≤ a3) (u_a3 : a3 ≤ 1) {Q : (Option Value ⊕ Nat) → mm_H → Prop} (hQ : ∀ (r : Int) (g1 : mz_G), mz_inv g1 → mz_fr (fw_X11_unlikeNumbers x a1 a2 a3) g g1 → (-2147483648) ≤ r → r ≤ 2147483647 → Q (.inl (some (.int (Int32.ofInt r)))) (mz_mk g1 x)) : mm_C d 162 [.ref 0, .int (Int32.ofInt a1), .int (Int32.ofInt a2), .int (Int32.ofInt a3)] (mz_mk g x) Q := by
  have kx := kn_x hx
  refine ⟨mmX11_unlikeNumbers, [some (.ref 0), some (.int (Int32.ofInt a1)), some (.int (Int32.ofInt a2)), some (.int (Int32.ofInt a3)), none, none, none], rfl, rfl, ?_⟩
  refine mm_g 1 (pc1 := 1) (lo1 := [some (.ref 0), some (.int (Int32.ofInt a1)), some (.int (Int32.ofInt a2)), some (.int (Int32.ofInt a3)), none, none, none]) (st1 := [.ref 0]) (H1 := mz_mk g x) rfl ?_
  refine mz_fgR (v := 86) rfl fd_11_37 (by decide) (sc_0 _) (rf_0_5 _ _ _) ?_
  refine mz_fgR (v := 87) rfl fd_11_158 (by decide) (sc_86 _) (rf_86_0 _ _ _) ?_
  refine mm_g 1 (pc1 := 8) (lo1 := [some (.ref 0), some (.int (Int32.ofInt a1)), some (.int (Int32.ofInt a2)), some (.int (Int32.ofInt a3)), none, none, none]) (st1 := [.int (Int32.ofInt a1), .ref 87]) (H1 := mz_mk g x) rfl ?_
  refine mz_cv rfl mt_11_192 (by decide) (sc_87 _) rfl (Nat.le_of_ble_eq_true rfl) (by omega) (c_X9_get (by omega) hx hI kp_tks_87 l_a1 u_a1 (fun u1 k_u1 hp2 => ⟨_, rfl, ?_⟩))
  show mm_W d mmX11_unlikeNumbers 11 [some (.ref 0), some (.int (Int32.ofInt a1)), some (.int (Int32.ofInt a2)), some (.int (Int32.ofInt a3)), none, none, none] [.ref u1] (mz_mk g x) Q
  refine mz_gI rfl fd_11_234 (by decide) (kc_trunk k_u1 _) hI (kb_trunk_2 k_u1) (fun v3 e_v3 l_v3 u_v3 => ?_)
  refine mm_g 5 (pc1 := 22) (lo1 := [some (.ref 0), some (.int (Int32.ofInt a1)), some (.int (Int32.ofInt a2)), some (.int (Int32.ofInt a3)), some (.int (Int32.ofInt v3)), some (.int (Int32.ofInt 0)), some (.int (Int32.ofInt 0))]) (st1 := []) (H1 := mz_mk g x) rfl ?_
  have L9 : ∀ n8 : Nat, ∀ (v4 : Int) (v5 : Int) (g6 : mz_G), (10 - v5).toNat = n8 → (-2147483648) ≤ v4 → v4 ≤ 2147483647 → 0 ≤ v5 → v5 ≤ 10 → mz_inv g6 → mz_fr (fl_X11_unlikeNumbers_22 x a1 a2 a3) g g6 → mm_W d mmX11_unlikeNumbers 22 [some (.ref 0), some (.int (Int32.ofInt a1)), some (.int (Int32.ofInt a2)), some (.int (Int32.ofInt a3)), some (.int (Int32.ofInt v3)), some (.int (Int32.ofInt v4)), some (.int (Int32.ofInt v5))] [] (mz_mk g6 x) Q := by
    intro n8
    induction n8 using Nat.strongRecOn with
    | ind n8 ih7 =>
    intro v4 v5 g6 hmn8 l_v4 u_v4 l_v5 u_v5 hIg6 hfg6
    refine mm_g 1 (pc1 := 24) (lo1 := [some (.ref 0), some (.int (Int32.ofInt a1)), some (.int (Int32.ofInt a2)), some (.int (Int32.ofInt a3)), some (.int (Int32.ofInt v3)), some (.int (Int32.ofInt v4)), some (.int (Int32.ofInt v5))]) (st1 := [.int (Int32.ofInt v5)]) (H1 := mz_mk g6 x) rfl ?_
    refine mz_bip rfl bip_9 ?_
    refine mz_ic_gt (tgt := 78) rfl rfl (mz_rg l_v5 u_v5) ⟨by decide, by decide⟩ (fun c26_9 => ?_) (fun c26_9 => ?_)
    · skip
      refine mm_g 1 (pc1 := 80) (lo1 := [some (.ref 0), some (.int (Int32.ofInt a1)), some (.int (Int32.ofInt a2)), some (.int (Int32.ofInt a3)), some (.int (Int32.ofInt v3)), some (.int (Int32.ofInt v4)), some (.int (Int32.ofInt v5))]) (st1 := [.int (Int32.ofInt v4)]) (H1 := mz_mk g6 x) rfl ?_
      exact mm_rt rfl rfl (hQ _ _ hIg6 (fun k j hk => (hfg6 k j (fun h => hk (Or.elim h (fun h => (Or.inl h)) (fun h => (Or.elim h (fun h => (Or.inr (Or.inl h))) (fun h => (Or.inr (Or.inr h))))))))) (by omega) (by omega))
    · skip
      refine mm_g 3 (pc1 := 33) (lo1 := [some (.ref 0), some (.int (Int32.ofInt a1)), some (.int (Int32.ofInt a2)), some (.int (Int32.ofInt a3)), some (.int (Int32.ofInt v3)), some (.int (Int32.ofInt v4)), some (.int (Int32.ofInt v5))]) (st1 := [.int (Int32.ofInt v5), .int (Int32.ofInt 1), .int (Int32.ofInt a2)]) (H1 := mz_mk g6 x) rfl ?_
      refine mz_ishl rfl (fun v10 e_v10 hwv10 => ?_)
      have b_v10 : 1 ≤ v10 ∧ v10 ≤ 512 := by rw [e_v10]; exact mz_shl_b (lx := 1) (hx := 1) (k := 9) (by decide) (by decide) (by omega) (by omega) (by omega) (by omega)
      have l_v10 := b_v10.1
      have u_v10 := b_v10.2
      refine mz_iand rfl (fun v11 e_v11 hwv11 => ?_)
      have b_v11 : 0 ≤ v11 ∧ v11 ≤ 512 := by rw [e_v11]; exact mz_and_r (by omega) (by omega) (mz_rg l_a2 u_a2)
      have l_v11 := b_v11.1
      have u_v11 := b_v11.2
      have w_v11 : v11 ≤ v10 := by rw [e_v11]; exact (mz_and_r (hi := v10) (by omega) (Int.le_refl _) (mz_rg l_a2 u_a2) (by omega)).2
      refine mz_if_ne (tgt := 49) rfl rfl (mz_rg l_v11 u_v11) (fun c35_11 => ?_) (fun c35_11 => ?_)
      · skip
        refine mm_g 3 (pc1 := 53) (lo1 := [some (.ref 0), some (.int (Int32.ofInt a1)), some (.int (Int32.ofInt a2)), some (.int (Int32.ofInt a3)), some (.int (Int32.ofInt v3)), some (.int (Int32.ofInt v4)), some (.int (Int32.ofInt v5))]) (st1 := [.int (Int32.ofInt v5), .int (Int32.ofInt a1), .ref 0]) (H1 := mz_mk g6 x) rfl ?_
        refine mz_bip rfl bip_6 ?_
        refine mz_cv rfl mt_11_282 (by decide) (sc_0 _) rfl (Nat.le_of_ble_eq_true rfl) (by omega) (c_X11_growProbe (by omega) hx hIg6 l_a1 u_a1 (by omega) (by omega) (by decide) (by decide) (fun g12 hIg12 hfg12 => ⟨_, rfl, ?_⟩))
        show mm_W d mmX11_unlikeNumbers 58 [some (.ref 0), some (.int (Int32.ofInt a1)), some (.int (Int32.ofInt a2)), some (.int (Int32.ofInt a3)), some (.int (Int32.ofInt v3)), some (.int (Int32.ofInt v4)), some (.int (Int32.ofInt v5))] [] (mz_mk g12 x) Q
        refine mm_g 3 (pc1 := 62) (lo1 := [some (.ref 0), some (.int (Int32.ofInt a1)), some (.int (Int32.ofInt a2)), some (.int (Int32.ofInt a3)), some (.int (Int32.ofInt v3)), some (.int (Int32.ofInt v4)), some (.int (Int32.ofInt v5))]) (st1 := [.ref 0, .int (Int32.ofInt 1), .int (Int32.ofInt v4)]) (H1 := mz_mk g12 x) rfl ?_
        refine mz_fgR (v := 122) rfl fd_11_65 (by decide) (sc_0 _) (rf_0_10 _ _ _) ?_
        refine mz_gI rfl fd_11_237 (by decide) (sc_122 _) hIg12 bd_122_3 (fun v13 e_v13 l_v13 u_v13 => ?_)
        refine mz_ishl rfl (fun v14 e_v14 hwv14 => ?_)
        have l_v14 := hwv14.1
        have u_v14 := hwv14.2
        refine mz_ior rfl (fun v15 e_v15 hwv15 => ?_)
        have l_v15 := hwv15.1
        have u_v15 := hwv15.2
        refine mm_g 1 (pc1 := 72) (lo1 := [some (.ref 0), some (.int (Int32.ofInt a1)), some (.int (Int32.ofInt a2)), some (.int (Int32.ofInt a3)), some (.int (Int32.ofInt v3)), some (.int (Int32.ofInt v15)), some (.int (Int32.ofInt v5))]) (st1 := []) (H1 := mz_mk g12 x) rfl ?_
        refine mz_iincR (v := v5) (lo2 := [some (.ref 0), some (.int (Int32.ofInt a1)), some (.int (Int32.ofInt a2)), some (.int (Int32.ofInt a3)), some (.int (Int32.ofInt v3)), some (.int (Int32.ofInt v15)), some (.int (Int32.ofInt (v5 + 1)))]) rfl rfl rfl (Nat.le_of_ble_eq_true rfl) rfl ?_
        refine mz_gt (tgt := 22) rfl rfl ?_
        exact ih7 ((10 - (v5 + 1)).toNat) (by omega) v15 (v5 + 1) g12 rfl (by omega) (by omega) (by omega) (by omega) hIg12 (fun k j hk => ((hfg12 k j (fun h => hk (Or.elim h (fun h => (Or.inl h)) (fun h => (Or.elim h (fun h => (Or.inr (Or.inl h))) (fun h => (Or.inr (Or.inr h)))))))).trans (hfg6 k j (fun h => hk (Or.elim h (fun h => (Or.inl h)) (fun h => (Or.elim h (fun h => (Or.inr (Or.inl h))) (fun h => (Or.inr (Or.inr h))))))))))
      · skip
        refine mm_g 1 (pc1 := 39) (lo1 := [some (.ref 0), some (.int (Int32.ofInt a1)), some (.int (Int32.ofInt a2)), some (.int (Int32.ofInt a3)), some (.int (Int32.ofInt v3)), some (.int (Int32.ofInt v4)), some (.int (Int32.ofInt v5))]) (st1 := [.int (Int32.ofInt a3)]) (H1 := mz_mk g6 x) rfl ?_
        refine mz_if_eq (tgt := 72) rfl rfl (mz_rg l_a3 u_a3) (fun c39_15 => ?_) (fun c39_15 => ?_)
        · skip
          refine mz_iincR (v := v5) (lo2 := [some (.ref 0), some (.int (Int32.ofInt a1)), some (.int (Int32.ofInt a2)), some (.int (Int32.ofInt a3)), some (.int (Int32.ofInt v3)), some (.int (Int32.ofInt v4)), some (.int (Int32.ofInt (v5 + 1)))]) rfl rfl rfl (Nat.le_of_ble_eq_true rfl) rfl ?_
          refine mz_gt (tgt := 22) rfl rfl ?_
          exact ih7 ((10 - (v5 + 1)).toNat) (by omega) v4 (v5 + 1) g6 rfl (by omega) (by omega) (by omega) (by omega) hIg6 (fun k j hk => (hfg6 k j (fun h => hk (Or.elim h (fun h => (Or.inl h)) (fun h => (Or.elim h (fun h => (Or.inr (Or.inl h))) (fun h => (Or.inr (Or.inr h)))))))))
        · skip
          refine mm_g 2 (pc1 := 46) (lo1 := [some (.ref 0), some (.int (Int32.ofInt a1)), some (.int (Int32.ofInt a2)), some (.int (Int32.ofInt a3)), some (.int (Int32.ofInt v3)), some (.int (Int32.ofInt v4)), some (.int (Int32.ofInt v5))]) (st1 := [.int (Int32.ofInt v3), .int (Int32.ofInt v5)]) (H1 := mz_mk g6 x) rfl ?_
          refine mz_ic_ne (tgt := 72) rfl rfl (mz_rg l_v5 u_v5) (mz_rg l_v3 u_v3) (fun c46_15 => ?_) (fun c46_15 => ?_)
          · skip
            refine mz_iincR (v := v5) (lo2 := [some (.ref 0), some (.int (Int32.ofInt a1)), some (.int (Int32.ofInt a2)), some (.int (Int32.ofInt a3)), some (.int (Int32.ofInt v3)), some (.int (Int32.ofInt v4)), some (.int (Int32.ofInt (v5 + 1)))]) rfl rfl rfl (Nat.le_of_ble_eq_true rfl) rfl ?_
            refine mz_gt (tgt := 22) rfl rfl ?_
            exact ih7 ((10 - (v5 + 1)).toNat) (by omega) v4 (v5 + 1) g6 rfl (by omega) (by omega) (by omega) (by omega) hIg6 (fun k j hk => (hfg6 k j (fun h => hk (Or.elim h (fun h => (Or.inl h)) (fun h => (Or.elim h (fun h => (Or.inr (Or.inl h))) (fun h => (Or.inr (Or.inr h)))))))))
          · skip
            refine mm_g 3 (pc1 := 53) (lo1 := [some (.ref 0), some (.int (Int32.ofInt a1)), some (.int (Int32.ofInt a2)), some (.int (Int32.ofInt a3)), some (.int (Int32.ofInt v3)), some (.int (Int32.ofInt v4)), some (.int (Int32.ofInt v5))]) (st1 := [.int (Int32.ofInt v5), .int (Int32.ofInt a1), .ref 0]) (H1 := mz_mk g6 x) rfl ?_
            refine mz_bip rfl bip_6 ?_
            refine mz_cv rfl mt_11_282 (by decide) (sc_0 _) rfl (Nat.le_of_ble_eq_true rfl) (by omega) (c_X11_growProbe (by omega) hx hIg6 l_a1 u_a1 (by omega) (by omega) (by decide) (by decide) (fun g16 hIg16 hfg16 => ⟨_, rfl, ?_⟩))
            show mm_W d mmX11_unlikeNumbers 58 [some (.ref 0), some (.int (Int32.ofInt a1)), some (.int (Int32.ofInt a2)), some (.int (Int32.ofInt a3)), some (.int (Int32.ofInt v3)), some (.int (Int32.ofInt v4)), some (.int (Int32.ofInt v5))] [] (mz_mk g16 x) Q
            refine mm_g 3 (pc1 := 62) (lo1 := [some (.ref 0), some (.int (Int32.ofInt a1)), some (.int (Int32.ofInt a2)), some (.int (Int32.ofInt a3)), some (.int (Int32.ofInt v3)), some (.int (Int32.ofInt v4)), some (.int (Int32.ofInt v5))]) (st1 := [.ref 0, .int (Int32.ofInt 1), .int (Int32.ofInt v4)]) (H1 := mz_mk g16 x) rfl ?_
            refine mz_fgR (v := 122) rfl fd_11_65 (by decide) (sc_0 _) (rf_0_10 _ _ _) ?_
            refine mz_gI rfl fd_11_237 (by decide) (sc_122 _) hIg16 bd_122_3 (fun v17 e_v17 l_v17 u_v17 => ?_)
            refine mz_ishl rfl (fun v18 e_v18 hwv18 => ?_)
            have l_v18 := hwv18.1
            have u_v18 := hwv18.2
            refine mz_ior rfl (fun v19 e_v19 hwv19 => ?_)
            have l_v19 := hwv19.1
            have u_v19 := hwv19.2
            refine mm_g 1 (pc1 := 72) (lo1 := [some (.ref 0), some (.int (Int32.ofInt a1)), some (.int (Int32.ofInt a2)), some (.int (Int32.ofInt a3)), some (.int (Int32.ofInt v3)), some (.int (Int32.ofInt v19)), some (.int (Int32.ofInt v5))]) (st1 := []) (H1 := mz_mk g16 x) rfl ?_
            refine mz_iincR (v := v5) (lo2 := [some (.ref 0), some (.int (Int32.ofInt a1)), some (.int (Int32.ofInt a2)), some (.int (Int32.ofInt a3)), some (.int (Int32.ofInt v3)), some (.int (Int32.ofInt v19)), some (.int (Int32.ofInt (v5 + 1)))]) rfl rfl rfl (Nat.le_of_ble_eq_true rfl) rfl ?_
            refine mz_gt (tgt := 22) rfl rfl ?_
            exact ih7 ((10 - (v5 + 1)).toNat) (by omega) v19 (v5 + 1) g16 rfl (by omega) (by omega) (by omega) (by omega) hIg16 (fun k j hk => ((hfg16 k j (fun h => hk (Or.elim h (fun h => (Or.inl h)) (fun h => (Or.elim h (fun h => (Or.inr (Or.inl h))) (fun h => (Or.inr (Or.inr h)))))))).trans (hfg6 k j (fun h => hk (Or.elim h (fun h => (Or.inl h)) (fun h => (Or.elim h (fun h => (Or.inr (Or.inl h))) (fun h => (Or.inr (Or.inr h))))))))))
  exact L9 _ 0 0 g rfl (by decide) (by decide) (by decide) (by decide) hI (fun _ _ _ => rfl)
def fl_X11_look_27 (x : mm_X) (a1 : Int) : Nat → Nat → Prop := fun k j => k = 122 ∨ k = ((x.1 + 36) + 2) ∨ k = ((x.1 + 36) + 3)
def fl_X11_look_64 (x : mm_X) (a1 : Int) : Nat → Nat → Prop := fun k j => k = 122 ∨ k = ((x.1 + 36) + 2) ∨ k = ((x.1 + 36) + 3)
def fw_X11_look (x : mm_X) (a1 : Int) : Nat → Nat → Prop := fun k j => k = 122 ∨ k = ((x.1 + 36) + 2) ∨ k = ((x.1 + 36) + 3)
theorem c_X11_look {d : Nat} (hd : 17 ≤ d) {x : mm_X} (hx : mk_x x) {g : mz_G} (hI : mz_inv g) {a1 : Int} (l_a1 : (-2147483648) ≤ a1) (u_a1 : a1 ≤ 2147483647) {Q : (Option Value ⊕ Nat) → mm_H → Prop} (hQ : ∀ (r : Int) (g1 : mz_G), mz_inv g1 → mz_fr (fw_X11_look x a1) g g1 → (-1) ≤ r → r ≤ 63 → Q (.inl (some (.int (Int32.ofInt r)))) (mz_mk g1 x)) (hX : ∀ E, Q (.inr E) (mz_mk g (mz_tx x))) : mm_C d 156 [.ref 0, .int (Int32.ofInt a1)] (mz_mk g x) Q := by
  have kx := kn_x hx
  refine ⟨mmX11_look, [some (.ref 0), some (.int (Int32.ofInt a1)), none, none, none, none, none, none, none, none], rfl, rfl, ?_⟩
  refine mm_g 1 (pc1 := 1) (lo1 := [some (.ref 0), some (.int (Int32.ofInt a1)), none, none, none, none, none, none, none, none]) (st1 := [.int (Int32.ofInt a1)]) (H1 := mz_mk g x) rfl ?_
  refine mz_if_eq (tgt := 9) rfl rfl (mz_rg l_a1 u_a1) (fun c1_0 => ?_) (fun c1_0 => ?_)
  · skip
    refine mm_g 1 (pc1 := 10) (lo1 := [some (.ref 0), some (.int (Int32.ofInt a1)), none, none, none, none, none, none, none, none]) (st1 := [.int (Int32.ofInt 1)]) (H1 := mz_mk g x) rfl ?_
    refine mz_gt (tgt := 14) rfl rfl ?_
    refine mz_csx rfl mt_11_183 rfl (Nat.le_of_ble_eq_true rfl) (by omega) rfl nh_X11_mustBe (c_X11_mustBe (by omega) hx hI (by decide) (by decide) (fun hp1 => ?_) (fun E => hX E))
    show mm_W d mmX11_look 17 [some (.ref 0), some (.int (Int32.ofInt a1)), none, none, none, none, none, none, none, none] [] (mz_mk g x) Q
    refine mm_g 1 (pc1 := 18) (lo1 := [some (.ref 0), some (.int (Int32.ofInt a1)), none, none, none, none, none, none, none, none]) (st1 := [.ref 0]) (H1 := mz_mk g x) rfl ?_
    refine mz_cv rfl mt_11_346 (by decide) (sc_0 _) rfl (Nat.le_of_ble_eq_true rfl) (by omega) (c_X11_fittingTrunks (by omega) hx hI (fun v2 g3 hIg3 hfg3 l_v2 u_v2 => ⟨_, rfl, ?_⟩))
    show mm_W d mmX11_look 21 [some (.ref 0), some (.int (Int32.ofInt a1)), none, none, none, none, none, none, none, none] [.int (Int32.ofInt v2)] (mz_mk g3 x) Q
    refine mm_g 5 (pc1 := 27) (lo1 := [some (.ref 0), some (.int (Int32.ofInt a1)), some (.int (Int32.ofInt v2)), some (.int (Int32.ofInt 0)), some (.int (Int32.ofInt 0)), none, none, none, none, none]) (st1 := []) (H1 := mz_mk g3 x) rfl ?_
    have L9 : ∀ n8 : Nat, ∀ (v4 : Int) (v5 : Int) (g6 : mz_G), (6 - v5).toNat = n8 → (-2147483648) ≤ v4 → v4 ≤ 2147483647 → 0 ≤ v5 → v5 ≤ 6 → mz_inv g6 → mz_fr (fl_X11_look_27 x a1) g3 g6 → mm_W d mmX11_look 27 [some (.ref 0), some (.int (Int32.ofInt a1)), some (.int (Int32.ofInt v2)), some (.int (Int32.ofInt v4)), some (.int (Int32.ofInt v5)), none, none, none, none, none] [] (mz_mk g6 x) Q := by
      intro n8
      induction n8 using Nat.strongRecOn with
      | ind n8 ih7 =>
      intro v4 v5 g6 hmn8 l_v4 u_v4 l_v5 u_v5 hIg6 hfg6
      refine mm_g 2 (pc1 := 30) (lo1 := [some (.ref 0), some (.int (Int32.ofInt a1)), some (.int (Int32.ofInt v2)), some (.int (Int32.ofInt v4)), some (.int (Int32.ofInt v5)), none, none, none, none, none]) (st1 := [.ref 0, .int (Int32.ofInt v5)]) (H1 := mz_mk g6 x) rfl ?_
      refine mz_cv rfl mt_11_155 (by decide) (sc_0 _) rfl (Nat.le_of_ble_eq_true rfl) (by omega) (c_X11_trunkCount (by omega) hx hIg6 (fun v10 l_v10 u_v10 => ⟨_, rfl, ?_⟩))
      show mm_W d mmX11_look 33 [some (.ref 0), some (.int (Int32.ofInt a1)), some (.int (Int32.ofInt v2)), some (.int (Int32.ofInt v4)), some (.int (Int32.ofInt v5)), none, none, none, none, none] [.int (Int32.ofInt v10), .int (Int32.ofInt v5)] (mz_mk g6 x) Q
      refine mz_ic_ge (tgt := 55) rfl rfl (mz_rg l_v5 u_v5) (mz_rg l_v10 u_v10) (fun c33_10 => ?_) (fun c33_10 => ?_)
      · skip
        refine mm_g 6 (pc1 := 64) (lo1 := [some (.ref 0), some (.int (Int32.ofInt a1)), some (.int (Int32.ofInt v2)), some (.int (Int32.ofInt v4)), some (.int (Int32.ofInt (-1))), some (.int (Int32.ofInt 0)), some (.int (Int32.ofInt 0)), none, none, none]) (st1 := []) (H1 := mz_mk g6 x) rfl ?_
        have L20 : ∀ n19 : Nat, ∀ (v11 : Int) (v12 : Int) (v13 : Int) (o14 : Option Value) (o15 : Option Value) (o16 : Option Value) (g17 : mz_G), (6 - v13).toNat = n19 → (-1) ≤ v11 → v11 ≤ 5 → 0 ≤ v12 → v12 ≤ 63 → 0 ≤ v13 → v13 ≤ 6 → mz_nl o14 → mz_nl o15 → mz_nl o16 → mz_inv g17 → mz_fr (fl_X11_look_64 x a1) g6 g17 → mm_W d mmX11_look 64 [some (.ref 0), some (.int (Int32.ofInt a1)), some (.int (Int32.ofInt v2)), some (.int (Int32.ofInt v4)), some (.int (Int32.ofInt v11)), some (.int (Int32.ofInt v12)), some (.int (Int32.ofInt v13)), o14, o15, o16] [] (mz_mk g17 x) Q := by
          intro n19
          induction n19 using Nat.strongRecOn with
          | ind n19 ih18 =>
          intro v11 v12 v13 o14 o15 o16 g17 hmn19 l_v11 u_v11 l_v12 u_v12 l_v13 u_v13 h_o14 h_o15 h_o16 hIg17 hfg17
          refine mm_g 2 (pc1 := 67) (lo1 := [some (.ref 0), some (.int (Int32.ofInt a1)), some (.int (Int32.ofInt v2)), some (.int (Int32.ofInt v4)), some (.int (Int32.ofInt v11)), some (.int (Int32.ofInt v12)), some (.int (Int32.ofInt v13)), o14, o15, o16]) (st1 := [.ref 0, .int (Int32.ofInt v13)]) (H1 := mz_mk g17 x) rfl ?_
          refine mz_cv rfl mt_11_155 (by decide) (sc_0 _) rfl (Nat.le_of_ble_eq_true rfl) (by omega) (c_X11_trunkCount (by omega) hx hIg17 (fun v21 l_v21 u_v21 => ⟨_, rfl, ?_⟩))
          show mm_W d mmX11_look 70 [some (.ref 0), some (.int (Int32.ofInt a1)), some (.int (Int32.ofInt v2)), some (.int (Int32.ofInt v4)), some (.int (Int32.ofInt v11)), some (.int (Int32.ofInt v12)), some (.int (Int32.ofInt v13)), o14, o15, o16] [.int (Int32.ofInt v21), .int (Int32.ofInt v13)] (mz_mk g17 x) Q
          refine mz_ic_ge (tgt := 134) rfl rfl (mz_rg l_v13 u_v13) (mz_rg l_v21 u_v21) (fun c70_21 => ?_) (fun c70_21 => ?_)
          · skip
            refine mm_g 1 (pc1 := 135) (lo1 := [some (.ref 0), some (.int (Int32.ofInt a1)), some (.int (Int32.ofInt v2)), some (.int (Int32.ofInt v4)), some (.int (Int32.ofInt v11)), some (.int (Int32.ofInt v12)), some (.int (Int32.ofInt v13)), o14, o15, o16]) (st1 := [.int (Int32.ofInt a1)]) (H1 := mz_mk g17 x) rfl ?_
            refine mz_if_ne (tgt := 143) rfl rfl (mz_rg l_a1 u_a1) (fun c135_21 => ?_) (fun c135_21 => ?_)
            · exfalso; omega
            · skip
              refine mm_g 1 (pc1 := 140) (lo1 := [some (.ref 0), some (.int (Int32.ofInt a1)), some (.int (Int32.ofInt v2)), some (.int (Int32.ofInt v4)), some (.int (Int32.ofInt v11)), some (.int (Int32.ofInt v12)), some (.int (Int32.ofInt v13)), o14, o15, o16]) (st1 := [.int (Int32.ofInt v11)]) (H1 := mz_mk g17 x) rfl ?_
              refine mz_gt (tgt := 145) rfl rfl ?_
              exact mm_rt rfl rfl (hQ _ _ hIg17 (fun k j hk => ((hfg17 k j (fun h => hk (Or.elim h (fun h => (Or.inl h)) (fun h => (Or.elim h (fun h => (Or.inr (Or.inl h))) (fun h => (Or.inr (Or.inr h)))))))).trans ((hfg6 k j (fun h => hk (Or.elim h (fun h => (Or.inl h)) (fun h => (Or.elim h (fun h => (Or.inr (Or.inl h))) (fun h => (Or.inr (Or.inr h)))))))).trans (hfg3 k j (fun h => hk (Or.elim h (fun h => (Or.inl h)) (fun h => (Or.elim h (fun h => (Or.inr (Or.inl h))) (fun h => (Or.inr (Or.inr h))))))))))) (by omega) (by omega))
          · skip
            refine mm_g 3 (pc1 := 77) (lo1 := [some (.ref 0), some (.int (Int32.ofInt a1)), some (.int (Int32.ofInt v2)), some (.int (Int32.ofInt v4)), some (.int (Int32.ofInt v11)), some (.int (Int32.ofInt v12)), some (.int (Int32.ofInt v13)), o14, o15, o16]) (st1 := [.int (Int32.ofInt v2), .int (Int32.ofInt v13), .ref 0]) (H1 := mz_mk g17 x) rfl ?_
            refine mz_cv rfl mt_11_352 (by decide) (sc_0 _) rfl (Nat.le_of_ble_eq_true rfl) (by omega) (c_X11_looseStraps (by omega) hx hIg17 (by omega) (by omega) (by omega) (by omega) (fun v22 g23 hIg23 hfg23 l_v22 u_v22 => ⟨_, rfl, ?_⟩))
            show mm_W d mmX11_look 80 [some (.ref 0), some (.int (Int32.ofInt a1)), some (.int (Int32.ofInt v2)), some (.int (Int32.ofInt v4)), some (.int (Int32.ofInt v11)), some (.int (Int32.ofInt v12)), some (.int (Int32.ofInt v13)), o14, o15, o16] [.int (Int32.ofInt v22)] (mz_mk g23 x) Q
            refine mm_g 3 (pc1 := 85) (lo1 := [some (.ref 0), some (.int (Int32.ofInt a1)), some (.int (Int32.ofInt v2)), some (.int (Int32.ofInt v4)), some (.int (Int32.ofInt v11)), some (.int (Int32.ofInt v12)), some (.int (Int32.ofInt v13)), some (.int (Int32.ofInt v22)), o15, o16]) (st1 := [.int (Int32.ofInt v22), .int (Int32.ofInt v4)]) (H1 := mz_mk g23 x) rfl ?_
            refine mz_cs rfl mt_11_358 (by decide) rfl (Nat.le_of_ble_eq_true rfl) (by omega) (c_J6_bitCount (by omega) hx hIg23 l_v22 u_v22 (fun v24 l_v24 u_v24 => ⟨_, rfl, ?_⟩))
            show mm_W d mmX11_look 88 [some (.ref 0), some (.int (Int32.ofInt a1)), some (.int (Int32.ofInt v2)), some (.int (Int32.ofInt v4)), some (.int (Int32.ofInt v11)), some (.int (Int32.ofInt v12)), some (.int (Int32.ofInt v13)), some (.int (Int32.ofInt v22)), o15, o16] [.int (Int32.ofInt v24), .int (Int32.ofInt v4)] (mz_mk g23 x) Q
            refine mz_ic_le (tgt := 95) rfl rfl (mz_rg l_v4 u_v4) (mz_rg l_v24 u_v24) (fun c88_24 => ?_) (fun c88_24 => ?_)
            · skip
              refine mm_g 6 (pc1 := 105) (lo1 := [some (.ref 0), some (.int (Int32.ofInt a1)), some (.int (Int32.ofInt v2)), some (.int (Int32.ofInt v4)), some (.int (Int32.ofInt v11)), some (.int (Int32.ofInt v12)), some (.int (Int32.ofInt v13)), some (.int (Int32.ofInt v22)), some (.int (Int32.ofInt 0)), o16]) (st1 := [.int (Int32.ofInt 0), .int (Int32.ofInt v22), .int (Int32.ofInt v13), .ref 0]) (H1 := mz_mk g23 x) rfl ?_
              refine mz_cv rfl mt_11_363 (by decide) (sc_0 _) rfl (Nat.le_of_ble_eq_true rfl) (by omega) (c_X11_unlikeNumbers (by omega) hx hIg23 (by omega) (by omega) l_v22 u_v22 (by decide) (by decide) (fun v25 g26 hIg26 hfg26 l_v25 u_v25 => ⟨_, rfl, ?_⟩))
              show mm_W d mmX11_look 108 [some (.ref 0), some (.int (Int32.ofInt a1)), some (.int (Int32.ofInt v2)), some (.int (Int32.ofInt v4)), some (.int (Int32.ofInt v11)), some (.int (Int32.ofInt v12)), some (.int (Int32.ofInt v13)), some (.int (Int32.ofInt v22)), some (.int (Int32.ofInt 0)), o16] [.int (Int32.ofInt v25)] (mz_mk g26 x) Q
              refine mz_cs rfl mt_11_358 (by decide) rfl (Nat.le_of_ble_eq_true rfl) (by omega) (c_J6_bitCount (by omega) hx hIg26 l_v25 u_v25 (fun v27 l_v27 u_v27 => ⟨_, rfl, ?_⟩))
              show mm_W d mmX11_look 111 [some (.ref 0), some (.int (Int32.ofInt a1)), some (.int (Int32.ofInt v2)), some (.int (Int32.ofInt v4)), some (.int (Int32.ofInt v11)), some (.int (Int32.ofInt v12)), some (.int (Int32.ofInt v13)), some (.int (Int32.ofInt v22)), some (.int (Int32.ofInt 0)), o16] [.int (Int32.ofInt v27)] (mz_mk g26 x) Q
              refine mm_g 3 (pc1 := 117) (lo1 := [some (.ref 0), some (.int (Int32.ofInt a1)), some (.int (Int32.ofInt v2)), some (.int (Int32.ofInt v4)), some (.int (Int32.ofInt v11)), some (.int (Int32.ofInt v12)), some (.int (Int32.ofInt v13)), some (.int (Int32.ofInt v22)), some (.int (Int32.ofInt 0)), some (.int (Int32.ofInt v27))]) (st1 := [.int (Int32.ofInt v12), .int (Int32.ofInt v27)]) (H1 := mz_mk g26 x) rfl ?_
              refine mz_ic_le (tgt := 128) rfl rfl (mz_rg l_v27 u_v27) (mz_rg l_v12 u_v12) (fun c117_27 => ?_) (fun c117_27 => ?_)
              · skip
                refine mz_iincR (v := v13) (lo2 := [some (.ref 0), some (.int (Int32.ofInt a1)), some (.int (Int32.ofInt v2)), some (.int (Int32.ofInt v4)), some (.int (Int32.ofInt v11)), some (.int (Int32.ofInt v12)), some (.int (Int32.ofInt (v13 + 1))), some (.int (Int32.ofInt v22)), some (.int (Int32.ofInt 0)), some (.int (Int32.ofInt v27))]) rfl rfl rfl (Nat.le_of_ble_eq_true rfl) rfl ?_
                refine mz_gt (tgt := 64) rfl rfl ?_
                exact ih18 ((6 - (v13 + 1)).toNat) (by omega) v11 v12 (v13 + 1) (some (.int (Int32.ofInt v22))) (some (.int (Int32.ofInt 0))) (some (.int (Int32.ofInt v27))) g26 rfl (by omega) (by omega) (by omega) (by omega) (by omega) (by omega) (mz_nl_i _) (mz_nl_i _) (mz_nl_i _) hIg26 (fun k j hk => ((hfg26 k j (fun h => hk (Or.elim h (fun h => (Or.inl h)) (fun h => (Or.elim h (fun h => (Or.inr (Or.inl h))) (fun h => (Or.inr (Or.inr h)))))))).trans ((hfg23 k j (fun h => hk (Or.elim h (fun h => (Or.inl h)) (fun h => (Or.elim h (fun h => (Or.inr (Or.inl h))) (fun h => (Or.inr (Or.inr h)))))))).trans (hfg17 k j (fun h => hk (Or.elim h (fun h => (Or.inl h)) (fun h => (Or.elim h (fun h => (Or.inr (Or.inl h))) (fun h => (Or.inr (Or.inr h)))))))))))
              · skip
                refine mm_g 4 (pc1 := 128) (lo1 := [some (.ref 0), some (.int (Int32.ofInt a1)), some (.int (Int32.ofInt v2)), some (.int (Int32.ofInt v4)), some (.int (Int32.ofInt v13)), some (.int (Int32.ofInt v27)), some (.int (Int32.ofInt v13)), some (.int (Int32.ofInt v22)), some (.int (Int32.ofInt 0)), some (.int (Int32.ofInt v27))]) (st1 := []) (H1 := mz_mk g26 x) rfl ?_
                refine mz_iincR (v := v13) (lo2 := [some (.ref 0), some (.int (Int32.ofInt a1)), some (.int (Int32.ofInt v2)), some (.int (Int32.ofInt v4)), some (.int (Int32.ofInt v13)), some (.int (Int32.ofInt v27)), some (.int (Int32.ofInt (v13 + 1))), some (.int (Int32.ofInt v22)), some (.int (Int32.ofInt 0)), some (.int (Int32.ofInt v27))]) rfl rfl rfl (Nat.le_of_ble_eq_true rfl) rfl ?_
                refine mz_gt (tgt := 64) rfl rfl ?_
                exact ih18 ((6 - (v13 + 1)).toNat) (by omega) v13 v27 (v13 + 1) (some (.int (Int32.ofInt v22))) (some (.int (Int32.ofInt 0))) (some (.int (Int32.ofInt v27))) g26 rfl (by omega) (by omega) (by omega) (by omega) (by omega) (by omega) (mz_nl_i _) (mz_nl_i _) (mz_nl_i _) hIg26 (fun k j hk => ((hfg26 k j (fun h => hk (Or.elim h (fun h => (Or.inl h)) (fun h => (Or.elim h (fun h => (Or.inr (Or.inl h))) (fun h => (Or.inr (Or.inr h)))))))).trans ((hfg23 k j (fun h => hk (Or.elim h (fun h => (Or.inl h)) (fun h => (Or.elim h (fun h => (Or.inr (Or.inl h))) (fun h => (Or.inr (Or.inr h)))))))).trans (hfg17 k j (fun h => hk (Or.elim h (fun h => (Or.inl h)) (fun h => (Or.elim h (fun h => (Or.inr (Or.inl h))) (fun h => (Or.inr (Or.inr h)))))))))))
            · skip
              refine mm_g 1 (pc1 := 92) (lo1 := [some (.ref 0), some (.int (Int32.ofInt a1)), some (.int (Int32.ofInt v2)), some (.int (Int32.ofInt v4)), some (.int (Int32.ofInt v11)), some (.int (Int32.ofInt v12)), some (.int (Int32.ofInt v13)), some (.int (Int32.ofInt v22)), o15, o16]) (st1 := [.int (Int32.ofInt 1)]) (H1 := mz_mk g23 x) rfl ?_
              refine mz_gt (tgt := 96) rfl rfl ?_
              refine mm_g 5 (pc1 := 105) (lo1 := [some (.ref 0), some (.int (Int32.ofInt a1)), some (.int (Int32.ofInt v2)), some (.int (Int32.ofInt v4)), some (.int (Int32.ofInt v11)), some (.int (Int32.ofInt v12)), some (.int (Int32.ofInt v13)), some (.int (Int32.ofInt v22)), some (.int (Int32.ofInt 1)), o16]) (st1 := [.int (Int32.ofInt 1), .int (Int32.ofInt v22), .int (Int32.ofInt v13), .ref 0]) (H1 := mz_mk g23 x) rfl ?_
              refine mz_cv rfl mt_11_363 (by decide) (sc_0 _) rfl (Nat.le_of_ble_eq_true rfl) (by omega) (c_X11_unlikeNumbers (by omega) hx hIg23 (by omega) (by omega) l_v22 u_v22 (by decide) (by decide) (fun v28 g29 hIg29 hfg29 l_v28 u_v28 => ⟨_, rfl, ?_⟩))
              show mm_W d mmX11_look 108 [some (.ref 0), some (.int (Int32.ofInt a1)), some (.int (Int32.ofInt v2)), some (.int (Int32.ofInt v4)), some (.int (Int32.ofInt v11)), some (.int (Int32.ofInt v12)), some (.int (Int32.ofInt v13)), some (.int (Int32.ofInt v22)), some (.int (Int32.ofInt 1)), o16] [.int (Int32.ofInt v28)] (mz_mk g29 x) Q
              refine mz_cs rfl mt_11_358 (by decide) rfl (Nat.le_of_ble_eq_true rfl) (by omega) (c_J6_bitCount (by omega) hx hIg29 l_v28 u_v28 (fun v30 l_v30 u_v30 => ⟨_, rfl, ?_⟩))
              show mm_W d mmX11_look 111 [some (.ref 0), some (.int (Int32.ofInt a1)), some (.int (Int32.ofInt v2)), some (.int (Int32.ofInt v4)), some (.int (Int32.ofInt v11)), some (.int (Int32.ofInt v12)), some (.int (Int32.ofInt v13)), some (.int (Int32.ofInt v22)), some (.int (Int32.ofInt 1)), o16] [.int (Int32.ofInt v30)] (mz_mk g29 x) Q
              refine mm_g 3 (pc1 := 117) (lo1 := [some (.ref 0), some (.int (Int32.ofInt a1)), some (.int (Int32.ofInt v2)), some (.int (Int32.ofInt v4)), some (.int (Int32.ofInt v11)), some (.int (Int32.ofInt v12)), some (.int (Int32.ofInt v13)), some (.int (Int32.ofInt v22)), some (.int (Int32.ofInt 1)), some (.int (Int32.ofInt v30))]) (st1 := [.int (Int32.ofInt v12), .int (Int32.ofInt v30)]) (H1 := mz_mk g29 x) rfl ?_
              refine mz_ic_le (tgt := 128) rfl rfl (mz_rg l_v30 u_v30) (mz_rg l_v12 u_v12) (fun c117_30 => ?_) (fun c117_30 => ?_)
              · skip
                refine mz_iincR (v := v13) (lo2 := [some (.ref 0), some (.int (Int32.ofInt a1)), some (.int (Int32.ofInt v2)), some (.int (Int32.ofInt v4)), some (.int (Int32.ofInt v11)), some (.int (Int32.ofInt v12)), some (.int (Int32.ofInt (v13 + 1))), some (.int (Int32.ofInt v22)), some (.int (Int32.ofInt 1)), some (.int (Int32.ofInt v30))]) rfl rfl rfl (Nat.le_of_ble_eq_true rfl) rfl ?_
                refine mz_gt (tgt := 64) rfl rfl ?_
                exact ih18 ((6 - (v13 + 1)).toNat) (by omega) v11 v12 (v13 + 1) (some (.int (Int32.ofInt v22))) (some (.int (Int32.ofInt 1))) (some (.int (Int32.ofInt v30))) g29 rfl (by omega) (by omega) (by omega) (by omega) (by omega) (by omega) (mz_nl_i _) (mz_nl_i _) (mz_nl_i _) hIg29 (fun k j hk => ((hfg29 k j (fun h => hk (Or.elim h (fun h => (Or.inl h)) (fun h => (Or.elim h (fun h => (Or.inr (Or.inl h))) (fun h => (Or.inr (Or.inr h)))))))).trans ((hfg23 k j (fun h => hk (Or.elim h (fun h => (Or.inl h)) (fun h => (Or.elim h (fun h => (Or.inr (Or.inl h))) (fun h => (Or.inr (Or.inr h)))))))).trans (hfg17 k j (fun h => hk (Or.elim h (fun h => (Or.inl h)) (fun h => (Or.elim h (fun h => (Or.inr (Or.inl h))) (fun h => (Or.inr (Or.inr h)))))))))))
              · skip
                refine mm_g 4 (pc1 := 128) (lo1 := [some (.ref 0), some (.int (Int32.ofInt a1)), some (.int (Int32.ofInt v2)), some (.int (Int32.ofInt v4)), some (.int (Int32.ofInt v13)), some (.int (Int32.ofInt v30)), some (.int (Int32.ofInt v13)), some (.int (Int32.ofInt v22)), some (.int (Int32.ofInt 1)), some (.int (Int32.ofInt v30))]) (st1 := []) (H1 := mz_mk g29 x) rfl ?_
                refine mz_iincR (v := v13) (lo2 := [some (.ref 0), some (.int (Int32.ofInt a1)), some (.int (Int32.ofInt v2)), some (.int (Int32.ofInt v4)), some (.int (Int32.ofInt v13)), some (.int (Int32.ofInt v30)), some (.int (Int32.ofInt (v13 + 1))), some (.int (Int32.ofInt v22)), some (.int (Int32.ofInt 1)), some (.int (Int32.ofInt v30))]) rfl rfl rfl (Nat.le_of_ble_eq_true rfl) rfl ?_
                refine mz_gt (tgt := 64) rfl rfl ?_
                exact ih18 ((6 - (v13 + 1)).toNat) (by omega) v13 v30 (v13 + 1) (some (.int (Int32.ofInt v22))) (some (.int (Int32.ofInt 1))) (some (.int (Int32.ofInt v30))) g29 rfl (by omega) (by omega) (by omega) (by omega) (by omega) (by omega) (mz_nl_i _) (mz_nl_i _) (mz_nl_i _) hIg29 (fun k j hk => ((hfg29 k j (fun h => hk (Or.elim h (fun h => (Or.inl h)) (fun h => (Or.elim h (fun h => (Or.inr (Or.inl h))) (fun h => (Or.inr (Or.inr h)))))))).trans ((hfg23 k j (fun h => hk (Or.elim h (fun h => (Or.inl h)) (fun h => (Or.elim h (fun h => (Or.inr (Or.inl h))) (fun h => (Or.inr (Or.inr h)))))))).trans (hfg17 k j (fun h => hk (Or.elim h (fun h => (Or.inl h)) (fun h => (Or.elim h (fun h => (Or.inr (Or.inl h))) (fun h => (Or.inr (Or.inr h)))))))))))
        exact L20 _ (-1) 0 0 none none none g6 rfl (by decide) (by decide) (by decide) (by decide) (by decide) (by decide) mz_nl_n mz_nl_n mz_nl_n hIg6 (fun _ _ _ => rfl)
      · skip
        refine mm_g 4 (pc1 := 41) (lo1 := [some (.ref 0), some (.int (Int32.ofInt a1)), some (.int (Int32.ofInt v2)), some (.int (Int32.ofInt v4)), some (.int (Int32.ofInt v5)), none, none, none, none, none]) (st1 := [.int (Int32.ofInt v2), .int (Int32.ofInt v5), .ref 0, .int (Int32.ofInt v4)]) (H1 := mz_mk g6 x) rfl ?_
        refine mz_cv rfl mt_11_352 (by decide) (sc_0 _) rfl (Nat.le_of_ble_eq_true rfl) (by omega) (c_X11_looseStraps (by omega) hx hIg6 (by omega) (by omega) (by omega) (by omega) (fun v31 g32 hIg32 hfg32 l_v31 u_v31 => ⟨_, rfl, ?_⟩))
        show mm_W d mmX11_look 44 [some (.ref 0), some (.int (Int32.ofInt a1)), some (.int (Int32.ofInt v2)), some (.int (Int32.ofInt v4)), some (.int (Int32.ofInt v5)), none, none, none, none, none] [.int (Int32.ofInt v31), .int (Int32.ofInt v4)] (mz_mk g32 x) Q
        refine mz_cs rfl mt_11_358 (by decide) rfl (Nat.le_of_ble_eq_true rfl) (by omega) (c_J6_bitCount (by omega) hx hIg32 l_v31 u_v31 (fun v33 l_v33 u_v33 => ⟨_, rfl, ?_⟩))
        show mm_W d mmX11_look 47 [some (.ref 0), some (.int (Int32.ofInt a1)), some (.int (Int32.ofInt v2)), some (.int (Int32.ofInt v4)), some (.int (Int32.ofInt v5)), none, none, none, none, none] [.int (Int32.ofInt v33), .int (Int32.ofInt v4)] (mz_mk g32 x) Q
        refine mz_iadd_w rfl (fun v34 _ hwv34 => ?_)
        have l_v34 := hwv34.1
        have u_v34 := hwv34.2
        refine mm_g 1 (pc1 := 49) (lo1 := [some (.ref 0), some (.int (Int32.ofInt a1)), some (.int (Int32.ofInt v2)), some (.int (Int32.ofInt v34)), some (.int (Int32.ofInt v5)), none, none, none, none, none]) (st1 := []) (H1 := mz_mk g32 x) rfl ?_
        refine mz_iincR (v := v5) (lo2 := [some (.ref 0), some (.int (Int32.ofInt a1)), some (.int (Int32.ofInt v2)), some (.int (Int32.ofInt v34)), some (.int (Int32.ofInt (v5 + 1))), none, none, none, none, none]) rfl rfl rfl (Nat.le_of_ble_eq_true rfl) rfl ?_
        refine mz_gt (tgt := 27) rfl rfl ?_
        exact ih7 ((6 - (v5 + 1)).toNat) (by omega) v34 (v5 + 1) g32 rfl (by omega) (by omega) (by omega) (by omega) hIg32 (fun k j hk => ((hfg32 k j (fun h => hk (Or.elim h (fun h => (Or.inl h)) (fun h => (Or.elim h (fun h => (Or.inr (Or.inl h))) (fun h => (Or.inr (Or.inr h)))))))).trans (hfg6 k j (fun h => hk (Or.elim h (fun h => (Or.inl h)) (fun h => (Or.elim h (fun h => (Or.inr (Or.inl h))) (fun h => (Or.inr (Or.inr h))))))))))
    exact L9 _ 0 0 g3 rfl (by decide) (by decide) (by decide) (by decide) hIg3 (fun _ _ _ => rfl)
  · skip
    refine mm_g 2 (pc1 := 6) (lo1 := [some (.ref 0), some (.int (Int32.ofInt a1)), none, none, none, none, none, none, none, none]) (st1 := [.int (Int32.ofInt 1), .int (Int32.ofInt a1)]) (H1 := mz_mk g x) rfl ?_
    refine mz_ic_ne (tgt := 13) rfl rfl (mz_rg l_a1 u_a1) ⟨by decide, by decide⟩ (fun c6_34 => ?_) (fun c6_34 => ?_)
    · skip
      refine mm_g 1 (pc1 := 14) (lo1 := [some (.ref 0), some (.int (Int32.ofInt a1)), none, none, none, none, none, none, none, none]) (st1 := [.int (Int32.ofInt 0)]) (H1 := mz_mk g x) rfl ?_
      refine mz_csx rfl mt_11_183 rfl (Nat.le_of_ble_eq_true rfl) (by omega) rfl nh_X11_mustBe (c_X11_mustBe (by omega) hx hI (by decide) (by decide) (fun hp35 => ?_) (fun E => hX E))
      show mm_W d mmX11_look 17 [some (.ref 0), some (.int (Int32.ofInt a1)), none, none, none, none, none, none, none, none] [] (mz_mk g x) Q
      exfalso; omega
    · skip
      refine mm_g 1 (pc1 := 10) (lo1 := [some (.ref 0), some (.int (Int32.ofInt a1)), none, none, none, none, none, none, none, none]) (st1 := [.int (Int32.ofInt 1)]) (H1 := mz_mk g x) rfl ?_
      refine mz_gt (tgt := 14) rfl rfl ?_
      refine mz_csx rfl mt_11_183 rfl (Nat.le_of_ble_eq_true rfl) (by omega) rfl nh_X11_mustBe (c_X11_mustBe (by omega) hx hI (by decide) (by decide) (fun hp36 => ?_) (fun E => hX E))
      show mm_W d mmX11_look 17 [some (.ref 0), some (.int (Int32.ofInt a1)), none, none, none, none, none, none, none, none] [] (mz_mk g x) Q
      refine mm_g 1 (pc1 := 18) (lo1 := [some (.ref 0), some (.int (Int32.ofInt a1)), none, none, none, none, none, none, none, none]) (st1 := [.ref 0]) (H1 := mz_mk g x) rfl ?_
      refine mz_cv rfl mt_11_346 (by decide) (sc_0 _) rfl (Nat.le_of_ble_eq_true rfl) (by omega) (c_X11_fittingTrunks (by omega) hx hI (fun v37 g38 hIg38 hfg38 l_v37 u_v37 => ⟨_, rfl, ?_⟩))
      show mm_W d mmX11_look 21 [some (.ref 0), some (.int (Int32.ofInt a1)), none, none, none, none, none, none, none, none] [.int (Int32.ofInt v37)] (mz_mk g38 x) Q
      refine mm_g 5 (pc1 := 27) (lo1 := [some (.ref 0), some (.int (Int32.ofInt a1)), some (.int (Int32.ofInt v37)), some (.int (Int32.ofInt 0)), some (.int (Int32.ofInt 0)), none, none, none, none, none]) (st1 := []) (H1 := mz_mk g38 x) rfl ?_
      have L44 : ∀ n43 : Nat, ∀ (v39 : Int) (v40 : Int) (g41 : mz_G), (6 - v40).toNat = n43 → (-2147483648) ≤ v39 → v39 ≤ 2147483647 → 0 ≤ v40 → v40 ≤ 6 → mz_inv g41 → mz_fr (fl_X11_look_27 x a1) g38 g41 → mm_W d mmX11_look 27 [some (.ref 0), some (.int (Int32.ofInt a1)), some (.int (Int32.ofInt v37)), some (.int (Int32.ofInt v39)), some (.int (Int32.ofInt v40)), none, none, none, none, none] [] (mz_mk g41 x) Q := by
        intro n43
        induction n43 using Nat.strongRecOn with
        | ind n43 ih42 =>
        intro v39 v40 g41 hmn43 l_v39 u_v39 l_v40 u_v40 hIg41 hfg41
        refine mm_g 2 (pc1 := 30) (lo1 := [some (.ref 0), some (.int (Int32.ofInt a1)), some (.int (Int32.ofInt v37)), some (.int (Int32.ofInt v39)), some (.int (Int32.ofInt v40)), none, none, none, none, none]) (st1 := [.ref 0, .int (Int32.ofInt v40)]) (H1 := mz_mk g41 x) rfl ?_
        refine mz_cv rfl mt_11_155 (by decide) (sc_0 _) rfl (Nat.le_of_ble_eq_true rfl) (by omega) (c_X11_trunkCount (by omega) hx hIg41 (fun v45 l_v45 u_v45 => ⟨_, rfl, ?_⟩))
        show mm_W d mmX11_look 33 [some (.ref 0), some (.int (Int32.ofInt a1)), some (.int (Int32.ofInt v37)), some (.int (Int32.ofInt v39)), some (.int (Int32.ofInt v40)), none, none, none, none, none] [.int (Int32.ofInt v45), .int (Int32.ofInt v40)] (mz_mk g41 x) Q
        refine mz_ic_ge (tgt := 55) rfl rfl (mz_rg l_v40 u_v40) (mz_rg l_v45 u_v45) (fun c33_45 => ?_) (fun c33_45 => ?_)
        · skip
          refine mm_g 6 (pc1 := 64) (lo1 := [some (.ref 0), some (.int (Int32.ofInt a1)), some (.int (Int32.ofInt v37)), some (.int (Int32.ofInt v39)), some (.int (Int32.ofInt (-1))), some (.int (Int32.ofInt 0)), some (.int (Int32.ofInt 0)), none, none, none]) (st1 := []) (H1 := mz_mk g41 x) rfl ?_
          have L55 : ∀ n54 : Nat, ∀ (v46 : Int) (v47 : Int) (v48 : Int) (o49 : Option Value) (o50 : Option Value) (o51 : Option Value) (g52 : mz_G), (6 - v48).toNat = n54 → (-1) ≤ v46 → v46 ≤ 5 → 0 ≤ v47 → v47 ≤ 63 → 0 ≤ v48 → v48 ≤ 6 → mz_nl o49 → mz_nl o50 → mz_nl o51 → mz_inv g52 → mz_fr (fl_X11_look_64 x a1) g41 g52 → mm_W d mmX11_look 64 [some (.ref 0), some (.int (Int32.ofInt a1)), some (.int (Int32.ofInt v37)), some (.int (Int32.ofInt v39)), some (.int (Int32.ofInt v46)), some (.int (Int32.ofInt v47)), some (.int (Int32.ofInt v48)), o49, o50, o51] [] (mz_mk g52 x) Q := by
            intro n54
            induction n54 using Nat.strongRecOn with
            | ind n54 ih53 =>
            intro v46 v47 v48 o49 o50 o51 g52 hmn54 l_v46 u_v46 l_v47 u_v47 l_v48 u_v48 h_o49 h_o50 h_o51 hIg52 hfg52
            refine mm_g 2 (pc1 := 67) (lo1 := [some (.ref 0), some (.int (Int32.ofInt a1)), some (.int (Int32.ofInt v37)), some (.int (Int32.ofInt v39)), some (.int (Int32.ofInt v46)), some (.int (Int32.ofInt v47)), some (.int (Int32.ofInt v48)), o49, o50, o51]) (st1 := [.ref 0, .int (Int32.ofInt v48)]) (H1 := mz_mk g52 x) rfl ?_
            refine mz_cv rfl mt_11_155 (by decide) (sc_0 _) rfl (Nat.le_of_ble_eq_true rfl) (by omega) (c_X11_trunkCount (by omega) hx hIg52 (fun v56 l_v56 u_v56 => ⟨_, rfl, ?_⟩))
            show mm_W d mmX11_look 70 [some (.ref 0), some (.int (Int32.ofInt a1)), some (.int (Int32.ofInt v37)), some (.int (Int32.ofInt v39)), some (.int (Int32.ofInt v46)), some (.int (Int32.ofInt v47)), some (.int (Int32.ofInt v48)), o49, o50, o51] [.int (Int32.ofInt v56), .int (Int32.ofInt v48)] (mz_mk g52 x) Q
            refine mz_ic_ge (tgt := 134) rfl rfl (mz_rg l_v48 u_v48) (mz_rg l_v56 u_v56) (fun c70_56 => ?_) (fun c70_56 => ?_)
            · skip
              refine mm_g 1 (pc1 := 135) (lo1 := [some (.ref 0), some (.int (Int32.ofInt a1)), some (.int (Int32.ofInt v37)), some (.int (Int32.ofInt v39)), some (.int (Int32.ofInt v46)), some (.int (Int32.ofInt v47)), some (.int (Int32.ofInt v48)), o49, o50, o51]) (st1 := [.int (Int32.ofInt a1)]) (H1 := mz_mk g52 x) rfl ?_
              refine mz_if_ne (tgt := 143) rfl rfl (mz_rg l_a1 u_a1) (fun c135_56 => ?_) (fun c135_56 => ?_)
              · skip
                refine mm_g 1 (pc1 := 145) (lo1 := [some (.ref 0), some (.int (Int32.ofInt a1)), some (.int (Int32.ofInt v37)), some (.int (Int32.ofInt v39)), some (.int (Int32.ofInt v46)), some (.int (Int32.ofInt v47)), some (.int (Int32.ofInt v48)), o49, o50, o51]) (st1 := [.int (Int32.ofInt v47)]) (H1 := mz_mk g52 x) rfl ?_
                exact mm_rt rfl rfl (hQ _ _ hIg52 (fun k j hk => ((hfg52 k j (fun h => hk (Or.elim h (fun h => (Or.inl h)) (fun h => (Or.elim h (fun h => (Or.inr (Or.inl h))) (fun h => (Or.inr (Or.inr h)))))))).trans ((hfg41 k j (fun h => hk (Or.elim h (fun h => (Or.inl h)) (fun h => (Or.elim h (fun h => (Or.inr (Or.inl h))) (fun h => (Or.inr (Or.inr h)))))))).trans (hfg38 k j (fun h => hk (Or.elim h (fun h => (Or.inl h)) (fun h => (Or.elim h (fun h => (Or.inr (Or.inl h))) (fun h => (Or.inr (Or.inr h))))))))))) (by omega) (by omega))
              · exfalso; omega
            · skip
              refine mm_g 3 (pc1 := 77) (lo1 := [some (.ref 0), some (.int (Int32.ofInt a1)), some (.int (Int32.ofInt v37)), some (.int (Int32.ofInt v39)), some (.int (Int32.ofInt v46)), some (.int (Int32.ofInt v47)), some (.int (Int32.ofInt v48)), o49, o50, o51]) (st1 := [.int (Int32.ofInt v37), .int (Int32.ofInt v48), .ref 0]) (H1 := mz_mk g52 x) rfl ?_
              refine mz_cv rfl mt_11_352 (by decide) (sc_0 _) rfl (Nat.le_of_ble_eq_true rfl) (by omega) (c_X11_looseStraps (by omega) hx hIg52 (by omega) (by omega) (by omega) (by omega) (fun v57 g58 hIg58 hfg58 l_v57 u_v57 => ⟨_, rfl, ?_⟩))
              show mm_W d mmX11_look 80 [some (.ref 0), some (.int (Int32.ofInt a1)), some (.int (Int32.ofInt v37)), some (.int (Int32.ofInt v39)), some (.int (Int32.ofInt v46)), some (.int (Int32.ofInt v47)), some (.int (Int32.ofInt v48)), o49, o50, o51] [.int (Int32.ofInt v57)] (mz_mk g58 x) Q
              refine mm_g 3 (pc1 := 85) (lo1 := [some (.ref 0), some (.int (Int32.ofInt a1)), some (.int (Int32.ofInt v37)), some (.int (Int32.ofInt v39)), some (.int (Int32.ofInt v46)), some (.int (Int32.ofInt v47)), some (.int (Int32.ofInt v48)), some (.int (Int32.ofInt v57)), o50, o51]) (st1 := [.int (Int32.ofInt v57), .int (Int32.ofInt v39)]) (H1 := mz_mk g58 x) rfl ?_
              refine mz_cs rfl mt_11_358 (by decide) rfl (Nat.le_of_ble_eq_true rfl) (by omega) (c_J6_bitCount (by omega) hx hIg58 l_v57 u_v57 (fun v59 l_v59 u_v59 => ⟨_, rfl, ?_⟩))
              show mm_W d mmX11_look 88 [some (.ref 0), some (.int (Int32.ofInt a1)), some (.int (Int32.ofInt v37)), some (.int (Int32.ofInt v39)), some (.int (Int32.ofInt v46)), some (.int (Int32.ofInt v47)), some (.int (Int32.ofInt v48)), some (.int (Int32.ofInt v57)), o50, o51] [.int (Int32.ofInt v59), .int (Int32.ofInt v39)] (mz_mk g58 x) Q
              refine mz_ic_le (tgt := 95) rfl rfl (mz_rg l_v39 u_v39) (mz_rg l_v59 u_v59) (fun c88_59 => ?_) (fun c88_59 => ?_)
              · skip
                refine mm_g 6 (pc1 := 105) (lo1 := [some (.ref 0), some (.int (Int32.ofInt a1)), some (.int (Int32.ofInt v37)), some (.int (Int32.ofInt v39)), some (.int (Int32.ofInt v46)), some (.int (Int32.ofInt v47)), some (.int (Int32.ofInt v48)), some (.int (Int32.ofInt v57)), some (.int (Int32.ofInt 0)), o51]) (st1 := [.int (Int32.ofInt 0), .int (Int32.ofInt v57), .int (Int32.ofInt v48), .ref 0]) (H1 := mz_mk g58 x) rfl ?_
                refine mz_cv rfl mt_11_363 (by decide) (sc_0 _) rfl (Nat.le_of_ble_eq_true rfl) (by omega) (c_X11_unlikeNumbers (by omega) hx hIg58 (by omega) (by omega) l_v57 u_v57 (by decide) (by decide) (fun v60 g61 hIg61 hfg61 l_v60 u_v60 => ⟨_, rfl, ?_⟩))
                show mm_W d mmX11_look 108 [some (.ref 0), some (.int (Int32.ofInt a1)), some (.int (Int32.ofInt v37)), some (.int (Int32.ofInt v39)), some (.int (Int32.ofInt v46)), some (.int (Int32.ofInt v47)), some (.int (Int32.ofInt v48)), some (.int (Int32.ofInt v57)), some (.int (Int32.ofInt 0)), o51] [.int (Int32.ofInt v60)] (mz_mk g61 x) Q
                refine mz_cs rfl mt_11_358 (by decide) rfl (Nat.le_of_ble_eq_true rfl) (by omega) (c_J6_bitCount (by omega) hx hIg61 l_v60 u_v60 (fun v62 l_v62 u_v62 => ⟨_, rfl, ?_⟩))
                show mm_W d mmX11_look 111 [some (.ref 0), some (.int (Int32.ofInt a1)), some (.int (Int32.ofInt v37)), some (.int (Int32.ofInt v39)), some (.int (Int32.ofInt v46)), some (.int (Int32.ofInt v47)), some (.int (Int32.ofInt v48)), some (.int (Int32.ofInt v57)), some (.int (Int32.ofInt 0)), o51] [.int (Int32.ofInt v62)] (mz_mk g61 x) Q
                refine mm_g 3 (pc1 := 117) (lo1 := [some (.ref 0), some (.int (Int32.ofInt a1)), some (.int (Int32.ofInt v37)), some (.int (Int32.ofInt v39)), some (.int (Int32.ofInt v46)), some (.int (Int32.ofInt v47)), some (.int (Int32.ofInt v48)), some (.int (Int32.ofInt v57)), some (.int (Int32.ofInt 0)), some (.int (Int32.ofInt v62))]) (st1 := [.int (Int32.ofInt v47), .int (Int32.ofInt v62)]) (H1 := mz_mk g61 x) rfl ?_
                refine mz_ic_le (tgt := 128) rfl rfl (mz_rg l_v62 u_v62) (mz_rg l_v47 u_v47) (fun c117_62 => ?_) (fun c117_62 => ?_)
                · skip
                  refine mz_iincR (v := v48) (lo2 := [some (.ref 0), some (.int (Int32.ofInt a1)), some (.int (Int32.ofInt v37)), some (.int (Int32.ofInt v39)), some (.int (Int32.ofInt v46)), some (.int (Int32.ofInt v47)), some (.int (Int32.ofInt (v48 + 1))), some (.int (Int32.ofInt v57)), some (.int (Int32.ofInt 0)), some (.int (Int32.ofInt v62))]) rfl rfl rfl (Nat.le_of_ble_eq_true rfl) rfl ?_
                  refine mz_gt (tgt := 64) rfl rfl ?_
                  exact ih53 ((6 - (v48 + 1)).toNat) (by omega) v46 v47 (v48 + 1) (some (.int (Int32.ofInt v57))) (some (.int (Int32.ofInt 0))) (some (.int (Int32.ofInt v62))) g61 rfl (by omega) (by omega) (by omega) (by omega) (by omega) (by omega) (mz_nl_i _) (mz_nl_i _) (mz_nl_i _) hIg61 (fun k j hk => ((hfg61 k j (fun h => hk (Or.elim h (fun h => (Or.inl h)) (fun h => (Or.elim h (fun h => (Or.inr (Or.inl h))) (fun h => (Or.inr (Or.inr h)))))))).trans ((hfg58 k j (fun h => hk (Or.elim h (fun h => (Or.inl h)) (fun h => (Or.elim h (fun h => (Or.inr (Or.inl h))) (fun h => (Or.inr (Or.inr h)))))))).trans (hfg52 k j (fun h => hk (Or.elim h (fun h => (Or.inl h)) (fun h => (Or.elim h (fun h => (Or.inr (Or.inl h))) (fun h => (Or.inr (Or.inr h)))))))))))
                · skip
                  refine mm_g 4 (pc1 := 128) (lo1 := [some (.ref 0), some (.int (Int32.ofInt a1)), some (.int (Int32.ofInt v37)), some (.int (Int32.ofInt v39)), some (.int (Int32.ofInt v48)), some (.int (Int32.ofInt v62)), some (.int (Int32.ofInt v48)), some (.int (Int32.ofInt v57)), some (.int (Int32.ofInt 0)), some (.int (Int32.ofInt v62))]) (st1 := []) (H1 := mz_mk g61 x) rfl ?_
                  refine mz_iincR (v := v48) (lo2 := [some (.ref 0), some (.int (Int32.ofInt a1)), some (.int (Int32.ofInt v37)), some (.int (Int32.ofInt v39)), some (.int (Int32.ofInt v48)), some (.int (Int32.ofInt v62)), some (.int (Int32.ofInt (v48 + 1))), some (.int (Int32.ofInt v57)), some (.int (Int32.ofInt 0)), some (.int (Int32.ofInt v62))]) rfl rfl rfl (Nat.le_of_ble_eq_true rfl) rfl ?_
                  refine mz_gt (tgt := 64) rfl rfl ?_
                  exact ih53 ((6 - (v48 + 1)).toNat) (by omega) v48 v62 (v48 + 1) (some (.int (Int32.ofInt v57))) (some (.int (Int32.ofInt 0))) (some (.int (Int32.ofInt v62))) g61 rfl (by omega) (by omega) (by omega) (by omega) (by omega) (by omega) (mz_nl_i _) (mz_nl_i _) (mz_nl_i _) hIg61 (fun k j hk => ((hfg61 k j (fun h => hk (Or.elim h (fun h => (Or.inl h)) (fun h => (Or.elim h (fun h => (Or.inr (Or.inl h))) (fun h => (Or.inr (Or.inr h)))))))).trans ((hfg58 k j (fun h => hk (Or.elim h (fun h => (Or.inl h)) (fun h => (Or.elim h (fun h => (Or.inr (Or.inl h))) (fun h => (Or.inr (Or.inr h)))))))).trans (hfg52 k j (fun h => hk (Or.elim h (fun h => (Or.inl h)) (fun h => (Or.elim h (fun h => (Or.inr (Or.inl h))) (fun h => (Or.inr (Or.inr h)))))))))))
              · skip
                refine mm_g 1 (pc1 := 92) (lo1 := [some (.ref 0), some (.int (Int32.ofInt a1)), some (.int (Int32.ofInt v37)), some (.int (Int32.ofInt v39)), some (.int (Int32.ofInt v46)), some (.int (Int32.ofInt v47)), some (.int (Int32.ofInt v48)), some (.int (Int32.ofInt v57)), o50, o51]) (st1 := [.int (Int32.ofInt 1)]) (H1 := mz_mk g58 x) rfl ?_
                refine mz_gt (tgt := 96) rfl rfl ?_
                refine mm_g 5 (pc1 := 105) (lo1 := [some (.ref 0), some (.int (Int32.ofInt a1)), some (.int (Int32.ofInt v37)), some (.int (Int32.ofInt v39)), some (.int (Int32.ofInt v46)), some (.int (Int32.ofInt v47)), some (.int (Int32.ofInt v48)), some (.int (Int32.ofInt v57)), some (.int (Int32.ofInt 1)), o51]) (st1 := [.int (Int32.ofInt 1), .int (Int32.ofInt v57), .int (Int32.ofInt v48), .ref 0]) (H1 := mz_mk g58 x) rfl ?_
                refine mz_cv rfl mt_11_363 (by decide) (sc_0 _) rfl (Nat.le_of_ble_eq_true rfl) (by omega) (c_X11_unlikeNumbers (by omega) hx hIg58 (by omega) (by omega) l_v57 u_v57 (by decide) (by decide) (fun v63 g64 hIg64 hfg64 l_v63 u_v63 => ⟨_, rfl, ?_⟩))
                show mm_W d mmX11_look 108 [some (.ref 0), some (.int (Int32.ofInt a1)), some (.int (Int32.ofInt v37)), some (.int (Int32.ofInt v39)), some (.int (Int32.ofInt v46)), some (.int (Int32.ofInt v47)), some (.int (Int32.ofInt v48)), some (.int (Int32.ofInt v57)), some (.int (Int32.ofInt 1)), o51] [.int (Int32.ofInt v63)] (mz_mk g64 x) Q
                refine mz_cs rfl mt_11_358 (by decide) rfl (Nat.le_of_ble_eq_true rfl) (by omega) (c_J6_bitCount (by omega) hx hIg64 l_v63 u_v63 (fun v65 l_v65 u_v65 => ⟨_, rfl, ?_⟩))
                show mm_W d mmX11_look 111 [some (.ref 0), some (.int (Int32.ofInt a1)), some (.int (Int32.ofInt v37)), some (.int (Int32.ofInt v39)), some (.int (Int32.ofInt v46)), some (.int (Int32.ofInt v47)), some (.int (Int32.ofInt v48)), some (.int (Int32.ofInt v57)), some (.int (Int32.ofInt 1)), o51] [.int (Int32.ofInt v65)] (mz_mk g64 x) Q
                refine mm_g 3 (pc1 := 117) (lo1 := [some (.ref 0), some (.int (Int32.ofInt a1)), some (.int (Int32.ofInt v37)), some (.int (Int32.ofInt v39)), some (.int (Int32.ofInt v46)), some (.int (Int32.ofInt v47)), some (.int (Int32.ofInt v48)), some (.int (Int32.ofInt v57)), some (.int (Int32.ofInt 1)), some (.int (Int32.ofInt v65))]) (st1 := [.int (Int32.ofInt v47), .int (Int32.ofInt v65)]) (H1 := mz_mk g64 x) rfl ?_
                refine mz_ic_le (tgt := 128) rfl rfl (mz_rg l_v65 u_v65) (mz_rg l_v47 u_v47) (fun c117_65 => ?_) (fun c117_65 => ?_)
                · skip
                  refine mz_iincR (v := v48) (lo2 := [some (.ref 0), some (.int (Int32.ofInt a1)), some (.int (Int32.ofInt v37)), some (.int (Int32.ofInt v39)), some (.int (Int32.ofInt v46)), some (.int (Int32.ofInt v47)), some (.int (Int32.ofInt (v48 + 1))), some (.int (Int32.ofInt v57)), some (.int (Int32.ofInt 1)), some (.int (Int32.ofInt v65))]) rfl rfl rfl (Nat.le_of_ble_eq_true rfl) rfl ?_
                  refine mz_gt (tgt := 64) rfl rfl ?_
                  exact ih53 ((6 - (v48 + 1)).toNat) (by omega) v46 v47 (v48 + 1) (some (.int (Int32.ofInt v57))) (some (.int (Int32.ofInt 1))) (some (.int (Int32.ofInt v65))) g64 rfl (by omega) (by omega) (by omega) (by omega) (by omega) (by omega) (mz_nl_i _) (mz_nl_i _) (mz_nl_i _) hIg64 (fun k j hk => ((hfg64 k j (fun h => hk (Or.elim h (fun h => (Or.inl h)) (fun h => (Or.elim h (fun h => (Or.inr (Or.inl h))) (fun h => (Or.inr (Or.inr h)))))))).trans ((hfg58 k j (fun h => hk (Or.elim h (fun h => (Or.inl h)) (fun h => (Or.elim h (fun h => (Or.inr (Or.inl h))) (fun h => (Or.inr (Or.inr h)))))))).trans (hfg52 k j (fun h => hk (Or.elim h (fun h => (Or.inl h)) (fun h => (Or.elim h (fun h => (Or.inr (Or.inl h))) (fun h => (Or.inr (Or.inr h)))))))))))
                · skip
                  refine mm_g 4 (pc1 := 128) (lo1 := [some (.ref 0), some (.int (Int32.ofInt a1)), some (.int (Int32.ofInt v37)), some (.int (Int32.ofInt v39)), some (.int (Int32.ofInt v48)), some (.int (Int32.ofInt v65)), some (.int (Int32.ofInt v48)), some (.int (Int32.ofInt v57)), some (.int (Int32.ofInt 1)), some (.int (Int32.ofInt v65))]) (st1 := []) (H1 := mz_mk g64 x) rfl ?_
                  refine mz_iincR (v := v48) (lo2 := [some (.ref 0), some (.int (Int32.ofInt a1)), some (.int (Int32.ofInt v37)), some (.int (Int32.ofInt v39)), some (.int (Int32.ofInt v48)), some (.int (Int32.ofInt v65)), some (.int (Int32.ofInt (v48 + 1))), some (.int (Int32.ofInt v57)), some (.int (Int32.ofInt 1)), some (.int (Int32.ofInt v65))]) rfl rfl rfl (Nat.le_of_ble_eq_true rfl) rfl ?_
                  refine mz_gt (tgt := 64) rfl rfl ?_
                  exact ih53 ((6 - (v48 + 1)).toNat) (by omega) v48 v65 (v48 + 1) (some (.int (Int32.ofInt v57))) (some (.int (Int32.ofInt 1))) (some (.int (Int32.ofInt v65))) g64 rfl (by omega) (by omega) (by omega) (by omega) (by omega) (by omega) (mz_nl_i _) (mz_nl_i _) (mz_nl_i _) hIg64 (fun k j hk => ((hfg64 k j (fun h => hk (Or.elim h (fun h => (Or.inl h)) (fun h => (Or.elim h (fun h => (Or.inr (Or.inl h))) (fun h => (Or.inr (Or.inr h)))))))).trans ((hfg58 k j (fun h => hk (Or.elim h (fun h => (Or.inl h)) (fun h => (Or.elim h (fun h => (Or.inr (Or.inl h))) (fun h => (Or.inr (Or.inr h)))))))).trans (hfg52 k j (fun h => hk (Or.elim h (fun h => (Or.inl h)) (fun h => (Or.elim h (fun h => (Or.inr (Or.inl h))) (fun h => (Or.inr (Or.inr h)))))))))))
          exact L55 _ (-1) 0 0 none none none g41 rfl (by decide) (by decide) (by decide) (by decide) (by decide) (by decide) mz_nl_n mz_nl_n mz_nl_n hIg41 (fun _ _ _ => rfl)
        · skip
          refine mm_g 4 (pc1 := 41) (lo1 := [some (.ref 0), some (.int (Int32.ofInt a1)), some (.int (Int32.ofInt v37)), some (.int (Int32.ofInt v39)), some (.int (Int32.ofInt v40)), none, none, none, none, none]) (st1 := [.int (Int32.ofInt v37), .int (Int32.ofInt v40), .ref 0, .int (Int32.ofInt v39)]) (H1 := mz_mk g41 x) rfl ?_
          refine mz_cv rfl mt_11_352 (by decide) (sc_0 _) rfl (Nat.le_of_ble_eq_true rfl) (by omega) (c_X11_looseStraps (by omega) hx hIg41 (by omega) (by omega) (by omega) (by omega) (fun v66 g67 hIg67 hfg67 l_v66 u_v66 => ⟨_, rfl, ?_⟩))
          show mm_W d mmX11_look 44 [some (.ref 0), some (.int (Int32.ofInt a1)), some (.int (Int32.ofInt v37)), some (.int (Int32.ofInt v39)), some (.int (Int32.ofInt v40)), none, none, none, none, none] [.int (Int32.ofInt v66), .int (Int32.ofInt v39)] (mz_mk g67 x) Q
          refine mz_cs rfl mt_11_358 (by decide) rfl (Nat.le_of_ble_eq_true rfl) (by omega) (c_J6_bitCount (by omega) hx hIg67 l_v66 u_v66 (fun v68 l_v68 u_v68 => ⟨_, rfl, ?_⟩))
          show mm_W d mmX11_look 47 [some (.ref 0), some (.int (Int32.ofInt a1)), some (.int (Int32.ofInt v37)), some (.int (Int32.ofInt v39)), some (.int (Int32.ofInt v40)), none, none, none, none, none] [.int (Int32.ofInt v68), .int (Int32.ofInt v39)] (mz_mk g67 x) Q
          refine mz_iadd_w rfl (fun v69 _ hwv69 => ?_)
          have l_v69 := hwv69.1
          have u_v69 := hwv69.2
          refine mm_g 1 (pc1 := 49) (lo1 := [some (.ref 0), some (.int (Int32.ofInt a1)), some (.int (Int32.ofInt v37)), some (.int (Int32.ofInt v69)), some (.int (Int32.ofInt v40)), none, none, none, none, none]) (st1 := []) (H1 := mz_mk g67 x) rfl ?_
          refine mz_iincR (v := v40) (lo2 := [some (.ref 0), some (.int (Int32.ofInt a1)), some (.int (Int32.ofInt v37)), some (.int (Int32.ofInt v69)), some (.int (Int32.ofInt (v40 + 1))), none, none, none, none, none]) rfl rfl rfl (Nat.le_of_ble_eq_true rfl) rfl ?_
          refine mz_gt (tgt := 27) rfl rfl ?_
          exact ih42 ((6 - (v40 + 1)).toNat) (by omega) v69 (v40 + 1) g67 rfl (by omega) (by omega) (by omega) (by omega) hIg67 (fun k j hk => ((hfg67 k j (fun h => hk (Or.elim h (fun h => (Or.inl h)) (fun h => (Or.elim h (fun h => (Or.inr (Or.inl h))) (fun h => (Or.inr (Or.inr h)))))))).trans (hfg41 k j (fun h => hk (Or.elim h (fun h => (Or.inl h)) (fun h => (Or.elim h (fun h => (Or.inr (Or.inl h))) (fun h => (Or.inr (Or.inr h))))))))))
      exact L44 _ 0 0 g38 rfl (by decide) (by decide) (by decide) (by decide) hIg38 (fun _ _ _ => rfl)
def fw_X6_forgetSeen (x : mm_X) (q0 : Nat) : Nat → Nat → Prop := fun k j => k = q0
theorem c_X6_forgetSeen {d : Nat} (hd : 1 ≤ d) {x : mm_X} (hx : mk_x x) {g : mz_G} (hI : mz_inv g) {q0 : Nat} (h_q0 : kd_story q0) {Q : (Option Value ⊕ Nat) → mm_H → Prop} (hQ : ∀ (g1 : mz_G), mz_inv g1 → mz_fr (fw_X6_forgetSeen x q0) g g1 → Q (.inl none) (mz_mk g1 x)) : mm_C d 75 [.ref q0] (mz_mk g x) Q := by
  have kn_q0 := kn_story h_q0
  refine ⟨mmX6_forgetSeen, [some (.ref q0)], rfl, rfl, ?_⟩
  refine mm_g 2 (pc1 := 2) (lo1 := [some (.ref q0)]) (st1 := [.int (Int32.ofInt 0), .ref q0]) (H1 := mz_mk g x) rfl ?_
  refine mz_pI rfl fd_6_38 (kc_story h_q0 _) hI (kb_story_7 h_q0) (by omega) (by omega) (fun g1 hIg1 hug1 => ?_)
  exact mm_rt rfl rfl (hQ _ hIg1 (fun k j hk => (hug1.2 k j (fun h => hk h.1))))
def fw_X11_forget (x : mm_X) : Nat → Nat → Prop := fun k j => k = 86
theorem c_X11_forget {d : Nat} (hd : 2 ≤ d) {x : mm_X} (hx : mk_x x) {g : mz_G} (hI : mz_inv g) {Q : (Option Value ⊕ Nat) → mm_H → Prop} (hQ : ∀ (g1 : mz_G), mz_inv g1 → mz_fr (fw_X11_forget x) g g1 → Q (.inl none) (mz_mk g1 x)) : mm_C d 157 [.ref 0] (mz_mk g x) Q := by
  have kx := kn_x hx
  refine ⟨mmX11_forget, [some (.ref 0)], rfl, rfl, ?_⟩
  refine mm_g 1 (pc1 := 1) (lo1 := [some (.ref 0)]) (st1 := [.ref 0]) (H1 := mz_mk g x) rfl ?_
  refine mz_fgR (v := 86) rfl fd_11_37 (by decide) (sc_0 _) (rf_0_5 _ _ _) ?_
  refine mz_cv rfl mt_11_367 (by decide) (sc_86 _) rfl (Nat.le_of_ble_eq_true rfl) (by omega) (c_X6_forgetSeen (by omega) hx hI kp_story_86 (fun g1 hIg1 hfg1 => ⟨_, rfl, ?_⟩))
  show mm_W d mmX11_forget 7 [some (.ref 0)] [] (mz_mk g1 x) Q
  exact mm_rt rfl rfl (hQ _ hIg1 (fun k j hk => (hfg1 k j (fun h => hk h))))
def fl_X11_seasons_42 (x : mm_X) (a1 : Int) (a2 : Int) (a3 : Int) : Nat → Nat → Prop := fun k j => k = 122 ∨ k = ((x.1 + 36) + 2) ∨ k = ((x.1 + 36) + 3)
def fl_X11_seasons_74 (x : mm_X) (a1 : Int) (a2 : Int) (a3 : Int) : Nat → Nat → Prop := fun k j => k = 122 ∨ k = ((x.1 + 36) + 2) ∨ k = ((x.1 + 36) + 3)
def fw_X11_seasons (x : mm_X) (a1 : Int) (a2 : Int) (a3 : Int) : Nat → Nat → Prop := fun k j => k = 122 ∨ k = ((x.1 + 36) + 2) ∨ k = ((x.1 + 36) + 3)
theorem c_X11_seasons {d : Nat} (hd : 14 ≤ d) {x : mm_X} (hx : mk_x x) {g : mz_G} (hI : mz_inv g) {a1 : Int} (l_a1 : (-2147483648) ≤ a1) (u_a1 : a1 ≤ 2147483647) {a2 : Int} (l_a2 : (-2147483648) ≤ a2) (u_a2 : a2 ≤ 2147483647) {a3 : Int} (l_a3 : (-2147483648) ≤ a3) (u_a3 : a3 ≤ 2147483647) {Q : (Option Value ⊕ Nat) → mm_H → Prop} (hQ : ∀ (r : Int) (g1 : mz_G), mz_inv g1 → mz_fr (fw_X11_seasons x a1 a2 a3) g g1 → (-2147483648) ≤ r → r ≤ 2147483647 → Q (.inl (some (.int (Int32.ofInt r)))) (mz_mk g1 x)) (hX : ∀ E, Q (.inr E) (mz_mk g (mz_tx x))) : mm_C d 163 [.ref 0, .int (Int32.ofInt a1), .int (Int32.ofInt a2), .int (Int32.ofInt a3)] (mz_mk g x) Q := by
  have kx := kn_x hx
  refine ⟨mmX11_seasons, [some (.ref 0), some (.int (Int32.ofInt a1)), some (.int (Int32.ofInt a2)), some (.int (Int32.ofInt a3)), none, none, none, none, none], rfl, rfl, ?_⟩
  refine mm_g 2 (pc1 := 2) (lo1 := [some (.ref 0), some (.int (Int32.ofInt a1)), some (.int (Int32.ofInt a2)), some (.int (Int32.ofInt a3)), none, none, none, none, none]) (st1 := [.int (Int32.ofInt a1), .ref 0]) (H1 := mz_mk g x) rfl ?_
  refine mz_cv rfl mt_11_231 (by decide) (sc_0 _) rfl (Nat.le_of_ble_eq_true rfl) (by omega) (c_X11_isTrunk (by omega) hx hI l_a1 u_a1 (fun v1 l_v1 u_v1 => ⟨_, rfl, ?_⟩))
  show mm_W d mmX11_seasons 5 [some (.ref 0), some (.int (Int32.ofInt a1)), some (.int (Int32.ofInt a2)), some (.int (Int32.ofInt a3)), none, none, none, none, none] [.int (Int32.ofInt v1)] (mz_mk g x) Q
  refine mz_csx rfl mt_11_183 rfl (Nat.le_of_ble_eq_true rfl) (by omega) rfl nh_X11_mustBe (c_X11_mustBe (by omega) hx hI l_v1 u_v1 (fun hp2 => ?_) (fun E => hX E))
  show mm_W d mmX11_seasons 8 [some (.ref 0), some (.int (Int32.ofInt a1)), some (.int (Int32.ofInt a2)), some (.int (Int32.ofInt a3)), none, none, none, none, none] [] (mz_mk g x) Q
  refine mm_g 2 (pc1 := 10) (lo1 := [some (.ref 0), some (.int (Int32.ofInt a1)), some (.int (Int32.ofInt a2)), some (.int (Int32.ofInt a3)), none, none, none, none, none]) (st1 := [.int (Int32.ofInt 1), .int (Int32.ofInt a2)]) (H1 := mz_mk g x) rfl ?_
  refine mz_ic_lt (tgt := 32) rfl rfl (mz_rg l_a2 u_a2) ⟨by decide, by decide⟩ (fun c10_2 => ?_) (fun c10_2 => ?_)
  · skip
    refine mm_g 1 (pc1 := 33) (lo1 := [some (.ref 0), some (.int (Int32.ofInt a1)), some (.int (Int32.ofInt a2)), some (.int (Int32.ofInt a3)), none, none, none, none, none]) (st1 := [.int (Int32.ofInt 0)]) (H1 := mz_mk g x) rfl ?_
    refine mz_csx rfl mt_11_106 rfl (Nat.le_of_ble_eq_true rfl) (by omega) rfl nh_X11_mustFit (c_X11_mustFit (by omega) hx hI (by decide) (by decide) (fun hp3 => ?_) (fun E => hX E))
    show mm_W d mmX11_seasons 36 [some (.ref 0), some (.int (Int32.ofInt a1)), some (.int (Int32.ofInt a2)), some (.int (Int32.ofInt a3)), none, none, none, none, none] [] (mz_mk g x) Q
    exfalso; omega
  · skip
    refine mm_g 2 (pc1 := 15) (lo1 := [some (.ref 0), some (.int (Int32.ofInt a1)), some (.int (Int32.ofInt a2)), some (.int (Int32.ofInt a3)), none, none, none, none, none]) (st1 := [.int (Int32.ofInt 5), .int (Int32.ofInt a2)]) (H1 := mz_mk g x) rfl ?_
    refine mz_ic_gt (tgt := 32) rfl rfl (mz_rg l_a2 u_a2) ⟨by decide, by decide⟩ (fun c15_3 => ?_) (fun c15_3 => ?_)
    · skip
      refine mm_g 1 (pc1 := 33) (lo1 := [some (.ref 0), some (.int (Int32.ofInt a1)), some (.int (Int32.ofInt a2)), some (.int (Int32.ofInt a3)), none, none, none, none, none]) (st1 := [.int (Int32.ofInt 0)]) (H1 := mz_mk g x) rfl ?_
      refine mz_csx rfl mt_11_106 rfl (Nat.le_of_ble_eq_true rfl) (by omega) rfl nh_X11_mustFit (c_X11_mustFit (by omega) hx hI (by decide) (by decide) (fun hp4 => ?_) (fun E => hX E))
      show mm_W d mmX11_seasons 36 [some (.ref 0), some (.int (Int32.ofInt a1)), some (.int (Int32.ofInt a2)), some (.int (Int32.ofInt a3)), none, none, none, none, none] [] (mz_mk g x) Q
      exfalso; omega
    · skip
      refine mm_g 1 (pc1 := 19) (lo1 := [some (.ref 0), some (.int (Int32.ofInt a1)), some (.int (Int32.ofInt a2)), some (.int (Int32.ofInt a3)), none, none, none, none, none]) (st1 := [.int (Int32.ofInt a3)]) (H1 := mz_mk g x) rfl ?_
      refine mz_if_lt (tgt := 32) rfl rfl (mz_rg l_a3 u_a3) (fun c19_4 => ?_) (fun c19_4 => ?_)
      · skip
        refine mm_g 1 (pc1 := 33) (lo1 := [some (.ref 0), some (.int (Int32.ofInt a1)), some (.int (Int32.ofInt a2)), some (.int (Int32.ofInt a3)), none, none, none, none, none]) (st1 := [.int (Int32.ofInt 0)]) (H1 := mz_mk g x) rfl ?_
        refine mz_csx rfl mt_11_106 rfl (Nat.le_of_ble_eq_true rfl) (by omega) rfl nh_X11_mustFit (c_X11_mustFit (by omega) hx hI (by decide) (by decide) (fun hp5 => ?_) (fun E => hX E))
        show mm_W d mmX11_seasons 36 [some (.ref 0), some (.int (Int32.ofInt a1)), some (.int (Int32.ofInt a2)), some (.int (Int32.ofInt a3)), none, none, none, none, none] [] (mz_mk g x) Q
        exfalso; omega
      · skip
        refine mm_g 1 (pc1 := 23) (lo1 := [some (.ref 0), some (.int (Int32.ofInt a1)), some (.int (Int32.ofInt a2)), some (.int (Int32.ofInt a3)), none, none, none, none, none]) (st1 := [.int (Int32.ofInt a3)]) (H1 := mz_mk g x) rfl ?_
        refine mz_bip rfl bip_10 ?_
        refine mz_ic_gt (tgt := 32) rfl rfl (mz_rg l_a3 u_a3) ⟨by decide, by decide⟩ (fun c25_5 => ?_) (fun c25_5 => ?_)
        · skip
          refine mm_g 1 (pc1 := 33) (lo1 := [some (.ref 0), some (.int (Int32.ofInt a1)), some (.int (Int32.ofInt a2)), some (.int (Int32.ofInt a3)), none, none, none, none, none]) (st1 := [.int (Int32.ofInt 0)]) (H1 := mz_mk g x) rfl ?_
          refine mz_csx rfl mt_11_106 rfl (Nat.le_of_ble_eq_true rfl) (by omega) rfl nh_X11_mustFit (c_X11_mustFit (by omega) hx hI (by decide) (by decide) (fun hp6 => ?_) (fun E => hX E))
          show mm_W d mmX11_seasons 36 [some (.ref 0), some (.int (Int32.ofInt a1)), some (.int (Int32.ofInt a2)), some (.int (Int32.ofInt a3)), none, none, none, none, none] [] (mz_mk g x) Q
          exfalso; omega
        · skip
          refine mm_g 1 (pc1 := 29) (lo1 := [some (.ref 0), some (.int (Int32.ofInt a1)), some (.int (Int32.ofInt a2)), some (.int (Int32.ofInt a3)), none, none, none, none, none]) (st1 := [.int (Int32.ofInt 1)]) (H1 := mz_mk g x) rfl ?_
          refine mz_gt (tgt := 33) rfl rfl ?_
          refine mz_csx rfl mt_11_106 rfl (Nat.le_of_ble_eq_true rfl) (by omega) rfl nh_X11_mustFit (c_X11_mustFit (by omega) hx hI (by decide) (by decide) (fun hp7 => ?_) (fun E => hX E))
          show mm_W d mmX11_seasons 36 [some (.ref 0), some (.int (Int32.ofInt a1)), some (.int (Int32.ofInt a2)), some (.int (Int32.ofInt a3)), none, none, none, none, none] [] (mz_mk g x) Q
          refine mm_g 4 (pc1 := 42) (lo1 := [some (.ref 0), some (.int (Int32.ofInt a1)), some (.int (Int32.ofInt a2)), some (.int (Int32.ofInt a3)), some (.int (Int32.ofInt 0)), some (.int (Int32.ofInt 0)), none, none, none]) (st1 := []) (H1 := mz_mk g x) rfl ?_
          have L16 : ∀ n15 : Nat, ∀ (v8 : Int) (v9 : Int) (o10 : Option Value) (o11 : Option Value) (o12 : Option Value) (g13 : mz_G), (32 - v9).toNat = n15 → (-2147483648) ≤ v8 → v8 ≤ 2147483647 → 0 ≤ v9 → v9 ≤ 32 → mz_nl o10 → mz_nl o11 → mz_nl o12 → mz_inv g13 → mz_fr (fl_X11_seasons_42 x a1 a2 a3) g g13 → mm_W d mmX11_seasons 42 [some (.ref 0), some (.int (Int32.ofInt a1)), some (.int (Int32.ofInt a2)), some (.int (Int32.ofInt a3)), some (.int (Int32.ofInt v8)), some (.int (Int32.ofInt v9)), o10, o11, o12] [] (mz_mk g13 x) Q := by
            intro n15
            induction n15 using Nat.strongRecOn with
            | ind n15 ih14 =>
            intro v8 v9 o10 o11 o12 g13 hmn15 l_v8 u_v8 l_v9 u_v9 h_o10 h_o11 h_o12 hIg13 hfg13
            refine mm_g 3 (pc1 := 46) (lo1 := [some (.ref 0), some (.int (Int32.ofInt a1)), some (.int (Int32.ofInt a2)), some (.int (Int32.ofInt a3)), some (.int (Int32.ofInt v8)), some (.int (Int32.ofInt v9)), o10, o11, o12]) (st1 := [.int (Int32.ofInt a2), .int (Int32.ofInt 1), .int (Int32.ofInt v9)]) (H1 := mz_mk g13 x) rfl ?_
            refine mz_ishl rfl (fun v17 e_v17 hwv17 => ?_)
            have b_v17 : 1 ≤ v17 ∧ v17 ≤ 32 := by rw [e_v17]; exact mz_shl_b (lx := 1) (hx := 1) (k := 5) (by decide) (by decide) (by omega) (by omega) (by omega) (by omega)
            have l_v17 := b_v17.1
            have u_v17 := b_v17.2
            refine mz_ic_ge (tgt := 187) rfl rfl (mz_rg l_v9 u_v9) (mz_rg l_v17 u_v17) (fun c47_17 => ?_) (fun c47_17 => ?_)
            · skip
              refine mm_g 1 (pc1 := 189) (lo1 := [some (.ref 0), some (.int (Int32.ofInt a1)), some (.int (Int32.ofInt a2)), some (.int (Int32.ofInt a3)), some (.int (Int32.ofInt v8)), some (.int (Int32.ofInt v9)), o10, o11, o12]) (st1 := [.int (Int32.ofInt v8)]) (H1 := mz_mk g13 x) rfl ?_
              exact mm_rt rfl rfl (hQ _ _ hIg13 (fun k j hk => (hfg13 k j (fun h => hk (Or.elim h (fun h => (Or.inl h)) (fun h => (Or.elim h (fun h => (Or.inr (Or.inl h))) (fun h => (Or.inr (Or.inr h))))))))) (by omega) (by omega))
            · skip
              refine mm_g 1 (pc1 := 51) (lo1 := [some (.ref 0), some (.int (Int32.ofInt a1)), some (.int (Int32.ofInt a2)), some (.int (Int32.ofInt a3)), some (.int (Int32.ofInt v8)), some (.int (Int32.ofInt v9)), o10, o11, o12]) (st1 := [.ref 0]) (H1 := mz_mk g13 x) rfl ?_
              refine mz_fgR (v := 122) rfl fd_11_65 (by decide) (sc_0 _) (rf_0_10 _ _ _) ?_
              refine mm_g 1 (pc1 := 55) (lo1 := [some (.ref 0), some (.int (Int32.ofInt a1)), some (.int (Int32.ofInt a2)), some (.int (Int32.ofInt a3)), some (.int (Int32.ofInt v8)), some (.int (Int32.ofInt v9)), o10, o11, o12]) (st1 := [.ref 0, .ref 122]) (H1 := mz_mk g13 x) rfl ?_
              refine mz_fgR (v := 86) rfl fd_11_37 (by decide) (sc_0 _) (rf_0_5 _ _ _) ?_
              refine mz_fgR (v := 87) rfl fd_11_158 (by decide) (sc_86 _) (rf_86_0 _ _ _) ?_
              refine mm_g 1 (pc1 := 62) (lo1 := [some (.ref 0), some (.int (Int32.ofInt a1)), some (.int (Int32.ofInt a2)), some (.int (Int32.ofInt a3)), some (.int (Int32.ofInt v8)), some (.int (Int32.ofInt v9)), o10, o11, o12]) (st1 := [.int (Int32.ofInt a1), .ref 87, .ref 122]) (H1 := mz_mk g13 x) rfl ?_
              refine mz_cv rfl mt_11_192 (by decide) (sc_87 _) rfl (Nat.le_of_ble_eq_true rfl) (by omega) (c_X9_get (by omega) hx hIg13 kp_tks_87 l_a1 u_a1 (fun u18 k_u18 hp19 => ⟨_, rfl, ?_⟩))
              show mm_W d mmX11_seasons 65 [some (.ref 0), some (.int (Int32.ofInt a1)), some (.int (Int32.ofInt a2)), some (.int (Int32.ofInt a3)), some (.int (Int32.ofInt v8)), some (.int (Int32.ofInt v9)), o10, o11, o12] [.ref u18, .ref 122] (mz_mk g13 x) Q
              refine mz_cv rfl mt_11_297 (by decide) (sc_122 _) rfl (Nat.le_of_ble_eq_true rfl) (by omega) (c_X8_becomeAs (by omega) hx hIg13 kp_trunk_122 k_u18 (fun g20 hIg20 hfg20 => ⟨_, rfl, ?_⟩))
              show mm_W d mmX11_seasons 68 [some (.ref 0), some (.int (Int32.ofInt a1)), some (.int (Int32.ofInt a2)), some (.int (Int32.ofInt a3)), some (.int (Int32.ofInt v8)), some (.int (Int32.ofInt v9)), o10, o11, o12] [] (mz_mk g20 x) Q
              refine mm_g 4 (pc1 := 74) (lo1 := [some (.ref 0), some (.int (Int32.ofInt a1)), some (.int (Int32.ofInt a2)), some (.int (Int32.ofInt a3)), some (.int (Int32.ofInt v8)), some (.int (Int32.ofInt v9)), some (.int (Int32.ofInt 1)), some (.int (Int32.ofInt 0)), o12]) (st1 := []) (H1 := mz_mk g20 x) rfl ?_
              have L27 : ∀ n26 : Nat, ∀ (v21 : Int) (v22 : Int) (o23 : Option Value) (g24 : mz_G), (5 - v22).toNat = n26 → (-2147483648) ≤ v21 → v21 ≤ 2147483647 → 0 ≤ v22 → v22 ≤ 5 → mz_nl o23 → mz_inv g24 → mz_fr (fl_X11_seasons_74 x a1 a2 a3) g20 g24 → mm_W d mmX11_seasons 74 [some (.ref 0), some (.int (Int32.ofInt a1)), some (.int (Int32.ofInt a2)), some (.int (Int32.ofInt a3)), some (.int (Int32.ofInt v8)), some (.int (Int32.ofInt v9)), some (.int (Int32.ofInt v21)), some (.int (Int32.ofInt v22)), o23] [] (mz_mk g24 x) Q := by
                intro n26
                induction n26 using Nat.strongRecOn with
                | ind n26 ih25 =>
                intro v21 v22 o23 g24 hmn26 l_v21 u_v21 l_v22 u_v22 h_o23 hIg24 hfg24
                refine mm_g 2 (pc1 := 77) (lo1 := [some (.ref 0), some (.int (Int32.ofInt a1)), some (.int (Int32.ofInt a2)), some (.int (Int32.ofInt a3)), some (.int (Int32.ofInt v8)), some (.int (Int32.ofInt v9)), some (.int (Int32.ofInt v21)), some (.int (Int32.ofInt v22)), o23]) (st1 := [.int (Int32.ofInt a2), .int (Int32.ofInt v22)]) (H1 := mz_mk g24 x) rfl ?_
                refine mz_ic_ge (tgt := 156) rfl rfl (mz_rg l_v22 u_v22) (mz_rg l_a2 u_a2) (fun c77_27 => ?_) (fun c77_27 => ?_)
                · skip
                  refine mm_g 2 (pc1 := 159) (lo1 := [some (.ref 0), some (.int (Int32.ofInt a1)), some (.int (Int32.ofInt a2)), some (.int (Int32.ofInt a3)), some (.int (Int32.ofInt v8)), some (.int (Int32.ofInt v9)), some (.int (Int32.ofInt v21)), some (.int (Int32.ofInt v22)), o23]) (st1 := [.ref 0, .int (Int32.ofInt v8)]) (H1 := mz_mk g24 x) rfl ?_
                  refine mz_fgR (v := x.1) rfl fd_11_16 (by decide) (sc_0 _) rfl ?_
                  refine mm_g 1 (pc1 := 163) (lo1 := [some (.ref 0), some (.int (Int32.ofInt a1)), some (.int (Int32.ofInt a2)), some (.int (Int32.ofInt a3)), some (.int (Int32.ofInt v8)), some (.int (Int32.ofInt v9)), some (.int (Int32.ofInt v21)), some (.int (Int32.ofInt v22)), o23]) (st1 := [.ref 0, .ref x.1, .int (Int32.ofInt v8)]) (H1 := mz_mk g24 x) rfl ?_
                  refine mz_fgR (v := 122) rfl fd_11_65 (by decide) (sc_0 _) (rf_0_10 _ _ _) ?_
                  refine mz_cv rfl mt_11_259 (by decide) (kc_load (kx_1 hx) _) rfl (Nat.le_of_ble_eq_true rfl) (by omega) (c_X1_isFull (by omega) hx hIg24 (kx_1 hx) kp_trunk_122 (fun v28 l_v28 u_v28 => ⟨_, rfl, ?_⟩))
                  show mm_W d mmX11_seasons 169 [some (.ref 0), some (.int (Int32.ofInt a1)), some (.int (Int32.ofInt a2)), some (.int (Int32.ofInt a3)), some (.int (Int32.ofInt v8)), some (.int (Int32.ofInt v9)), some (.int (Int32.ofInt v21)), some (.int (Int32.ofInt v22)), o23] [.int (Int32.ofInt v28), .int (Int32.ofInt v8)] (mz_mk g24 x) Q
                  refine mz_if_eq (tgt := 177) rfl rfl (mz_rg l_v28 u_v28) (fun c169_28 => ?_) (fun c169_28 => ?_)
                  · skip
                    refine mm_g 1 (pc1 := 178) (lo1 := [some (.ref 0), some (.int (Int32.ofInt a1)), some (.int (Int32.ofInt a2)), some (.int (Int32.ofInt a3)), some (.int (Int32.ofInt v8)), some (.int (Int32.ofInt v9)), some (.int (Int32.ofInt v21)), some (.int (Int32.ofInt v22)), o23]) (st1 := [.int (Int32.ofInt 0), .int (Int32.ofInt v8)]) (H1 := mz_mk g24 x) rfl ?_
                    refine mz_iadd rfl ?_
                    refine mm_g 1 (pc1 := 181) (lo1 := [some (.ref 0), some (.int (Int32.ofInt a1)), some (.int (Int32.ofInt a2)), some (.int (Int32.ofInt a3)), some (.int (Int32.ofInt (v8 + 0))), some (.int (Int32.ofInt v9)), some (.int (Int32.ofInt v21)), some (.int (Int32.ofInt v22)), o23]) (st1 := []) (H1 := mz_mk g24 x) rfl ?_
                    refine mz_iincR (v := v9) (lo2 := [some (.ref 0), some (.int (Int32.ofInt a1)), some (.int (Int32.ofInt a2)), some (.int (Int32.ofInt a3)), some (.int (Int32.ofInt (v8 + 0))), some (.int (Int32.ofInt (v9 + 1))), some (.int (Int32.ofInt v21)), some (.int (Int32.ofInt v22)), o23]) rfl rfl rfl (Nat.le_of_ble_eq_true rfl) rfl ?_
                    refine mz_gt (tgt := 42) rfl rfl ?_
                    exact ih14 ((32 - (v9 + 1)).toNat) (by omega) (v8 + 0) (v9 + 1) (some (.int (Int32.ofInt v21))) (some (.int (Int32.ofInt v22))) o23 g24 rfl (by omega) (by omega) (by omega) (by omega) (mz_nl_i _) (mz_nl_i _) h_o23 hIg24 (fun k j hk => ((hfg24 k j (fun h => hk (Or.elim h (fun h => (Or.inl h)) (fun h => (Or.elim h (fun h => (Or.inr (Or.inl h))) (fun h => (Or.inr (Or.inr h)))))))).trans ((hfg20 k j (fun h => hk (Or.inl h))).trans (hfg13 k j (fun h => hk (Or.elim h (fun h => (Or.inl h)) (fun h => (Or.elim h (fun h => (Or.inr (Or.inl h))) (fun h => (Or.inr (Or.inr h)))))))))))
                  · skip
                    refine mm_g 1 (pc1 := 174) (lo1 := [some (.ref 0), some (.int (Int32.ofInt a1)), some (.int (Int32.ofInt a2)), some (.int (Int32.ofInt a3)), some (.int (Int32.ofInt v8)), some (.int (Int32.ofInt v9)), some (.int (Int32.ofInt v21)), some (.int (Int32.ofInt v22)), o23]) (st1 := [.int (Int32.ofInt v21), .int (Int32.ofInt v8)]) (H1 := mz_mk g24 x) rfl ?_
                    refine mz_gt (tgt := 178) rfl rfl ?_
                    refine mz_iadd_w rfl (fun v29 _ hwv29 => ?_)
                    have l_v29 := hwv29.1
                    have u_v29 := hwv29.2
                    refine mm_g 1 (pc1 := 181) (lo1 := [some (.ref 0), some (.int (Int32.ofInt a1)), some (.int (Int32.ofInt a2)), some (.int (Int32.ofInt a3)), some (.int (Int32.ofInt v29)), some (.int (Int32.ofInt v9)), some (.int (Int32.ofInt v21)), some (.int (Int32.ofInt v22)), o23]) (st1 := []) (H1 := mz_mk g24 x) rfl ?_
                    refine mz_iincR (v := v9) (lo2 := [some (.ref 0), some (.int (Int32.ofInt a1)), some (.int (Int32.ofInt a2)), some (.int (Int32.ofInt a3)), some (.int (Int32.ofInt v29)), some (.int (Int32.ofInt (v9 + 1))), some (.int (Int32.ofInt v21)), some (.int (Int32.ofInt v22)), o23]) rfl rfl rfl (Nat.le_of_ble_eq_true rfl) rfl ?_
                    refine mz_gt (tgt := 42) rfl rfl ?_
                    exact ih14 ((32 - (v9 + 1)).toNat) (by omega) v29 (v9 + 1) (some (.int (Int32.ofInt v21))) (some (.int (Int32.ofInt v22))) o23 g24 rfl (by omega) (by omega) (by omega) (by omega) (mz_nl_i _) (mz_nl_i _) h_o23 hIg24 (fun k j hk => ((hfg24 k j (fun h => hk (Or.elim h (fun h => (Or.inl h)) (fun h => (Or.elim h (fun h => (Or.inr (Or.inl h))) (fun h => (Or.inr (Or.inr h)))))))).trans ((hfg20 k j (fun h => hk (Or.inl h))).trans (hfg13 k j (fun h => hk (Or.elim h (fun h => (Or.inl h)) (fun h => (Or.elim h (fun h => (Or.inr (Or.inl h))) (fun h => (Or.inr (Or.inr h)))))))))))
                · skip
                  refine mm_g 3 (pc1 := 85) (lo1 := [some (.ref 0), some (.int (Int32.ofInt a1)), some (.int (Int32.ofInt a2)), some (.int (Int32.ofInt a3)), some (.int (Int32.ofInt v8)), some (.int (Int32.ofInt v9)), some (.int (Int32.ofInt v21)), some (.int (Int32.ofInt v22)), o23]) (st1 := [.int (Int32.ofInt v22), .int (Int32.ofInt 1), .int (Int32.ofInt v9)]) (H1 := mz_mk g24 x) rfl ?_
                  refine mz_ishl rfl (fun v30 e_v30 hwv30 => ?_)
                  have b_v30 : 1 ≤ v30 ∧ v30 ≤ 16 := by rw [e_v30]; exact mz_shl_b (lx := 1) (hx := 1) (k := 4) (by decide) (by decide) (by omega) (by omega) (by omega) (by omega)
                  have l_v30 := b_v30.1
                  have u_v30 := b_v30.2
                  refine mz_iand rfl (fun v31 e_v31 hwv31 => ?_)
                  have b_v31 : 0 ≤ v31 ∧ v31 ≤ 16 := by rw [e_v31]; exact mz_and_r (by omega) (by omega) (mz_rg l_v9 u_v9)
                  have l_v31 := b_v31.1
                  have u_v31 := b_v31.2
                  have w_v31 : v31 ≤ v30 := by rw [e_v31]; exact (mz_and_r (hi := v30) (by omega) (Int.le_refl _) (mz_rg l_v9 u_v9) (by omega)).2
                  refine mz_if_eq (tgt := 94) rfl rfl (mz_rg l_v31 u_v31) (fun c87_31 => ?_) (fun c87_31 => ?_)
                  · skip
                    refine mm_g 3 (pc1 := 98) (lo1 := [some (.ref 0), some (.int (Int32.ofInt a1)), some (.int (Int32.ofInt a2)), some (.int (Int32.ofInt a3)), some (.int (Int32.ofInt v8)), some (.int (Int32.ofInt v9)), some (.int (Int32.ofInt v21)), some (.int (Int32.ofInt v22)), some (.int (Int32.ofInt 0))]) (st1 := [.ref 0]) (H1 := mz_mk g24 x) rfl ?_
                    refine mz_fgR (v := x.1) rfl fd_11_16 (by decide) (sc_0 _) rfl ?_
                    refine mm_g 1 (pc1 := 102) (lo1 := [some (.ref 0), some (.int (Int32.ofInt a1)), some (.int (Int32.ofInt a2)), some (.int (Int32.ofInt a3)), some (.int (Int32.ofInt v8)), some (.int (Int32.ofInt v9)), some (.int (Int32.ofInt v21)), some (.int (Int32.ofInt v22)), some (.int (Int32.ofInt 0))]) (st1 := [.ref 0, .ref x.1]) (H1 := mz_mk g24 x) rfl ?_
                    refine mz_fgR (v := 122) rfl fd_11_65 (by decide) (sc_0 _) (rf_0_10 _ _ _) ?_
                    refine mm_g 1 (pc1 := 106) (lo1 := [some (.ref 0), some (.int (Int32.ofInt a1)), some (.int (Int32.ofInt a2)), some (.int (Int32.ofInt a3)), some (.int (Int32.ofInt v8)), some (.int (Int32.ofInt v9)), some (.int (Int32.ofInt v21)), some (.int (Int32.ofInt v22)), some (.int (Int32.ofInt 0))]) (st1 := [.ref 0, .ref 122, .ref x.1]) (H1 := mz_mk g24 x) rfl ?_
                    refine mz_fgR (v := 86) rfl fd_11_37 (by decide) (sc_0 _) (rf_0_5 _ _ _) ?_
                    refine mz_fgR (v := 87) rfl fd_11_158 (by decide) (sc_86 _) (rf_86_0 _ _ _) ?_
                    refine mz_gI rfl fd_11_161 (by decide) (sc_87 _) hIg24 bd_87_3 (fun v32 e_v32 l_v32 u_v32 => ?_)
                    refine mm_g 1 (pc1 := 117) (lo1 := [some (.ref 0), some (.int (Int32.ofInt a1)), some (.int (Int32.ofInt a2)), some (.int (Int32.ofInt a3)), some (.int (Int32.ofInt v8)), some (.int (Int32.ofInt v9)), some (.int (Int32.ofInt v21)), some (.int (Int32.ofInt v22)), some (.int (Int32.ofInt 0))]) (st1 := [.int (Int32.ofInt v22), .int (Int32.ofInt v32), .ref 122, .ref x.1]) (H1 := mz_mk g24 x) rfl ?_
                    refine mz_iadd_w rfl (fun v33 _ hwv33 => ?_)
                    have l_v33 := hwv33.1
                    have u_v33 := hwv33.2
                    refine mm_g 1 (pc1 := 120) (lo1 := [some (.ref 0), some (.int (Int32.ofInt a1)), some (.int (Int32.ofInt a2)), some (.int (Int32.ofInt a3)), some (.int (Int32.ofInt v8)), some (.int (Int32.ofInt v9)), some (.int (Int32.ofInt v21)), some (.int (Int32.ofInt v22)), some (.int (Int32.ofInt 0))]) (st1 := [.int (Int32.ofInt 0), .int (Int32.ofInt v33), .ref 122, .ref x.1]) (H1 := mz_mk g24 x) rfl ?_
                    refine mz_if_eq (tgt := 128) rfl rfl ⟨by decide, by decide⟩ (fun c120_33 => ?_) (fun c120_33 => ?_)
                    · skip
                      refine mm_g 1 (pc1 := 129) (lo1 := [some (.ref 0), some (.int (Int32.ofInt a1)), some (.int (Int32.ofInt a2)), some (.int (Int32.ofInt a3)), some (.int (Int32.ofInt v8)), some (.int (Int32.ofInt v9)), some (.int (Int32.ofInt v21)), some (.int (Int32.ofInt v22)), some (.int (Int32.ofInt 0))]) (st1 := [.int (Int32.ofInt 0), .int (Int32.ofInt v33), .ref 122, .ref x.1]) (H1 := mz_mk g24 x) rfl ?_
                      refine mz_cv rfl mt_11_312 (by decide) (kc_load (kx_1 hx) _) rfl (Nat.le_of_ble_eq_true rfl) (by omega) (c_X1_grow (by omega) hx hIg24 (kx_1 hx) kp_trunk_122 l_v33 u_v33 (by decide) (by decide) (fun g34 hIg34 hfg34 => ⟨_, rfl, ?_⟩))
                      show mm_W d mmX11_seasons 132 [some (.ref 0), some (.int (Int32.ofInt a1)), some (.int (Int32.ofInt a2)), some (.int (Int32.ofInt a3)), some (.int (Int32.ofInt v8)), some (.int (Int32.ofInt v9)), some (.int (Int32.ofInt v21)), some (.int (Int32.ofInt v22)), some (.int (Int32.ofInt 0))] [] (mz_mk g34 x) Q
                      refine mm_g 2 (pc1 := 136) (lo1 := [some (.ref 0), some (.int (Int32.ofInt a1)), some (.int (Int32.ofInt a2)), some (.int (Int32.ofInt a3)), some (.int (Int32.ofInt v8)), some (.int (Int32.ofInt v9)), some (.int (Int32.ofInt v21)), some (.int (Int32.ofInt v22)), some (.int (Int32.ofInt 0))]) (st1 := [.int (Int32.ofInt 0), .int (Int32.ofInt v21)]) (H1 := mz_mk g34 x) rfl ?_
                      refine mz_if_eq (tgt := 143) rfl rfl ⟨by decide, by decide⟩ (fun c136_34 => ?_) (fun c136_34 => ?_)
                      · skip
                        refine mz_bip rfl bip_10 ?_
                        refine mm_g 1 (pc1 := 146) (lo1 := [some (.ref 0), some (.int (Int32.ofInt a1)), some (.int (Int32.ofInt a2)), some (.int (Int32.ofInt a3)), some (.int (Int32.ofInt v8)), some (.int (Int32.ofInt v9)), some (.int (Int32.ofInt v21)), some (.int (Int32.ofInt v22)), some (.int (Int32.ofInt 0))]) (st1 := [.int (Int32.ofInt a3), .int (Int32.ofInt 10), .int (Int32.ofInt v21)]) (H1 := mz_mk g34 x) rfl ?_
                        refine mz_isub rfl ?_
                        refine mz_imul_w rfl (fun v35 _ hwv35 => ?_)
                        have l_v35 := hwv35.1
                        have u_v35 := hwv35.2
                        refine mm_g 1 (pc1 := 150) (lo1 := [some (.ref 0), some (.int (Int32.ofInt a1)), some (.int (Int32.ofInt a2)), some (.int (Int32.ofInt a3)), some (.int (Int32.ofInt v8)), some (.int (Int32.ofInt v9)), some (.int (Int32.ofInt v35)), some (.int (Int32.ofInt v22)), some (.int (Int32.ofInt 0))]) (st1 := []) (H1 := mz_mk g34 x) rfl ?_
                        refine mz_iincR (v := v22) (lo2 := [some (.ref 0), some (.int (Int32.ofInt a1)), some (.int (Int32.ofInt a2)), some (.int (Int32.ofInt a3)), some (.int (Int32.ofInt v8)), some (.int (Int32.ofInt v9)), some (.int (Int32.ofInt v35)), some (.int (Int32.ofInt (v22 + 1))), some (.int (Int32.ofInt 0))]) rfl rfl rfl (Nat.le_of_ble_eq_true rfl) rfl ?_
                        refine mz_gt (tgt := 74) rfl rfl ?_
                        exact ih25 ((5 - (v22 + 1)).toNat) (by omega) v35 (v22 + 1) (some (.int (Int32.ofInt 0))) g34 rfl (by omega) (by omega) (by omega) (by omega) (mz_nl_i _) hIg34 (fun k j hk => ((hfg34 k j (fun h => hk (Or.elim h (fun h => (Or.inl h)) (fun h => (Or.elim h (fun h => (Or.inr (Or.inl h))) (fun h => (Or.inr (Or.inr h)))))))).trans (hfg24 k j (fun h => hk (Or.elim h (fun h => (Or.inl h)) (fun h => (Or.elim h (fun h => (Or.inr (Or.inl h))) (fun h => (Or.inr (Or.inr h))))))))))
                      · exfalso; omega
                    · exfalso; omega
                  · skip
                    refine mm_g 1 (pc1 := 91) (lo1 := [some (.ref 0), some (.int (Int32.ofInt a1)), some (.int (Int32.ofInt a2)), some (.int (Int32.ofInt a3)), some (.int (Int32.ofInt v8)), some (.int (Int32.ofInt v9)), some (.int (Int32.ofInt v21)), some (.int (Int32.ofInt v22)), o23]) (st1 := [.int (Int32.ofInt 1)]) (H1 := mz_mk g24 x) rfl ?_
                    refine mz_gt (tgt := 95) rfl rfl ?_
                    refine mm_g 2 (pc1 := 98) (lo1 := [some (.ref 0), some (.int (Int32.ofInt a1)), some (.int (Int32.ofInt a2)), some (.int (Int32.ofInt a3)), some (.int (Int32.ofInt v8)), some (.int (Int32.ofInt v9)), some (.int (Int32.ofInt v21)), some (.int (Int32.ofInt v22)), some (.int (Int32.ofInt 1))]) (st1 := [.ref 0]) (H1 := mz_mk g24 x) rfl ?_
                    refine mz_fgR (v := x.1) rfl fd_11_16 (by decide) (sc_0 _) rfl ?_
                    refine mm_g 1 (pc1 := 102) (lo1 := [some (.ref 0), some (.int (Int32.ofInt a1)), some (.int (Int32.ofInt a2)), some (.int (Int32.ofInt a3)), some (.int (Int32.ofInt v8)), some (.int (Int32.ofInt v9)), some (.int (Int32.ofInt v21)), some (.int (Int32.ofInt v22)), some (.int (Int32.ofInt 1))]) (st1 := [.ref 0, .ref x.1]) (H1 := mz_mk g24 x) rfl ?_
                    refine mz_fgR (v := 122) rfl fd_11_65 (by decide) (sc_0 _) (rf_0_10 _ _ _) ?_
                    refine mm_g 1 (pc1 := 106) (lo1 := [some (.ref 0), some (.int (Int32.ofInt a1)), some (.int (Int32.ofInt a2)), some (.int (Int32.ofInt a3)), some (.int (Int32.ofInt v8)), some (.int (Int32.ofInt v9)), some (.int (Int32.ofInt v21)), some (.int (Int32.ofInt v22)), some (.int (Int32.ofInt 1))]) (st1 := [.ref 0, .ref 122, .ref x.1]) (H1 := mz_mk g24 x) rfl ?_
                    refine mz_fgR (v := 86) rfl fd_11_37 (by decide) (sc_0 _) (rf_0_5 _ _ _) ?_
                    refine mz_fgR (v := 87) rfl fd_11_158 (by decide) (sc_86 _) (rf_86_0 _ _ _) ?_
                    refine mz_gI rfl fd_11_161 (by decide) (sc_87 _) hIg24 bd_87_3 (fun v36 e_v36 l_v36 u_v36 => ?_)
                    refine mm_g 1 (pc1 := 117) (lo1 := [some (.ref 0), some (.int (Int32.ofInt a1)), some (.int (Int32.ofInt a2)), some (.int (Int32.ofInt a3)), some (.int (Int32.ofInt v8)), some (.int (Int32.ofInt v9)), some (.int (Int32.ofInt v21)), some (.int (Int32.ofInt v22)), some (.int (Int32.ofInt 1))]) (st1 := [.int (Int32.ofInt v22), .int (Int32.ofInt v36), .ref 122, .ref x.1]) (H1 := mz_mk g24 x) rfl ?_
                    refine mz_iadd_w rfl (fun v37 _ hwv37 => ?_)
                    have l_v37 := hwv37.1
                    have u_v37 := hwv37.2
                    refine mm_g 1 (pc1 := 120) (lo1 := [some (.ref 0), some (.int (Int32.ofInt a1)), some (.int (Int32.ofInt a2)), some (.int (Int32.ofInt a3)), some (.int (Int32.ofInt v8)), some (.int (Int32.ofInt v9)), some (.int (Int32.ofInt v21)), some (.int (Int32.ofInt v22)), some (.int (Int32.ofInt 1))]) (st1 := [.int (Int32.ofInt 1), .int (Int32.ofInt v37), .ref 122, .ref x.1]) (H1 := mz_mk g24 x) rfl ?_
                    refine mz_if_eq (tgt := 128) rfl rfl ⟨by decide, by decide⟩ (fun c120_37 => ?_) (fun c120_37 => ?_)
                    · exfalso; omega
                    · skip
                      refine mz_bip rfl bip_9 ?_
                      refine mz_gt (tgt := 129) rfl rfl ?_
                      refine mz_cv rfl mt_11_312 (by decide) (kc_load (kx_1 hx) _) rfl (Nat.le_of_ble_eq_true rfl) (by omega) (c_X1_grow (by omega) hx hIg24 (kx_1 hx) kp_trunk_122 l_v37 u_v37 (by decide) (by decide) (fun g38 hIg38 hfg38 => ⟨_, rfl, ?_⟩))
                      show mm_W d mmX11_seasons 132 [some (.ref 0), some (.int (Int32.ofInt a1)), some (.int (Int32.ofInt a2)), some (.int (Int32.ofInt a3)), some (.int (Int32.ofInt v8)), some (.int (Int32.ofInt v9)), some (.int (Int32.ofInt v21)), some (.int (Int32.ofInt v22)), some (.int (Int32.ofInt 1))] [] (mz_mk g38 x) Q
                      refine mm_g 2 (pc1 := 136) (lo1 := [some (.ref 0), some (.int (Int32.ofInt a1)), some (.int (Int32.ofInt a2)), some (.int (Int32.ofInt a3)), some (.int (Int32.ofInt v8)), some (.int (Int32.ofInt v9)), some (.int (Int32.ofInt v21)), some (.int (Int32.ofInt v22)), some (.int (Int32.ofInt 1))]) (st1 := [.int (Int32.ofInt 1), .int (Int32.ofInt v21)]) (H1 := mz_mk g38 x) rfl ?_
                      refine mz_if_eq (tgt := 143) rfl rfl ⟨by decide, by decide⟩ (fun c136_38 => ?_) (fun c136_38 => ?_)
                      · exfalso; omega
                      · skip
                        refine mm_g 1 (pc1 := 140) (lo1 := [some (.ref 0), some (.int (Int32.ofInt a1)), some (.int (Int32.ofInt a2)), some (.int (Int32.ofInt a3)), some (.int (Int32.ofInt v8)), some (.int (Int32.ofInt v9)), some (.int (Int32.ofInt v21)), some (.int (Int32.ofInt v22)), some (.int (Int32.ofInt 1))]) (st1 := [.int (Int32.ofInt a3), .int (Int32.ofInt v21)]) (H1 := mz_mk g38 x) rfl ?_
                        refine mz_gt (tgt := 147) rfl rfl ?_
                        refine mz_imul_w rfl (fun v39 _ hwv39 => ?_)
                        have l_v39 := hwv39.1
                        have u_v39 := hwv39.2
                        refine mm_g 1 (pc1 := 150) (lo1 := [some (.ref 0), some (.int (Int32.ofInt a1)), some (.int (Int32.ofInt a2)), some (.int (Int32.ofInt a3)), some (.int (Int32.ofInt v8)), some (.int (Int32.ofInt v9)), some (.int (Int32.ofInt v39)), some (.int (Int32.ofInt v22)), some (.int (Int32.ofInt 1))]) (st1 := []) (H1 := mz_mk g38 x) rfl ?_
                        refine mz_iincR (v := v22) (lo2 := [some (.ref 0), some (.int (Int32.ofInt a1)), some (.int (Int32.ofInt a2)), some (.int (Int32.ofInt a3)), some (.int (Int32.ofInt v8)), some (.int (Int32.ofInt v9)), some (.int (Int32.ofInt v39)), some (.int (Int32.ofInt (v22 + 1))), some (.int (Int32.ofInt 1))]) rfl rfl rfl (Nat.le_of_ble_eq_true rfl) rfl ?_
                        refine mz_gt (tgt := 74) rfl rfl ?_
                        exact ih25 ((5 - (v22 + 1)).toNat) (by omega) v39 (v22 + 1) (some (.int (Int32.ofInt 1))) g38 rfl (by omega) (by omega) (by omega) (by omega) (mz_nl_i _) hIg38 (fun k j hk => ((hfg38 k j (fun h => hk (Or.elim h (fun h => (Or.inl h)) (fun h => (Or.elim h (fun h => (Or.inr (Or.inl h))) (fun h => (Or.inr (Or.inr h)))))))).trans (hfg24 k j (fun h => hk (Or.elim h (fun h => (Or.inl h)) (fun h => (Or.elim h (fun h => (Or.inr (Or.inl h))) (fun h => (Or.inr (Or.inr h))))))))))
              exact L27 _ 1 0 o12 g20 rfl (by decide) (by decide) (by decide) (by decide) h_o12 hIg20 (fun _ _ _ => rfl)
          exact L16 _ 0 0 none none none g rfl (by decide) (by decide) (by decide) (by decide) mz_nl_n mz_nl_n mz_nl_n hI (fun _ _ _ => rfl)
def fw_X11_ownGain (x : mm_X) (a1 : Int) (a2 : Int) : Nat → Nat → Prop := fun k j => k = 122 ∨ k = ((x.1 + 36) + 2) ∨ k = ((x.1 + 36) + 3)
theorem c_X11_ownGain {d : Nat} (hd : 16 ≤ d) {x : mm_X} (hx : mk_x x) {g : mz_G} (hI : mz_inv g) {a1 : Int} (l_a1 : (-2147483648) ≤ a1) (u_a1 : a1 ≤ 2147483647) {a2 : Int} (l_a2 : (-2147483648) ≤ a2) (u_a2 : a2 ≤ 2147483647) {Q : (Option Value ⊕ Nat) → mm_H → Prop} (hQ : ∀ (r : Int) (g1 : mz_G), mz_inv g1 → mz_fr (fw_X11_ownGain x a1 a2) g g1 → (-2147483648) ≤ r → r ≤ 2147483647 → Q (.inl (some (.int (Int32.ofInt r)))) (mz_mk g1 x)) : mm_C d 165 [.ref 0, .int (Int32.ofInt a1), .int (Int32.ofInt a2)] (mz_mk g x) Q := by
  have kx := kn_x hx
  refine ⟨mmX11_ownGain, [some (.ref 0), some (.int (Int32.ofInt a1)), some (.int (Int32.ofInt a2))], rfl, rfl, ?_⟩
  refine mm_g 4 (pc1 := 4) (lo1 := [some (.ref 0), some (.int (Int32.ofInt a1)), some (.int (Int32.ofInt a2))]) (st1 := [.int (Int32.ofInt 1), .int (Int32.ofInt a2), .int (Int32.ofInt a1), .ref 0]) (H1 := mz_mk g x) rfl ?_
  refine mz_ic_ne (tgt := 12) rfl rfl (mz_rg l_a2 u_a2) ⟨by decide, by decide⟩ (fun c4_0 => ?_) (fun c4_0 => ?_)
  · skip
    refine mm_g 1 (pc1 := 13) (lo1 := [some (.ref 0), some (.int (Int32.ofInt a1)), some (.int (Int32.ofInt a2))]) (st1 := [.ref 0, .int (Int32.ofInt a1), .ref 0]) (H1 := mz_mk g x) rfl ?_
    refine mz_fgR (v := 86) rfl fd_11_37 (by decide) (sc_0 _) (rf_0_5 _ _ _) ?_
    refine mz_fgR (v := 87) rfl fd_11_158 (by decide) (sc_86 _) (rf_86_0 _ _ _) ?_
    refine mm_g 1 (pc1 := 20) (lo1 := [some (.ref 0), some (.int (Int32.ofInt a1)), some (.int (Int32.ofInt a2))]) (st1 := [.int (Int32.ofInt a1), .ref 87, .int (Int32.ofInt a1), .ref 0]) (H1 := mz_mk g x) rfl ?_
    refine mz_cv rfl mt_11_192 (by decide) (sc_87 _) rfl (Nat.le_of_ble_eq_true rfl) (by omega) (c_X9_get (by omega) hx hI kp_tks_87 l_a1 u_a1 (fun u1 k_u1 hp2 => ⟨_, rfl, ?_⟩))
    show mm_W d mmX11_ownGain 23 [some (.ref 0), some (.int (Int32.ofInt a1)), some (.int (Int32.ofInt a2))] [.ref u1, .int (Int32.ofInt a1), .ref 0] (mz_mk g x) Q
    refine mz_gI rfl fd_11_234 (by decide) (kc_trunk k_u1 _) hI (kb_trunk_2 k_u1) (fun v3 e_v3 l_v3 u_v3 => ?_)
    refine mm_g 1 (pc1 := 27) (lo1 := [some (.ref 0), some (.int (Int32.ofInt a1)), some (.int (Int32.ofInt a2))]) (st1 := [.int (Int32.ofInt 4), .int (Int32.ofInt v3), .int (Int32.ofInt a1), .ref 0]) (H1 := mz_mk g x) rfl ?_
    refine mz_cv rfl mt_11_282 (by decide) (sc_0 _) rfl (Nat.le_of_ble_eq_true rfl) (by omega) (c_X11_growProbe (by omega) hx hI l_a1 u_a1 l_v3 u_v3 (by decide) (by decide) (fun g4 hIg4 hfg4 => ⟨_, rfl, ?_⟩))
    show mm_W d mmX11_ownGain 30 [some (.ref 0), some (.int (Int32.ofInt a1)), some (.int (Int32.ofInt a2))] [] (mz_mk g4 x) Q
    refine mm_g 1 (pc1 := 31) (lo1 := [some (.ref 0), some (.int (Int32.ofInt a1)), some (.int (Int32.ofInt a2))]) (st1 := [.ref 0]) (H1 := mz_mk g4 x) rfl ?_
    refine mz_fgR (v := x.1) rfl fd_11_16 (by decide) (sc_0 _) rfl ?_
    refine mm_g 1 (pc1 := 35) (lo1 := [some (.ref 0), some (.int (Int32.ofInt a1)), some (.int (Int32.ofInt a2))]) (st1 := [.ref 0, .ref x.1]) (H1 := mz_mk g4 x) rfl ?_
    refine mz_fgR (v := 122) rfl fd_11_65 (by decide) (sc_0 _) (rf_0_10 _ _ _) ?_
    refine mz_cv rfl mt_11_244 (by decide) (kc_load (kx_1 hx) _) rfl (Nat.le_of_ble_eq_true rfl) (by omega) (c_X1_blendSize (by omega) hx hIg4 (kx_1 hx) kp_trunk_122 (fun v5 l_v5 u_v5 => ⟨_, rfl, ?_⟩))
    show mm_W d mmX11_ownGain 41 [some (.ref 0), some (.int (Int32.ofInt a1)), some (.int (Int32.ofInt a2))] [.int (Int32.ofInt v5)] (mz_mk g4 x) Q
    refine mm_g 1 (pc1 := 42) (lo1 := [some (.ref 0), some (.int (Int32.ofInt a1)), some (.int (Int32.ofInt a2))]) (st1 := [.int (Int32.ofInt a2), .int (Int32.ofInt v5)]) (H1 := mz_mk g4 x) rfl ?_
    refine mz_isub_w rfl (fun v6 _ hwv6 => ?_)
    have l_v6 := hwv6.1
    have u_v6 := hwv6.2
    exact mm_rt rfl rfl (hQ _ _ hIg4 (fun k j hk => (hfg4 k j (fun h => hk (Or.elim h (fun h => (Or.inl h)) (fun h => (Or.elim h (fun h => (Or.inr (Or.inl h))) (fun h => (Or.inr (Or.inr h))))))))) (by omega) (by omega))
  · skip
    refine mz_bip rfl bip_9 ?_
    refine mz_gt (tgt := 26) rfl rfl ?_
    refine mm_g 1 (pc1 := 27) (lo1 := [some (.ref 0), some (.int (Int32.ofInt a1)), some (.int (Int32.ofInt a2))]) (st1 := [.int (Int32.ofInt 4), .int (Int32.ofInt 9), .int (Int32.ofInt a1), .ref 0]) (H1 := mz_mk g x) rfl ?_
    refine mz_cv rfl mt_11_282 (by decide) (sc_0 _) rfl (Nat.le_of_ble_eq_true rfl) (by omega) (c_X11_growProbe (by omega) hx hI l_a1 u_a1 (by decide) (by decide) (by decide) (by decide) (fun g7 hIg7 hfg7 => ⟨_, rfl, ?_⟩))
    show mm_W d mmX11_ownGain 30 [some (.ref 0), some (.int (Int32.ofInt a1)), some (.int (Int32.ofInt a2))] [] (mz_mk g7 x) Q
    refine mm_g 1 (pc1 := 31) (lo1 := [some (.ref 0), some (.int (Int32.ofInt a1)), some (.int (Int32.ofInt a2))]) (st1 := [.ref 0]) (H1 := mz_mk g7 x) rfl ?_
    refine mz_fgR (v := x.1) rfl fd_11_16 (by decide) (sc_0 _) rfl ?_
    refine mm_g 1 (pc1 := 35) (lo1 := [some (.ref 0), some (.int (Int32.ofInt a1)), some (.int (Int32.ofInt a2))]) (st1 := [.ref 0, .ref x.1]) (H1 := mz_mk g7 x) rfl ?_
    refine mz_fgR (v := 122) rfl fd_11_65 (by decide) (sc_0 _) (rf_0_10 _ _ _) ?_
    refine mz_cv rfl mt_11_244 (by decide) (kc_load (kx_1 hx) _) rfl (Nat.le_of_ble_eq_true rfl) (by omega) (c_X1_blendSize (by omega) hx hIg7 (kx_1 hx) kp_trunk_122 (fun v8 l_v8 u_v8 => ⟨_, rfl, ?_⟩))
    show mm_W d mmX11_ownGain 41 [some (.ref 0), some (.int (Int32.ofInt a1)), some (.int (Int32.ofInt a2))] [.int (Int32.ofInt v8)] (mz_mk g7 x) Q
    refine mm_g 1 (pc1 := 42) (lo1 := [some (.ref 0), some (.int (Int32.ofInt a1)), some (.int (Int32.ofInt a2))]) (st1 := [.int (Int32.ofInt a2), .int (Int32.ofInt v8)]) (H1 := mz_mk g7 x) rfl ?_
    refine mz_isub_w rfl (fun v9 _ hwv9 => ?_)
    have l_v9 := hwv9.1
    have u_v9 := hwv9.2
    exact mm_rt rfl rfl (hQ _ _ hIg7 (fun k j hk => (hfg7 k j (fun h => hk (Or.elim h (fun h => (Or.inl h)) (fun h => (Or.elim h (fun h => (Or.inr (Or.inl h))) (fun h => (Or.inr (Or.inr h))))))))) (by omega) (by omega))
