/-! CONTRACTS once more: what is thrown, the tape (wip/p2/tools/gen30.py) -/
theorem t_X11_blend {d : Nat} (hd : 16 ≤ d) {x : mm_X} (hx : mk_x x) {g : mz_G} (hI : mz_inv g) {a1 : Int} (l_a1 : (-2147483648) ≤ a1) (u_a1 : a1 ≤ 2147483647) {a2 : Int} (l_a2 : (-2147483648) ≤ a2) (u_a2 : a2 ≤ 2147483647) {a3 : Int} (l_a3 : (-2147483648) ≤ a3) (u_a3 : a3 ≤ 2147483647) {Q : (Option Value ⊕ Nat) → mm_H → Prop} (hQ : ∀ (r : Int) (g1 : mz_G), mz_inv g1 → mz_fr (fw_X11_blend x a1 a2 a3) g g1 → (-2147483648) ≤ r → r ≤ 2147483647 → Q (.inl (some (.int (Int32.ofInt r)))) (mz_mk g1 x)) (hX0 : Q (.inr 0) (mz_mk g (mz_tx x))) (hX1 : Q (.inr 1) (mz_mk g (mz_tx x))) : mm_C d 141 [.ref 0, .int (Int32.ofInt a1), .int (Int32.ofInt a2), .int (Int32.ofInt a3)] (mz_mk g x) Q := by
  have kx := kn_x hx
  refine ⟨mmX11_blend, [some (.ref 0), some (.int (Int32.ofInt a1)), some (.int (Int32.ofInt a2)), some (.int (Int32.ofInt a3))], rfl, rfl, ?_⟩
  refine mm_g 2 (pc1 := 2) (lo1 := [some (.ref 0), some (.int (Int32.ofInt a1)), some (.int (Int32.ofInt a2)), some (.int (Int32.ofInt a3))]) (st1 := [.int (Int32.ofInt a1), .ref 0]) (H1 := mz_mk g x) rfl ?_
  refine mz_cv rfl mt_11_231 (by decide) (sc_0 _) rfl (Nat.le_of_ble_eq_true rfl) (by omega) (c_X11_isTrunk (by omega) hx hI l_a1 u_a1 (fun v1 l_v1 u_v1 => ⟨_, rfl, ?_⟩))
  show mm_W d mmX11_blend 5 [some (.ref 0), some (.int (Int32.ofInt a1)), some (.int (Int32.ofInt a2)), some (.int (Int32.ofInt a3))] [.int (Int32.ofInt v1)] (mz_mk g x) Q
  refine mz_csx rfl mt_11_183 rfl (Nat.le_of_ble_eq_true rfl) (by omega) rfl nh_X11_mustBe (t_X11_mustBe (by omega) hx hI l_v1 u_v1 (fun hp2 => ?_) hX0)
  show mm_W d mmX11_blend 8 [some (.ref 0), some (.int (Int32.ofInt a1)), some (.int (Int32.ofInt a2)), some (.int (Int32.ofInt a3))] [] (mz_mk g x) Q
  refine mm_g 1 (pc1 := 9) (lo1 := [some (.ref 0), some (.int (Int32.ofInt a1)), some (.int (Int32.ofInt a2)), some (.int (Int32.ofInt a3))]) (st1 := [.int (Int32.ofInt a3)]) (H1 := mz_mk g x) rfl ?_
  refine mz_cs rfl mt_11_279 (by decide) rfl (Nat.le_of_ble_eq_true rfl) (by omega) (c_X11_isAhead (by omega) hx hI l_a3 u_a3 (fun v3 l_v3 u_v3 => ⟨_, rfl, ?_⟩))
  show mm_W d mmX11_blend 12 [some (.ref 0), some (.int (Int32.ofInt a1)), some (.int (Int32.ofInt a2)), some (.int (Int32.ofInt a3))] [.int (Int32.ofInt v3)] (mz_mk g x) Q
  refine mz_csx rfl mt_11_106 rfl (Nat.le_of_ble_eq_true rfl) (by omega) rfl nh_X11_mustFit (t_X11_mustFit (by omega) hx hI l_v3 u_v3 (fun hp4 => ?_) (fun _ => hX1))
  show mm_W d mmX11_blend 15 [some (.ref 0), some (.int (Int32.ofInt a1)), some (.int (Int32.ofInt a2)), some (.int (Int32.ofInt a3))] [] (mz_mk g x) Q
  refine mm_g 3 (pc1 := 18) (lo1 := [some (.ref 0), some (.int (Int32.ofInt a1)), some (.int (Int32.ofInt a2)), some (.int (Int32.ofInt a3))]) (st1 := [.ref 0, .int (Int32.ofInt a1), .ref 0]) (H1 := mz_mk g x) rfl ?_
  refine mz_fgR (v := 86) rfl fd_11_37 (by decide) (sc_0 _) (rf_0_5 _ _ _) ?_
  refine mz_fgR (v := 87) rfl fd_11_158 (by decide) (sc_86 _) (rf_86_0 _ _ _) ?_
  refine mm_g 1 (pc1 := 25) (lo1 := [some (.ref 0), some (.int (Int32.ofInt a1)), some (.int (Int32.ofInt a2)), some (.int (Int32.ofInt a3))]) (st1 := [.int (Int32.ofInt a1), .ref 87, .int (Int32.ofInt a1), .ref 0]) (H1 := mz_mk g x) rfl ?_
  refine mz_cv rfl mt_11_192 (by decide) (sc_87 _) rfl (Nat.le_of_ble_eq_true rfl) (by omega) (c_X9_get (by omega) hx hI kp_tks_87 l_a1 u_a1 (fun u5 k_u5 hp6 => ⟨_, rfl, ?_⟩))
  show mm_W d mmX11_blend 28 [some (.ref 0), some (.int (Int32.ofInt a1)), some (.int (Int32.ofInt a2)), some (.int (Int32.ofInt a3))] [.ref u5, .int (Int32.ofInt a1), .ref 0] (mz_mk g x) Q
  refine mz_gI rfl fd_11_234 (by decide) (kc_trunk k_u5 _) hI (kb_trunk_2 k_u5) (fun v7 e_v7 l_v7 u_v7 => ?_)
  refine mm_g 1 (pc1 := 32) (lo1 := [some (.ref 0), some (.int (Int32.ofInt a1)), some (.int (Int32.ofInt a2)), some (.int (Int32.ofInt a3))]) (st1 := [.int (Int32.ofInt a3), .int (Int32.ofInt v7), .int (Int32.ofInt a1), .ref 0]) (H1 := mz_mk g x) rfl ?_
  refine mz_cv rfl mt_11_282 (by decide) (sc_0 _) rfl (Nat.le_of_ble_eq_true rfl) (by omega) (c_X11_growProbe (by omega) hx hI l_a1 u_a1 l_v7 u_v7 l_a3 u_a3 (fun g8 hIg8 hfg8 => ⟨_, rfl, ?_⟩))
  show mm_W d mmX11_blend 35 [some (.ref 0), some (.int (Int32.ofInt a1)), some (.int (Int32.ofInt a2)), some (.int (Int32.ofInt a3))] [] (mz_mk g8 x) Q
  refine mm_g 1 (pc1 := 36) (lo1 := [some (.ref 0), some (.int (Int32.ofInt a1)), some (.int (Int32.ofInt a2)), some (.int (Int32.ofInt a3))]) (st1 := [.ref 0]) (H1 := mz_mk g8 x) rfl ?_
  refine mz_fgR (v := x.1) rfl fd_11_16 (by decide) (sc_0 _) rfl ?_
  refine mm_g 1 (pc1 := 40) (lo1 := [some (.ref 0), some (.int (Int32.ofInt a1)), some (.int (Int32.ofInt a2)), some (.int (Int32.ofInt a3))]) (st1 := [.ref 0, .ref x.1]) (H1 := mz_mk g8 x) rfl ?_
  refine mz_fgR (v := 122) rfl fd_11_65 (by decide) (sc_0 _) (rf_0_10 _ _ _) ?_
  refine mm_g 1 (pc1 := 44) (lo1 := [some (.ref 0), some (.int (Int32.ofInt a1)), some (.int (Int32.ofInt a2)), some (.int (Int32.ofInt a3))]) (st1 := [.ref 0, .ref 122, .ref x.1]) (H1 := mz_mk g8 x) rfl ?_
  refine mz_fgR (v := 133) rfl fd_11_84 (by decide) (sc_0 _) (rf_0_13 _ _ _) ?_
  refine mz_cv rfl mt_11_286 (by decide) (kc_load (kx_1 hx) _) rfl (Nat.le_of_ble_eq_true rfl) (by omega) (c_X1_blendInto (by omega) hx hIg8 (kx_1 hx) kp_trunk_122 kp_let_133 (fun g9 hIg9 hfg9 => ⟨_, rfl, ?_⟩))
  show mm_W d mmX11_blend 50 [some (.ref 0), some (.int (Int32.ofInt a1)), some (.int (Int32.ofInt a2)), some (.int (Int32.ofInt a3))] [] (mz_mk g9 x) Q
  refine mm_g 1 (pc1 := 51) (lo1 := [some (.ref 0), some (.int (Int32.ofInt a1)), some (.int (Int32.ofInt a2)), some (.int (Int32.ofInt a3))]) (st1 := [.int (Int32.ofInt a2)]) (H1 := mz_mk g9 x) rfl ?_
  refine mz_if_lt (tgt := 76) rfl rfl (mz_rg l_a2 u_a2) (fun c51_9 => ?_) (fun c51_9 => ?_)
  · skip
    refine mm_g 1 (pc1 := 77) (lo1 := [some (.ref 0), some (.int (Int32.ofInt a1)), some (.int (Int32.ofInt a2)), some (.int (Int32.ofInt a3))]) (st1 := [.int (Int32.ofInt (-1))]) (H1 := mz_mk g9 x) rfl ?_
    exact mm_rt rfl rfl (hQ _ _ hIg9 (fun k j hk => ((hfg9 k j (fun h => hk (Or.elim h (fun h => (Or.inr (Or.inr (Or.inr (Or.inl h))))) (fun h => (Or.inr (Or.inr (Or.inr (Or.inr h)))))))).trans (hfg8 k j (fun h => hk (Or.elim h (fun h => (Or.inl h)) (fun h => (Or.elim h (fun h => (Or.inr (Or.inl h))) (fun h => (Or.inr (Or.inr (Or.inl h))))))))))) (by decide) (by decide))
  · skip
    refine mm_g 2 (pc1 := 56) (lo1 := [some (.ref 0), some (.int (Int32.ofInt a1)), some (.int (Int32.ofInt a2)), some (.int (Int32.ofInt a3))]) (st1 := [.ref 0, .int (Int32.ofInt a2)]) (H1 := mz_mk g9 x) rfl ?_
    refine mz_fgR (v := 133) rfl fd_11_84 (by decide) (sc_0 _) (rf_0_13 _ _ _) ?_
    refine mz_cv rfl mt_11_207 (by decide) (sc_133 _) rfl (Nat.le_of_ble_eq_true rfl) (by omega) (c_X0_length (by omega) hx hIg9 kp_let_133 (fun v10 l_v10 u_v10 => ⟨_, rfl, ?_⟩))
    show mm_W d mmX11_blend 62 [some (.ref 0), some (.int (Int32.ofInt a1)), some (.int (Int32.ofInt a2)), some (.int (Int32.ofInt a3))] [.int (Int32.ofInt v10), .int (Int32.ofInt a2)] (mz_mk g9 x) Q
    refine mz_ic_ge (tgt := 76) rfl rfl (mz_rg l_a2 u_a2) (mz_rg l_v10 u_v10) (fun c62_10 => ?_) (fun c62_10 => ?_)
    · skip
      refine mm_g 1 (pc1 := 77) (lo1 := [some (.ref 0), some (.int (Int32.ofInt a1)), some (.int (Int32.ofInt a2)), some (.int (Int32.ofInt a3))]) (st1 := [.int (Int32.ofInt (-1))]) (H1 := mz_mk g9 x) rfl ?_
      exact mm_rt rfl rfl (hQ _ _ hIg9 (fun k j hk => ((hfg9 k j (fun h => hk (Or.elim h (fun h => (Or.inr (Or.inr (Or.inr (Or.inl h))))) (fun h => (Or.inr (Or.inr (Or.inr (Or.inr h)))))))).trans (hfg8 k j (fun h => hk (Or.elim h (fun h => (Or.inl h)) (fun h => (Or.elim h (fun h => (Or.inr (Or.inl h))) (fun h => (Or.inr (Or.inr (Or.inl h))))))))))) (by decide) (by decide))
    · skip
      refine mm_g 1 (pc1 := 66) (lo1 := [some (.ref 0), some (.int (Int32.ofInt a1)), some (.int (Int32.ofInt a2)), some (.int (Int32.ofInt a3))]) (st1 := [.ref 0]) (H1 := mz_mk g9 x) rfl ?_
      refine mz_fgR (v := 133) rfl fd_11_84 (by decide) (sc_0 _) (rf_0_13 _ _ _) ?_
      refine mm_g 1 (pc1 := 70) (lo1 := [some (.ref 0), some (.int (Int32.ofInt a1)), some (.int (Int32.ofInt a2)), some (.int (Int32.ofInt a3))]) (st1 := [.int (Int32.ofInt a2), .ref 133]) (H1 := mz_mk g9 x) rfl ?_
      refine mz_cv rfl mt_11_228 (by decide) (sc_133 _) rfl (Nat.le_of_ble_eq_true rfl) (by omega) (c_X0_signAt (by omega) hx hIg9 kp_let_133 l_a2 u_a2 (fun v11 l_v11 u_v11 => ⟨_, rfl, ?_⟩))
      show mm_W d mmX11_blend 73 [some (.ref 0), some (.int (Int32.ofInt a1)), some (.int (Int32.ofInt a2)), some (.int (Int32.ofInt a3))] [.int (Int32.ofInt v11)] (mz_mk g9 x) Q
      refine mz_gt (tgt := 77) rfl rfl ?_
      exact mm_rt rfl rfl (hQ _ _ hIg9 (fun k j hk => ((hfg9 k j (fun h => hk (Or.elim h (fun h => (Or.inr (Or.inr (Or.inr (Or.inl h))))) (fun h => (Or.inr (Or.inr (Or.inr (Or.inr h)))))))).trans (hfg8 k j (fun h => hk (Or.elim h (fun h => (Or.inl h)) (fun h => (Or.elim h (fun h => (Or.inr (Or.inl h))) (fun h => (Or.inr (Or.inr (Or.inl h))))))))))) (by omega) (by omega))
theorem t_X11_later {d : Nat} (hd : 16 ≤ d) {x : mm_X} (hx : mk_x x) {g : mz_G} (hI : mz_inv g) {a1 : Int} (l_a1 : (-2147483648) ≤ a1) (u_a1 : a1 ≤ 2147483647) {a2 : Int} (l_a2 : (-2147483648) ≤ a2) (u_a2 : a2 ≤ 2147483647) {Q : (Option Value ⊕ Nat) → mm_H → Prop} (hQ : ∀ (r : Int) (g1 : mz_G), mz_inv g1 → mz_fr (fw_X11_later x a1 a2) g g1 → (-2147483648) ≤ r → r ≤ 2147483647 → Q (.inl (some (.int (Int32.ofInt r)))) (mz_mk g1 x)) (hX0 : Q (.inr 0) (mz_mk g (mz_tx x))) (hX1 : Q (.inr 1) (mz_mk g (mz_tx x))) : mm_C d 142 [.ref 0, .int (Int32.ofInt a1), .int (Int32.ofInt a2)] (mz_mk g x) Q := by
  have kx := kn_x hx
  refine ⟨mmX11_later, [some (.ref 0), some (.int (Int32.ofInt a1)), some (.int (Int32.ofInt a2)), none, none, none, none, none, none], rfl, rfl, ?_⟩
  refine mm_g 1 (pc1 := 1) (lo1 := [some (.ref 0), some (.int (Int32.ofInt a1)), some (.int (Int32.ofInt a2)), none, none, none, none, none, none]) (st1 := [.int (Int32.ofInt a2)]) (H1 := mz_mk g x) rfl ?_
  refine mz_if_lt (tgt := 13) rfl rfl (mz_rg l_a2 u_a2) (fun c1_0 => ?_) (fun c1_0 => ?_)
  · skip
    refine mm_g 1 (pc1 := 14) (lo1 := [some (.ref 0), some (.int (Int32.ofInt a1)), some (.int (Int32.ofInt a2)), none, none, none, none, none, none]) (st1 := [.int (Int32.ofInt 0)]) (H1 := mz_mk g x) rfl ?_
    refine mz_csx rfl mt_11_183 rfl (Nat.le_of_ble_eq_true rfl) (by omega) rfl nh_X11_mustBe (t_X11_mustBe (by omega) hx hI (by decide) (by decide) (fun hp1 => ?_) hX0)
    show mm_W d mmX11_later 17 [some (.ref 0), some (.int (Int32.ofInt a1)), some (.int (Int32.ofInt a2)), none, none, none, none, none, none] [] (mz_mk g x) Q
    exfalso; omega
  · skip
    refine mm_g 2 (pc1 := 6) (lo1 := [some (.ref 0), some (.int (Int32.ofInt a1)), some (.int (Int32.ofInt a2)), none, none, none, none, none, none]) (st1 := [.int (Int32.ofInt 2), .int (Int32.ofInt a2)]) (H1 := mz_mk g x) rfl ?_
    refine mz_ic_gt (tgt := 13) rfl rfl (mz_rg l_a2 u_a2) ⟨by decide, by decide⟩ (fun c6_1 => ?_) (fun c6_1 => ?_)
    · skip
      refine mm_g 1 (pc1 := 14) (lo1 := [some (.ref 0), some (.int (Int32.ofInt a1)), some (.int (Int32.ofInt a2)), none, none, none, none, none, none]) (st1 := [.int (Int32.ofInt 0)]) (H1 := mz_mk g x) rfl ?_
      refine mz_csx rfl mt_11_183 rfl (Nat.le_of_ble_eq_true rfl) (by omega) rfl nh_X11_mustBe (t_X11_mustBe (by omega) hx hI (by decide) (by decide) (fun hp2 => ?_) hX0)
      show mm_W d mmX11_later 17 [some (.ref 0), some (.int (Int32.ofInt a1)), some (.int (Int32.ofInt a2)), none, none, none, none, none, none] [] (mz_mk g x) Q
      exfalso; omega
    · skip
      refine mm_g 1 (pc1 := 10) (lo1 := [some (.ref 0), some (.int (Int32.ofInt a1)), some (.int (Int32.ofInt a2)), none, none, none, none, none, none]) (st1 := [.int (Int32.ofInt 1)]) (H1 := mz_mk g x) rfl ?_
      refine mz_gt (tgt := 14) rfl rfl ?_
      refine mz_csx rfl mt_11_183 rfl (Nat.le_of_ble_eq_true rfl) (by omega) rfl nh_X11_mustBe (t_X11_mustBe (by omega) hx hI (by decide) (by decide) (fun hp3 => ?_) hX0)
      show mm_W d mmX11_later 17 [some (.ref 0), some (.int (Int32.ofInt a1)), some (.int (Int32.ofInt a2)), none, none, none, none, none, none] [] (mz_mk g x) Q
      refine mm_g 1 (pc1 := 18) (lo1 := [some (.ref 0), some (.int (Int32.ofInt a1)), some (.int (Int32.ofInt a2)), none, none, none, none, none, none]) (st1 := [.int (Int32.ofInt a1)]) (H1 := mz_mk g x) rfl ?_
      refine mz_cs rfl mt_11_279 (by decide) rfl (Nat.le_of_ble_eq_true rfl) (by omega) (c_X11_isAhead (by omega) hx hI l_a1 u_a1 (fun v4 l_v4 u_v4 => ⟨_, rfl, ?_⟩))
      show mm_W d mmX11_later 21 [some (.ref 0), some (.int (Int32.ofInt a1)), some (.int (Int32.ofInt a2)), none, none, none, none, none, none] [.int (Int32.ofInt v4)] (mz_mk g x) Q
      refine mz_csx rfl mt_11_106 rfl (Nat.le_of_ble_eq_true rfl) (by omega) rfl nh_X11_mustFit (t_X11_mustFit (by omega) hx hI l_v4 u_v4 (fun hp5 => ?_) (fun _ => hX1))
      show mm_W d mmX11_later 24 [some (.ref 0), some (.int (Int32.ofInt a1)), some (.int (Int32.ofInt a2)), none, none, none, none, none, none] [] (mz_mk g x) Q
      refine mm_g 10 (pc1 := 38) (lo1 := [some (.ref 0), some (.int (Int32.ofInt a1)), some (.int (Int32.ofInt a2)), some (.int (Int32.ofInt 0)), some (.int (Int32.ofInt (-1))), some (.int (Int32.ofInt 0)), some (.int (Int32.ofInt 0)), some (.int (Int32.ofInt 0)), none]) (st1 := []) (H1 := mz_mk g x) rfl ?_
      have L15 : ∀ n14 : Nat, ∀ (v6 : Int) (v7 : Int) (v8 : Int) (v9 : Int) (v10 : Int) (o11 : Option Value) (g12 : mz_G), (6 - v10).toNat = n14 → 0 ≤ v6 → v6 ≤ 63 → (-1) ≤ v7 → v7 ≤ 5 → (-2147483648) ≤ v8 → v8 ≤ 2147483647 → (-2147483648) ≤ v9 → v9 ≤ 2147483647 → 0 ≤ v10 → v10 ≤ 6 → mz_nl o11 → mz_inv g12 → mz_fr (fl_X11_later_38 x a1 a2) g g12 → mm_W d mmX11_later 38 [some (.ref 0), some (.int (Int32.ofInt a1)), some (.int (Int32.ofInt a2)), some (.int (Int32.ofInt v6)), some (.int (Int32.ofInt v7)), some (.int (Int32.ofInt v8)), some (.int (Int32.ofInt v9)), some (.int (Int32.ofInt v10)), o11] [] (mz_mk g12 x) Q := by
        intro n14
        induction n14 using Nat.strongRecOn with
        | ind n14 ih13 =>
        intro v6 v7 v8 v9 v10 o11 g12 hmn14 l_v6 u_v6 l_v7 u_v7 l_v8 u_v8 l_v9 u_v9 l_v10 u_v10 h_o11 hIg12 hfg12
        refine mm_g 2 (pc1 := 41) (lo1 := [some (.ref 0), some (.int (Int32.ofInt a1)), some (.int (Int32.ofInt a2)), some (.int (Int32.ofInt v6)), some (.int (Int32.ofInt v7)), some (.int (Int32.ofInt v8)), some (.int (Int32.ofInt v9)), some (.int (Int32.ofInt v10)), o11]) (st1 := [.ref 0, .int (Int32.ofInt v10)]) (H1 := mz_mk g12 x) rfl ?_
        refine mz_cv rfl mt_11_155 (by decide) (sc_0 _) rfl (Nat.le_of_ble_eq_true rfl) (by omega) (c_X11_trunkCount (by omega) hx hIg12 (fun v16 l_v16 u_v16 => ⟨_, rfl, ?_⟩))
        show mm_W d mmX11_later 44 [some (.ref 0), some (.int (Int32.ofInt a1)), some (.int (Int32.ofInt a2)), some (.int (Int32.ofInt v6)), some (.int (Int32.ofInt v7)), some (.int (Int32.ofInt v8)), some (.int (Int32.ofInt v9)), some (.int (Int32.ofInt v10)), o11] [.int (Int32.ofInt v16), .int (Int32.ofInt v10)] (mz_mk g12 x) Q
        refine mz_ic_ge (tgt := 155) rfl rfl (mz_rg l_v10 u_v10) (mz_rg l_v16 u_v16) (fun c44_16 => ?_) (fun c44_16 => ?_)
        · skip
          refine mm_g 1 (pc1 := 156) (lo1 := [some (.ref 0), some (.int (Int32.ofInt a1)), some (.int (Int32.ofInt a2)), some (.int (Int32.ofInt v6)), some (.int (Int32.ofInt v7)), some (.int (Int32.ofInt v8)), some (.int (Int32.ofInt v9)), some (.int (Int32.ofInt v10)), o11]) (st1 := [.int (Int32.ofInt a2)]) (H1 := mz_mk g12 x) rfl ?_
          refine mz_if_ne (tgt := 163) rfl rfl (mz_rg l_a2 u_a2) (fun c156_16 => ?_) (fun c156_16 => ?_)
          · skip
            refine mm_g 2 (pc1 := 165) (lo1 := [some (.ref 0), some (.int (Int32.ofInt a1)), some (.int (Int32.ofInt a2)), some (.int (Int32.ofInt v6)), some (.int (Int32.ofInt v7)), some (.int (Int32.ofInt v8)), some (.int (Int32.ofInt v9)), some (.int (Int32.ofInt v10)), o11]) (st1 := [.int (Int32.ofInt 1), .int (Int32.ofInt a2)]) (H1 := mz_mk g12 x) rfl ?_
            refine mz_ic_ne (tgt := 173) rfl rfl (mz_rg l_a2 u_a2) ⟨by decide, by decide⟩ (fun c165_16 => ?_) (fun c165_16 => ?_)
            · skip
              refine mm_g 1 (pc1 := 175) (lo1 := [some (.ref 0), some (.int (Int32.ofInt a1)), some (.int (Int32.ofInt a2)), some (.int (Int32.ofInt v6)), some (.int (Int32.ofInt v7)), some (.int (Int32.ofInt v8)), some (.int (Int32.ofInt v9)), some (.int (Int32.ofInt v10)), o11]) (st1 := [.int (Int32.ofInt v9)]) (H1 := mz_mk g12 x) rfl ?_
              exact mm_rt rfl rfl (hQ _ _ hIg12 (fun k j hk => (hfg12 k j (fun h => hk (Or.elim h (fun h => (Or.inl h)) (fun h => (Or.elim h (fun h => (Or.inr (Or.inl h))) (fun h => (Or.inr (Or.inr h))))))))) (by omega) (by omega))
            · skip
              refine mm_g 1 (pc1 := 170) (lo1 := [some (.ref 0), some (.int (Int32.ofInt a1)), some (.int (Int32.ofInt a2)), some (.int (Int32.ofInt v6)), some (.int (Int32.ofInt v7)), some (.int (Int32.ofInt v8)), some (.int (Int32.ofInt v9)), some (.int (Int32.ofInt v10)), o11]) (st1 := [.int (Int32.ofInt v7)]) (H1 := mz_mk g12 x) rfl ?_
              refine mz_gt (tgt := 175) rfl rfl ?_
              exact mm_rt rfl rfl (hQ _ _ hIg12 (fun k j hk => (hfg12 k j (fun h => hk (Or.elim h (fun h => (Or.inl h)) (fun h => (Or.elim h (fun h => (Or.inr (Or.inl h))) (fun h => (Or.inr (Or.inr h))))))))) (by omega) (by omega))
          · skip
            refine mm_g 1 (pc1 := 160) (lo1 := [some (.ref 0), some (.int (Int32.ofInt a1)), some (.int (Int32.ofInt a2)), some (.int (Int32.ofInt v6)), some (.int (Int32.ofInt v7)), some (.int (Int32.ofInt v8)), some (.int (Int32.ofInt v9)), some (.int (Int32.ofInt v10)), o11]) (st1 := [.int (Int32.ofInt v6)]) (H1 := mz_mk g12 x) rfl ?_
            refine mz_gt (tgt := 175) rfl rfl ?_
            exact mm_rt rfl rfl (hQ _ _ hIg12 (fun k j hk => (hfg12 k j (fun h => hk (Or.elim h (fun h => (Or.inl h)) (fun h => (Or.elim h (fun h => (Or.inr (Or.inl h))) (fun h => (Or.inr (Or.inr h))))))))) (by omega) (by omega))
        · skip
          refine mm_g 1 (pc1 := 48) (lo1 := [some (.ref 0), some (.int (Int32.ofInt a1)), some (.int (Int32.ofInt a2)), some (.int (Int32.ofInt v6)), some (.int (Int32.ofInt v7)), some (.int (Int32.ofInt v8)), some (.int (Int32.ofInt v9)), some (.int (Int32.ofInt v10)), o11]) (st1 := [.ref 0]) (H1 := mz_mk g12 x) rfl ?_
          refine mz_fgR (v := 86) rfl fd_11_37 (by decide) (sc_0 _) (rf_0_5 _ _ _) ?_
          refine mz_fgR (v := 87) rfl fd_11_158 (by decide) (sc_86 _) (rf_86_0 _ _ _) ?_
          refine mm_g 1 (pc1 := 56) (lo1 := [some (.ref 0), some (.int (Int32.ofInt a1)), some (.int (Int32.ofInt a2)), some (.int (Int32.ofInt v6)), some (.int (Int32.ofInt v7)), some (.int (Int32.ofInt v8)), some (.int (Int32.ofInt v9)), some (.int (Int32.ofInt v10)), o11]) (st1 := [.int (Int32.ofInt v10), .ref 87]) (H1 := mz_mk g12 x) rfl ?_
          refine mz_cv rfl mt_11_192 (by decide) (sc_87 _) rfl (Nat.le_of_ble_eq_true rfl) (by omega) (c_X9_get (by omega) hx hIg12 kp_tks_87 (by omega) (by omega) (fun u17 k_u17 hp18 => ⟨_, rfl, ?_⟩))
          show mm_W d mmX11_later 59 [some (.ref 0), some (.int (Int32.ofInt a1)), some (.int (Int32.ofInt a2)), some (.int (Int32.ofInt v6)), some (.int (Int32.ofInt v7)), some (.int (Int32.ofInt v8)), some (.int (Int32.ofInt v9)), some (.int (Int32.ofInt v10)), o11] [.ref u17] (mz_mk g12 x) Q
          refine mm_g 4 (pc1 := 66) (lo1 := [some (.ref 0), some (.int (Int32.ofInt a1)), some (.int (Int32.ofInt a2)), some (.int (Int32.ofInt v6)), some (.int (Int32.ofInt v7)), some (.int (Int32.ofInt v8)), some (.int (Int32.ofInt v9)), some (.int (Int32.ofInt v10)), some (.ref u17)]) (st1 := [.ref u17, .int (Int32.ofInt v10), .ref 0]) (H1 := mz_mk g12 x) rfl ?_
          refine mz_gI rfl fd_11_234 (by decide) (kc_trunk k_u17 _) hIg12 (kb_trunk_2 k_u17) (fun v19 e_v19 l_v19 u_v19 => ?_)
          refine mm_g 1 (pc1 := 70) (lo1 := [some (.ref 0), some (.int (Int32.ofInt a1)), some (.int (Int32.ofInt a2)), some (.int (Int32.ofInt v6)), some (.int (Int32.ofInt v7)), some (.int (Int32.ofInt v8)), some (.int (Int32.ofInt v9)), some (.int (Int32.ofInt v10)), some (.ref u17)]) (st1 := [.int (Int32.ofInt a1), .int (Int32.ofInt v19), .int (Int32.ofInt v10), .ref 0]) (H1 := mz_mk g12 x) rfl ?_
          refine mz_cv rfl mt_11_282 (by decide) (sc_0 _) rfl (Nat.le_of_ble_eq_true rfl) (by omega) (c_X11_growProbe (by omega) hx hIg12 (by omega) (by omega) l_v19 u_v19 l_a1 u_a1 (fun g20 hIg20 hfg20 => ⟨_, rfl, ?_⟩))
          show mm_W d mmX11_later 73 [some (.ref 0), some (.int (Int32.ofInt a1)), some (.int (Int32.ofInt a2)), some (.int (Int32.ofInt v6)), some (.int (Int32.ofInt v7)), some (.int (Int32.ofInt v8)), some (.int (Int32.ofInt v9)), some (.int (Int32.ofInt v10)), some (.ref u17)] [] (mz_mk g20 x) Q
          refine mm_g 2 (pc1 := 75) (lo1 := [some (.ref 0), some (.int (Int32.ofInt a1)), some (.int (Int32.ofInt a2)), some (.int (Int32.ofInt v6)), some (.int (Int32.ofInt v7)), some (.int (Int32.ofInt v8)), some (.int (Int32.ofInt v9)), some (.int (Int32.ofInt v10)), some (.ref u17)]) (st1 := [.ref 0, .int (Int32.ofInt v6)]) (H1 := mz_mk g20 x) rfl ?_
          refine mz_fgR (v := x.1) rfl fd_11_16 (by decide) (sc_0 _) rfl ?_
          refine mm_g 1 (pc1 := 79) (lo1 := [some (.ref 0), some (.int (Int32.ofInt a1)), some (.int (Int32.ofInt a2)), some (.int (Int32.ofInt v6)), some (.int (Int32.ofInt v7)), some (.int (Int32.ofInt v8)), some (.int (Int32.ofInt v9)), some (.int (Int32.ofInt v10)), some (.ref u17)]) (st1 := [.ref 0, .ref x.1, .int (Int32.ofInt v6)]) (H1 := mz_mk g20 x) rfl ?_
          refine mz_fgR (v := 122) rfl fd_11_65 (by decide) (sc_0 _) (rf_0_10 _ _ _) ?_
          refine mz_cv rfl mt_11_259 (by decide) (kc_load (kx_1 hx) _) rfl (Nat.le_of_ble_eq_true rfl) (by omega) (c_X1_isFull (by omega) hx hIg20 (kx_1 hx) kp_trunk_122 (fun v21 l_v21 u_v21 => ⟨_, rfl, ?_⟩))
          show mm_W d mmX11_later 85 [some (.ref 0), some (.int (Int32.ofInt a1)), some (.int (Int32.ofInt a2)), some (.int (Int32.ofInt v6)), some (.int (Int32.ofInt v7)), some (.int (Int32.ofInt v8)), some (.int (Int32.ofInt v9)), some (.int (Int32.ofInt v10)), some (.ref u17)] [.int (Int32.ofInt v21), .int (Int32.ofInt v6)] (mz_mk g20 x) Q
          refine mz_if_eq (tgt := 95) rfl rfl (mz_rg l_v21 u_v21) (fun c85_21 => ?_) (fun c85_21 => ?_)
          · skip
            refine mm_g 1 (pc1 := 96) (lo1 := [some (.ref 0), some (.int (Int32.ofInt a1)), some (.int (Int32.ofInt a2)), some (.int (Int32.ofInt v6)), some (.int (Int32.ofInt v7)), some (.int (Int32.ofInt v8)), some (.int (Int32.ofInt v9)), some (.int (Int32.ofInt v10)), some (.ref u17)]) (st1 := [.int (Int32.ofInt 0), .int (Int32.ofInt v6)]) (H1 := mz_mk g20 x) rfl ?_
            refine mz_ior rfl (fun v22 e_v22 hwv22 => ?_)
            have b_v22 : 0 ≤ v22 ∧ v22 ≤ 63 := by rw [e_v22]; exact mz_or_lt (n := 6) (by decide) (by omega) (by omega) (by omega) (by omega)
            have l_v22 := b_v22.1
            have u_v22 := b_v22.2
            refine mm_g 2 (pc1 := 99) (lo1 := [some (.ref 0), some (.int (Int32.ofInt a1)), some (.int (Int32.ofInt a2)), some (.int (Int32.ofInt v22)), some (.int (Int32.ofInt v7)), some (.int (Int32.ofInt v8)), some (.int (Int32.ofInt v9)), some (.int (Int32.ofInt v10)), some (.ref u17)]) (st1 := [.ref 0]) (H1 := mz_mk g20 x) rfl ?_
            refine mz_fgR (v := x.1) rfl fd_11_16 (by decide) (sc_0 _) rfl ?_
            refine mm_g 1 (pc1 := 103) (lo1 := [some (.ref 0), some (.int (Int32.ofInt a1)), some (.int (Int32.ofInt a2)), some (.int (Int32.ofInt v22)), some (.int (Int32.ofInt v7)), some (.int (Int32.ofInt v8)), some (.int (Int32.ofInt v9)), some (.int (Int32.ofInt v10)), some (.ref u17)]) (st1 := [.ref 0, .ref x.1]) (H1 := mz_mk g20 x) rfl ?_
            refine mz_fgR (v := 122) rfl fd_11_65 (by decide) (sc_0 _) (rf_0_10 _ _ _) ?_
            refine mz_cv rfl mt_11_244 (by decide) (kc_load (kx_1 hx) _) rfl (Nat.le_of_ble_eq_true rfl) (by omega) (c_X1_blendSize (by omega) hx hIg20 (kx_1 hx) kp_trunk_122 (fun v23 l_v23 u_v23 => ⟨_, rfl, ?_⟩))
            show mm_W d mmX11_later 109 [some (.ref 0), some (.int (Int32.ofInt a1)), some (.int (Int32.ofInt a2)), some (.int (Int32.ofInt v22)), some (.int (Int32.ofInt v7)), some (.int (Int32.ofInt v8)), some (.int (Int32.ofInt v9)), some (.int (Int32.ofInt v10)), some (.ref u17)] [.int (Int32.ofInt v23)] (mz_mk g20 x) Q
            refine mm_g 1 (pc1 := 111) (lo1 := [some (.ref 0), some (.int (Int32.ofInt a1)), some (.int (Int32.ofInt a2)), some (.int (Int32.ofInt v22)), some (.int (Int32.ofInt v7)), some (.int (Int32.ofInt v8)), some (.int (Int32.ofInt v9)), some (.int (Int32.ofInt v10)), some (.ref u17)]) (st1 := [.int (Int32.ofInt v8), .int (Int32.ofInt v23)]) (H1 := mz_mk g20 x) rfl ?_
            refine mz_ic_le (tgt := 131) rfl rfl (mz_rg l_v23 u_v23) (mz_rg l_v8 u_v8) (fun c111_23 => ?_) (fun c111_23 => ?_)
            · skip
              refine mm_g 2 (pc1 := 134) (lo1 := [some (.ref 0), some (.int (Int32.ofInt a1)), some (.int (Int32.ofInt a2)), some (.int (Int32.ofInt v22)), some (.int (Int32.ofInt v7)), some (.int (Int32.ofInt v8)), some (.int (Int32.ofInt v9)), some (.int (Int32.ofInt v10)), some (.ref u17)]) (st1 := [.ref 0, .int (Int32.ofInt v9)]) (H1 := mz_mk g20 x) rfl ?_
              refine mz_fgR (v := 122) rfl fd_11_65 (by decide) (sc_0 _) (rf_0_10 _ _ _) ?_
              refine mz_gI rfl fd_11_237 (by decide) (sc_122 _) hIg20 bd_122_3 (fun v24 e_v24 l_v24 u_v24 => ?_)
              refine mm_g 1 (pc1 := 142) (lo1 := [some (.ref 0), some (.int (Int32.ofInt a1)), some (.int (Int32.ofInt a2)), some (.int (Int32.ofInt v22)), some (.int (Int32.ofInt v7)), some (.int (Int32.ofInt v8)), some (.int (Int32.ofInt v9)), some (.int (Int32.ofInt v10)), some (.ref u17)]) (st1 := [.ref u17, .int (Int32.ofInt v24), .int (Int32.ofInt v9)]) (H1 := mz_mk g20 x) rfl ?_
              refine mz_gI rfl fd_11_237 (by decide) (kc_trunk k_u17 _) hIg20 (kb_trunk_3 k_u17) (fun v25 e_v25 l_v25 u_v25 => ?_)
              refine mz_isub_w rfl (fun v26 _ hwv26 => ?_)
              have l_v26 := hwv26.1
              have u_v26 := hwv26.2
              refine mz_iadd_w rfl (fun v27 _ hwv27 => ?_)
              have l_v27 := hwv27.1
              have u_v27 := hwv27.2
              refine mm_g 1 (pc1 := 149) (lo1 := [some (.ref 0), some (.int (Int32.ofInt a1)), some (.int (Int32.ofInt a2)), some (.int (Int32.ofInt v22)), some (.int (Int32.ofInt v7)), some (.int (Int32.ofInt v8)), some (.int (Int32.ofInt v27)), some (.int (Int32.ofInt v10)), some (.ref u17)]) (st1 := []) (H1 := mz_mk g20 x) rfl ?_
              refine mz_iincR (v := v10) (lo2 := [some (.ref 0), some (.int (Int32.ofInt a1)), some (.int (Int32.ofInt a2)), some (.int (Int32.ofInt v22)), some (.int (Int32.ofInt v7)), some (.int (Int32.ofInt v8)), some (.int (Int32.ofInt v27)), some (.int (Int32.ofInt (v10 + 1))), some (.ref u17)]) rfl rfl rfl (Nat.le_of_ble_eq_true rfl) rfl ?_
              refine mz_gt (tgt := 38) rfl rfl ?_
              exact ih13 ((6 - (v10 + 1)).toNat) (by omega) v22 v7 v8 v27 (v10 + 1) (some (.ref u17)) g20 rfl (by omega) (by omega) (by omega) (by omega) (by omega) (by omega) (by omega) (by omega) (by omega) (by omega) (mz_nl_r _) hIg20 (fun k j hk => ((hfg20 k j (fun h => hk (Or.elim h (fun h => (Or.inl h)) (fun h => (Or.elim h (fun h => (Or.inr (Or.inl h))) (fun h => (Or.inr (Or.inr h)))))))).trans (hfg12 k j (fun h => hk (Or.elim h (fun h => (Or.inl h)) (fun h => (Or.elim h (fun h => (Or.inr (Or.inl h))) (fun h => (Or.inr (Or.inr h))))))))))
            · skip
              refine mm_g 3 (pc1 := 119) (lo1 := [some (.ref 0), some (.int (Int32.ofInt a1)), some (.int (Int32.ofInt a2)), some (.int (Int32.ofInt v22)), some (.int (Int32.ofInt v10)), some (.int (Int32.ofInt v8)), some (.int (Int32.ofInt v9)), some (.int (Int32.ofInt v10)), some (.ref u17)]) (st1 := [.ref 0]) (H1 := mz_mk g20 x) rfl ?_
              refine mz_fgR (v := x.1) rfl fd_11_16 (by decide) (sc_0 _) rfl ?_
              refine mm_g 1 (pc1 := 123) (lo1 := [some (.ref 0), some (.int (Int32.ofInt a1)), some (.int (Int32.ofInt a2)), some (.int (Int32.ofInt v22)), some (.int (Int32.ofInt v10)), some (.int (Int32.ofInt v8)), some (.int (Int32.ofInt v9)), some (.int (Int32.ofInt v10)), some (.ref u17)]) (st1 := [.ref 0, .ref x.1]) (H1 := mz_mk g20 x) rfl ?_
              refine mz_fgR (v := 122) rfl fd_11_65 (by decide) (sc_0 _) (rf_0_10 _ _ _) ?_
              refine mz_cv rfl mt_11_244 (by decide) (kc_load (kx_1 hx) _) rfl (Nat.le_of_ble_eq_true rfl) (by omega) (c_X1_blendSize (by omega) hx hIg20 (kx_1 hx) kp_trunk_122 (fun v28 l_v28 u_v28 => ⟨_, rfl, ?_⟩))
              show mm_W d mmX11_later 129 [some (.ref 0), some (.int (Int32.ofInt a1)), some (.int (Int32.ofInt a2)), some (.int (Int32.ofInt v22)), some (.int (Int32.ofInt v10)), some (.int (Int32.ofInt v8)), some (.int (Int32.ofInt v9)), some (.int (Int32.ofInt v10)), some (.ref u17)] [.int (Int32.ofInt v28)] (mz_mk g20 x) Q
              refine mm_g 3 (pc1 := 134) (lo1 := [some (.ref 0), some (.int (Int32.ofInt a1)), some (.int (Int32.ofInt a2)), some (.int (Int32.ofInt v22)), some (.int (Int32.ofInt v10)), some (.int (Int32.ofInt v28)), some (.int (Int32.ofInt v9)), some (.int (Int32.ofInt v10)), some (.ref u17)]) (st1 := [.ref 0, .int (Int32.ofInt v9)]) (H1 := mz_mk g20 x) rfl ?_
              refine mz_fgR (v := 122) rfl fd_11_65 (by decide) (sc_0 _) (rf_0_10 _ _ _) ?_
              refine mz_gI rfl fd_11_237 (by decide) (sc_122 _) hIg20 bd_122_3 (fun v29 e_v29 l_v29 u_v29 => ?_)
              refine mm_g 1 (pc1 := 142) (lo1 := [some (.ref 0), some (.int (Int32.ofInt a1)), some (.int (Int32.ofInt a2)), some (.int (Int32.ofInt v22)), some (.int (Int32.ofInt v10)), some (.int (Int32.ofInt v28)), some (.int (Int32.ofInt v9)), some (.int (Int32.ofInt v10)), some (.ref u17)]) (st1 := [.ref u17, .int (Int32.ofInt v29), .int (Int32.ofInt v9)]) (H1 := mz_mk g20 x) rfl ?_
              refine mz_gI rfl fd_11_237 (by decide) (kc_trunk k_u17 _) hIg20 (kb_trunk_3 k_u17) (fun v30 e_v30 l_v30 u_v30 => ?_)
              refine mz_isub_w rfl (fun v31 _ hwv31 => ?_)
              have l_v31 := hwv31.1
              have u_v31 := hwv31.2
              refine mz_iadd_w rfl (fun v32 _ hwv32 => ?_)
              have l_v32 := hwv32.1
              have u_v32 := hwv32.2
              refine mm_g 1 (pc1 := 149) (lo1 := [some (.ref 0), some (.int (Int32.ofInt a1)), some (.int (Int32.ofInt a2)), some (.int (Int32.ofInt v22)), some (.int (Int32.ofInt v10)), some (.int (Int32.ofInt v28)), some (.int (Int32.ofInt v32)), some (.int (Int32.ofInt v10)), some (.ref u17)]) (st1 := []) (H1 := mz_mk g20 x) rfl ?_
              refine mz_iincR (v := v10) (lo2 := [some (.ref 0), some (.int (Int32.ofInt a1)), some (.int (Int32.ofInt a2)), some (.int (Int32.ofInt v22)), some (.int (Int32.ofInt v10)), some (.int (Int32.ofInt v28)), some (.int (Int32.ofInt v32)), some (.int (Int32.ofInt (v10 + 1))), some (.ref u17)]) rfl rfl rfl (Nat.le_of_ble_eq_true rfl) rfl ?_
              refine mz_gt (tgt := 38) rfl rfl ?_
              exact ih13 ((6 - (v10 + 1)).toNat) (by omega) v22 v10 v28 v32 (v10 + 1) (some (.ref u17)) g20 rfl (by omega) (by omega) (by omega) (by omega) (by omega) (by omega) (by omega) (by omega) (by omega) (by omega) (mz_nl_r _) hIg20 (fun k j hk => ((hfg20 k j (fun h => hk (Or.elim h (fun h => (Or.inl h)) (fun h => (Or.elim h (fun h => (Or.inr (Or.inl h))) (fun h => (Or.inr (Or.inr h)))))))).trans (hfg12 k j (fun h => hk (Or.elim h (fun h => (Or.inl h)) (fun h => (Or.elim h (fun h => (Or.inr (Or.inl h))) (fun h => (Or.inr (Or.inr h))))))))))
          · skip
            refine mm_g 2 (pc1 := 91) (lo1 := [some (.ref 0), some (.int (Int32.ofInt a1)), some (.int (Int32.ofInt a2)), some (.int (Int32.ofInt v6)), some (.int (Int32.ofInt v7)), some (.int (Int32.ofInt v8)), some (.int (Int32.ofInt v9)), some (.int (Int32.ofInt v10)), some (.ref u17)]) (st1 := [.int (Int32.ofInt v10), .int (Int32.ofInt 1), .int (Int32.ofInt v6)]) (H1 := mz_mk g20 x) rfl ?_
            refine mz_ishl rfl (fun v33 e_v33 hwv33 => ?_)
            have b_v33 : 1 ≤ v33 ∧ v33 ≤ 32 := by rw [e_v33]; exact mz_shl_b (lx := 1) (hx := 1) (k := 5) (by decide) (by decide) (by omega) (by omega) (by omega) (by omega)
            have l_v33 := b_v33.1
            have u_v33 := b_v33.2
            refine mz_gt (tgt := 96) rfl rfl ?_
            refine mz_ior rfl (fun v34 e_v34 hwv34 => ?_)
            have b_v34 : 0 ≤ v34 ∧ v34 ≤ 63 := by rw [e_v34]; exact mz_or_lt (n := 6) (by decide) (by omega) (by omega) (by omega) (by omega)
            have l_v34 := b_v34.1
            have u_v34 := b_v34.2
            refine mm_g 2 (pc1 := 99) (lo1 := [some (.ref 0), some (.int (Int32.ofInt a1)), some (.int (Int32.ofInt a2)), some (.int (Int32.ofInt v34)), some (.int (Int32.ofInt v7)), some (.int (Int32.ofInt v8)), some (.int (Int32.ofInt v9)), some (.int (Int32.ofInt v10)), some (.ref u17)]) (st1 := [.ref 0]) (H1 := mz_mk g20 x) rfl ?_
            refine mz_fgR (v := x.1) rfl fd_11_16 (by decide) (sc_0 _) rfl ?_
            refine mm_g 1 (pc1 := 103) (lo1 := [some (.ref 0), some (.int (Int32.ofInt a1)), some (.int (Int32.ofInt a2)), some (.int (Int32.ofInt v34)), some (.int (Int32.ofInt v7)), some (.int (Int32.ofInt v8)), some (.int (Int32.ofInt v9)), some (.int (Int32.ofInt v10)), some (.ref u17)]) (st1 := [.ref 0, .ref x.1]) (H1 := mz_mk g20 x) rfl ?_
            refine mz_fgR (v := 122) rfl fd_11_65 (by decide) (sc_0 _) (rf_0_10 _ _ _) ?_
            refine mz_cv rfl mt_11_244 (by decide) (kc_load (kx_1 hx) _) rfl (Nat.le_of_ble_eq_true rfl) (by omega) (c_X1_blendSize (by omega) hx hIg20 (kx_1 hx) kp_trunk_122 (fun v35 l_v35 u_v35 => ⟨_, rfl, ?_⟩))
            show mm_W d mmX11_later 109 [some (.ref 0), some (.int (Int32.ofInt a1)), some (.int (Int32.ofInt a2)), some (.int (Int32.ofInt v34)), some (.int (Int32.ofInt v7)), some (.int (Int32.ofInt v8)), some (.int (Int32.ofInt v9)), some (.int (Int32.ofInt v10)), some (.ref u17)] [.int (Int32.ofInt v35)] (mz_mk g20 x) Q
            refine mm_g 1 (pc1 := 111) (lo1 := [some (.ref 0), some (.int (Int32.ofInt a1)), some (.int (Int32.ofInt a2)), some (.int (Int32.ofInt v34)), some (.int (Int32.ofInt v7)), some (.int (Int32.ofInt v8)), some (.int (Int32.ofInt v9)), some (.int (Int32.ofInt v10)), some (.ref u17)]) (st1 := [.int (Int32.ofInt v8), .int (Int32.ofInt v35)]) (H1 := mz_mk g20 x) rfl ?_
            refine mz_ic_le (tgt := 131) rfl rfl (mz_rg l_v35 u_v35) (mz_rg l_v8 u_v8) (fun c111_35 => ?_) (fun c111_35 => ?_)
            · skip
              refine mm_g 2 (pc1 := 134) (lo1 := [some (.ref 0), some (.int (Int32.ofInt a1)), some (.int (Int32.ofInt a2)), some (.int (Int32.ofInt v34)), some (.int (Int32.ofInt v7)), some (.int (Int32.ofInt v8)), some (.int (Int32.ofInt v9)), some (.int (Int32.ofInt v10)), some (.ref u17)]) (st1 := [.ref 0, .int (Int32.ofInt v9)]) (H1 := mz_mk g20 x) rfl ?_
              refine mz_fgR (v := 122) rfl fd_11_65 (by decide) (sc_0 _) (rf_0_10 _ _ _) ?_
              refine mz_gI rfl fd_11_237 (by decide) (sc_122 _) hIg20 bd_122_3 (fun v36 e_v36 l_v36 u_v36 => ?_)
              refine mm_g 1 (pc1 := 142) (lo1 := [some (.ref 0), some (.int (Int32.ofInt a1)), some (.int (Int32.ofInt a2)), some (.int (Int32.ofInt v34)), some (.int (Int32.ofInt v7)), some (.int (Int32.ofInt v8)), some (.int (Int32.ofInt v9)), some (.int (Int32.ofInt v10)), some (.ref u17)]) (st1 := [.ref u17, .int (Int32.ofInt v36), .int (Int32.ofInt v9)]) (H1 := mz_mk g20 x) rfl ?_
              refine mz_gI rfl fd_11_237 (by decide) (kc_trunk k_u17 _) hIg20 (kb_trunk_3 k_u17) (fun v37 e_v37 l_v37 u_v37 => ?_)
              refine mz_isub_w rfl (fun v38 _ hwv38 => ?_)
              have l_v38 := hwv38.1
              have u_v38 := hwv38.2
              refine mz_iadd_w rfl (fun v39 _ hwv39 => ?_)
              have l_v39 := hwv39.1
              have u_v39 := hwv39.2
              refine mm_g 1 (pc1 := 149) (lo1 := [some (.ref 0), some (.int (Int32.ofInt a1)), some (.int (Int32.ofInt a2)), some (.int (Int32.ofInt v34)), some (.int (Int32.ofInt v7)), some (.int (Int32.ofInt v8)), some (.int (Int32.ofInt v39)), some (.int (Int32.ofInt v10)), some (.ref u17)]) (st1 := []) (H1 := mz_mk g20 x) rfl ?_
              refine mz_iincR (v := v10) (lo2 := [some (.ref 0), some (.int (Int32.ofInt a1)), some (.int (Int32.ofInt a2)), some (.int (Int32.ofInt v34)), some (.int (Int32.ofInt v7)), some (.int (Int32.ofInt v8)), some (.int (Int32.ofInt v39)), some (.int (Int32.ofInt (v10 + 1))), some (.ref u17)]) rfl rfl rfl (Nat.le_of_ble_eq_true rfl) rfl ?_
              refine mz_gt (tgt := 38) rfl rfl ?_
              exact ih13 ((6 - (v10 + 1)).toNat) (by omega) v34 v7 v8 v39 (v10 + 1) (some (.ref u17)) g20 rfl (by omega) (by omega) (by omega) (by omega) (by omega) (by omega) (by omega) (by omega) (by omega) (by omega) (mz_nl_r _) hIg20 (fun k j hk => ((hfg20 k j (fun h => hk (Or.elim h (fun h => (Or.inl h)) (fun h => (Or.elim h (fun h => (Or.inr (Or.inl h))) (fun h => (Or.inr (Or.inr h)))))))).trans (hfg12 k j (fun h => hk (Or.elim h (fun h => (Or.inl h)) (fun h => (Or.elim h (fun h => (Or.inr (Or.inl h))) (fun h => (Or.inr (Or.inr h))))))))))
            · skip
              refine mm_g 3 (pc1 := 119) (lo1 := [some (.ref 0), some (.int (Int32.ofInt a1)), some (.int (Int32.ofInt a2)), some (.int (Int32.ofInt v34)), some (.int (Int32.ofInt v10)), some (.int (Int32.ofInt v8)), some (.int (Int32.ofInt v9)), some (.int (Int32.ofInt v10)), some (.ref u17)]) (st1 := [.ref 0]) (H1 := mz_mk g20 x) rfl ?_
              refine mz_fgR (v := x.1) rfl fd_11_16 (by decide) (sc_0 _) rfl ?_
              refine mm_g 1 (pc1 := 123) (lo1 := [some (.ref 0), some (.int (Int32.ofInt a1)), some (.int (Int32.ofInt a2)), some (.int (Int32.ofInt v34)), some (.int (Int32.ofInt v10)), some (.int (Int32.ofInt v8)), some (.int (Int32.ofInt v9)), some (.int (Int32.ofInt v10)), some (.ref u17)]) (st1 := [.ref 0, .ref x.1]) (H1 := mz_mk g20 x) rfl ?_
              refine mz_fgR (v := 122) rfl fd_11_65 (by decide) (sc_0 _) (rf_0_10 _ _ _) ?_
              refine mz_cv rfl mt_11_244 (by decide) (kc_load (kx_1 hx) _) rfl (Nat.le_of_ble_eq_true rfl) (by omega) (c_X1_blendSize (by omega) hx hIg20 (kx_1 hx) kp_trunk_122 (fun v40 l_v40 u_v40 => ⟨_, rfl, ?_⟩))
              show mm_W d mmX11_later 129 [some (.ref 0), some (.int (Int32.ofInt a1)), some (.int (Int32.ofInt a2)), some (.int (Int32.ofInt v34)), some (.int (Int32.ofInt v10)), some (.int (Int32.ofInt v8)), some (.int (Int32.ofInt v9)), some (.int (Int32.ofInt v10)), some (.ref u17)] [.int (Int32.ofInt v40)] (mz_mk g20 x) Q
              refine mm_g 3 (pc1 := 134) (lo1 := [some (.ref 0), some (.int (Int32.ofInt a1)), some (.int (Int32.ofInt a2)), some (.int (Int32.ofInt v34)), some (.int (Int32.ofInt v10)), some (.int (Int32.ofInt v40)), some (.int (Int32.ofInt v9)), some (.int (Int32.ofInt v10)), some (.ref u17)]) (st1 := [.ref 0, .int (Int32.ofInt v9)]) (H1 := mz_mk g20 x) rfl ?_
              refine mz_fgR (v := 122) rfl fd_11_65 (by decide) (sc_0 _) (rf_0_10 _ _ _) ?_
              refine mz_gI rfl fd_11_237 (by decide) (sc_122 _) hIg20 bd_122_3 (fun v41 e_v41 l_v41 u_v41 => ?_)
              refine mm_g 1 (pc1 := 142) (lo1 := [some (.ref 0), some (.int (Int32.ofInt a1)), some (.int (Int32.ofInt a2)), some (.int (Int32.ofInt v34)), some (.int (Int32.ofInt v10)), some (.int (Int32.ofInt v40)), some (.int (Int32.ofInt v9)), some (.int (Int32.ofInt v10)), some (.ref u17)]) (st1 := [.ref u17, .int (Int32.ofInt v41), .int (Int32.ofInt v9)]) (H1 := mz_mk g20 x) rfl ?_
              refine mz_gI rfl fd_11_237 (by decide) (kc_trunk k_u17 _) hIg20 (kb_trunk_3 k_u17) (fun v42 e_v42 l_v42 u_v42 => ?_)
              refine mz_isub_w rfl (fun v43 _ hwv43 => ?_)
              have l_v43 := hwv43.1
              have u_v43 := hwv43.2
              refine mz_iadd_w rfl (fun v44 _ hwv44 => ?_)
              have l_v44 := hwv44.1
              have u_v44 := hwv44.2
              refine mm_g 1 (pc1 := 149) (lo1 := [some (.ref 0), some (.int (Int32.ofInt a1)), some (.int (Int32.ofInt a2)), some (.int (Int32.ofInt v34)), some (.int (Int32.ofInt v10)), some (.int (Int32.ofInt v40)), some (.int (Int32.ofInt v44)), some (.int (Int32.ofInt v10)), some (.ref u17)]) (st1 := []) (H1 := mz_mk g20 x) rfl ?_
              refine mz_iincR (v := v10) (lo2 := [some (.ref 0), some (.int (Int32.ofInt a1)), some (.int (Int32.ofInt a2)), some (.int (Int32.ofInt v34)), some (.int (Int32.ofInt v10)), some (.int (Int32.ofInt v40)), some (.int (Int32.ofInt v44)), some (.int (Int32.ofInt (v10 + 1))), some (.ref u17)]) rfl rfl rfl (Nat.le_of_ble_eq_true rfl) rfl ?_
              refine mz_gt (tgt := 38) rfl rfl ?_
              exact ih13 ((6 - (v10 + 1)).toNat) (by omega) v34 v10 v40 v44 (v10 + 1) (some (.ref u17)) g20 rfl (by omega) (by omega) (by omega) (by omega) (by omega) (by omega) (by omega) (by omega) (by omega) (by omega) (mz_nl_r _) hIg20 (fun k j hk => ((hfg20 k j (fun h => hk (Or.elim h (fun h => (Or.inl h)) (fun h => (Or.elim h (fun h => (Or.inr (Or.inl h))) (fun h => (Or.inr (Or.inr h)))))))).trans (hfg12 k j (fun h => hk (Or.elim h (fun h => (Or.inl h)) (fun h => (Or.elim h (fun h => (Or.inr (Or.inl h))) (fun h => (Or.inr (Or.inr h))))))))))
      exact L15 _ 0 (-1) 0 0 0 none g rfl (by decide) (by decide) (by decide) (by decide) (by decide) (by decide) (by decide) (by decide) (by decide) (by decide) mz_nl_n hI (fun _ _ _ => rfl)
theorem t_X11_full {d : Nat} (hd : 15 ≤ d) {x : mm_X} (hx : mk_x x) {g : mz_G} (hI : mz_inv g) {a1 : Int} (l_a1 : (-2147483648) ≤ a1) (u_a1 : a1 ≤ 2147483647) {Q : (Option Value ⊕ Nat) → mm_H → Prop} (hQ : ∀ (r : Int) (g1 : mz_G), mz_inv g1 → mz_fr (fw_X11_full x a1) g g1 → (-1) ≤ r → r ≤ 60 → Q (.inl (some (.int (Int32.ofInt r)))) (mz_mk g1 x)) (hX0 : Q (.inr 0) (mz_mk g (mz_tx x))) : mm_C d 143 [.ref 0, .int (Int32.ofInt a1)] (mz_mk g x) Q := by
  have kx := kn_x hx
  refine ⟨mmX11_full, [some (.ref 0), some (.int (Int32.ofInt a1)), none], rfl, rfl, ?_⟩
  refine mm_g 2 (pc1 := 2) (lo1 := [some (.ref 0), some (.int (Int32.ofInt a1)), none]) (st1 := [.int (Int32.ofInt a1), .ref 0]) (H1 := mz_mk g x) rfl ?_
  refine mz_cv rfl mt_11_231 (by decide) (sc_0 _) rfl (Nat.le_of_ble_eq_true rfl) (by omega) (c_X11_isTrunk (by omega) hx hI l_a1 u_a1 (fun v1 l_v1 u_v1 => ⟨_, rfl, ?_⟩))
  show mm_W d mmX11_full 5 [some (.ref 0), some (.int (Int32.ofInt a1)), none] [.int (Int32.ofInt v1)] (mz_mk g x) Q
  refine mz_csx rfl mt_11_183 rfl (Nat.le_of_ble_eq_true rfl) (by omega) rfl nh_X11_mustBe (t_X11_mustBe (by omega) hx hI l_v1 u_v1 (fun hp2 => ?_) hX0)
  show mm_W d mmX11_full 8 [some (.ref 0), some (.int (Int32.ofInt a1)), none] [] (mz_mk g x) Q
  refine mm_g 1 (pc1 := 9) (lo1 := [some (.ref 0), some (.int (Int32.ofInt a1)), none]) (st1 := [.ref 0]) (H1 := mz_mk g x) rfl ?_
  refine mz_fgR (v := 122) rfl fd_11_65 (by decide) (sc_0 _) (rf_0_10 _ _ _) ?_
  refine mm_g 1 (pc1 := 13) (lo1 := [some (.ref 0), some (.int (Int32.ofInt a1)), none]) (st1 := [.ref 0, .ref 122]) (H1 := mz_mk g x) rfl ?_
  refine mz_fgR (v := 86) rfl fd_11_37 (by decide) (sc_0 _) (rf_0_5 _ _ _) ?_
  refine mz_fgR (v := 87) rfl fd_11_158 (by decide) (sc_86 _) (rf_86_0 _ _ _) ?_
  refine mm_g 1 (pc1 := 20) (lo1 := [some (.ref 0), some (.int (Int32.ofInt a1)), none]) (st1 := [.int (Int32.ofInt a1), .ref 87, .ref 122]) (H1 := mz_mk g x) rfl ?_
  refine mz_cv rfl mt_11_192 (by decide) (sc_87 _) rfl (Nat.le_of_ble_eq_true rfl) (by omega) (c_X9_get (by omega) hx hI kp_tks_87 l_a1 u_a1 (fun u3 k_u3 hp4 => ⟨_, rfl, ?_⟩))
  show mm_W d mmX11_full 23 [some (.ref 0), some (.int (Int32.ofInt a1)), none] [.ref u3, .ref 122] (mz_mk g x) Q
  refine mz_cv rfl mt_11_297 (by decide) (sc_122 _) rfl (Nat.le_of_ble_eq_true rfl) (by omega) (c_X8_becomeAs (by omega) hx hI kp_trunk_122 k_u3 (fun g5 hIg5 hfg5 => ⟨_, rfl, ?_⟩))
  show mm_W d mmX11_full 26 [some (.ref 0), some (.int (Int32.ofInt a1)), none] [] (mz_mk g5 x) Q
  refine mm_g 2 (pc1 := 28) (lo1 := [some (.ref 0), some (.int (Int32.ofInt a1)), some (.int (Int32.ofInt 0))]) (st1 := []) (H1 := mz_mk g5 x) rfl ?_
  have L10 : ∀ n9 : Nat, ∀ (v6 : Int) (g7 : mz_G), (61 - v6).toNat = n9 → 0 ≤ v6 → v6 ≤ 61 → mz_inv g7 → mz_fr (fl_X11_full_28 x a1) g5 g7 → mm_W d mmX11_full 28 [some (.ref 0), some (.int (Int32.ofInt a1)), some (.int (Int32.ofInt v6))] [] (mz_mk g7 x) Q := by
    intro n9
    induction n9 using Nat.strongRecOn with
    | ind n9 ih8 =>
    intro v6 g7 hmn9 l_v6 u_v6 hIg7 hfg7
    refine mm_g 1 (pc1 := 29) (lo1 := [some (.ref 0), some (.int (Int32.ofInt a1)), some (.int (Int32.ofInt v6))]) (st1 := [.int (Int32.ofInt v6)]) (H1 := mz_mk g7 x) rfl ?_
    refine mz_bip rfl bip_60 ?_
    refine mz_ic_gt (tgt := 65) rfl rfl (mz_rg l_v6 u_v6) ⟨by decide, by decide⟩ (fun c31_10 => ?_) (fun c31_10 => ?_)
    · skip
      refine mm_g 1 (pc1 := 66) (lo1 := [some (.ref 0), some (.int (Int32.ofInt a1)), some (.int (Int32.ofInt v6))]) (st1 := [.int (Int32.ofInt (-1))]) (H1 := mz_mk g7 x) rfl ?_
      exact mm_rt rfl rfl (hQ _ _ hIg7 (fun k j hk => ((hfg7 k j (fun h => hk (Or.elim h (fun h => (Or.inl h)) (fun h => (Or.elim h (fun h => (Or.inr (Or.inl h))) (fun h => (Or.inr (Or.inr h)))))))).trans (hfg5 k j (fun h => hk (Or.inl h))))) (by decide) (by decide))
    · skip
      refine mm_g 1 (pc1 := 35) (lo1 := [some (.ref 0), some (.int (Int32.ofInt a1)), some (.int (Int32.ofInt v6))]) (st1 := [.ref 0]) (H1 := mz_mk g7 x) rfl ?_
      refine mz_fgR (v := x.1) rfl fd_11_16 (by decide) (sc_0 _) rfl ?_
      refine mm_g 1 (pc1 := 39) (lo1 := [some (.ref 0), some (.int (Int32.ofInt a1)), some (.int (Int32.ofInt v6))]) (st1 := [.ref 0, .ref x.1]) (H1 := mz_mk g7 x) rfl ?_
      refine mz_fgR (v := 122) rfl fd_11_65 (by decide) (sc_0 _) (rf_0_10 _ _ _) ?_
      refine mz_cv rfl mt_11_259 (by decide) (kc_load (kx_1 hx) _) rfl (Nat.le_of_ble_eq_true rfl) (by omega) (c_X1_isFull (by omega) hx hIg7 (kx_1 hx) kp_trunk_122 (fun v11 l_v11 u_v11 => ⟨_, rfl, ?_⟩))
      show mm_W d mmX11_full 45 [some (.ref 0), some (.int (Int32.ofInt a1)), some (.int (Int32.ofInt v6))] [.int (Int32.ofInt v11)] (mz_mk g7 x) Q
      refine mz_if_eq (tgt := 50) rfl rfl (mz_rg l_v11 u_v11) (fun c45_11 => ?_) (fun c45_11 => ?_)
      · skip
        refine mm_g 2 (pc1 := 52) (lo1 := [some (.ref 0), some (.int (Int32.ofInt a1)), some (.int (Int32.ofInt v6))]) (st1 := [.ref 0, .ref 0]) (H1 := mz_mk g7 x) rfl ?_
        refine mz_fgR (v := 122) rfl fd_11_65 (by decide) (sc_0 _) (rf_0_10 _ _ _) ?_
        refine mm_g 1 (pc1 := 56) (lo1 := [some (.ref 0), some (.int (Int32.ofInt a1)), some (.int (Int32.ofInt v6))]) (st1 := [.int (Int32.ofInt v6), .ref 122, .ref 0]) (H1 := mz_mk g7 x) rfl ?_
        refine mz_cv rfl mt_11_301 (by decide) (sc_0 _) rfl (Nat.le_of_ble_eq_true rfl) (by omega) (c_X11_growBy (by omega) hx hIg7 kp_trunk_122 (by omega) (by omega) (fun g12 hIg12 hfg12 => ⟨_, rfl, ?_⟩))
        show mm_W d mmX11_full 59 [some (.ref 0), some (.int (Int32.ofInt a1)), some (.int (Int32.ofInt v6))] [] (mz_mk g12 x) Q
        refine mz_iincR (v := v6) (lo2 := [some (.ref 0), some (.int (Int32.ofInt a1)), some (.int (Int32.ofInt (v6 + 1)))]) rfl rfl rfl (Nat.le_of_ble_eq_true rfl) rfl ?_
        refine mz_gt (tgt := 28) rfl rfl ?_
        exact ih8 ((61 - (v6 + 1)).toNat) (by omega) (v6 + 1) g12 rfl (by omega) (by omega) hIg12 (fun k j hk => ((hfg12 k j (fun h => hk (Or.elim h (fun h => (Or.inl h)) (fun h => (Or.elim h (fun h => (Or.inr (Or.inl h))) (fun h => (Or.inr (Or.inr h)))))))).trans (hfg7 k j (fun h => hk (Or.elim h (fun h => (Or.inl h)) (fun h => (Or.elim h (fun h => (Or.inr (Or.inl h))) (fun h => (Or.inr (Or.inr h))))))))))
      · skip
        refine mm_g 1 (pc1 := 49) (lo1 := [some (.ref 0), some (.int (Int32.ofInt a1)), some (.int (Int32.ofInt v6))]) (st1 := [.int (Int32.ofInt v6)]) (H1 := mz_mk g7 x) rfl ?_
        exact mm_rt rfl rfl (hQ _ _ hIg7 (fun k j hk => ((hfg7 k j (fun h => hk (Or.elim h (fun h => (Or.inl h)) (fun h => (Or.elim h (fun h => (Or.inr (Or.inl h))) (fun h => (Or.inr (Or.inr h)))))))).trans (hfg5 k j (fun h => hk (Or.inl h))))) (by omega) (by omega))
  exact L10 _ 0 g5 rfl (by decide) (by decide) hIg5 (fun _ _ _ => rfl)
theorem t_X11_read {d : Nat} (hd : 15 ≤ d) {x : mm_X} (hx : mk_x x) {g : mz_G} (hI : mz_inv g) {a1 : Int} (l_a1 : (-2147483648) ≤ a1) (u_a1 : a1 ≤ 2147483647) {a2 : Int} (l_a2 : (-2147483648) ≤ a2) (u_a2 : a2 ≤ 2147483647) {Q : (Option Value ⊕ Nat) → mm_H → Prop} (hQ : ∀ (r : Int) (g1 : mz_G), mz_inv g1 → mz_fr (fw_X11_read x a1 a2) g g1 → (-1) ≤ r → r ≤ 60 → Q (.inl (some (.int (Int32.ofInt r)))) (mz_mk g1 x)) (hX0 : Q (.inr 0) (mz_mk g (mz_tx x))) : mm_C d 144 [.ref 0, .int (Int32.ofInt a1), .int (Int32.ofInt a2)] (mz_mk g x) Q := by
  have kx := kn_x hx
  refine ⟨mmX11_read, [some (.ref 0), some (.int (Int32.ofInt a1)), some (.int (Int32.ofInt a2)), none], rfl, rfl, ?_⟩
  refine mm_g 2 (pc1 := 2) (lo1 := [some (.ref 0), some (.int (Int32.ofInt a1)), some (.int (Int32.ofInt a2)), none]) (st1 := [.int (Int32.ofInt a1), .ref 0]) (H1 := mz_mk g x) rfl ?_
  refine mz_cv rfl mt_11_231 (by decide) (sc_0 _) rfl (Nat.le_of_ble_eq_true rfl) (by omega) (c_X11_isTrunk (by omega) hx hI l_a1 u_a1 (fun v1 l_v1 u_v1 => ⟨_, rfl, ?_⟩))
  show mm_W d mmX11_read 5 [some (.ref 0), some (.int (Int32.ofInt a1)), some (.int (Int32.ofInt a2)), none] [.int (Int32.ofInt v1)] (mz_mk g x) Q
  refine mz_if_eq (tgt := 20) rfl rfl (mz_rg l_v1 u_v1) (fun c5_1 => ?_) (fun c5_1 => ?_)
  · skip
    refine mm_g 1 (pc1 := 21) (lo1 := [some (.ref 0), some (.int (Int32.ofInt a1)), some (.int (Int32.ofInt a2)), none]) (st1 := [.int (Int32.ofInt 0)]) (H1 := mz_mk g x) rfl ?_
    refine mz_csx rfl mt_11_183 rfl (Nat.le_of_ble_eq_true rfl) (by omega) rfl nh_X11_mustBe (t_X11_mustBe (by omega) hx hI (by decide) (by decide) (fun hp2 => ?_) hX0)
    show mm_W d mmX11_read 24 [some (.ref 0), some (.int (Int32.ofInt a1)), some (.int (Int32.ofInt a2)), none] [] (mz_mk g x) Q
    exfalso; omega
  · skip
    refine mm_g 2 (pc1 := 10) (lo1 := [some (.ref 0), some (.int (Int32.ofInt a1)), some (.int (Int32.ofInt a2)), none]) (st1 := [.int (Int32.ofInt a2), .ref 0]) (H1 := mz_mk g x) rfl ?_
    refine mz_cv rfl mt_11_199 (by decide) (sc_0 _) rfl (Nat.le_of_ble_eq_true rfl) (by omega) (c_X11_isWord (by omega) hx hI l_a2 u_a2 (fun v3 l_v3 u_v3 => ⟨_, rfl, ?_⟩))
    show mm_W d mmX11_read 13 [some (.ref 0), some (.int (Int32.ofInt a1)), some (.int (Int32.ofInt a2)), none] [.int (Int32.ofInt v3)] (mz_mk g x) Q
    refine mz_if_eq (tgt := 20) rfl rfl (mz_rg l_v3 u_v3) (fun c13_3 => ?_) (fun c13_3 => ?_)
    · skip
      refine mm_g 1 (pc1 := 21) (lo1 := [some (.ref 0), some (.int (Int32.ofInt a1)), some (.int (Int32.ofInt a2)), none]) (st1 := [.int (Int32.ofInt 0)]) (H1 := mz_mk g x) rfl ?_
      refine mz_csx rfl mt_11_183 rfl (Nat.le_of_ble_eq_true rfl) (by omega) rfl nh_X11_mustBe (t_X11_mustBe (by omega) hx hI (by decide) (by decide) (fun hp4 => ?_) hX0)
      show mm_W d mmX11_read 24 [some (.ref 0), some (.int (Int32.ofInt a1)), some (.int (Int32.ofInt a2)), none] [] (mz_mk g x) Q
      exfalso; omega
    · skip
      refine mm_g 1 (pc1 := 17) (lo1 := [some (.ref 0), some (.int (Int32.ofInt a1)), some (.int (Int32.ofInt a2)), none]) (st1 := [.int (Int32.ofInt 1)]) (H1 := mz_mk g x) rfl ?_
      refine mz_gt (tgt := 21) rfl rfl ?_
      refine mz_csx rfl mt_11_183 rfl (Nat.le_of_ble_eq_true rfl) (by omega) rfl nh_X11_mustBe (t_X11_mustBe (by omega) hx hI (by decide) (by decide) (fun hp5 => ?_) hX0)
      show mm_W d mmX11_read 24 [some (.ref 0), some (.int (Int32.ofInt a1)), some (.int (Int32.ofInt a2)), none] [] (mz_mk g x) Q
      refine mm_g 1 (pc1 := 25) (lo1 := [some (.ref 0), some (.int (Int32.ofInt a1)), some (.int (Int32.ofInt a2)), none]) (st1 := [.ref 0]) (H1 := mz_mk g x) rfl ?_
      refine mz_fgR (v := 122) rfl fd_11_65 (by decide) (sc_0 _) (rf_0_10 _ _ _) ?_
      refine mm_g 1 (pc1 := 29) (lo1 := [some (.ref 0), some (.int (Int32.ofInt a1)), some (.int (Int32.ofInt a2)), none]) (st1 := [.ref 0, .ref 122]) (H1 := mz_mk g x) rfl ?_
      refine mz_fgR (v := 86) rfl fd_11_37 (by decide) (sc_0 _) (rf_0_5 _ _ _) ?_
      refine mz_fgR (v := 87) rfl fd_11_158 (by decide) (sc_86 _) (rf_86_0 _ _ _) ?_
      refine mm_g 1 (pc1 := 36) (lo1 := [some (.ref 0), some (.int (Int32.ofInt a1)), some (.int (Int32.ofInt a2)), none]) (st1 := [.int (Int32.ofInt a1), .ref 87, .ref 122]) (H1 := mz_mk g x) rfl ?_
      refine mz_cv rfl mt_11_192 (by decide) (sc_87 _) rfl (Nat.le_of_ble_eq_true rfl) (by omega) (c_X9_get (by omega) hx hI kp_tks_87 l_a1 u_a1 (fun u6 k_u6 hp7 => ⟨_, rfl, ?_⟩))
      show mm_W d mmX11_read 39 [some (.ref 0), some (.int (Int32.ofInt a1)), some (.int (Int32.ofInt a2)), none] [.ref u6, .ref 122] (mz_mk g x) Q
      refine mz_cv rfl mt_11_297 (by decide) (sc_122 _) rfl (Nat.le_of_ble_eq_true rfl) (by omega) (c_X8_becomeAs (by omega) hx hI kp_trunk_122 k_u6 (fun g8 hIg8 hfg8 => ⟨_, rfl, ?_⟩))
      show mm_W d mmX11_read 42 [some (.ref 0), some (.int (Int32.ofInt a1)), some (.int (Int32.ofInt a2)), none] [] (mz_mk g8 x) Q
      refine mm_g 2 (pc1 := 44) (lo1 := [some (.ref 0), some (.int (Int32.ofInt a1)), some (.int (Int32.ofInt a2)), some (.int (Int32.ofInt 0))]) (st1 := []) (H1 := mz_mk g8 x) rfl ?_
      have L13 : ∀ n12 : Nat, ∀ (v9 : Int) (g10 : mz_G), (61 - v9).toNat = n12 → 0 ≤ v9 → v9 ≤ 61 → mz_inv g10 → mz_fr (fl_X11_read_44 x a1 a2) g8 g10 → mm_W d mmX11_read 44 [some (.ref 0), some (.int (Int32.ofInt a1)), some (.int (Int32.ofInt a2)), some (.int (Int32.ofInt v9))] [] (mz_mk g10 x) Q := by
        intro n12
        induction n12 using Nat.strongRecOn with
        | ind n12 ih11 =>
        intro v9 g10 hmn12 l_v9 u_v9 hIg10 hfg10
        refine mm_g 1 (pc1 := 45) (lo1 := [some (.ref 0), some (.int (Int32.ofInt a1)), some (.int (Int32.ofInt a2)), some (.int (Int32.ofInt v9))]) (st1 := [.int (Int32.ofInt v9)]) (H1 := mz_mk g10 x) rfl ?_
        refine mz_bip rfl bip_60 ?_
        refine mz_ic_gt (tgt := 103) rfl rfl (mz_rg l_v9 u_v9) ⟨by decide, by decide⟩ (fun c47_13 => ?_) (fun c47_13 => ?_)
        · skip
          refine mm_g 1 (pc1 := 104) (lo1 := [some (.ref 0), some (.int (Int32.ofInt a1)), some (.int (Int32.ofInt a2)), some (.int (Int32.ofInt v9))]) (st1 := [.int (Int32.ofInt (-1))]) (H1 := mz_mk g10 x) rfl ?_
          exact mm_rt rfl rfl (hQ _ _ hIg10 (fun k j hk => ((hfg10 k j (fun h => hk (Or.elim h (fun h => (Or.inr (Or.inl h))) (fun h => (Or.elim h (fun h => (Or.inr (Or.inr (Or.inl h)))) (fun h => (Or.elim h (fun h => (Or.inl h)) (fun h => (Or.elim h (fun h => (Or.inr (Or.inr (Or.inr (Or.inl h))))) (fun h => (Or.inr (Or.inr (Or.inr (Or.inr h)))))))))))))).trans (hfg8 k j (fun h => hk (Or.inl h))))) (by decide) (by decide))
        · skip
          refine mm_g 1 (pc1 := 51) (lo1 := [some (.ref 0), some (.int (Int32.ofInt a1)), some (.int (Int32.ofInt a2)), some (.int (Int32.ofInt v9))]) (st1 := [.ref 0]) (H1 := mz_mk g10 x) rfl ?_
          refine mz_fgR (v := x.1) rfl fd_11_16 (by decide) (sc_0 _) rfl ?_
          refine mm_g 1 (pc1 := 55) (lo1 := [some (.ref 0), some (.int (Int32.ofInt a1)), some (.int (Int32.ofInt a2)), some (.int (Int32.ofInt v9))]) (st1 := [.ref 0, .ref x.1]) (H1 := mz_mk g10 x) rfl ?_
          refine mz_fgR (v := 122) rfl fd_11_65 (by decide) (sc_0 _) (rf_0_10 _ _ _) ?_
          refine mm_g 1 (pc1 := 59) (lo1 := [some (.ref 0), some (.int (Int32.ofInt a1)), some (.int (Int32.ofInt a2)), some (.int (Int32.ofInt v9))]) (st1 := [.ref 0, .ref 122, .ref x.1]) (H1 := mz_mk g10 x) rfl ?_
          refine mz_fgR (v := 133) rfl fd_11_84 (by decide) (sc_0 _) (rf_0_13 _ _ _) ?_
          refine mz_cv rfl mt_11_286 (by decide) (kc_load (kx_1 hx) _) rfl (Nat.le_of_ble_eq_true rfl) (by omega) (c_X1_blendInto (by omega) hx hIg10 (kx_1 hx) kp_trunk_122 kp_let_133 (fun g14 hIg14 hfg14 => ⟨_, rfl, ?_⟩))
          show mm_W d mmX11_read 65 [some (.ref 0), some (.int (Int32.ofInt a1)), some (.int (Int32.ofInt a2)), some (.int (Int32.ofInt v9))] [] (mz_mk g14 x) Q
          refine mm_g 1 (pc1 := 66) (lo1 := [some (.ref 0), some (.int (Int32.ofInt a1)), some (.int (Int32.ofInt a2)), some (.int (Int32.ofInt v9))]) (st1 := [.ref 0]) (H1 := mz_mk g14 x) rfl ?_
          refine mz_fgR (v := 133) rfl fd_11_84 (by decide) (sc_0 _) (rf_0_13 _ _ _) ?_
          refine mm_g 1 (pc1 := 70) (lo1 := [some (.ref 0), some (.int (Int32.ofInt a1)), some (.int (Int32.ofInt a2)), some (.int (Int32.ofInt v9))]) (st1 := [.ref 0, .ref 133]) (H1 := mz_mk g14 x) rfl ?_
          refine mz_fgR (v := x.1) rfl fd_11_16 (by decide) (sc_0 _) rfl ?_
          refine mz_fgR (v := (x.1 + 1)) rfl fd_11_135 (by decide) (kc_load (kx_1 hx) _) (kr_load_0 (kx_1 hx) _ _ _) ?_
          refine mm_g 1 (pc1 := 77) (lo1 := [some (.ref 0), some (.int (Int32.ofInt a1)), some (.int (Int32.ofInt a2)), some (.int (Int32.ofInt v9))]) (st1 := [.int (Int32.ofInt a2), .ref (x.1 + 1), .ref 133]) (H1 := mz_mk g14 x) rfl ?_
          refine mz_cv rfl mt_11_203 (by decide) (kc_words (ks_load_0 (kx_1 hx)) _) rfl (Nat.le_of_ble_eq_true rfl) (by omega) (c_X10_of (by omega) hx hIg14 (ks_load_0 (kx_1 hx)) l_a2 u_a2 (fun u15 k_u15 hp16 => ⟨_, rfl, ?_⟩))
          show mm_W d mmX11_read 80 [some (.ref 0), some (.int (Int32.ofInt a1)), some (.int (Int32.ofInt a2)), some (.int (Int32.ofInt v9))] [.ref u15, .ref 133] (mz_mk g14 x) Q
          refine mz_cv rfl mt_11_305 (by decide) (sc_133 _) rfl (Nat.le_of_ble_eq_true rfl) (by omega) (c_X0_holds (by omega) hx hIg14 kp_let_133 k_u15 (fun v17 l_v17 u_v17 => ⟨_, rfl, ?_⟩))
          show mm_W d mmX11_read 83 [some (.ref 0), some (.int (Int32.ofInt a1)), some (.int (Int32.ofInt a2)), some (.int (Int32.ofInt v9))] [.int (Int32.ofInt v17)] (mz_mk g14 x) Q
          refine mz_if_eq (tgt := 88) rfl rfl (mz_rg l_v17 u_v17) (fun c83_17 => ?_) (fun c83_17 => ?_)
          · skip
            refine mm_g 2 (pc1 := 90) (lo1 := [some (.ref 0), some (.int (Int32.ofInt a1)), some (.int (Int32.ofInt a2)), some (.int (Int32.ofInt v9))]) (st1 := [.ref 0, .ref 0]) (H1 := mz_mk g14 x) rfl ?_
            refine mz_fgR (v := 122) rfl fd_11_65 (by decide) (sc_0 _) (rf_0_10 _ _ _) ?_
            refine mm_g 1 (pc1 := 94) (lo1 := [some (.ref 0), some (.int (Int32.ofInt a1)), some (.int (Int32.ofInt a2)), some (.int (Int32.ofInt v9))]) (st1 := [.int (Int32.ofInt v9), .ref 122, .ref 0]) (H1 := mz_mk g14 x) rfl ?_
            refine mz_cv rfl mt_11_301 (by decide) (sc_0 _) rfl (Nat.le_of_ble_eq_true rfl) (by omega) (c_X11_growBy (by omega) hx hIg14 kp_trunk_122 (by omega) (by omega) (fun g18 hIg18 hfg18 => ⟨_, rfl, ?_⟩))
            show mm_W d mmX11_read 97 [some (.ref 0), some (.int (Int32.ofInt a1)), some (.int (Int32.ofInt a2)), some (.int (Int32.ofInt v9))] [] (mz_mk g18 x) Q
            refine mz_iincR (v := v9) (lo2 := [some (.ref 0), some (.int (Int32.ofInt a1)), some (.int (Int32.ofInt a2)), some (.int (Int32.ofInt (v9 + 1)))]) rfl rfl rfl (Nat.le_of_ble_eq_true rfl) rfl ?_
            refine mz_gt (tgt := 44) rfl rfl ?_
            exact ih11 ((61 - (v9 + 1)).toNat) (by omega) (v9 + 1) g18 rfl (by omega) (by omega) hIg18 (fun k j hk => ((hfg18 k j (fun h => hk (Or.elim h (fun h => (Or.inr (Or.inr (Or.inl h)))) (fun h => (Or.elim h (fun h => (Or.inr (Or.inr (Or.inr (Or.inl h))))) (fun h => (Or.inr (Or.inr (Or.inr (Or.inr h)))))))))).trans ((hfg14 k j (fun h => hk (Or.elim h (fun h => (Or.inl h)) (fun h => (Or.inr (Or.inl h)))))).trans (hfg10 k j (fun h => hk (Or.elim h (fun h => (Or.inl h)) (fun h => (Or.elim h (fun h => (Or.inr (Or.inl h))) (fun h => (Or.elim h (fun h => (Or.inr (Or.inr (Or.inl h)))) (fun h => (Or.elim h (fun h => (Or.inr (Or.inr (Or.inr (Or.inl h))))) (fun h => (Or.inr (Or.inr (Or.inr (Or.inr h)))))))))))))))))
          · skip
            refine mm_g 1 (pc1 := 87) (lo1 := [some (.ref 0), some (.int (Int32.ofInt a1)), some (.int (Int32.ofInt a2)), some (.int (Int32.ofInt v9))]) (st1 := [.int (Int32.ofInt v9)]) (H1 := mz_mk g14 x) rfl ?_
            exact mm_rt rfl rfl (hQ _ _ hIg14 (fun k j hk => ((hfg14 k j (fun h => hk (Or.elim h (fun h => (Or.inr (Or.inl h))) (fun h => (Or.inr (Or.inr (Or.inl h))))))).trans ((hfg10 k j (fun h => hk (Or.elim h (fun h => (Or.inr (Or.inl h))) (fun h => (Or.elim h (fun h => (Or.inr (Or.inr (Or.inl h)))) (fun h => (Or.elim h (fun h => (Or.inl h)) (fun h => (Or.elim h (fun h => (Or.inr (Or.inr (Or.inr (Or.inl h))))) (fun h => (Or.inr (Or.inr (Or.inr (Or.inr h)))))))))))))).trans (hfg8 k j (fun h => hk (Or.inl h)))))) (by omega) (by omega))
      exact L13 _ 0 g8 rfl (by decide) (by decide) hIg8 (fun _ _ _ => rfl)
theorem t_X11_alike {d : Nat} (hd : 15 ≤ d) {x : mm_X} (hx : mk_x x) {g : mz_G} (hI : mz_inv g) {a1 : Int} (l_a1 : (-2147483648) ≤ a1) (u_a1 : a1 ≤ 2147483647) {a2 : Int} (l_a2 : (-2147483648) ≤ a2) (u_a2 : a2 ≤ 2147483647) {Q : (Option Value ⊕ Nat) → mm_H → Prop} (hQ : ∀ (r : Int) (g1 : mz_G), mz_inv g1 → mz_fr (fw_X11_alike x a1 a2) g g1 → (-1) ≤ r → r ≤ 60 → Q (.inl (some (.int (Int32.ofInt r)))) (mz_mk g1 x)) (hX0 : Q (.inr 0) (mz_mk g (mz_tx x))) : mm_C d 145 [.ref 0, .int (Int32.ofInt a1), .int (Int32.ofInt a2)] (mz_mk g x) Q := by
  have kx := kn_x hx
  refine ⟨mmX11_alike, [some (.ref 0), some (.int (Int32.ofInt a1)), some (.int (Int32.ofInt a2)), none], rfl, rfl, ?_⟩
  refine mm_g 2 (pc1 := 2) (lo1 := [some (.ref 0), some (.int (Int32.ofInt a1)), some (.int (Int32.ofInt a2)), none]) (st1 := [.int (Int32.ofInt a1), .ref 0]) (H1 := mz_mk g x) rfl ?_
  refine mz_cv rfl mt_11_231 (by decide) (sc_0 _) rfl (Nat.le_of_ble_eq_true rfl) (by omega) (c_X11_isTrunk (by omega) hx hI l_a1 u_a1 (fun v1 l_v1 u_v1 => ⟨_, rfl, ?_⟩))
  show mm_W d mmX11_alike 5 [some (.ref 0), some (.int (Int32.ofInt a1)), some (.int (Int32.ofInt a2)), none] [.int (Int32.ofInt v1)] (mz_mk g x) Q
  refine mz_if_eq (tgt := 20) rfl rfl (mz_rg l_v1 u_v1) (fun c5_1 => ?_) (fun c5_1 => ?_)
  · skip
    refine mm_g 1 (pc1 := 21) (lo1 := [some (.ref 0), some (.int (Int32.ofInt a1)), some (.int (Int32.ofInt a2)), none]) (st1 := [.int (Int32.ofInt 0)]) (H1 := mz_mk g x) rfl ?_
    refine mz_csx rfl mt_11_183 rfl (Nat.le_of_ble_eq_true rfl) (by omega) rfl nh_X11_mustBe (t_X11_mustBe (by omega) hx hI (by decide) (by decide) (fun hp2 => ?_) hX0)
    show mm_W d mmX11_alike 24 [some (.ref 0), some (.int (Int32.ofInt a1)), some (.int (Int32.ofInt a2)), none] [] (mz_mk g x) Q
    exfalso; omega
  · skip
    refine mm_g 2 (pc1 := 10) (lo1 := [some (.ref 0), some (.int (Int32.ofInt a1)), some (.int (Int32.ofInt a2)), none]) (st1 := [.int (Int32.ofInt a2), .ref 0]) (H1 := mz_mk g x) rfl ?_
    refine mz_cv rfl mt_11_231 (by decide) (sc_0 _) rfl (Nat.le_of_ble_eq_true rfl) (by omega) (c_X11_isTrunk (by omega) hx hI l_a2 u_a2 (fun v3 l_v3 u_v3 => ⟨_, rfl, ?_⟩))
    show mm_W d mmX11_alike 13 [some (.ref 0), some (.int (Int32.ofInt a1)), some (.int (Int32.ofInt a2)), none] [.int (Int32.ofInt v3)] (mz_mk g x) Q
    refine mz_if_eq (tgt := 20) rfl rfl (mz_rg l_v3 u_v3) (fun c13_3 => ?_) (fun c13_3 => ?_)
    · skip
      refine mm_g 1 (pc1 := 21) (lo1 := [some (.ref 0), some (.int (Int32.ofInt a1)), some (.int (Int32.ofInt a2)), none]) (st1 := [.int (Int32.ofInt 0)]) (H1 := mz_mk g x) rfl ?_
      refine mz_csx rfl mt_11_183 rfl (Nat.le_of_ble_eq_true rfl) (by omega) rfl nh_X11_mustBe (t_X11_mustBe (by omega) hx hI (by decide) (by decide) (fun hp4 => ?_) hX0)
      show mm_W d mmX11_alike 24 [some (.ref 0), some (.int (Int32.ofInt a1)), some (.int (Int32.ofInt a2)), none] [] (mz_mk g x) Q
      exfalso; omega
    · skip
      refine mm_g 1 (pc1 := 17) (lo1 := [some (.ref 0), some (.int (Int32.ofInt a1)), some (.int (Int32.ofInt a2)), none]) (st1 := [.int (Int32.ofInt 1)]) (H1 := mz_mk g x) rfl ?_
      refine mz_gt (tgt := 21) rfl rfl ?_
      refine mz_csx rfl mt_11_183 rfl (Nat.le_of_ble_eq_true rfl) (by omega) rfl nh_X11_mustBe (t_X11_mustBe (by omega) hx hI (by decide) (by decide) (fun hp5 => ?_) hX0)
      show mm_W d mmX11_alike 24 [some (.ref 0), some (.int (Int32.ofInt a1)), some (.int (Int32.ofInt a2)), none] [] (mz_mk g x) Q
      refine mm_g 2 (pc1 := 26) (lo1 := [some (.ref 0), some (.int (Int32.ofInt a1)), some (.int (Int32.ofInt a2)), none]) (st1 := [.int (Int32.ofInt a2), .int (Int32.ofInt a1)]) (H1 := mz_mk g x) rfl ?_
      refine mz_ic_ne (tgt := 31) rfl rfl (mz_rg l_a1 u_a1) (mz_rg l_a2 u_a2) (fun c26_5 => ?_) (fun c26_5 => ?_)
      · skip
        refine mm_g 1 (pc1 := 32) (lo1 := [some (.ref 0), some (.int (Int32.ofInt a1)), some (.int (Int32.ofInt a2)), none]) (st1 := [.ref 0]) (H1 := mz_mk g x) rfl ?_
        refine mz_fgR (v := 122) rfl fd_11_65 (by decide) (sc_0 _) (rf_0_10 _ _ _) ?_
        refine mm_g 1 (pc1 := 36) (lo1 := [some (.ref 0), some (.int (Int32.ofInt a1)), some (.int (Int32.ofInt a2)), none]) (st1 := [.ref 0, .ref 122]) (H1 := mz_mk g x) rfl ?_
        refine mz_fgR (v := 86) rfl fd_11_37 (by decide) (sc_0 _) (rf_0_5 _ _ _) ?_
        refine mz_fgR (v := 87) rfl fd_11_158 (by decide) (sc_86 _) (rf_86_0 _ _ _) ?_
        refine mm_g 1 (pc1 := 43) (lo1 := [some (.ref 0), some (.int (Int32.ofInt a1)), some (.int (Int32.ofInt a2)), none]) (st1 := [.int (Int32.ofInt a1), .ref 87, .ref 122]) (H1 := mz_mk g x) rfl ?_
        refine mz_cv rfl mt_11_192 (by decide) (sc_87 _) rfl (Nat.le_of_ble_eq_true rfl) (by omega) (c_X9_get (by omega) hx hI kp_tks_87 l_a1 u_a1 (fun u6 k_u6 hp7 => ⟨_, rfl, ?_⟩))
        show mm_W d mmX11_alike 46 [some (.ref 0), some (.int (Int32.ofInt a1)), some (.int (Int32.ofInt a2)), none] [.ref u6, .ref 122] (mz_mk g x) Q
        refine mz_cv rfl mt_11_297 (by decide) (sc_122 _) rfl (Nat.le_of_ble_eq_true rfl) (by omega) (c_X8_becomeAs (by omega) hx hI kp_trunk_122 k_u6 (fun g8 hIg8 hfg8 => ⟨_, rfl, ?_⟩))
        show mm_W d mmX11_alike 49 [some (.ref 0), some (.int (Int32.ofInt a1)), some (.int (Int32.ofInt a2)), none] [] (mz_mk g8 x) Q
        refine mm_g 1 (pc1 := 50) (lo1 := [some (.ref 0), some (.int (Int32.ofInt a1)), some (.int (Int32.ofInt a2)), none]) (st1 := [.ref 0]) (H1 := mz_mk g8 x) rfl ?_
        refine mz_fgR (v := 123) rfl fd_11_69 (by decide) (sc_0 _) (rf_0_11 _ _ _) ?_
        refine mm_g 1 (pc1 := 54) (lo1 := [some (.ref 0), some (.int (Int32.ofInt a1)), some (.int (Int32.ofInt a2)), none]) (st1 := [.ref 0, .ref 123]) (H1 := mz_mk g8 x) rfl ?_
        refine mz_fgR (v := 86) rfl fd_11_37 (by decide) (sc_0 _) (rf_0_5 _ _ _) ?_
        refine mz_fgR (v := 87) rfl fd_11_158 (by decide) (sc_86 _) (rf_86_0 _ _ _) ?_
        refine mm_g 1 (pc1 := 61) (lo1 := [some (.ref 0), some (.int (Int32.ofInt a1)), some (.int (Int32.ofInt a2)), none]) (st1 := [.int (Int32.ofInt a2), .ref 87, .ref 123]) (H1 := mz_mk g8 x) rfl ?_
        refine mz_cv rfl mt_11_192 (by decide) (sc_87 _) rfl (Nat.le_of_ble_eq_true rfl) (by omega) (c_X9_get (by omega) hx hIg8 kp_tks_87 l_a2 u_a2 (fun u9 k_u9 hp10 => ⟨_, rfl, ?_⟩))
        show mm_W d mmX11_alike 64 [some (.ref 0), some (.int (Int32.ofInt a1)), some (.int (Int32.ofInt a2)), none] [.ref u9, .ref 123] (mz_mk g8 x) Q
        refine mz_cv rfl mt_11_297 (by decide) (sc_123 _) rfl (Nat.le_of_ble_eq_true rfl) (by omega) (c_X8_becomeAs (by omega) hx hIg8 kp_trunk_123 k_u9 (fun g11 hIg11 hfg11 => ⟨_, rfl, ?_⟩))
        show mm_W d mmX11_alike 67 [some (.ref 0), some (.int (Int32.ofInt a1)), some (.int (Int32.ofInt a2)), none] [] (mz_mk g11 x) Q
        refine mm_g 2 (pc1 := 69) (lo1 := [some (.ref 0), some (.int (Int32.ofInt a1)), some (.int (Int32.ofInt a2)), some (.int (Int32.ofInt 0))]) (st1 := []) (H1 := mz_mk g11 x) rfl ?_
        have L16 : ∀ n15 : Nat, ∀ (v12 : Int) (g13 : mz_G), (61 - v12).toNat = n15 → 0 ≤ v12 → v12 ≤ 61 → mz_inv g13 → mz_fr (fl_X11_alike_69 x a1 a2) g11 g13 → mm_W d mmX11_alike 69 [some (.ref 0), some (.int (Int32.ofInt a1)), some (.int (Int32.ofInt a2)), some (.int (Int32.ofInt v12))] [] (mz_mk g13 x) Q := by
          intro n15
          induction n15 using Nat.strongRecOn with
          | ind n15 ih14 =>
          intro v12 g13 hmn15 l_v12 u_v12 hIg13 hfg13
          refine mm_g 1 (pc1 := 70) (lo1 := [some (.ref 0), some (.int (Int32.ofInt a1)), some (.int (Int32.ofInt a2)), some (.int (Int32.ofInt v12))]) (st1 := [.int (Int32.ofInt v12)]) (H1 := mz_mk g13 x) rfl ?_
          refine mz_bip rfl bip_60 ?_
          refine mz_ic_gt (tgt := 145) rfl rfl (mz_rg l_v12 u_v12) ⟨by decide, by decide⟩ (fun c72_16 => ?_) (fun c72_16 => ?_)
          · skip
            refine mm_g 1 (pc1 := 146) (lo1 := [some (.ref 0), some (.int (Int32.ofInt a1)), some (.int (Int32.ofInt a2)), some (.int (Int32.ofInt v12))]) (st1 := [.int (Int32.ofInt (-1))]) (H1 := mz_mk g13 x) rfl ?_
            exact mm_rt rfl rfl (hQ _ _ hIg13 (fun k j hk => ((hfg13 k j (fun h => hk (Or.elim h (fun h => (Or.inr (Or.inr (Or.inl h)))) (fun h => (Or.elim h (fun h => (Or.inr (Or.inr (Or.inr (Or.inl h))))) (fun h => (Or.elim h (fun h => (Or.inr (Or.inr (Or.inr (Or.inr (Or.inl h)))))) (fun h => (Or.elim h (fun h => (Or.inr (Or.inr (Or.inr (Or.inr (Or.inr (Or.inl h))))))) (fun h => (Or.elim h (fun h => (Or.inl h)) (fun h => (Or.elim h (fun h => (Or.inr (Or.inr (Or.inr (Or.inr (Or.inr (Or.inr (Or.inl h)))))))) (fun h => (Or.elim h (fun h => (Or.inr (Or.inr (Or.inr (Or.inr (Or.inr (Or.inr (Or.inr h)))))))) (fun h => (Or.inr (Or.inl h)))))))))))))))))).trans ((hfg11 k j (fun h => hk (Or.inr (Or.inl h)))).trans (hfg8 k j (fun h => hk (Or.inl h)))))) (by decide) (by decide))
          · skip
            refine mm_g 1 (pc1 := 76) (lo1 := [some (.ref 0), some (.int (Int32.ofInt a1)), some (.int (Int32.ofInt a2)), some (.int (Int32.ofInt v12))]) (st1 := [.ref 0]) (H1 := mz_mk g13 x) rfl ?_
            refine mz_fgR (v := x.1) rfl fd_11_16 (by decide) (sc_0 _) rfl ?_
            refine mm_g 1 (pc1 := 80) (lo1 := [some (.ref 0), some (.int (Int32.ofInt a1)), some (.int (Int32.ofInt a2)), some (.int (Int32.ofInt v12))]) (st1 := [.ref 0, .ref x.1]) (H1 := mz_mk g13 x) rfl ?_
            refine mz_fgR (v := 122) rfl fd_11_65 (by decide) (sc_0 _) (rf_0_10 _ _ _) ?_
            refine mm_g 1 (pc1 := 84) (lo1 := [some (.ref 0), some (.int (Int32.ofInt a1)), some (.int (Int32.ofInt a2)), some (.int (Int32.ofInt v12))]) (st1 := [.ref 0, .ref 122, .ref x.1]) (H1 := mz_mk g13 x) rfl ?_
            refine mz_fgR (v := 133) rfl fd_11_84 (by decide) (sc_0 _) (rf_0_13 _ _ _) ?_
            refine mz_cv rfl mt_11_286 (by decide) (kc_load (kx_1 hx) _) rfl (Nat.le_of_ble_eq_true rfl) (by omega) (c_X1_blendInto (by omega) hx hIg13 (kx_1 hx) kp_trunk_122 kp_let_133 (fun g17 hIg17 hfg17 => ⟨_, rfl, ?_⟩))
            show mm_W d mmX11_alike 90 [some (.ref 0), some (.int (Int32.ofInt a1)), some (.int (Int32.ofInt a2)), some (.int (Int32.ofInt v12))] [] (mz_mk g17 x) Q
            refine mm_g 1 (pc1 := 91) (lo1 := [some (.ref 0), some (.int (Int32.ofInt a1)), some (.int (Int32.ofInt a2)), some (.int (Int32.ofInt v12))]) (st1 := [.ref 0]) (H1 := mz_mk g17 x) rfl ?_
            refine mz_fgR (v := x.1) rfl fd_11_16 (by decide) (sc_0 _) rfl ?_
            refine mm_g 1 (pc1 := 95) (lo1 := [some (.ref 0), some (.int (Int32.ofInt a1)), some (.int (Int32.ofInt a2)), some (.int (Int32.ofInt v12))]) (st1 := [.ref 0, .ref x.1]) (H1 := mz_mk g17 x) rfl ?_
            refine mz_fgR (v := 123) rfl fd_11_69 (by decide) (sc_0 _) (rf_0_11 _ _ _) ?_
            refine mm_g 1 (pc1 := 99) (lo1 := [some (.ref 0), some (.int (Int32.ofInt a1)), some (.int (Int32.ofInt a2)), some (.int (Int32.ofInt v12))]) (st1 := [.ref 0, .ref 123, .ref x.1]) (H1 := mz_mk g17 x) rfl ?_
            refine mz_fgR (v := 135) rfl fd_11_88 (by decide) (sc_0 _) (rf_0_14 _ _ _) ?_
            refine mz_cv rfl mt_11_286 (by decide) (kc_load (kx_1 hx) _) rfl (Nat.le_of_ble_eq_true rfl) (by omega) (c_X1_blendInto (by omega) hx hIg17 (kx_1 hx) kp_trunk_123 kp_let_135 (fun g18 hIg18 hfg18 => ⟨_, rfl, ?_⟩))
            show mm_W d mmX11_alike 105 [some (.ref 0), some (.int (Int32.ofInt a1)), some (.int (Int32.ofInt a2)), some (.int (Int32.ofInt v12))] [] (mz_mk g18 x) Q
            refine mm_g 1 (pc1 := 106) (lo1 := [some (.ref 0), some (.int (Int32.ofInt a1)), some (.int (Int32.ofInt a2)), some (.int (Int32.ofInt v12))]) (st1 := [.ref 0]) (H1 := mz_mk g18 x) rfl ?_
            refine mz_fgR (v := 133) rfl fd_11_84 (by decide) (sc_0 _) (rf_0_13 _ _ _) ?_
            refine mm_g 1 (pc1 := 110) (lo1 := [some (.ref 0), some (.int (Int32.ofInt a1)), some (.int (Int32.ofInt a2)), some (.int (Int32.ofInt v12))]) (st1 := [.ref 0, .ref 133]) (H1 := mz_mk g18 x) rfl ?_
            refine mz_fgR (v := 135) rfl fd_11_88 (by decide) (sc_0 _) (rf_0_14 _ _ _) ?_
            refine mz_cv rfl mt_11_309 (by decide) (sc_133 _) rfl (Nat.le_of_ble_eq_true rfl) (by omega) (c_X0_isSame (by omega) hx hIg18 kp_let_133 kp_let_135 (fun v19 l_v19 u_v19 => ⟨_, rfl, ?_⟩))
            show mm_W d mmX11_alike 116 [some (.ref 0), some (.int (Int32.ofInt a1)), some (.int (Int32.ofInt a2)), some (.int (Int32.ofInt v12))] [.int (Int32.ofInt v19)] (mz_mk g18 x) Q
            refine mz_if_eq (tgt := 121) rfl rfl (mz_rg l_v19 u_v19) (fun c116_19 => ?_) (fun c116_19 => ?_)
            · skip
              refine mm_g 2 (pc1 := 123) (lo1 := [some (.ref 0), some (.int (Int32.ofInt a1)), some (.int (Int32.ofInt a2)), some (.int (Int32.ofInt v12))]) (st1 := [.ref 0, .ref 0]) (H1 := mz_mk g18 x) rfl ?_
              refine mz_fgR (v := 122) rfl fd_11_65 (by decide) (sc_0 _) (rf_0_10 _ _ _) ?_
              refine mm_g 1 (pc1 := 127) (lo1 := [some (.ref 0), some (.int (Int32.ofInt a1)), some (.int (Int32.ofInt a2)), some (.int (Int32.ofInt v12))]) (st1 := [.int (Int32.ofInt v12), .ref 122, .ref 0]) (H1 := mz_mk g18 x) rfl ?_
              refine mz_cv rfl mt_11_301 (by decide) (sc_0 _) rfl (Nat.le_of_ble_eq_true rfl) (by omega) (c_X11_growBy (by omega) hx hIg18 kp_trunk_122 (by omega) (by omega) (fun g20 hIg20 hfg20 => ⟨_, rfl, ?_⟩))
              show mm_W d mmX11_alike 130 [some (.ref 0), some (.int (Int32.ofInt a1)), some (.int (Int32.ofInt a2)), some (.int (Int32.ofInt v12))] [] (mz_mk g20 x) Q
              refine mm_g 2 (pc1 := 132) (lo1 := [some (.ref 0), some (.int (Int32.ofInt a1)), some (.int (Int32.ofInt a2)), some (.int (Int32.ofInt v12))]) (st1 := [.ref 0, .ref 0]) (H1 := mz_mk g20 x) rfl ?_
              refine mz_fgR (v := 123) rfl fd_11_69 (by decide) (sc_0 _) (rf_0_11 _ _ _) ?_
              refine mm_g 1 (pc1 := 136) (lo1 := [some (.ref 0), some (.int (Int32.ofInt a1)), some (.int (Int32.ofInt a2)), some (.int (Int32.ofInt v12))]) (st1 := [.int (Int32.ofInt v12), .ref 123, .ref 0]) (H1 := mz_mk g20 x) rfl ?_
              refine mz_cv rfl mt_11_301 (by decide) (sc_0 _) rfl (Nat.le_of_ble_eq_true rfl) (by omega) (c_X11_growBy (by omega) hx hIg20 kp_trunk_123 (by omega) (by omega) (fun g21 hIg21 hfg21 => ⟨_, rfl, ?_⟩))
              show mm_W d mmX11_alike 139 [some (.ref 0), some (.int (Int32.ofInt a1)), some (.int (Int32.ofInt a2)), some (.int (Int32.ofInt v12))] [] (mz_mk g21 x) Q
              refine mz_iincR (v := v12) (lo2 := [some (.ref 0), some (.int (Int32.ofInt a1)), some (.int (Int32.ofInt a2)), some (.int (Int32.ofInt (v12 + 1)))]) rfl rfl rfl (Nat.le_of_ble_eq_true rfl) rfl ?_
              refine mz_gt (tgt := 69) rfl rfl ?_
              exact ih14 ((61 - (v12 + 1)).toNat) (by omega) (v12 + 1) g21 rfl (by omega) (by omega) hIg21 (fun k j hk => ((hfg21 k j (fun h => hk (Or.elim h (fun h => (Or.inr (Or.inr (Or.inr (Or.inr (Or.inr (Or.inr (Or.inr h)))))))) (fun h => (Or.elim h (fun h => (Or.inr (Or.inr (Or.inr (Or.inr (Or.inr (Or.inl h))))))) (fun h => (Or.inr (Or.inr (Or.inr (Or.inr (Or.inr (Or.inr (Or.inl h))))))))))))).trans ((hfg20 k j (fun h => hk (Or.elim h (fun h => (Or.inr (Or.inr (Or.inr (Or.inr (Or.inl h)))))) (fun h => (Or.elim h (fun h => (Or.inr (Or.inr (Or.inr (Or.inr (Or.inr (Or.inl h))))))) (fun h => (Or.inr (Or.inr (Or.inr (Or.inr (Or.inr (Or.inr (Or.inl h))))))))))))).trans ((hfg18 k j (fun h => hk (Or.elim h (fun h => (Or.inr (Or.inr (Or.inl h)))) (fun h => (Or.inr (Or.inr (Or.inr (Or.inl h)))))))).trans ((hfg17 k j (fun h => hk (Or.elim h (fun h => (Or.inl h)) (fun h => (Or.inr (Or.inl h)))))).trans (hfg13 k j (fun h => hk (Or.elim h (fun h => (Or.inl h)) (fun h => (Or.elim h (fun h => (Or.inr (Or.inl h))) (fun h => (Or.elim h (fun h => (Or.inr (Or.inr (Or.inl h)))) (fun h => (Or.elim h (fun h => (Or.inr (Or.inr (Or.inr (Or.inl h))))) (fun h => (Or.elim h (fun h => (Or.inr (Or.inr (Or.inr (Or.inr (Or.inl h)))))) (fun h => (Or.elim h (fun h => (Or.inr (Or.inr (Or.inr (Or.inr (Or.inr (Or.inl h))))))) (fun h => (Or.elim h (fun h => (Or.inr (Or.inr (Or.inr (Or.inr (Or.inr (Or.inr (Or.inl h)))))))) (fun h => (Or.inr (Or.inr (Or.inr (Or.inr (Or.inr (Or.inr (Or.inr h))))))))))))))))))))))))))))
            · skip
              refine mm_g 1 (pc1 := 120) (lo1 := [some (.ref 0), some (.int (Int32.ofInt a1)), some (.int (Int32.ofInt a2)), some (.int (Int32.ofInt v12))]) (st1 := [.int (Int32.ofInt v12)]) (H1 := mz_mk g18 x) rfl ?_
              exact mm_rt rfl rfl (hQ _ _ hIg18 (fun k j hk => ((hfg18 k j (fun h => hk (Or.elim h (fun h => (Or.inr (Or.inr (Or.inr (Or.inr (Or.inl h)))))) (fun h => (Or.inr (Or.inr (Or.inr (Or.inr (Or.inr (Or.inl h)))))))))).trans ((hfg17 k j (fun h => hk (Or.elim h (fun h => (Or.inr (Or.inr (Or.inl h)))) (fun h => (Or.inr (Or.inr (Or.inr (Or.inl h)))))))).trans ((hfg13 k j (fun h => hk (Or.elim h (fun h => (Or.inr (Or.inr (Or.inl h)))) (fun h => (Or.elim h (fun h => (Or.inr (Or.inr (Or.inr (Or.inl h))))) (fun h => (Or.elim h (fun h => (Or.inr (Or.inr (Or.inr (Or.inr (Or.inl h)))))) (fun h => (Or.elim h (fun h => (Or.inr (Or.inr (Or.inr (Or.inr (Or.inr (Or.inl h))))))) (fun h => (Or.elim h (fun h => (Or.inl h)) (fun h => (Or.elim h (fun h => (Or.inr (Or.inr (Or.inr (Or.inr (Or.inr (Or.inr (Or.inl h)))))))) (fun h => (Or.elim h (fun h => (Or.inr (Or.inr (Or.inr (Or.inr (Or.inr (Or.inr (Or.inr h)))))))) (fun h => (Or.inr (Or.inl h)))))))))))))))))).trans ((hfg11 k j (fun h => hk (Or.inr (Or.inl h)))).trans (hfg8 k j (fun h => hk (Or.inl h)))))))) (by omega) (by omega))
        exact L16 _ 0 g11 rfl (by decide) (by decide) hIg11 (fun _ _ _ => rfl)
      · skip
        refine mm_g 1 (pc1 := 30) (lo1 := [some (.ref 0), some (.int (Int32.ofInt a1)), some (.int (Int32.ofInt a2)), none]) (st1 := [.int (Int32.ofInt (-1))]) (H1 := mz_mk g x) rfl ?_
        exact mm_rt rfl rfl (hQ _ _ hI (fun _ _ _ => rfl) (by decide) (by decide))
theorem t_X11_both {d : Nat} (hd : 13 ≤ d) {x : mm_X} (hx : mk_x x) {g : mz_G} (hI : mz_inv g) {a1 : Int} (l_a1 : (-2147483648) ≤ a1) (u_a1 : a1 ≤ 2147483647) {a2 : Int} (l_a2 : (-2147483648) ≤ a2) (u_a2 : a2 ≤ 2147483647) {a3 : Int} (l_a3 : (-2147483648) ≤ a3) (u_a3 : a3 ≤ 2147483647) {Q : (Option Value ⊕ Nat) → mm_H → Prop} (hQ : ∀ (r : Int) (g1 : mz_G), mz_inv g1 → mz_fr (fw_X11_both x a1 a2 a3) g g1 → (-2147483648) ≤ r → r ≤ 2147483647 → Q (.inl (some (.int (Int32.ofInt r)))) (mz_mk g1 x)) (hX0 : Q (.inr 0) (mz_mk g (mz_tx x))) : mm_C d 148 [.ref 0, .int (Int32.ofInt a1), .int (Int32.ofInt a2), .int (Int32.ofInt a3)] (mz_mk g x) Q := by
  have kx := kn_x hx
  refine ⟨mmX11_both, [some (.ref 0), some (.int (Int32.ofInt a1)), some (.int (Int32.ofInt a2)), some (.int (Int32.ofInt a3)), none, none], rfl, rfl, ?_⟩
  refine mm_g 2 (pc1 := 2) (lo1 := [some (.ref 0), some (.int (Int32.ofInt a1)), some (.int (Int32.ofInt a2)), some (.int (Int32.ofInt a3)), none, none]) (st1 := [.int (Int32.ofInt a1), .ref 0]) (H1 := mz_mk g x) rfl ?_
  refine mz_cv rfl mt_11_199 (by decide) (sc_0 _) rfl (Nat.le_of_ble_eq_true rfl) (by omega) (c_X11_isWord (by omega) hx hI l_a1 u_a1 (fun v1 l_v1 u_v1 => ⟨_, rfl, ?_⟩))
  show mm_W d mmX11_both 5 [some (.ref 0), some (.int (Int32.ofInt a1)), some (.int (Int32.ofInt a2)), some (.int (Int32.ofInt a3)), none, none] [.int (Int32.ofInt v1)] (mz_mk g x) Q
  refine mz_if_eq (tgt := 29) rfl rfl (mz_rg l_v1 u_v1) (fun c5_1 => ?_) (fun c5_1 => ?_)
  · skip
    refine mm_g 1 (pc1 := 30) (lo1 := [some (.ref 0), some (.int (Int32.ofInt a1)), some (.int (Int32.ofInt a2)), some (.int (Int32.ofInt a3)), none, none]) (st1 := [.int (Int32.ofInt 0)]) (H1 := mz_mk g x) rfl ?_
    refine mz_csx rfl mt_11_183 rfl (Nat.le_of_ble_eq_true rfl) (by omega) rfl nh_X11_mustBe (t_X11_mustBe (by omega) hx hI (by decide) (by decide) (fun hp2 => ?_) hX0)
    show mm_W d mmX11_both 33 [some (.ref 0), some (.int (Int32.ofInt a1)), some (.int (Int32.ofInt a2)), some (.int (Int32.ofInt a3)), none, none] [] (mz_mk g x) Q
    exfalso; omega
  · skip
    refine mm_g 2 (pc1 := 10) (lo1 := [some (.ref 0), some (.int (Int32.ofInt a1)), some (.int (Int32.ofInt a2)), some (.int (Int32.ofInt a3)), none, none]) (st1 := [.int (Int32.ofInt a2), .ref 0]) (H1 := mz_mk g x) rfl ?_
    refine mz_cv rfl mt_11_199 (by decide) (sc_0 _) rfl (Nat.le_of_ble_eq_true rfl) (by omega) (c_X11_isWord (by omega) hx hI l_a2 u_a2 (fun v3 l_v3 u_v3 => ⟨_, rfl, ?_⟩))
    show mm_W d mmX11_both 13 [some (.ref 0), some (.int (Int32.ofInt a1)), some (.int (Int32.ofInt a2)), some (.int (Int32.ofInt a3)), none, none] [.int (Int32.ofInt v3)] (mz_mk g x) Q
    refine mz_if_eq (tgt := 29) rfl rfl (mz_rg l_v3 u_v3) (fun c13_3 => ?_) (fun c13_3 => ?_)
    · skip
      refine mm_g 1 (pc1 := 30) (lo1 := [some (.ref 0), some (.int (Int32.ofInt a1)), some (.int (Int32.ofInt a2)), some (.int (Int32.ofInt a3)), none, none]) (st1 := [.int (Int32.ofInt 0)]) (H1 := mz_mk g x) rfl ?_
      refine mz_csx rfl mt_11_183 rfl (Nat.le_of_ble_eq_true rfl) (by omega) rfl nh_X11_mustBe (t_X11_mustBe (by omega) hx hI (by decide) (by decide) (fun hp4 => ?_) hX0)
      show mm_W d mmX11_both 33 [some (.ref 0), some (.int (Int32.ofInt a1)), some (.int (Int32.ofInt a2)), some (.int (Int32.ofInt a3)), none, none] [] (mz_mk g x) Q
      exfalso; omega
    · skip
      refine mm_g 1 (pc1 := 17) (lo1 := [some (.ref 0), some (.int (Int32.ofInt a1)), some (.int (Int32.ofInt a2)), some (.int (Int32.ofInt a3)), none, none]) (st1 := [.int (Int32.ofInt a3)]) (H1 := mz_mk g x) rfl ?_
      refine mz_if_lt (tgt := 29) rfl rfl (mz_rg l_a3 u_a3) (fun c17_4 => ?_) (fun c17_4 => ?_)
      · skip
        refine mm_g 1 (pc1 := 30) (lo1 := [some (.ref 0), some (.int (Int32.ofInt a1)), some (.int (Int32.ofInt a2)), some (.int (Int32.ofInt a3)), none, none]) (st1 := [.int (Int32.ofInt 0)]) (H1 := mz_mk g x) rfl ?_
        refine mz_csx rfl mt_11_183 rfl (Nat.le_of_ble_eq_true rfl) (by omega) rfl nh_X11_mustBe (t_X11_mustBe (by omega) hx hI (by decide) (by decide) (fun hp5 => ?_) hX0)
        show mm_W d mmX11_both 33 [some (.ref 0), some (.int (Int32.ofInt a1)), some (.int (Int32.ofInt a2)), some (.int (Int32.ofInt a3)), none, none] [] (mz_mk g x) Q
        exfalso; omega
      · skip
        refine mm_g 2 (pc1 := 22) (lo1 := [some (.ref 0), some (.int (Int32.ofInt a1)), some (.int (Int32.ofInt a2)), some (.int (Int32.ofInt a3)), none, none]) (st1 := [.int (Int32.ofInt 2), .int (Int32.ofInt a3)]) (H1 := mz_mk g x) rfl ?_
        refine mz_ic_gt (tgt := 29) rfl rfl (mz_rg l_a3 u_a3) ⟨by decide, by decide⟩ (fun c22_5 => ?_) (fun c22_5 => ?_)
        · skip
          refine mm_g 1 (pc1 := 30) (lo1 := [some (.ref 0), some (.int (Int32.ofInt a1)), some (.int (Int32.ofInt a2)), some (.int (Int32.ofInt a3)), none, none]) (st1 := [.int (Int32.ofInt 0)]) (H1 := mz_mk g x) rfl ?_
          refine mz_csx rfl mt_11_183 rfl (Nat.le_of_ble_eq_true rfl) (by omega) rfl nh_X11_mustBe (t_X11_mustBe (by omega) hx hI (by decide) (by decide) (fun hp6 => ?_) hX0)
          show mm_W d mmX11_both 33 [some (.ref 0), some (.int (Int32.ofInt a1)), some (.int (Int32.ofInt a2)), some (.int (Int32.ofInt a3)), none, none] [] (mz_mk g x) Q
          exfalso; omega
        · skip
          refine mm_g 1 (pc1 := 26) (lo1 := [some (.ref 0), some (.int (Int32.ofInt a1)), some (.int (Int32.ofInt a2)), some (.int (Int32.ofInt a3)), none, none]) (st1 := [.int (Int32.ofInt 1)]) (H1 := mz_mk g x) rfl ?_
          refine mz_gt (tgt := 30) rfl rfl ?_
          refine mz_csx rfl mt_11_183 rfl (Nat.le_of_ble_eq_true rfl) (by omega) rfl nh_X11_mustBe (t_X11_mustBe (by omega) hx hI (by decide) (by decide) (fun hp7 => ?_) hX0)
          show mm_W d mmX11_both 33 [some (.ref 0), some (.int (Int32.ofInt a1)), some (.int (Int32.ofInt a2)), some (.int (Int32.ofInt a3)), none, none] [] (mz_mk g x) Q
          refine mm_g 1 (pc1 := 34) (lo1 := [some (.ref 0), some (.int (Int32.ofInt a1)), some (.int (Int32.ofInt a2)), some (.int (Int32.ofInt a3)), none, none]) (st1 := [.int (Int32.ofInt a3)]) (H1 := mz_mk g x) rfl ?_
          refine mz_if_ne (tgt := 50) rfl rfl (mz_rg l_a3 u_a3) (fun c34_7 => ?_) (fun c34_7 => ?_)
          · skip
            refine mm_g 1 (pc1 := 51) (lo1 := [some (.ref 0), some (.int (Int32.ofInt a1)), some (.int (Int32.ofInt a2)), some (.int (Int32.ofInt a3)), none, none]) (st1 := [.ref 0]) (H1 := mz_mk g x) rfl ?_
            refine mz_fgR (v := x.1) rfl fd_11_16 (by decide) (sc_0 _) rfl ?_
            refine mz_fgR (v := (x.1 + 1)) rfl fd_11_135 (by decide) (kc_load (kx_1 hx) _) (kr_load_0 (kx_1 hx) _ _ _) ?_
            refine mm_g 1 (pc1 := 58) (lo1 := [some (.ref 0), some (.int (Int32.ofInt a1)), some (.int (Int32.ofInt a2)), some (.int (Int32.ofInt a3)), none, none]) (st1 := [.int (Int32.ofInt a1), .ref (x.1 + 1)]) (H1 := mz_mk g x) rfl ?_
            refine mz_cv rfl mt_11_203 (by decide) (kc_words (ks_load_0 (kx_1 hx)) _) rfl (Nat.le_of_ble_eq_true rfl) (by omega) (c_X10_of (by omega) hx hI (ks_load_0 (kx_1 hx)) l_a1 u_a1 (fun u8 k_u8 hp9 => ⟨_, rfl, ?_⟩))
            show mm_W d mmX11_both 61 [some (.ref 0), some (.int (Int32.ofInt a1)), some (.int (Int32.ofInt a2)), some (.int (Int32.ofInt a3)), none, none] [.ref u8] (mz_mk g x) Q
            refine mm_g 2 (pc1 := 64) (lo1 := [some (.ref 0), some (.int (Int32.ofInt a1)), some (.int (Int32.ofInt a2)), some (.int (Int32.ofInt a3)), some (.ref u8), none]) (st1 := [.ref 0]) (H1 := mz_mk g x) rfl ?_
            refine mz_fgR (v := x.1) rfl fd_11_16 (by decide) (sc_0 _) rfl ?_
            refine mz_fgR (v := (x.1 + 1)) rfl fd_11_135 (by decide) (kc_load (kx_1 hx) _) (kr_load_0 (kx_1 hx) _ _ _) ?_
            refine mm_g 1 (pc1 := 71) (lo1 := [some (.ref 0), some (.int (Int32.ofInt a1)), some (.int (Int32.ofInt a2)), some (.int (Int32.ofInt a3)), some (.ref u8), none]) (st1 := [.int (Int32.ofInt a2), .ref (x.1 + 1)]) (H1 := mz_mk g x) rfl ?_
            refine mz_cv rfl mt_11_203 (by decide) (kc_words (ks_load_0 (kx_1 hx)) _) rfl (Nat.le_of_ble_eq_true rfl) (by omega) (c_X10_of (by omega) hx hI (ks_load_0 (kx_1 hx)) l_a2 u_a2 (fun u10 k_u10 hp11 => ⟨_, rfl, ?_⟩))
            show mm_W d mmX11_both 74 [some (.ref 0), some (.int (Int32.ofInt a1)), some (.int (Int32.ofInt a2)), some (.int (Int32.ofInt a3)), some (.ref u8), none] [.ref u10] (mz_mk g x) Q
            refine mm_g 3 (pc1 := 78) (lo1 := [some (.ref 0), some (.int (Int32.ofInt a1)), some (.int (Int32.ofInt a2)), some (.int (Int32.ofInt a3)), some (.ref u8), some (.ref u10)]) (st1 := [.int (Int32.ofInt 1), .int (Int32.ofInt a3)]) (H1 := mz_mk g x) rfl ?_
            refine mz_ic_ne (tgt := 95) rfl rfl (mz_rg l_a3 u_a3) ⟨by decide, by decide⟩ (fun c78_11 => ?_) (fun c78_11 => ?_)
            · skip
              refine mm_g 1 (pc1 := 96) (lo1 := [some (.ref 0), some (.int (Int32.ofInt a1)), some (.int (Int32.ofInt a2)), some (.int (Int32.ofInt a3)), some (.ref u8), some (.ref u10)]) (st1 := [.ref 0]) (H1 := mz_mk g x) rfl ?_
              refine mz_fgR (v := 116) rfl fd_11_51 (by decide) (sc_0 _) (rf_0_8 _ _ _) ?_
              refine mm_g 2 (pc1 := 103) (lo1 := [some (.ref 0), some (.int (Int32.ofInt a1)), some (.int (Int32.ofInt a2)), some (.int (Int32.ofInt a3)), some (.ref u8), some (.ref u10)]) (st1 := [.ref u10, .ref u8, .ref 116]) (H1 := mz_mk g x) rfl ?_
              refine mz_cv rfl mt_11_319 (by decide) (sc_116 _) rfl (Nat.le_of_ble_eq_true rfl) (by omega) (c_X2_common (by omega) hx hI k_u8 k_u10 (fun v12 g13 hIg13 hfg13 l_v12 u_v12 => ⟨_, rfl, ?_⟩))
              show mm_W d mmX11_both 106 [some (.ref 0), some (.int (Int32.ofInt a1)), some (.int (Int32.ofInt a2)), some (.int (Int32.ofInt a3)), some (.ref u8), some (.ref u10)] [.int (Int32.ofInt v12)] (mz_mk g13 x) Q
              exact mm_rt rfl rfl (hQ _ _ hIg13 (fun k j hk => (hfg13 k j (fun h => hk h))) (by omega) (by omega))
            · skip
              refine mm_g 1 (pc1 := 82) (lo1 := [some (.ref 0), some (.int (Int32.ofInt a1)), some (.int (Int32.ofInt a2)), some (.int (Int32.ofInt a3)), some (.ref u8), some (.ref u10)]) (st1 := [.ref 0]) (H1 := mz_mk g x) rfl ?_
              refine mz_fgR (v := 116) rfl fd_11_51 (by decide) (sc_0 _) (rf_0_8 _ _ _) ?_
              refine mm_g 2 (pc1 := 89) (lo1 := [some (.ref 0), some (.int (Int32.ofInt a1)), some (.int (Int32.ofInt a2)), some (.int (Int32.ofInt a3)), some (.ref u8), some (.ref u10)]) (st1 := [.ref u10, .ref u8, .ref 116]) (H1 := mz_mk g x) rfl ?_
              refine mz_cv rfl mt_11_293 (by decide) (sc_116 _) rfl (Nat.le_of_ble_eq_true rfl) (by omega) (c_X2_changes (by omega) hx hI k_u8 k_u10 (fun v14 g15 hIg15 hfg15 l_v14 u_v14 => ⟨_, rfl, ?_⟩))
              show mm_W d mmX11_both 92 [some (.ref 0), some (.int (Int32.ofInt a1)), some (.int (Int32.ofInt a2)), some (.int (Int32.ofInt a3)), some (.ref u8), some (.ref u10)] [.int (Int32.ofInt v14)] (mz_mk g15 x) Q
              refine mz_gt (tgt := 106) rfl rfl ?_
              exact mm_rt rfl rfl (hQ _ _ hIg15 (fun k j hk => (hfg15 k j (fun h => hk h))) (by omega) (by omega))
          · skip
            refine mm_g 1 (pc1 := 38) (lo1 := [some (.ref 0), some (.int (Int32.ofInt a1)), some (.int (Int32.ofInt a2)), some (.int (Int32.ofInt a3)), none, none]) (st1 := [.ref 0]) (H1 := mz_mk g x) rfl ?_
            refine mz_fgR (v := x.1) rfl fd_11_16 (by decide) (sc_0 _) rfl ?_
            refine mz_fgR (v := (x.1 + 1)) rfl fd_11_135 (by decide) (kc_load (kx_1 hx) _) (kr_load_0 (kx_1 hx) _ _ _) ?_
            refine mm_g 2 (pc1 := 46) (lo1 := [some (.ref 0), some (.int (Int32.ofInt a1)), some (.int (Int32.ofInt a2)), some (.int (Int32.ofInt a3)), none, none]) (st1 := [.int (Int32.ofInt a2), .int (Int32.ofInt a1), .ref (x.1 + 1)]) (H1 := mz_mk g x) rfl ?_
            refine mz_cv rfl mt_11_316 (by decide) (kc_words (ks_load_0 (kx_1 hx)) _) rfl (Nat.le_of_ble_eq_true rfl) (by omega) (c_X10_overlapOf (by omega) hx hI (ks_load_0 (kx_1 hx)) l_a1 u_a1 l_a2 u_a2 (fun v16 l_v16 u_v16 => ⟨_, rfl, ?_⟩))
            show mm_W d mmX11_both 49 [some (.ref 0), some (.int (Int32.ofInt a1)), some (.int (Int32.ofInt a2)), some (.int (Int32.ofInt a3)), none, none] [.int (Int32.ofInt v16)] (mz_mk g x) Q
            exact mm_rt rfl rfl (hQ _ _ hI (fun _ _ _ => rfl) (by omega) (by omega))
theorem t_X11_row {d : Nat} (hd : 13 ≤ d) {x : mm_X} (hx : mk_x x) {g : mz_G} (hI : mz_inv g) {a1 : Int} (l_a1 : (-2147483648) ≤ a1) (u_a1 : a1 ≤ 2147483647) {Q : (Option Value ⊕ Nat) → mm_H → Prop} (hQ : ∀ (r : Int), (-2147483648) ≤ r → r ≤ 2147483647 → Q (.inl (some (.int (Int32.ofInt r)))) (mz_mk g x)) (hX0 : Q (.inr 0) (mz_mk g (mz_tx x))) : mm_C d 149 [.ref 0, .int (Int32.ofInt a1)] (mz_mk g x) Q := by
  have kx := kn_x hx
  refine ⟨mmX11_row, [some (.ref 0), some (.int (Int32.ofInt a1))], rfl, rfl, ?_⟩
  refine mm_g 2 (pc1 := 2) (lo1 := [some (.ref 0), some (.int (Int32.ofInt a1))]) (st1 := [.int (Int32.ofInt (-1)), .int (Int32.ofInt a1)]) (H1 := mz_mk g x) rfl ?_
  refine mz_ic_ne (tgt := 16) rfl rfl (mz_rg l_a1 u_a1) ⟨by decide, by decide⟩ (fun c2_0 => ?_) (fun c2_0 => ?_)
  · skip
    refine mm_g 1 (pc1 := 17) (lo1 := [some (.ref 0), some (.int (Int32.ofInt a1))]) (st1 := [.int (Int32.ofInt a1)]) (H1 := mz_mk g x) rfl ?_
    refine mz_if_lt (tgt := 38) rfl rfl (mz_rg l_a1 u_a1) (fun c17_0 => ?_) (fun c17_0 => ?_)
    · skip
      refine mm_g 1 (pc1 := 39) (lo1 := [some (.ref 0), some (.int (Int32.ofInt a1))]) (st1 := [.int (Int32.ofInt 0)]) (H1 := mz_mk g x) rfl ?_
      refine mz_csx rfl mt_11_183 rfl (Nat.le_of_ble_eq_true rfl) (by omega) rfl nh_X11_mustBe (t_X11_mustBe (by omega) hx hI (by decide) (by decide) (fun hp1 => ?_) hX0)
      show mm_W d mmX11_row 42 [some (.ref 0), some (.int (Int32.ofInt a1))] [] (mz_mk g x) Q
      exfalso; omega
    · skip
      refine mm_g 2 (pc1 := 22) (lo1 := [some (.ref 0), some (.int (Int32.ofInt a1))]) (st1 := [.ref 0, .int (Int32.ofInt a1)]) (H1 := mz_mk g x) rfl ?_
      refine mz_fgR (v := x.1) rfl fd_11_16 (by decide) (sc_0 _) rfl ?_
      refine mz_fgR (v := (x.1 + 1)) rfl fd_11_135 (by decide) (kc_load (kx_1 hx) _) (kr_load_0 (kx_1 hx) _ _ _) ?_
      refine mz_cv rfl mt_11_152 (by decide) (kc_words (ks_load_0 (kx_1 hx)) _) rfl (Nat.le_of_ble_eq_true rfl) (by omega) (c_X10_many (by omega) hx hI (ks_load_0 (kx_1 hx)) (fun v2 l_v2 u_v2 => ⟨_, rfl, ?_⟩))
      show mm_W d mmX11_row 31 [some (.ref 0), some (.int (Int32.ofInt a1))] [.int (Int32.ofInt v2), .int (Int32.ofInt a1)] (mz_mk g x) Q
      refine mz_ic_ge (tgt := 38) rfl rfl (mz_rg l_a1 u_a1) (mz_rg l_v2 u_v2) (fun c31_2 => ?_) (fun c31_2 => ?_)
      · skip
        refine mm_g 1 (pc1 := 39) (lo1 := [some (.ref 0), some (.int (Int32.ofInt a1))]) (st1 := [.int (Int32.ofInt 0)]) (H1 := mz_mk g x) rfl ?_
        refine mz_csx rfl mt_11_183 rfl (Nat.le_of_ble_eq_true rfl) (by omega) rfl nh_X11_mustBe (t_X11_mustBe (by omega) hx hI (by decide) (by decide) (fun hp3 => ?_) hX0)
        show mm_W d mmX11_row 42 [some (.ref 0), some (.int (Int32.ofInt a1))] [] (mz_mk g x) Q
        exfalso; omega
      · skip
        refine mm_g 1 (pc1 := 35) (lo1 := [some (.ref 0), some (.int (Int32.ofInt a1))]) (st1 := [.int (Int32.ofInt 1)]) (H1 := mz_mk g x) rfl ?_
        refine mz_gt (tgt := 39) rfl rfl ?_
        refine mz_csx rfl mt_11_183 rfl (Nat.le_of_ble_eq_true rfl) (by omega) rfl nh_X11_mustBe (t_X11_mustBe (by omega) hx hI (by decide) (by decide) (fun hp4 => ?_) hX0)
        show mm_W d mmX11_row 42 [some (.ref 0), some (.int (Int32.ofInt a1))] [] (mz_mk g x) Q
        refine mm_g 1 (pc1 := 43) (lo1 := [some (.ref 0), some (.int (Int32.ofInt a1))]) (st1 := [.ref 0]) (H1 := mz_mk g x) rfl ?_
        refine mz_fgR (v := x.1) rfl fd_11_16 (by decide) (sc_0 _) rfl ?_
        refine mz_fgR (v := (x.1 + 1)) rfl fd_11_135 (by decide) (kc_load (kx_1 hx) _) (kr_load_0 (kx_1 hx) _ _ _) ?_
        refine mm_g 1 (pc1 := 50) (lo1 := [some (.ref 0), some (.int (Int32.ofInt a1))]) (st1 := [.int (Int32.ofInt a1), .ref (x.1 + 1)]) (H1 := mz_mk g x) rfl ?_
        refine mz_cv rfl mt_11_325 (by decide) (kc_words (ks_load_0 (kx_1 hx)) _) rfl (Nat.le_of_ble_eq_true rfl) (by omega) (c_X10_inRow (by omega) hx hI (ks_load_0 (kx_1 hx)) l_a1 u_a1 (fun v5 l_v5 u_v5 => ⟨_, rfl, ?_⟩))
        show mm_W d mmX11_row 53 [some (.ref 0), some (.int (Int32.ofInt a1))] [.int (Int32.ofInt v5)] (mz_mk g x) Q
        exact mm_rt rfl rfl (hQ _ (by omega) (by omega))
  · skip
    refine mm_g 1 (pc1 := 6) (lo1 := [some (.ref 0), some (.int (Int32.ofInt a1))]) (st1 := [.ref 0]) (H1 := mz_mk g x) rfl ?_
    refine mz_fgR (v := x.1) rfl fd_11_16 (by decide) (sc_0 _) rfl ?_
    refine mz_fgR (v := (x.1 + 1)) rfl fd_11_135 (by decide) (kc_load (kx_1 hx) _) (kr_load_0 (kx_1 hx) _ _ _) ?_
    refine mz_cv rfl mt_11_322 (by decide) (kc_words (ks_load_0 (kx_1 hx)) _) rfl (Nat.le_of_ble_eq_true rfl) (by omega) (c_X10_rowLetters (by omega) hx hI (ks_load_0 (kx_1 hx)) (fun v6 l_v6 u_v6 => ⟨_, rfl, ?_⟩))
    show mm_W d mmX11_row 15 [some (.ref 0), some (.int (Int32.ofInt a1))] [.int (Int32.ofInt v6)] (mz_mk g x) Q
    exact mm_rt rfl rfl (hQ _ (by omega) (by omega))
theorem t_X11_chain {d : Nat} (hd : 13 ≤ d) {x : mm_X} (hx : mk_x x) {g : mz_G} (hI : mz_inv g) {a1 : Int} (l_a1 : (-2147483648) ≤ a1) (u_a1 : a1 ≤ 2147483647) {Q : (Option Value ⊕ Nat) → mm_H → Prop} (hQ : ∀ (r : Int), (-2147483648) ≤ r → r ≤ 2147483647 → Q (.inl (some (.int (Int32.ofInt r)))) (mz_mk g x)) (hX0 : Q (.inr 0) (mz_mk g (mz_tx x))) : mm_C d 150 [.ref 0, .int (Int32.ofInt a1)] (mz_mk g x) Q := by
  have kx := kn_x hx
  refine ⟨mmX11_chain, [some (.ref 0), some (.int (Int32.ofInt a1))], rfl, rfl, ?_⟩
  refine mm_g 2 (pc1 := 2) (lo1 := [some (.ref 0), some (.int (Int32.ofInt a1))]) (st1 := [.int (Int32.ofInt (-1)), .int (Int32.ofInt a1)]) (H1 := mz_mk g x) rfl ?_
  refine mz_ic_ne (tgt := 16) rfl rfl (mz_rg l_a1 u_a1) ⟨by decide, by decide⟩ (fun c2_0 => ?_) (fun c2_0 => ?_)
  · skip
    refine mm_g 1 (pc1 := 17) (lo1 := [some (.ref 0), some (.int (Int32.ofInt a1))]) (st1 := [.int (Int32.ofInt a1)]) (H1 := mz_mk g x) rfl ?_
    refine mz_if_lt (tgt := 38) rfl rfl (mz_rg l_a1 u_a1) (fun c17_0 => ?_) (fun c17_0 => ?_)
    · skip
      refine mm_g 1 (pc1 := 39) (lo1 := [some (.ref 0), some (.int (Int32.ofInt a1))]) (st1 := [.int (Int32.ofInt 0)]) (H1 := mz_mk g x) rfl ?_
      refine mz_csx rfl mt_11_183 rfl (Nat.le_of_ble_eq_true rfl) (by omega) rfl nh_X11_mustBe (t_X11_mustBe (by omega) hx hI (by decide) (by decide) (fun hp1 => ?_) hX0)
      show mm_W d mmX11_chain 42 [some (.ref 0), some (.int (Int32.ofInt a1))] [] (mz_mk g x) Q
      exfalso; omega
    · skip
      refine mm_g 2 (pc1 := 22) (lo1 := [some (.ref 0), some (.int (Int32.ofInt a1))]) (st1 := [.ref 0, .int (Int32.ofInt a1)]) (H1 := mz_mk g x) rfl ?_
      refine mz_fgR (v := x.1) rfl fd_11_16 (by decide) (sc_0 _) rfl ?_
      refine mz_fgR (v := (x.1 + 1)) rfl fd_11_135 (by decide) (kc_load (kx_1 hx) _) (kr_load_0 (kx_1 hx) _ _ _) ?_
      refine mz_cv rfl mt_11_328 (by decide) (kc_words (ks_load_0 (kx_1 hx)) _) rfl (Nat.le_of_ble_eq_true rfl) (by omega) (c_X10_chainSize (by omega) hx hI (ks_load_0 (kx_1 hx)) (fun v2 l_v2 u_v2 => ⟨_, rfl, ?_⟩))
      show mm_W d mmX11_chain 31 [some (.ref 0), some (.int (Int32.ofInt a1))] [.int (Int32.ofInt v2), .int (Int32.ofInt a1)] (mz_mk g x) Q
      refine mz_ic_ge (tgt := 38) rfl rfl (mz_rg l_a1 u_a1) (mz_rg l_v2 u_v2) (fun c31_2 => ?_) (fun c31_2 => ?_)
      · skip
        refine mm_g 1 (pc1 := 39) (lo1 := [some (.ref 0), some (.int (Int32.ofInt a1))]) (st1 := [.int (Int32.ofInt 0)]) (H1 := mz_mk g x) rfl ?_
        refine mz_csx rfl mt_11_183 rfl (Nat.le_of_ble_eq_true rfl) (by omega) rfl nh_X11_mustBe (t_X11_mustBe (by omega) hx hI (by decide) (by decide) (fun hp3 => ?_) hX0)
        show mm_W d mmX11_chain 42 [some (.ref 0), some (.int (Int32.ofInt a1))] [] (mz_mk g x) Q
        exfalso; omega
      · skip
        refine mm_g 1 (pc1 := 35) (lo1 := [some (.ref 0), some (.int (Int32.ofInt a1))]) (st1 := [.int (Int32.ofInt 1)]) (H1 := mz_mk g x) rfl ?_
        refine mz_gt (tgt := 39) rfl rfl ?_
        refine mz_csx rfl mt_11_183 rfl (Nat.le_of_ble_eq_true rfl) (by omega) rfl nh_X11_mustBe (t_X11_mustBe (by omega) hx hI (by decide) (by decide) (fun hp4 => ?_) hX0)
        show mm_W d mmX11_chain 42 [some (.ref 0), some (.int (Int32.ofInt a1))] [] (mz_mk g x) Q
        refine mm_g 1 (pc1 := 43) (lo1 := [some (.ref 0), some (.int (Int32.ofInt a1))]) (st1 := [.ref 0]) (H1 := mz_mk g x) rfl ?_
        refine mz_fgR (v := x.1) rfl fd_11_16 (by decide) (sc_0 _) rfl ?_
        refine mz_fgR (v := (x.1 + 1)) rfl fd_11_135 (by decide) (kc_load (kx_1 hx) _) (kr_load_0 (kx_1 hx) _ _ _) ?_
        refine mm_g 1 (pc1 := 50) (lo1 := [some (.ref 0), some (.int (Int32.ofInt a1))]) (st1 := [.int (Int32.ofInt a1), .ref (x.1 + 1)]) (H1 := mz_mk g x) rfl ?_
        refine mz_cv rfl mt_11_331 (by decide) (kc_words (ks_load_0 (kx_1 hx)) _) rfl (Nat.le_of_ble_eq_true rfl) (by omega) (c_X10_inChain (by omega) hx hI (ks_load_0 (kx_1 hx)) l_a1 u_a1 (fun v5 l_v5 u_v5 => ⟨_, rfl, ?_⟩))
        show mm_W d mmX11_chain 53 [some (.ref 0), some (.int (Int32.ofInt a1))] [.int (Int32.ofInt v5)] (mz_mk g x) Q
        exact mm_rt rfl rfl (hQ _ (by omega) (by omega))
  · skip
    refine mm_g 1 (pc1 := 6) (lo1 := [some (.ref 0), some (.int (Int32.ofInt a1))]) (st1 := [.ref 0]) (H1 := mz_mk g x) rfl ?_
    refine mz_fgR (v := x.1) rfl fd_11_16 (by decide) (sc_0 _) rfl ?_
    refine mz_fgR (v := (x.1 + 1)) rfl fd_11_135 (by decide) (kc_load (kx_1 hx) _) (kr_load_0 (kx_1 hx) _ _ _) ?_
    refine mz_cv rfl mt_11_328 (by decide) (kc_words (ks_load_0 (kx_1 hx)) _) rfl (Nat.le_of_ble_eq_true rfl) (by omega) (c_X10_chainSize (by omega) hx hI (ks_load_0 (kx_1 hx)) (fun v6 l_v6 u_v6 => ⟨_, rfl, ?_⟩))
    show mm_W d mmX11_chain 15 [some (.ref 0), some (.int (Int32.ofInt a1))] [.int (Int32.ofInt v6)] (mz_mk g x) Q
    exact mm_rt rfl rfl (hQ _ (by omega) (by omega))
theorem t_X11_toDraw {d : Nat} (hd : 16 ≤ d) {x : mm_X} (hx : mk_x x) {g : mz_G} (hI : mz_inv g) {a1 : Int} (l_a1 : (-2147483648) ≤ a1) (u_a1 : a1 ≤ 2147483647) {a2 : Int} (l_a2 : (-2147483648) ≤ a2) (u_a2 : a2 ≤ 2147483647) {Q : (Option Value ⊕ Nat) → mm_H → Prop} (hQ : ∀ (r : Int) (g1 : mz_G), mz_inv g1 → mz_fr (fw_X11_toDraw x a1 a2) g g1 → (-1) ≤ r → r ≤ 9 → Q (.inl (some (.int (Int32.ofInt r)))) (mz_mk g1 x)) (hX0 : Q (.inr 0) (mz_mk g (mz_tx x))) (hX1 : Q (.inr 1) (mz_mk g (mz_tx x))) : mm_C d 151 [.ref 0, .int (Int32.ofInt a1), .int (Int32.ofInt a2)] (mz_mk g x) Q := by
  have kx := kn_x hx
  refine ⟨mmX11_toDraw, [some (.ref 0), some (.int (Int32.ofInt a1)), some (.int (Int32.ofInt a2)), none], rfl, rfl, ?_⟩
  refine mm_g 2 (pc1 := 2) (lo1 := [some (.ref 0), some (.int (Int32.ofInt a1)), some (.int (Int32.ofInt a2)), none]) (st1 := [.int (Int32.ofInt a1), .ref 0]) (H1 := mz_mk g x) rfl ?_
  refine mz_cv rfl mt_11_231 (by decide) (sc_0 _) rfl (Nat.le_of_ble_eq_true rfl) (by omega) (c_X11_isTrunk (by omega) hx hI l_a1 u_a1 (fun v1 l_v1 u_v1 => ⟨_, rfl, ?_⟩))
  show mm_W d mmX11_toDraw 5 [some (.ref 0), some (.int (Int32.ofInt a1)), some (.int (Int32.ofInt a2)), none] [.int (Int32.ofInt v1)] (mz_mk g x) Q
  refine mz_csx rfl mt_11_183 rfl (Nat.le_of_ble_eq_true rfl) (by omega) rfl nh_X11_mustBe (t_X11_mustBe (by omega) hx hI l_v1 u_v1 (fun hp2 => ?_) hX0)
  show mm_W d mmX11_toDraw 8 [some (.ref 0), some (.int (Int32.ofInt a1)), some (.int (Int32.ofInt a2)), none] [] (mz_mk g x) Q
  refine mm_g 1 (pc1 := 9) (lo1 := [some (.ref 0), some (.int (Int32.ofInt a1)), some (.int (Int32.ofInt a2)), none]) (st1 := [.int (Int32.ofInt a2)]) (H1 := mz_mk g x) rfl ?_
  refine mz_cs rfl mt_11_279 (by decide) rfl (Nat.le_of_ble_eq_true rfl) (by omega) (c_X11_isAhead (by omega) hx hI l_a2 u_a2 (fun v3 l_v3 u_v3 => ⟨_, rfl, ?_⟩))
  show mm_W d mmX11_toDraw 12 [some (.ref 0), some (.int (Int32.ofInt a1)), some (.int (Int32.ofInt a2)), none] [.int (Int32.ofInt v3)] (mz_mk g x) Q
  refine mz_csx rfl mt_11_106 rfl (Nat.le_of_ble_eq_true rfl) (by omega) rfl nh_X11_mustFit (t_X11_mustFit (by omega) hx hI l_v3 u_v3 (fun hp4 => ?_) (fun _ => hX1))
  show mm_W d mmX11_toDraw 15 [some (.ref 0), some (.int (Int32.ofInt a1)), some (.int (Int32.ofInt a2)), none] [] (mz_mk g x) Q
  refine mz_bip rfl bip_9 ?_
  refine mm_g 1 (pc1 := 18) (lo1 := [some (.ref 0), some (.int (Int32.ofInt a1)), some (.int (Int32.ofInt a2)), some (.int (Int32.ofInt 9))]) (st1 := []) (H1 := mz_mk g x) rfl ?_
  have L9 : ∀ n8 : Nat, ∀ (v5 : Int) (g6 : mz_G), (v5 - (-1)).toNat = n8 → (-1) ≤ v5 → v5 ≤ 9 → mz_inv g6 → mz_fr (fl_X11_toDraw_18 x a1 a2) g g6 → mm_W d mmX11_toDraw 18 [some (.ref 0), some (.int (Int32.ofInt a1)), some (.int (Int32.ofInt a2)), some (.int (Int32.ofInt v5))] [] (mz_mk g6 x) Q := by
    intro n8
    induction n8 using Nat.strongRecOn with
    | ind n8 ih7 =>
    intro v5 g6 hmn8 l_v5 u_v5 hIg6 hfg6
    refine mm_g 1 (pc1 := 19) (lo1 := [some (.ref 0), some (.int (Int32.ofInt a1)), some (.int (Int32.ofInt a2)), some (.int (Int32.ofInt v5))]) (st1 := [.int (Int32.ofInt v5)]) (H1 := mz_mk g6 x) rfl ?_
    refine mz_if_lt (tgt := 51) rfl rfl (mz_rg l_v5 u_v5) (fun c19_9 => ?_) (fun c19_9 => ?_)
    · skip
      refine mm_g 1 (pc1 := 52) (lo1 := [some (.ref 0), some (.int (Int32.ofInt a1)), some (.int (Int32.ofInt a2)), some (.int (Int32.ofInt v5))]) (st1 := [.int (Int32.ofInt (-1))]) (H1 := mz_mk g6 x) rfl ?_
      exact mm_rt rfl rfl (hQ _ _ hIg6 (fun k j hk => (hfg6 k j (fun h => hk (Or.elim h (fun h => (Or.inl h)) (fun h => (Or.elim h (fun h => (Or.inr (Or.inl h))) (fun h => (Or.inr (Or.inr h))))))))) (by decide) (by decide))
    · skip
      refine mm_g 4 (pc1 := 26) (lo1 := [some (.ref 0), some (.int (Int32.ofInt a1)), some (.int (Int32.ofInt a2)), some (.int (Int32.ofInt v5))]) (st1 := [.int (Int32.ofInt a2), .int (Int32.ofInt v5), .int (Int32.ofInt a1), .ref 0]) (H1 := mz_mk g6 x) rfl ?_
      refine mz_cv rfl mt_11_282 (by decide) (sc_0 _) rfl (Nat.le_of_ble_eq_true rfl) (by omega) (c_X11_growProbe (by omega) hx hIg6 l_a1 u_a1 (by omega) (by omega) l_a2 u_a2 (fun g10 hIg10 hfg10 => ⟨_, rfl, ?_⟩))
      show mm_W d mmX11_toDraw 29 [some (.ref 0), some (.int (Int32.ofInt a1)), some (.int (Int32.ofInt a2)), some (.int (Int32.ofInt v5))] [] (mz_mk g10 x) Q
      refine mm_g 1 (pc1 := 30) (lo1 := [some (.ref 0), some (.int (Int32.ofInt a1)), some (.int (Int32.ofInt a2)), some (.int (Int32.ofInt v5))]) (st1 := [.ref 0]) (H1 := mz_mk g10 x) rfl ?_
      refine mz_fgR (v := x.1) rfl fd_11_16 (by decide) (sc_0 _) rfl ?_
      refine mm_g 1 (pc1 := 34) (lo1 := [some (.ref 0), some (.int (Int32.ofInt a1)), some (.int (Int32.ofInt a2)), some (.int (Int32.ofInt v5))]) (st1 := [.ref 0, .ref x.1]) (H1 := mz_mk g10 x) rfl ?_
      refine mz_fgR (v := 122) rfl fd_11_65 (by decide) (sc_0 _) (rf_0_10 _ _ _) ?_
      refine mz_cv rfl mt_11_259 (by decide) (kc_load (kx_1 hx) _) rfl (Nat.le_of_ble_eq_true rfl) (by omega) (c_X1_isFull (by omega) hx hIg10 (kx_1 hx) kp_trunk_122 (fun v11 l_v11 u_v11 => ⟨_, rfl, ?_⟩))
      show mm_W d mmX11_toDraw 40 [some (.ref 0), some (.int (Int32.ofInt a1)), some (.int (Int32.ofInt a2)), some (.int (Int32.ofInt v5))] [.int (Int32.ofInt v11)] (mz_mk g10 x) Q
      refine mz_if_eq (tgt := 45) rfl rfl (mz_rg l_v11 u_v11) (fun c40_11 => ?_) (fun c40_11 => ?_)
      · skip
        refine mz_iincR (v := v5) (lo2 := [some (.ref 0), some (.int (Int32.ofInt a1)), some (.int (Int32.ofInt a2)), some (.int (Int32.ofInt (v5 + (-1))))]) rfl rfl rfl (Nat.le_of_ble_eq_true rfl) rfl ?_
        refine mz_gt (tgt := 18) rfl rfl ?_
        exact ih7 (((v5 + (-1)) - (-1)).toNat) (by omega) (v5 + (-1)) g10 rfl (by omega) (by omega) hIg10 (fun k j hk => ((hfg10 k j (fun h => hk (Or.elim h (fun h => (Or.inl h)) (fun h => (Or.elim h (fun h => (Or.inr (Or.inl h))) (fun h => (Or.inr (Or.inr h)))))))).trans (hfg6 k j (fun h => hk (Or.elim h (fun h => (Or.inl h)) (fun h => (Or.elim h (fun h => (Or.inr (Or.inl h))) (fun h => (Or.inr (Or.inr h))))))))))
      · skip
        refine mm_g 1 (pc1 := 44) (lo1 := [some (.ref 0), some (.int (Int32.ofInt a1)), some (.int (Int32.ofInt a2)), some (.int (Int32.ofInt v5))]) (st1 := [.int (Int32.ofInt v5)]) (H1 := mz_mk g10 x) rfl ?_
        exact mm_rt rfl rfl (hQ _ _ hIg10 (fun k j hk => ((hfg10 k j (fun h => hk (Or.elim h (fun h => (Or.inl h)) (fun h => (Or.elim h (fun h => (Or.inr (Or.inl h))) (fun h => (Or.inr (Or.inr h)))))))).trans (hfg6 k j (fun h => hk (Or.elim h (fun h => (Or.inl h)) (fun h => (Or.elim h (fun h => (Or.inr (Or.inl h))) (fun h => (Or.inr (Or.inr h)))))))))) (by omega) (by omega))
  exact L9 _ 9 g rfl (by decide) (by decide) hI (fun _ _ _ => rfl)
theorem t_X11_see {d : Nat} (hd : 13 ≤ d) {x : mm_X} (hx : mk_x x) {g : mz_G} (hI : mz_inv g) {a1 : Int} (l_a1 : (-2147483648) ≤ a1) (u_a1 : a1 ≤ 2147483647) {a2 : Int} (l_a2 : (-2147483648) ≤ a2) (u_a2 : a2 ≤ 2147483647) {a3 : Int} (l_a3 : (-2147483648) ≤ a3) (u_a3 : a3 ≤ 2147483647) {Q : (Option Value ⊕ Nat) → mm_H → Prop} (hQ : ∀ (r : Int) (g1 : mz_G), mz_inv g1 → mz_fr (fw_X11_see x a1 a2 a3) g g1 → (-1) ≤ r → r ≤ 8 → Q (.inl (some (.int (Int32.ofInt r)))) (mz_mk g1 x)) (hX0 : Q (.inr 0) (mz_mk g (mz_tx x))) : mm_C d 154 [.ref 0, .int (Int32.ofInt a1), .int (Int32.ofInt a2), .int (Int32.ofInt a3)] (mz_mk g x) Q := by
  have kx := kn_x hx
  refine ⟨mmX11_see, [some (.ref 0), some (.int (Int32.ofInt a1)), some (.int (Int32.ofInt a2)), some (.int (Int32.ofInt a3)), none], rfl, rfl, ?_⟩
  refine mm_g 2 (pc1 := 2) (lo1 := [some (.ref 0), some (.int (Int32.ofInt a1)), some (.int (Int32.ofInt a2)), some (.int (Int32.ofInt a3)), none]) (st1 := [.int (Int32.ofInt a1), .ref 0]) (H1 := mz_mk g x) rfl ?_
  refine mz_cv rfl mt_11_231 (by decide) (sc_0 _) rfl (Nat.le_of_ble_eq_true rfl) (by omega) (c_X11_isTrunk (by omega) hx hI l_a1 u_a1 (fun v1 l_v1 u_v1 => ⟨_, rfl, ?_⟩))
  show mm_W d mmX11_see 5 [some (.ref 0), some (.int (Int32.ofInt a1)), some (.int (Int32.ofInt a2)), some (.int (Int32.ofInt a3)), none] [.int (Int32.ofInt v1)] (mz_mk g x) Q
  refine mz_csx rfl mt_11_183 rfl (Nat.le_of_ble_eq_true rfl) (by omega) rfl nh_X11_mustBe (t_X11_mustBe (by omega) hx hI l_v1 u_v1 (fun hp2 => ?_) hX0)
  show mm_W d mmX11_see 8 [some (.ref 0), some (.int (Int32.ofInt a1)), some (.int (Int32.ofInt a2)), some (.int (Int32.ofInt a3)), none] [] (mz_mk g x) Q
  refine mm_g 1 (pc1 := 9) (lo1 := [some (.ref 0), some (.int (Int32.ofInt a1)), some (.int (Int32.ofInt a2)), some (.int (Int32.ofInt a3)), none]) (st1 := [.int (Int32.ofInt a2)]) (H1 := mz_mk g x) rfl ?_
  refine mz_if_lt (tgt := 32) rfl rfl (mz_rg l_a2 u_a2) (fun c9_2 => ?_) (fun c9_2 => ?_)
  · skip
    refine mm_g 3 (pc1 := 37) (lo1 := [some (.ref 0), some (.int (Int32.ofInt a1)), some (.int (Int32.ofInt a2)), some (.int (Int32.ofInt a3)), some (.int (Int32.ofInt 0))]) (st1 := [.int (Int32.ofInt 0)]) (H1 := mz_mk g x) rfl ?_
    refine mz_if_eq (tgt := 52) rfl rfl ⟨by decide, by decide⟩ (fun c37_2 => ?_) (fun c37_2 => ?_)
    · skip
      refine mm_g 1 (pc1 := 53) (lo1 := [some (.ref 0), some (.int (Int32.ofInt a1)), some (.int (Int32.ofInt a2)), some (.int (Int32.ofInt a3)), some (.int (Int32.ofInt 0))]) (st1 := [.ref 0]) (H1 := mz_mk g x) rfl ?_
      refine mz_fgR (v := 86) rfl fd_11_37 (by decide) (sc_0 _) (rf_0_5 _ _ _) ?_
      refine mm_g 1 (pc1 := 57) (lo1 := [some (.ref 0), some (.int (Int32.ofInt a1)), some (.int (Int32.ofInt a2)), some (.int (Int32.ofInt a3)), some (.int (Int32.ofInt 0))]) (st1 := [.int (Int32.ofInt 2), .ref 86]) (H1 := mz_mk g x) rfl ?_
      refine mz_cv rfl mt_11_131 (by decide) (sc_86 _) rfl (Nat.le_of_ble_eq_true rfl) (by omega) (c_X6_refuse (by omega) hx hI kp_story_86 (by decide) (by decide) (fun v3 g4 hIg4 hfg4 l_v3 u_v3 => ⟨_, rfl, ?_⟩))
      show mm_W d mmX11_see 60 [some (.ref 0), some (.int (Int32.ofInt a1)), some (.int (Int32.ofInt a2)), some (.int (Int32.ofInt a3)), some (.int (Int32.ofInt 0))] [.int (Int32.ofInt v3)] (mz_mk g4 x) Q
      exact mm_rt rfl rfl (hQ _ _ hIg4 (fun k j hk => (hfg4 k j (fun h => hk (Or.inl h)))) (by omega) (by omega))
    · exfalso; omega
  · skip
    refine mm_g 1 (pc1 := 13) (lo1 := [some (.ref 0), some (.int (Int32.ofInt a1)), some (.int (Int32.ofInt a2)), some (.int (Int32.ofInt a3)), none]) (st1 := [.int (Int32.ofInt a2)]) (H1 := mz_mk g x) rfl ?_
    refine mz_bip rfl bip_20 ?_
    refine mz_ic_gt (tgt := 32) rfl rfl (mz_rg l_a2 u_a2) ⟨by decide, by decide⟩ (fun c15_4 => ?_) (fun c15_4 => ?_)
    · skip
      refine mm_g 3 (pc1 := 37) (lo1 := [some (.ref 0), some (.int (Int32.ofInt a1)), some (.int (Int32.ofInt a2)), some (.int (Int32.ofInt a3)), some (.int (Int32.ofInt 0))]) (st1 := [.int (Int32.ofInt 0)]) (H1 := mz_mk g x) rfl ?_
      refine mz_if_eq (tgt := 52) rfl rfl ⟨by decide, by decide⟩ (fun c37_4 => ?_) (fun c37_4 => ?_)
      · skip
        refine mm_g 1 (pc1 := 53) (lo1 := [some (.ref 0), some (.int (Int32.ofInt a1)), some (.int (Int32.ofInt a2)), some (.int (Int32.ofInt a3)), some (.int (Int32.ofInt 0))]) (st1 := [.ref 0]) (H1 := mz_mk g x) rfl ?_
        refine mz_fgR (v := 86) rfl fd_11_37 (by decide) (sc_0 _) (rf_0_5 _ _ _) ?_
        refine mm_g 1 (pc1 := 57) (lo1 := [some (.ref 0), some (.int (Int32.ofInt a1)), some (.int (Int32.ofInt a2)), some (.int (Int32.ofInt a3)), some (.int (Int32.ofInt 0))]) (st1 := [.int (Int32.ofInt 2), .ref 86]) (H1 := mz_mk g x) rfl ?_
        refine mz_cv rfl mt_11_131 (by decide) (sc_86 _) rfl (Nat.le_of_ble_eq_true rfl) (by omega) (c_X6_refuse (by omega) hx hI kp_story_86 (by decide) (by decide) (fun v5 g6 hIg6 hfg6 l_v5 u_v5 => ⟨_, rfl, ?_⟩))
        show mm_W d mmX11_see 60 [some (.ref 0), some (.int (Int32.ofInt a1)), some (.int (Int32.ofInt a2)), some (.int (Int32.ofInt a3)), some (.int (Int32.ofInt 0))] [.int (Int32.ofInt v5)] (mz_mk g6 x) Q
        exact mm_rt rfl rfl (hQ _ _ hIg6 (fun k j hk => (hfg6 k j (fun h => hk (Or.inl h)))) (by omega) (by omega))
      · exfalso; omega
    · skip
      refine mm_g 1 (pc1 := 19) (lo1 := [some (.ref 0), some (.int (Int32.ofInt a1)), some (.int (Int32.ofInt a2)), some (.int (Int32.ofInt a3)), none]) (st1 := [.int (Int32.ofInt a3)]) (H1 := mz_mk g x) rfl ?_
      refine mz_if_lt (tgt := 32) rfl rfl (mz_rg l_a3 u_a3) (fun c19_6 => ?_) (fun c19_6 => ?_)
      · skip
        refine mm_g 3 (pc1 := 37) (lo1 := [some (.ref 0), some (.int (Int32.ofInt a1)), some (.int (Int32.ofInt a2)), some (.int (Int32.ofInt a3)), some (.int (Int32.ofInt 0))]) (st1 := [.int (Int32.ofInt 0)]) (H1 := mz_mk g x) rfl ?_
        refine mz_if_eq (tgt := 52) rfl rfl ⟨by decide, by decide⟩ (fun c37_6 => ?_) (fun c37_6 => ?_)
        · skip
          refine mm_g 1 (pc1 := 53) (lo1 := [some (.ref 0), some (.int (Int32.ofInt a1)), some (.int (Int32.ofInt a2)), some (.int (Int32.ofInt a3)), some (.int (Int32.ofInt 0))]) (st1 := [.ref 0]) (H1 := mz_mk g x) rfl ?_
          refine mz_fgR (v := 86) rfl fd_11_37 (by decide) (sc_0 _) (rf_0_5 _ _ _) ?_
          refine mm_g 1 (pc1 := 57) (lo1 := [some (.ref 0), some (.int (Int32.ofInt a1)), some (.int (Int32.ofInt a2)), some (.int (Int32.ofInt a3)), some (.int (Int32.ofInt 0))]) (st1 := [.int (Int32.ofInt 2), .ref 86]) (H1 := mz_mk g x) rfl ?_
          refine mz_cv rfl mt_11_131 (by decide) (sc_86 _) rfl (Nat.le_of_ble_eq_true rfl) (by omega) (c_X6_refuse (by omega) hx hI kp_story_86 (by decide) (by decide) (fun v7 g8 hIg8 hfg8 l_v7 u_v7 => ⟨_, rfl, ?_⟩))
          show mm_W d mmX11_see 60 [some (.ref 0), some (.int (Int32.ofInt a1)), some (.int (Int32.ofInt a2)), some (.int (Int32.ofInt a3)), some (.int (Int32.ofInt 0))] [.int (Int32.ofInt v7)] (mz_mk g8 x) Q
          exact mm_rt rfl rfl (hQ _ _ hIg8 (fun k j hk => (hfg8 k j (fun h => hk (Or.inl h)))) (by omega) (by omega))
        · exfalso; omega
      · skip
        refine mm_g 1 (pc1 := 23) (lo1 := [some (.ref 0), some (.int (Int32.ofInt a1)), some (.int (Int32.ofInt a2)), some (.int (Int32.ofInt a3)), none]) (st1 := [.int (Int32.ofInt a3)]) (H1 := mz_mk g x) rfl ?_
        refine mz_bip rfl bip_16 ?_
        refine mz_ic_gt (tgt := 32) rfl rfl (mz_rg l_a3 u_a3) ⟨by decide, by decide⟩ (fun c25_8 => ?_) (fun c25_8 => ?_)
        · skip
          refine mm_g 3 (pc1 := 37) (lo1 := [some (.ref 0), some (.int (Int32.ofInt a1)), some (.int (Int32.ofInt a2)), some (.int (Int32.ofInt a3)), some (.int (Int32.ofInt 0))]) (st1 := [.int (Int32.ofInt 0)]) (H1 := mz_mk g x) rfl ?_
          refine mz_if_eq (tgt := 52) rfl rfl ⟨by decide, by decide⟩ (fun c37_8 => ?_) (fun c37_8 => ?_)
          · skip
            refine mm_g 1 (pc1 := 53) (lo1 := [some (.ref 0), some (.int (Int32.ofInt a1)), some (.int (Int32.ofInt a2)), some (.int (Int32.ofInt a3)), some (.int (Int32.ofInt 0))]) (st1 := [.ref 0]) (H1 := mz_mk g x) rfl ?_
            refine mz_fgR (v := 86) rfl fd_11_37 (by decide) (sc_0 _) (rf_0_5 _ _ _) ?_
            refine mm_g 1 (pc1 := 57) (lo1 := [some (.ref 0), some (.int (Int32.ofInt a1)), some (.int (Int32.ofInt a2)), some (.int (Int32.ofInt a3)), some (.int (Int32.ofInt 0))]) (st1 := [.int (Int32.ofInt 2), .ref 86]) (H1 := mz_mk g x) rfl ?_
            refine mz_cv rfl mt_11_131 (by decide) (sc_86 _) rfl (Nat.le_of_ble_eq_true rfl) (by omega) (c_X6_refuse (by omega) hx hI kp_story_86 (by decide) (by decide) (fun v9 g10 hIg10 hfg10 l_v9 u_v9 => ⟨_, rfl, ?_⟩))
            show mm_W d mmX11_see 60 [some (.ref 0), some (.int (Int32.ofInt a1)), some (.int (Int32.ofInt a2)), some (.int (Int32.ofInt a3)), some (.int (Int32.ofInt 0))] [.int (Int32.ofInt v9)] (mz_mk g10 x) Q
            exact mm_rt rfl rfl (hQ _ _ hIg10 (fun k j hk => (hfg10 k j (fun h => hk (Or.inl h)))) (by omega) (by omega))
          · exfalso; omega
        · skip
          refine mm_g 1 (pc1 := 29) (lo1 := [some (.ref 0), some (.int (Int32.ofInt a1)), some (.int (Int32.ofInt a2)), some (.int (Int32.ofInt a3)), none]) (st1 := [.int (Int32.ofInt 1)]) (H1 := mz_mk g x) rfl ?_
          refine mz_gt (tgt := 33) rfl rfl ?_
          refine mm_g 2 (pc1 := 37) (lo1 := [some (.ref 0), some (.int (Int32.ofInt a1)), some (.int (Int32.ofInt a2)), some (.int (Int32.ofInt a3)), some (.int (Int32.ofInt 1))]) (st1 := [.int (Int32.ofInt 1)]) (H1 := mz_mk g x) rfl ?_
          refine mz_if_eq (tgt := 52) rfl rfl ⟨by decide, by decide⟩ (fun c37_10 => ?_) (fun c37_10 => ?_)
          · exfalso; omega
          · skip
            refine mm_g 1 (pc1 := 41) (lo1 := [some (.ref 0), some (.int (Int32.ofInt a1)), some (.int (Int32.ofInt a2)), some (.int (Int32.ofInt a3)), some (.int (Int32.ofInt 1))]) (st1 := [.ref 0]) (H1 := mz_mk g x) rfl ?_
            refine mz_fgR (v := 86) rfl fd_11_37 (by decide) (sc_0 _) (rf_0_5 _ _ _) ?_
            refine mz_cv rfl mt_11_180 (by decide) (sc_86 _) rfl (Nat.le_of_ble_eq_true rfl) (by omega) (c_X6_seenSize (by omega) hx hI kp_story_86 (fun v11 l_v11 u_v11 => ⟨_, rfl, ?_⟩))
            show mm_W d mmX11_see 47 [some (.ref 0), some (.int (Int32.ofInt a1)), some (.int (Int32.ofInt a2)), some (.int (Int32.ofInt a3)), some (.int (Int32.ofInt 1))] [.int (Int32.ofInt v11)] (mz_mk g x) Q
            refine mz_bip rfl bip_8 ?_
            refine mz_ic_lt (tgt := 61) rfl rfl (mz_rg l_v11 u_v11) ⟨by decide, by decide⟩ (fun c49_11 => ?_) (fun c49_11 => ?_)
            · skip
              refine mm_g 1 (pc1 := 62) (lo1 := [some (.ref 0), some (.int (Int32.ofInt a1)), some (.int (Int32.ofInt a2)), some (.int (Int32.ofInt a3)), some (.int (Int32.ofInt 1))]) (st1 := [.ref 0]) (H1 := mz_mk g x) rfl ?_
              refine mz_fgR (v := 86) rfl fd_11_37 (by decide) (sc_0 _) (rf_0_5 _ _ _) ?_
              refine mm_g 3 (pc1 := 68) (lo1 := [some (.ref 0), some (.int (Int32.ofInt a1)), some (.int (Int32.ofInt a2)), some (.int (Int32.ofInt a3)), some (.int (Int32.ofInt 1))]) (st1 := [.int (Int32.ofInt a3), .int (Int32.ofInt a2), .int (Int32.ofInt a1), .ref 86]) (H1 := mz_mk g x) rfl ?_
              refine mz_cv rfl mt_11_343 (by decide) (sc_86 _) rfl (Nat.le_of_ble_eq_true rfl) (by omega) (c_X6_addSeen (by omega) hx hI kp_story_86 l_a1 u_a1 (by omega) (by omega) l_a3 u_a3 (fun g12 hIg12 hfg12 => ⟨_, rfl, ?_⟩))
              show mm_W d mmX11_see 71 [some (.ref 0), some (.int (Int32.ofInt a1)), some (.int (Int32.ofInt a2)), some (.int (Int32.ofInt a3)), some (.int (Int32.ofInt 1))] [] (mz_mk g12 x) Q
              refine mm_g 1 (pc1 := 72) (lo1 := [some (.ref 0), some (.int (Int32.ofInt a1)), some (.int (Int32.ofInt a2)), some (.int (Int32.ofInt a3)), some (.int (Int32.ofInt 1))]) (st1 := [.ref 0]) (H1 := mz_mk g12 x) rfl ?_
              refine mz_fgR (v := 86) rfl fd_11_37 (by decide) (sc_0 _) (rf_0_5 _ _ _) ?_
              refine mz_cv rfl mt_11_180 (by decide) (sc_86 _) rfl (Nat.le_of_ble_eq_true rfl) (by omega) (c_X6_seenSize (by omega) hx hIg12 kp_story_86 (fun v13 l_v13 u_v13 => ⟨_, rfl, ?_⟩))
              show mm_W d mmX11_see 78 [some (.ref 0), some (.int (Int32.ofInt a1)), some (.int (Int32.ofInt a2)), some (.int (Int32.ofInt a3)), some (.int (Int32.ofInt 1))] [.int (Int32.ofInt v13)] (mz_mk g12 x) Q
              exact mm_rt rfl rfl (hQ _ _ hIg12 (fun k j hk => (hfg12 k j (fun h => hk (Or.elim h (fun h => (Or.inr (Or.inl h))) (fun h => (Or.elim h (fun h => (Or.inr (Or.inr (Or.inl h)))) (fun h => (Or.elim h (fun h => (Or.inr (Or.inr (Or.inr (Or.inl h))))) (fun h => (Or.inr (Or.inr (Or.inr (Or.inr h))))))))))))) (by omega) (by omega))
            · skip
              refine mm_g 1 (pc1 := 53) (lo1 := [some (.ref 0), some (.int (Int32.ofInt a1)), some (.int (Int32.ofInt a2)), some (.int (Int32.ofInt a3)), some (.int (Int32.ofInt 1))]) (st1 := [.ref 0]) (H1 := mz_mk g x) rfl ?_
              refine mz_fgR (v := 86) rfl fd_11_37 (by decide) (sc_0 _) (rf_0_5 _ _ _) ?_
              refine mm_g 1 (pc1 := 57) (lo1 := [some (.ref 0), some (.int (Int32.ofInt a1)), some (.int (Int32.ofInt a2)), some (.int (Int32.ofInt a3)), some (.int (Int32.ofInt 1))]) (st1 := [.int (Int32.ofInt 2), .ref 86]) (H1 := mz_mk g x) rfl ?_
              refine mz_cv rfl mt_11_131 (by decide) (sc_86 _) rfl (Nat.le_of_ble_eq_true rfl) (by omega) (c_X6_refuse (by omega) hx hI kp_story_86 (by decide) (by decide) (fun v14 g15 hIg15 hfg15 l_v14 u_v14 => ⟨_, rfl, ?_⟩))
              show mm_W d mmX11_see 60 [some (.ref 0), some (.int (Int32.ofInt a1)), some (.int (Int32.ofInt a2)), some (.int (Int32.ofInt a3)), some (.int (Int32.ofInt 1))] [.int (Int32.ofInt v14)] (mz_mk g15 x) Q
              exact mm_rt rfl rfl (hQ _ _ hIg15 (fun k j hk => (hfg15 k j (fun h => hk (Or.inl h)))) (by omega) (by omega))
theorem t_X11_loose {d : Nat} (hd : 17 ≤ d) {x : mm_X} (hx : mk_x x) {g : mz_G} (hI : mz_inv g) {a1 : Int} (l_a1 : (-2147483648) ≤ a1) (u_a1 : a1 ≤ 2147483647) {Q : (Option Value ⊕ Nat) → mm_H → Prop} (hQ : ∀ (r : Int) (g1 : mz_G), mz_inv g1 → mz_fr (fw_X11_loose x a1) g g1 → (-2147483648) ≤ r → r ≤ 2147483647 → Q (.inl (some (.int (Int32.ofInt r)))) (mz_mk g1 x)) (hX0 : Q (.inr 0) (mz_mk g (mz_tx x))) : mm_C d 155 [.ref 0, .int (Int32.ofInt a1)] (mz_mk g x) Q := by
  have kx := kn_x hx
  refine ⟨mmX11_loose, [some (.ref 0), some (.int (Int32.ofInt a1)), none, none, none, none, none], rfl, rfl, ?_⟩
  refine mm_g 1 (pc1 := 1) (lo1 := [some (.ref 0), some (.int (Int32.ofInt a1)), none, none, none, none, none]) (st1 := [.int (Int32.ofInt a1)]) (H1 := mz_mk g x) rfl ?_
  refine mz_if_lt (tgt := 13) rfl rfl (mz_rg l_a1 u_a1) (fun c1_0 => ?_) (fun c1_0 => ?_)
  · skip
    refine mm_g 1 (pc1 := 14) (lo1 := [some (.ref 0), some (.int (Int32.ofInt a1)), none, none, none, none, none]) (st1 := [.int (Int32.ofInt 0)]) (H1 := mz_mk g x) rfl ?_
    refine mz_csx rfl mt_11_183 rfl (Nat.le_of_ble_eq_true rfl) (by omega) rfl nh_X11_mustBe (t_X11_mustBe (by omega) hx hI (by decide) (by decide) (fun hp1 => ?_) hX0)
    show mm_W d mmX11_loose 17 [some (.ref 0), some (.int (Int32.ofInt a1)), none, none, none, none, none] [] (mz_mk g x) Q
    exfalso; omega
  · skip
    refine mm_g 2 (pc1 := 6) (lo1 := [some (.ref 0), some (.int (Int32.ofInt a1)), none, none, none, none, none]) (st1 := [.int (Int32.ofInt 2), .int (Int32.ofInt a1)]) (H1 := mz_mk g x) rfl ?_
    refine mz_ic_gt (tgt := 13) rfl rfl (mz_rg l_a1 u_a1) ⟨by decide, by decide⟩ (fun c6_1 => ?_) (fun c6_1 => ?_)
    · skip
      refine mm_g 1 (pc1 := 14) (lo1 := [some (.ref 0), some (.int (Int32.ofInt a1)), none, none, none, none, none]) (st1 := [.int (Int32.ofInt 0)]) (H1 := mz_mk g x) rfl ?_
      refine mz_csx rfl mt_11_183 rfl (Nat.le_of_ble_eq_true rfl) (by omega) rfl nh_X11_mustBe (t_X11_mustBe (by omega) hx hI (by decide) (by decide) (fun hp2 => ?_) hX0)
      show mm_W d mmX11_loose 17 [some (.ref 0), some (.int (Int32.ofInt a1)), none, none, none, none, none] [] (mz_mk g x) Q
      exfalso; omega
    · skip
      refine mm_g 1 (pc1 := 10) (lo1 := [some (.ref 0), some (.int (Int32.ofInt a1)), none, none, none, none, none]) (st1 := [.int (Int32.ofInt 1)]) (H1 := mz_mk g x) rfl ?_
      refine mz_gt (tgt := 14) rfl rfl ?_
      refine mz_csx rfl mt_11_183 rfl (Nat.le_of_ble_eq_true rfl) (by omega) rfl nh_X11_mustBe (t_X11_mustBe (by omega) hx hI (by decide) (by decide) (fun hp3 => ?_) hX0)
      show mm_W d mmX11_loose 17 [some (.ref 0), some (.int (Int32.ofInt a1)), none, none, none, none, none] [] (mz_mk g x) Q
      refine mm_g 1 (pc1 := 18) (lo1 := [some (.ref 0), some (.int (Int32.ofInt a1)), none, none, none, none, none]) (st1 := [.ref 0]) (H1 := mz_mk g x) rfl ?_
      refine mz_cv rfl mt_11_346 (by decide) (sc_0 _) rfl (Nat.le_of_ble_eq_true rfl) (by omega) (c_X11_fittingTrunks (by omega) hx hI (fun v4 g5 hIg5 hfg5 l_v4 u_v4 => ⟨_, rfl, ?_⟩))
      show mm_W d mmX11_loose 21 [some (.ref 0), some (.int (Int32.ofInt a1)), none, none, none, none, none] [.int (Int32.ofInt v4)] (mz_mk g5 x) Q
      refine mm_g 3 (pc1 := 24) (lo1 := [some (.ref 0), some (.int (Int32.ofInt a1)), some (.int (Int32.ofInt v4)), none, none, none, none]) (st1 := [.int (Int32.ofInt 2), .int (Int32.ofInt a1)]) (H1 := mz_mk g5 x) rfl ?_
      refine mz_ic_ne (tgt := 41) rfl rfl (mz_rg l_a1 u_a1) ⟨by decide, by decide⟩ (fun c24_5 => ?_) (fun c24_5 => ?_)
      · skip
        refine mm_g 6 (pc1 := 49) (lo1 := [some (.ref 0), some (.int (Int32.ofInt a1)), some (.int (Int32.ofInt v4)), some (.int (Int32.ofInt 0)), some (.int (Int32.ofInt (-1))), some (.int (Int32.ofInt 0)), none]) (st1 := []) (H1 := mz_mk g5 x) rfl ?_
        have L13 : ∀ n12 : Nat, ∀ (v6 : Int) (v7 : Int) (v8 : Int) (o9 : Option Value) (g10 : mz_G), (6 - v8).toNat = n12 → (-2147483648) ≤ v6 → v6 ≤ 2147483647 → (-1) ≤ v7 → v7 ≤ 99 → 0 ≤ v8 → v8 ≤ 6 → mz_nl o9 → mz_inv g10 → mz_fr (fl_X11_loose_49 x a1) g5 g10 → mm_W d mmX11_loose 49 [some (.ref 0), some (.int (Int32.ofInt a1)), some (.int (Int32.ofInt v4)), some (.int (Int32.ofInt v6)), some (.int (Int32.ofInt v7)), some (.int (Int32.ofInt v8)), o9] [] (mz_mk g10 x) Q := by
          intro n12
          induction n12 using Nat.strongRecOn with
          | ind n12 ih11 =>
          intro v6 v7 v8 o9 g10 hmn12 l_v6 u_v6 l_v7 u_v7 l_v8 u_v8 h_o9 hIg10 hfg10
          refine mm_g 2 (pc1 := 52) (lo1 := [some (.ref 0), some (.int (Int32.ofInt a1)), some (.int (Int32.ofInt v4)), some (.int (Int32.ofInt v6)), some (.int (Int32.ofInt v7)), some (.int (Int32.ofInt v8)), o9]) (st1 := [.ref 0, .int (Int32.ofInt v8)]) (H1 := mz_mk g10 x) rfl ?_
          refine mz_cv rfl mt_11_155 (by decide) (sc_0 _) rfl (Nat.le_of_ble_eq_true rfl) (by omega) (c_X11_trunkCount (by omega) hx hIg10 (fun v14 l_v14 u_v14 => ⟨_, rfl, ?_⟩))
          show mm_W d mmX11_loose 55 [some (.ref 0), some (.int (Int32.ofInt a1)), some (.int (Int32.ofInt v4)), some (.int (Int32.ofInt v6)), some (.int (Int32.ofInt v7)), some (.int (Int32.ofInt v8)), o9] [.int (Int32.ofInt v14), .int (Int32.ofInt v8)] (mz_mk g10 x) Q
          refine mz_ic_ge (tgt := 105) rfl rfl (mz_rg l_v8 u_v8) (mz_rg l_v14 u_v14) (fun c55_14 => ?_) (fun c55_14 => ?_)
          · skip
            refine mm_g 1 (pc1 := 106) (lo1 := [some (.ref 0), some (.int (Int32.ofInt a1)), some (.int (Int32.ofInt v4)), some (.int (Int32.ofInt v6)), some (.int (Int32.ofInt v7)), some (.int (Int32.ofInt v8)), o9]) (st1 := [.int (Int32.ofInt a1)]) (H1 := mz_mk g10 x) rfl ?_
            refine mz_if_ne (tgt := 113) rfl rfl (mz_rg l_a1 u_a1) (fun c106_14 => ?_) (fun c106_14 => ?_)
            · skip
              refine mm_g 1 (pc1 := 115) (lo1 := [some (.ref 0), some (.int (Int32.ofInt a1)), some (.int (Int32.ofInt v4)), some (.int (Int32.ofInt v6)), some (.int (Int32.ofInt v7)), some (.int (Int32.ofInt v8)), o9]) (st1 := [.int (Int32.ofInt v7)]) (H1 := mz_mk g10 x) rfl ?_
              exact mm_rt rfl rfl (hQ _ _ hIg10 (fun k j hk => ((hfg10 k j (fun h => hk (Or.elim h (fun h => (Or.inl h)) (fun h => (Or.elim h (fun h => (Or.inr (Or.inl h))) (fun h => (Or.inr (Or.inr h)))))))).trans (hfg5 k j (fun h => hk (Or.elim h (fun h => (Or.inl h)) (fun h => (Or.elim h (fun h => (Or.inr (Or.inl h))) (fun h => (Or.inr (Or.inr h)))))))))) (by omega) (by omega))
            · skip
              refine mm_g 1 (pc1 := 110) (lo1 := [some (.ref 0), some (.int (Int32.ofInt a1)), some (.int (Int32.ofInt v4)), some (.int (Int32.ofInt v6)), some (.int (Int32.ofInt v7)), some (.int (Int32.ofInt v8)), o9]) (st1 := [.int (Int32.ofInt v6)]) (H1 := mz_mk g10 x) rfl ?_
              refine mz_gt (tgt := 115) rfl rfl ?_
              exact mm_rt rfl rfl (hQ _ _ hIg10 (fun k j hk => ((hfg10 k j (fun h => hk (Or.elim h (fun h => (Or.inl h)) (fun h => (Or.elim h (fun h => (Or.inr (Or.inl h))) (fun h => (Or.inr (Or.inr h)))))))).trans (hfg5 k j (fun h => hk (Or.elim h (fun h => (Or.inl h)) (fun h => (Or.elim h (fun h => (Or.inr (Or.inl h))) (fun h => (Or.inr (Or.inr h)))))))))) (by omega) (by omega))
          · skip
            refine mm_g 3 (pc1 := 62) (lo1 := [some (.ref 0), some (.int (Int32.ofInt a1)), some (.int (Int32.ofInt v4)), some (.int (Int32.ofInt v6)), some (.int (Int32.ofInt v7)), some (.int (Int32.ofInt v8)), o9]) (st1 := [.int (Int32.ofInt v4), .int (Int32.ofInt v8), .ref 0]) (H1 := mz_mk g10 x) rfl ?_
            refine mz_cv rfl mt_11_352 (by decide) (sc_0 _) rfl (Nat.le_of_ble_eq_true rfl) (by omega) (c_X11_looseStraps (by omega) hx hIg10 (by omega) (by omega) (by omega) (by omega) (fun v15 g16 hIg16 hfg16 l_v15 u_v15 => ⟨_, rfl, ?_⟩))
            show mm_W d mmX11_loose 65 [some (.ref 0), some (.int (Int32.ofInt a1)), some (.int (Int32.ofInt v4)), some (.int (Int32.ofInt v6)), some (.int (Int32.ofInt v7)), some (.int (Int32.ofInt v8)), o9] [.int (Int32.ofInt v15)] (mz_mk g16 x) Q
            refine mm_g 2 (pc1 := 69) (lo1 := [some (.ref 0), some (.int (Int32.ofInt a1)), some (.int (Int32.ofInt v4)), some (.int (Int32.ofInt v6)), some (.int (Int32.ofInt v7)), some (.int (Int32.ofInt v8)), some (.int (Int32.ofInt v15))]) (st1 := [.int (Int32.ofInt v15)]) (H1 := mz_mk g16 x) rfl ?_
            refine mz_if_eq (tgt := 91) rfl rfl (mz_rg l_v15 u_v15) (fun c69_16 => ?_) (fun c69_16 => ?_)
            · skip
              refine mm_g 2 (pc1 := 94) (lo1 := [some (.ref 0), some (.int (Int32.ofInt a1)), some (.int (Int32.ofInt v4)), some (.int (Int32.ofInt v6)), some (.int (Int32.ofInt v7)), some (.int (Int32.ofInt v8)), some (.int (Int32.ofInt v15))]) (st1 := [.int (Int32.ofInt v15), .int (Int32.ofInt v6)]) (H1 := mz_mk g16 x) rfl ?_
              refine mz_cs rfl mt_11_358 (by decide) rfl (Nat.le_of_ble_eq_true rfl) (by omega) (c_J6_bitCount (by omega) hx hIg16 l_v15 u_v15 (fun v17 l_v17 u_v17 => ⟨_, rfl, ?_⟩))
              show mm_W d mmX11_loose 97 [some (.ref 0), some (.int (Int32.ofInt a1)), some (.int (Int32.ofInt v4)), some (.int (Int32.ofInt v6)), some (.int (Int32.ofInt v7)), some (.int (Int32.ofInt v8)), some (.int (Int32.ofInt v15))] [.int (Int32.ofInt v17), .int (Int32.ofInt v6)] (mz_mk g16 x) Q
              refine mz_iadd_w rfl (fun v18 _ hwv18 => ?_)
              have l_v18 := hwv18.1
              have u_v18 := hwv18.2
              refine mm_g 1 (pc1 := 99) (lo1 := [some (.ref 0), some (.int (Int32.ofInt a1)), some (.int (Int32.ofInt v4)), some (.int (Int32.ofInt v18)), some (.int (Int32.ofInt v7)), some (.int (Int32.ofInt v8)), some (.int (Int32.ofInt v15))]) (st1 := []) (H1 := mz_mk g16 x) rfl ?_
              refine mz_iincR (v := v8) (lo2 := [some (.ref 0), some (.int (Int32.ofInt a1)), some (.int (Int32.ofInt v4)), some (.int (Int32.ofInt v18)), some (.int (Int32.ofInt v7)), some (.int (Int32.ofInt (v8 + 1))), some (.int (Int32.ofInt v15))]) rfl rfl rfl (Nat.le_of_ble_eq_true rfl) rfl ?_
              refine mz_gt (tgt := 49) rfl rfl ?_
              exact ih11 ((6 - (v8 + 1)).toNat) (by omega) v18 v7 (v8 + 1) (some (.int (Int32.ofInt v15))) g16 rfl (by omega) (by omega) (by omega) (by omega) (by omega) (by omega) (mz_nl_i _) hIg16 (fun k j hk => ((hfg16 k j (fun h => hk (Or.elim h (fun h => (Or.inl h)) (fun h => (Or.elim h (fun h => (Or.inr (Or.inl h))) (fun h => (Or.inr (Or.inr h)))))))).trans (hfg10 k j (fun h => hk (Or.elim h (fun h => (Or.inl h)) (fun h => (Or.elim h (fun h => (Or.inr (Or.inl h))) (fun h => (Or.inr (Or.inr h))))))))))
            · skip
              refine mm_g 2 (pc1 := 75) (lo1 := [some (.ref 0), some (.int (Int32.ofInt a1)), some (.int (Int32.ofInt v4)), some (.int (Int32.ofInt v6)), some (.int (Int32.ofInt v7)), some (.int (Int32.ofInt v8)), some (.int (Int32.ofInt v15))]) (st1 := [.int (Int32.ofInt (-1)), .int (Int32.ofInt v7)]) (H1 := mz_mk g16 x) rfl ?_
              refine mz_ic_ne (tgt := 91) rfl rfl (mz_rg l_v7 u_v7) ⟨by decide, by decide⟩ (fun c75_18 => ?_) (fun c75_18 => ?_)
              · skip
                refine mm_g 2 (pc1 := 94) (lo1 := [some (.ref 0), some (.int (Int32.ofInt a1)), some (.int (Int32.ofInt v4)), some (.int (Int32.ofInt v6)), some (.int (Int32.ofInt v7)), some (.int (Int32.ofInt v8)), some (.int (Int32.ofInt v15))]) (st1 := [.int (Int32.ofInt v15), .int (Int32.ofInt v6)]) (H1 := mz_mk g16 x) rfl ?_
                refine mz_cs rfl mt_11_358 (by decide) rfl (Nat.le_of_ble_eq_true rfl) (by omega) (c_J6_bitCount (by omega) hx hIg16 l_v15 u_v15 (fun v19 l_v19 u_v19 => ⟨_, rfl, ?_⟩))
                show mm_W d mmX11_loose 97 [some (.ref 0), some (.int (Int32.ofInt a1)), some (.int (Int32.ofInt v4)), some (.int (Int32.ofInt v6)), some (.int (Int32.ofInt v7)), some (.int (Int32.ofInt v8)), some (.int (Int32.ofInt v15))] [.int (Int32.ofInt v19), .int (Int32.ofInt v6)] (mz_mk g16 x) Q
                refine mz_iadd_w rfl (fun v20 _ hwv20 => ?_)
                have l_v20 := hwv20.1
                have u_v20 := hwv20.2
                refine mm_g 1 (pc1 := 99) (lo1 := [some (.ref 0), some (.int (Int32.ofInt a1)), some (.int (Int32.ofInt v4)), some (.int (Int32.ofInt v20)), some (.int (Int32.ofInt v7)), some (.int (Int32.ofInt v8)), some (.int (Int32.ofInt v15))]) (st1 := []) (H1 := mz_mk g16 x) rfl ?_
                refine mz_iincR (v := v8) (lo2 := [some (.ref 0), some (.int (Int32.ofInt a1)), some (.int (Int32.ofInt v4)), some (.int (Int32.ofInt v20)), some (.int (Int32.ofInt v7)), some (.int (Int32.ofInt (v8 + 1))), some (.int (Int32.ofInt v15))]) rfl rfl rfl (Nat.le_of_ble_eq_true rfl) rfl ?_
                refine mz_gt (tgt := 49) rfl rfl ?_
                exact ih11 ((6 - (v8 + 1)).toNat) (by omega) v20 v7 (v8 + 1) (some (.int (Int32.ofInt v15))) g16 rfl (by omega) (by omega) (by omega) (by omega) (by omega) (by omega) (mz_nl_i _) hIg16 (fun k j hk => ((hfg16 k j (fun h => hk (Or.elim h (fun h => (Or.inl h)) (fun h => (Or.elim h (fun h => (Or.inr (Or.inl h))) (fun h => (Or.inr (Or.inr h)))))))).trans (hfg10 k j (fun h => hk (Or.elim h (fun h => (Or.inl h)) (fun h => (Or.elim h (fun h => (Or.inr (Or.inl h))) (fun h => (Or.inr (Or.inr h))))))))))
              · skip
                refine mz_bip rfl bip_10 ?_
                refine mm_g 1 (pc1 := 82) (lo1 := [some (.ref 0), some (.int (Int32.ofInt a1)), some (.int (Int32.ofInt v4)), some (.int (Int32.ofInt v6)), some (.int (Int32.ofInt v7)), some (.int (Int32.ofInt v8)), some (.int (Int32.ofInt v15))]) (st1 := [.int (Int32.ofInt v8), .int (Int32.ofInt 10)]) (H1 := mz_mk g16 x) rfl ?_
                refine mz_imul rfl ?_
                refine mm_g 1 (pc1 := 85) (lo1 := [some (.ref 0), some (.int (Int32.ofInt a1)), some (.int (Int32.ofInt v4)), some (.int (Int32.ofInt v6)), some (.int (Int32.ofInt v7)), some (.int (Int32.ofInt v8)), some (.int (Int32.ofInt v15))]) (st1 := [.int (Int32.ofInt v15), .int (Int32.ofInt (10 * v8))]) (H1 := mz_mk g16 x) rfl ?_
                refine mz_cs rfl mt_11_355 (by decide) rfl (Nat.le_of_ble_eq_true rfl) (by omega) (c_X11_lowestBit (by omega) hx hIg16 l_v15 u_v15 (fun v21 l_v21 u_v21 => ⟨_, rfl, ?_⟩))
                show mm_W d mmX11_loose 88 [some (.ref 0), some (.int (Int32.ofInt a1)), some (.int (Int32.ofInt v4)), some (.int (Int32.ofInt v6)), some (.int (Int32.ofInt v7)), some (.int (Int32.ofInt v8)), some (.int (Int32.ofInt v15))] [.int (Int32.ofInt v21), .int (Int32.ofInt (10 * v8))] (mz_mk g16 x) Q
                refine mz_iadd rfl ?_
                refine mm_g 3 (pc1 := 94) (lo1 := [some (.ref 0), some (.int (Int32.ofInt a1)), some (.int (Int32.ofInt v4)), some (.int (Int32.ofInt v6)), some (.int (Int32.ofInt ((10 * v8) + v21))), some (.int (Int32.ofInt v8)), some (.int (Int32.ofInt v15))]) (st1 := [.int (Int32.ofInt v15), .int (Int32.ofInt v6)]) (H1 := mz_mk g16 x) rfl ?_
                refine mz_cs rfl mt_11_358 (by decide) rfl (Nat.le_of_ble_eq_true rfl) (by omega) (c_J6_bitCount (by omega) hx hIg16 l_v15 u_v15 (fun v22 l_v22 u_v22 => ⟨_, rfl, ?_⟩))
                show mm_W d mmX11_loose 97 [some (.ref 0), some (.int (Int32.ofInt a1)), some (.int (Int32.ofInt v4)), some (.int (Int32.ofInt v6)), some (.int (Int32.ofInt ((10 * v8) + v21))), some (.int (Int32.ofInt v8)), some (.int (Int32.ofInt v15))] [.int (Int32.ofInt v22), .int (Int32.ofInt v6)] (mz_mk g16 x) Q
                refine mz_iadd_w rfl (fun v23 _ hwv23 => ?_)
                have l_v23 := hwv23.1
                have u_v23 := hwv23.2
                refine mm_g 1 (pc1 := 99) (lo1 := [some (.ref 0), some (.int (Int32.ofInt a1)), some (.int (Int32.ofInt v4)), some (.int (Int32.ofInt v23)), some (.int (Int32.ofInt ((10 * v8) + v21))), some (.int (Int32.ofInt v8)), some (.int (Int32.ofInt v15))]) (st1 := []) (H1 := mz_mk g16 x) rfl ?_
                refine mz_iincR (v := v8) (lo2 := [some (.ref 0), some (.int (Int32.ofInt a1)), some (.int (Int32.ofInt v4)), some (.int (Int32.ofInt v23)), some (.int (Int32.ofInt ((10 * v8) + v21))), some (.int (Int32.ofInt (v8 + 1))), some (.int (Int32.ofInt v15))]) rfl rfl rfl (Nat.le_of_ble_eq_true rfl) rfl ?_
                refine mz_gt (tgt := 49) rfl rfl ?_
                exact ih11 ((6 - (v8 + 1)).toNat) (by omega) v23 ((10 * v8) + v21) (v8 + 1) (some (.int (Int32.ofInt v15))) g16 rfl (by omega) (by omega) (by omega) (by omega) (by omega) (by omega) (mz_nl_i _) hIg16 (fun k j hk => ((hfg16 k j (fun h => hk (Or.elim h (fun h => (Or.inl h)) (fun h => (Or.elim h (fun h => (Or.inr (Or.inl h))) (fun h => (Or.inr (Or.inr h)))))))).trans (hfg10 k j (fun h => hk (Or.elim h (fun h => (Or.inl h)) (fun h => (Or.elim h (fun h => (Or.inr (Or.inl h))) (fun h => (Or.inr (Or.inr h))))))))))
        exact L13 _ 0 (-1) 0 none g5 rfl (by decide) (by decide) (by decide) (by decide) (by decide) (by decide) mz_nl_n hIg5 (fun _ _ _ => rfl)
      · skip
        refine mm_g 2 (pc1 := 29) (lo1 := [some (.ref 0), some (.int (Int32.ofInt a1)), some (.int (Int32.ofInt v4)), none, none, none, none]) (st1 := [.ref 0, .int (Int32.ofInt v4)]) (H1 := mz_mk g5 x) rfl ?_
        refine mz_cv rfl mt_11_349 (by decide) (sc_0 _) rfl (Nat.le_of_ble_eq_true rfl) (by omega) (c_X11_allTrunks (by omega) hx hIg5 (fun v24 l_v24 u_v24 => ⟨_, rfl, ?_⟩))
        show mm_W d mmX11_loose 32 [some (.ref 0), some (.int (Int32.ofInt a1)), some (.int (Int32.ofInt v4)), none, none, none, none] [.int (Int32.ofInt v24), .int (Int32.ofInt v4)] (mz_mk g5 x) Q
        refine mz_ic_ne (tgt := 39) rfl rfl (mz_rg l_v4 u_v4) (mz_rg l_v24 u_v24) (fun c32_24 => ?_) (fun c32_24 => ?_)
        · skip
          refine mm_g 1 (pc1 := 40) (lo1 := [some (.ref 0), some (.int (Int32.ofInt a1)), some (.int (Int32.ofInt v4)), none, none, none, none]) (st1 := [.int (Int32.ofInt 0)]) (H1 := mz_mk g5 x) rfl ?_
          exact mm_rt rfl rfl (hQ _ _ hIg5 (fun k j hk => (hfg5 k j (fun h => hk (Or.elim h (fun h => (Or.inl h)) (fun h => (Or.elim h (fun h => (Or.inr (Or.inl h))) (fun h => (Or.inr (Or.inr h))))))))) (by decide) (by decide))
        · skip
          refine mm_g 1 (pc1 := 36) (lo1 := [some (.ref 0), some (.int (Int32.ofInt a1)), some (.int (Int32.ofInt v4)), none, none, none, none]) (st1 := [.int (Int32.ofInt 1)]) (H1 := mz_mk g5 x) rfl ?_
          refine mz_gt (tgt := 40) rfl rfl ?_
          exact mm_rt rfl rfl (hQ _ _ hIg5 (fun k j hk => (hfg5 k j (fun h => hk (Or.elim h (fun h => (Or.inl h)) (fun h => (Or.elim h (fun h => (Or.inr (Or.inl h))) (fun h => (Or.inr (Or.inr h))))))))) (by decide) (by decide))
theorem t_X11_look {d : Nat} (hd : 17 ≤ d) {x : mm_X} (hx : mk_x x) {g : mz_G} (hI : mz_inv g) {a1 : Int} (l_a1 : (-2147483648) ≤ a1) (u_a1 : a1 ≤ 2147483647) {Q : (Option Value ⊕ Nat) → mm_H → Prop} (hQ : ∀ (r : Int) (g1 : mz_G), mz_inv g1 → mz_fr (fw_X11_look x a1) g g1 → (-1) ≤ r → r ≤ 63 → Q (.inl (some (.int (Int32.ofInt r)))) (mz_mk g1 x)) (hX0 : Q (.inr 0) (mz_mk g (mz_tx x))) : mm_C d 156 [.ref 0, .int (Int32.ofInt a1)] (mz_mk g x) Q := by
  have kx := kn_x hx
  refine ⟨mmX11_look, [some (.ref 0), some (.int (Int32.ofInt a1)), none, none, none, none, none, none, none, none], rfl, rfl, ?_⟩
  refine mm_g 1 (pc1 := 1) (lo1 := [some (.ref 0), some (.int (Int32.ofInt a1)), none, none, none, none, none, none, none, none]) (st1 := [.int (Int32.ofInt a1)]) (H1 := mz_mk g x) rfl ?_
  refine mz_if_eq (tgt := 9) rfl rfl (mz_rg l_a1 u_a1) (fun c1_0 => ?_) (fun c1_0 => ?_)
  · skip
    refine mm_g 1 (pc1 := 10) (lo1 := [some (.ref 0), some (.int (Int32.ofInt a1)), none, none, none, none, none, none, none, none]) (st1 := [.int (Int32.ofInt 1)]) (H1 := mz_mk g x) rfl ?_
    refine mz_gt (tgt := 14) rfl rfl ?_
    refine mz_csx rfl mt_11_183 rfl (Nat.le_of_ble_eq_true rfl) (by omega) rfl nh_X11_mustBe (t_X11_mustBe (by omega) hx hI (by decide) (by decide) (fun hp1 => ?_) hX0)
    show mm_W d mmX11_look 17 [some (.ref 0), some (.int (Int32.ofInt a1)), none, none, none, none, none, none, none, none] [] (mz_mk g x) Q
    refine mm_g 1 (pc1 := 18) (lo1 := [some (.ref 0), some (.int (Int32.ofInt a1)), none, none, none, none, none, none, none, none]) (st1 := [.ref 0]) (H1 := mz_mk g x) rfl ?_
    refine mz_cv rfl mt_11_346 (by decide) (sc_0 _) rfl (Nat.le_of_ble_eq_true rfl) (by omega) (c_X11_fittingTrunks (by omega) hx hI (fun v2 g3 hIg3 hfg3 l_v2 u_v2 => ⟨_, rfl, ?_⟩))
    show mm_W d mmX11_look 21 [some (.ref 0), some (.int (Int32.ofInt a1)), none, none, none, none, none, none, none, none] [.int (Int32.ofInt v2)] (mz_mk g3 x) Q
    refine mm_g 5 (pc1 := 27) (lo1 := [some (.ref 0), some (.int (Int32.ofInt a1)), some (.int (Int32.ofInt v2)), some (.int (Int32.ofInt 0)), some (.int (Int32.ofInt 0)), none, none, none, none, none]) (st1 := []) (H1 := mz_mk g3 x) rfl ?_
    have L9 : ∀ n8 : Nat, ∀ (v4 : Int) (v5 : Int) (g6 : mz_G), (6 - v5).toNat = n8 → (-2147483648) ≤ v4 → v4 ≤ 2147483647 → 0 ≤ v5 → v5 ≤ 6 → mz_inv g6 → mz_fr (fl_X11_look_27 x a1) g3 g6 → mm_W d mmX11_look 27 [some (.ref 0), some (.int (Int32.ofInt a1)), some (.int (Int32.ofInt v2)), some (.int (Int32.ofInt v4)), some (.int (Int32.ofInt v5)), none, none, none, none, none] [] (mz_mk g6 x) Q := by
      intro n8
      induction n8 using Nat.strongRecOn with
      | ind n8 ih7 =>
      intro v4 v5 g6 hmn8 l_v4 u_v4 l_v5 u_v5 hIg6 hfg6
      refine mm_g 2 (pc1 := 30) (lo1 := [some (.ref 0), some (.int (Int32.ofInt a1)), some (.int (Int32.ofInt v2)), some (.int (Int32.ofInt v4)), some (.int (Int32.ofInt v5)), none, none, none, none, none]) (st1 := [.ref 0, .int (Int32.ofInt v5)]) (H1 := mz_mk g6 x) rfl ?_
      refine mz_cv rfl mt_11_155 (by decide) (sc_0 _) rfl (Nat.le_of_ble_eq_true rfl) (by omega) (c_X11_trunkCount (by omega) hx hIg6 (fun v10 l_v10 u_v10 => ⟨_, rfl, ?_⟩))
      show mm_W d mmX11_look 33 [some (.ref 0), some (.int (Int32.ofInt a1)), some (.int (Int32.ofInt v2)), some (.int (Int32.ofInt v4)), some (.int (Int32.ofInt v5)), none, none, none, none, none] [.int (Int32.ofInt v10), .int (Int32.ofInt v5)] (mz_mk g6 x) Q
      refine mz_ic_ge (tgt := 55) rfl rfl (mz_rg l_v5 u_v5) (mz_rg l_v10 u_v10) (fun c33_10 => ?_) (fun c33_10 => ?_)
      · skip
        refine mm_g 6 (pc1 := 64) (lo1 := [some (.ref 0), some (.int (Int32.ofInt a1)), some (.int (Int32.ofInt v2)), some (.int (Int32.ofInt v4)), some (.int (Int32.ofInt (-1))), some (.int (Int32.ofInt 0)), some (.int (Int32.ofInt 0)), none, none, none]) (st1 := []) (H1 := mz_mk g6 x) rfl ?_
        have L20 : ∀ n19 : Nat, ∀ (v11 : Int) (v12 : Int) (v13 : Int) (o14 : Option Value) (o15 : Option Value) (o16 : Option Value) (g17 : mz_G), (6 - v13).toNat = n19 → (-1) ≤ v11 → v11 ≤ 5 → 0 ≤ v12 → v12 ≤ 63 → 0 ≤ v13 → v13 ≤ 6 → mz_nl o14 → mz_nl o15 → mz_nl o16 → mz_inv g17 → mz_fr (fl_X11_look_64 x a1) g6 g17 → mm_W d mmX11_look 64 [some (.ref 0), some (.int (Int32.ofInt a1)), some (.int (Int32.ofInt v2)), some (.int (Int32.ofInt v4)), some (.int (Int32.ofInt v11)), some (.int (Int32.ofInt v12)), some (.int (Int32.ofInt v13)), o14, o15, o16] [] (mz_mk g17 x) Q := by
          intro n19
          induction n19 using Nat.strongRecOn with
          | ind n19 ih18 =>
          intro v11 v12 v13 o14 o15 o16 g17 hmn19 l_v11 u_v11 l_v12 u_v12 l_v13 u_v13 h_o14 h_o15 h_o16 hIg17 hfg17
          refine mm_g 2 (pc1 := 67) (lo1 := [some (.ref 0), some (.int (Int32.ofInt a1)), some (.int (Int32.ofInt v2)), some (.int (Int32.ofInt v4)), some (.int (Int32.ofInt v11)), some (.int (Int32.ofInt v12)), some (.int (Int32.ofInt v13)), o14, o15, o16]) (st1 := [.ref 0, .int (Int32.ofInt v13)]) (H1 := mz_mk g17 x) rfl ?_
          refine mz_cv rfl mt_11_155 (by decide) (sc_0 _) rfl (Nat.le_of_ble_eq_true rfl) (by omega) (c_X11_trunkCount (by omega) hx hIg17 (fun v21 l_v21 u_v21 => ⟨_, rfl, ?_⟩))
          show mm_W d mmX11_look 70 [some (.ref 0), some (.int (Int32.ofInt a1)), some (.int (Int32.ofInt v2)), some (.int (Int32.ofInt v4)), some (.int (Int32.ofInt v11)), some (.int (Int32.ofInt v12)), some (.int (Int32.ofInt v13)), o14, o15, o16] [.int (Int32.ofInt v21), .int (Int32.ofInt v13)] (mz_mk g17 x) Q
          refine mz_ic_ge (tgt := 134) rfl rfl (mz_rg l_v13 u_v13) (mz_rg l_v21 u_v21) (fun c70_21 => ?_) (fun c70_21 => ?_)
          · skip
            refine mm_g 1 (pc1 := 135) (lo1 := [some (.ref 0), some (.int (Int32.ofInt a1)), some (.int (Int32.ofInt v2)), some (.int (Int32.ofInt v4)), some (.int (Int32.ofInt v11)), some (.int (Int32.ofInt v12)), some (.int (Int32.ofInt v13)), o14, o15, o16]) (st1 := [.int (Int32.ofInt a1)]) (H1 := mz_mk g17 x) rfl ?_
            refine mz_if_ne (tgt := 143) rfl rfl (mz_rg l_a1 u_a1) (fun c135_21 => ?_) (fun c135_21 => ?_)
            · exfalso; omega
            · skip
              refine mm_g 1 (pc1 := 140) (lo1 := [some (.ref 0), some (.int (Int32.ofInt a1)), some (.int (Int32.ofInt v2)), some (.int (Int32.ofInt v4)), some (.int (Int32.ofInt v11)), some (.int (Int32.ofInt v12)), some (.int (Int32.ofInt v13)), o14, o15, o16]) (st1 := [.int (Int32.ofInt v11)]) (H1 := mz_mk g17 x) rfl ?_
              refine mz_gt (tgt := 145) rfl rfl ?_
              exact mm_rt rfl rfl (hQ _ _ hIg17 (fun k j hk => ((hfg17 k j (fun h => hk (Or.elim h (fun h => (Or.inl h)) (fun h => (Or.elim h (fun h => (Or.inr (Or.inl h))) (fun h => (Or.inr (Or.inr h)))))))).trans ((hfg6 k j (fun h => hk (Or.elim h (fun h => (Or.inl h)) (fun h => (Or.elim h (fun h => (Or.inr (Or.inl h))) (fun h => (Or.inr (Or.inr h)))))))).trans (hfg3 k j (fun h => hk (Or.elim h (fun h => (Or.inl h)) (fun h => (Or.elim h (fun h => (Or.inr (Or.inl h))) (fun h => (Or.inr (Or.inr h))))))))))) (by omega) (by omega))
          · skip
            refine mm_g 3 (pc1 := 77) (lo1 := [some (.ref 0), some (.int (Int32.ofInt a1)), some (.int (Int32.ofInt v2)), some (.int (Int32.ofInt v4)), some (.int (Int32.ofInt v11)), some (.int (Int32.ofInt v12)), some (.int (Int32.ofInt v13)), o14, o15, o16]) (st1 := [.int (Int32.ofInt v2), .int (Int32.ofInt v13), .ref 0]) (H1 := mz_mk g17 x) rfl ?_
            refine mz_cv rfl mt_11_352 (by decide) (sc_0 _) rfl (Nat.le_of_ble_eq_true rfl) (by omega) (c_X11_looseStraps (by omega) hx hIg17 (by omega) (by omega) (by omega) (by omega) (fun v22 g23 hIg23 hfg23 l_v22 u_v22 => ⟨_, rfl, ?_⟩))
            show mm_W d mmX11_look 80 [some (.ref 0), some (.int (Int32.ofInt a1)), some (.int (Int32.ofInt v2)), some (.int (Int32.ofInt v4)), some (.int (Int32.ofInt v11)), some (.int (Int32.ofInt v12)), some (.int (Int32.ofInt v13)), o14, o15, o16] [.int (Int32.ofInt v22)] (mz_mk g23 x) Q
            refine mm_g 3 (pc1 := 85) (lo1 := [some (.ref 0), some (.int (Int32.ofInt a1)), some (.int (Int32.ofInt v2)), some (.int (Int32.ofInt v4)), some (.int (Int32.ofInt v11)), some (.int (Int32.ofInt v12)), some (.int (Int32.ofInt v13)), some (.int (Int32.ofInt v22)), o15, o16]) (st1 := [.int (Int32.ofInt v22), .int (Int32.ofInt v4)]) (H1 := mz_mk g23 x) rfl ?_
            refine mz_cs rfl mt_11_358 (by decide) rfl (Nat.le_of_ble_eq_true rfl) (by omega) (c_J6_bitCount (by omega) hx hIg23 l_v22 u_v22 (fun v24 l_v24 u_v24 => ⟨_, rfl, ?_⟩))
            show mm_W d mmX11_look 88 [some (.ref 0), some (.int (Int32.ofInt a1)), some (.int (Int32.ofInt v2)), some (.int (Int32.ofInt v4)), some (.int (Int32.ofInt v11)), some (.int (Int32.ofInt v12)), some (.int (Int32.ofInt v13)), some (.int (Int32.ofInt v22)), o15, o16] [.int (Int32.ofInt v24), .int (Int32.ofInt v4)] (mz_mk g23 x) Q
            refine mz_ic_le (tgt := 95) rfl rfl (mz_rg l_v4 u_v4) (mz_rg l_v24 u_v24) (fun c88_24 => ?_) (fun c88_24 => ?_)
            · skip
              refine mm_g 6 (pc1 := 105) (lo1 := [some (.ref 0), some (.int (Int32.ofInt a1)), some (.int (Int32.ofInt v2)), some (.int (Int32.ofInt v4)), some (.int (Int32.ofInt v11)), some (.int (Int32.ofInt v12)), some (.int (Int32.ofInt v13)), some (.int (Int32.ofInt v22)), some (.int (Int32.ofInt 0)), o16]) (st1 := [.int (Int32.ofInt 0), .int (Int32.ofInt v22), .int (Int32.ofInt v13), .ref 0]) (H1 := mz_mk g23 x) rfl ?_
              refine mz_cv rfl mt_11_363 (by decide) (sc_0 _) rfl (Nat.le_of_ble_eq_true rfl) (by omega) (c_X11_unlikeNumbers (by omega) hx hIg23 (by omega) (by omega) l_v22 u_v22 (by decide) (by decide) (fun v25 g26 hIg26 hfg26 l_v25 u_v25 => ⟨_, rfl, ?_⟩))
              show mm_W d mmX11_look 108 [some (.ref 0), some (.int (Int32.ofInt a1)), some (.int (Int32.ofInt v2)), some (.int (Int32.ofInt v4)), some (.int (Int32.ofInt v11)), some (.int (Int32.ofInt v12)), some (.int (Int32.ofInt v13)), some (.int (Int32.ofInt v22)), some (.int (Int32.ofInt 0)), o16] [.int (Int32.ofInt v25)] (mz_mk g26 x) Q
              refine mz_cs rfl mt_11_358 (by decide) rfl (Nat.le_of_ble_eq_true rfl) (by omega) (c_J6_bitCount (by omega) hx hIg26 l_v25 u_v25 (fun v27 l_v27 u_v27 => ⟨_, rfl, ?_⟩))
              show mm_W d mmX11_look 111 [some (.ref 0), some (.int (Int32.ofInt a1)), some (.int (Int32.ofInt v2)), some (.int (Int32.ofInt v4)), some (.int (Int32.ofInt v11)), some (.int (Int32.ofInt v12)), some (.int (Int32.ofInt v13)), some (.int (Int32.ofInt v22)), some (.int (Int32.ofInt 0)), o16] [.int (Int32.ofInt v27)] (mz_mk g26 x) Q
              refine mm_g 3 (pc1 := 117) (lo1 := [some (.ref 0), some (.int (Int32.ofInt a1)), some (.int (Int32.ofInt v2)), some (.int (Int32.ofInt v4)), some (.int (Int32.ofInt v11)), some (.int (Int32.ofInt v12)), some (.int (Int32.ofInt v13)), some (.int (Int32.ofInt v22)), some (.int (Int32.ofInt 0)), some (.int (Int32.ofInt v27))]) (st1 := [.int (Int32.ofInt v12), .int (Int32.ofInt v27)]) (H1 := mz_mk g26 x) rfl ?_
              refine mz_ic_le (tgt := 128) rfl rfl (mz_rg l_v27 u_v27) (mz_rg l_v12 u_v12) (fun c117_27 => ?_) (fun c117_27 => ?_)
              · skip
                refine mz_iincR (v := v13) (lo2 := [some (.ref 0), some (.int (Int32.ofInt a1)), some (.int (Int32.ofInt v2)), some (.int (Int32.ofInt v4)), some (.int (Int32.ofInt v11)), some (.int (Int32.ofInt v12)), some (.int (Int32.ofInt (v13 + 1))), some (.int (Int32.ofInt v22)), some (.int (Int32.ofInt 0)), some (.int (Int32.ofInt v27))]) rfl rfl rfl (Nat.le_of_ble_eq_true rfl) rfl ?_
                refine mz_gt (tgt := 64) rfl rfl ?_
                exact ih18 ((6 - (v13 + 1)).toNat) (by omega) v11 v12 (v13 + 1) (some (.int (Int32.ofInt v22))) (some (.int (Int32.ofInt 0))) (some (.int (Int32.ofInt v27))) g26 rfl (by omega) (by omega) (by omega) (by omega) (by omega) (by omega) (mz_nl_i _) (mz_nl_i _) (mz_nl_i _) hIg26 (fun k j hk => ((hfg26 k j (fun h => hk (Or.elim h (fun h => (Or.inl h)) (fun h => (Or.elim h (fun h => (Or.inr (Or.inl h))) (fun h => (Or.inr (Or.inr h)))))))).trans ((hfg23 k j (fun h => hk (Or.elim h (fun h => (Or.inl h)) (fun h => (Or.elim h (fun h => (Or.inr (Or.inl h))) (fun h => (Or.inr (Or.inr h)))))))).trans (hfg17 k j (fun h => hk (Or.elim h (fun h => (Or.inl h)) (fun h => (Or.elim h (fun h => (Or.inr (Or.inl h))) (fun h => (Or.inr (Or.inr h)))))))))))
              · skip
                refine mm_g 4 (pc1 := 128) (lo1 := [some (.ref 0), some (.int (Int32.ofInt a1)), some (.int (Int32.ofInt v2)), some (.int (Int32.ofInt v4)), some (.int (Int32.ofInt v13)), some (.int (Int32.ofInt v27)), some (.int (Int32.ofInt v13)), some (.int (Int32.ofInt v22)), some (.int (Int32.ofInt 0)), some (.int (Int32.ofInt v27))]) (st1 := []) (H1 := mz_mk g26 x) rfl ?_
                refine mz_iincR (v := v13) (lo2 := [some (.ref 0), some (.int (Int32.ofInt a1)), some (.int (Int32.ofInt v2)), some (.int (Int32.ofInt v4)), some (.int (Int32.ofInt v13)), some (.int (Int32.ofInt v27)), some (.int (Int32.ofInt (v13 + 1))), some (.int (Int32.ofInt v22)), some (.int (Int32.ofInt 0)), some (.int (Int32.ofInt v27))]) rfl rfl rfl (Nat.le_of_ble_eq_true rfl) rfl ?_
                refine mz_gt (tgt := 64) rfl rfl ?_
                exact ih18 ((6 - (v13 + 1)).toNat) (by omega) v13 v27 (v13 + 1) (some (.int (Int32.ofInt v22))) (some (.int (Int32.ofInt 0))) (some (.int (Int32.ofInt v27))) g26 rfl (by omega) (by omega) (by omega) (by omega) (by omega) (by omega) (mz_nl_i _) (mz_nl_i _) (mz_nl_i _) hIg26 (fun k j hk => ((hfg26 k j (fun h => hk (Or.elim h (fun h => (Or.inl h)) (fun h => (Or.elim h (fun h => (Or.inr (Or.inl h))) (fun h => (Or.inr (Or.inr h)))))))).trans ((hfg23 k j (fun h => hk (Or.elim h (fun h => (Or.inl h)) (fun h => (Or.elim h (fun h => (Or.inr (Or.inl h))) (fun h => (Or.inr (Or.inr h)))))))).trans (hfg17 k j (fun h => hk (Or.elim h (fun h => (Or.inl h)) (fun h => (Or.elim h (fun h => (Or.inr (Or.inl h))) (fun h => (Or.inr (Or.inr h)))))))))))
            · skip
              refine mm_g 1 (pc1 := 92) (lo1 := [some (.ref 0), some (.int (Int32.ofInt a1)), some (.int (Int32.ofInt v2)), some (.int (Int32.ofInt v4)), some (.int (Int32.ofInt v11)), some (.int (Int32.ofInt v12)), some (.int (Int32.ofInt v13)), some (.int (Int32.ofInt v22)), o15, o16]) (st1 := [.int (Int32.ofInt 1)]) (H1 := mz_mk g23 x) rfl ?_
              refine mz_gt (tgt := 96) rfl rfl ?_
              refine mm_g 5 (pc1 := 105) (lo1 := [some (.ref 0), some (.int (Int32.ofInt a1)), some (.int (Int32.ofInt v2)), some (.int (Int32.ofInt v4)), some (.int (Int32.ofInt v11)), some (.int (Int32.ofInt v12)), some (.int (Int32.ofInt v13)), some (.int (Int32.ofInt v22)), some (.int (Int32.ofInt 1)), o16]) (st1 := [.int (Int32.ofInt 1), .int (Int32.ofInt v22), .int (Int32.ofInt v13), .ref 0]) (H1 := mz_mk g23 x) rfl ?_
              refine mz_cv rfl mt_11_363 (by decide) (sc_0 _) rfl (Nat.le_of_ble_eq_true rfl) (by omega) (c_X11_unlikeNumbers (by omega) hx hIg23 (by omega) (by omega) l_v22 u_v22 (by decide) (by decide) (fun v28 g29 hIg29 hfg29 l_v28 u_v28 => ⟨_, rfl, ?_⟩))
              show mm_W d mmX11_look 108 [some (.ref 0), some (.int (Int32.ofInt a1)), some (.int (Int32.ofInt v2)), some (.int (Int32.ofInt v4)), some (.int (Int32.ofInt v11)), some (.int (Int32.ofInt v12)), some (.int (Int32.ofInt v13)), some (.int (Int32.ofInt v22)), some (.int (Int32.ofInt 1)), o16] [.int (Int32.ofInt v28)] (mz_mk g29 x) Q
              refine mz_cs rfl mt_11_358 (by decide) rfl (Nat.le_of_ble_eq_true rfl) (by omega) (c_J6_bitCount (by omega) hx hIg29 l_v28 u_v28 (fun v30 l_v30 u_v30 => ⟨_, rfl, ?_⟩))
              show mm_W d mmX11_look 111 [some (.ref 0), some (.int (Int32.ofInt a1)), some (.int (Int32.ofInt v2)), some (.int (Int32.ofInt v4)), some (.int (Int32.ofInt v11)), some (.int (Int32.ofInt v12)), some (.int (Int32.ofInt v13)), some (.int (Int32.ofInt v22)), some (.int (Int32.ofInt 1)), o16] [.int (Int32.ofInt v30)] (mz_mk g29 x) Q
              refine mm_g 3 (pc1 := 117) (lo1 := [some (.ref 0), some (.int (Int32.ofInt a1)), some (.int (Int32.ofInt v2)), some (.int (Int32.ofInt v4)), some (.int (Int32.ofInt v11)), some (.int (Int32.ofInt v12)), some (.int (Int32.ofInt v13)), some (.int (Int32.ofInt v22)), some (.int (Int32.ofInt 1)), some (.int (Int32.ofInt v30))]) (st1 := [.int (Int32.ofInt v12), .int (Int32.ofInt v30)]) (H1 := mz_mk g29 x) rfl ?_
              refine mz_ic_le (tgt := 128) rfl rfl (mz_rg l_v30 u_v30) (mz_rg l_v12 u_v12) (fun c117_30 => ?_) (fun c117_30 => ?_)
              · skip
                refine mz_iincR (v := v13) (lo2 := [some (.ref 0), some (.int (Int32.ofInt a1)), some (.int (Int32.ofInt v2)), some (.int (Int32.ofInt v4)), some (.int (Int32.ofInt v11)), some (.int (Int32.ofInt v12)), some (.int (Int32.ofInt (v13 + 1))), some (.int (Int32.ofInt v22)), some (.int (Int32.ofInt 1)), some (.int (Int32.ofInt v30))]) rfl rfl rfl (Nat.le_of_ble_eq_true rfl) rfl ?_
                refine mz_gt (tgt := 64) rfl rfl ?_
                exact ih18 ((6 - (v13 + 1)).toNat) (by omega) v11 v12 (v13 + 1) (some (.int (Int32.ofInt v22))) (some (.int (Int32.ofInt 1))) (some (.int (Int32.ofInt v30))) g29 rfl (by omega) (by omega) (by omega) (by omega) (by omega) (by omega) (mz_nl_i _) (mz_nl_i _) (mz_nl_i _) hIg29 (fun k j hk => ((hfg29 k j (fun h => hk (Or.elim h (fun h => (Or.inl h)) (fun h => (Or.elim h (fun h => (Or.inr (Or.inl h))) (fun h => (Or.inr (Or.inr h)))))))).trans ((hfg23 k j (fun h => hk (Or.elim h (fun h => (Or.inl h)) (fun h => (Or.elim h (fun h => (Or.inr (Or.inl h))) (fun h => (Or.inr (Or.inr h)))))))).trans (hfg17 k j (fun h => hk (Or.elim h (fun h => (Or.inl h)) (fun h => (Or.elim h (fun h => (Or.inr (Or.inl h))) (fun h => (Or.inr (Or.inr h)))))))))))
              · skip
                refine mm_g 4 (pc1 := 128) (lo1 := [some (.ref 0), some (.int (Int32.ofInt a1)), some (.int (Int32.ofInt v2)), some (.int (Int32.ofInt v4)), some (.int (Int32.ofInt v13)), some (.int (Int32.ofInt v30)), some (.int (Int32.ofInt v13)), some (.int (Int32.ofInt v22)), some (.int (Int32.ofInt 1)), some (.int (Int32.ofInt v30))]) (st1 := []) (H1 := mz_mk g29 x) rfl ?_
                refine mz_iincR (v := v13) (lo2 := [some (.ref 0), some (.int (Int32.ofInt a1)), some (.int (Int32.ofInt v2)), some (.int (Int32.ofInt v4)), some (.int (Int32.ofInt v13)), some (.int (Int32.ofInt v30)), some (.int (Int32.ofInt (v13 + 1))), some (.int (Int32.ofInt v22)), some (.int (Int32.ofInt 1)), some (.int (Int32.ofInt v30))]) rfl rfl rfl (Nat.le_of_ble_eq_true rfl) rfl ?_
                refine mz_gt (tgt := 64) rfl rfl ?_
                exact ih18 ((6 - (v13 + 1)).toNat) (by omega) v13 v30 (v13 + 1) (some (.int (Int32.ofInt v22))) (some (.int (Int32.ofInt 1))) (some (.int (Int32.ofInt v30))) g29 rfl (by omega) (by omega) (by omega) (by omega) (by omega) (by omega) (mz_nl_i _) (mz_nl_i _) (mz_nl_i _) hIg29 (fun k j hk => ((hfg29 k j (fun h => hk (Or.elim h (fun h => (Or.inl h)) (fun h => (Or.elim h (fun h => (Or.inr (Or.inl h))) (fun h => (Or.inr (Or.inr h)))))))).trans ((hfg23 k j (fun h => hk (Or.elim h (fun h => (Or.inl h)) (fun h => (Or.elim h (fun h => (Or.inr (Or.inl h))) (fun h => (Or.inr (Or.inr h)))))))).trans (hfg17 k j (fun h => hk (Or.elim h (fun h => (Or.inl h)) (fun h => (Or.elim h (fun h => (Or.inr (Or.inl h))) (fun h => (Or.inr (Or.inr h)))))))))))
        exact L20 _ (-1) 0 0 none none none g6 rfl (by decide) (by decide) (by decide) (by decide) (by decide) (by decide) mz_nl_n mz_nl_n mz_nl_n hIg6 (fun _ _ _ => rfl)
      · skip
        refine mm_g 4 (pc1 := 41) (lo1 := [some (.ref 0), some (.int (Int32.ofInt a1)), some (.int (Int32.ofInt v2)), some (.int (Int32.ofInt v4)), some (.int (Int32.ofInt v5)), none, none, none, none, none]) (st1 := [.int (Int32.ofInt v2), .int (Int32.ofInt v5), .ref 0, .int (Int32.ofInt v4)]) (H1 := mz_mk g6 x) rfl ?_
        refine mz_cv rfl mt_11_352 (by decide) (sc_0 _) rfl (Nat.le_of_ble_eq_true rfl) (by omega) (c_X11_looseStraps (by omega) hx hIg6 (by omega) (by omega) (by omega) (by omega) (fun v31 g32 hIg32 hfg32 l_v31 u_v31 => ⟨_, rfl, ?_⟩))
        show mm_W d mmX11_look 44 [some (.ref 0), some (.int (Int32.ofInt a1)), some (.int (Int32.ofInt v2)), some (.int (Int32.ofInt v4)), some (.int (Int32.ofInt v5)), none, none, none, none, none] [.int (Int32.ofInt v31), .int (Int32.ofInt v4)] (mz_mk g32 x) Q
        refine mz_cs rfl mt_11_358 (by decide) rfl (Nat.le_of_ble_eq_true rfl) (by omega) (c_J6_bitCount (by omega) hx hIg32 l_v31 u_v31 (fun v33 l_v33 u_v33 => ⟨_, rfl, ?_⟩))
        show mm_W d mmX11_look 47 [some (.ref 0), some (.int (Int32.ofInt a1)), some (.int (Int32.ofInt v2)), some (.int (Int32.ofInt v4)), some (.int (Int32.ofInt v5)), none, none, none, none, none] [.int (Int32.ofInt v33), .int (Int32.ofInt v4)] (mz_mk g32 x) Q
        refine mz_iadd_w rfl (fun v34 _ hwv34 => ?_)
        have l_v34 := hwv34.1
        have u_v34 := hwv34.2
        refine mm_g 1 (pc1 := 49) (lo1 := [some (.ref 0), some (.int (Int32.ofInt a1)), some (.int (Int32.ofInt v2)), some (.int (Int32.ofInt v34)), some (.int (Int32.ofInt v5)), none, none, none, none, none]) (st1 := []) (H1 := mz_mk g32 x) rfl ?_
        refine mz_iincR (v := v5) (lo2 := [some (.ref 0), some (.int (Int32.ofInt a1)), some (.int (Int32.ofInt v2)), some (.int (Int32.ofInt v34)), some (.int (Int32.ofInt (v5 + 1))), none, none, none, none, none]) rfl rfl rfl (Nat.le_of_ble_eq_true rfl) rfl ?_
        refine mz_gt (tgt := 27) rfl rfl ?_
        exact ih7 ((6 - (v5 + 1)).toNat) (by omega) v34 (v5 + 1) g32 rfl (by omega) (by omega) (by omega) (by omega) hIg32 (fun k j hk => ((hfg32 k j (fun h => hk (Or.elim h (fun h => (Or.inl h)) (fun h => (Or.elim h (fun h => (Or.inr (Or.inl h))) (fun h => (Or.inr (Or.inr h)))))))).trans (hfg6 k j (fun h => hk (Or.elim h (fun h => (Or.inl h)) (fun h => (Or.elim h (fun h => (Or.inr (Or.inl h))) (fun h => (Or.inr (Or.inr h))))))))))
    exact L9 _ 0 0 g3 rfl (by decide) (by decide) (by decide) (by decide) hIg3 (fun _ _ _ => rfl)
  · skip
    refine mm_g 2 (pc1 := 6) (lo1 := [some (.ref 0), some (.int (Int32.ofInt a1)), none, none, none, none, none, none, none, none]) (st1 := [.int (Int32.ofInt 1), .int (Int32.ofInt a1)]) (H1 := mz_mk g x) rfl ?_
    refine mz_ic_ne (tgt := 13) rfl rfl (mz_rg l_a1 u_a1) ⟨by decide, by decide⟩ (fun c6_34 => ?_) (fun c6_34 => ?_)
    · skip
      refine mm_g 1 (pc1 := 14) (lo1 := [some (.ref 0), some (.int (Int32.ofInt a1)), none, none, none, none, none, none, none, none]) (st1 := [.int (Int32.ofInt 0)]) (H1 := mz_mk g x) rfl ?_
      refine mz_csx rfl mt_11_183 rfl (Nat.le_of_ble_eq_true rfl) (by omega) rfl nh_X11_mustBe (t_X11_mustBe (by omega) hx hI (by decide) (by decide) (fun hp35 => ?_) hX0)
      show mm_W d mmX11_look 17 [some (.ref 0), some (.int (Int32.ofInt a1)), none, none, none, none, none, none, none, none] [] (mz_mk g x) Q
      exfalso; omega
    · skip
      refine mm_g 1 (pc1 := 10) (lo1 := [some (.ref 0), some (.int (Int32.ofInt a1)), none, none, none, none, none, none, none, none]) (st1 := [.int (Int32.ofInt 1)]) (H1 := mz_mk g x) rfl ?_
      refine mz_gt (tgt := 14) rfl rfl ?_
      refine mz_csx rfl mt_11_183 rfl (Nat.le_of_ble_eq_true rfl) (by omega) rfl nh_X11_mustBe (t_X11_mustBe (by omega) hx hI (by decide) (by decide) (fun hp36 => ?_) hX0)
      show mm_W d mmX11_look 17 [some (.ref 0), some (.int (Int32.ofInt a1)), none, none, none, none, none, none, none, none] [] (mz_mk g x) Q
      refine mm_g 1 (pc1 := 18) (lo1 := [some (.ref 0), some (.int (Int32.ofInt a1)), none, none, none, none, none, none, none, none]) (st1 := [.ref 0]) (H1 := mz_mk g x) rfl ?_
      refine mz_cv rfl mt_11_346 (by decide) (sc_0 _) rfl (Nat.le_of_ble_eq_true rfl) (by omega) (c_X11_fittingTrunks (by omega) hx hI (fun v37 g38 hIg38 hfg38 l_v37 u_v37 => ⟨_, rfl, ?_⟩))
      show mm_W d mmX11_look 21 [some (.ref 0), some (.int (Int32.ofInt a1)), none, none, none, none, none, none, none, none] [.int (Int32.ofInt v37)] (mz_mk g38 x) Q
      refine mm_g 5 (pc1 := 27) (lo1 := [some (.ref 0), some (.int (Int32.ofInt a1)), some (.int (Int32.ofInt v37)), some (.int (Int32.ofInt 0)), some (.int (Int32.ofInt 0)), none, none, none, none, none]) (st1 := []) (H1 := mz_mk g38 x) rfl ?_
      have L44 : ∀ n43 : Nat, ∀ (v39 : Int) (v40 : Int) (g41 : mz_G), (6 - v40).toNat = n43 → (-2147483648) ≤ v39 → v39 ≤ 2147483647 → 0 ≤ v40 → v40 ≤ 6 → mz_inv g41 → mz_fr (fl_X11_look_27 x a1) g38 g41 → mm_W d mmX11_look 27 [some (.ref 0), some (.int (Int32.ofInt a1)), some (.int (Int32.ofInt v37)), some (.int (Int32.ofInt v39)), some (.int (Int32.ofInt v40)), none, none, none, none, none] [] (mz_mk g41 x) Q := by
        intro n43
        induction n43 using Nat.strongRecOn with
        | ind n43 ih42 =>
        intro v39 v40 g41 hmn43 l_v39 u_v39 l_v40 u_v40 hIg41 hfg41
        refine mm_g 2 (pc1 := 30) (lo1 := [some (.ref 0), some (.int (Int32.ofInt a1)), some (.int (Int32.ofInt v37)), some (.int (Int32.ofInt v39)), some (.int (Int32.ofInt v40)), none, none, none, none, none]) (st1 := [.ref 0, .int (Int32.ofInt v40)]) (H1 := mz_mk g41 x) rfl ?_
        refine mz_cv rfl mt_11_155 (by decide) (sc_0 _) rfl (Nat.le_of_ble_eq_true rfl) (by omega) (c_X11_trunkCount (by omega) hx hIg41 (fun v45 l_v45 u_v45 => ⟨_, rfl, ?_⟩))
        show mm_W d mmX11_look 33 [some (.ref 0), some (.int (Int32.ofInt a1)), some (.int (Int32.ofInt v37)), some (.int (Int32.ofInt v39)), some (.int (Int32.ofInt v40)), none, none, none, none, none] [.int (Int32.ofInt v45), .int (Int32.ofInt v40)] (mz_mk g41 x) Q
        refine mz_ic_ge (tgt := 55) rfl rfl (mz_rg l_v40 u_v40) (mz_rg l_v45 u_v45) (fun c33_45 => ?_) (fun c33_45 => ?_)
        · skip
          refine mm_g 6 (pc1 := 64) (lo1 := [some (.ref 0), some (.int (Int32.ofInt a1)), some (.int (Int32.ofInt v37)), some (.int (Int32.ofInt v39)), some (.int (Int32.ofInt (-1))), some (.int (Int32.ofInt 0)), some (.int (Int32.ofInt 0)), none, none, none]) (st1 := []) (H1 := mz_mk g41 x) rfl ?_
          have L55 : ∀ n54 : Nat, ∀ (v46 : Int) (v47 : Int) (v48 : Int) (o49 : Option Value) (o50 : Option Value) (o51 : Option Value) (g52 : mz_G), (6 - v48).toNat = n54 → (-1) ≤ v46 → v46 ≤ 5 → 0 ≤ v47 → v47 ≤ 63 → 0 ≤ v48 → v48 ≤ 6 → mz_nl o49 → mz_nl o50 → mz_nl o51 → mz_inv g52 → mz_fr (fl_X11_look_64 x a1) g41 g52 → mm_W d mmX11_look 64 [some (.ref 0), some (.int (Int32.ofInt a1)), some (.int (Int32.ofInt v37)), some (.int (Int32.ofInt v39)), some (.int (Int32.ofInt v46)), some (.int (Int32.ofInt v47)), some (.int (Int32.ofInt v48)), o49, o50, o51] [] (mz_mk g52 x) Q := by
            intro n54
            induction n54 using Nat.strongRecOn with
            | ind n54 ih53 =>
            intro v46 v47 v48 o49 o50 o51 g52 hmn54 l_v46 u_v46 l_v47 u_v47 l_v48 u_v48 h_o49 h_o50 h_o51 hIg52 hfg52
            refine mm_g 2 (pc1 := 67) (lo1 := [some (.ref 0), some (.int (Int32.ofInt a1)), some (.int (Int32.ofInt v37)), some (.int (Int32.ofInt v39)), some (.int (Int32.ofInt v46)), some (.int (Int32.ofInt v47)), some (.int (Int32.ofInt v48)), o49, o50, o51]) (st1 := [.ref 0, .int (Int32.ofInt v48)]) (H1 := mz_mk g52 x) rfl ?_
            refine mz_cv rfl mt_11_155 (by decide) (sc_0 _) rfl (Nat.le_of_ble_eq_true rfl) (by omega) (c_X11_trunkCount (by omega) hx hIg52 (fun v56 l_v56 u_v56 => ⟨_, rfl, ?_⟩))
            show mm_W d mmX11_look 70 [some (.ref 0), some (.int (Int32.ofInt a1)), some (.int (Int32.ofInt v37)), some (.int (Int32.ofInt v39)), some (.int (Int32.ofInt v46)), some (.int (Int32.ofInt v47)), some (.int (Int32.ofInt v48)), o49, o50, o51] [.int (Int32.ofInt v56), .int (Int32.ofInt v48)] (mz_mk g52 x) Q
            refine mz_ic_ge (tgt := 134) rfl rfl (mz_rg l_v48 u_v48) (mz_rg l_v56 u_v56) (fun c70_56 => ?_) (fun c70_56 => ?_)
            · skip
              refine mm_g 1 (pc1 := 135) (lo1 := [some (.ref 0), some (.int (Int32.ofInt a1)), some (.int (Int32.ofInt v37)), some (.int (Int32.ofInt v39)), some (.int (Int32.ofInt v46)), some (.int (Int32.ofInt v47)), some (.int (Int32.ofInt v48)), o49, o50, o51]) (st1 := [.int (Int32.ofInt a1)]) (H1 := mz_mk g52 x) rfl ?_
              refine mz_if_ne (tgt := 143) rfl rfl (mz_rg l_a1 u_a1) (fun c135_56 => ?_) (fun c135_56 => ?_)
              · skip
                refine mm_g 1 (pc1 := 145) (lo1 := [some (.ref 0), some (.int (Int32.ofInt a1)), some (.int (Int32.ofInt v37)), some (.int (Int32.ofInt v39)), some (.int (Int32.ofInt v46)), some (.int (Int32.ofInt v47)), some (.int (Int32.ofInt v48)), o49, o50, o51]) (st1 := [.int (Int32.ofInt v47)]) (H1 := mz_mk g52 x) rfl ?_
                exact mm_rt rfl rfl (hQ _ _ hIg52 (fun k j hk => ((hfg52 k j (fun h => hk (Or.elim h (fun h => (Or.inl h)) (fun h => (Or.elim h (fun h => (Or.inr (Or.inl h))) (fun h => (Or.inr (Or.inr h)))))))).trans ((hfg41 k j (fun h => hk (Or.elim h (fun h => (Or.inl h)) (fun h => (Or.elim h (fun h => (Or.inr (Or.inl h))) (fun h => (Or.inr (Or.inr h)))))))).trans (hfg38 k j (fun h => hk (Or.elim h (fun h => (Or.inl h)) (fun h => (Or.elim h (fun h => (Or.inr (Or.inl h))) (fun h => (Or.inr (Or.inr h))))))))))) (by omega) (by omega))
              · exfalso; omega
            · skip
              refine mm_g 3 (pc1 := 77) (lo1 := [some (.ref 0), some (.int (Int32.ofInt a1)), some (.int (Int32.ofInt v37)), some (.int (Int32.ofInt v39)), some (.int (Int32.ofInt v46)), some (.int (Int32.ofInt v47)), some (.int (Int32.ofInt v48)), o49, o50, o51]) (st1 := [.int (Int32.ofInt v37), .int (Int32.ofInt v48), .ref 0]) (H1 := mz_mk g52 x) rfl ?_
              refine mz_cv rfl mt_11_352 (by decide) (sc_0 _) rfl (Nat.le_of_ble_eq_true rfl) (by omega) (c_X11_looseStraps (by omega) hx hIg52 (by omega) (by omega) (by omega) (by omega) (fun v57 g58 hIg58 hfg58 l_v57 u_v57 => ⟨_, rfl, ?_⟩))
              show mm_W d mmX11_look 80 [some (.ref 0), some (.int (Int32.ofInt a1)), some (.int (Int32.ofInt v37)), some (.int (Int32.ofInt v39)), some (.int (Int32.ofInt v46)), some (.int (Int32.ofInt v47)), some (.int (Int32.ofInt v48)), o49, o50, o51] [.int (Int32.ofInt v57)] (mz_mk g58 x) Q
              refine mm_g 3 (pc1 := 85) (lo1 := [some (.ref 0), some (.int (Int32.ofInt a1)), some (.int (Int32.ofInt v37)), some (.int (Int32.ofInt v39)), some (.int (Int32.ofInt v46)), some (.int (Int32.ofInt v47)), some (.int (Int32.ofInt v48)), some (.int (Int32.ofInt v57)), o50, o51]) (st1 := [.int (Int32.ofInt v57), .int (Int32.ofInt v39)]) (H1 := mz_mk g58 x) rfl ?_
              refine mz_cs rfl mt_11_358 (by decide) rfl (Nat.le_of_ble_eq_true rfl) (by omega) (c_J6_bitCount (by omega) hx hIg58 l_v57 u_v57 (fun v59 l_v59 u_v59 => ⟨_, rfl, ?_⟩))
              show mm_W d mmX11_look 88 [some (.ref 0), some (.int (Int32.ofInt a1)), some (.int (Int32.ofInt v37)), some (.int (Int32.ofInt v39)), some (.int (Int32.ofInt v46)), some (.int (Int32.ofInt v47)), some (.int (Int32.ofInt v48)), some (.int (Int32.ofInt v57)), o50, o51] [.int (Int32.ofInt v59), .int (Int32.ofInt v39)] (mz_mk g58 x) Q
              refine mz_ic_le (tgt := 95) rfl rfl (mz_rg l_v39 u_v39) (mz_rg l_v59 u_v59) (fun c88_59 => ?_) (fun c88_59 => ?_)
              · skip
                refine mm_g 6 (pc1 := 105) (lo1 := [some (.ref 0), some (.int (Int32.ofInt a1)), some (.int (Int32.ofInt v37)), some (.int (Int32.ofInt v39)), some (.int (Int32.ofInt v46)), some (.int (Int32.ofInt v47)), some (.int (Int32.ofInt v48)), some (.int (Int32.ofInt v57)), some (.int (Int32.ofInt 0)), o51]) (st1 := [.int (Int32.ofInt 0), .int (Int32.ofInt v57), .int (Int32.ofInt v48), .ref 0]) (H1 := mz_mk g58 x) rfl ?_
                refine mz_cv rfl mt_11_363 (by decide) (sc_0 _) rfl (Nat.le_of_ble_eq_true rfl) (by omega) (c_X11_unlikeNumbers (by omega) hx hIg58 (by omega) (by omega) l_v57 u_v57 (by decide) (by decide) (fun v60 g61 hIg61 hfg61 l_v60 u_v60 => ⟨_, rfl, ?_⟩))
                show mm_W d mmX11_look 108 [some (.ref 0), some (.int (Int32.ofInt a1)), some (.int (Int32.ofInt v37)), some (.int (Int32.ofInt v39)), some (.int (Int32.ofInt v46)), some (.int (Int32.ofInt v47)), some (.int (Int32.ofInt v48)), some (.int (Int32.ofInt v57)), some (.int (Int32.ofInt 0)), o51] [.int (Int32.ofInt v60)] (mz_mk g61 x) Q
                refine mz_cs rfl mt_11_358 (by decide) rfl (Nat.le_of_ble_eq_true rfl) (by omega) (c_J6_bitCount (by omega) hx hIg61 l_v60 u_v60 (fun v62 l_v62 u_v62 => ⟨_, rfl, ?_⟩))
                show mm_W d mmX11_look 111 [some (.ref 0), some (.int (Int32.ofInt a1)), some (.int (Int32.ofInt v37)), some (.int (Int32.ofInt v39)), some (.int (Int32.ofInt v46)), some (.int (Int32.ofInt v47)), some (.int (Int32.ofInt v48)), some (.int (Int32.ofInt v57)), some (.int (Int32.ofInt 0)), o51] [.int (Int32.ofInt v62)] (mz_mk g61 x) Q
                refine mm_g 3 (pc1 := 117) (lo1 := [some (.ref 0), some (.int (Int32.ofInt a1)), some (.int (Int32.ofInt v37)), some (.int (Int32.ofInt v39)), some (.int (Int32.ofInt v46)), some (.int (Int32.ofInt v47)), some (.int (Int32.ofInt v48)), some (.int (Int32.ofInt v57)), some (.int (Int32.ofInt 0)), some (.int (Int32.ofInt v62))]) (st1 := [.int (Int32.ofInt v47), .int (Int32.ofInt v62)]) (H1 := mz_mk g61 x) rfl ?_
                refine mz_ic_le (tgt := 128) rfl rfl (mz_rg l_v62 u_v62) (mz_rg l_v47 u_v47) (fun c117_62 => ?_) (fun c117_62 => ?_)
                · skip
                  refine mz_iincR (v := v48) (lo2 := [some (.ref 0), some (.int (Int32.ofInt a1)), some (.int (Int32.ofInt v37)), some (.int (Int32.ofInt v39)), some (.int (Int32.ofInt v46)), some (.int (Int32.ofInt v47)), some (.int (Int32.ofInt (v48 + 1))), some (.int (Int32.ofInt v57)), some (.int (Int32.ofInt 0)), some (.int (Int32.ofInt v62))]) rfl rfl rfl (Nat.le_of_ble_eq_true rfl) rfl ?_
                  refine mz_gt (tgt := 64) rfl rfl ?_
                  exact ih53 ((6 - (v48 + 1)).toNat) (by omega) v46 v47 (v48 + 1) (some (.int (Int32.ofInt v57))) (some (.int (Int32.ofInt 0))) (some (.int (Int32.ofInt v62))) g61 rfl (by omega) (by omega) (by omega) (by omega) (by omega) (by omega) (mz_nl_i _) (mz_nl_i _) (mz_nl_i _) hIg61 (fun k j hk => ((hfg61 k j (fun h => hk (Or.elim h (fun h => (Or.inl h)) (fun h => (Or.elim h (fun h => (Or.inr (Or.inl h))) (fun h => (Or.inr (Or.inr h)))))))).trans ((hfg58 k j (fun h => hk (Or.elim h (fun h => (Or.inl h)) (fun h => (Or.elim h (fun h => (Or.inr (Or.inl h))) (fun h => (Or.inr (Or.inr h)))))))).trans (hfg52 k j (fun h => hk (Or.elim h (fun h => (Or.inl h)) (fun h => (Or.elim h (fun h => (Or.inr (Or.inl h))) (fun h => (Or.inr (Or.inr h)))))))))))
                · skip
                  refine mm_g 4 (pc1 := 128) (lo1 := [some (.ref 0), some (.int (Int32.ofInt a1)), some (.int (Int32.ofInt v37)), some (.int (Int32.ofInt v39)), some (.int (Int32.ofInt v48)), some (.int (Int32.ofInt v62)), some (.int (Int32.ofInt v48)), some (.int (Int32.ofInt v57)), some (.int (Int32.ofInt 0)), some (.int (Int32.ofInt v62))]) (st1 := []) (H1 := mz_mk g61 x) rfl ?_
                  refine mz_iincR (v := v48) (lo2 := [some (.ref 0), some (.int (Int32.ofInt a1)), some (.int (Int32.ofInt v37)), some (.int (Int32.ofInt v39)), some (.int (Int32.ofInt v48)), some (.int (Int32.ofInt v62)), some (.int (Int32.ofInt (v48 + 1))), some (.int (Int32.ofInt v57)), some (.int (Int32.ofInt 0)), some (.int (Int32.ofInt v62))]) rfl rfl rfl (Nat.le_of_ble_eq_true rfl) rfl ?_
                  refine mz_gt (tgt := 64) rfl rfl ?_
                  exact ih53 ((6 - (v48 + 1)).toNat) (by omega) v48 v62 (v48 + 1) (some (.int (Int32.ofInt v57))) (some (.int (Int32.ofInt 0))) (some (.int (Int32.ofInt v62))) g61 rfl (by omega) (by omega) (by omega) (by omega) (by omega) (by omega) (mz_nl_i _) (mz_nl_i _) (mz_nl_i _) hIg61 (fun k j hk => ((hfg61 k j (fun h => hk (Or.elim h (fun h => (Or.inl h)) (fun h => (Or.elim h (fun h => (Or.inr (Or.inl h))) (fun h => (Or.inr (Or.inr h)))))))).trans ((hfg58 k j (fun h => hk (Or.elim h (fun h => (Or.inl h)) (fun h => (Or.elim h (fun h => (Or.inr (Or.inl h))) (fun h => (Or.inr (Or.inr h)))))))).trans (hfg52 k j (fun h => hk (Or.elim h (fun h => (Or.inl h)) (fun h => (Or.elim h (fun h => (Or.inr (Or.inl h))) (fun h => (Or.inr (Or.inr h)))))))))))
              · skip
                refine mm_g 1 (pc1 := 92) (lo1 := [some (.ref 0), some (.int (Int32.ofInt a1)), some (.int (Int32.ofInt v37)), some (.int (Int32.ofInt v39)), some (.int (Int32.ofInt v46)), some (.int (Int32.ofInt v47)), some (.int (Int32.ofInt v48)), some (.int (Int32.ofInt v57)), o50, o51]) (st1 := [.int (Int32.ofInt 1)]) (H1 := mz_mk g58 x) rfl ?_
                refine mz_gt (tgt := 96) rfl rfl ?_
                refine mm_g 5 (pc1 := 105) (lo1 := [some (.ref 0), some (.int (Int32.ofInt a1)), some (.int (Int32.ofInt v37)), some (.int (Int32.ofInt v39)), some (.int (Int32.ofInt v46)), some (.int (Int32.ofInt v47)), some (.int (Int32.ofInt v48)), some (.int (Int32.ofInt v57)), some (.int (Int32.ofInt 1)), o51]) (st1 := [.int (Int32.ofInt 1), .int (Int32.ofInt v57), .int (Int32.ofInt v48), .ref 0]) (H1 := mz_mk g58 x) rfl ?_
                refine mz_cv rfl mt_11_363 (by decide) (sc_0 _) rfl (Nat.le_of_ble_eq_true rfl) (by omega) (c_X11_unlikeNumbers (by omega) hx hIg58 (by omega) (by omega) l_v57 u_v57 (by decide) (by decide) (fun v63 g64 hIg64 hfg64 l_v63 u_v63 => ⟨_, rfl, ?_⟩))
                show mm_W d mmX11_look 108 [some (.ref 0), some (.int (Int32.ofInt a1)), some (.int (Int32.ofInt v37)), some (.int (Int32.ofInt v39)), some (.int (Int32.ofInt v46)), some (.int (Int32.ofInt v47)), some (.int (Int32.ofInt v48)), some (.int (Int32.ofInt v57)), some (.int (Int32.ofInt 1)), o51] [.int (Int32.ofInt v63)] (mz_mk g64 x) Q
                refine mz_cs rfl mt_11_358 (by decide) rfl (Nat.le_of_ble_eq_true rfl) (by omega) (c_J6_bitCount (by omega) hx hIg64 l_v63 u_v63 (fun v65 l_v65 u_v65 => ⟨_, rfl, ?_⟩))
                show mm_W d mmX11_look 111 [some (.ref 0), some (.int (Int32.ofInt a1)), some (.int (Int32.ofInt v37)), some (.int (Int32.ofInt v39)), some (.int (Int32.ofInt v46)), some (.int (Int32.ofInt v47)), some (.int (Int32.ofInt v48)), some (.int (Int32.ofInt v57)), some (.int (Int32.ofInt 1)), o51] [.int (Int32.ofInt v65)] (mz_mk g64 x) Q
                refine mm_g 3 (pc1 := 117) (lo1 := [some (.ref 0), some (.int (Int32.ofInt a1)), some (.int (Int32.ofInt v37)), some (.int (Int32.ofInt v39)), some (.int (Int32.ofInt v46)), some (.int (Int32.ofInt v47)), some (.int (Int32.ofInt v48)), some (.int (Int32.ofInt v57)), some (.int (Int32.ofInt 1)), some (.int (Int32.ofInt v65))]) (st1 := [.int (Int32.ofInt v47), .int (Int32.ofInt v65)]) (H1 := mz_mk g64 x) rfl ?_
                refine mz_ic_le (tgt := 128) rfl rfl (mz_rg l_v65 u_v65) (mz_rg l_v47 u_v47) (fun c117_65 => ?_) (fun c117_65 => ?_)
                · skip
                  refine mz_iincR (v := v48) (lo2 := [some (.ref 0), some (.int (Int32.ofInt a1)), some (.int (Int32.ofInt v37)), some (.int (Int32.ofInt v39)), some (.int (Int32.ofInt v46)), some (.int (Int32.ofInt v47)), some (.int (Int32.ofInt (v48 + 1))), some (.int (Int32.ofInt v57)), some (.int (Int32.ofInt 1)), some (.int (Int32.ofInt v65))]) rfl rfl rfl (Nat.le_of_ble_eq_true rfl) rfl ?_
                  refine mz_gt (tgt := 64) rfl rfl ?_
                  exact ih53 ((6 - (v48 + 1)).toNat) (by omega) v46 v47 (v48 + 1) (some (.int (Int32.ofInt v57))) (some (.int (Int32.ofInt 1))) (some (.int (Int32.ofInt v65))) g64 rfl (by omega) (by omega) (by omega) (by omega) (by omega) (by omega) (mz_nl_i _) (mz_nl_i _) (mz_nl_i _) hIg64 (fun k j hk => ((hfg64 k j (fun h => hk (Or.elim h (fun h => (Or.inl h)) (fun h => (Or.elim h (fun h => (Or.inr (Or.inl h))) (fun h => (Or.inr (Or.inr h)))))))).trans ((hfg58 k j (fun h => hk (Or.elim h (fun h => (Or.inl h)) (fun h => (Or.elim h (fun h => (Or.inr (Or.inl h))) (fun h => (Or.inr (Or.inr h)))))))).trans (hfg52 k j (fun h => hk (Or.elim h (fun h => (Or.inl h)) (fun h => (Or.elim h (fun h => (Or.inr (Or.inl h))) (fun h => (Or.inr (Or.inr h)))))))))))
                · skip
                  refine mm_g 4 (pc1 := 128) (lo1 := [some (.ref 0), some (.int (Int32.ofInt a1)), some (.int (Int32.ofInt v37)), some (.int (Int32.ofInt v39)), some (.int (Int32.ofInt v48)), some (.int (Int32.ofInt v65)), some (.int (Int32.ofInt v48)), some (.int (Int32.ofInt v57)), some (.int (Int32.ofInt 1)), some (.int (Int32.ofInt v65))]) (st1 := []) (H1 := mz_mk g64 x) rfl ?_
                  refine mz_iincR (v := v48) (lo2 := [some (.ref 0), some (.int (Int32.ofInt a1)), some (.int (Int32.ofInt v37)), some (.int (Int32.ofInt v39)), some (.int (Int32.ofInt v48)), some (.int (Int32.ofInt v65)), some (.int (Int32.ofInt (v48 + 1))), some (.int (Int32.ofInt v57)), some (.int (Int32.ofInt 1)), some (.int (Int32.ofInt v65))]) rfl rfl rfl (Nat.le_of_ble_eq_true rfl) rfl ?_
                  refine mz_gt (tgt := 64) rfl rfl ?_
                  exact ih53 ((6 - (v48 + 1)).toNat) (by omega) v48 v65 (v48 + 1) (some (.int (Int32.ofInt v57))) (some (.int (Int32.ofInt 1))) (some (.int (Int32.ofInt v65))) g64 rfl (by omega) (by omega) (by omega) (by omega) (by omega) (by omega) (mz_nl_i _) (mz_nl_i _) (mz_nl_i _) hIg64 (fun k j hk => ((hfg64 k j (fun h => hk (Or.elim h (fun h => (Or.inl h)) (fun h => (Or.elim h (fun h => (Or.inr (Or.inl h))) (fun h => (Or.inr (Or.inr h)))))))).trans ((hfg58 k j (fun h => hk (Or.elim h (fun h => (Or.inl h)) (fun h => (Or.elim h (fun h => (Or.inr (Or.inl h))) (fun h => (Or.inr (Or.inr h)))))))).trans (hfg52 k j (fun h => hk (Or.elim h (fun h => (Or.inl h)) (fun h => (Or.elim h (fun h => (Or.inr (Or.inl h))) (fun h => (Or.inr (Or.inr h)))))))))))
          exact L55 _ (-1) 0 0 none none none g41 rfl (by decide) (by decide) (by decide) (by decide) (by decide) (by decide) mz_nl_n mz_nl_n mz_nl_n hIg41 (fun _ _ _ => rfl)
        · skip
          refine mm_g 4 (pc1 := 41) (lo1 := [some (.ref 0), some (.int (Int32.ofInt a1)), some (.int (Int32.ofInt v37)), some (.int (Int32.ofInt v39)), some (.int (Int32.ofInt v40)), none, none, none, none, none]) (st1 := [.int (Int32.ofInt v37), .int (Int32.ofInt v40), .ref 0, .int (Int32.ofInt v39)]) (H1 := mz_mk g41 x) rfl ?_
          refine mz_cv rfl mt_11_352 (by decide) (sc_0 _) rfl (Nat.le_of_ble_eq_true rfl) (by omega) (c_X11_looseStraps (by omega) hx hIg41 (by omega) (by omega) (by omega) (by omega) (fun v66 g67 hIg67 hfg67 l_v66 u_v66 => ⟨_, rfl, ?_⟩))
          show mm_W d mmX11_look 44 [some (.ref 0), some (.int (Int32.ofInt a1)), some (.int (Int32.ofInt v37)), some (.int (Int32.ofInt v39)), some (.int (Int32.ofInt v40)), none, none, none, none, none] [.int (Int32.ofInt v66), .int (Int32.ofInt v39)] (mz_mk g67 x) Q
          refine mz_cs rfl mt_11_358 (by decide) rfl (Nat.le_of_ble_eq_true rfl) (by omega) (c_J6_bitCount (by omega) hx hIg67 l_v66 u_v66 (fun v68 l_v68 u_v68 => ⟨_, rfl, ?_⟩))
          show mm_W d mmX11_look 47 [some (.ref 0), some (.int (Int32.ofInt a1)), some (.int (Int32.ofInt v37)), some (.int (Int32.ofInt v39)), some (.int (Int32.ofInt v40)), none, none, none, none, none] [.int (Int32.ofInt v68), .int (Int32.ofInt v39)] (mz_mk g67 x) Q
          refine mz_iadd_w rfl (fun v69 _ hwv69 => ?_)
          have l_v69 := hwv69.1
          have u_v69 := hwv69.2
          refine mm_g 1 (pc1 := 49) (lo1 := [some (.ref 0), some (.int (Int32.ofInt a1)), some (.int (Int32.ofInt v37)), some (.int (Int32.ofInt v69)), some (.int (Int32.ofInt v40)), none, none, none, none, none]) (st1 := []) (H1 := mz_mk g67 x) rfl ?_
          refine mz_iincR (v := v40) (lo2 := [some (.ref 0), some (.int (Int32.ofInt a1)), some (.int (Int32.ofInt v37)), some (.int (Int32.ofInt v69)), some (.int (Int32.ofInt (v40 + 1))), none, none, none, none, none]) rfl rfl rfl (Nat.le_of_ble_eq_true rfl) rfl ?_
          refine mz_gt (tgt := 27) rfl rfl ?_
          exact ih42 ((6 - (v40 + 1)).toNat) (by omega) v69 (v40 + 1) g67 rfl (by omega) (by omega) (by omega) (by omega) hIg67 (fun k j hk => ((hfg67 k j (fun h => hk (Or.elim h (fun h => (Or.inl h)) (fun h => (Or.elim h (fun h => (Or.inr (Or.inl h))) (fun h => (Or.inr (Or.inr h)))))))).trans (hfg41 k j (fun h => hk (Or.elim h (fun h => (Or.inl h)) (fun h => (Or.elim h (fun h => (Or.inr (Or.inl h))) (fun h => (Or.inr (Or.inr h))))))))))
      exact L44 _ 0 0 g38 rfl (by decide) (by decide) (by decide) (by decide) hIg38 (fun _ _ _ => rfl)
theorem t_X11_seasons {d : Nat} (hd : 14 ≤ d) {x : mm_X} (hx : mk_x x) {g : mz_G} (hI : mz_inv g) {a1 : Int} (l_a1 : (-2147483648) ≤ a1) (u_a1 : a1 ≤ 2147483647) {a2 : Int} (l_a2 : (-2147483648) ≤ a2) (u_a2 : a2 ≤ 2147483647) {a3 : Int} (l_a3 : (-2147483648) ≤ a3) (u_a3 : a3 ≤ 2147483647) {Q : (Option Value ⊕ Nat) → mm_H → Prop} (hQ : ∀ (r : Int) (g1 : mz_G), mz_inv g1 → mz_fr (fw_X11_seasons x a1 a2 a3) g g1 → (-2147483648) ≤ r → r ≤ 2147483647 → Q (.inl (some (.int (Int32.ofInt r)))) (mz_mk g1 x)) (hX0 : Q (.inr 0) (mz_mk g (mz_tx x))) (hX1 : Q (.inr 1) (mz_mk g (mz_tx x))) : mm_C d 163 [.ref 0, .int (Int32.ofInt a1), .int (Int32.ofInt a2), .int (Int32.ofInt a3)] (mz_mk g x) Q := by
  have kx := kn_x hx
  refine ⟨mmX11_seasons, [some (.ref 0), some (.int (Int32.ofInt a1)), some (.int (Int32.ofInt a2)), some (.int (Int32.ofInt a3)), none, none, none, none, none], rfl, rfl, ?_⟩
  refine mm_g 2 (pc1 := 2) (lo1 := [some (.ref 0), some (.int (Int32.ofInt a1)), some (.int (Int32.ofInt a2)), some (.int (Int32.ofInt a3)), none, none, none, none, none]) (st1 := [.int (Int32.ofInt a1), .ref 0]) (H1 := mz_mk g x) rfl ?_
  refine mz_cv rfl mt_11_231 (by decide) (sc_0 _) rfl (Nat.le_of_ble_eq_true rfl) (by omega) (c_X11_isTrunk (by omega) hx hI l_a1 u_a1 (fun v1 l_v1 u_v1 => ⟨_, rfl, ?_⟩))
  show mm_W d mmX11_seasons 5 [some (.ref 0), some (.int (Int32.ofInt a1)), some (.int (Int32.ofInt a2)), some (.int (Int32.ofInt a3)), none, none, none, none, none] [.int (Int32.ofInt v1)] (mz_mk g x) Q
  refine mz_csx rfl mt_11_183 rfl (Nat.le_of_ble_eq_true rfl) (by omega) rfl nh_X11_mustBe (t_X11_mustBe (by omega) hx hI l_v1 u_v1 (fun hp2 => ?_) hX0)
  show mm_W d mmX11_seasons 8 [some (.ref 0), some (.int (Int32.ofInt a1)), some (.int (Int32.ofInt a2)), some (.int (Int32.ofInt a3)), none, none, none, none, none] [] (mz_mk g x) Q
  refine mm_g 2 (pc1 := 10) (lo1 := [some (.ref 0), some (.int (Int32.ofInt a1)), some (.int (Int32.ofInt a2)), some (.int (Int32.ofInt a3)), none, none, none, none, none]) (st1 := [.int (Int32.ofInt 1), .int (Int32.ofInt a2)]) (H1 := mz_mk g x) rfl ?_
  refine mz_ic_lt (tgt := 32) rfl rfl (mz_rg l_a2 u_a2) ⟨by decide, by decide⟩ (fun c10_2 => ?_) (fun c10_2 => ?_)
  · skip
    refine mm_g 1 (pc1 := 33) (lo1 := [some (.ref 0), some (.int (Int32.ofInt a1)), some (.int (Int32.ofInt a2)), some (.int (Int32.ofInt a3)), none, none, none, none, none]) (st1 := [.int (Int32.ofInt 0)]) (H1 := mz_mk g x) rfl ?_
    refine mz_csx rfl mt_11_106 rfl (Nat.le_of_ble_eq_true rfl) (by omega) rfl nh_X11_mustFit (t_X11_mustFit (by omega) hx hI (by decide) (by decide) (fun hp3 => ?_) (fun _ => hX1))
    show mm_W d mmX11_seasons 36 [some (.ref 0), some (.int (Int32.ofInt a1)), some (.int (Int32.ofInt a2)), some (.int (Int32.ofInt a3)), none, none, none, none, none] [] (mz_mk g x) Q
    exfalso; omega
  · skip
    refine mm_g 2 (pc1 := 15) (lo1 := [some (.ref 0), some (.int (Int32.ofInt a1)), some (.int (Int32.ofInt a2)), some (.int (Int32.ofInt a3)), none, none, none, none, none]) (st1 := [.int (Int32.ofInt 5), .int (Int32.ofInt a2)]) (H1 := mz_mk g x) rfl ?_
    refine mz_ic_gt (tgt := 32) rfl rfl (mz_rg l_a2 u_a2) ⟨by decide, by decide⟩ (fun c15_3 => ?_) (fun c15_3 => ?_)
    · skip
      refine mm_g 1 (pc1 := 33) (lo1 := [some (.ref 0), some (.int (Int32.ofInt a1)), some (.int (Int32.ofInt a2)), some (.int (Int32.ofInt a3)), none, none, none, none, none]) (st1 := [.int (Int32.ofInt 0)]) (H1 := mz_mk g x) rfl ?_
      refine mz_csx rfl mt_11_106 rfl (Nat.le_of_ble_eq_true rfl) (by omega) rfl nh_X11_mustFit (t_X11_mustFit (by omega) hx hI (by decide) (by decide) (fun hp4 => ?_) (fun _ => hX1))
      show mm_W d mmX11_seasons 36 [some (.ref 0), some (.int (Int32.ofInt a1)), some (.int (Int32.ofInt a2)), some (.int (Int32.ofInt a3)), none, none, none, none, none] [] (mz_mk g x) Q
      exfalso; omega
    · skip
      refine mm_g 1 (pc1 := 19) (lo1 := [some (.ref 0), some (.int (Int32.ofInt a1)), some (.int (Int32.ofInt a2)), some (.int (Int32.ofInt a3)), none, none, none, none, none]) (st1 := [.int (Int32.ofInt a3)]) (H1 := mz_mk g x) rfl ?_
      refine mz_if_lt (tgt := 32) rfl rfl (mz_rg l_a3 u_a3) (fun c19_4 => ?_) (fun c19_4 => ?_)
      · skip
        refine mm_g 1 (pc1 := 33) (lo1 := [some (.ref 0), some (.int (Int32.ofInt a1)), some (.int (Int32.ofInt a2)), some (.int (Int32.ofInt a3)), none, none, none, none, none]) (st1 := [.int (Int32.ofInt 0)]) (H1 := mz_mk g x) rfl ?_
        refine mz_csx rfl mt_11_106 rfl (Nat.le_of_ble_eq_true rfl) (by omega) rfl nh_X11_mustFit (t_X11_mustFit (by omega) hx hI (by decide) (by decide) (fun hp5 => ?_) (fun _ => hX1))
        show mm_W d mmX11_seasons 36 [some (.ref 0), some (.int (Int32.ofInt a1)), some (.int (Int32.ofInt a2)), some (.int (Int32.ofInt a3)), none, none, none, none, none] [] (mz_mk g x) Q
        exfalso; omega
      · skip
        refine mm_g 1 (pc1 := 23) (lo1 := [some (.ref 0), some (.int (Int32.ofInt a1)), some (.int (Int32.ofInt a2)), some (.int (Int32.ofInt a3)), none, none, none, none, none]) (st1 := [.int (Int32.ofInt a3)]) (H1 := mz_mk g x) rfl ?_
        refine mz_bip rfl bip_10 ?_
        refine mz_ic_gt (tgt := 32) rfl rfl (mz_rg l_a3 u_a3) ⟨by decide, by decide⟩ (fun c25_5 => ?_) (fun c25_5 => ?_)
        · skip
          refine mm_g 1 (pc1 := 33) (lo1 := [some (.ref 0), some (.int (Int32.ofInt a1)), some (.int (Int32.ofInt a2)), some (.int (Int32.ofInt a3)), none, none, none, none, none]) (st1 := [.int (Int32.ofInt 0)]) (H1 := mz_mk g x) rfl ?_
          refine mz_csx rfl mt_11_106 rfl (Nat.le_of_ble_eq_true rfl) (by omega) rfl nh_X11_mustFit (t_X11_mustFit (by omega) hx hI (by decide) (by decide) (fun hp6 => ?_) (fun _ => hX1))
          show mm_W d mmX11_seasons 36 [some (.ref 0), some (.int (Int32.ofInt a1)), some (.int (Int32.ofInt a2)), some (.int (Int32.ofInt a3)), none, none, none, none, none] [] (mz_mk g x) Q
          exfalso; omega
        · skip
          refine mm_g 1 (pc1 := 29) (lo1 := [some (.ref 0), some (.int (Int32.ofInt a1)), some (.int (Int32.ofInt a2)), some (.int (Int32.ofInt a3)), none, none, none, none, none]) (st1 := [.int (Int32.ofInt 1)]) (H1 := mz_mk g x) rfl ?_
          refine mz_gt (tgt := 33) rfl rfl ?_
          refine mz_csx rfl mt_11_106 rfl (Nat.le_of_ble_eq_true rfl) (by omega) rfl nh_X11_mustFit (t_X11_mustFit (by omega) hx hI (by decide) (by decide) (fun hp7 => ?_) (fun _ => hX1))
          show mm_W d mmX11_seasons 36 [some (.ref 0), some (.int (Int32.ofInt a1)), some (.int (Int32.ofInt a2)), some (.int (Int32.ofInt a3)), none, none, none, none, none] [] (mz_mk g x) Q
          refine mm_g 4 (pc1 := 42) (lo1 := [some (.ref 0), some (.int (Int32.ofInt a1)), some (.int (Int32.ofInt a2)), some (.int (Int32.ofInt a3)), some (.int (Int32.ofInt 0)), some (.int (Int32.ofInt 0)), none, none, none]) (st1 := []) (H1 := mz_mk g x) rfl ?_
          have L16 : ∀ n15 : Nat, ∀ (v8 : Int) (v9 : Int) (o10 : Option Value) (o11 : Option Value) (o12 : Option Value) (g13 : mz_G), (32 - v9).toNat = n15 → (-2147483648) ≤ v8 → v8 ≤ 2147483647 → 0 ≤ v9 → v9 ≤ 32 → mz_nl o10 → mz_nl o11 → mz_nl o12 → mz_inv g13 → mz_fr (fl_X11_seasons_42 x a1 a2 a3) g g13 → mm_W d mmX11_seasons 42 [some (.ref 0), some (.int (Int32.ofInt a1)), some (.int (Int32.ofInt a2)), some (.int (Int32.ofInt a3)), some (.int (Int32.ofInt v8)), some (.int (Int32.ofInt v9)), o10, o11, o12] [] (mz_mk g13 x) Q := by
            intro n15
            induction n15 using Nat.strongRecOn with
            | ind n15 ih14 =>
            intro v8 v9 o10 o11 o12 g13 hmn15 l_v8 u_v8 l_v9 u_v9 h_o10 h_o11 h_o12 hIg13 hfg13
            refine mm_g 3 (pc1 := 46) (lo1 := [some (.ref 0), some (.int (Int32.ofInt a1)), some (.int (Int32.ofInt a2)), some (.int (Int32.ofInt a3)), some (.int (Int32.ofInt v8)), some (.int (Int32.ofInt v9)), o10, o11, o12]) (st1 := [.int (Int32.ofInt a2), .int (Int32.ofInt 1), .int (Int32.ofInt v9)]) (H1 := mz_mk g13 x) rfl ?_
            refine mz_ishl rfl (fun v17 e_v17 hwv17 => ?_)
            have b_v17 : 1 ≤ v17 ∧ v17 ≤ 32 := by rw [e_v17]; exact mz_shl_b (lx := 1) (hx := 1) (k := 5) (by decide) (by decide) (by omega) (by omega) (by omega) (by omega)
            have l_v17 := b_v17.1
            have u_v17 := b_v17.2
            refine mz_ic_ge (tgt := 187) rfl rfl (mz_rg l_v9 u_v9) (mz_rg l_v17 u_v17) (fun c47_17 => ?_) (fun c47_17 => ?_)
            · skip
              refine mm_g 1 (pc1 := 189) (lo1 := [some (.ref 0), some (.int (Int32.ofInt a1)), some (.int (Int32.ofInt a2)), some (.int (Int32.ofInt a3)), some (.int (Int32.ofInt v8)), some (.int (Int32.ofInt v9)), o10, o11, o12]) (st1 := [.int (Int32.ofInt v8)]) (H1 := mz_mk g13 x) rfl ?_
              exact mm_rt rfl rfl (hQ _ _ hIg13 (fun k j hk => (hfg13 k j (fun h => hk (Or.elim h (fun h => (Or.inl h)) (fun h => (Or.elim h (fun h => (Or.inr (Or.inl h))) (fun h => (Or.inr (Or.inr h))))))))) (by omega) (by omega))
            · skip
              refine mm_g 1 (pc1 := 51) (lo1 := [some (.ref 0), some (.int (Int32.ofInt a1)), some (.int (Int32.ofInt a2)), some (.int (Int32.ofInt a3)), some (.int (Int32.ofInt v8)), some (.int (Int32.ofInt v9)), o10, o11, o12]) (st1 := [.ref 0]) (H1 := mz_mk g13 x) rfl ?_
              refine mz_fgR (v := 122) rfl fd_11_65 (by decide) (sc_0 _) (rf_0_10 _ _ _) ?_
              refine mm_g 1 (pc1 := 55) (lo1 := [some (.ref 0), some (.int (Int32.ofInt a1)), some (.int (Int32.ofInt a2)), some (.int (Int32.ofInt a3)), some (.int (Int32.ofInt v8)), some (.int (Int32.ofInt v9)), o10, o11, o12]) (st1 := [.ref 0, .ref 122]) (H1 := mz_mk g13 x) rfl ?_
              refine mz_fgR (v := 86) rfl fd_11_37 (by decide) (sc_0 _) (rf_0_5 _ _ _) ?_
              refine mz_fgR (v := 87) rfl fd_11_158 (by decide) (sc_86 _) (rf_86_0 _ _ _) ?_
              refine mm_g 1 (pc1 := 62) (lo1 := [some (.ref 0), some (.int (Int32.ofInt a1)), some (.int (Int32.ofInt a2)), some (.int (Int32.ofInt a3)), some (.int (Int32.ofInt v8)), some (.int (Int32.ofInt v9)), o10, o11, o12]) (st1 := [.int (Int32.ofInt a1), .ref 87, .ref 122]) (H1 := mz_mk g13 x) rfl ?_
              refine mz_cv rfl mt_11_192 (by decide) (sc_87 _) rfl (Nat.le_of_ble_eq_true rfl) (by omega) (c_X9_get (by omega) hx hIg13 kp_tks_87 l_a1 u_a1 (fun u18 k_u18 hp19 => ⟨_, rfl, ?_⟩))
              show mm_W d mmX11_seasons 65 [some (.ref 0), some (.int (Int32.ofInt a1)), some (.int (Int32.ofInt a2)), some (.int (Int32.ofInt a3)), some (.int (Int32.ofInt v8)), some (.int (Int32.ofInt v9)), o10, o11, o12] [.ref u18, .ref 122] (mz_mk g13 x) Q
              refine mz_cv rfl mt_11_297 (by decide) (sc_122 _) rfl (Nat.le_of_ble_eq_true rfl) (by omega) (c_X8_becomeAs (by omega) hx hIg13 kp_trunk_122 k_u18 (fun g20 hIg20 hfg20 => ⟨_, rfl, ?_⟩))
              show mm_W d mmX11_seasons 68 [some (.ref 0), some (.int (Int32.ofInt a1)), some (.int (Int32.ofInt a2)), some (.int (Int32.ofInt a3)), some (.int (Int32.ofInt v8)), some (.int (Int32.ofInt v9)), o10, o11, o12] [] (mz_mk g20 x) Q
              refine mm_g 4 (pc1 := 74) (lo1 := [some (.ref 0), some (.int (Int32.ofInt a1)), some (.int (Int32.ofInt a2)), some (.int (Int32.ofInt a3)), some (.int (Int32.ofInt v8)), some (.int (Int32.ofInt v9)), some (.int (Int32.ofInt 1)), some (.int (Int32.ofInt 0)), o12]) (st1 := []) (H1 := mz_mk g20 x) rfl ?_
              have L27 : ∀ n26 : Nat, ∀ (v21 : Int) (v22 : Int) (o23 : Option Value) (g24 : mz_G), (5 - v22).toNat = n26 → (-2147483648) ≤ v21 → v21 ≤ 2147483647 → 0 ≤ v22 → v22 ≤ 5 → mz_nl o23 → mz_inv g24 → mz_fr (fl_X11_seasons_74 x a1 a2 a3) g20 g24 → mm_W d mmX11_seasons 74 [some (.ref 0), some (.int (Int32.ofInt a1)), some (.int (Int32.ofInt a2)), some (.int (Int32.ofInt a3)), some (.int (Int32.ofInt v8)), some (.int (Int32.ofInt v9)), some (.int (Int32.ofInt v21)), some (.int (Int32.ofInt v22)), o23] [] (mz_mk g24 x) Q := by
                intro n26
                induction n26 using Nat.strongRecOn with
                | ind n26 ih25 =>
                intro v21 v22 o23 g24 hmn26 l_v21 u_v21 l_v22 u_v22 h_o23 hIg24 hfg24
                refine mm_g 2 (pc1 := 77) (lo1 := [some (.ref 0), some (.int (Int32.ofInt a1)), some (.int (Int32.ofInt a2)), some (.int (Int32.ofInt a3)), some (.int (Int32.ofInt v8)), some (.int (Int32.ofInt v9)), some (.int (Int32.ofInt v21)), some (.int (Int32.ofInt v22)), o23]) (st1 := [.int (Int32.ofInt a2), .int (Int32.ofInt v22)]) (H1 := mz_mk g24 x) rfl ?_
                refine mz_ic_ge (tgt := 156) rfl rfl (mz_rg l_v22 u_v22) (mz_rg l_a2 u_a2) (fun c77_27 => ?_) (fun c77_27 => ?_)
                · skip
                  refine mm_g 2 (pc1 := 159) (lo1 := [some (.ref 0), some (.int (Int32.ofInt a1)), some (.int (Int32.ofInt a2)), some (.int (Int32.ofInt a3)), some (.int (Int32.ofInt v8)), some (.int (Int32.ofInt v9)), some (.int (Int32.ofInt v21)), some (.int (Int32.ofInt v22)), o23]) (st1 := [.ref 0, .int (Int32.ofInt v8)]) (H1 := mz_mk g24 x) rfl ?_
                  refine mz_fgR (v := x.1) rfl fd_11_16 (by decide) (sc_0 _) rfl ?_
                  refine mm_g 1 (pc1 := 163) (lo1 := [some (.ref 0), some (.int (Int32.ofInt a1)), some (.int (Int32.ofInt a2)), some (.int (Int32.ofInt a3)), some (.int (Int32.ofInt v8)), some (.int (Int32.ofInt v9)), some (.int (Int32.ofInt v21)), some (.int (Int32.ofInt v22)), o23]) (st1 := [.ref 0, .ref x.1, .int (Int32.ofInt v8)]) (H1 := mz_mk g24 x) rfl ?_
                  refine mz_fgR (v := 122) rfl fd_11_65 (by decide) (sc_0 _) (rf_0_10 _ _ _) ?_
                  refine mz_cv rfl mt_11_259 (by decide) (kc_load (kx_1 hx) _) rfl (Nat.le_of_ble_eq_true rfl) (by omega) (c_X1_isFull (by omega) hx hIg24 (kx_1 hx) kp_trunk_122 (fun v28 l_v28 u_v28 => ⟨_, rfl, ?_⟩))
                  show mm_W d mmX11_seasons 169 [some (.ref 0), some (.int (Int32.ofInt a1)), some (.int (Int32.ofInt a2)), some (.int (Int32.ofInt a3)), some (.int (Int32.ofInt v8)), some (.int (Int32.ofInt v9)), some (.int (Int32.ofInt v21)), some (.int (Int32.ofInt v22)), o23] [.int (Int32.ofInt v28), .int (Int32.ofInt v8)] (mz_mk g24 x) Q
                  refine mz_if_eq (tgt := 177) rfl rfl (mz_rg l_v28 u_v28) (fun c169_28 => ?_) (fun c169_28 => ?_)
                  · skip
                    refine mm_g 1 (pc1 := 178) (lo1 := [some (.ref 0), some (.int (Int32.ofInt a1)), some (.int (Int32.ofInt a2)), some (.int (Int32.ofInt a3)), some (.int (Int32.ofInt v8)), some (.int (Int32.ofInt v9)), some (.int (Int32.ofInt v21)), some (.int (Int32.ofInt v22)), o23]) (st1 := [.int (Int32.ofInt 0), .int (Int32.ofInt v8)]) (H1 := mz_mk g24 x) rfl ?_
                    refine mz_iadd rfl ?_
                    refine mm_g 1 (pc1 := 181) (lo1 := [some (.ref 0), some (.int (Int32.ofInt a1)), some (.int (Int32.ofInt a2)), some (.int (Int32.ofInt a3)), some (.int (Int32.ofInt (v8 + 0))), some (.int (Int32.ofInt v9)), some (.int (Int32.ofInt v21)), some (.int (Int32.ofInt v22)), o23]) (st1 := []) (H1 := mz_mk g24 x) rfl ?_
                    refine mz_iincR (v := v9) (lo2 := [some (.ref 0), some (.int (Int32.ofInt a1)), some (.int (Int32.ofInt a2)), some (.int (Int32.ofInt a3)), some (.int (Int32.ofInt (v8 + 0))), some (.int (Int32.ofInt (v9 + 1))), some (.int (Int32.ofInt v21)), some (.int (Int32.ofInt v22)), o23]) rfl rfl rfl (Nat.le_of_ble_eq_true rfl) rfl ?_
                    refine mz_gt (tgt := 42) rfl rfl ?_
                    exact ih14 ((32 - (v9 + 1)).toNat) (by omega) (v8 + 0) (v9 + 1) (some (.int (Int32.ofInt v21))) (some (.int (Int32.ofInt v22))) o23 g24 rfl (by omega) (by omega) (by omega) (by omega) (mz_nl_i _) (mz_nl_i _) h_o23 hIg24 (fun k j hk => ((hfg24 k j (fun h => hk (Or.elim h (fun h => (Or.inl h)) (fun h => (Or.elim h (fun h => (Or.inr (Or.inl h))) (fun h => (Or.inr (Or.inr h)))))))).trans ((hfg20 k j (fun h => hk (Or.inl h))).trans (hfg13 k j (fun h => hk (Or.elim h (fun h => (Or.inl h)) (fun h => (Or.elim h (fun h => (Or.inr (Or.inl h))) (fun h => (Or.inr (Or.inr h)))))))))))
                  · skip
                    refine mm_g 1 (pc1 := 174) (lo1 := [some (.ref 0), some (.int (Int32.ofInt a1)), some (.int (Int32.ofInt a2)), some (.int (Int32.ofInt a3)), some (.int (Int32.ofInt v8)), some (.int (Int32.ofInt v9)), some (.int (Int32.ofInt v21)), some (.int (Int32.ofInt v22)), o23]) (st1 := [.int (Int32.ofInt v21), .int (Int32.ofInt v8)]) (H1 := mz_mk g24 x) rfl ?_
                    refine mz_gt (tgt := 178) rfl rfl ?_
                    refine mz_iadd_w rfl (fun v29 _ hwv29 => ?_)
                    have l_v29 := hwv29.1
                    have u_v29 := hwv29.2
                    refine mm_g 1 (pc1 := 181) (lo1 := [some (.ref 0), some (.int (Int32.ofInt a1)), some (.int (Int32.ofInt a2)), some (.int (Int32.ofInt a3)), some (.int (Int32.ofInt v29)), some (.int (Int32.ofInt v9)), some (.int (Int32.ofInt v21)), some (.int (Int32.ofInt v22)), o23]) (st1 := []) (H1 := mz_mk g24 x) rfl ?_
                    refine mz_iincR (v := v9) (lo2 := [some (.ref 0), some (.int (Int32.ofInt a1)), some (.int (Int32.ofInt a2)), some (.int (Int32.ofInt a3)), some (.int (Int32.ofInt v29)), some (.int (Int32.ofInt (v9 + 1))), some (.int (Int32.ofInt v21)), some (.int (Int32.ofInt v22)), o23]) rfl rfl rfl (Nat.le_of_ble_eq_true rfl) rfl ?_
                    refine mz_gt (tgt := 42) rfl rfl ?_
                    exact ih14 ((32 - (v9 + 1)).toNat) (by omega) v29 (v9 + 1) (some (.int (Int32.ofInt v21))) (some (.int (Int32.ofInt v22))) o23 g24 rfl (by omega) (by omega) (by omega) (by omega) (mz_nl_i _) (mz_nl_i _) h_o23 hIg24 (fun k j hk => ((hfg24 k j (fun h => hk (Or.elim h (fun h => (Or.inl h)) (fun h => (Or.elim h (fun h => (Or.inr (Or.inl h))) (fun h => (Or.inr (Or.inr h)))))))).trans ((hfg20 k j (fun h => hk (Or.inl h))).trans (hfg13 k j (fun h => hk (Or.elim h (fun h => (Or.inl h)) (fun h => (Or.elim h (fun h => (Or.inr (Or.inl h))) (fun h => (Or.inr (Or.inr h)))))))))))
                · skip
                  refine mm_g 3 (pc1 := 85) (lo1 := [some (.ref 0), some (.int (Int32.ofInt a1)), some (.int (Int32.ofInt a2)), some (.int (Int32.ofInt a3)), some (.int (Int32.ofInt v8)), some (.int (Int32.ofInt v9)), some (.int (Int32.ofInt v21)), some (.int (Int32.ofInt v22)), o23]) (st1 := [.int (Int32.ofInt v22), .int (Int32.ofInt 1), .int (Int32.ofInt v9)]) (H1 := mz_mk g24 x) rfl ?_
                  refine mz_ishl rfl (fun v30 e_v30 hwv30 => ?_)
                  have b_v30 : 1 ≤ v30 ∧ v30 ≤ 16 := by rw [e_v30]; exact mz_shl_b (lx := 1) (hx := 1) (k := 4) (by decide) (by decide) (by omega) (by omega) (by omega) (by omega)
                  have l_v30 := b_v30.1
                  have u_v30 := b_v30.2
                  refine mz_iand rfl (fun v31 e_v31 hwv31 => ?_)
                  have b_v31 : 0 ≤ v31 ∧ v31 ≤ 16 := by rw [e_v31]; exact mz_and_r (by omega) (by omega) (mz_rg l_v9 u_v9)
                  have l_v31 := b_v31.1
                  have u_v31 := b_v31.2
                  have w_v31 : v31 ≤ v30 := by rw [e_v31]; exact (mz_and_r (hi := v30) (by omega) (Int.le_refl _) (mz_rg l_v9 u_v9) (by omega)).2
                  refine mz_if_eq (tgt := 94) rfl rfl (mz_rg l_v31 u_v31) (fun c87_31 => ?_) (fun c87_31 => ?_)
                  · skip
                    refine mm_g 3 (pc1 := 98) (lo1 := [some (.ref 0), some (.int (Int32.ofInt a1)), some (.int (Int32.ofInt a2)), some (.int (Int32.ofInt a3)), some (.int (Int32.ofInt v8)), some (.int (Int32.ofInt v9)), some (.int (Int32.ofInt v21)), some (.int (Int32.ofInt v22)), some (.int (Int32.ofInt 0))]) (st1 := [.ref 0]) (H1 := mz_mk g24 x) rfl ?_
                    refine mz_fgR (v := x.1) rfl fd_11_16 (by decide) (sc_0 _) rfl ?_
                    refine mm_g 1 (pc1 := 102) (lo1 := [some (.ref 0), some (.int (Int32.ofInt a1)), some (.int (Int32.ofInt a2)), some (.int (Int32.ofInt a3)), some (.int (Int32.ofInt v8)), some (.int (Int32.ofInt v9)), some (.int (Int32.ofInt v21)), some (.int (Int32.ofInt v22)), some (.int (Int32.ofInt 0))]) (st1 := [.ref 0, .ref x.1]) (H1 := mz_mk g24 x) rfl ?_
                    refine mz_fgR (v := 122) rfl fd_11_65 (by decide) (sc_0 _) (rf_0_10 _ _ _) ?_
                    refine mm_g 1 (pc1 := 106) (lo1 := [some (.ref 0), some (.int (Int32.ofInt a1)), some (.int (Int32.ofInt a2)), some (.int (Int32.ofInt a3)), some (.int (Int32.ofInt v8)), some (.int (Int32.ofInt v9)), some (.int (Int32.ofInt v21)), some (.int (Int32.ofInt v22)), some (.int (Int32.ofInt 0))]) (st1 := [.ref 0, .ref 122, .ref x.1]) (H1 := mz_mk g24 x) rfl ?_
                    refine mz_fgR (v := 86) rfl fd_11_37 (by decide) (sc_0 _) (rf_0_5 _ _ _) ?_
                    refine mz_fgR (v := 87) rfl fd_11_158 (by decide) (sc_86 _) (rf_86_0 _ _ _) ?_
                    refine mz_gI rfl fd_11_161 (by decide) (sc_87 _) hIg24 bd_87_3 (fun v32 e_v32 l_v32 u_v32 => ?_)
                    refine mm_g 1 (pc1 := 117) (lo1 := [some (.ref 0), some (.int (Int32.ofInt a1)), some (.int (Int32.ofInt a2)), some (.int (Int32.ofInt a3)), some (.int (Int32.ofInt v8)), some (.int (Int32.ofInt v9)), some (.int (Int32.ofInt v21)), some (.int (Int32.ofInt v22)), some (.int (Int32.ofInt 0))]) (st1 := [.int (Int32.ofInt v22), .int (Int32.ofInt v32), .ref 122, .ref x.1]) (H1 := mz_mk g24 x) rfl ?_
                    refine mz_iadd_w rfl (fun v33 _ hwv33 => ?_)
                    have l_v33 := hwv33.1
                    have u_v33 := hwv33.2
                    refine mm_g 1 (pc1 := 120) (lo1 := [some (.ref 0), some (.int (Int32.ofInt a1)), some (.int (Int32.ofInt a2)), some (.int (Int32.ofInt a3)), some (.int (Int32.ofInt v8)), some (.int (Int32.ofInt v9)), some (.int (Int32.ofInt v21)), some (.int (Int32.ofInt v22)), some (.int (Int32.ofInt 0))]) (st1 := [.int (Int32.ofInt 0), .int (Int32.ofInt v33), .ref 122, .ref x.1]) (H1 := mz_mk g24 x) rfl ?_
                    refine mz_if_eq (tgt := 128) rfl rfl ⟨by decide, by decide⟩ (fun c120_33 => ?_) (fun c120_33 => ?_)
                    · skip
                      refine mm_g 1 (pc1 := 129) (lo1 := [some (.ref 0), some (.int (Int32.ofInt a1)), some (.int (Int32.ofInt a2)), some (.int (Int32.ofInt a3)), some (.int (Int32.ofInt v8)), some (.int (Int32.ofInt v9)), some (.int (Int32.ofInt v21)), some (.int (Int32.ofInt v22)), some (.int (Int32.ofInt 0))]) (st1 := [.int (Int32.ofInt 0), .int (Int32.ofInt v33), .ref 122, .ref x.1]) (H1 := mz_mk g24 x) rfl ?_
                      refine mz_cv rfl mt_11_312 (by decide) (kc_load (kx_1 hx) _) rfl (Nat.le_of_ble_eq_true rfl) (by omega) (c_X1_grow (by omega) hx hIg24 (kx_1 hx) kp_trunk_122 l_v33 u_v33 (by decide) (by decide) (fun g34 hIg34 hfg34 => ⟨_, rfl, ?_⟩))
                      show mm_W d mmX11_seasons 132 [some (.ref 0), some (.int (Int32.ofInt a1)), some (.int (Int32.ofInt a2)), some (.int (Int32.ofInt a3)), some (.int (Int32.ofInt v8)), some (.int (Int32.ofInt v9)), some (.int (Int32.ofInt v21)), some (.int (Int32.ofInt v22)), some (.int (Int32.ofInt 0))] [] (mz_mk g34 x) Q
                      refine mm_g 2 (pc1 := 136) (lo1 := [some (.ref 0), some (.int (Int32.ofInt a1)), some (.int (Int32.ofInt a2)), some (.int (Int32.ofInt a3)), some (.int (Int32.ofInt v8)), some (.int (Int32.ofInt v9)), some (.int (Int32.ofInt v21)), some (.int (Int32.ofInt v22)), some (.int (Int32.ofInt 0))]) (st1 := [.int (Int32.ofInt 0), .int (Int32.ofInt v21)]) (H1 := mz_mk g34 x) rfl ?_
                      refine mz_if_eq (tgt := 143) rfl rfl ⟨by decide, by decide⟩ (fun c136_34 => ?_) (fun c136_34 => ?_)
                      · skip
                        refine mz_bip rfl bip_10 ?_
                        refine mm_g 1 (pc1 := 146) (lo1 := [some (.ref 0), some (.int (Int32.ofInt a1)), some (.int (Int32.ofInt a2)), some (.int (Int32.ofInt a3)), some (.int (Int32.ofInt v8)), some (.int (Int32.ofInt v9)), some (.int (Int32.ofInt v21)), some (.int (Int32.ofInt v22)), some (.int (Int32.ofInt 0))]) (st1 := [.int (Int32.ofInt a3), .int (Int32.ofInt 10), .int (Int32.ofInt v21)]) (H1 := mz_mk g34 x) rfl ?_
                        refine mz_isub rfl ?_
                        refine mz_imul_w rfl (fun v35 _ hwv35 => ?_)
                        have l_v35 := hwv35.1
                        have u_v35 := hwv35.2
                        refine mm_g 1 (pc1 := 150) (lo1 := [some (.ref 0), some (.int (Int32.ofInt a1)), some (.int (Int32.ofInt a2)), some (.int (Int32.ofInt a3)), some (.int (Int32.ofInt v8)), some (.int (Int32.ofInt v9)), some (.int (Int32.ofInt v35)), some (.int (Int32.ofInt v22)), some (.int (Int32.ofInt 0))]) (st1 := []) (H1 := mz_mk g34 x) rfl ?_
                        refine mz_iincR (v := v22) (lo2 := [some (.ref 0), some (.int (Int32.ofInt a1)), some (.int (Int32.ofInt a2)), some (.int (Int32.ofInt a3)), some (.int (Int32.ofInt v8)), some (.int (Int32.ofInt v9)), some (.int (Int32.ofInt v35)), some (.int (Int32.ofInt (v22 + 1))), some (.int (Int32.ofInt 0))]) rfl rfl rfl (Nat.le_of_ble_eq_true rfl) rfl ?_
                        refine mz_gt (tgt := 74) rfl rfl ?_
                        exact ih25 ((5 - (v22 + 1)).toNat) (by omega) v35 (v22 + 1) (some (.int (Int32.ofInt 0))) g34 rfl (by omega) (by omega) (by omega) (by omega) (mz_nl_i _) hIg34 (fun k j hk => ((hfg34 k j (fun h => hk (Or.elim h (fun h => (Or.inl h)) (fun h => (Or.elim h (fun h => (Or.inr (Or.inl h))) (fun h => (Or.inr (Or.inr h)))))))).trans (hfg24 k j (fun h => hk (Or.elim h (fun h => (Or.inl h)) (fun h => (Or.elim h (fun h => (Or.inr (Or.inl h))) (fun h => (Or.inr (Or.inr h))))))))))
                      · exfalso; omega
                    · exfalso; omega
                  · skip
                    refine mm_g 1 (pc1 := 91) (lo1 := [some (.ref 0), some (.int (Int32.ofInt a1)), some (.int (Int32.ofInt a2)), some (.int (Int32.ofInt a3)), some (.int (Int32.ofInt v8)), some (.int (Int32.ofInt v9)), some (.int (Int32.ofInt v21)), some (.int (Int32.ofInt v22)), o23]) (st1 := [.int (Int32.ofInt 1)]) (H1 := mz_mk g24 x) rfl ?_
                    refine mz_gt (tgt := 95) rfl rfl ?_
                    refine mm_g 2 (pc1 := 98) (lo1 := [some (.ref 0), some (.int (Int32.ofInt a1)), some (.int (Int32.ofInt a2)), some (.int (Int32.ofInt a3)), some (.int (Int32.ofInt v8)), some (.int (Int32.ofInt v9)), some (.int (Int32.ofInt v21)), some (.int (Int32.ofInt v22)), some (.int (Int32.ofInt 1))]) (st1 := [.ref 0]) (H1 := mz_mk g24 x) rfl ?_
                    refine mz_fgR (v := x.1) rfl fd_11_16 (by decide) (sc_0 _) rfl ?_
                    refine mm_g 1 (pc1 := 102) (lo1 := [some (.ref 0), some (.int (Int32.ofInt a1)), some (.int (Int32.ofInt a2)), some (.int (Int32.ofInt a3)), some (.int (Int32.ofInt v8)), some (.int (Int32.ofInt v9)), some (.int (Int32.ofInt v21)), some (.int (Int32.ofInt v22)), some (.int (Int32.ofInt 1))]) (st1 := [.ref 0, .ref x.1]) (H1 := mz_mk g24 x) rfl ?_
                    refine mz_fgR (v := 122) rfl fd_11_65 (by decide) (sc_0 _) (rf_0_10 _ _ _) ?_
                    refine mm_g 1 (pc1 := 106) (lo1 := [some (.ref 0), some (.int (Int32.ofInt a1)), some (.int (Int32.ofInt a2)), some (.int (Int32.ofInt a3)), some (.int (Int32.ofInt v8)), some (.int (Int32.ofInt v9)), some (.int (Int32.ofInt v21)), some (.int (Int32.ofInt v22)), some (.int (Int32.ofInt 1))]) (st1 := [.ref 0, .ref 122, .ref x.1]) (H1 := mz_mk g24 x) rfl ?_
                    refine mz_fgR (v := 86) rfl fd_11_37 (by decide) (sc_0 _) (rf_0_5 _ _ _) ?_
                    refine mz_fgR (v := 87) rfl fd_11_158 (by decide) (sc_86 _) (rf_86_0 _ _ _) ?_
                    refine mz_gI rfl fd_11_161 (by decide) (sc_87 _) hIg24 bd_87_3 (fun v36 e_v36 l_v36 u_v36 => ?_)
                    refine mm_g 1 (pc1 := 117) (lo1 := [some (.ref 0), some (.int (Int32.ofInt a1)), some (.int (Int32.ofInt a2)), some (.int (Int32.ofInt a3)), some (.int (Int32.ofInt v8)), some (.int (Int32.ofInt v9)), some (.int (Int32.ofInt v21)), some (.int (Int32.ofInt v22)), some (.int (Int32.ofInt 1))]) (st1 := [.int (Int32.ofInt v22), .int (Int32.ofInt v36), .ref 122, .ref x.1]) (H1 := mz_mk g24 x) rfl ?_
                    refine mz_iadd_w rfl (fun v37 _ hwv37 => ?_)
                    have l_v37 := hwv37.1
                    have u_v37 := hwv37.2
                    refine mm_g 1 (pc1 := 120) (lo1 := [some (.ref 0), some (.int (Int32.ofInt a1)), some (.int (Int32.ofInt a2)), some (.int (Int32.ofInt a3)), some (.int (Int32.ofInt v8)), some (.int (Int32.ofInt v9)), some (.int (Int32.ofInt v21)), some (.int (Int32.ofInt v22)), some (.int (Int32.ofInt 1))]) (st1 := [.int (Int32.ofInt 1), .int (Int32.ofInt v37), .ref 122, .ref x.1]) (H1 := mz_mk g24 x) rfl ?_
                    refine mz_if_eq (tgt := 128) rfl rfl ⟨by decide, by decide⟩ (fun c120_37 => ?_) (fun c120_37 => ?_)
                    · exfalso; omega
                    · skip
                      refine mz_bip rfl bip_9 ?_
                      refine mz_gt (tgt := 129) rfl rfl ?_
                      refine mz_cv rfl mt_11_312 (by decide) (kc_load (kx_1 hx) _) rfl (Nat.le_of_ble_eq_true rfl) (by omega) (c_X1_grow (by omega) hx hIg24 (kx_1 hx) kp_trunk_122 l_v37 u_v37 (by decide) (by decide) (fun g38 hIg38 hfg38 => ⟨_, rfl, ?_⟩))
                      show mm_W d mmX11_seasons 132 [some (.ref 0), some (.int (Int32.ofInt a1)), some (.int (Int32.ofInt a2)), some (.int (Int32.ofInt a3)), some (.int (Int32.ofInt v8)), some (.int (Int32.ofInt v9)), some (.int (Int32.ofInt v21)), some (.int (Int32.ofInt v22)), some (.int (Int32.ofInt 1))] [] (mz_mk g38 x) Q
                      refine mm_g 2 (pc1 := 136) (lo1 := [some (.ref 0), some (.int (Int32.ofInt a1)), some (.int (Int32.ofInt a2)), some (.int (Int32.ofInt a3)), some (.int (Int32.ofInt v8)), some (.int (Int32.ofInt v9)), some (.int (Int32.ofInt v21)), some (.int (Int32.ofInt v22)), some (.int (Int32.ofInt 1))]) (st1 := [.int (Int32.ofInt 1), .int (Int32.ofInt v21)]) (H1 := mz_mk g38 x) rfl ?_
                      refine mz_if_eq (tgt := 143) rfl rfl ⟨by decide, by decide⟩ (fun c136_38 => ?_) (fun c136_38 => ?_)
                      · exfalso; omega
                      · skip
                        refine mm_g 1 (pc1 := 140) (lo1 := [some (.ref 0), some (.int (Int32.ofInt a1)), some (.int (Int32.ofInt a2)), some (.int (Int32.ofInt a3)), some (.int (Int32.ofInt v8)), some (.int (Int32.ofInt v9)), some (.int (Int32.ofInt v21)), some (.int (Int32.ofInt v22)), some (.int (Int32.ofInt 1))]) (st1 := [.int (Int32.ofInt a3), .int (Int32.ofInt v21)]) (H1 := mz_mk g38 x) rfl ?_
                        refine mz_gt (tgt := 147) rfl rfl ?_
                        refine mz_imul_w rfl (fun v39 _ hwv39 => ?_)
                        have l_v39 := hwv39.1
                        have u_v39 := hwv39.2
                        refine mm_g 1 (pc1 := 150) (lo1 := [some (.ref 0), some (.int (Int32.ofInt a1)), some (.int (Int32.ofInt a2)), some (.int (Int32.ofInt a3)), some (.int (Int32.ofInt v8)), some (.int (Int32.ofInt v9)), some (.int (Int32.ofInt v39)), some (.int (Int32.ofInt v22)), some (.int (Int32.ofInt 1))]) (st1 := []) (H1 := mz_mk g38 x) rfl ?_
                        refine mz_iincR (v := v22) (lo2 := [some (.ref 0), some (.int (Int32.ofInt a1)), some (.int (Int32.ofInt a2)), some (.int (Int32.ofInt a3)), some (.int (Int32.ofInt v8)), some (.int (Int32.ofInt v9)), some (.int (Int32.ofInt v39)), some (.int (Int32.ofInt (v22 + 1))), some (.int (Int32.ofInt 1))]) rfl rfl rfl (Nat.le_of_ble_eq_true rfl) rfl ?_
                        refine mz_gt (tgt := 74) rfl rfl ?_
                        exact ih25 ((5 - (v22 + 1)).toNat) (by omega) v39 (v22 + 1) (some (.int (Int32.ofInt 1))) g38 rfl (by omega) (by omega) (by omega) (by omega) (mz_nl_i _) hIg38 (fun k j hk => ((hfg38 k j (fun h => hk (Or.elim h (fun h => (Or.inl h)) (fun h => (Or.elim h (fun h => (Or.inr (Or.inl h))) (fun h => (Or.inr (Or.inr h)))))))).trans (hfg24 k j (fun h => hk (Or.elim h (fun h => (Or.inl h)) (fun h => (Or.elim h (fun h => (Or.inr (Or.inl h))) (fun h => (Or.inr (Or.inr h))))))))))
              exact L27 _ 1 0 o12 g20 rfl (by decide) (by decide) (by decide) (by decide) h_o12 hIg20 (fun _ _ _ => rfl)
          exact L16 _ 0 0 none none none g rfl (by decide) (by decide) (by decide) (by decide) mz_nl_n mz_nl_n mz_nl_n hI (fun _ _ _ => rfl)
theorem t_X11_game {d : Nat} (hd : 17 ≤ d) {x : mm_X} (hx : mk_x x) {g : mz_G} (hI : mz_inv g) {a1 : Int} (l_a1 : (-2147483648) ≤ a1) (u_a1 : a1 ≤ 2147483647) {a2 : Int} (l_a2 : (-2147483648) ≤ a2) (u_a2 : a2 ≤ 2147483647) {a3 : Int} (l_a3 : (-2147483648) ≤ a3) (u_a3 : a3 ≤ 2147483647) {Q : (Option Value ⊕ Nat) → mm_H → Prop} (hQ : ∀ (r : Int) (g1 : mz_G), mz_inv g1 → mz_fr (fw_X11_game x a1 a2 a3) g g1 → (-2147483648) ≤ r → r ≤ 2147483647 → Q (.inl (some (.int (Int32.ofInt r)))) (mz_mk g1 x)) (hX0 : Q (.inr 0) (mz_mk g (mz_tx x))) (hX1 : Q (.inr 1) (mz_mk g (mz_tx x))) : mm_C d 164 [.ref 0, .int (Int32.ofInt a1), .int (Int32.ofInt a2), .int (Int32.ofInt a3)] (mz_mk g x) Q := by
  have kx := kn_x hx
  refine ⟨mmX11_game, [some (.ref 0), some (.int (Int32.ofInt a1)), some (.int (Int32.ofInt a2)), some (.int (Int32.ofInt a3)), none, none, none, none], rfl, rfl, ?_⟩
  refine mm_g 2 (pc1 := 2) (lo1 := [some (.ref 0), some (.int (Int32.ofInt a1)), some (.int (Int32.ofInt a2)), some (.int (Int32.ofInt a3)), none, none, none, none]) (st1 := [.int (Int32.ofInt a1), .ref 0]) (H1 := mz_mk g x) rfl ?_
  refine mz_cv rfl mt_11_231 (by decide) (sc_0 _) rfl (Nat.le_of_ble_eq_true rfl) (by omega) (c_X11_isTrunk (by omega) hx hI l_a1 u_a1 (fun v1 l_v1 u_v1 => ⟨_, rfl, ?_⟩))
  show mm_W d mmX11_game 5 [some (.ref 0), some (.int (Int32.ofInt a1)), some (.int (Int32.ofInt a2)), some (.int (Int32.ofInt a3)), none, none, none, none] [.int (Int32.ofInt v1)] (mz_mk g x) Q
  refine mz_if_eq (tgt := 29) rfl rfl (mz_rg l_v1 u_v1) (fun c5_1 => ?_) (fun c5_1 => ?_)
  · skip
    refine mm_g 1 (pc1 := 30) (lo1 := [some (.ref 0), some (.int (Int32.ofInt a1)), some (.int (Int32.ofInt a2)), some (.int (Int32.ofInt a3)), none, none, none, none]) (st1 := [.int (Int32.ofInt 0)]) (H1 := mz_mk g x) rfl ?_
    refine mz_csx rfl mt_11_183 rfl (Nat.le_of_ble_eq_true rfl) (by omega) rfl nh_X11_mustBe (t_X11_mustBe (by omega) hx hI (by decide) (by decide) (fun hp2 => ?_) hX0)
    show mm_W d mmX11_game 33 [some (.ref 0), some (.int (Int32.ofInt a1)), some (.int (Int32.ofInt a2)), some (.int (Int32.ofInt a3)), none, none, none, none] [] (mz_mk g x) Q
    exfalso; omega
  · skip
    refine mm_g 2 (pc1 := 10) (lo1 := [some (.ref 0), some (.int (Int32.ofInt a1)), some (.int (Int32.ofInt a2)), some (.int (Int32.ofInt a3)), none, none, none, none]) (st1 := [.int (Int32.ofInt a2), .ref 0]) (H1 := mz_mk g x) rfl ?_
    refine mz_cv rfl mt_11_231 (by decide) (sc_0 _) rfl (Nat.le_of_ble_eq_true rfl) (by omega) (c_X11_isTrunk (by omega) hx hI l_a2 u_a2 (fun v3 l_v3 u_v3 => ⟨_, rfl, ?_⟩))
    show mm_W d mmX11_game 13 [some (.ref 0), some (.int (Int32.ofInt a1)), some (.int (Int32.ofInt a2)), some (.int (Int32.ofInt a3)), none, none, none, none] [.int (Int32.ofInt v3)] (mz_mk g x) Q
    refine mz_if_eq (tgt := 29) rfl rfl (mz_rg l_v3 u_v3) (fun c13_3 => ?_) (fun c13_3 => ?_)
    · skip
      refine mm_g 1 (pc1 := 30) (lo1 := [some (.ref 0), some (.int (Int32.ofInt a1)), some (.int (Int32.ofInt a2)), some (.int (Int32.ofInt a3)), none, none, none, none]) (st1 := [.int (Int32.ofInt 0)]) (H1 := mz_mk g x) rfl ?_
      refine mz_csx rfl mt_11_183 rfl (Nat.le_of_ble_eq_true rfl) (by omega) rfl nh_X11_mustBe (t_X11_mustBe (by omega) hx hI (by decide) (by decide) (fun hp4 => ?_) hX0)
      show mm_W d mmX11_game 33 [some (.ref 0), some (.int (Int32.ofInt a1)), some (.int (Int32.ofInt a2)), some (.int (Int32.ofInt a3)), none, none, none, none] [] (mz_mk g x) Q
      exfalso; omega
    · skip
      refine mm_g 1 (pc1 := 17) (lo1 := [some (.ref 0), some (.int (Int32.ofInt a1)), some (.int (Int32.ofInt a2)), some (.int (Int32.ofInt a3)), none, none, none, none]) (st1 := [.int (Int32.ofInt a3)]) (H1 := mz_mk g x) rfl ?_
      refine mz_if_eq (tgt := 25) rfl rfl (mz_rg l_a3 u_a3) (fun c17_4 => ?_) (fun c17_4 => ?_)
      · skip
        refine mm_g 1 (pc1 := 26) (lo1 := [some (.ref 0), some (.int (Int32.ofInt a1)), some (.int (Int32.ofInt a2)), some (.int (Int32.ofInt a3)), none, none, none, none]) (st1 := [.int (Int32.ofInt 1)]) (H1 := mz_mk g x) rfl ?_
        refine mz_gt (tgt := 30) rfl rfl ?_
        refine mz_csx rfl mt_11_183 rfl (Nat.le_of_ble_eq_true rfl) (by omega) rfl nh_X11_mustBe (t_X11_mustBe (by omega) hx hI (by decide) (by decide) (fun hp5 => ?_) hX0)
        show mm_W d mmX11_game 33 [some (.ref 0), some (.int (Int32.ofInt a1)), some (.int (Int32.ofInt a2)), some (.int (Int32.ofInt a3)), none, none, none, none] [] (mz_mk g x) Q
        refine mm_g 2 (pc1 := 35) (lo1 := [some (.ref 0), some (.int (Int32.ofInt a1)), some (.int (Int32.ofInt a2)), some (.int (Int32.ofInt a3)), none, none, none, none]) (st1 := [.int (Int32.ofInt a2), .int (Int32.ofInt a1)]) (H1 := mz_mk g x) rfl ?_
        refine mz_ic_eq (tgt := 42) rfl rfl (mz_rg l_a1 u_a1) (mz_rg l_a2 u_a2) (fun c35_5 => ?_) (fun c35_5 => ?_)
        · skip
          refine mm_g 1 (pc1 := 43) (lo1 := [some (.ref 0), some (.int (Int32.ofInt a1)), some (.int (Int32.ofInt a2)), some (.int (Int32.ofInt a3)), none, none, none, none]) (st1 := [.int (Int32.ofInt 0)]) (H1 := mz_mk g x) rfl ?_
          refine mz_csx rfl mt_11_106 rfl (Nat.le_of_ble_eq_true rfl) (by omega) rfl nh_X11_mustFit (t_X11_mustFit (by omega) hx hI (by decide) (by decide) (fun hp6 => ?_) (fun _ => hX1))
          show mm_W d mmX11_game 46 [some (.ref 0), some (.int (Int32.ofInt a1)), some (.int (Int32.ofInt a2)), some (.int (Int32.ofInt a3)), none, none, none, none] [] (mz_mk g x) Q
          exfalso; omega
        · skip
          refine mm_g 1 (pc1 := 39) (lo1 := [some (.ref 0), some (.int (Int32.ofInt a1)), some (.int (Int32.ofInt a2)), some (.int (Int32.ofInt a3)), none, none, none, none]) (st1 := [.int (Int32.ofInt 1)]) (H1 := mz_mk g x) rfl ?_
          refine mz_gt (tgt := 43) rfl rfl ?_
          refine mz_csx rfl mt_11_106 rfl (Nat.le_of_ble_eq_true rfl) (by omega) rfl nh_X11_mustFit (t_X11_mustFit (by omega) hx hI (by decide) (by decide) (fun hp7 => ?_) (fun _ => hX1))
          show mm_W d mmX11_game 46 [some (.ref 0), some (.int (Int32.ofInt a1)), some (.int (Int32.ofInt a2)), some (.int (Int32.ofInt a3)), none, none, none, none] [] (mz_mk g x) Q
          refine mm_g 6 (pc1 := 55) (lo1 := [some (.ref 0), some (.int (Int32.ofInt a1)), some (.int (Int32.ofInt a2)), some (.int (Int32.ofInt a3)), some (.int (Int32.ofInt 0)), some (.int (Int32.ofInt (-1))), some (.int (Int32.ofInt 0)), none]) (st1 := []) (H1 := mz_mk g x) rfl ?_
          have L15 : ∀ n14 : Nat, ∀ (v8 : Int) (v9 : Int) (v10 : Int) (o11 : Option Value) (g12 : mz_G), (2 - v10).toNat = n14 → (-2147483648) ≤ v8 → v8 ≤ 2147483647 → (-1) ≤ v9 → v9 ≤ 15 → 0 ≤ v10 → v10 ≤ 2 → mz_nl o11 → mz_inv g12 → mz_fr (fl_X11_game_55 x a1 a2 a3) g g12 → mm_W d mmX11_game 55 [some (.ref 0), some (.int (Int32.ofInt a1)), some (.int (Int32.ofInt a2)), some (.int (Int32.ofInt a3)), some (.int (Int32.ofInt v8)), some (.int (Int32.ofInt v9)), some (.int (Int32.ofInt v10)), o11] [] (mz_mk g12 x) Q := by
            intro n14
            induction n14 using Nat.strongRecOn with
            | ind n14 ih13 =>
            intro v8 v9 v10 o11 g12 hmn14 l_v8 u_v8 l_v9 u_v9 l_v10 u_v10 h_o11 hIg12 hfg12
            refine mm_g 2 (pc1 := 58) (lo1 := [some (.ref 0), some (.int (Int32.ofInt a1)), some (.int (Int32.ofInt a2)), some (.int (Int32.ofInt a3)), some (.int (Int32.ofInt v8)), some (.int (Int32.ofInt v9)), some (.int (Int32.ofInt v10)), o11]) (st1 := [.int (Int32.ofInt 1), .int (Int32.ofInt v10)]) (H1 := mz_mk g12 x) rfl ?_
            refine mz_ic_gt (tgt := 144) rfl rfl (mz_rg l_v10 u_v10) ⟨by decide, by decide⟩ (fun c58_15 => ?_) (fun c58_15 => ?_)
            · skip
              refine mm_g 1 (pc1 := 145) (lo1 := [some (.ref 0), some (.int (Int32.ofInt a1)), some (.int (Int32.ofInt a2)), some (.int (Int32.ofInt a3)), some (.int (Int32.ofInt v8)), some (.int (Int32.ofInt v9)), some (.int (Int32.ofInt v10)), o11]) (st1 := [.int (Int32.ofInt a3)]) (H1 := mz_mk g12 x) rfl ?_
              refine mz_if_ne (tgt := 153) rfl rfl (mz_rg l_a3 u_a3) (fun c145_15 => ?_) (fun c145_15 => ?_)
              · exfalso; omega
              · skip
                refine mm_g 1 (pc1 := 150) (lo1 := [some (.ref 0), some (.int (Int32.ofInt a1)), some (.int (Int32.ofInt a2)), some (.int (Int32.ofInt a3)), some (.int (Int32.ofInt v8)), some (.int (Int32.ofInt v9)), some (.int (Int32.ofInt v10)), o11]) (st1 := [.int (Int32.ofInt v8)]) (H1 := mz_mk g12 x) rfl ?_
                refine mz_gt (tgt := 155) rfl rfl ?_
                exact mm_rt rfl rfl (hQ _ _ hIg12 (fun k j hk => (hfg12 k j (fun h => hk (Or.elim h (fun h => (Or.inl h)) (fun h => (Or.elim h (fun h => (Or.inr (Or.inl h))) (fun h => (Or.inr (Or.inr h))))))))) (by omega) (by omega))
            · skip
              refine mm_g 2 (pc1 := 64) (lo1 := [some (.ref 0), some (.int (Int32.ofInt a1)), some (.int (Int32.ofInt a2)), some (.int (Int32.ofInt a3)), some (.int (Int32.ofInt v8)), some (.int (Int32.ofInt v9)), some (.int (Int32.ofInt v10)), some (.int (Int32.ofInt 0))]) (st1 := []) (H1 := mz_mk g12 x) rfl ?_
              have L22 : ∀ n21 : Nat, ∀ (v16 : Int) (v17 : Int) (v18 : Int) (g19 : mz_G), (2 - v18).toNat = n21 → (-2147483648) ≤ v16 → v16 ≤ 2147483647 → (-1) ≤ v17 → v17 ≤ 15 → 0 ≤ v18 → v18 ≤ 2 → mz_inv g19 → mz_fr (fl_X11_game_64 x a1 a2 a3) g12 g19 → mm_W d mmX11_game 64 [some (.ref 0), some (.int (Int32.ofInt a1)), some (.int (Int32.ofInt a2)), some (.int (Int32.ofInt a3)), some (.int (Int32.ofInt v16)), some (.int (Int32.ofInt v17)), some (.int (Int32.ofInt v10)), some (.int (Int32.ofInt v18))] [] (mz_mk g19 x) Q := by
                intro n21
                induction n21 using Nat.strongRecOn with
                | ind n21 ih20 =>
                intro v16 v17 v18 g19 hmn21 l_v16 u_v16 l_v17 u_v17 l_v18 u_v18 hIg19 hfg19
                refine mm_g 2 (pc1 := 67) (lo1 := [some (.ref 0), some (.int (Int32.ofInt a1)), some (.int (Int32.ofInt a2)), some (.int (Int32.ofInt a3)), some (.int (Int32.ofInt v16)), some (.int (Int32.ofInt v17)), some (.int (Int32.ofInt v10)), some (.int (Int32.ofInt v18))]) (st1 := [.int (Int32.ofInt 1), .int (Int32.ofInt v18)]) (H1 := mz_mk g19 x) rfl ?_
                refine mz_ic_gt (tgt := 138) rfl rfl (mz_rg l_v18 u_v18) ⟨by decide, by decide⟩ (fun c67_22 => ?_) (fun c67_22 => ?_)
                · skip
                  refine mz_iincR (v := v10) (lo2 := [some (.ref 0), some (.int (Int32.ofInt a1)), some (.int (Int32.ofInt a2)), some (.int (Int32.ofInt a3)), some (.int (Int32.ofInt v16)), some (.int (Int32.ofInt v17)), some (.int (Int32.ofInt (v10 + 1))), some (.int (Int32.ofInt v18))]) rfl rfl rfl (Nat.le_of_ble_eq_true rfl) rfl ?_
                  refine mz_gt (tgt := 55) rfl rfl ?_
                  exact ih13 ((2 - (v10 + 1)).toNat) (by omega) v16 v17 (v10 + 1) (some (.int (Int32.ofInt v18))) g19 rfl (by omega) (by omega) (by omega) (by omega) (by omega) (by omega) (mz_nl_i _) hIg19 (fun k j hk => ((hfg19 k j (fun h => hk (Or.elim h (fun h => (Or.inl h)) (fun h => (Or.elim h (fun h => (Or.inr (Or.inl h))) (fun h => (Or.inr (Or.inr h)))))))).trans (hfg12 k j (fun h => hk (Or.elim h (fun h => (Or.inl h)) (fun h => (Or.elim h (fun h => (Or.inr (Or.inl h))) (fun h => (Or.inr (Or.inr h))))))))))
                · skip
                  refine mm_g 3 (pc1 := 74) (lo1 := [some (.ref 0), some (.int (Int32.ofInt a1)), some (.int (Int32.ofInt a2)), some (.int (Int32.ofInt a3)), some (.int (Int32.ofInt v16)), some (.int (Int32.ofInt v17)), some (.int (Int32.ofInt v10)), some (.int (Int32.ofInt v18))]) (st1 := [.int (Int32.ofInt v10), .int (Int32.ofInt a1), .ref 0]) (H1 := mz_mk g19 x) rfl ?_
                  refine mz_cv rfl mt_11_381 (by decide) (sc_0 _) rfl (Nat.le_of_ble_eq_true rfl) (by omega) (c_X11_ownGain (by omega) hx hIg19 l_a1 u_a1 (by omega) (by omega) (fun v23 g24 hIg24 hfg24 l_v23 u_v23 => ⟨_, rfl, ?_⟩))
                  show mm_W d mmX11_game 77 [some (.ref 0), some (.int (Int32.ofInt a1)), some (.int (Int32.ofInt a2)), some (.int (Int32.ofInt a3)), some (.int (Int32.ofInt v16)), some (.int (Int32.ofInt v17)), some (.int (Int32.ofInt v10)), some (.int (Int32.ofInt v18))] [.int (Int32.ofInt v23)] (mz_mk g24 x) Q
                  refine mm_g 4 (pc1 := 82) (lo1 := [some (.ref 0), some (.int (Int32.ofInt a1)), some (.int (Int32.ofInt a2)), some (.int (Int32.ofInt a3)), some (.int (Int32.ofInt v16)), some (.int (Int32.ofInt v17)), some (.int (Int32.ofInt v10)), some (.int (Int32.ofInt v18))]) (st1 := [.int (Int32.ofInt v10), .int (Int32.ofInt 1), .int (Int32.ofInt a1), .ref 0, .int (Int32.ofInt v23)]) (H1 := mz_mk g24 x) rfl ?_
                  refine mz_isub rfl ?_
                  refine mz_cv rfl mt_11_381 (by decide) (sc_0 _) rfl (Nat.le_of_ble_eq_true rfl) (by omega) (c_X11_ownGain (by omega) hx hIg24 l_a1 u_a1 (by omega) (by omega) (fun v25 g26 hIg26 hfg26 l_v25 u_v25 => ⟨_, rfl, ?_⟩))
                  show mm_W d mmX11_game 86 [some (.ref 0), some (.int (Int32.ofInt a1)), some (.int (Int32.ofInt a2)), some (.int (Int32.ofInt a3)), some (.int (Int32.ofInt v16)), some (.int (Int32.ofInt v17)), some (.int (Int32.ofInt v10)), some (.int (Int32.ofInt v18))] [.int (Int32.ofInt v25), .int (Int32.ofInt v23)] (mz_mk g26 x) Q
                  refine mz_ic_lt (tgt := 132) rfl rfl (mz_rg l_v23 u_v23) (mz_rg l_v25 u_v25) (fun c86_26 => ?_) (fun c86_26 => ?_)
                  · skip
                    refine mz_iincR (v := v18) (lo2 := [some (.ref 0), some (.int (Int32.ofInt a1)), some (.int (Int32.ofInt a2)), some (.int (Int32.ofInt a3)), some (.int (Int32.ofInt v16)), some (.int (Int32.ofInt v17)), some (.int (Int32.ofInt v10)), some (.int (Int32.ofInt (v18 + 1)))]) rfl rfl rfl (Nat.le_of_ble_eq_true rfl) rfl ?_
                    refine mz_gt (tgt := 64) rfl rfl ?_
                    exact ih20 ((2 - (v18 + 1)).toNat) (by omega) v16 v17 (v18 + 1) g26 rfl (by omega) (by omega) (by omega) (by omega) (by omega) (by omega) hIg26 (fun k j hk => ((hfg26 k j (fun h => hk (Or.elim h (fun h => (Or.inl h)) (fun h => (Or.elim h (fun h => (Or.inr (Or.inl h))) (fun h => (Or.inr (Or.inr h)))))))).trans ((hfg24 k j (fun h => hk (Or.elim h (fun h => (Or.inl h)) (fun h => (Or.elim h (fun h => (Or.inr (Or.inl h))) (fun h => (Or.inr (Or.inr h)))))))).trans (hfg19 k j (fun h => hk (Or.elim h (fun h => (Or.inl h)) (fun h => (Or.elim h (fun h => (Or.inr (Or.inl h))) (fun h => (Or.inr (Or.inr h)))))))))))
                  · skip
                    refine mm_g 3 (pc1 := 93) (lo1 := [some (.ref 0), some (.int (Int32.ofInt a1)), some (.int (Int32.ofInt a2)), some (.int (Int32.ofInt a3)), some (.int (Int32.ofInt v16)), some (.int (Int32.ofInt v17)), some (.int (Int32.ofInt v10)), some (.int (Int32.ofInt v18))]) (st1 := [.int (Int32.ofInt v18), .int (Int32.ofInt a2), .ref 0]) (H1 := mz_mk g26 x) rfl ?_
                    refine mz_cv rfl mt_11_381 (by decide) (sc_0 _) rfl (Nat.le_of_ble_eq_true rfl) (by omega) (c_X11_ownGain (by omega) hx hIg26 l_a2 u_a2 (by omega) (by omega) (fun v27 g28 hIg28 hfg28 l_v27 u_v27 => ⟨_, rfl, ?_⟩))
                    show mm_W d mmX11_game 96 [some (.ref 0), some (.int (Int32.ofInt a1)), some (.int (Int32.ofInt a2)), some (.int (Int32.ofInt a3)), some (.int (Int32.ofInt v16)), some (.int (Int32.ofInt v17)), some (.int (Int32.ofInt v10)), some (.int (Int32.ofInt v18))] [.int (Int32.ofInt v27)] (mz_mk g28 x) Q
                    refine mm_g 4 (pc1 := 101) (lo1 := [some (.ref 0), some (.int (Int32.ofInt a1)), some (.int (Int32.ofInt a2)), some (.int (Int32.ofInt a3)), some (.int (Int32.ofInt v16)), some (.int (Int32.ofInt v17)), some (.int (Int32.ofInt v10)), some (.int (Int32.ofInt v18))]) (st1 := [.int (Int32.ofInt v18), .int (Int32.ofInt 1), .int (Int32.ofInt a2), .ref 0, .int (Int32.ofInt v27)]) (H1 := mz_mk g28 x) rfl ?_
                    refine mz_isub rfl ?_
                    refine mz_cv rfl mt_11_381 (by decide) (sc_0 _) rfl (Nat.le_of_ble_eq_true rfl) (by omega) (c_X11_ownGain (by omega) hx hIg28 l_a2 u_a2 (by omega) (by omega) (fun v29 g30 hIg30 hfg30 l_v29 u_v29 => ⟨_, rfl, ?_⟩))
                    show mm_W d mmX11_game 105 [some (.ref 0), some (.int (Int32.ofInt a1)), some (.int (Int32.ofInt a2)), some (.int (Int32.ofInt a3)), some (.int (Int32.ofInt v16)), some (.int (Int32.ofInt v17)), some (.int (Int32.ofInt v10)), some (.int (Int32.ofInt v18))] [.int (Int32.ofInt v29), .int (Int32.ofInt v27)] (mz_mk g30 x) Q
                    refine mz_ic_lt (tgt := 132) rfl rfl (mz_rg l_v27 u_v27) (mz_rg l_v29 u_v29) (fun c105_30 => ?_) (fun c105_30 => ?_)
                    · skip
                      refine mz_iincR (v := v18) (lo2 := [some (.ref 0), some (.int (Int32.ofInt a1)), some (.int (Int32.ofInt a2)), some (.int (Int32.ofInt a3)), some (.int (Int32.ofInt v16)), some (.int (Int32.ofInt v17)), some (.int (Int32.ofInt v10)), some (.int (Int32.ofInt (v18 + 1)))]) rfl rfl rfl (Nat.le_of_ble_eq_true rfl) rfl ?_
                      refine mz_gt (tgt := 64) rfl rfl ?_
                      exact ih20 ((2 - (v18 + 1)).toNat) (by omega) v16 v17 (v18 + 1) g30 rfl (by omega) (by omega) (by omega) (by omega) (by omega) (by omega) hIg30 (fun k j hk => ((hfg30 k j (fun h => hk (Or.elim h (fun h => (Or.inl h)) (fun h => (Or.elim h (fun h => (Or.inr (Or.inl h))) (fun h => (Or.inr (Or.inr h)))))))).trans ((hfg28 k j (fun h => hk (Or.elim h (fun h => (Or.inl h)) (fun h => (Or.elim h (fun h => (Or.inr (Or.inl h))) (fun h => (Or.inr (Or.inr h)))))))).trans ((hfg26 k j (fun h => hk (Or.elim h (fun h => (Or.inl h)) (fun h => (Or.elim h (fun h => (Or.inr (Or.inl h))) (fun h => (Or.inr (Or.inr h)))))))).trans ((hfg24 k j (fun h => hk (Or.elim h (fun h => (Or.inl h)) (fun h => (Or.elim h (fun h => (Or.inr (Or.inl h))) (fun h => (Or.inr (Or.inr h)))))))).trans (hfg19 k j (fun h => hk (Or.elim h (fun h => (Or.inl h)) (fun h => (Or.elim h (fun h => (Or.inr (Or.inl h))) (fun h => (Or.inr (Or.inr h)))))))))))))
                    · skip
                      refine mm_g 2 (pc1 := 111) (lo1 := [some (.ref 0), some (.int (Int32.ofInt a1)), some (.int (Int32.ofInt a2)), some (.int (Int32.ofInt a3)), some (.int (Int32.ofInt v16)), some (.int (Int32.ofInt v17)), some (.int (Int32.ofInt v10)), some (.int (Int32.ofInt v18))]) (st1 := [.int (Int32.ofInt (-1)), .int (Int32.ofInt v17)]) (H1 := mz_mk g30 x) rfl ?_
                      refine mz_ic_ne (tgt := 125) rfl rfl (mz_rg l_v17 u_v17) ⟨by decide, by decide⟩ (fun c111_30 => ?_) (fun c111_30 => ?_)
                      · skip
                        refine mm_g 2 (pc1 := 129) (lo1 := [some (.ref 0), some (.int (Int32.ofInt a1)), some (.int (Int32.ofInt a2)), some (.int (Int32.ofInt a3)), some (.int (Int32.ofInt v16)), some (.int (Int32.ofInt v17)), some (.int (Int32.ofInt v10)), some (.int (Int32.ofInt v18))]) (st1 := []) (H1 := mz_mk g30 x) rfl ?_
                        refine mz_iincW (v := v16) (lo2 := fun v31 => [some (.ref 0), some (.int (Int32.ofInt a1)), some (.int (Int32.ofInt a2)), some (.int (Int32.ofInt a3)), some (.int (Int32.ofInt v31)), some (.int (Int32.ofInt v17)), some (.int (Int32.ofInt v10)), some (.int (Int32.ofInt v18))]) rfl rfl rfl (Nat.le_of_ble_eq_true rfl) (fun _ => rfl) (fun v31 _ hwv31 => ?_)
                        have l_v31 := hwv31.1
                        have u_v31 := hwv31.2
                        refine mz_iincR (v := v18) (lo2 := [some (.ref 0), some (.int (Int32.ofInt a1)), some (.int (Int32.ofInt a2)), some (.int (Int32.ofInt a3)), some (.int (Int32.ofInt v31)), some (.int (Int32.ofInt v17)), some (.int (Int32.ofInt v10)), some (.int (Int32.ofInt (v18 + 1)))]) rfl rfl rfl (Nat.le_of_ble_eq_true rfl) rfl ?_
                        refine mz_gt (tgt := 64) rfl rfl ?_
                        exact ih20 ((2 - (v18 + 1)).toNat) (by omega) v31 v17 (v18 + 1) g30 rfl (by omega) (by omega) (by omega) (by omega) (by omega) (by omega) hIg30 (fun k j hk => ((hfg30 k j (fun h => hk (Or.elim h (fun h => (Or.inl h)) (fun h => (Or.elim h (fun h => (Or.inr (Or.inl h))) (fun h => (Or.inr (Or.inr h)))))))).trans ((hfg28 k j (fun h => hk (Or.elim h (fun h => (Or.inl h)) (fun h => (Or.elim h (fun h => (Or.inr (Or.inl h))) (fun h => (Or.inr (Or.inr h)))))))).trans ((hfg26 k j (fun h => hk (Or.elim h (fun h => (Or.inl h)) (fun h => (Or.elim h (fun h => (Or.inr (Or.inl h))) (fun h => (Or.inr (Or.inr h)))))))).trans ((hfg24 k j (fun h => hk (Or.elim h (fun h => (Or.inl h)) (fun h => (Or.elim h (fun h => (Or.inr (Or.inl h))) (fun h => (Or.inr (Or.inr h)))))))).trans (hfg19 k j (fun h => hk (Or.elim h (fun h => (Or.inl h)) (fun h => (Or.elim h (fun h => (Or.inr (Or.inl h))) (fun h => (Or.inr (Or.inr h)))))))))))))
                      · skip
                        refine mz_bip rfl bip_10 ?_
                        refine mm_g 1 (pc1 := 118) (lo1 := [some (.ref 0), some (.int (Int32.ofInt a1)), some (.int (Int32.ofInt a2)), some (.int (Int32.ofInt a3)), some (.int (Int32.ofInt v16)), some (.int (Int32.ofInt v17)), some (.int (Int32.ofInt v10)), some (.int (Int32.ofInt v18))]) (st1 := [.int (Int32.ofInt v10), .int (Int32.ofInt 10)]) (H1 := mz_mk g30 x) rfl ?_
                        refine mz_imul rfl ?_
                        refine mm_g 1 (pc1 := 121) (lo1 := [some (.ref 0), some (.int (Int32.ofInt a1)), some (.int (Int32.ofInt a2)), some (.int (Int32.ofInt a3)), some (.int (Int32.ofInt v16)), some (.int (Int32.ofInt v17)), some (.int (Int32.ofInt v10)), some (.int (Int32.ofInt v18))]) (st1 := [.int (Int32.ofInt v18), .int (Int32.ofInt (10 * v10))]) (H1 := mz_mk g30 x) rfl ?_
                        refine mz_iadd rfl ?_
                        refine mz_gt (tgt := 127) rfl rfl ?_
                        refine mm_g 1 (pc1 := 129) (lo1 := [some (.ref 0), some (.int (Int32.ofInt a1)), some (.int (Int32.ofInt a2)), some (.int (Int32.ofInt a3)), some (.int (Int32.ofInt v16)), some (.int (Int32.ofInt ((10 * v10) + v18))), some (.int (Int32.ofInt v10)), some (.int (Int32.ofInt v18))]) (st1 := []) (H1 := mz_mk g30 x) rfl ?_
                        refine mz_iincW (v := v16) (lo2 := fun v32 => [some (.ref 0), some (.int (Int32.ofInt a1)), some (.int (Int32.ofInt a2)), some (.int (Int32.ofInt a3)), some (.int (Int32.ofInt v32)), some (.int (Int32.ofInt ((10 * v10) + v18))), some (.int (Int32.ofInt v10)), some (.int (Int32.ofInt v18))]) rfl rfl rfl (Nat.le_of_ble_eq_true rfl) (fun _ => rfl) (fun v32 _ hwv32 => ?_)
                        have l_v32 := hwv32.1
                        have u_v32 := hwv32.2
                        refine mz_iincR (v := v18) (lo2 := [some (.ref 0), some (.int (Int32.ofInt a1)), some (.int (Int32.ofInt a2)), some (.int (Int32.ofInt a3)), some (.int (Int32.ofInt v32)), some (.int (Int32.ofInt ((10 * v10) + v18))), some (.int (Int32.ofInt v10)), some (.int (Int32.ofInt (v18 + 1)))]) rfl rfl rfl (Nat.le_of_ble_eq_true rfl) rfl ?_
                        refine mz_gt (tgt := 64) rfl rfl ?_
                        exact ih20 ((2 - (v18 + 1)).toNat) (by omega) v32 ((10 * v10) + v18) (v18 + 1) g30 rfl (by omega) (by omega) (by omega) (by omega) (by omega) (by omega) hIg30 (fun k j hk => ((hfg30 k j (fun h => hk (Or.elim h (fun h => (Or.inl h)) (fun h => (Or.elim h (fun h => (Or.inr (Or.inl h))) (fun h => (Or.inr (Or.inr h)))))))).trans ((hfg28 k j (fun h => hk (Or.elim h (fun h => (Or.inl h)) (fun h => (Or.elim h (fun h => (Or.inr (Or.inl h))) (fun h => (Or.inr (Or.inr h)))))))).trans ((hfg26 k j (fun h => hk (Or.elim h (fun h => (Or.inl h)) (fun h => (Or.elim h (fun h => (Or.inr (Or.inl h))) (fun h => (Or.inr (Or.inr h)))))))).trans ((hfg24 k j (fun h => hk (Or.elim h (fun h => (Or.inl h)) (fun h => (Or.elim h (fun h => (Or.inr (Or.inl h))) (fun h => (Or.inr (Or.inr h)))))))).trans (hfg19 k j (fun h => hk (Or.elim h (fun h => (Or.inl h)) (fun h => (Or.elim h (fun h => (Or.inr (Or.inl h))) (fun h => (Or.inr (Or.inr h)))))))))))))
              exact L22 _ v8 v9 0 g12 rfl (by omega) (by omega) (by omega) (by omega) (by decide) (by decide) hIg12 (fun _ _ _ => rfl)
          exact L15 _ 0 (-1) 0 none g rfl (by decide) (by decide) (by decide) (by decide) (by decide) (by decide) mz_nl_n hI (fun _ _ _ => rfl)
      · skip
        refine mm_g 2 (pc1 := 22) (lo1 := [some (.ref 0), some (.int (Int32.ofInt a1)), some (.int (Int32.ofInt a2)), some (.int (Int32.ofInt a3)), none, none, none, none]) (st1 := [.int (Int32.ofInt 1), .int (Int32.ofInt a3)]) (H1 := mz_mk g x) rfl ?_
        refine mz_ic_ne (tgt := 29) rfl rfl (mz_rg l_a3 u_a3) ⟨by decide, by decide⟩ (fun c22_32 => ?_) (fun c22_32 => ?_)
        · skip
          refine mm_g 1 (pc1 := 30) (lo1 := [some (.ref 0), some (.int (Int32.ofInt a1)), some (.int (Int32.ofInt a2)), some (.int (Int32.ofInt a3)), none, none, none, none]) (st1 := [.int (Int32.ofInt 0)]) (H1 := mz_mk g x) rfl ?_
          refine mz_csx rfl mt_11_183 rfl (Nat.le_of_ble_eq_true rfl) (by omega) rfl nh_X11_mustBe (t_X11_mustBe (by omega) hx hI (by decide) (by decide) (fun hp33 => ?_) hX0)
          show mm_W d mmX11_game 33 [some (.ref 0), some (.int (Int32.ofInt a1)), some (.int (Int32.ofInt a2)), some (.int (Int32.ofInt a3)), none, none, none, none] [] (mz_mk g x) Q
          exfalso; omega
        · skip
          refine mm_g 1 (pc1 := 26) (lo1 := [some (.ref 0), some (.int (Int32.ofInt a1)), some (.int (Int32.ofInt a2)), some (.int (Int32.ofInt a3)), none, none, none, none]) (st1 := [.int (Int32.ofInt 1)]) (H1 := mz_mk g x) rfl ?_
          refine mz_gt (tgt := 30) rfl rfl ?_
          refine mz_csx rfl mt_11_183 rfl (Nat.le_of_ble_eq_true rfl) (by omega) rfl nh_X11_mustBe (t_X11_mustBe (by omega) hx hI (by decide) (by decide) (fun hp34 => ?_) hX0)
          show mm_W d mmX11_game 33 [some (.ref 0), some (.int (Int32.ofInt a1)), some (.int (Int32.ofInt a2)), some (.int (Int32.ofInt a3)), none, none, none, none] [] (mz_mk g x) Q
          refine mm_g 2 (pc1 := 35) (lo1 := [some (.ref 0), some (.int (Int32.ofInt a1)), some (.int (Int32.ofInt a2)), some (.int (Int32.ofInt a3)), none, none, none, none]) (st1 := [.int (Int32.ofInt a2), .int (Int32.ofInt a1)]) (H1 := mz_mk g x) rfl ?_
          refine mz_ic_eq (tgt := 42) rfl rfl (mz_rg l_a1 u_a1) (mz_rg l_a2 u_a2) (fun c35_34 => ?_) (fun c35_34 => ?_)
          · skip
            refine mm_g 1 (pc1 := 43) (lo1 := [some (.ref 0), some (.int (Int32.ofInt a1)), some (.int (Int32.ofInt a2)), some (.int (Int32.ofInt a3)), none, none, none, none]) (st1 := [.int (Int32.ofInt 0)]) (H1 := mz_mk g x) rfl ?_
            refine mz_csx rfl mt_11_106 rfl (Nat.le_of_ble_eq_true rfl) (by omega) rfl nh_X11_mustFit (t_X11_mustFit (by omega) hx hI (by decide) (by decide) (fun hp35 => ?_) (fun _ => hX1))
            show mm_W d mmX11_game 46 [some (.ref 0), some (.int (Int32.ofInt a1)), some (.int (Int32.ofInt a2)), some (.int (Int32.ofInt a3)), none, none, none, none] [] (mz_mk g x) Q
            exfalso; omega
          · skip
            refine mm_g 1 (pc1 := 39) (lo1 := [some (.ref 0), some (.int (Int32.ofInt a1)), some (.int (Int32.ofInt a2)), some (.int (Int32.ofInt a3)), none, none, none, none]) (st1 := [.int (Int32.ofInt 1)]) (H1 := mz_mk g x) rfl ?_
            refine mz_gt (tgt := 43) rfl rfl ?_
            refine mz_csx rfl mt_11_106 rfl (Nat.le_of_ble_eq_true rfl) (by omega) rfl nh_X11_mustFit (t_X11_mustFit (by omega) hx hI (by decide) (by decide) (fun hp36 => ?_) (fun _ => hX1))
            show mm_W d mmX11_game 46 [some (.ref 0), some (.int (Int32.ofInt a1)), some (.int (Int32.ofInt a2)), some (.int (Int32.ofInt a3)), none, none, none, none] [] (mz_mk g x) Q
            refine mm_g 6 (pc1 := 55) (lo1 := [some (.ref 0), some (.int (Int32.ofInt a1)), some (.int (Int32.ofInt a2)), some (.int (Int32.ofInt a3)), some (.int (Int32.ofInt 0)), some (.int (Int32.ofInt (-1))), some (.int (Int32.ofInt 0)), none]) (st1 := []) (H1 := mz_mk g x) rfl ?_
            have L44 : ∀ n43 : Nat, ∀ (v37 : Int) (v38 : Int) (v39 : Int) (o40 : Option Value) (g41 : mz_G), (2 - v39).toNat = n43 → (-2147483648) ≤ v37 → v37 ≤ 2147483647 → (-1) ≤ v38 → v38 ≤ 15 → 0 ≤ v39 → v39 ≤ 2 → mz_nl o40 → mz_inv g41 → mz_fr (fl_X11_game_55 x a1 a2 a3) g g41 → mm_W d mmX11_game 55 [some (.ref 0), some (.int (Int32.ofInt a1)), some (.int (Int32.ofInt a2)), some (.int (Int32.ofInt a3)), some (.int (Int32.ofInt v37)), some (.int (Int32.ofInt v38)), some (.int (Int32.ofInt v39)), o40] [] (mz_mk g41 x) Q := by
              intro n43
              induction n43 using Nat.strongRecOn with
              | ind n43 ih42 =>
              intro v37 v38 v39 o40 g41 hmn43 l_v37 u_v37 l_v38 u_v38 l_v39 u_v39 h_o40 hIg41 hfg41
              refine mm_g 2 (pc1 := 58) (lo1 := [some (.ref 0), some (.int (Int32.ofInt a1)), some (.int (Int32.ofInt a2)), some (.int (Int32.ofInt a3)), some (.int (Int32.ofInt v37)), some (.int (Int32.ofInt v38)), some (.int (Int32.ofInt v39)), o40]) (st1 := [.int (Int32.ofInt 1), .int (Int32.ofInt v39)]) (H1 := mz_mk g41 x) rfl ?_
              refine mz_ic_gt (tgt := 144) rfl rfl (mz_rg l_v39 u_v39) ⟨by decide, by decide⟩ (fun c58_44 => ?_) (fun c58_44 => ?_)
              · skip
                refine mm_g 1 (pc1 := 145) (lo1 := [some (.ref 0), some (.int (Int32.ofInt a1)), some (.int (Int32.ofInt a2)), some (.int (Int32.ofInt a3)), some (.int (Int32.ofInt v37)), some (.int (Int32.ofInt v38)), some (.int (Int32.ofInt v39)), o40]) (st1 := [.int (Int32.ofInt a3)]) (H1 := mz_mk g41 x) rfl ?_
                refine mz_if_ne (tgt := 153) rfl rfl (mz_rg l_a3 u_a3) (fun c145_44 => ?_) (fun c145_44 => ?_)
                · skip
                  refine mm_g 1 (pc1 := 155) (lo1 := [some (.ref 0), some (.int (Int32.ofInt a1)), some (.int (Int32.ofInt a2)), some (.int (Int32.ofInt a3)), some (.int (Int32.ofInt v37)), some (.int (Int32.ofInt v38)), some (.int (Int32.ofInt v39)), o40]) (st1 := [.int (Int32.ofInt v38)]) (H1 := mz_mk g41 x) rfl ?_
                  exact mm_rt rfl rfl (hQ _ _ hIg41 (fun k j hk => (hfg41 k j (fun h => hk (Or.elim h (fun h => (Or.inl h)) (fun h => (Or.elim h (fun h => (Or.inr (Or.inl h))) (fun h => (Or.inr (Or.inr h))))))))) (by omega) (by omega))
                · exfalso; omega
              · skip
                refine mm_g 2 (pc1 := 64) (lo1 := [some (.ref 0), some (.int (Int32.ofInt a1)), some (.int (Int32.ofInt a2)), some (.int (Int32.ofInt a3)), some (.int (Int32.ofInt v37)), some (.int (Int32.ofInt v38)), some (.int (Int32.ofInt v39)), some (.int (Int32.ofInt 0))]) (st1 := []) (H1 := mz_mk g41 x) rfl ?_
                have L51 : ∀ n50 : Nat, ∀ (v45 : Int) (v46 : Int) (v47 : Int) (g48 : mz_G), (2 - v47).toNat = n50 → (-2147483648) ≤ v45 → v45 ≤ 2147483647 → (-1) ≤ v46 → v46 ≤ 15 → 0 ≤ v47 → v47 ≤ 2 → mz_inv g48 → mz_fr (fl_X11_game_64 x a1 a2 a3) g41 g48 → mm_W d mmX11_game 64 [some (.ref 0), some (.int (Int32.ofInt a1)), some (.int (Int32.ofInt a2)), some (.int (Int32.ofInt a3)), some (.int (Int32.ofInt v45)), some (.int (Int32.ofInt v46)), some (.int (Int32.ofInt v39)), some (.int (Int32.ofInt v47))] [] (mz_mk g48 x) Q := by
                  intro n50
                  induction n50 using Nat.strongRecOn with
                  | ind n50 ih49 =>
                  intro v45 v46 v47 g48 hmn50 l_v45 u_v45 l_v46 u_v46 l_v47 u_v47 hIg48 hfg48
                  refine mm_g 2 (pc1 := 67) (lo1 := [some (.ref 0), some (.int (Int32.ofInt a1)), some (.int (Int32.ofInt a2)), some (.int (Int32.ofInt a3)), some (.int (Int32.ofInt v45)), some (.int (Int32.ofInt v46)), some (.int (Int32.ofInt v39)), some (.int (Int32.ofInt v47))]) (st1 := [.int (Int32.ofInt 1), .int (Int32.ofInt v47)]) (H1 := mz_mk g48 x) rfl ?_
                  refine mz_ic_gt (tgt := 138) rfl rfl (mz_rg l_v47 u_v47) ⟨by decide, by decide⟩ (fun c67_51 => ?_) (fun c67_51 => ?_)
                  · skip
                    refine mz_iincR (v := v39) (lo2 := [some (.ref 0), some (.int (Int32.ofInt a1)), some (.int (Int32.ofInt a2)), some (.int (Int32.ofInt a3)), some (.int (Int32.ofInt v45)), some (.int (Int32.ofInt v46)), some (.int (Int32.ofInt (v39 + 1))), some (.int (Int32.ofInt v47))]) rfl rfl rfl (Nat.le_of_ble_eq_true rfl) rfl ?_
                    refine mz_gt (tgt := 55) rfl rfl ?_
                    exact ih42 ((2 - (v39 + 1)).toNat) (by omega) v45 v46 (v39 + 1) (some (.int (Int32.ofInt v47))) g48 rfl (by omega) (by omega) (by omega) (by omega) (by omega) (by omega) (mz_nl_i _) hIg48 (fun k j hk => ((hfg48 k j (fun h => hk (Or.elim h (fun h => (Or.inl h)) (fun h => (Or.elim h (fun h => (Or.inr (Or.inl h))) (fun h => (Or.inr (Or.inr h)))))))).trans (hfg41 k j (fun h => hk (Or.elim h (fun h => (Or.inl h)) (fun h => (Or.elim h (fun h => (Or.inr (Or.inl h))) (fun h => (Or.inr (Or.inr h))))))))))
                  · skip
                    refine mm_g 3 (pc1 := 74) (lo1 := [some (.ref 0), some (.int (Int32.ofInt a1)), some (.int (Int32.ofInt a2)), some (.int (Int32.ofInt a3)), some (.int (Int32.ofInt v45)), some (.int (Int32.ofInt v46)), some (.int (Int32.ofInt v39)), some (.int (Int32.ofInt v47))]) (st1 := [.int (Int32.ofInt v39), .int (Int32.ofInt a1), .ref 0]) (H1 := mz_mk g48 x) rfl ?_
                    refine mz_cv rfl mt_11_381 (by decide) (sc_0 _) rfl (Nat.le_of_ble_eq_true rfl) (by omega) (c_X11_ownGain (by omega) hx hIg48 l_a1 u_a1 (by omega) (by omega) (fun v52 g53 hIg53 hfg53 l_v52 u_v52 => ⟨_, rfl, ?_⟩))
                    show mm_W d mmX11_game 77 [some (.ref 0), some (.int (Int32.ofInt a1)), some (.int (Int32.ofInt a2)), some (.int (Int32.ofInt a3)), some (.int (Int32.ofInt v45)), some (.int (Int32.ofInt v46)), some (.int (Int32.ofInt v39)), some (.int (Int32.ofInt v47))] [.int (Int32.ofInt v52)] (mz_mk g53 x) Q
                    refine mm_g 4 (pc1 := 82) (lo1 := [some (.ref 0), some (.int (Int32.ofInt a1)), some (.int (Int32.ofInt a2)), some (.int (Int32.ofInt a3)), some (.int (Int32.ofInt v45)), some (.int (Int32.ofInt v46)), some (.int (Int32.ofInt v39)), some (.int (Int32.ofInt v47))]) (st1 := [.int (Int32.ofInt v39), .int (Int32.ofInt 1), .int (Int32.ofInt a1), .ref 0, .int (Int32.ofInt v52)]) (H1 := mz_mk g53 x) rfl ?_
                    refine mz_isub rfl ?_
                    refine mz_cv rfl mt_11_381 (by decide) (sc_0 _) rfl (Nat.le_of_ble_eq_true rfl) (by omega) (c_X11_ownGain (by omega) hx hIg53 l_a1 u_a1 (by omega) (by omega) (fun v54 g55 hIg55 hfg55 l_v54 u_v54 => ⟨_, rfl, ?_⟩))
                    show mm_W d mmX11_game 86 [some (.ref 0), some (.int (Int32.ofInt a1)), some (.int (Int32.ofInt a2)), some (.int (Int32.ofInt a3)), some (.int (Int32.ofInt v45)), some (.int (Int32.ofInt v46)), some (.int (Int32.ofInt v39)), some (.int (Int32.ofInt v47))] [.int (Int32.ofInt v54), .int (Int32.ofInt v52)] (mz_mk g55 x) Q
                    refine mz_ic_lt (tgt := 132) rfl rfl (mz_rg l_v52 u_v52) (mz_rg l_v54 u_v54) (fun c86_55 => ?_) (fun c86_55 => ?_)
                    · skip
                      refine mz_iincR (v := v47) (lo2 := [some (.ref 0), some (.int (Int32.ofInt a1)), some (.int (Int32.ofInt a2)), some (.int (Int32.ofInt a3)), some (.int (Int32.ofInt v45)), some (.int (Int32.ofInt v46)), some (.int (Int32.ofInt v39)), some (.int (Int32.ofInt (v47 + 1)))]) rfl rfl rfl (Nat.le_of_ble_eq_true rfl) rfl ?_
                      refine mz_gt (tgt := 64) rfl rfl ?_
                      exact ih49 ((2 - (v47 + 1)).toNat) (by omega) v45 v46 (v47 + 1) g55 rfl (by omega) (by omega) (by omega) (by omega) (by omega) (by omega) hIg55 (fun k j hk => ((hfg55 k j (fun h => hk (Or.elim h (fun h => (Or.inl h)) (fun h => (Or.elim h (fun h => (Or.inr (Or.inl h))) (fun h => (Or.inr (Or.inr h)))))))).trans ((hfg53 k j (fun h => hk (Or.elim h (fun h => (Or.inl h)) (fun h => (Or.elim h (fun h => (Or.inr (Or.inl h))) (fun h => (Or.inr (Or.inr h)))))))).trans (hfg48 k j (fun h => hk (Or.elim h (fun h => (Or.inl h)) (fun h => (Or.elim h (fun h => (Or.inr (Or.inl h))) (fun h => (Or.inr (Or.inr h)))))))))))
                    · skip
                      refine mm_g 3 (pc1 := 93) (lo1 := [some (.ref 0), some (.int (Int32.ofInt a1)), some (.int (Int32.ofInt a2)), some (.int (Int32.ofInt a3)), some (.int (Int32.ofInt v45)), some (.int (Int32.ofInt v46)), some (.int (Int32.ofInt v39)), some (.int (Int32.ofInt v47))]) (st1 := [.int (Int32.ofInt v47), .int (Int32.ofInt a2), .ref 0]) (H1 := mz_mk g55 x) rfl ?_
                      refine mz_cv rfl mt_11_381 (by decide) (sc_0 _) rfl (Nat.le_of_ble_eq_true rfl) (by omega) (c_X11_ownGain (by omega) hx hIg55 l_a2 u_a2 (by omega) (by omega) (fun v56 g57 hIg57 hfg57 l_v56 u_v56 => ⟨_, rfl, ?_⟩))
                      show mm_W d mmX11_game 96 [some (.ref 0), some (.int (Int32.ofInt a1)), some (.int (Int32.ofInt a2)), some (.int (Int32.ofInt a3)), some (.int (Int32.ofInt v45)), some (.int (Int32.ofInt v46)), some (.int (Int32.ofInt v39)), some (.int (Int32.ofInt v47))] [.int (Int32.ofInt v56)] (mz_mk g57 x) Q
                      refine mm_g 4 (pc1 := 101) (lo1 := [some (.ref 0), some (.int (Int32.ofInt a1)), some (.int (Int32.ofInt a2)), some (.int (Int32.ofInt a3)), some (.int (Int32.ofInt v45)), some (.int (Int32.ofInt v46)), some (.int (Int32.ofInt v39)), some (.int (Int32.ofInt v47))]) (st1 := [.int (Int32.ofInt v47), .int (Int32.ofInt 1), .int (Int32.ofInt a2), .ref 0, .int (Int32.ofInt v56)]) (H1 := mz_mk g57 x) rfl ?_
                      refine mz_isub rfl ?_
                      refine mz_cv rfl mt_11_381 (by decide) (sc_0 _) rfl (Nat.le_of_ble_eq_true rfl) (by omega) (c_X11_ownGain (by omega) hx hIg57 l_a2 u_a2 (by omega) (by omega) (fun v58 g59 hIg59 hfg59 l_v58 u_v58 => ⟨_, rfl, ?_⟩))
                      show mm_W d mmX11_game 105 [some (.ref 0), some (.int (Int32.ofInt a1)), some (.int (Int32.ofInt a2)), some (.int (Int32.ofInt a3)), some (.int (Int32.ofInt v45)), some (.int (Int32.ofInt v46)), some (.int (Int32.ofInt v39)), some (.int (Int32.ofInt v47))] [.int (Int32.ofInt v58), .int (Int32.ofInt v56)] (mz_mk g59 x) Q
                      refine mz_ic_lt (tgt := 132) rfl rfl (mz_rg l_v56 u_v56) (mz_rg l_v58 u_v58) (fun c105_59 => ?_) (fun c105_59 => ?_)
                      · skip
                        refine mz_iincR (v := v47) (lo2 := [some (.ref 0), some (.int (Int32.ofInt a1)), some (.int (Int32.ofInt a2)), some (.int (Int32.ofInt a3)), some (.int (Int32.ofInt v45)), some (.int (Int32.ofInt v46)), some (.int (Int32.ofInt v39)), some (.int (Int32.ofInt (v47 + 1)))]) rfl rfl rfl (Nat.le_of_ble_eq_true rfl) rfl ?_
                        refine mz_gt (tgt := 64) rfl rfl ?_
                        exact ih49 ((2 - (v47 + 1)).toNat) (by omega) v45 v46 (v47 + 1) g59 rfl (by omega) (by omega) (by omega) (by omega) (by omega) (by omega) hIg59 (fun k j hk => ((hfg59 k j (fun h => hk (Or.elim h (fun h => (Or.inl h)) (fun h => (Or.elim h (fun h => (Or.inr (Or.inl h))) (fun h => (Or.inr (Or.inr h)))))))).trans ((hfg57 k j (fun h => hk (Or.elim h (fun h => (Or.inl h)) (fun h => (Or.elim h (fun h => (Or.inr (Or.inl h))) (fun h => (Or.inr (Or.inr h)))))))).trans ((hfg55 k j (fun h => hk (Or.elim h (fun h => (Or.inl h)) (fun h => (Or.elim h (fun h => (Or.inr (Or.inl h))) (fun h => (Or.inr (Or.inr h)))))))).trans ((hfg53 k j (fun h => hk (Or.elim h (fun h => (Or.inl h)) (fun h => (Or.elim h (fun h => (Or.inr (Or.inl h))) (fun h => (Or.inr (Or.inr h)))))))).trans (hfg48 k j (fun h => hk (Or.elim h (fun h => (Or.inl h)) (fun h => (Or.elim h (fun h => (Or.inr (Or.inl h))) (fun h => (Or.inr (Or.inr h)))))))))))))
                      · skip
                        refine mm_g 2 (pc1 := 111) (lo1 := [some (.ref 0), some (.int (Int32.ofInt a1)), some (.int (Int32.ofInt a2)), some (.int (Int32.ofInt a3)), some (.int (Int32.ofInt v45)), some (.int (Int32.ofInt v46)), some (.int (Int32.ofInt v39)), some (.int (Int32.ofInt v47))]) (st1 := [.int (Int32.ofInt (-1)), .int (Int32.ofInt v46)]) (H1 := mz_mk g59 x) rfl ?_
                        refine mz_ic_ne (tgt := 125) rfl rfl (mz_rg l_v46 u_v46) ⟨by decide, by decide⟩ (fun c111_59 => ?_) (fun c111_59 => ?_)
                        · skip
                          refine mm_g 2 (pc1 := 129) (lo1 := [some (.ref 0), some (.int (Int32.ofInt a1)), some (.int (Int32.ofInt a2)), some (.int (Int32.ofInt a3)), some (.int (Int32.ofInt v45)), some (.int (Int32.ofInt v46)), some (.int (Int32.ofInt v39)), some (.int (Int32.ofInt v47))]) (st1 := []) (H1 := mz_mk g59 x) rfl ?_
                          refine mz_iincW (v := v45) (lo2 := fun v60 => [some (.ref 0), some (.int (Int32.ofInt a1)), some (.int (Int32.ofInt a2)), some (.int (Int32.ofInt a3)), some (.int (Int32.ofInt v60)), some (.int (Int32.ofInt v46)), some (.int (Int32.ofInt v39)), some (.int (Int32.ofInt v47))]) rfl rfl rfl (Nat.le_of_ble_eq_true rfl) (fun _ => rfl) (fun v60 _ hwv60 => ?_)
                          have l_v60 := hwv60.1
                          have u_v60 := hwv60.2
                          refine mz_iincR (v := v47) (lo2 := [some (.ref 0), some (.int (Int32.ofInt a1)), some (.int (Int32.ofInt a2)), some (.int (Int32.ofInt a3)), some (.int (Int32.ofInt v60)), some (.int (Int32.ofInt v46)), some (.int (Int32.ofInt v39)), some (.int (Int32.ofInt (v47 + 1)))]) rfl rfl rfl (Nat.le_of_ble_eq_true rfl) rfl ?_
                          refine mz_gt (tgt := 64) rfl rfl ?_
                          exact ih49 ((2 - (v47 + 1)).toNat) (by omega) v60 v46 (v47 + 1) g59 rfl (by omega) (by omega) (by omega) (by omega) (by omega) (by omega) hIg59 (fun k j hk => ((hfg59 k j (fun h => hk (Or.elim h (fun h => (Or.inl h)) (fun h => (Or.elim h (fun h => (Or.inr (Or.inl h))) (fun h => (Or.inr (Or.inr h)))))))).trans ((hfg57 k j (fun h => hk (Or.elim h (fun h => (Or.inl h)) (fun h => (Or.elim h (fun h => (Or.inr (Or.inl h))) (fun h => (Or.inr (Or.inr h)))))))).trans ((hfg55 k j (fun h => hk (Or.elim h (fun h => (Or.inl h)) (fun h => (Or.elim h (fun h => (Or.inr (Or.inl h))) (fun h => (Or.inr (Or.inr h)))))))).trans ((hfg53 k j (fun h => hk (Or.elim h (fun h => (Or.inl h)) (fun h => (Or.elim h (fun h => (Or.inr (Or.inl h))) (fun h => (Or.inr (Or.inr h)))))))).trans (hfg48 k j (fun h => hk (Or.elim h (fun h => (Or.inl h)) (fun h => (Or.elim h (fun h => (Or.inr (Or.inl h))) (fun h => (Or.inr (Or.inr h)))))))))))))
                        · skip
                          refine mz_bip rfl bip_10 ?_
                          refine mm_g 1 (pc1 := 118) (lo1 := [some (.ref 0), some (.int (Int32.ofInt a1)), some (.int (Int32.ofInt a2)), some (.int (Int32.ofInt a3)), some (.int (Int32.ofInt v45)), some (.int (Int32.ofInt v46)), some (.int (Int32.ofInt v39)), some (.int (Int32.ofInt v47))]) (st1 := [.int (Int32.ofInt v39), .int (Int32.ofInt 10)]) (H1 := mz_mk g59 x) rfl ?_
                          refine mz_imul rfl ?_
                          refine mm_g 1 (pc1 := 121) (lo1 := [some (.ref 0), some (.int (Int32.ofInt a1)), some (.int (Int32.ofInt a2)), some (.int (Int32.ofInt a3)), some (.int (Int32.ofInt v45)), some (.int (Int32.ofInt v46)), some (.int (Int32.ofInt v39)), some (.int (Int32.ofInt v47))]) (st1 := [.int (Int32.ofInt v47), .int (Int32.ofInt (10 * v39))]) (H1 := mz_mk g59 x) rfl ?_
                          refine mz_iadd rfl ?_
                          refine mz_gt (tgt := 127) rfl rfl ?_
                          refine mm_g 1 (pc1 := 129) (lo1 := [some (.ref 0), some (.int (Int32.ofInt a1)), some (.int (Int32.ofInt a2)), some (.int (Int32.ofInt a3)), some (.int (Int32.ofInt v45)), some (.int (Int32.ofInt ((10 * v39) + v47))), some (.int (Int32.ofInt v39)), some (.int (Int32.ofInt v47))]) (st1 := []) (H1 := mz_mk g59 x) rfl ?_
                          refine mz_iincW (v := v45) (lo2 := fun v61 => [some (.ref 0), some (.int (Int32.ofInt a1)), some (.int (Int32.ofInt a2)), some (.int (Int32.ofInt a3)), some (.int (Int32.ofInt v61)), some (.int (Int32.ofInt ((10 * v39) + v47))), some (.int (Int32.ofInt v39)), some (.int (Int32.ofInt v47))]) rfl rfl rfl (Nat.le_of_ble_eq_true rfl) (fun _ => rfl) (fun v61 _ hwv61 => ?_)
                          have l_v61 := hwv61.1
                          have u_v61 := hwv61.2
                          refine mz_iincR (v := v47) (lo2 := [some (.ref 0), some (.int (Int32.ofInt a1)), some (.int (Int32.ofInt a2)), some (.int (Int32.ofInt a3)), some (.int (Int32.ofInt v61)), some (.int (Int32.ofInt ((10 * v39) + v47))), some (.int (Int32.ofInt v39)), some (.int (Int32.ofInt (v47 + 1)))]) rfl rfl rfl (Nat.le_of_ble_eq_true rfl) rfl ?_
                          refine mz_gt (tgt := 64) rfl rfl ?_
                          exact ih49 ((2 - (v47 + 1)).toNat) (by omega) v61 ((10 * v39) + v47) (v47 + 1) g59 rfl (by omega) (by omega) (by omega) (by omega) (by omega) (by omega) hIg59 (fun k j hk => ((hfg59 k j (fun h => hk (Or.elim h (fun h => (Or.inl h)) (fun h => (Or.elim h (fun h => (Or.inr (Or.inl h))) (fun h => (Or.inr (Or.inr h)))))))).trans ((hfg57 k j (fun h => hk (Or.elim h (fun h => (Or.inl h)) (fun h => (Or.elim h (fun h => (Or.inr (Or.inl h))) (fun h => (Or.inr (Or.inr h)))))))).trans ((hfg55 k j (fun h => hk (Or.elim h (fun h => (Or.inl h)) (fun h => (Or.elim h (fun h => (Or.inr (Or.inl h))) (fun h => (Or.inr (Or.inr h)))))))).trans ((hfg53 k j (fun h => hk (Or.elim h (fun h => (Or.inl h)) (fun h => (Or.elim h (fun h => (Or.inr (Or.inl h))) (fun h => (Or.inr (Or.inr h)))))))).trans (hfg48 k j (fun h => hk (Or.elim h (fun h => (Or.inl h)) (fun h => (Or.elim h (fun h => (Or.inr (Or.inl h))) (fun h => (Or.inr (Or.inr h)))))))))))))
                exact L51 _ v37 v38 0 g41 rfl (by omega) (by omega) (by omega) (by omega) (by decide) (by decide) hIg41 (fun _ _ _ => rfl)
            exact L44 _ 0 (-1) 0 none g rfl (by decide) (by decide) (by decide) (by decide) (by decide) (by decide) mz_nl_n hI (fun _ _ _ => rfl)
theorem t_X11_years {d : Nat} (hd : 15 ≤ d) {x : mm_X} (hx : mk_x x) {g : mz_G} (hI : mz_inv g) {a1 : Int} (l_a1 : (-2147483648) ≤ a1) (u_a1 : a1 ≤ 2147483647) {a2 : Int} (l_a2 : (-2147483648) ≤ a2) (u_a2 : a2 ≤ 2147483647) {a3 : Int} (l_a3 : (-2147483648) ≤ a3) (u_a3 : a3 ≤ 2147483647) {Q : (Option Value ⊕ Nat) → mm_H → Prop} (hQ : ∀ (r : Int) (g1 : mz_G), mz_inv g1 → mz_fr (fw_X11_years x a1 a2 a3) g g1 → (-2147483648) ≤ r → r ≤ 2147483647 → Q (.inl (some (.int (Int32.ofInt r)))) (mz_mk g1 x)) (hX0 : Q (.inr 0) (mz_mk g (mz_tx x))) (hX1 : Q (.inr 1) (mz_mk g (mz_tx x))) : mm_C d 166 [.ref 0, .int (Int32.ofInt a1), .int (Int32.ofInt a2), .int (Int32.ofInt a3)] (mz_mk g x) Q := by
  have kx := kn_x hx
  refine ⟨mmX11_years, [some (.ref 0), some (.int (Int32.ofInt a1)), some (.int (Int32.ofInt a2)), some (.int (Int32.ofInt a3)), none, none, none], rfl, rfl, ?_⟩
  refine mm_g 1 (pc1 := 1) (lo1 := [some (.ref 0), some (.int (Int32.ofInt a1)), some (.int (Int32.ofInt a2)), some (.int (Int32.ofInt a3)), none, none, none]) (st1 := [.int (Int32.ofInt a3)]) (H1 := mz_mk g x) rfl ?_
  refine mz_if_lt (tgt := 13) rfl rfl (mz_rg l_a3 u_a3) (fun c1_0 => ?_) (fun c1_0 => ?_)
  · skip
    refine mm_g 1 (pc1 := 14) (lo1 := [some (.ref 0), some (.int (Int32.ofInt a1)), some (.int (Int32.ofInt a2)), some (.int (Int32.ofInt a3)), none, none, none]) (st1 := [.int (Int32.ofInt 0)]) (H1 := mz_mk g x) rfl ?_
    refine mz_csx rfl mt_11_183 rfl (Nat.le_of_ble_eq_true rfl) (by omega) rfl nh_X11_mustBe (t_X11_mustBe (by omega) hx hI (by decide) (by decide) (fun hp1 => ?_) hX0)
    show mm_W d mmX11_years 17 [some (.ref 0), some (.int (Int32.ofInt a1)), some (.int (Int32.ofInt a2)), some (.int (Int32.ofInt a3)), none, none, none] [] (mz_mk g x) Q
    exfalso; omega
  · skip
    refine mm_g 2 (pc1 := 6) (lo1 := [some (.ref 0), some (.int (Int32.ofInt a1)), some (.int (Int32.ofInt a2)), some (.int (Int32.ofInt a3)), none, none, none]) (st1 := [.int (Int32.ofInt 2), .int (Int32.ofInt a3)]) (H1 := mz_mk g x) rfl ?_
    refine mz_ic_gt (tgt := 13) rfl rfl (mz_rg l_a3 u_a3) ⟨by decide, by decide⟩ (fun c6_1 => ?_) (fun c6_1 => ?_)
    · skip
      refine mm_g 1 (pc1 := 14) (lo1 := [some (.ref 0), some (.int (Int32.ofInt a1)), some (.int (Int32.ofInt a2)), some (.int (Int32.ofInt a3)), none, none, none]) (st1 := [.int (Int32.ofInt 0)]) (H1 := mz_mk g x) rfl ?_
      refine mz_csx rfl mt_11_183 rfl (Nat.le_of_ble_eq_true rfl) (by omega) rfl nh_X11_mustBe (t_X11_mustBe (by omega) hx hI (by decide) (by decide) (fun hp2 => ?_) hX0)
      show mm_W d mmX11_years 17 [some (.ref 0), some (.int (Int32.ofInt a1)), some (.int (Int32.ofInt a2)), some (.int (Int32.ofInt a3)), none, none, none] [] (mz_mk g x) Q
      exfalso; omega
    · skip
      refine mm_g 1 (pc1 := 10) (lo1 := [some (.ref 0), some (.int (Int32.ofInt a1)), some (.int (Int32.ofInt a2)), some (.int (Int32.ofInt a3)), none, none, none]) (st1 := [.int (Int32.ofInt 1)]) (H1 := mz_mk g x) rfl ?_
      refine mz_gt (tgt := 14) rfl rfl ?_
      refine mz_csx rfl mt_11_183 rfl (Nat.le_of_ble_eq_true rfl) (by omega) rfl nh_X11_mustBe (t_X11_mustBe (by omega) hx hI (by decide) (by decide) (fun hp3 => ?_) hX0)
      show mm_W d mmX11_years 17 [some (.ref 0), some (.int (Int32.ofInt a1)), some (.int (Int32.ofInt a2)), some (.int (Int32.ofInt a3)), none, none, none] [] (mz_mk g x) Q
      refine mm_g 1 (pc1 := 18) (lo1 := [some (.ref 0), some (.int (Int32.ofInt a1)), some (.int (Int32.ofInt a2)), some (.int (Int32.ofInt a3)), none, none, none]) (st1 := [.int (Int32.ofInt a2)]) (H1 := mz_mk g x) rfl ?_
      refine mz_cs rfl mt_11_279 (by decide) rfl (Nat.le_of_ble_eq_true rfl) (by omega) (c_X11_isAhead (by omega) hx hI l_a2 u_a2 (fun v4 l_v4 u_v4 => ⟨_, rfl, ?_⟩))
      show mm_W d mmX11_years 21 [some (.ref 0), some (.int (Int32.ofInt a1)), some (.int (Int32.ofInt a2)), some (.int (Int32.ofInt a3)), none, none, none] [.int (Int32.ofInt v4)] (mz_mk g x) Q
      refine mz_csx rfl mt_11_106 rfl (Nat.le_of_ble_eq_true rfl) (by omega) rfl nh_X11_mustFit (t_X11_mustFit (by omega) hx hI l_v4 u_v4 (fun hp5 => ?_) (fun _ => hX1))
      show mm_W d mmX11_years 24 [some (.ref 0), some (.int (Int32.ofInt a1)), some (.int (Int32.ofInt a2)), some (.int (Int32.ofInt a3)), none, none, none] [] (mz_mk g x) Q
      refine mm_g 2 (pc1 := 26) (lo1 := [some (.ref 0), some (.int (Int32.ofInt a1)), some (.int (Int32.ofInt a2)), some (.int (Int32.ofInt a3)), none, none, none]) (st1 := [.int (Int32.ofInt a1), .ref 0]) (H1 := mz_mk g x) rfl ?_
      refine mz_pI rfl fd_11_91 (sc_0 _) hI bd_0_15 (by omega) (by omega) (fun g6 hIg6 hug6 => ?_)
      refine mm_g 1 (pc1 := 30) (lo1 := [some (.ref 0), some (.int (Int32.ofInt a1)), some (.int (Int32.ofInt a2)), some (.int (Int32.ofInt a3)), none, none, none]) (st1 := [.ref 0]) (H1 := mz_mk g6 x) rfl ?_
      refine mz_fgR (v := 124) rfl fd_11_75 (by decide) (sc_0 _) (rf_0_12 _ _ _) ?_
      refine mm_g 1 (pc1 := 34) (lo1 := [some (.ref 0), some (.int (Int32.ofInt a1)), some (.int (Int32.ofInt a2)), some (.int (Int32.ofInt a3)), none, none, none]) (st1 := [.ref 0, .ref 124]) (H1 := mz_mk g6 x) rfl ?_
      refine mz_fgR (v := 86) rfl fd_11_37 (by decide) (sc_0 _) (rf_0_5 _ _ _) ?_
      refine mz_fgR (v := 87) rfl fd_11_158 (by decide) (sc_86 _) (rf_86_0 _ _ _) ?_
      refine mz_cv rfl mt_11_384 (by decide) (sc_124 _) rfl (Nat.le_of_ble_eq_true rfl) (by omega) (c_X9_copyAll (by omega) hx hIg6 kp_tks_124 kp_tks_87 (fun g7 hIg7 hfg7 => ⟨_, rfl, ?_⟩))
      show mm_W d mmX11_years 43 [some (.ref 0), some (.int (Int32.ofInt a1)), some (.int (Int32.ofInt a2)), some (.int (Int32.ofInt a3)), none, none, none] [] (mz_mk g7 x) Q
      refine mm_g 4 (pc1 := 49) (lo1 := [some (.ref 0), some (.int (Int32.ofInt a1)), some (.int (Int32.ofInt a2)), some (.int (Int32.ofInt a3)), some (.int (Int32.ofInt 0)), some (.int (Int32.ofInt 0)), none]) (st1 := []) (H1 := mz_mk g7 x) rfl ?_
      have L14 : ∀ n13 : Nat, ∀ (v8 : Int) (v9 : Int) (o10 : Option Value) (g11 : mz_G), (2147483647 - v9).toNat = n13 → (-2147483648) ≤ v8 → v8 ≤ 2147483647 → 0 ≤ v9 → v9 ≤ 2147483647 → mz_nl o10 → mz_inv g11 → mz_fr (fl_X11_years_49 x a1 a2 a3) g7 g11 → mm_W d mmX11_years 49 [some (.ref 0), some (.int (Int32.ofInt a1)), some (.int (Int32.ofInt a2)), some (.int (Int32.ofInt a3)), some (.int (Int32.ofInt v8)), some (.int (Int32.ofInt v9)), o10] [] (mz_mk g11 x) Q := by
        intro n13
        induction n13 using Nat.strongRecOn with
        | ind n13 ih12 =>
        intro v8 v9 o10 g11 hmn13 l_v8 u_v8 l_v9 u_v9 h_o10 hIg11 hfg11
        refine mm_g 2 (pc1 := 52) (lo1 := [some (.ref 0), some (.int (Int32.ofInt a1)), some (.int (Int32.ofInt a2)), some (.int (Int32.ofInt a3)), some (.int (Int32.ofInt v8)), some (.int (Int32.ofInt v9)), o10]) (st1 := [.int (Int32.ofInt a2), .int (Int32.ofInt v9)]) (H1 := mz_mk g11 x) rfl ?_
        refine mz_ic_ge (tgt := 108) rfl rfl (mz_rg l_v9 u_v9) (mz_rg l_a2 u_a2) (fun c52_14 => ?_) (fun c52_14 => ?_)
        · skip
          refine mm_g 1 (pc1 := 109) (lo1 := [some (.ref 0), some (.int (Int32.ofInt a1)), some (.int (Int32.ofInt a2)), some (.int (Int32.ofInt a3)), some (.int (Int32.ofInt v8)), some (.int (Int32.ofInt v9)), o10]) (st1 := [.int (Int32.ofInt a3)]) (H1 := mz_mk g11 x) rfl ?_
          refine mz_if_ne (tgt := 117) rfl rfl (mz_rg l_a3 u_a3) (fun c109_14 => ?_) (fun c109_14 => ?_)
          · skip
            refine mm_g 2 (pc1 := 119) (lo1 := [some (.ref 0), some (.int (Int32.ofInt a1)), some (.int (Int32.ofInt a2)), some (.int (Int32.ofInt a3)), some (.int (Int32.ofInt v8)), some (.int (Int32.ofInt v9)), o10]) (st1 := [.int (Int32.ofInt 1), .int (Int32.ofInt a3)]) (H1 := mz_mk g11 x) rfl ?_
            refine mz_ic_ne (tgt := 136) rfl rfl (mz_rg l_a3 u_a3) ⟨by decide, by decide⟩ (fun c119_14 => ?_) (fun c119_14 => ?_)
            · skip
              refine mm_g 1 (pc1 := 137) (lo1 := [some (.ref 0), some (.int (Int32.ofInt a1)), some (.int (Int32.ofInt a2)), some (.int (Int32.ofInt a3)), some (.int (Int32.ofInt v8)), some (.int (Int32.ofInt v9)), o10]) (st1 := [.ref 0]) (H1 := mz_mk g11 x) rfl ?_
              refine mz_fgR (v := x.1) rfl fd_11_16 (by decide) (sc_0 _) rfl ?_
              refine mm_g 1 (pc1 := 141) (lo1 := [some (.ref 0), some (.int (Int32.ofInt a1)), some (.int (Int32.ofInt a2)), some (.int (Int32.ofInt a3)), some (.int (Int32.ofInt v8)), some (.int (Int32.ofInt v9)), o10]) (st1 := [.ref 0, .ref x.1]) (H1 := mz_mk g11 x) rfl ?_
              refine mz_fgR (v := 124) rfl fd_11_75 (by decide) (sc_0 _) (rf_0_12 _ _ _) ?_
              refine mz_cv rfl mt_11_174 (by decide) (kc_load (kx_1 hx) _) rfl (Nat.le_of_ble_eq_true rfl) (by omega) (c_X1_lettersOfAll (by omega) hx hIg11 (kx_1 hx) kp_tks_124 (fun v15 l_v15 u_v15 => ⟨_, rfl, ?_⟩))
              show mm_W d mmX11_years 147 [some (.ref 0), some (.int (Int32.ofInt a1)), some (.int (Int32.ofInt a2)), some (.int (Int32.ofInt a3)), some (.int (Int32.ofInt v8)), some (.int (Int32.ofInt v9)), o10] [.int (Int32.ofInt v15)] (mz_mk g11 x) Q
              exact mm_rt rfl rfl (hQ _ _ hIg11 (fun k j hk => ((hfg11 k j (fun h => hk (Or.elim h (fun h => (Or.inl h)) (fun h => (Or.elim h (fun h => (Or.inr (Or.inl h))) (fun h => (Or.elim h (fun h => (Or.inr (Or.inr (Or.inl h)))) (fun h => (Or.inr (Or.inr (Or.inr h))))))))))).trans ((hfg7 k j (fun h => hk (Or.inr (Or.inl h)))).trans (hug6.2 k j (fun h => hk (Or.inl h)))))) (by omega) (by omega))
            · skip
              refine mm_g 1 (pc1 := 123) (lo1 := [some (.ref 0), some (.int (Int32.ofInt a1)), some (.int (Int32.ofInt a2)), some (.int (Int32.ofInt a3)), some (.int (Int32.ofInt v8)), some (.int (Int32.ofInt v9)), o10]) (st1 := [.ref 0]) (H1 := mz_mk g11 x) rfl ?_
              refine mz_fgR (v := x.1) rfl fd_11_16 (by decide) (sc_0 _) rfl ?_
              refine mm_g 1 (pc1 := 127) (lo1 := [some (.ref 0), some (.int (Int32.ofInt a1)), some (.int (Int32.ofInt a2)), some (.int (Int32.ofInt a3)), some (.int (Int32.ofInt v8)), some (.int (Int32.ofInt v9)), o10]) (st1 := [.ref 0, .ref x.1]) (H1 := mz_mk g11 x) rfl ?_
              refine mz_fgR (v := 124) rfl fd_11_75 (by decide) (sc_0 _) (rf_0_12 _ _ _) ?_
              refine mz_cv rfl mt_11_167 (by decide) (kc_load (kx_1 hx) _) rfl (Nat.le_of_ble_eq_true rfl) (by omega) (c_X1_howManyFull (by omega) hx hIg11 (kx_1 hx) kp_tks_124 (fun v16 l_v16 u_v16 => ⟨_, rfl, ?_⟩))
              show mm_W d mmX11_years 133 [some (.ref 0), some (.int (Int32.ofInt a1)), some (.int (Int32.ofInt a2)), some (.int (Int32.ofInt a3)), some (.int (Int32.ofInt v8)), some (.int (Int32.ofInt v9)), o10] [.int (Int32.ofInt v16)] (mz_mk g11 x) Q
              refine mz_gt (tgt := 147) rfl rfl ?_
              exact mm_rt rfl rfl (hQ _ _ hIg11 (fun k j hk => ((hfg11 k j (fun h => hk (Or.elim h (fun h => (Or.inl h)) (fun h => (Or.elim h (fun h => (Or.inr (Or.inl h))) (fun h => (Or.elim h (fun h => (Or.inr (Or.inr (Or.inl h)))) (fun h => (Or.inr (Or.inr (Or.inr h))))))))))).trans ((hfg7 k j (fun h => hk (Or.inr (Or.inl h)))).trans (hug6.2 k j (fun h => hk (Or.inl h)))))) (by omega) (by omega))
          · skip
            refine mm_g 1 (pc1 := 114) (lo1 := [some (.ref 0), some (.int (Int32.ofInt a1)), some (.int (Int32.ofInt a2)), some (.int (Int32.ofInt a3)), some (.int (Int32.ofInt v8)), some (.int (Int32.ofInt v9)), o10]) (st1 := [.int (Int32.ofInt v8)]) (H1 := mz_mk g11 x) rfl ?_
            refine mz_gt (tgt := 147) rfl rfl ?_
            exact mm_rt rfl rfl (hQ _ _ hIg11 (fun k j hk => ((hfg11 k j (fun h => hk (Or.elim h (fun h => (Or.inl h)) (fun h => (Or.elim h (fun h => (Or.inr (Or.inl h))) (fun h => (Or.elim h (fun h => (Or.inr (Or.inr (Or.inl h)))) (fun h => (Or.inr (Or.inr (Or.inr h))))))))))).trans ((hfg7 k j (fun h => hk (Or.inr (Or.inl h)))).trans (hug6.2 k j (fun h => hk (Or.inl h)))))) (by omega) (by omega))
        · skip
          refine mm_g 1 (pc1 := 56) (lo1 := [some (.ref 0), some (.int (Int32.ofInt a1)), some (.int (Int32.ofInt a2)), some (.int (Int32.ofInt a3)), some (.int (Int32.ofInt v8)), some (.int (Int32.ofInt v9)), o10]) (st1 := [.ref 0]) (H1 := mz_mk g11 x) rfl ?_
          refine mz_cv rfl mt_11_387 (by decide) (sc_0 _) rfl (Nat.le_of_ble_eq_true rfl) (by omega) (c_X11_drawAhead (by omega) hx hIg11 (fun g17 hIg17 hfg17 => ⟨_, rfl, ?_⟩))
          show mm_W d mmX11_years 59 [some (.ref 0), some (.int (Int32.ofInt a1)), some (.int (Int32.ofInt a2)), some (.int (Int32.ofInt a3)), some (.int (Int32.ofInt v8)), some (.int (Int32.ofInt v9)), o10] [] (mz_mk g17 x) Q
          refine mm_g 1 (pc1 := 60) (lo1 := [some (.ref 0), some (.int (Int32.ofInt a1)), some (.int (Int32.ofInt a2)), some (.int (Int32.ofInt a3)), some (.int (Int32.ofInt v8)), some (.int (Int32.ofInt v9)), o10]) (st1 := [.ref 0]) (H1 := mz_mk g17 x) rfl ?_
          refine mz_fgR (v := x.1) rfl fd_11_16 (by decide) (sc_0 _) rfl ?_
          refine mm_g 1 (pc1 := 64) (lo1 := [some (.ref 0), some (.int (Int32.ofInt a1)), some (.int (Int32.ofInt a2)), some (.int (Int32.ofInt a3)), some (.int (Int32.ofInt v8)), some (.int (Int32.ofInt v9)), o10]) (st1 := [.ref 0, .ref x.1]) (H1 := mz_mk g17 x) rfl ?_
          refine mz_fgR (v := 124) rfl fd_11_75 (by decide) (sc_0 _) (rf_0_12 _ _ _) ?_
          refine mz_cv rfl mt_11_167 (by decide) (kc_load (kx_1 hx) _) rfl (Nat.le_of_ble_eq_true rfl) (by omega) (c_X1_howManyFull (by omega) hx hIg17 (kx_1 hx) kp_tks_124 (fun v18 l_v18 u_v18 => ⟨_, rfl, ?_⟩))
          show mm_W d mmX11_years 70 [some (.ref 0), some (.int (Int32.ofInt a1)), some (.int (Int32.ofInt a2)), some (.int (Int32.ofInt a3)), some (.int (Int32.ofInt v8)), some (.int (Int32.ofInt v9)), o10] [.int (Int32.ofInt v18)] (mz_mk g17 x) Q
          refine mm_g 2 (pc1 := 73) (lo1 := [some (.ref 0), some (.int (Int32.ofInt a1)), some (.int (Int32.ofInt a2)), some (.int (Int32.ofInt a3)), some (.int (Int32.ofInt v8)), some (.int (Int32.ofInt v9)), some (.int (Int32.ofInt v18))]) (st1 := [.ref 0]) (H1 := mz_mk g17 x) rfl ?_
          refine mz_fgR (v := x.1) rfl fd_11_16 (by decide) (sc_0 _) rfl ?_
          refine mm_g 1 (pc1 := 77) (lo1 := [some (.ref 0), some (.int (Int32.ofInt a1)), some (.int (Int32.ofInt a2)), some (.int (Int32.ofInt a3)), some (.int (Int32.ofInt v8)), some (.int (Int32.ofInt v9)), some (.int (Int32.ofInt v18))]) (st1 := [.ref 0, .ref x.1]) (H1 := mz_mk g17 x) rfl ?_
          refine mz_fgR (v := 124) rfl fd_11_75 (by decide) (sc_0 _) (rf_0_12 _ _ _) ?_
          refine mz_cv rfl mt_11_256 (by decide) (kc_load (kx_1 hx) _) rfl (Nat.le_of_ble_eq_true rfl) (by omega) (c_X1_passDay (by omega) hx hIg17 (kx_1 hx) kp_tks_124 (fun g19 hIg19 hfg19 => ⟨_, rfl, ?_⟩))
          show mm_W d mmX11_years 83 [some (.ref 0), some (.int (Int32.ofInt a1)), some (.int (Int32.ofInt a2)), some (.int (Int32.ofInt a3)), some (.int (Int32.ofInt v8)), some (.int (Int32.ofInt v9)), some (.int (Int32.ofInt v18))] [] (mz_mk g19 x) Q
          refine mm_g 2 (pc1 := 86) (lo1 := [some (.ref 0), some (.int (Int32.ofInt a1)), some (.int (Int32.ofInt a2)), some (.int (Int32.ofInt a3)), some (.int (Int32.ofInt v8)), some (.int (Int32.ofInt v9)), some (.int (Int32.ofInt v18))]) (st1 := [.ref 0, .int (Int32.ofInt v8)]) (H1 := mz_mk g19 x) rfl ?_
          refine mz_fgR (v := x.1) rfl fd_11_16 (by decide) (sc_0 _) rfl ?_
          refine mm_g 1 (pc1 := 90) (lo1 := [some (.ref 0), some (.int (Int32.ofInt a1)), some (.int (Int32.ofInt a2)), some (.int (Int32.ofInt a3)), some (.int (Int32.ofInt v8)), some (.int (Int32.ofInt v9)), some (.int (Int32.ofInt v18))]) (st1 := [.ref 0, .ref x.1, .int (Int32.ofInt v8)]) (H1 := mz_mk g19 x) rfl ?_
          refine mz_fgR (v := 124) rfl fd_11_75 (by decide) (sc_0 _) (rf_0_12 _ _ _) ?_
          refine mz_cv rfl mt_11_167 (by decide) (kc_load (kx_1 hx) _) rfl (Nat.le_of_ble_eq_true rfl) (by omega) (c_X1_howManyFull (by omega) hx hIg19 (kx_1 hx) kp_tks_124 (fun v20 l_v20 u_v20 => ⟨_, rfl, ?_⟩))
          show mm_W d mmX11_years 96 [some (.ref 0), some (.int (Int32.ofInt a1)), some (.int (Int32.ofInt a2)), some (.int (Int32.ofInt a3)), some (.int (Int32.ofInt v8)), some (.int (Int32.ofInt v9)), some (.int (Int32.ofInt v18))] [.int (Int32.ofInt v20), .int (Int32.ofInt v8)] (mz_mk g19 x) Q
          refine mm_g 1 (pc1 := 98) (lo1 := [some (.ref 0), some (.int (Int32.ofInt a1)), some (.int (Int32.ofInt a2)), some (.int (Int32.ofInt a3)), some (.int (Int32.ofInt v8)), some (.int (Int32.ofInt v9)), some (.int (Int32.ofInt v18))]) (st1 := [.int (Int32.ofInt v18), .int (Int32.ofInt v20), .int (Int32.ofInt v8)]) (H1 := mz_mk g19 x) rfl ?_
          refine mz_isub_w rfl (fun v21 _ hwv21 => ?_)
          have l_v21 := hwv21.1
          have u_v21 := hwv21.2
          refine mz_iadd_w rfl (fun v22 _ hwv22 => ?_)
          have l_v22 := hwv22.1
          have u_v22 := hwv22.2
          refine mm_g 1 (pc1 := 102) (lo1 := [some (.ref 0), some (.int (Int32.ofInt a1)), some (.int (Int32.ofInt a2)), some (.int (Int32.ofInt a3)), some (.int (Int32.ofInt v22)), some (.int (Int32.ofInt v9)), some (.int (Int32.ofInt v18))]) (st1 := []) (H1 := mz_mk g19 x) rfl ?_
          refine mz_iincR (v := v9) (lo2 := [some (.ref 0), some (.int (Int32.ofInt a1)), some (.int (Int32.ofInt a2)), some (.int (Int32.ofInt a3)), some (.int (Int32.ofInt v22)), some (.int (Int32.ofInt (v9 + 1))), some (.int (Int32.ofInt v18))]) rfl rfl rfl (Nat.le_of_ble_eq_true rfl) rfl ?_
          refine mz_gt (tgt := 49) rfl rfl ?_
          exact ih12 ((2147483647 - (v9 + 1)).toNat) (by omega) v22 (v9 + 1) (some (.int (Int32.ofInt v18))) g19 rfl (by omega) (by omega) (by omega) (by omega) (mz_nl_i _) hIg19 (fun k j hk => ((hfg19 k j (fun h => hk (Or.elim h (fun h => (Or.inr (Or.inl h))) (fun h => (Or.elim h (fun h => (Or.inr (Or.inr (Or.inl h)))) (fun h => (Or.inr (Or.inr (Or.inr h))))))))).trans ((hfg17 k j (fun h => hk (Or.elim h (fun h => (Or.inl h)) (fun h => (Or.inr (Or.inl h)))))).trans (hfg11 k j (fun h => hk (Or.elim h (fun h => (Or.inl h)) (fun h => (Or.elim h (fun h => (Or.inr (Or.inl h))) (fun h => (Or.elim h (fun h => (Or.inr (Or.inr (Or.inl h)))) (fun h => (Or.inr (Or.inr (Or.inr h))))))))))))))
      exact L14 _ 0 0 none g7 rfl (by decide) (by decide) (by decide) (by decide) mz_nl_n hIg7 (fun _ _ _ => rfl)
