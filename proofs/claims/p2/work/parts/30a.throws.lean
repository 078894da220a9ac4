/-! CONTRACTS once more: what is thrown, the tape (wip/p2/tools/gen30.py) -/
theorem t_X7_takeBytes {d : Nat} (hd : 1 ≤ d) {x : mm_X} (hx : mk_x x) {g : mz_G} (hI : mz_inv g) {a1 : Int} (l_a1 : (-2147483648) ≤ a1) (u_a1 : a1 ≤ 2147483647) {Q : (Option Value ⊕ Nat) → mm_H → Prop} (hQ : ∀ (g1 : mz_G), mz_inv g1 → mz_fr (fw_X7_takeBytes x a1) g g1 → (g 82 1 + 4 ≤ 700 → g1 82 1 = g 82 1 + 4) → Q (.inl none) (mz_mk g1 x)) : mm_C d 79 [.ref 82, .int (Int32.ofInt a1)] (mz_mk g x) Q := by
  refine ⟨mmX7_takeBytes, [some (.ref 82), some (.int (Int32.ofInt a1)), none], rfl, rfl, ?_⟩
  have bz0 := mz_rd hI bd_82_1
  refine mz_bip rfl bip_24 ?_
  refine mm_g 1 (pc1 := 3) (lo1 := [some (.ref 82), some (.int (Int32.ofInt a1)), some (.int (Int32.ofInt 24))]) (st1 := []) (H1 := mz_mk g x) rfl ?_
  have L5 : ∀ n4 : Nat, ∀ (v1 : Int) (g2 : mz_G), (v1 - (-8)).toNat = n4 → (-8) ≤ v1 → v1 ≤ 24 → mz_inv g2 → mz_fr (fl_X7_takeBytes_3 x a1) g g2 → (g 82 1 + 4 ≤ 700 → 8 * (g2 82 1 - g 82 1) + v1 = 24) → mm_W d mmX7_takeBytes 3 [some (.ref 82), some (.int (Int32.ofInt a1)), some (.int (Int32.ofInt v1))] [] (mz_mk g2 x) Q := by
    intro n4
    induction n4 using Nat.strongRecOn with
    | ind n4 ih3 =>
    intro v1 g2 hmn4 l_v1 u_v1 hIg2 hfg2 hv6
    have bz_g2_1 := mz_rd hIg2 bd_82_1
    refine mm_g 1 (pc1 := 4) (lo1 := [some (.ref 82), some (.int (Int32.ofInt a1)), some (.int (Int32.ofInt v1))]) (st1 := [.int (Int32.ofInt v1)]) (H1 := mz_mk g2 x) rfl ?_
    refine mz_if_lt (tgt := 55) rfl rfl (mz_rg l_v1 u_v1) (fun c4_6 => ?_) (fun c4_6 => ?_)
    · skip
      exact mm_rt rfl rfl (hQ _ hIg2 (fun k j hk => (hfg2 k j (fun h => hk (Or.elim h (fun h => (Or.inl h)) (fun h => (Or.inr h)))))) (by have h9 := (show g2 82 1 = (g2 82 1) from rfl); omega))
    · skip
      refine mm_g 1 (pc1 := 8) (lo1 := [some (.ref 82), some (.int (Int32.ofInt a1)), some (.int (Int32.ofInt v1))]) (st1 := [.ref 82]) (H1 := mz_mk g2 x) rfl ?_
      refine mz_fgI (v := (g2 82 1)) rfl fd_7_15 (by decide) (sc_82 _) (show g2 82 1 = (g2 82 1) from rfl) ?_
      refine mz_if_lt (tgt := 49) rfl rfl ⟨by omega, by omega⟩ (fun c11_6 => ?_) (fun c11_6 => ?_)
      · exfalso; omega
      · skip
        refine mm_g 1 (pc1 := 15) (lo1 := [some (.ref 82), some (.int (Int32.ofInt a1)), some (.int (Int32.ofInt v1))]) (st1 := [.ref 82]) (H1 := mz_mk g2 x) rfl ?_
        refine mz_fgI (v := (g2 82 1)) rfl fd_7_15 (by decide) (sc_82 _) (show g2 82 1 = (g2 82 1) from rfl) ?_
        refine mm_g 1 (pc1 := 19) (lo1 := [some (.ref 82), some (.int (Int32.ofInt a1)), some (.int (Int32.ofInt v1))]) (st1 := [.ref 82, .int (Int32.ofInt (g2 82 1))]) (H1 := mz_mk g2 x) rfl ?_
        refine mz_fgR (v := 83) rfl fd_7_9 (by decide) (sc_82 _) (rf_82_0 _ _ _) ?_
        refine mz_al rfl (sh_83 _) (by decide) ?_
        refine mz_ic_ge (tgt := 49) rfl rfl ⟨by omega, by omega⟩ ⟨by omega, by omega⟩ (fun c23_6 => ?_) (fun c23_6 => ?_)
        · skip
          refine mz_iincR (v := v1) (lo2 := [some (.ref 82), some (.int (Int32.ofInt a1)), some (.int (Int32.ofInt (v1 + (-8))))]) rfl rfl rfl (Nat.le_of_ble_eq_true rfl) rfl ?_
          refine mz_gt (tgt := 3) rfl rfl ?_
          exact ih3 (((v1 + (-8)) - (-8)).toNat) (by omega) (v1 + (-8)) g2 rfl (by omega) (by omega) hIg2 (fun k j hk => (hfg2 k j (fun h => hk (Or.elim h (fun h => (Or.inl h)) (fun h => (Or.inr h)))))) (by have h9 := (show g2 82 1 = (g2 82 1) from rfl); omega)
        · skip
          refine mm_g 1 (pc1 := 27) (lo1 := [some (.ref 82), some (.int (Int32.ofInt a1)), some (.int (Int32.ofInt v1))]) (st1 := [.ref 82]) (H1 := mz_mk g2 x) rfl ?_
          refine mz_fgR (v := 83) rfl fd_7_9 (by decide) (sc_82 _) (rf_82_0 _ _ _) ?_
          refine mm_g 1 (pc1 := 31) (lo1 := [some (.ref 82), some (.int (Int32.ofInt a1)), some (.int (Int32.ofInt v1))]) (st1 := [.ref 82, .ref 83]) (H1 := mz_mk g2 x) rfl ?_
          refine mz_fgI (v := (g2 82 1)) rfl fd_7_15 (by decide) (sc_82 _) (show g2 82 1 = (g2 82 1) from rfl) ?_
          refine mm_g 2 (pc1 := 36) (lo1 := [some (.ref 82), some (.int (Int32.ofInt a1)), some (.int (Int32.ofInt v1))]) (st1 := [.int (Int32.ofInt v1), .int (Int32.ofInt a1), .int (Int32.ofInt (g2 82 1)), .ref 83]) (H1 := mz_mk g2 x) rfl ?_
          refine mz_ishr rfl (fun v7 e_v7 hwv7 => ?_)
          have l_v7 := hwv7.1
          have u_v7 := hwv7.2
          refine mz_i2b rfl (fun v8 _ hwv8 => ?_)
          have l_v8 := hwv8.1
          have u_v8 := hwv8.2
          refine mz_sB rfl (sh_83 _) (by omega) (by omega) (by decide) hIg2 (ba_83 _) (by omega) (by omega) (fun g9 hIg9 hug9 => ?_)
          refine mm_g 2 (pc1 := 41) (lo1 := [some (.ref 82), some (.int (Int32.ofInt a1)), some (.int (Int32.ofInt v1))]) (st1 := [.ref 82, .ref 82]) (H1 := mz_mk g9 x) rfl ?_
          refine mz_fgI (v := (g2 82 1)) rfl fd_7_15 (by decide) (sc_82 _) (show g9 82 1 = (g2 82 1) from ((hug9.2 82 1 (fun h => absurd h.1 (by decide))).trans rfl)) ?_
          refine mm_g 1 (pc1 := 45) (lo1 := [some (.ref 82), some (.int (Int32.ofInt a1)), some (.int (Int32.ofInt v1))]) (st1 := [.int (Int32.ofInt 1), .int (Int32.ofInt (g2 82 1)), .ref 82]) (H1 := mz_mk g9 x) rfl ?_
          refine mz_iadd rfl ?_
          refine mz_pI rfl fd_7_15 (sc_82 _) hIg9 bd_82_1 (by omega) (by omega) (fun g10 hIg10 hug10 => ?_)
          refine mz_iincR (v := v1) (lo2 := [some (.ref 82), some (.int (Int32.ofInt a1)), some (.int (Int32.ofInt (v1 + (-8))))]) rfl rfl rfl (Nat.le_of_ble_eq_true rfl) rfl ?_
          refine mz_gt (tgt := 3) rfl rfl ?_
          exact ih3 (((v1 + (-8)) - (-8)).toNat) (by omega) (v1 + (-8)) g10 rfl (by omega) (by omega) hIg10 (fun k j hk => ((hug10.2 k j (fun h => hk (Or.inr h))).trans ((hug9.2 k j (fun h => hk (Or.inl h.1))).trans (hfg2 k j (fun h => hk (Or.elim h (fun h => (Or.inl h)) (fun h => (Or.inr h)))))))) (by have h9 := (show g10 82 1 = ((g2 82 1) + 1) from hug10.1); omega)
  exact L5 _ 24 g rfl (by decide) (by decide) hI (fun _ _ _ => rfl) (by have h9 := (show g 82 1 = (g 82 1) from rfl); omega)
theorem t_X11_feed {d : Nat} (hd : 2 ≤ d) {x : mm_X} (hx : mk_x x) {g : mz_G} (hI : mz_inv g) {a1 : Int} (l_a1 : (-2147483648) ≤ a1) (u_a1 : a1 ≤ 2147483647) {a2 : Int} (l_a2 : (-2147483648) ≤ a2) (u_a2 : a2 ≤ 2147483647) {a3 : Int} (l_a3 : (-2147483648) ≤ a3) (u_a3 : a3 ≤ 2147483647) {a4 : Int} (l_a4 : (-2147483648) ≤ a4) (u_a4 : a4 ≤ 2147483647) {a5 : Int} (l_a5 : (-2147483648) ≤ a5) (u_a5 : a5 ≤ 2147483647) {Q : (Option Value ⊕ Nat) → mm_H → Prop} (hQ : ∀ (r : Int) (g1 : mz_G), mz_inv g1 → mz_fr (fw_X11_feed x a1 a2 a3 a4 a5) g g1 → (-1) ≤ r → r ≤ 700 → ((g 82 1 + 20 ≤ 700 → r = g 82 1 + 20 ∧ g1 82 1 = r) ∧ (700 < g 82 1 + 20 → r = -1 ∧ g1 82 1 = g 82 1)) → Q (.inl (some (.int (Int32.ofInt r)))) (mz_mk g1 x)) : mm_C d 123 [.ref 0, .int (Int32.ofInt a1), .int (Int32.ofInt a2), .int (Int32.ofInt a3), .int (Int32.ofInt a4), .int (Int32.ofInt a5)] (mz_mk g x) Q := by
  have kx := kn_x hx
  refine ⟨mmX11_feed, [some (.ref 0), some (.int (Int32.ofInt a1)), some (.int (Int32.ofInt a2)), some (.int (Int32.ofInt a3)), some (.int (Int32.ofInt a4)), some (.int (Int32.ofInt a5))], rfl, rfl, ?_⟩
  have bz0 := mz_rd hI bd_82_1
  refine mm_g 1 (pc1 := 1) (lo1 := [some (.ref 0), some (.int (Int32.ofInt a1)), some (.int (Int32.ofInt a2)), some (.int (Int32.ofInt a3)), some (.int (Int32.ofInt a4)), some (.int (Int32.ofInt a5))]) (st1 := [.ref 0]) (H1 := mz_mk g x) rfl ?_
  refine mz_fgR (v := 81) rfl fd_11_26 (by decide) (sc_0 _) (rf_0_3 _ _ _) ?_
  refine mz_fgR (v := 82) rfl fd_11_94 (by decide) (sc_81 _) (rf_81_0 _ _ _) ?_
  refine mz_fgI (v := (g 82 1)) rfl fd_11_98 (by decide) (sc_82 _) (show g 82 1 = (g 82 1) from rfl) ?_
  refine mz_bip rfl bip_20 ?_
  refine mz_iadd rfl ?_
  refine mz_sip rfl sip_700 ?_
  refine mz_ic_le (tgt := 21) rfl rfl ⟨by omega, by omega⟩ ⟨by decide, by decide⟩ (fun c16_0 => ?_) (fun c16_0 => ?_)
  · skip
    refine mm_g 1 (pc1 := 22) (lo1 := [some (.ref 0), some (.int (Int32.ofInt a1)), some (.int (Int32.ofInt a2)), some (.int (Int32.ofInt a3)), some (.int (Int32.ofInt a4)), some (.int (Int32.ofInt a5))]) (st1 := [.ref 0]) (H1 := mz_mk g x) rfl ?_
    refine mz_fgR (v := 81) rfl fd_11_26 (by decide) (sc_0 _) (rf_0_3 _ _ _) ?_
    refine mz_fgR (v := 82) rfl fd_11_94 (by decide) (sc_81 _) (rf_81_0 _ _ _) ?_
    refine mm_g 1 (pc1 := 29) (lo1 := [some (.ref 0), some (.int (Int32.ofInt a1)), some (.int (Int32.ofInt a2)), some (.int (Int32.ofInt a3)), some (.int (Int32.ofInt a4)), some (.int (Int32.ofInt a5))]) (st1 := [.int (Int32.ofInt a1), .ref 82]) (H1 := mz_mk g x) rfl ?_
    have hq1 : g 82 1 = (g 82 1) := (show g 82 1 = (g 82 1) from rfl)
    refine mz_cv rfl mt_11_103 (by decide) (sc_82 _) rfl (Nat.le_of_ble_eq_true rfl) (by omega) (t_X7_takeBytes (by omega) hx hI l_a1 u_a1 (fun g2 hIg2 hfg2 hp3 => ⟨_, rfl, ?_⟩))
    show mm_W d mmX11_feed 32 [some (.ref 0), some (.int (Int32.ofInt a1)), some (.int (Int32.ofInt a2)), some (.int (Int32.ofInt a3)), some (.int (Int32.ofInt a4)), some (.int (Int32.ofInt a5))] [] (mz_mk g2 x) Q
    have bz_g2_1 := mz_rd hIg2 bd_82_1
    refine mm_g 1 (pc1 := 33) (lo1 := [some (.ref 0), some (.int (Int32.ofInt a1)), some (.int (Int32.ofInt a2)), some (.int (Int32.ofInt a3)), some (.int (Int32.ofInt a4)), some (.int (Int32.ofInt a5))]) (st1 := [.ref 0]) (H1 := mz_mk g2 x) rfl ?_
    refine mz_fgR (v := 81) rfl fd_11_26 (by decide) (sc_0 _) (rf_0_3 _ _ _) ?_
    refine mz_fgR (v := 82) rfl fd_11_94 (by decide) (sc_81 _) (rf_81_0 _ _ _) ?_
    refine mm_g 1 (pc1 := 40) (lo1 := [some (.ref 0), some (.int (Int32.ofInt a1)), some (.int (Int32.ofInt a2)), some (.int (Int32.ofInt a3)), some (.int (Int32.ofInt a4)), some (.int (Int32.ofInt a5))]) (st1 := [.int (Int32.ofInt a2), .ref 82]) (H1 := mz_mk g2 x) rfl ?_
    have hq4 : g2 82 1 = (g2 82 1) := (show g2 82 1 = (g2 82 1) from rfl)
    refine mz_cv rfl mt_11_103 (by decide) (sc_82 _) rfl (Nat.le_of_ble_eq_true rfl) (by omega) (t_X7_takeBytes (by omega) hx hIg2 l_a2 u_a2 (fun g5 hIg5 hfg5 hp6 => ⟨_, rfl, ?_⟩))
    show mm_W d mmX11_feed 43 [some (.ref 0), some (.int (Int32.ofInt a1)), some (.int (Int32.ofInt a2)), some (.int (Int32.ofInt a3)), some (.int (Int32.ofInt a4)), some (.int (Int32.ofInt a5))] [] (mz_mk g5 x) Q
    have bz_g5_1 := mz_rd hIg5 bd_82_1
    refine mm_g 1 (pc1 := 44) (lo1 := [some (.ref 0), some (.int (Int32.ofInt a1)), some (.int (Int32.ofInt a2)), some (.int (Int32.ofInt a3)), some (.int (Int32.ofInt a4)), some (.int (Int32.ofInt a5))]) (st1 := [.ref 0]) (H1 := mz_mk g5 x) rfl ?_
    refine mz_fgR (v := 81) rfl fd_11_26 (by decide) (sc_0 _) (rf_0_3 _ _ _) ?_
    refine mz_fgR (v := 82) rfl fd_11_94 (by decide) (sc_81 _) (rf_81_0 _ _ _) ?_
    refine mm_g 1 (pc1 := 51) (lo1 := [some (.ref 0), some (.int (Int32.ofInt a1)), some (.int (Int32.ofInt a2)), some (.int (Int32.ofInt a3)), some (.int (Int32.ofInt a4)), some (.int (Int32.ofInt a5))]) (st1 := [.int (Int32.ofInt a3), .ref 82]) (H1 := mz_mk g5 x) rfl ?_
    have hq7 : g5 82 1 = (g5 82 1) := (show g5 82 1 = (g5 82 1) from rfl)
    refine mz_cv rfl mt_11_103 (by decide) (sc_82 _) rfl (Nat.le_of_ble_eq_true rfl) (by omega) (t_X7_takeBytes (by omega) hx hIg5 l_a3 u_a3 (fun g8 hIg8 hfg8 hp9 => ⟨_, rfl, ?_⟩))
    show mm_W d mmX11_feed 54 [some (.ref 0), some (.int (Int32.ofInt a1)), some (.int (Int32.ofInt a2)), some (.int (Int32.ofInt a3)), some (.int (Int32.ofInt a4)), some (.int (Int32.ofInt a5))] [] (mz_mk g8 x) Q
    have bz_g8_1 := mz_rd hIg8 bd_82_1
    refine mm_g 1 (pc1 := 55) (lo1 := [some (.ref 0), some (.int (Int32.ofInt a1)), some (.int (Int32.ofInt a2)), some (.int (Int32.ofInt a3)), some (.int (Int32.ofInt a4)), some (.int (Int32.ofInt a5))]) (st1 := [.ref 0]) (H1 := mz_mk g8 x) rfl ?_
    refine mz_fgR (v := 81) rfl fd_11_26 (by decide) (sc_0 _) (rf_0_3 _ _ _) ?_
    refine mz_fgR (v := 82) rfl fd_11_94 (by decide) (sc_81 _) (rf_81_0 _ _ _) ?_
    refine mm_g 1 (pc1 := 63) (lo1 := [some (.ref 0), some (.int (Int32.ofInt a1)), some (.int (Int32.ofInt a2)), some (.int (Int32.ofInt a3)), some (.int (Int32.ofInt a4)), some (.int (Int32.ofInt a5))]) (st1 := [.int (Int32.ofInt a4), .ref 82]) (H1 := mz_mk g8 x) rfl ?_
    have hq10 : g8 82 1 = (g8 82 1) := (show g8 82 1 = (g8 82 1) from rfl)
    refine mz_cv rfl mt_11_103 (by decide) (sc_82 _) rfl (Nat.le_of_ble_eq_true rfl) (by omega) (t_X7_takeBytes (by omega) hx hIg8 l_a4 u_a4 (fun g11 hIg11 hfg11 hp12 => ⟨_, rfl, ?_⟩))
    show mm_W d mmX11_feed 66 [some (.ref 0), some (.int (Int32.ofInt a1)), some (.int (Int32.ofInt a2)), some (.int (Int32.ofInt a3)), some (.int (Int32.ofInt a4)), some (.int (Int32.ofInt a5))] [] (mz_mk g11 x) Q
    have bz_g11_1 := mz_rd hIg11 bd_82_1
    refine mm_g 1 (pc1 := 67) (lo1 := [some (.ref 0), some (.int (Int32.ofInt a1)), some (.int (Int32.ofInt a2)), some (.int (Int32.ofInt a3)), some (.int (Int32.ofInt a4)), some (.int (Int32.ofInt a5))]) (st1 := [.ref 0]) (H1 := mz_mk g11 x) rfl ?_
    refine mz_fgR (v := 81) rfl fd_11_26 (by decide) (sc_0 _) (rf_0_3 _ _ _) ?_
    refine mz_fgR (v := 82) rfl fd_11_94 (by decide) (sc_81 _) (rf_81_0 _ _ _) ?_
    refine mm_g 1 (pc1 := 75) (lo1 := [some (.ref 0), some (.int (Int32.ofInt a1)), some (.int (Int32.ofInt a2)), some (.int (Int32.ofInt a3)), some (.int (Int32.ofInt a4)), some (.int (Int32.ofInt a5))]) (st1 := [.int (Int32.ofInt a5), .ref 82]) (H1 := mz_mk g11 x) rfl ?_
    have hq13 : g11 82 1 = (g11 82 1) := (show g11 82 1 = (g11 82 1) from rfl)
    refine mz_cv rfl mt_11_103 (by decide) (sc_82 _) rfl (Nat.le_of_ble_eq_true rfl) (by omega) (t_X7_takeBytes (by omega) hx hIg11 l_a5 u_a5 (fun g14 hIg14 hfg14 hp15 => ⟨_, rfl, ?_⟩))
    show mm_W d mmX11_feed 78 [some (.ref 0), some (.int (Int32.ofInt a1)), some (.int (Int32.ofInt a2)), some (.int (Int32.ofInt a3)), some (.int (Int32.ofInt a4)), some (.int (Int32.ofInt a5))] [] (mz_mk g14 x) Q
    have bz_g14_1 := mz_rd hIg14 bd_82_1
    refine mm_g 1 (pc1 := 79) (lo1 := [some (.ref 0), some (.int (Int32.ofInt a1)), some (.int (Int32.ofInt a2)), some (.int (Int32.ofInt a3)), some (.int (Int32.ofInt a4)), some (.int (Int32.ofInt a5))]) (st1 := [.ref 0]) (H1 := mz_mk g14 x) rfl ?_
    refine mz_fgR (v := 81) rfl fd_11_26 (by decide) (sc_0 _) (rf_0_3 _ _ _) ?_
    refine mz_fgR (v := 82) rfl fd_11_94 (by decide) (sc_81 _) (rf_81_0 _ _ _) ?_
    refine mz_fgI (v := (g14 82 1)) rfl fd_11_98 (by decide) (sc_82 _) (show g14 82 1 = (g14 82 1) from rfl) ?_
    exact mm_rt rfl rfl (hQ _ _ hIg14 (fun k j hk => ((hfg14 k j (fun h => hk (Or.elim h (fun h => (Or.inl h)) (fun h => (Or.inr h))))).trans ((hfg11 k j (fun h => hk (Or.elim h (fun h => (Or.inl h)) (fun h => (Or.inr h))))).trans ((hfg8 k j (fun h => hk (Or.elim h (fun h => (Or.inl h)) (fun h => (Or.inr h))))).trans ((hfg5 k j (fun h => hk (Or.elim h (fun h => (Or.inl h)) (fun h => (Or.inr h))))).trans (hfg2 k j (fun h => hk (Or.elim h (fun h => (Or.inl h)) (fun h => (Or.inr h)))))))))) (by omega) (by omega) (by have h9 := (show g14 82 1 = (g14 82 1) from rfl); omega))
  · skip
    refine mm_g 1 (pc1 := 20) (lo1 := [some (.ref 0), some (.int (Int32.ofInt a1)), some (.int (Int32.ofInt a2)), some (.int (Int32.ofInt a3)), some (.int (Int32.ofInt a4)), some (.int (Int32.ofInt a5))]) (st1 := [.int (Int32.ofInt (-1))]) (H1 := mz_mk g x) rfl ?_
    exact mm_rt rfl rfl (hQ _ _ hI (fun _ _ _ => rfl) (by decide) (by decide) (by have h9 := (show g 82 1 = (g 82 1) from rfl); omega))
theorem t_X11_mustFit {d : Nat} (hd : 12 ≤ d) {x : mm_X} (hx : mk_x x) {g : mz_G} (hI : mz_inv g) {a1 : Int} (l_a1 : 0 ≤ a1) (u_a1 : a1 ≤ 1) {Q : (Option Value ⊕ Nat) → mm_H → Prop} (hQ : (a1 = 1) → Q (.inl none) (mz_mk g x)) (hX1 : (a1 = 0) → Q (.inr 1) (mz_mk g (mz_tx x))) : mm_C d 175 [.int (Int32.ofInt a1)] (mz_mk g x) Q := by
  have kx := kn_x hx
  refine ⟨mmX11_mustFit, [some (.int (Int32.ofInt a1))], rfl, rfl, ?_⟩
  refine mm_g 1 (pc1 := 1) (lo1 := [some (.int (Int32.ofInt a1))]) (st1 := [.int (Int32.ofInt a1)]) (H1 := mz_mk g x) rfl ?_
  refine mz_if_ne (tgt := 12) rfl rfl (mz_rg l_a1 u_a1) (fun c1_0 => ?_) (fun c1_0 => ?_)
  · skip
    exact mm_rt rfl rfl (hQ (by omega))
  · skip
    exact mz_throw rfl rfl rfl rfl rfl rfl rfl (Nat.le_of_ble_eq_true rfl) (by omega) (hX1 (by omega))
theorem t_X7_open {d : Nat} (hd : 4 ≤ d) {x : mm_X} (hx : mk_x x) {g : mz_G} (hI : mz_inv g) {a1 : Int} (l_a1 : 0 ≤ a1) (u_a1 : a1 ≤ 700) {Q : (Option Value ⊕ Nat) → mm_H → Prop} (hQ : ∀ (g1 : mz_G), mz_inv g1 → mz_fr (fw_X7_open x a1) g g1 → (g1 82 1 = 0) → Q (.inl none) (mz_mk g1 x)) : mm_C d 80 [.ref 82, .int (Int32.ofInt a1)] (mz_mk g x) Q := by
  refine ⟨mmX7_open, [some (.ref 82), some (.int (Int32.ofInt a1))], rfl, rfl, ?_⟩
  have bz0 := mz_rd hI bd_82_1
  refine mm_g 2 (pc1 := 2) (lo1 := [some (.ref 82), some (.int (Int32.ofInt a1))]) (st1 := [.int (Int32.ofInt 0), .ref 82]) (H1 := mz_mk g x) rfl ?_
  refine mz_pI rfl fd_7_15 (sc_82 _) hI bd_82_1 (by omega) (by omega) (fun g1 hIg1 hug1 => ?_)
  refine mm_g 2 (pc1 := 7) (lo1 := [some (.ref 82), some (.int (Int32.ofInt a1))]) (st1 := [.int (Int32.ofInt a1), .ref 82]) (H1 := mz_mk g1 x) rfl ?_
  refine mz_pI rfl fd_7_19 (sc_82 _) hIg1 bd_82_2 (by omega) (by omega) (fun g2 hIg2 hug2 => ?_)
  refine mm_g 2 (pc1 := 12) (lo1 := [some (.ref 82), some (.int (Int32.ofInt a1))]) (st1 := [.int (Int32.ofInt 0), .ref 82]) (H1 := mz_mk g2 x) rfl ?_
  refine mz_pI rfl fd_7_22 (sc_82 _) hIg2 bd_82_3 (by omega) (by omega) (fun g3 hIg3 hug3 => ?_)
  refine mm_g 1 (pc1 := 16) (lo1 := [some (.ref 82), some (.int (Int32.ofInt a1))]) (st1 := [.ref 82]) (H1 := mz_mk g3 x) rfl ?_
  refine mz_cv rfl mt_7_34 (by decide) (sc_82 _) rfl (Nat.le_of_ble_eq_true rfl) (by omega) (c_X7_step (by omega) hx hIg3 (fun g4 hIg4 hfg4 => ⟨_, rfl, ?_⟩))
  show mm_W d mmX7_open 19 [some (.ref 82), some (.int (Int32.ofInt a1))] [] (mz_mk g4 x) Q
  exact mm_rt rfl rfl (hQ _ hIg4 (fun k j hk => ((hfg4 k j (fun h => hk (Or.elim h (fun h => (Or.inr (Or.inr (Or.inl h)))) (fun h => (Or.elim h (fun h => (Or.inr (Or.inr (Or.inr (Or.inl h))))) (fun h => (Or.elim h (fun h => (Or.inr (Or.inr (Or.inr (Or.inr (Or.inl h)))))) (fun h => (Or.inr (Or.inr (Or.inr (Or.inr (Or.inr h))))))))))))).trans ((hug3.2 k j (fun h => hk (Or.inr (Or.inr (Or.inl h))))).trans ((hug2.2 k j (fun h => hk (Or.inr (Or.inl h)))).trans (hug1.2 k j (fun h => hk (Or.inl h))))))) (by have h9 := (show g4 82 1 = 0 from ((hfg4 82 1 (fun h => (Or.elim h (fun h => (absurd (show (82 = 82 ∧ 1 = 3) from h) (by decide))) (fun h => (Or.elim h (fun h => (absurd (show (82 = 82 ∧ 1 = 5) from h) (by decide))) (fun h => (Or.elim h (fun h => (absurd (show (82 = 82 ∧ 1 = 6) from h) (by decide))) (fun h => (absurd (show (82 = 82 ∧ 1 = 4) from h) (by decide)))))))))).trans ((hug3.2 82 1 (fun h => absurd h.2 (by decide))).trans ((hug2.2 82 1 (fun h => absurd h.2 (by decide))).trans hug1.1)))); omega))
theorem t_X4_begin {d : Nat} (hd : 5 ≤ d) {x : mm_X} (hx : mk_x x) {g : mz_G} (hI : mz_inv g) {a1 : Int} (l_a1 : 0 ≤ a1) (u_a1 : a1 ≤ 700) {Q : (Option Value ⊕ Nat) → mm_H → Prop} (hQ : ∀ (g1 : mz_G), mz_inv g1 → mz_fr (fw_X4_begin x a1) g g1 → (g1 82 1 = 0) → Q (.inl none) (mz_mk g1 x)) : mm_C d 38 [.ref 81, .int (Int32.ofInt a1)] (mz_mk g x) Q := by
  refine ⟨mmX4_begin, [some (.ref 81), some (.int (Int32.ofInt a1))], rfl, rfl, ?_⟩
  have bz0 := mz_rd hI bd_82_1
  refine mm_g 2 (pc1 := 2) (lo1 := [some (.ref 81), some (.int (Int32.ofInt a1))]) (st1 := [.int (Int32.ofInt 0), .ref 81]) (H1 := mz_mk g x) rfl ?_
  refine mz_pI rfl fd_4_18 (sc_81 _) hI bd_81_1 (by omega) (by omega) (fun g1 hIg1 hug1 => ?_)
  refine mm_g 2 (pc1 := 7) (lo1 := [some (.ref 81), some (.int (Int32.ofInt a1))]) (st1 := [.int (Int32.ofInt (-1)), .ref 81]) (H1 := mz_mk g1 x) rfl ?_
  refine mz_pI rfl fd_4_22 (sc_81 _) hIg1 bd_81_2 (by omega) (by omega) (fun g2 hIg2 hug2 => ?_)
  refine mm_g 1 (pc1 := 11) (lo1 := [some (.ref 81), some (.int (Int32.ofInt a1))]) (st1 := [.ref 81]) (H1 := mz_mk g2 x) rfl ?_
  refine mz_fgR (v := 82) rfl fd_4_12 (by decide) (sc_81 _) (rf_81_0 _ _ _) ?_
  refine mm_g 1 (pc1 := 15) (lo1 := [some (.ref 81), some (.int (Int32.ofInt a1))]) (st1 := [.int (Int32.ofInt a1), .ref 82]) (H1 := mz_mk g2 x) rfl ?_
  have hq3 : g2 82 1 = (g 82 1) := (show g2 82 1 = (g 82 1) from ((hug2.2 82 1 (fun h => absurd h.1 (by decide))).trans ((hug1.2 82 1 (fun h => absurd h.1 (by decide))).trans rfl)))
  refine mz_cv rfl mt_4_45 (by decide) (sc_82 _) rfl (Nat.le_of_ble_eq_true rfl) (by omega) (t_X7_open (by omega) hx hIg2 l_a1 u_a1 (fun g4 hIg4 hfg4 hp5 => ⟨_, rfl, ?_⟩))
  show mm_W d mmX4_begin 18 [some (.ref 81), some (.int (Int32.ofInt a1))] [] (mz_mk g4 x) Q
  have bz_g4_1 := mz_rd hIg4 bd_82_1
  exact mm_rt rfl rfl (hQ _ hIg4 (fun k j hk => ((hfg4 k j (fun h => hk (Or.elim h (fun h => (Or.inr (Or.inr (Or.inl h)))) (fun h => (Or.elim h (fun h => (Or.inr (Or.inr (Or.inr (Or.inl h))))) (fun h => (Or.elim h (fun h => (Or.inr (Or.inr (Or.inr (Or.inr (Or.inl h)))))) (fun h => (Or.elim h (fun h => (Or.inr (Or.inr (Or.inr (Or.inr (Or.inr (Or.inl h))))))) (fun h => (Or.elim h (fun h => (Or.inr (Or.inr (Or.inr (Or.inr (Or.inr (Or.inr (Or.inl h)))))))) (fun h => (Or.inr (Or.inr (Or.inr (Or.inr (Or.inr (Or.inr (Or.inr h))))))))))))))))))).trans ((hug2.2 k j (fun h => hk (Or.inr (Or.inl h)))).trans (hug1.2 k j (fun h => hk (Or.inl h)))))) (by have h9 := (show g4 82 1 = (g4 82 1) from rfl); omega))
theorem t_X11_baggage {d : Nat} (hd : 15 ≤ d) {x : mm_X} (hx : mk_x x) {g : mz_G} (hI : mz_inv g) {a1 : Int} (l_a1 : (-2147483648) ≤ a1) (u_a1 : a1 ≤ 2147483647) {Q : (Option Value ⊕ Nat) → mm_H → Prop} (hQ : ∀ (r : Int) (g1 : mz_G) (x1 : mm_X), mk_x x1 → x1.2.2 = x.2.2 → mz_inv g1 → mz_fr (fw_X11_baggage x a1) g g1 → (-2147483648) ≤ r → r ≤ 2147483647 → (g1 82 1 = 0) → (0 ≤ a1 ∧ a1 ≤ g 82 1) → Q (.inl (some (.int (Int32.ofInt r)))) (mz_mk g1 x1)) (hX1 : (¬ (0 ≤ a1 ∧ a1 ≤ g 82 1)) → Q (.inr 1) (mz_mk g (mz_tx x))) : mm_C d 124 [.ref 0, .int (Int32.ofInt a1)] (mz_mk g x) Q := by
  have kx := kn_x hx
  refine ⟨mmX11_baggage, [some (.ref 0), some (.int (Int32.ofInt a1)), none], rfl, rfl, ?_⟩
  have bz0 := mz_rd hI bd_82_1
  refine mm_g 1 (pc1 := 1) (lo1 := [some (.ref 0), some (.int (Int32.ofInt a1)), none]) (st1 := [.int (Int32.ofInt a1)]) (H1 := mz_mk g x) rfl ?_
  refine mz_if_lt (tgt := 22) rfl rfl (mz_rg l_a1 u_a1) (fun c1_0 => ?_) (fun c1_0 => ?_)
  · skip
    refine mm_g 1 (pc1 := 23) (lo1 := [some (.ref 0), some (.int (Int32.ofInt a1)), none]) (st1 := [.int (Int32.ofInt 0)]) (H1 := mz_mk g x) rfl ?_
    refine mz_csx rfl mt_11_106 rfl (Nat.le_of_ble_eq_true rfl) (by omega) rfl nh_X11_mustFit (t_X11_mustFit (by omega) hx hI (by decide) (by decide) (fun hp1 => ?_) (fun hc => hX1 (by omega)))
    show mm_W d mmX11_baggage 26 [some (.ref 0), some (.int (Int32.ofInt a1)), none] [] (mz_mk g x) Q
    exfalso; omega
  · skip
    refine mm_g 2 (pc1 := 6) (lo1 := [some (.ref 0), some (.int (Int32.ofInt a1)), none]) (st1 := [.ref 0, .int (Int32.ofInt a1)]) (H1 := mz_mk g x) rfl ?_
    refine mz_fgR (v := 81) rfl fd_11_26 (by decide) (sc_0 _) (rf_0_3 _ _ _) ?_
    refine mz_fgR (v := 82) rfl fd_11_94 (by decide) (sc_81 _) (rf_81_0 _ _ _) ?_
    refine mz_fgI (v := (g 82 1)) rfl fd_11_98 (by decide) (sc_82 _) (show g 82 1 = (g 82 1) from rfl) ?_
    refine mz_ic_gt (tgt := 22) rfl rfl (mz_rg l_a1 u_a1) ⟨by omega, by omega⟩ (fun c15_1 => ?_) (fun c15_1 => ?_)
    · skip
      refine mm_g 1 (pc1 := 23) (lo1 := [some (.ref 0), some (.int (Int32.ofInt a1)), none]) (st1 := [.int (Int32.ofInt 0)]) (H1 := mz_mk g x) rfl ?_
      refine mz_csx rfl mt_11_106 rfl (Nat.le_of_ble_eq_true rfl) (by omega) rfl nh_X11_mustFit (t_X11_mustFit (by omega) hx hI (by decide) (by decide) (fun hp2 => ?_) (fun hc => hX1 (by omega)))
      show mm_W d mmX11_baggage 26 [some (.ref 0), some (.int (Int32.ofInt a1)), none] [] (mz_mk g x) Q
      exfalso; omega
    · skip
      refine mm_g 1 (pc1 := 19) (lo1 := [some (.ref 0), some (.int (Int32.ofInt a1)), none]) (st1 := [.int (Int32.ofInt 1)]) (H1 := mz_mk g x) rfl ?_
      refine mz_gt (tgt := 23) rfl rfl ?_
      refine mz_csx rfl mt_11_106 rfl (Nat.le_of_ble_eq_true rfl) (by omega) rfl nh_X11_mustFit (t_X11_mustFit (by omega) hx hI (by decide) (by decide) (fun hp3 => ?_) (fun hc => hX1 (by omega)))
      show mm_W d mmX11_baggage 26 [some (.ref 0), some (.int (Int32.ofInt a1)), none] [] (mz_mk g x) Q
      refine mm_g 1 (pc1 := 27) (lo1 := [some (.ref 0), some (.int (Int32.ofInt a1)), none]) (st1 := [.ref 0]) (H1 := mz_mk g x) rfl ?_
      refine mz_fgR (v := x.2.1) rfl fd_11_20 (by decide) (sc_0 _) rfl ?_
      refine mz_cv rfl mt_11_110 (by decide) (kc_load (kx_2 hx) _) rfl (Nat.le_of_ble_eq_true rfl) (by omega) (c_X1_forgetAll (by omega) hx hI (kx_2 hx) (fun g4 hIg4 hfg4 => ⟨_, rfl, ?_⟩))
      show mm_W d mmX11_baggage 33 [some (.ref 0), some (.int (Int32.ofInt a1)), none] [] (mz_mk g4 x) Q
      refine mm_g 1 (pc1 := 34) (lo1 := [some (.ref 0), some (.int (Int32.ofInt a1)), none]) (st1 := [.ref 0]) (H1 := mz_mk g4 x) rfl ?_
      refine mz_fgR (v := 81) rfl fd_11_26 (by decide) (sc_0 _) (rf_0_3 _ _ _) ?_
      refine mm_g 1 (pc1 := 38) (lo1 := [some (.ref 0), some (.int (Int32.ofInt a1)), none]) (st1 := [.int (Int32.ofInt a1), .ref 81]) (H1 := mz_mk g4 x) rfl ?_
      have hq5 : g4 82 1 = (g 82 1) := (show g4 82 1 = (g 82 1) from ((hfg4 82 1 (fun h => (Or.elim h (fun h => (by have h9 : 82 = (x.2.1 + 1) := h; omega)) (fun h => (Or.elim h (fun h => (by have h9 : 82 = (x.2.1 + 26) := h; omega)) (fun h => (Or.elim h (fun h => (by have h9 : 82 = x.2.1 := h; omega)) (fun h => (by have h9 : 82 = (x.2.1 + 36) := h; omega))))))))).trans rfl))
      refine mz_cv rfl mt_11_113 (by decide) (sc_81 _) rfl (Nat.le_of_ble_eq_true rfl) (by omega) (t_X4_begin (by omega) hx hIg4 (by omega) (by omega) (fun g6 hIg6 hfg6 hp7 => ⟨_, rfl, ?_⟩))
      show mm_W d mmX11_baggage 41 [some (.ref 0), some (.int (Int32.ofInt a1)), none] [] (mz_mk g6 x) Q
      have bz_g6_1 := mz_rd hIg6 bd_82_1
      refine mm_g 2 (pc1 := 43) (lo1 := [some (.ref 0), some (.int (Int32.ofInt a1)), some (.int (Int32.ofInt 0))]) (st1 := []) (H1 := mz_mk g6 x) rfl ?_
      have L12 : ∀ n11 : Nat, ∀ (v8 : Int) (g9 : mz_G), (700 - v8).toNat = n11 → 0 ≤ v8 → v8 ≤ 700 → mz_inv g9 → mz_fr (fl_X11_baggage_43 x a1) g6 g9 → mm_W d mmX11_baggage 43 [some (.ref 0), some (.int (Int32.ofInt a1)), some (.int (Int32.ofInt v8))] [] (mz_mk g9 x) Q := by
        intro n11
        induction n11 using Nat.strongRecOn with
        | ind n11 ih10 =>
        intro v8 g9 hmn11 l_v8 u_v8 hIg9 hfg9
        refine mm_g 1 (pc1 := 44) (lo1 := [some (.ref 0), some (.int (Int32.ofInt a1)), some (.int (Int32.ofInt v8))]) (st1 := [.int (Int32.ofInt v8)]) (H1 := mz_mk g9 x) rfl ?_
        refine mz_sip rfl sip_700 ?_
        refine mz_ic_ge (tgt := 77) rfl rfl (mz_rg l_v8 u_v8) ⟨by decide, by decide⟩ (fun c47_12 => ?_) (fun c47_12 => ?_)
        · skip
          refine mm_g 2 (pc1 := 79) (lo1 := [some (.ref 0), some (.int (Int32.ofInt a1)), some (.int (Int32.ofInt v8))]) (st1 := [.ref 0, .ref 0]) (H1 := mz_mk g9 x) rfl ?_
          refine mz_fgR (v := 81) rfl fd_11_26 (by decide) (sc_0 _) (rf_0_3 _ _ _) ?_
          refine mz_cv rfl mt_11_124 (by decide) (sc_81 _) rfl (Nat.le_of_ble_eq_true rfl) (by omega) (c_X4_place (by omega) hx hIg9 (fun v13 l_v13 u_v13 => ⟨_, rfl, ?_⟩))
          show mm_W d mmX11_baggage 85 [some (.ref 0), some (.int (Int32.ofInt a1)), some (.int (Int32.ofInt v8))] [.int (Int32.ofInt v13), .ref 0] (mz_mk g9 x) Q
          refine mz_pI rfl fd_11_9 (sc_0 _) hIg9 bd_0_0 (by omega) (by omega) (fun g14 hIg14 hug14 => ?_)
          refine mm_g 1 (pc1 := 89) (lo1 := [some (.ref 0), some (.int (Int32.ofInt a1)), some (.int (Int32.ofInt v8))]) (st1 := [.ref 0]) (H1 := mz_mk g14 x) rfl ?_
          refine mz_fgR (v := 81) rfl fd_11_26 (by decide) (sc_0 _) (rf_0_3 _ _ _) ?_
          refine mz_cv rfl mt_11_128 (by decide) (sc_81 _) rfl (Nat.le_of_ble_eq_true rfl) (by omega) (c_X4_faultKind (by omega) hx hIg14 (fun v15 l_v15 u_v15 => ⟨_, rfl, ?_⟩))
          show mm_W d mmX11_baggage 95 [some (.ref 0), some (.int (Int32.ofInt a1)), some (.int (Int32.ofInt v8))] [.int (Int32.ofInt v15)] (mz_mk g14 x) Q
          refine mz_if_eq (tgt := 115) rfl rfl (mz_rg l_v15 u_v15) (fun c95_15 => ?_) (fun c95_15 => ?_)
          · skip
            refine mm_g 1 (pc1 := 116) (lo1 := [some (.ref 0), some (.int (Int32.ofInt a1)), some (.int (Int32.ofInt v8))]) (st1 := [.ref 0]) (H1 := mz_mk g14 x) rfl ?_
            refine mz_fgR (v := x.1) rfl fd_11_16 (by decide) (sc_0 _) rfl ?_
            refine mm_g 3 (pc1 := 122) (lo1 := [some (.ref 0), some (.int (Int32.ofInt a1)), some (.ref x.1)]) (st1 := [.ref 0, .ref 0]) (H1 := mz_mk g14 x) rfl ?_
            refine mz_fgR (v := x.2.1) rfl fd_11_20 (by decide) (sc_0 _) rfl ?_
            refine mz_ld1 rfl fd_11_16 ?_
            refine mm_g 2 (pc1 := 130) (lo1 := [some (.ref 0), some (.int (Int32.ofInt a1)), some (.ref x.1)]) (st1 := [.ref x.1, .ref 0]) (H1 := mz_mk g14 (x.2.1, x.2)) rfl ?_
            refine mz_ld2 rfl fd_11_20 ?_
            obtain ⟨x1, hx1, hq1, hq2⟩ := mz_swap hx
            rw [show mz_mk g14 ((x.2.1, x.2).1, x.1, (x.2.1, x.2).2.2) = mz_mk g14 x1 from congrArg (mz_mk g14) hx1.symm]
            have kx1 := kn_x hq1
            refine mm_g 1 (pc1 := 134) (lo1 := [some (.ref 0), some (.int (Int32.ofInt a1)), some (.ref x.1)]) (st1 := [.ref 0]) (H1 := mz_mk g14 x1) rfl ?_
            refine mz_fgR (v := x1.1) rfl fd_11_16 (by decide) (sc_0 _) rfl ?_
            refine mz_fgR (v := (x1.1 + 1)) rfl fd_11_135 (by decide) (kc_load (kx_1 hq1) _) (kr_load_0 (kx_1 hq1) _ _ _) ?_
            refine mm_g 1 (pc1 := 141) (lo1 := [some (.ref 0), some (.int (Int32.ofInt a1)), some (.ref x.1)]) (st1 := [.ref 0, .ref (x1.1 + 1)]) (H1 := mz_mk g14 x1) rfl ?_
            refine mz_fgR (v := 85) rfl fd_11_30 (by decide) (sc_0 _) (rf_0_4 _ _ _) ?_
            refine mz_cv rfl mt_11_139 (by decide) (kc_words (ks_load_0 (kx_1 hq1)) _) rfl (Nat.le_of_ble_eq_true rfl) (by omega) (c_X10_settle (by omega) hq1 hIg14 (ks_load_0 (kx_1 hq1)) (sh_85 _) (by decide) ba_85 (fun g16 hIg16 hfg16 => ⟨_, rfl, ?_⟩))
            show mm_W d mmX11_baggage 147 [some (.ref 0), some (.int (Int32.ofInt a1)), some (.ref x.1)] [] (mz_mk g16 x1) Q
            refine mm_g 1 (pc1 := 148) (lo1 := [some (.ref 0), some (.int (Int32.ofInt a1)), some (.ref x.1)]) (st1 := [.ref 0]) (H1 := mz_mk g16 x1) rfl ?_
            refine mz_fgR (v := 86) rfl fd_11_37 (by decide) (sc_0 _) (rf_0_5 _ _ _) ?_
            refine mm_g 1 (pc1 := 152) (lo1 := [some (.ref 0), some (.int (Int32.ofInt a1)), some (.ref x.1)]) (st1 := [.ref 0, .ref 86]) (H1 := mz_mk g16 x1) rfl ?_
            refine mz_fgR (v := x1.1) rfl fd_11_16 (by decide) (sc_0 _) rfl ?_
            refine mz_fgR (v := (x1.1 + 26)) rfl fd_11_145 (by decide) (kc_load (kx_1 hq1) _) (kr_load_1 (kx_1 hq1) _ _ _) ?_
            refine mz_cv rfl mt_11_148 (by decide) (sc_86 _) rfl (Nat.le_of_ble_eq_true rfl) (by omega) (c_X6_beginWith (by omega) hq1 hIg16 kp_story_86 (ks_load_1 (kx_1 hq1)) (fun g17 hIg17 hfg17 => ⟨_, rfl, ?_⟩))
            show mm_W d mmX11_baggage 161 [some (.ref 0), some (.int (Int32.ofInt a1)), some (.ref x.1)] [] (mz_mk g17 x1) Q
            refine mm_g 2 (pc1 := 163) (lo1 := [some (.ref 0), some (.int (Int32.ofInt a1)), some (.ref x.1)]) (st1 := [.int (Int32.ofInt 0), .ref 0]) (H1 := mz_mk g17 x1) rfl ?_
            refine mz_pZ rfl fd_11_44 (sc_0 _) (by decide) hIg17 bd_0_7 (by omega) (by omega) (fun g18 hIg18 hug18 => ?_)
            refine mm_g 1 (pc1 := 167) (lo1 := [some (.ref 0), some (.int (Int32.ofInt a1)), some (.ref x.1)]) (st1 := [.int (Int32.ofInt 0)]) (H1 := mz_mk g18 x1) rfl ?_
            exact mm_rt rfl rfl (hQ _ _ _ hq1 hq2 hIg18 (fun k j hk => ((hug18.2 k j (fun h => hk (Or.inr (Or.inr (Or.inr (Or.inr (Or.inr (Or.inr (Or.inr (Or.inr (Or.inr (Or.inr (Or.inr (Or.inr (Or.inr (Or.inr (Or.inr (Or.inr (Or.inr (Or.inr (Or.inr (Or.inl h)))))))))))))))))))))).trans ((hfg17 k j (fun h => hk (Or.elim h (fun h => (Or.inr (Or.inr (Or.inr (Or.inr (Or.inr (Or.inr (Or.inr (Or.inr (Or.inr (Or.inr (Or.inr (Or.inr (Or.inr (Or.inr (Or.inr (Or.inr (Or.inr (Or.inl h))))))))))))))))))) (fun h => (Or.inr (Or.inr (Or.inr (Or.inr (Or.inr (Or.inr (Or.inr (Or.inr (Or.inr (Or.inr (Or.inr (Or.inr (Or.inr (Or.inr (Or.inr (Or.inr (Or.inr (Or.inr (Or.inl h))))))))))))))))))))))).trans ((hfg16 k j (fun h => hk (Or.elim h (fun h => (Or.inl (show (1 ≤ k ∧ k < 81) by have h9 : k = ((x1.1 + 1) + 5) := h; omega))) (fun h => (Or.elim h (fun h => (Or.inl (show (1 ≤ k ∧ k < 81) by have h9 : k = ((x1.1 + 1) + 6) := h; omega))) (fun h => (Or.elim h (fun h => (Or.inr (Or.inr (Or.inr (Or.inr (Or.inr (Or.inr (Or.inr (Or.inr (Or.inr (Or.inr (Or.inr (Or.inr (Or.inr (Or.inr (Or.inr (Or.inr (Or.inl h)))))))))))))))))) (fun h => (Or.elim h (fun h => (Or.inl (show (1 ≤ k ∧ k < 81) by have h9 : k = ((x1.1 + 1) + 7) := h; omega))) (fun h => (Or.elim h (fun h => (Or.inl (show (1 ≤ k ∧ k < 81) by have h9 : k = ((x1.1 + 1) + 8) := h; omega))) (fun h => (Or.inl (show (1 ≤ k ∧ k < 81) by have h9 : k = (x1.1 + 1) := h; omega)))))))))))))).trans ((hug14.2 k j (fun h => hk (Or.inr (Or.inr (Or.inr (Or.inr (Or.inr (Or.inr (Or.inr (Or.inr (Or.inr (Or.inr (Or.inr (Or.inr (Or.inr (Or.inr (Or.inr (Or.inl h)))))))))))))))))).trans ((hfg9 k j (fun h => hk (Or.elim h (fun h => (Or.inr (Or.inr (Or.inr (Or.inr (Or.inr (Or.inl h))))))) (fun h => (Or.elim h (fun h => (Or.inr (Or.inr (Or.inr (Or.inr (Or.inr (Or.inr (Or.inl h)))))))) (fun h => (Or.elim h (fun h => (Or.inr (Or.inr (Or.inr (Or.inr (Or.inr (Or.inr (Or.inr (Or.inl h))))))))) (fun h => (Or.elim h (fun h => (Or.inr (Or.inr (Or.inr (Or.inr (Or.inr (Or.inr (Or.inr (Or.inr (Or.inl h)))))))))) (fun h => (Or.elim h (fun h => (Or.inr (Or.inl h))) (fun h => (Or.elim h (fun h => (Or.inr (Or.inr (Or.inl h)))) (fun h => (Or.elim h (fun h => (Or.inl h)) (fun h => (Or.elim h (fun h => (Or.inr (Or.inr (Or.inr (Or.inr (Or.inr (Or.inr (Or.inr (Or.inr (Or.inr (Or.inl h))))))))))) (fun h => (Or.elim h (fun h => (Or.inr (Or.inr (Or.inr (Or.inr (Or.inr (Or.inr (Or.inr (Or.inr (Or.inr (Or.inr (Or.inl h)))))))))))) (fun h => (Or.elim h (fun h => (Or.inr (Or.inr (Or.inr (Or.inr (Or.inr (Or.inr (Or.inr (Or.inr (Or.inr (Or.inr (Or.inr (Or.inl h))))))))))))) (fun h => (Or.elim h (fun h => (Or.inr (Or.inr (Or.inr (Or.inr (Or.inr (Or.inr (Or.inr (Or.inr (Or.inr (Or.inr (Or.inr (Or.inr (Or.inl h)))))))))))))) (fun h => (Or.elim h (fun h => (Or.inr (Or.inr (Or.inr (Or.inr (Or.inr (Or.inr (Or.inr (Or.inr (Or.inr (Or.inr (Or.inr (Or.inr (Or.inr (Or.inl h))))))))))))))) (fun h => (Or.inr (Or.inr (Or.inr (Or.inr (Or.inr (Or.inr (Or.inr (Or.inr (Or.inr (Or.inr (Or.inr (Or.inr (Or.inr (Or.inr (Or.inl h))))))))))))))))))))))))))))))))))))))))).trans ((hfg6 k j (fun h => hk (Or.elim h (fun h => (Or.inr (Or.inl h))) (fun h => (Or.elim h (fun h => (Or.inr (Or.inr (Or.inl h)))) (fun h => (Or.elim h (fun h => (Or.inr (Or.inr (Or.inr (Or.inl h))))) (fun h => (Or.elim h (fun h => (Or.inr (Or.inr (Or.inr (Or.inr (Or.inl h)))))) (fun h => (Or.elim h (fun h => (Or.inr (Or.inr (Or.inr (Or.inr (Or.inr (Or.inl h))))))) (fun h => (Or.elim h (fun h => (Or.inr (Or.inr (Or.inr (Or.inr (Or.inr (Or.inr (Or.inl h)))))))) (fun h => (Or.elim h (fun h => (Or.inr (Or.inr (Or.inr (Or.inr (Or.inr (Or.inr (Or.inr (Or.inl h))))))))) (fun h => (Or.inr (Or.inr (Or.inr (Or.inr (Or.inr (Or.inr (Or.inr (Or.inr (Or.inl h))))))))))))))))))))))))).trans (hfg4 k j (fun h => hk (Or.elim h (fun h => (Or.inl (show (1 ≤ k ∧ k < 81) by have h9 : k = (x.2.1 + 1) := h; omega))) (fun h => (Or.elim h (fun h => (Or.inl (show (1 ≤ k ∧ k < 81) by have h9 : k = (x.2.1 + 26) := h; omega))) (fun h => (Or.elim h (fun h => (Or.inl (show (1 ≤ k ∧ k < 81) by have h9 : k = x.2.1 := h; omega))) (fun h => (Or.inl (show (1 ≤ k ∧ k < 81) by have h9 : k = (x.2.1 + 36) := h; omega))))))))))))))))) (by decide) (by decide) (by have h9 := (show g18 82 1 = (g6 82 1) from ((hug18.2 82 1 (fun h => absurd h.1 (by decide))).trans ((hfg17 82 1 (fun h => (Or.elim h (fun h => (absurd (show (87 ≤ 82 ∧ 82 < 96) from h) (by decide))) (fun h => (absurd (show 82 = 86 from h) (by decide)))))).trans ((hfg16 82 1 (fun h => (Or.elim h (fun h => (by have h9 : 82 = ((x1.1 + 1) + 5) := h; omega)) (fun h => (Or.elim h (fun h => (by have h9 : 82 = ((x1.1 + 1) + 6) := h; omega)) (fun h => (Or.elim h (fun h => (absurd (show 82 = 85 from h) (by decide))) (fun h => (Or.elim h (fun h => (by have h9 : 82 = ((x1.1 + 1) + 7) := h; omega)) (fun h => (Or.elim h (fun h => (by have h9 : 82 = ((x1.1 + 1) + 8) := h; omega)) (fun h => (by have h9 : 82 = (x1.1 + 1) := h; omega))))))))))))).trans ((hug14.2 82 1 (fun h => absurd h.1 (by decide))).trans ((hfg9 82 1 (fun h => (Or.elim h (fun h => (absurd (show (82 = 82 ∧ 1 = 3) from h) (by decide))) (fun h => (Or.elim h (fun h => (absurd (show (82 = 82 ∧ 1 = 5) from h) (by decide))) (fun h => (Or.elim h (fun h => (absurd (show (82 = 82 ∧ 1 = 6) from h) (by decide))) (fun h => (Or.elim h (fun h => (absurd (show (82 = 82 ∧ 1 = 4) from h) (by decide))) (fun h => (Or.elim h (fun h => (absurd (show 82 = 81 from (h).1) (by decide))) (fun h => (Or.elim h (fun h => (absurd (show 82 = 81 from (h).1) (by decide))) (fun h => (Or.elim h (fun h => (absurd (show (1 ≤ 82 ∧ 82 < 81) from h) (by decide))) (fun h => (Or.elim h (fun h => (absurd (show 82 = 81 from (h).1) (by decide))) (fun h => (Or.elim h (fun h => (absurd (show 82 = 81 from (h).1) (by decide))) (fun h => (Or.elim h (fun h => (absurd (show 82 = 81 from (h).1) (by decide))) (fun h => (Or.elim h (fun h => (absurd (show 82 = 81 from (h).1) (by decide))) (fun h => (Or.elim h (fun h => (absurd (show 82 = 81 from (h).1) (by decide))) (fun h => (absurd (show 82 = 84 from h) (by decide)))))))))))))))))))))))))))).trans rfl)))))); omega) (by omega))
          · skip
            refine mm_g 1 (pc1 := 99) (lo1 := [some (.ref 0), some (.int (Int32.ofInt a1)), some (.int (Int32.ofInt v8))]) (st1 := [.ref 0]) (H1 := mz_mk g14 x) rfl ?_
            refine mz_fgR (v := 86) rfl fd_11_37 (by decide) (sc_0 _) (rf_0_5 _ _ _) ?_
            refine mm_g 1 (pc1 := 103) (lo1 := [some (.ref 0), some (.int (Int32.ofInt a1)), some (.int (Int32.ofInt v8))]) (st1 := [.int (Int32.ofInt 0), .ref 86]) (H1 := mz_mk g14 x) rfl ?_
            refine mz_cv rfl mt_11_131 (by decide) (sc_86 _) rfl (Nat.le_of_ble_eq_true rfl) (by omega) (c_X6_refuse (by omega) hx hIg14 kp_story_86 (by decide) (by decide) (fun v19 g20 hIg20 hfg20 l_v19 u_v19 => ⟨_, rfl, ?_⟩))
            show mm_W d mmX11_baggage 106 [some (.ref 0), some (.int (Int32.ofInt a1)), some (.int (Int32.ofInt v8))] [.int (Int32.ofInt v19)] (mz_mk g20 x) Q
            refine mm_g 2 (pc1 := 108) (lo1 := [some (.ref 0), some (.int (Int32.ofInt a1)), some (.int (Int32.ofInt v8))]) (st1 := [.ref 0]) (H1 := mz_mk g20 x) rfl ?_
            refine mz_fgR (v := 81) rfl fd_11_26 (by decide) (sc_0 _) (rf_0_3 _ _ _) ?_
            refine mz_cv rfl mt_11_128 (by decide) (sc_81 _) rfl (Nat.le_of_ble_eq_true rfl) (by omega) (c_X4_faultKind (by omega) hx hIg20 (fun v21 l_v21 u_v21 => ⟨_, rfl, ?_⟩))
            show mm_W d mmX11_baggage 114 [some (.ref 0), some (.int (Int32.ofInt a1)), some (.int (Int32.ofInt v8))] [.int (Int32.ofInt v21)] (mz_mk g20 x) Q
            exact mm_rt rfl rfl (hQ _ _ _ hx rfl hIg20 (fun k j hk => ((hfg20 k j (fun h => hk (Or.inr (Or.inr (Or.inr (Or.inr (Or.inr (Or.inr (Or.inr (Or.inr (Or.inr (Or.inr (Or.inr (Or.inr (Or.inr (Or.inr (Or.inr (Or.inr (Or.inr (Or.inr (Or.inr (Or.inr h)))))))))))))))))))))).trans ((hug14.2 k j (fun h => hk (Or.inr (Or.inr (Or.inr (Or.inr (Or.inr (Or.inr (Or.inr (Or.inr (Or.inr (Or.inr (Or.inr (Or.inr (Or.inr (Or.inr (Or.inr (Or.inl h)))))))))))))))))).trans ((hfg9 k j (fun h => hk (Or.elim h (fun h => (Or.inr (Or.inr (Or.inr (Or.inr (Or.inr (Or.inl h))))))) (fun h => (Or.elim h (fun h => (Or.inr (Or.inr (Or.inr (Or.inr (Or.inr (Or.inr (Or.inl h)))))))) (fun h => (Or.elim h (fun h => (Or.inr (Or.inr (Or.inr (Or.inr (Or.inr (Or.inr (Or.inr (Or.inl h))))))))) (fun h => (Or.elim h (fun h => (Or.inr (Or.inr (Or.inr (Or.inr (Or.inr (Or.inr (Or.inr (Or.inr (Or.inl h)))))))))) (fun h => (Or.elim h (fun h => (Or.inr (Or.inl h))) (fun h => (Or.elim h (fun h => (Or.inr (Or.inr (Or.inl h)))) (fun h => (Or.elim h (fun h => (Or.inl h)) (fun h => (Or.elim h (fun h => (Or.inr (Or.inr (Or.inr (Or.inr (Or.inr (Or.inr (Or.inr (Or.inr (Or.inr (Or.inl h))))))))))) (fun h => (Or.elim h (fun h => (Or.inr (Or.inr (Or.inr (Or.inr (Or.inr (Or.inr (Or.inr (Or.inr (Or.inr (Or.inr (Or.inl h)))))))))))) (fun h => (Or.elim h (fun h => (Or.inr (Or.inr (Or.inr (Or.inr (Or.inr (Or.inr (Or.inr (Or.inr (Or.inr (Or.inr (Or.inr (Or.inl h))))))))))))) (fun h => (Or.elim h (fun h => (Or.inr (Or.inr (Or.inr (Or.inr (Or.inr (Or.inr (Or.inr (Or.inr (Or.inr (Or.inr (Or.inr (Or.inr (Or.inl h)))))))))))))) (fun h => (Or.elim h (fun h => (Or.inr (Or.inr (Or.inr (Or.inr (Or.inr (Or.inr (Or.inr (Or.inr (Or.inr (Or.inr (Or.inr (Or.inr (Or.inr (Or.inl h))))))))))))))) (fun h => (Or.inr (Or.inr (Or.inr (Or.inr (Or.inr (Or.inr (Or.inr (Or.inr (Or.inr (Or.inr (Or.inr (Or.inr (Or.inr (Or.inr (Or.inl h))))))))))))))))))))))))))))))))))))))))).trans ((hfg6 k j (fun h => hk (Or.elim h (fun h => (Or.inr (Or.inl h))) (fun h => (Or.elim h (fun h => (Or.inr (Or.inr (Or.inl h)))) (fun h => (Or.elim h (fun h => (Or.inr (Or.inr (Or.inr (Or.inl h))))) (fun h => (Or.elim h (fun h => (Or.inr (Or.inr (Or.inr (Or.inr (Or.inl h)))))) (fun h => (Or.elim h (fun h => (Or.inr (Or.inr (Or.inr (Or.inr (Or.inr (Or.inl h))))))) (fun h => (Or.elim h (fun h => (Or.inr (Or.inr (Or.inr (Or.inr (Or.inr (Or.inr (Or.inl h)))))))) (fun h => (Or.elim h (fun h => (Or.inr (Or.inr (Or.inr (Or.inr (Or.inr (Or.inr (Or.inr (Or.inl h))))))))) (fun h => (Or.inr (Or.inr (Or.inr (Or.inr (Or.inr (Or.inr (Or.inr (Or.inr (Or.inl h))))))))))))))))))))))))).trans (hfg4 k j (fun h => hk (Or.elim h (fun h => (Or.inl (show (1 ≤ k ∧ k < 81) by have h9 : k = (x.2.1 + 1) := h; omega))) (fun h => (Or.elim h (fun h => (Or.inl (show (1 ≤ k ∧ k < 81) by have h9 : k = (x.2.1 + 26) := h; omega))) (fun h => (Or.elim h (fun h => (Or.inl (show (1 ≤ k ∧ k < 81) by have h9 : k = x.2.1 := h; omega))) (fun h => (Or.inl (show (1 ≤ k ∧ k < 81) by have h9 : k = (x.2.1 + 36) := h; omega))))))))))))))) (by omega) (by omega) (by have h9 := (show g20 82 1 = (g6 82 1) from ((hfg20 82 1 (fun h => (absurd (show 82 = 100 from h) (by decide)))).trans ((hug14.2 82 1 (fun h => absurd h.1 (by decide))).trans ((hfg9 82 1 (fun h => (Or.elim h (fun h => (absurd (show (82 = 82 ∧ 1 = 3) from h) (by decide))) (fun h => (Or.elim h (fun h => (absurd (show (82 = 82 ∧ 1 = 5) from h) (by decide))) (fun h => (Or.elim h (fun h => (absurd (show (82 = 82 ∧ 1 = 6) from h) (by decide))) (fun h => (Or.elim h (fun h => (absurd (show (82 = 82 ∧ 1 = 4) from h) (by decide))) (fun h => (Or.elim h (fun h => (absurd (show 82 = 81 from (h).1) (by decide))) (fun h => (Or.elim h (fun h => (absurd (show 82 = 81 from (h).1) (by decide))) (fun h => (Or.elim h (fun h => (absurd (show (1 ≤ 82 ∧ 82 < 81) from h) (by decide))) (fun h => (Or.elim h (fun h => (absurd (show 82 = 81 from (h).1) (by decide))) (fun h => (Or.elim h (fun h => (absurd (show 82 = 81 from (h).1) (by decide))) (fun h => (Or.elim h (fun h => (absurd (show 82 = 81 from (h).1) (by decide))) (fun h => (Or.elim h (fun h => (absurd (show 82 = 81 from (h).1) (by decide))) (fun h => (Or.elim h (fun h => (absurd (show 82 = 81 from (h).1) (by decide))) (fun h => (absurd (show 82 = 84 from h) (by decide)))))))))))))))))))))))))))).trans rfl)))); omega) (by omega))
        · skip
          refine mm_g 1 (pc1 := 51) (lo1 := [some (.ref 0), some (.int (Int32.ofInt a1)), some (.int (Int32.ofInt v8))]) (st1 := [.ref 0]) (H1 := mz_mk g9 x) rfl ?_
          refine mz_fgR (v := 81) rfl fd_11_26 (by decide) (sc_0 _) (rf_0_3 _ _ _) ?_
          refine mz_cv rfl mt_11_116 (by decide) (sc_81 _) rfl (Nat.le_of_ble_eq_true rfl) (by omega) (c_X4_goesOn (by omega) hx hIg9 (fun v22 l_v22 u_v22 => ⟨_, rfl, ?_⟩))
          show mm_W d mmX11_baggage 57 [some (.ref 0), some (.int (Int32.ofInt a1)), some (.int (Int32.ofInt v8))] [.int (Int32.ofInt v22)] (mz_mk g9 x) Q
          refine mz_if_eq (tgt := 77) rfl rfl (mz_rg l_v22 u_v22) (fun c57_22 => ?_) (fun c57_22 => ?_)
          · skip
            refine mm_g 2 (pc1 := 79) (lo1 := [some (.ref 0), some (.int (Int32.ofInt a1)), some (.int (Int32.ofInt v8))]) (st1 := [.ref 0, .ref 0]) (H1 := mz_mk g9 x) rfl ?_
            refine mz_fgR (v := 81) rfl fd_11_26 (by decide) (sc_0 _) (rf_0_3 _ _ _) ?_
            refine mz_cv rfl mt_11_124 (by decide) (sc_81 _) rfl (Nat.le_of_ble_eq_true rfl) (by omega) (c_X4_place (by omega) hx hIg9 (fun v23 l_v23 u_v23 => ⟨_, rfl, ?_⟩))
            show mm_W d mmX11_baggage 85 [some (.ref 0), some (.int (Int32.ofInt a1)), some (.int (Int32.ofInt v8))] [.int (Int32.ofInt v23), .ref 0] (mz_mk g9 x) Q
            refine mz_pI rfl fd_11_9 (sc_0 _) hIg9 bd_0_0 (by omega) (by omega) (fun g24 hIg24 hug24 => ?_)
            refine mm_g 1 (pc1 := 89) (lo1 := [some (.ref 0), some (.int (Int32.ofInt a1)), some (.int (Int32.ofInt v8))]) (st1 := [.ref 0]) (H1 := mz_mk g24 x) rfl ?_
            refine mz_fgR (v := 81) rfl fd_11_26 (by decide) (sc_0 _) (rf_0_3 _ _ _) ?_
            refine mz_cv rfl mt_11_128 (by decide) (sc_81 _) rfl (Nat.le_of_ble_eq_true rfl) (by omega) (c_X4_faultKind (by omega) hx hIg24 (fun v25 l_v25 u_v25 => ⟨_, rfl, ?_⟩))
            show mm_W d mmX11_baggage 95 [some (.ref 0), some (.int (Int32.ofInt a1)), some (.int (Int32.ofInt v8))] [.int (Int32.ofInt v25)] (mz_mk g24 x) Q
            refine mz_if_eq (tgt := 115) rfl rfl (mz_rg l_v25 u_v25) (fun c95_25 => ?_) (fun c95_25 => ?_)
            · skip
              refine mm_g 1 (pc1 := 116) (lo1 := [some (.ref 0), some (.int (Int32.ofInt a1)), some (.int (Int32.ofInt v8))]) (st1 := [.ref 0]) (H1 := mz_mk g24 x) rfl ?_
              refine mz_fgR (v := x.1) rfl fd_11_16 (by decide) (sc_0 _) rfl ?_
              refine mm_g 3 (pc1 := 122) (lo1 := [some (.ref 0), some (.int (Int32.ofInt a1)), some (.ref x.1)]) (st1 := [.ref 0, .ref 0]) (H1 := mz_mk g24 x) rfl ?_
              refine mz_fgR (v := x.2.1) rfl fd_11_20 (by decide) (sc_0 _) rfl ?_
              refine mz_ld1 rfl fd_11_16 ?_
              refine mm_g 2 (pc1 := 130) (lo1 := [some (.ref 0), some (.int (Int32.ofInt a1)), some (.ref x.1)]) (st1 := [.ref x.1, .ref 0]) (H1 := mz_mk g24 (x.2.1, x.2)) rfl ?_
              refine mz_ld2 rfl fd_11_20 ?_
              obtain ⟨x1, hx1, hq1, hq2⟩ := mz_swap hx
              rw [show mz_mk g24 ((x.2.1, x.2).1, x.1, (x.2.1, x.2).2.2) = mz_mk g24 x1 from congrArg (mz_mk g24) hx1.symm]
              have kx1 := kn_x hq1
              refine mm_g 1 (pc1 := 134) (lo1 := [some (.ref 0), some (.int (Int32.ofInt a1)), some (.ref x.1)]) (st1 := [.ref 0]) (H1 := mz_mk g24 x1) rfl ?_
              refine mz_fgR (v := x1.1) rfl fd_11_16 (by decide) (sc_0 _) rfl ?_
              refine mz_fgR (v := (x1.1 + 1)) rfl fd_11_135 (by decide) (kc_load (kx_1 hq1) _) (kr_load_0 (kx_1 hq1) _ _ _) ?_
              refine mm_g 1 (pc1 := 141) (lo1 := [some (.ref 0), some (.int (Int32.ofInt a1)), some (.ref x.1)]) (st1 := [.ref 0, .ref (x1.1 + 1)]) (H1 := mz_mk g24 x1) rfl ?_
              refine mz_fgR (v := 85) rfl fd_11_30 (by decide) (sc_0 _) (rf_0_4 _ _ _) ?_
              refine mz_cv rfl mt_11_139 (by decide) (kc_words (ks_load_0 (kx_1 hq1)) _) rfl (Nat.le_of_ble_eq_true rfl) (by omega) (c_X10_settle (by omega) hq1 hIg24 (ks_load_0 (kx_1 hq1)) (sh_85 _) (by decide) ba_85 (fun g26 hIg26 hfg26 => ⟨_, rfl, ?_⟩))
              show mm_W d mmX11_baggage 147 [some (.ref 0), some (.int (Int32.ofInt a1)), some (.ref x.1)] [] (mz_mk g26 x1) Q
              refine mm_g 1 (pc1 := 148) (lo1 := [some (.ref 0), some (.int (Int32.ofInt a1)), some (.ref x.1)]) (st1 := [.ref 0]) (H1 := mz_mk g26 x1) rfl ?_
              refine mz_fgR (v := 86) rfl fd_11_37 (by decide) (sc_0 _) (rf_0_5 _ _ _) ?_
              refine mm_g 1 (pc1 := 152) (lo1 := [some (.ref 0), some (.int (Int32.ofInt a1)), some (.ref x.1)]) (st1 := [.ref 0, .ref 86]) (H1 := mz_mk g26 x1) rfl ?_
              refine mz_fgR (v := x1.1) rfl fd_11_16 (by decide) (sc_0 _) rfl ?_
              refine mz_fgR (v := (x1.1 + 26)) rfl fd_11_145 (by decide) (kc_load (kx_1 hq1) _) (kr_load_1 (kx_1 hq1) _ _ _) ?_
              refine mz_cv rfl mt_11_148 (by decide) (sc_86 _) rfl (Nat.le_of_ble_eq_true rfl) (by omega) (c_X6_beginWith (by omega) hq1 hIg26 kp_story_86 (ks_load_1 (kx_1 hq1)) (fun g27 hIg27 hfg27 => ⟨_, rfl, ?_⟩))
              show mm_W d mmX11_baggage 161 [some (.ref 0), some (.int (Int32.ofInt a1)), some (.ref x.1)] [] (mz_mk g27 x1) Q
              refine mm_g 2 (pc1 := 163) (lo1 := [some (.ref 0), some (.int (Int32.ofInt a1)), some (.ref x.1)]) (st1 := [.int (Int32.ofInt 0), .ref 0]) (H1 := mz_mk g27 x1) rfl ?_
              refine mz_pZ rfl fd_11_44 (sc_0 _) (by decide) hIg27 bd_0_7 (by omega) (by omega) (fun g28 hIg28 hug28 => ?_)
              refine mm_g 1 (pc1 := 167) (lo1 := [some (.ref 0), some (.int (Int32.ofInt a1)), some (.ref x.1)]) (st1 := [.int (Int32.ofInt 0)]) (H1 := mz_mk g28 x1) rfl ?_
              exact mm_rt rfl rfl (hQ _ _ _ hq1 hq2 hIg28 (fun k j hk => ((hug28.2 k j (fun h => hk (Or.inr (Or.inr (Or.inr (Or.inr (Or.inr (Or.inr (Or.inr (Or.inr (Or.inr (Or.inr (Or.inr (Or.inr (Or.inr (Or.inr (Or.inr (Or.inr (Or.inr (Or.inr (Or.inr (Or.inl h)))))))))))))))))))))).trans ((hfg27 k j (fun h => hk (Or.elim h (fun h => (Or.inr (Or.inr (Or.inr (Or.inr (Or.inr (Or.inr (Or.inr (Or.inr (Or.inr (Or.inr (Or.inr (Or.inr (Or.inr (Or.inr (Or.inr (Or.inr (Or.inr (Or.inl h))))))))))))))))))) (fun h => (Or.inr (Or.inr (Or.inr (Or.inr (Or.inr (Or.inr (Or.inr (Or.inr (Or.inr (Or.inr (Or.inr (Or.inr (Or.inr (Or.inr (Or.inr (Or.inr (Or.inr (Or.inr (Or.inl h))))))))))))))))))))))).trans ((hfg26 k j (fun h => hk (Or.elim h (fun h => (Or.inl (show (1 ≤ k ∧ k < 81) by have h9 : k = ((x1.1 + 1) + 5) := h; omega))) (fun h => (Or.elim h (fun h => (Or.inl (show (1 ≤ k ∧ k < 81) by have h9 : k = ((x1.1 + 1) + 6) := h; omega))) (fun h => (Or.elim h (fun h => (Or.inr (Or.inr (Or.inr (Or.inr (Or.inr (Or.inr (Or.inr (Or.inr (Or.inr (Or.inr (Or.inr (Or.inr (Or.inr (Or.inr (Or.inr (Or.inr (Or.inl h)))))))))))))))))) (fun h => (Or.elim h (fun h => (Or.inl (show (1 ≤ k ∧ k < 81) by have h9 : k = ((x1.1 + 1) + 7) := h; omega))) (fun h => (Or.elim h (fun h => (Or.inl (show (1 ≤ k ∧ k < 81) by have h9 : k = ((x1.1 + 1) + 8) := h; omega))) (fun h => (Or.inl (show (1 ≤ k ∧ k < 81) by have h9 : k = (x1.1 + 1) := h; omega)))))))))))))).trans ((hug24.2 k j (fun h => hk (Or.inr (Or.inr (Or.inr (Or.inr (Or.inr (Or.inr (Or.inr (Or.inr (Or.inr (Or.inr (Or.inr (Or.inr (Or.inr (Or.inr (Or.inr (Or.inl h)))))))))))))))))).trans ((hfg9 k j (fun h => hk (Or.elim h (fun h => (Or.inr (Or.inr (Or.inr (Or.inr (Or.inr (Or.inl h))))))) (fun h => (Or.elim h (fun h => (Or.inr (Or.inr (Or.inr (Or.inr (Or.inr (Or.inr (Or.inl h)))))))) (fun h => (Or.elim h (fun h => (Or.inr (Or.inr (Or.inr (Or.inr (Or.inr (Or.inr (Or.inr (Or.inl h))))))))) (fun h => (Or.elim h (fun h => (Or.inr (Or.inr (Or.inr (Or.inr (Or.inr (Or.inr (Or.inr (Or.inr (Or.inl h)))))))))) (fun h => (Or.elim h (fun h => (Or.inr (Or.inl h))) (fun h => (Or.elim h (fun h => (Or.inr (Or.inr (Or.inl h)))) (fun h => (Or.elim h (fun h => (Or.inl h)) (fun h => (Or.elim h (fun h => (Or.inr (Or.inr (Or.inr (Or.inr (Or.inr (Or.inr (Or.inr (Or.inr (Or.inr (Or.inl h))))))))))) (fun h => (Or.elim h (fun h => (Or.inr (Or.inr (Or.inr (Or.inr (Or.inr (Or.inr (Or.inr (Or.inr (Or.inr (Or.inr (Or.inl h)))))))))))) (fun h => (Or.elim h (fun h => (Or.inr (Or.inr (Or.inr (Or.inr (Or.inr (Or.inr (Or.inr (Or.inr (Or.inr (Or.inr (Or.inr (Or.inl h))))))))))))) (fun h => (Or.elim h (fun h => (Or.inr (Or.inr (Or.inr (Or.inr (Or.inr (Or.inr (Or.inr (Or.inr (Or.inr (Or.inr (Or.inr (Or.inr (Or.inl h)))))))))))))) (fun h => (Or.elim h (fun h => (Or.inr (Or.inr (Or.inr (Or.inr (Or.inr (Or.inr (Or.inr (Or.inr (Or.inr (Or.inr (Or.inr (Or.inr (Or.inr (Or.inl h))))))))))))))) (fun h => (Or.inr (Or.inr (Or.inr (Or.inr (Or.inr (Or.inr (Or.inr (Or.inr (Or.inr (Or.inr (Or.inr (Or.inr (Or.inr (Or.inr (Or.inl h))))))))))))))))))))))))))))))))))))))))).trans ((hfg6 k j (fun h => hk (Or.elim h (fun h => (Or.inr (Or.inl h))) (fun h => (Or.elim h (fun h => (Or.inr (Or.inr (Or.inl h)))) (fun h => (Or.elim h (fun h => (Or.inr (Or.inr (Or.inr (Or.inl h))))) (fun h => (Or.elim h (fun h => (Or.inr (Or.inr (Or.inr (Or.inr (Or.inl h)))))) (fun h => (Or.elim h (fun h => (Or.inr (Or.inr (Or.inr (Or.inr (Or.inr (Or.inl h))))))) (fun h => (Or.elim h (fun h => (Or.inr (Or.inr (Or.inr (Or.inr (Or.inr (Or.inr (Or.inl h)))))))) (fun h => (Or.elim h (fun h => (Or.inr (Or.inr (Or.inr (Or.inr (Or.inr (Or.inr (Or.inr (Or.inl h))))))))) (fun h => (Or.inr (Or.inr (Or.inr (Or.inr (Or.inr (Or.inr (Or.inr (Or.inr (Or.inl h))))))))))))))))))))))))).trans (hfg4 k j (fun h => hk (Or.elim h (fun h => (Or.inl (show (1 ≤ k ∧ k < 81) by have h9 : k = (x.2.1 + 1) := h; omega))) (fun h => (Or.elim h (fun h => (Or.inl (show (1 ≤ k ∧ k < 81) by have h9 : k = (x.2.1 + 26) := h; omega))) (fun h => (Or.elim h (fun h => (Or.inl (show (1 ≤ k ∧ k < 81) by have h9 : k = x.2.1 := h; omega))) (fun h => (Or.inl (show (1 ≤ k ∧ k < 81) by have h9 : k = (x.2.1 + 36) := h; omega))))))))))))))))) (by decide) (by decide) (by have h9 := (show g28 82 1 = (g6 82 1) from ((hug28.2 82 1 (fun h => absurd h.1 (by decide))).trans ((hfg27 82 1 (fun h => (Or.elim h (fun h => (absurd (show (87 ≤ 82 ∧ 82 < 96) from h) (by decide))) (fun h => (absurd (show 82 = 86 from h) (by decide)))))).trans ((hfg26 82 1 (fun h => (Or.elim h (fun h => (by have h9 : 82 = ((x1.1 + 1) + 5) := h; omega)) (fun h => (Or.elim h (fun h => (by have h9 : 82 = ((x1.1 + 1) + 6) := h; omega)) (fun h => (Or.elim h (fun h => (absurd (show 82 = 85 from h) (by decide))) (fun h => (Or.elim h (fun h => (by have h9 : 82 = ((x1.1 + 1) + 7) := h; omega)) (fun h => (Or.elim h (fun h => (by have h9 : 82 = ((x1.1 + 1) + 8) := h; omega)) (fun h => (by have h9 : 82 = (x1.1 + 1) := h; omega))))))))))))).trans ((hug24.2 82 1 (fun h => absurd h.1 (by decide))).trans ((hfg9 82 1 (fun h => (Or.elim h (fun h => (absurd (show (82 = 82 ∧ 1 = 3) from h) (by decide))) (fun h => (Or.elim h (fun h => (absurd (show (82 = 82 ∧ 1 = 5) from h) (by decide))) (fun h => (Or.elim h (fun h => (absurd (show (82 = 82 ∧ 1 = 6) from h) (by decide))) (fun h => (Or.elim h (fun h => (absurd (show (82 = 82 ∧ 1 = 4) from h) (by decide))) (fun h => (Or.elim h (fun h => (absurd (show 82 = 81 from (h).1) (by decide))) (fun h => (Or.elim h (fun h => (absurd (show 82 = 81 from (h).1) (by decide))) (fun h => (Or.elim h (fun h => (absurd (show (1 ≤ 82 ∧ 82 < 81) from h) (by decide))) (fun h => (Or.elim h (fun h => (absurd (show 82 = 81 from (h).1) (by decide))) (fun h => (Or.elim h (fun h => (absurd (show 82 = 81 from (h).1) (by decide))) (fun h => (Or.elim h (fun h => (absurd (show 82 = 81 from (h).1) (by decide))) (fun h => (Or.elim h (fun h => (absurd (show 82 = 81 from (h).1) (by decide))) (fun h => (Or.elim h (fun h => (absurd (show 82 = 81 from (h).1) (by decide))) (fun h => (absurd (show 82 = 84 from h) (by decide)))))))))))))))))))))))))))).trans rfl)))))); omega) (by omega))
            · skip
              refine mm_g 1 (pc1 := 99) (lo1 := [some (.ref 0), some (.int (Int32.ofInt a1)), some (.int (Int32.ofInt v8))]) (st1 := [.ref 0]) (H1 := mz_mk g24 x) rfl ?_
              refine mz_fgR (v := 86) rfl fd_11_37 (by decide) (sc_0 _) (rf_0_5 _ _ _) ?_
              refine mm_g 1 (pc1 := 103) (lo1 := [some (.ref 0), some (.int (Int32.ofInt a1)), some (.int (Int32.ofInt v8))]) (st1 := [.int (Int32.ofInt 0), .ref 86]) (H1 := mz_mk g24 x) rfl ?_
              refine mz_cv rfl mt_11_131 (by decide) (sc_86 _) rfl (Nat.le_of_ble_eq_true rfl) (by omega) (c_X6_refuse (by omega) hx hIg24 kp_story_86 (by decide) (by decide) (fun v29 g30 hIg30 hfg30 l_v29 u_v29 => ⟨_, rfl, ?_⟩))
              show mm_W d mmX11_baggage 106 [some (.ref 0), some (.int (Int32.ofInt a1)), some (.int (Int32.ofInt v8))] [.int (Int32.ofInt v29)] (mz_mk g30 x) Q
              refine mm_g 2 (pc1 := 108) (lo1 := [some (.ref 0), some (.int (Int32.ofInt a1)), some (.int (Int32.ofInt v8))]) (st1 := [.ref 0]) (H1 := mz_mk g30 x) rfl ?_
              refine mz_fgR (v := 81) rfl fd_11_26 (by decide) (sc_0 _) (rf_0_3 _ _ _) ?_
              refine mz_cv rfl mt_11_128 (by decide) (sc_81 _) rfl (Nat.le_of_ble_eq_true rfl) (by omega) (c_X4_faultKind (by omega) hx hIg30 (fun v31 l_v31 u_v31 => ⟨_, rfl, ?_⟩))
              show mm_W d mmX11_baggage 114 [some (.ref 0), some (.int (Int32.ofInt a1)), some (.int (Int32.ofInt v8))] [.int (Int32.ofInt v31)] (mz_mk g30 x) Q
              exact mm_rt rfl rfl (hQ _ _ _ hx rfl hIg30 (fun k j hk => ((hfg30 k j (fun h => hk (Or.inr (Or.inr (Or.inr (Or.inr (Or.inr (Or.inr (Or.inr (Or.inr (Or.inr (Or.inr (Or.inr (Or.inr (Or.inr (Or.inr (Or.inr (Or.inr (Or.inr (Or.inr (Or.inr (Or.inr h)))))))))))))))))))))).trans ((hug24.2 k j (fun h => hk (Or.inr (Or.inr (Or.inr (Or.inr (Or.inr (Or.inr (Or.inr (Or.inr (Or.inr (Or.inr (Or.inr (Or.inr (Or.inr (Or.inr (Or.inr (Or.inl h)))))))))))))))))).trans ((hfg9 k j (fun h => hk (Or.elim h (fun h => (Or.inr (Or.inr (Or.inr (Or.inr (Or.inr (Or.inl h))))))) (fun h => (Or.elim h (fun h => (Or.inr (Or.inr (Or.inr (Or.inr (Or.inr (Or.inr (Or.inl h)))))))) (fun h => (Or.elim h (fun h => (Or.inr (Or.inr (Or.inr (Or.inr (Or.inr (Or.inr (Or.inr (Or.inl h))))))))) (fun h => (Or.elim h (fun h => (Or.inr (Or.inr (Or.inr (Or.inr (Or.inr (Or.inr (Or.inr (Or.inr (Or.inl h)))))))))) (fun h => (Or.elim h (fun h => (Or.inr (Or.inl h))) (fun h => (Or.elim h (fun h => (Or.inr (Or.inr (Or.inl h)))) (fun h => (Or.elim h (fun h => (Or.inl h)) (fun h => (Or.elim h (fun h => (Or.inr (Or.inr (Or.inr (Or.inr (Or.inr (Or.inr (Or.inr (Or.inr (Or.inr (Or.inl h))))))))))) (fun h => (Or.elim h (fun h => (Or.inr (Or.inr (Or.inr (Or.inr (Or.inr (Or.inr (Or.inr (Or.inr (Or.inr (Or.inr (Or.inl h)))))))))))) (fun h => (Or.elim h (fun h => (Or.inr (Or.inr (Or.inr (Or.inr (Or.inr (Or.inr (Or.inr (Or.inr (Or.inr (Or.inr (Or.inr (Or.inl h))))))))))))) (fun h => (Or.elim h (fun h => (Or.inr (Or.inr (Or.inr (Or.inr (Or.inr (Or.inr (Or.inr (Or.inr (Or.inr (Or.inr (Or.inr (Or.inr (Or.inl h)))))))))))))) (fun h => (Or.elim h (fun h => (Or.inr (Or.inr (Or.inr (Or.inr (Or.inr (Or.inr (Or.inr (Or.inr (Or.inr (Or.inr (Or.inr (Or.inr (Or.inr (Or.inl h))))))))))))))) (fun h => (Or.inr (Or.inr (Or.inr (Or.inr (Or.inr (Or.inr (Or.inr (Or.inr (Or.inr (Or.inr (Or.inr (Or.inr (Or.inr (Or.inr (Or.inl h))))))))))))))))))))))))))))))))))))))))).trans ((hfg6 k j (fun h => hk (Or.elim h (fun h => (Or.inr (Or.inl h))) (fun h => (Or.elim h (fun h => (Or.inr (Or.inr (Or.inl h)))) (fun h => (Or.elim h (fun h => (Or.inr (Or.inr (Or.inr (Or.inl h))))) (fun h => (Or.elim h (fun h => (Or.inr (Or.inr (Or.inr (Or.inr (Or.inl h)))))) (fun h => (Or.elim h (fun h => (Or.inr (Or.inr (Or.inr (Or.inr (Or.inr (Or.inl h))))))) (fun h => (Or.elim h (fun h => (Or.inr (Or.inr (Or.inr (Or.inr (Or.inr (Or.inr (Or.inl h)))))))) (fun h => (Or.elim h (fun h => (Or.inr (Or.inr (Or.inr (Or.inr (Or.inr (Or.inr (Or.inr (Or.inl h))))))))) (fun h => (Or.inr (Or.inr (Or.inr (Or.inr (Or.inr (Or.inr (Or.inr (Or.inr (Or.inl h))))))))))))))))))))))))).trans (hfg4 k j (fun h => hk (Or.elim h (fun h => (Or.inl (show (1 ≤ k ∧ k < 81) by have h9 : k = (x.2.1 + 1) := h; omega))) (fun h => (Or.elim h (fun h => (Or.inl (show (1 ≤ k ∧ k < 81) by have h9 : k = (x.2.1 + 26) := h; omega))) (fun h => (Or.elim h (fun h => (Or.inl (show (1 ≤ k ∧ k < 81) by have h9 : k = x.2.1 := h; omega))) (fun h => (Or.inl (show (1 ≤ k ∧ k < 81) by have h9 : k = (x.2.1 + 36) := h; omega))))))))))))))) (by omega) (by omega) (by have h9 := (show g30 82 1 = (g6 82 1) from ((hfg30 82 1 (fun h => (absurd (show 82 = 100 from h) (by decide)))).trans ((hug24.2 82 1 (fun h => absurd h.1 (by decide))).trans ((hfg9 82 1 (fun h => (Or.elim h (fun h => (absurd (show (82 = 82 ∧ 1 = 3) from h) (by decide))) (fun h => (Or.elim h (fun h => (absurd (show (82 = 82 ∧ 1 = 5) from h) (by decide))) (fun h => (Or.elim h (fun h => (absurd (show (82 = 82 ∧ 1 = 6) from h) (by decide))) (fun h => (Or.elim h (fun h => (absurd (show (82 = 82 ∧ 1 = 4) from h) (by decide))) (fun h => (Or.elim h (fun h => (absurd (show 82 = 81 from (h).1) (by decide))) (fun h => (Or.elim h (fun h => (absurd (show 82 = 81 from (h).1) (by decide))) (fun h => (Or.elim h (fun h => (absurd (show (1 ≤ 82 ∧ 82 < 81) from h) (by decide))) (fun h => (Or.elim h (fun h => (absurd (show 82 = 81 from (h).1) (by decide))) (fun h => (Or.elim h (fun h => (absurd (show 82 = 81 from (h).1) (by decide))) (fun h => (Or.elim h (fun h => (absurd (show 82 = 81 from (h).1) (by decide))) (fun h => (Or.elim h (fun h => (absurd (show 82 = 81 from (h).1) (by decide))) (fun h => (Or.elim h (fun h => (absurd (show 82 = 81 from (h).1) (by decide))) (fun h => (absurd (show 82 = 84 from h) (by decide)))))))))))))))))))))))))))).trans rfl)))); omega) (by omega))
          · skip
            refine mm_g 1 (pc1 := 61) (lo1 := [some (.ref 0), some (.int (Int32.ofInt a1)), some (.int (Int32.ofInt v8))]) (st1 := [.ref 0]) (H1 := mz_mk g9 x) rfl ?_
            refine mz_fgR (v := 81) rfl fd_11_26 (by decide) (sc_0 _) (rf_0_3 _ _ _) ?_
            refine mm_g 1 (pc1 := 65) (lo1 := [some (.ref 0), some (.int (Int32.ofInt a1)), some (.int (Int32.ofInt v8))]) (st1 := [.ref 0, .ref 81]) (H1 := mz_mk g9 x) rfl ?_
            refine mz_fgR (v := x.2.1) rfl fd_11_20 (by decide) (sc_0 _) rfl ?_
            refine mz_cv rfl mt_11_120 (by decide) (sc_81 _) rfl (Nat.le_of_ble_eq_true rfl) (by omega) (c_X4_readLine (by omega) hx hIg9 (kx_2 hx) (fun g32 hIg32 hfg32 => ⟨_, rfl, ?_⟩))
            show mm_W d mmX11_baggage 71 [some (.ref 0), some (.int (Int32.ofInt a1)), some (.int (Int32.ofInt v8))] [] (mz_mk g32 x) Q
            refine mz_iincR (v := v8) (lo2 := [some (.ref 0), some (.int (Int32.ofInt a1)), some (.int (Int32.ofInt (v8 + 1)))]) rfl rfl rfl (Nat.le_of_ble_eq_true rfl) rfl ?_
            refine mz_gt (tgt := 43) rfl rfl ?_
            exact ih10 ((700 - (v8 + 1)).toNat) (by omega) (v8 + 1) g32 rfl (by omega) (by omega) hIg32 (fun k j hk => ((hfg32 k j (fun h => hk (Or.elim h (fun h => (Or.inl h)) (fun h => (Or.elim h (fun h => (Or.inr (Or.inl h))) (fun h => (Or.elim h (fun h => (Or.inr (Or.inr (Or.inl h)))) (fun h => (Or.elim h (fun h => (Or.inr (Or.inr (Or.inr (Or.inl h))))) (fun h => (Or.elim h (fun h => (Or.inr (Or.inr (Or.inr (Or.inr (Or.inl h)))))) (fun h => (Or.elim h (fun h => (Or.inr (Or.inr (Or.inr (Or.inr (Or.inr (Or.inl h))))))) (fun h => (Or.elim h (fun h => (Or.inr (Or.inr (Or.inr (Or.inr (Or.inr (Or.inr (Or.inl (show (1 ≤ k ∧ k < 81) by have h9 : ((x.2.1 + 26) ≤ k ∧ k < (x.2.1 + 26) + 9) := h; omega))))))))) (fun h => (Or.elim h (fun h => (Or.inr (Or.inr (Or.inr (Or.inr (Or.inr (Or.inr (Or.inr (Or.inl h))))))))) (fun h => (Or.elim h (fun h => (Or.inr (Or.inr (Or.inr (Or.inr (Or.inr (Or.inr (Or.inr (Or.inr (Or.inl h)))))))))) (fun h => (Or.elim h (fun h => (Or.inr (Or.inr (Or.inr (Or.inr (Or.inr (Or.inr (Or.inr (Or.inr (Or.inr (Or.inl h))))))))))) (fun h => (Or.elim h (fun h => (Or.inr (Or.inr (Or.inr (Or.inr (Or.inr (Or.inr (Or.inr (Or.inr (Or.inr (Or.inr (Or.inl h)))))))))))) (fun h => (Or.elim h (fun h => (Or.inr (Or.inr (Or.inr (Or.inr (Or.inr (Or.inr (Or.inr (Or.inr (Or.inr (Or.inr (Or.inr (Or.inl h))))))))))))) (fun h => (Or.elim h (fun h => (Or.inr (Or.inr (Or.inr (Or.inr (Or.inr (Or.inr (Or.inl (show (1 ≤ k ∧ k < 81) by have h9 : k = ((x.2.1 + 36) + 1) := h; omega))))))))) (fun h => (Or.elim h (fun h => (Or.inr (Or.inr (Or.inr (Or.inr (Or.inr (Or.inr (Or.inl (show (1 ≤ k ∧ k < 81) by have h9 : k = (x.2.1 + 36) := h; omega))))))))) (fun h => (Or.elim h (fun h => (Or.inr (Or.inr (Or.inr (Or.inr (Or.inr (Or.inr (Or.inr (Or.inr (Or.inr (Or.inr (Or.inr (Or.inr h))))))))))))) (fun h => (Or.elim h (fun h => (Or.inr (Or.inr (Or.inr (Or.inr (Or.inr (Or.inr (Or.inl (show (1 ≤ k ∧ k < 81) by have h9 : k = (x.2.1 + 35) := h; omega))))))))) (fun h => (Or.elim h (fun h => (Or.inr (Or.inr (Or.inr (Or.inr (Or.inr (Or.inr (Or.inl (show (1 ≤ k ∧ k < 81) by have h9 : k = x.2.1 := h; omega))))))))) (fun h => (Or.inr (Or.inr (Or.inr (Or.inr (Or.inr (Or.inr (Or.inl (show (1 ≤ k ∧ k < 81) by have h9 : ((x.2.1 + 1) ≤ k ∧ k < (x.2.1 + 1) + 25) := h; omega)))))))))))))))))))))))))))))))))))))))))))).trans (hfg9 k j (fun h => hk (Or.elim h (fun h => (Or.inl h)) (fun h => (Or.elim h (fun h => (Or.inr (Or.inl h))) (fun h => (Or.elim h (fun h => (Or.inr (Or.inr (Or.inl h)))) (fun h => (Or.elim h (fun h => (Or.inr (Or.inr (Or.inr (Or.inl h))))) (fun h => (Or.elim h (fun h => (Or.inr (Or.inr (Or.inr (Or.inr (Or.inl h)))))) (fun h => (Or.elim h (fun h => (Or.inr (Or.inr (Or.inr (Or.inr (Or.inr (Or.inl h))))))) (fun h => (Or.elim h (fun h => (Or.inr (Or.inr (Or.inr (Or.inr (Or.inr (Or.inr (Or.inl h)))))))) (fun h => (Or.elim h (fun h => (Or.inr (Or.inr (Or.inr (Or.inr (Or.inr (Or.inr (Or.inr (Or.inl h))))))))) (fun h => (Or.elim h (fun h => (Or.inr (Or.inr (Or.inr (Or.inr (Or.inr (Or.inr (Or.inr (Or.inr (Or.inl h)))))))))) (fun h => (Or.elim h (fun h => (Or.inr (Or.inr (Or.inr (Or.inr (Or.inr (Or.inr (Or.inr (Or.inr (Or.inr (Or.inl h))))))))))) (fun h => (Or.elim h (fun h => (Or.inr (Or.inr (Or.inr (Or.inr (Or.inr (Or.inr (Or.inr (Or.inr (Or.inr (Or.inr (Or.inl h)))))))))))) (fun h => (Or.elim h (fun h => (Or.inr (Or.inr (Or.inr (Or.inr (Or.inr (Or.inr (Or.inr (Or.inr (Or.inr (Or.inr (Or.inr (Or.inl h))))))))))))) (fun h => (Or.inr (Or.inr (Or.inr (Or.inr (Or.inr (Or.inr (Or.inr (Or.inr (Or.inr (Or.inr (Or.inr (Or.inr h))))))))))))))))))))))))))))))))))))))))
      exact L12 _ 0 g6 rfl (by decide) (by decide) hIg6 (fun _ _ _ => rfl)
theorem t_X11_mustBe {d : Nat} (hd : 12 ≤ d) {x : mm_X} (hx : mk_x x) {g : mz_G} (hI : mz_inv g) {a1 : Int} (l_a1 : 0 ≤ a1) (u_a1 : a1 ≤ 1) {Q : (Option Value ⊕ Nat) → mm_H → Prop} (hQ : (a1 = 1) → Q (.inl none) (mz_mk g x)) (hX0 : Q (.inr 0) (mz_mk g (mz_tx x))) : mm_C d 174 [.int (Int32.ofInt a1)] (mz_mk g x) Q := by
  have kx := kn_x hx
  refine ⟨mmX11_mustBe, [some (.int (Int32.ofInt a1))], rfl, rfl, ?_⟩
  refine mm_g 1 (pc1 := 1) (lo1 := [some (.int (Int32.ofInt a1))]) (st1 := [.int (Int32.ofInt a1)]) (H1 := mz_mk g x) rfl ?_
  refine mz_if_ne (tgt := 12) rfl rfl (mz_rg l_a1 u_a1) (fun c1_0 => ?_) (fun c1_0 => ?_)
  · skip
    exact mm_rt rfl rfl (hQ (by omega))
  · skip
    exact mz_throw rfl rfl rfl rfl rfl rfl rfl (Nat.le_of_ble_eq_true rfl) (by omega) (hX0)
theorem t_X11_count {d : Nat} (hd : 15 ≤ d) {x : mm_X} (hx : mk_x x) {g : mz_G} (hI : mz_inv g) {a1 : Int} (l_a1 : (-2147483648) ≤ a1) (u_a1 : a1 ≤ 2147483647) {Q : (Option Value ⊕ Nat) → mm_H → Prop} (hQ : ∀ (r : Int), (-2147483648) ≤ r → r ≤ 2147483647 → Q (.inl (some (.int (Int32.ofInt r)))) (mz_mk g x)) (hX0 : Q (.inr 0) (mz_mk g (mz_tx x))) : mm_C d 126 [.ref 0, .int (Int32.ofInt a1)] (mz_mk g x) Q := by
  have kx := kn_x hx
  refine ⟨mmX11_count, [some (.ref 0), some (.int (Int32.ofInt a1))], rfl, rfl, ?_⟩
  refine mm_g 1 (pc1 := 1) (lo1 := [some (.ref 0), some (.int (Int32.ofInt a1))]) (st1 := [.int (Int32.ofInt a1)]) (H1 := mz_mk g x) rfl ?_
  by_cases c1_0 : a1 = 0
  · refine mz_tsi (tgt := 56) rfl (mz_rg l_a1 u_a1) (by omega) (by omega) (by rw [c1_0]; rfl) rfl ?_
    refine mm_g 1 (pc1 := 57) (lo1 := [some (.ref 0), some (.int (Int32.ofInt a1))]) (st1 := [.ref 0]) (H1 := mz_mk g x) rfl ?_
    refine mz_fgR (v := x.1) rfl fd_11_16 (by decide) (sc_0 _) rfl ?_
    refine mz_fgR (v := (x.1 + 1)) rfl fd_11_135 (by decide) (kc_load (kx_1 hx) _) (kr_load_0 (kx_1 hx) _ _ _) ?_
    refine mz_cv rfl mt_11_152 (by decide) (kc_words (ks_load_0 (kx_1 hx)) _) rfl (Nat.le_of_ble_eq_true rfl) (by omega) (c_X10_many (by omega) hx hI (ks_load_0 (kx_1 hx)) (fun v1 l_v1 u_v1 => ⟨_, rfl, ?_⟩))
    show mm_W d mmX11_count 66 [some (.ref 0), some (.int (Int32.ofInt a1))] [.int (Int32.ofInt v1)] (mz_mk g x) Q
    exact mm_rt rfl rfl (hQ _ (by omega) (by omega))
  by_cases c1_1 : a1 = 1
  · refine mz_tsi (tgt := 67) rfl (mz_rg l_a1 u_a1) (by omega) (by omega) (by rw [c1_1]; rfl) rfl ?_
    refine mm_g 1 (pc1 := 68) (lo1 := [some (.ref 0), some (.int (Int32.ofInt a1))]) (st1 := [.ref 0]) (H1 := mz_mk g x) rfl ?_
    refine mz_cv rfl mt_11_155 (by decide) (sc_0 _) rfl (Nat.le_of_ble_eq_true rfl) (by omega) (c_X11_trunkCount (by omega) hx hI (fun v2 l_v2 u_v2 => ⟨_, rfl, ?_⟩))
    show mm_W d mmX11_count 71 [some (.ref 0), some (.int (Int32.ofInt a1))] [.int (Int32.ofInt v2)] (mz_mk g x) Q
    exact mm_rt rfl rfl (hQ _ (by omega) (by omega))
  by_cases c1_2 : a1 = 2
  · refine mz_tsi (tgt := 72) rfl (mz_rg l_a1 u_a1) (by omega) (by omega) (by rw [c1_2]; rfl) rfl ?_
    refine mm_g 1 (pc1 := 73) (lo1 := [some (.ref 0), some (.int (Int32.ofInt a1))]) (st1 := [.ref 0]) (H1 := mz_mk g x) rfl ?_
    refine mz_fgR (v := 86) rfl fd_11_37 (by decide) (sc_0 _) (rf_0_5 _ _ _) ?_
    refine mz_fgR (v := 87) rfl fd_11_158 (by decide) (sc_86 _) (rf_86_0 _ _ _) ?_
    refine mz_gI rfl fd_11_161 (by decide) (sc_87 _) hI bd_87_3 (fun v3 e_v3 l_v3 u_v3 => ?_)
    exact mm_rt rfl rfl (hQ _ (by omega) (by omega))
  by_cases c1_3 : a1 = 3
  · refine mz_tsi (tgt := 83) rfl (mz_rg l_a1 u_a1) (by omega) (by omega) (by rw [c1_3]; rfl) rfl ?_
    refine mm_g 1 (pc1 := 84) (lo1 := [some (.ref 0), some (.int (Int32.ofInt a1))]) (st1 := [.ref 0]) (H1 := mz_mk g x) rfl ?_
    refine mz_fgR (v := x.1) rfl fd_11_16 (by decide) (sc_0 _) rfl ?_
    refine mm_g 1 (pc1 := 88) (lo1 := [some (.ref 0), some (.int (Int32.ofInt a1))]) (st1 := [.ref 0, .ref x.1]) (H1 := mz_mk g x) rfl ?_
    refine mz_fgR (v := 86) rfl fd_11_37 (by decide) (sc_0 _) (rf_0_5 _ _ _) ?_
    refine mz_fgR (v := 87) rfl fd_11_158 (by decide) (sc_86 _) (rf_86_0 _ _ _) ?_
    refine mz_gI rfl fd_11_161 (by decide) (sc_87 _) hI bd_87_3 (fun v4 e_v4 l_v4 u_v4 => ?_)
    refine mz_cv rfl mt_11_164 (by decide) (kc_load (kx_1 hx) _) rfl (Nat.le_of_ble_eq_true rfl) (by omega) (c_X1_heatOf (by omega) hx hI (kx_1 hx) l_v4 u_v4 (fun v5 l_v5 u_v5 => ⟨_, rfl, ?_⟩))
    show mm_W d mmX11_count 100 [some (.ref 0), some (.int (Int32.ofInt a1))] [.int (Int32.ofInt v5)] (mz_mk g x) Q
    exact mm_rt rfl rfl (hQ _ (by omega) (by omega))
  by_cases c1_4 : a1 = 4
  · refine mz_tsi (tgt := 101) rfl (mz_rg l_a1 u_a1) (by omega) (by omega) (by rw [c1_4]; rfl) rfl ?_
    refine mm_g 1 (pc1 := 102) (lo1 := [some (.ref 0), some (.int (Int32.ofInt a1))]) (st1 := [.ref 0]) (H1 := mz_mk g x) rfl ?_
    refine mz_fgR (v := x.1) rfl fd_11_16 (by decide) (sc_0 _) rfl ?_
    refine mm_g 1 (pc1 := 106) (lo1 := [some (.ref 0), some (.int (Int32.ofInt a1))]) (st1 := [.ref 0, .ref x.1]) (H1 := mz_mk g x) rfl ?_
    refine mz_fgR (v := 86) rfl fd_11_37 (by decide) (sc_0 _) (rf_0_5 _ _ _) ?_
    refine mz_fgR (v := 87) rfl fd_11_158 (by decide) (sc_86 _) (rf_86_0 _ _ _) ?_
    refine mz_cv rfl mt_11_167 (by decide) (kc_load (kx_1 hx) _) rfl (Nat.le_of_ble_eq_true rfl) (by omega) (c_X1_howManyFull (by omega) hx hI (kx_1 hx) kp_tks_87 (fun v6 l_v6 u_v6 => ⟨_, rfl, ?_⟩))
    show mm_W d mmX11_count 115 [some (.ref 0), some (.int (Int32.ofInt a1))] [.int (Int32.ofInt v6)] (mz_mk g x) Q
    exact mm_rt rfl rfl (hQ _ (by omega) (by omega))
  by_cases c1_5 : a1 = 5
  · refine mz_tsi (tgt := 116) rfl (mz_rg l_a1 u_a1) (by omega) (by omega) (by rw [c1_5]; rfl) rfl ?_
    refine mm_g 1 (pc1 := 117) (lo1 := [some (.ref 0), some (.int (Int32.ofInt a1))]) (st1 := [.ref 0]) (H1 := mz_mk g x) rfl ?_
    refine mz_cv rfl mt_11_171 (by decide) (sc_0 _) rfl (Nat.le_of_ble_eq_true rfl) (by omega) (c_X11_treaties (by omega) hx hI (fun v7 l_v7 u_v7 => ⟨_, rfl, ?_⟩))
    show mm_W d mmX11_count 120 [some (.ref 0), some (.int (Int32.ofInt a1))] [.int (Int32.ofInt v7)] (mz_mk g x) Q
    exact mm_rt rfl rfl (hQ _ (by omega) (by omega))
  by_cases c1_6 : a1 = 6
  · refine mz_tsi (tgt := 121) rfl (mz_rg l_a1 u_a1) (by omega) (by omega) (by rw [c1_6]; rfl) rfl ?_
    refine mm_g 1 (pc1 := 122) (lo1 := [some (.ref 0), some (.int (Int32.ofInt a1))]) (st1 := [.ref 0]) (H1 := mz_mk g x) rfl ?_
    refine mz_fgR (v := x.1) rfl fd_11_16 (by decide) (sc_0 _) rfl ?_
    refine mm_g 1 (pc1 := 126) (lo1 := [some (.ref 0), some (.int (Int32.ofInt a1))]) (st1 := [.ref 0, .ref x.1]) (H1 := mz_mk g x) rfl ?_
    refine mz_fgR (v := 86) rfl fd_11_37 (by decide) (sc_0 _) (rf_0_5 _ _ _) ?_
    refine mz_fgR (v := 87) rfl fd_11_158 (by decide) (sc_86 _) (rf_86_0 _ _ _) ?_
    refine mz_cv rfl mt_11_174 (by decide) (kc_load (kx_1 hx) _) rfl (Nat.le_of_ble_eq_true rfl) (by omega) (c_X1_lettersOfAll (by omega) hx hI (kx_1 hx) kp_tks_87 (fun v8 l_v8 u_v8 => ⟨_, rfl, ?_⟩))
    show mm_W d mmX11_count 135 [some (.ref 0), some (.int (Int32.ofInt a1))] [.int (Int32.ofInt v8)] (mz_mk g x) Q
    exact mm_rt rfl rfl (hQ _ (by omega) (by omega))
  by_cases c1_7 : a1 = 7
  · refine mz_tsi (tgt := 136) rfl (mz_rg l_a1 u_a1) (by omega) (by omega) (by rw [c1_7]; rfl) rfl ?_
    refine mm_g 1 (pc1 := 137) (lo1 := [some (.ref 0), some (.int (Int32.ofInt a1))]) (st1 := [.ref 0]) (H1 := mz_mk g x) rfl ?_
    refine mz_fgR (v := 86) rfl fd_11_37 (by decide) (sc_0 _) (rf_0_5 _ _ _) ?_
    refine mz_cv rfl mt_11_177 (by decide) (sc_86 _) rfl (Nat.le_of_ble_eq_true rfl) (by omega) (c_X6_actsKept (by omega) hx hI kp_story_86 (fun v9 l_v9 u_v9 => ⟨_, rfl, ?_⟩))
    show mm_W d mmX11_count 143 [some (.ref 0), some (.int (Int32.ofInt a1))] [.int (Int32.ofInt v9)] (mz_mk g x) Q
    exact mm_rt rfl rfl (hQ _ (by omega) (by omega))
  by_cases c1_8 : a1 = 8
  · refine mz_tsi (tgt := 144) rfl (mz_rg l_a1 u_a1) (by omega) (by omega) (by rw [c1_8]; rfl) rfl ?_
    refine mm_g 1 (pc1 := 145) (lo1 := [some (.ref 0), some (.int (Int32.ofInt a1))]) (st1 := [.ref 0]) (H1 := mz_mk g x) rfl ?_
    refine mz_fgR (v := 86) rfl fd_11_37 (by decide) (sc_0 _) (rf_0_5 _ _ _) ?_
    refine mz_cv rfl mt_11_180 (by decide) (sc_86 _) rfl (Nat.le_of_ble_eq_true rfl) (by omega) (c_X6_seenSize (by omega) hx hI kp_story_86 (fun v10 l_v10 u_v10 => ⟨_, rfl, ?_⟩))
    show mm_W d mmX11_count 151 [some (.ref 0), some (.int (Int32.ofInt a1))] [.int (Int32.ofInt v10)] (mz_mk g x) Q
    exact mm_rt rfl rfl (hQ _ (by omega) (by omega))
  by_cases c1_9 : a1 = 9
  · refine mz_tsi (tgt := 152) rfl (mz_rg l_a1 u_a1) (by omega) (by omega) (by rw [c1_9]; rfl) rfl ?_
    refine mm_g 1 (pc1 := 153) (lo1 := [some (.ref 0), some (.int (Int32.ofInt a1))]) (st1 := [.ref 0]) (H1 := mz_mk g x) rfl ?_
    refine mz_fgR (v := 81) rfl fd_11_26 (by decide) (sc_0 _) (rf_0_3 _ _ _) ?_
    refine mz_fgR (v := 82) rfl fd_11_94 (by decide) (sc_81 _) (rf_81_0 _ _ _) ?_
    refine mz_gI rfl fd_11_98 (by decide) (sc_82 _) hI bd_82_1 (fun v11 e_v11 l_v11 u_v11 => ?_)
    exact mm_rt rfl rfl (hQ _ (by omega) (by omega))
  refine mz_tso (tgt := 163) rfl (mz_rg l_a1 u_a1) (by omega) rfl ?_
  refine mm_g 1 (pc1 := 164) (lo1 := [some (.ref 0), some (.int (Int32.ofInt a1))]) (st1 := [.int (Int32.ofInt a1)]) (H1 := mz_mk g x) rfl ?_
  refine mz_bip rfl bip_10 ?_
  refine mz_ic_lt (tgt := 179) rfl rfl (mz_rg l_a1 u_a1) ⟨by decide, by decide⟩ (fun c166_11 => ?_) (fun c166_11 => ?_)
  · skip
    refine mm_g 1 (pc1 := 180) (lo1 := [some (.ref 0), some (.int (Int32.ofInt a1))]) (st1 := [.int (Int32.ofInt 0)]) (H1 := mz_mk g x) rfl ?_
    refine mz_csx rfl mt_11_183 rfl (Nat.le_of_ble_eq_true rfl) (by omega) rfl nh_X11_mustBe (t_X11_mustBe (by omega) hx hI (by decide) (by decide) (fun hp12 => ?_) hX0)
    show mm_W d mmX11_count 183 [some (.ref 0), some (.int (Int32.ofInt a1))] [] (mz_mk g x) Q
    exfalso; omega
  · skip
    refine mm_g 1 (pc1 := 170) (lo1 := [some (.ref 0), some (.int (Int32.ofInt a1))]) (st1 := [.int (Int32.ofInt a1)]) (H1 := mz_mk g x) rfl ?_
    refine mz_bip rfl bip_12 ?_
    refine mz_ic_gt (tgt := 179) rfl rfl (mz_rg l_a1 u_a1) ⟨by decide, by decide⟩ (fun c172_12 => ?_) (fun c172_12 => ?_)
    · skip
      refine mm_g 1 (pc1 := 180) (lo1 := [some (.ref 0), some (.int (Int32.ofInt a1))]) (st1 := [.int (Int32.ofInt 0)]) (H1 := mz_mk g x) rfl ?_
      refine mz_csx rfl mt_11_183 rfl (Nat.le_of_ble_eq_true rfl) (by omega) rfl nh_X11_mustBe (t_X11_mustBe (by omega) hx hI (by decide) (by decide) (fun hp13 => ?_) hX0)
      show mm_W d mmX11_count 183 [some (.ref 0), some (.int (Int32.ofInt a1))] [] (mz_mk g x) Q
      exfalso; omega
    · skip
      refine mm_g 1 (pc1 := 176) (lo1 := [some (.ref 0), some (.int (Int32.ofInt a1))]) (st1 := [.int (Int32.ofInt 1)]) (H1 := mz_mk g x) rfl ?_
      refine mz_gt (tgt := 180) rfl rfl ?_
      refine mz_csx rfl mt_11_183 rfl (Nat.le_of_ble_eq_true rfl) (by omega) rfl nh_X11_mustBe (t_X11_mustBe (by omega) hx hI (by decide) (by decide) (fun hp14 => ?_) hX0)
      show mm_W d mmX11_count 183 [some (.ref 0), some (.int (Int32.ofInt a1))] [] (mz_mk g x) Q
      refine mm_g 1 (pc1 := 184) (lo1 := [some (.ref 0), some (.int (Int32.ofInt a1))]) (st1 := [.ref 0]) (H1 := mz_mk g x) rfl ?_
      refine mz_fgR (v := 86) rfl fd_11_37 (by decide) (sc_0 _) (rf_0_5 _ _ _) ?_
      refine mm_g 1 (pc1 := 188) (lo1 := [some (.ref 0), some (.int (Int32.ofInt a1))]) (st1 := [.int (Int32.ofInt a1), .ref 86]) (H1 := mz_mk g x) rfl ?_
      refine mz_bip rfl bip_10 ?_
      refine mz_isub rfl ?_
      refine mz_cv rfl mt_11_186 (by decide) (sc_86 _) rfl (Nat.le_of_ble_eq_true rfl) (by omega) (c_X6_refusals (by omega) hx hI kp_story_86 (by omega) (by omega) (fun v15 l_v15 u_v15 => ⟨_, rfl, ?_⟩))
      show mm_W d mmX11_count 194 [some (.ref 0), some (.int (Int32.ofInt a1))] [.int (Int32.ofInt v15)] (mz_mk g x) Q
      exact mm_rt rfl rfl (hQ _ (by omega) (by omega))
theorem t_X11_word {d : Nat} (hd : 13 ≤ d) {x : mm_X} (hx : mk_x x) {g : mz_G} (hI : mz_inv g) {a1 : Int} (l_a1 : (-2147483648) ≤ a1) (u_a1 : a1 ≤ 2147483647) {a2 : Int} (l_a2 : (-2147483648) ≤ a2) (u_a2 : a2 ≤ 2147483647) {Q : (Option Value ⊕ Nat) → mm_H → Prop} (hQ : ∀ (r : Int), (-2147483648) ≤ r → r ≤ 2147483647 → Q (.inl (some (.int (Int32.ofInt r)))) (mz_mk g x)) (hX0 : Q (.inr 0) (mz_mk g (mz_tx x))) : mm_C d 129 [.ref 0, .int (Int32.ofInt a1), .int (Int32.ofInt a2)] (mz_mk g x) Q := by
  have kx := kn_x hx
  refine ⟨mmX11_word, [some (.ref 0), some (.int (Int32.ofInt a1)), some (.int (Int32.ofInt a2))], rfl, rfl, ?_⟩
  refine mm_g 2 (pc1 := 2) (lo1 := [some (.ref 0), some (.int (Int32.ofInt a1)), some (.int (Int32.ofInt a2))]) (st1 := [.int (Int32.ofInt a1), .ref 0]) (H1 := mz_mk g x) rfl ?_
  refine mz_cv rfl mt_11_199 (by decide) (sc_0 _) rfl (Nat.le_of_ble_eq_true rfl) (by omega) (c_X11_isWord (by omega) hx hI l_a1 u_a1 (fun v1 l_v1 u_v1 => ⟨_, rfl, ?_⟩))
  show mm_W d mmX11_word 5 [some (.ref 0), some (.int (Int32.ofInt a1)), some (.int (Int32.ofInt a2))] [.int (Int32.ofInt v1)] (mz_mk g x) Q
  refine mz_if_eq (tgt := 21) rfl rfl (mz_rg l_v1 u_v1) (fun c5_1 => ?_) (fun c5_1 => ?_)
  · skip
    refine mm_g 1 (pc1 := 22) (lo1 := [some (.ref 0), some (.int (Int32.ofInt a1)), some (.int (Int32.ofInt a2))]) (st1 := [.int (Int32.ofInt 0)]) (H1 := mz_mk g x) rfl ?_
    refine mz_csx rfl mt_11_183 rfl (Nat.le_of_ble_eq_true rfl) (by omega) rfl nh_X11_mustBe (t_X11_mustBe (by omega) hx hI (by decide) (by decide) (fun hp2 => ?_) hX0)
    show mm_W d mmX11_word 25 [some (.ref 0), some (.int (Int32.ofInt a1)), some (.int (Int32.ofInt a2))] [] (mz_mk g x) Q
    exfalso; omega
  · skip
    refine mm_g 1 (pc1 := 9) (lo1 := [some (.ref 0), some (.int (Int32.ofInt a1)), some (.int (Int32.ofInt a2))]) (st1 := [.int (Int32.ofInt a2)]) (H1 := mz_mk g x) rfl ?_
    refine mz_if_lt (tgt := 21) rfl rfl (mz_rg l_a2 u_a2) (fun c9_2 => ?_) (fun c9_2 => ?_)
    · skip
      refine mm_g 1 (pc1 := 22) (lo1 := [some (.ref 0), some (.int (Int32.ofInt a1)), some (.int (Int32.ofInt a2))]) (st1 := [.int (Int32.ofInt 0)]) (H1 := mz_mk g x) rfl ?_
      refine mz_csx rfl mt_11_183 rfl (Nat.le_of_ble_eq_true rfl) (by omega) rfl nh_X11_mustBe (t_X11_mustBe (by omega) hx hI (by decide) (by decide) (fun hp3 => ?_) hX0)
      show mm_W d mmX11_word 25 [some (.ref 0), some (.int (Int32.ofInt a1)), some (.int (Int32.ofInt a2))] [] (mz_mk g x) Q
      exfalso; omega
    · skip
      refine mm_g 2 (pc1 := 14) (lo1 := [some (.ref 0), some (.int (Int32.ofInt a1)), some (.int (Int32.ofInt a2))]) (st1 := [.int (Int32.ofInt 4), .int (Int32.ofInt a2)]) (H1 := mz_mk g x) rfl ?_
      refine mz_ic_gt (tgt := 21) rfl rfl (mz_rg l_a2 u_a2) ⟨by decide, by decide⟩ (fun c14_3 => ?_) (fun c14_3 => ?_)
      · skip
        refine mm_g 1 (pc1 := 22) (lo1 := [some (.ref 0), some (.int (Int32.ofInt a1)), some (.int (Int32.ofInt a2))]) (st1 := [.int (Int32.ofInt 0)]) (H1 := mz_mk g x) rfl ?_
        refine mz_csx rfl mt_11_183 rfl (Nat.le_of_ble_eq_true rfl) (by omega) rfl nh_X11_mustBe (t_X11_mustBe (by omega) hx hI (by decide) (by decide) (fun hp4 => ?_) hX0)
        show mm_W d mmX11_word 25 [some (.ref 0), some (.int (Int32.ofInt a1)), some (.int (Int32.ofInt a2))] [] (mz_mk g x) Q
        exfalso; omega
      · skip
        refine mm_g 1 (pc1 := 18) (lo1 := [some (.ref 0), some (.int (Int32.ofInt a1)), some (.int (Int32.ofInt a2))]) (st1 := [.int (Int32.ofInt 1)]) (H1 := mz_mk g x) rfl ?_
        refine mz_gt (tgt := 22) rfl rfl ?_
        refine mz_csx rfl mt_11_183 rfl (Nat.le_of_ble_eq_true rfl) (by omega) rfl nh_X11_mustBe (t_X11_mustBe (by omega) hx hI (by decide) (by decide) (fun hp5 => ?_) hX0)
        show mm_W d mmX11_word 25 [some (.ref 0), some (.int (Int32.ofInt a1)), some (.int (Int32.ofInt a2))] [] (mz_mk g x) Q
        refine mm_g 1 (pc1 := 26) (lo1 := [some (.ref 0), some (.int (Int32.ofInt a1)), some (.int (Int32.ofInt a2))]) (st1 := [.int (Int32.ofInt a2)]) (H1 := mz_mk g x) rfl ?_
        by_cases c26_0 : a2 = 0
        · refine mz_tsi (tgt := 56) rfl (mz_rg l_a2 u_a2) (by omega) (by omega) (by rw [c26_0]; rfl) rfl ?_
          refine mm_g 1 (pc1 := 57) (lo1 := [some (.ref 0), some (.int (Int32.ofInt a1)), some (.int (Int32.ofInt a2))]) (st1 := [.ref 0]) (H1 := mz_mk g x) rfl ?_
          refine mz_fgR (v := x.1) rfl fd_11_16 (by decide) (sc_0 _) rfl ?_
          refine mz_fgR (v := (x.1 + 1)) rfl fd_11_135 (by decide) (kc_load (kx_1 hx) _) (kr_load_0 (kx_1 hx) _ _ _) ?_
          refine mm_g 1 (pc1 := 64) (lo1 := [some (.ref 0), some (.int (Int32.ofInt a1)), some (.int (Int32.ofInt a2))]) (st1 := [.int (Int32.ofInt a1), .ref (x.1 + 1)]) (H1 := mz_mk g x) rfl ?_
          refine mz_cv rfl mt_11_203 (by decide) (kc_words (ks_load_0 (kx_1 hx)) _) rfl (Nat.le_of_ble_eq_true rfl) (by omega) (c_X10_of (by omega) hx hI (ks_load_0 (kx_1 hx)) l_a1 u_a1 (fun u6 k_u6 hp7 => ⟨_, rfl, ?_⟩))
          show mm_W d mmX11_word 67 [some (.ref 0), some (.int (Int32.ofInt a1)), some (.int (Int32.ofInt a2))] [.ref u6] (mz_mk g x) Q
          refine mz_cv rfl mt_11_207 (by decide) (kc_let k_u6 _) rfl (Nat.le_of_ble_eq_true rfl) (by omega) (c_X0_length (by omega) hx hI k_u6 (fun v8 l_v8 u_v8 => ⟨_, rfl, ?_⟩))
          show mm_W d mmX11_word 70 [some (.ref 0), some (.int (Int32.ofInt a1)), some (.int (Int32.ofInt a2))] [.int (Int32.ofInt v8)] (mz_mk g x) Q
          exact mm_rt rfl rfl (hQ _ (by omega) (by omega))
        by_cases c26_1 : a2 = 1
        · refine mz_tsi (tgt := 71) rfl (mz_rg l_a2 u_a2) (by omega) (by omega) (by rw [c26_1]; rfl) rfl ?_
          refine mm_g 1 (pc1 := 72) (lo1 := [some (.ref 0), some (.int (Int32.ofInt a1)), some (.int (Int32.ofInt a2))]) (st1 := [.ref 0]) (H1 := mz_mk g x) rfl ?_
          refine mz_fgR (v := x.1) rfl fd_11_16 (by decide) (sc_0 _) rfl ?_
          refine mz_fgR (v := (x.1 + 1)) rfl fd_11_135 (by decide) (kc_load (kx_1 hx) _) (kr_load_0 (kx_1 hx) _ _ _) ?_
          refine mm_g 1 (pc1 := 79) (lo1 := [some (.ref 0), some (.int (Int32.ofInt a1)), some (.int (Int32.ofInt a2))]) (st1 := [.int (Int32.ofInt a1), .ref (x.1 + 1)]) (H1 := mz_mk g x) rfl ?_
          refine mz_cv rfl mt_11_210 (by decide) (kc_words (ks_load_0 (kx_1 hx)) _) rfl (Nat.le_of_ble_eq_true rfl) (by omega) (c_X10_firmness (by omega) hx hI (ks_load_0 (kx_1 hx)) l_a1 u_a1 (fun v9 l_v9 u_v9 => ⟨_, rfl, ?_⟩))
          show mm_W d mmX11_word 82 [some (.ref 0), some (.int (Int32.ofInt a1)), some (.int (Int32.ofInt a2))] [.int (Int32.ofInt v9)] (mz_mk g x) Q
          exact mm_rt rfl rfl (hQ _ (by omega) (by omega))
        by_cases c26_2 : a2 = 2
        · refine mz_tsi (tgt := 83) rfl (mz_rg l_a2 u_a2) (by omega) (by omega) (by rw [c26_2]; rfl) rfl ?_
          refine mm_g 1 (pc1 := 84) (lo1 := [some (.ref 0), some (.int (Int32.ofInt a1)), some (.int (Int32.ofInt a2))]) (st1 := [.ref 0]) (H1 := mz_mk g x) rfl ?_
          refine mz_fgR (v := x.1) rfl fd_11_16 (by decide) (sc_0 _) rfl ?_
          refine mz_fgR (v := (x.1 + 1)) rfl fd_11_135 (by decide) (kc_load (kx_1 hx) _) (kr_load_0 (kx_1 hx) _ _ _) ?_
          refine mm_g 1 (pc1 := 91) (lo1 := [some (.ref 0), some (.int (Int32.ofInt a1)), some (.int (Int32.ofInt a2))]) (st1 := [.int (Int32.ofInt a1), .ref (x.1 + 1)]) (H1 := mz_mk g x) rfl ?_
          refine mz_cv rfl mt_11_213 (by decide) (kc_words (ks_load_0 (kx_1 hx)) _) rfl (Nat.le_of_ble_eq_true rfl) (by omega) (c_X10_within (by omega) hx hI (ks_load_0 (kx_1 hx)) l_a1 u_a1 (fun v10 l_v10 u_v10 => ⟨_, rfl, ?_⟩))
          show mm_W d mmX11_word 94 [some (.ref 0), some (.int (Int32.ofInt a1)), some (.int (Int32.ofInt a2))] [.int (Int32.ofInt v10)] (mz_mk g x) Q
          exact mm_rt rfl rfl (hQ _ (by omega) (by omega))
        by_cases c26_3 : a2 = 3
        · refine mz_tsi (tgt := 95) rfl (mz_rg l_a2 u_a2) (by omega) (by omega) (by rw [c26_3]; rfl) rfl ?_
          refine mm_g 1 (pc1 := 96) (lo1 := [some (.ref 0), some (.int (Int32.ofInt a1)), some (.int (Int32.ofInt a2))]) (st1 := [.ref 0]) (H1 := mz_mk g x) rfl ?_
          refine mz_fgR (v := x.1) rfl fd_11_16 (by decide) (sc_0 _) rfl ?_
          refine mz_fgR (v := (x.1 + 1)) rfl fd_11_135 (by decide) (kc_load (kx_1 hx) _) (kr_load_0 (kx_1 hx) _ _ _) ?_
          refine mm_g 1 (pc1 := 103) (lo1 := [some (.ref 0), some (.int (Int32.ofInt a1)), some (.int (Int32.ofInt a2))]) (st1 := [.int (Int32.ofInt a1), .ref (x.1 + 1)]) (H1 := mz_mk g x) rfl ?_
          refine mz_cv rfl mt_11_216 (by decide) (kc_words (ks_load_0 (kx_1 hx)) _) rfl (Nat.le_of_ble_eq_true rfl) (by omega) (c_X10_anagrams (by omega) hx hI (ks_load_0 (kx_1 hx)) l_a1 u_a1 (fun v11 l_v11 u_v11 => ⟨_, rfl, ?_⟩))
          show mm_W d mmX11_word 106 [some (.ref 0), some (.int (Int32.ofInt a1)), some (.int (Int32.ofInt a2))] [.int (Int32.ofInt v11)] (mz_mk g x) Q
          exact mm_rt rfl rfl (hQ _ (by omega) (by omega))
        refine mz_tso (tgt := 107) rfl (mz_rg l_a2 u_a2) (by omega) rfl ?_
        refine mm_g 2 (pc1 := 109) (lo1 := [some (.ref 0), some (.int (Int32.ofInt a1)), some (.int (Int32.ofInt a2))]) (st1 := [.int (Int32.ofInt a1), .ref 0]) (H1 := mz_mk g x) rfl ?_
        refine mz_cv rfl mt_11_219 (by decide) (sc_0 _) rfl (Nat.le_of_ble_eq_true rfl) (by omega) (c_X11_trunksWith (by omega) hx hI l_a1 u_a1 (fun v12 l_v12 u_v12 => ⟨_, rfl, ?_⟩))
        show mm_W d mmX11_word 112 [some (.ref 0), some (.int (Int32.ofInt a1)), some (.int (Int32.ofInt a2))] [.int (Int32.ofInt v12)] (mz_mk g x) Q
        exact mm_rt rfl rfl (hQ _ (by omega) (by omega))
theorem t_X11_letter {d : Nat} (hd : 13 ≤ d) {x : mm_X} (hx : mk_x x) {g : mz_G} (hI : mz_inv g) {a1 : Int} (l_a1 : (-2147483648) ≤ a1) (u_a1 : a1 ≤ 2147483647) {a2 : Int} (l_a2 : (-2147483648) ≤ a2) (u_a2 : a2 ≤ 2147483647) {Q : (Option Value ⊕ Nat) → mm_H → Prop} (hQ : ∀ (r : Int), (-2147483648) ≤ r → r ≤ 2147483647 → Q (.inl (some (.int (Int32.ofInt r)))) (mz_mk g x)) (hX0 : Q (.inr 0) (mz_mk g (mz_tx x))) : mm_C d 131 [.ref 0, .int (Int32.ofInt a1), .int (Int32.ofInt a2)] (mz_mk g x) Q := by
  have kx := kn_x hx
  refine ⟨mmX11_letter, [some (.ref 0), some (.int (Int32.ofInt a1)), some (.int (Int32.ofInt a2)), none], rfl, rfl, ?_⟩
  refine mm_g 2 (pc1 := 2) (lo1 := [some (.ref 0), some (.int (Int32.ofInt a1)), some (.int (Int32.ofInt a2)), none]) (st1 := [.int (Int32.ofInt a1), .ref 0]) (H1 := mz_mk g x) rfl ?_
  refine mz_cv rfl mt_11_199 (by decide) (sc_0 _) rfl (Nat.le_of_ble_eq_true rfl) (by omega) (c_X11_isWord (by omega) hx hI l_a1 u_a1 (fun v1 l_v1 u_v1 => ⟨_, rfl, ?_⟩))
  show mm_W d mmX11_letter 5 [some (.ref 0), some (.int (Int32.ofInt a1)), some (.int (Int32.ofInt a2)), none] [.int (Int32.ofInt v1)] (mz_mk g x) Q
  refine mz_csx rfl mt_11_183 rfl (Nat.le_of_ble_eq_true rfl) (by omega) rfl nh_X11_mustBe (t_X11_mustBe (by omega) hx hI l_v1 u_v1 (fun hp2 => ?_) hX0)
  show mm_W d mmX11_letter 8 [some (.ref 0), some (.int (Int32.ofInt a1)), some (.int (Int32.ofInt a2)), none] [] (mz_mk g x) Q
  refine mm_g 1 (pc1 := 9) (lo1 := [some (.ref 0), some (.int (Int32.ofInt a1)), some (.int (Int32.ofInt a2)), none]) (st1 := [.ref 0]) (H1 := mz_mk g x) rfl ?_
  refine mz_fgR (v := x.1) rfl fd_11_16 (by decide) (sc_0 _) rfl ?_
  refine mz_fgR (v := (x.1 + 1)) rfl fd_11_135 (by decide) (kc_load (kx_1 hx) _) (kr_load_0 (kx_1 hx) _ _ _) ?_
  refine mm_g 1 (pc1 := 16) (lo1 := [some (.ref 0), some (.int (Int32.ofInt a1)), some (.int (Int32.ofInt a2)), none]) (st1 := [.int (Int32.ofInt a1), .ref (x.1 + 1)]) (H1 := mz_mk g x) rfl ?_
  refine mz_cv rfl mt_11_203 (by decide) (kc_words (ks_load_0 (kx_1 hx)) _) rfl (Nat.le_of_ble_eq_true rfl) (by omega) (c_X10_of (by omega) hx hI (ks_load_0 (kx_1 hx)) l_a1 u_a1 (fun u3 k_u3 hp4 => ⟨_, rfl, ?_⟩))
  show mm_W d mmX11_letter 19 [some (.ref 0), some (.int (Int32.ofInt a1)), some (.int (Int32.ofInt a2)), none] [.ref u3] (mz_mk g x) Q
  refine mm_g 2 (pc1 := 21) (lo1 := [some (.ref 0), some (.int (Int32.ofInt a1)), some (.int (Int32.ofInt a2)), some (.ref u3)]) (st1 := [.int (Int32.ofInt a2)]) (H1 := mz_mk g x) rfl ?_
  refine mz_if_lt (tgt := 36) rfl rfl (mz_rg l_a2 u_a2) (fun c21_4 => ?_) (fun c21_4 => ?_)
  · skip
    refine mm_g 1 (pc1 := 37) (lo1 := [some (.ref 0), some (.int (Int32.ofInt a1)), some (.int (Int32.ofInt a2)), some (.ref u3)]) (st1 := [.int (Int32.ofInt 0)]) (H1 := mz_mk g x) rfl ?_
    refine mz_csx rfl mt_11_183 rfl (Nat.le_of_ble_eq_true rfl) (by omega) rfl nh_X11_mustBe (t_X11_mustBe (by omega) hx hI (by decide) (by decide) (fun hp5 => ?_) hX0)
    show mm_W d mmX11_letter 40 [some (.ref 0), some (.int (Int32.ofInt a1)), some (.int (Int32.ofInt a2)), some (.ref u3)] [] (mz_mk g x) Q
    exfalso; omega
  · skip
    refine mm_g 2 (pc1 := 26) (lo1 := [some (.ref 0), some (.int (Int32.ofInt a1)), some (.int (Int32.ofInt a2)), some (.ref u3)]) (st1 := [.ref u3, .int (Int32.ofInt a2)]) (H1 := mz_mk g x) rfl ?_
    refine mz_cv rfl mt_11_207 (by decide) (kc_let k_u3 _) rfl (Nat.le_of_ble_eq_true rfl) (by omega) (c_X0_length (by omega) hx hI k_u3 (fun v6 l_v6 u_v6 => ⟨_, rfl, ?_⟩))
    show mm_W d mmX11_letter 29 [some (.ref 0), some (.int (Int32.ofInt a1)), some (.int (Int32.ofInt a2)), some (.ref u3)] [.int (Int32.ofInt v6), .int (Int32.ofInt a2)] (mz_mk g x) Q
    refine mz_ic_ge (tgt := 36) rfl rfl (mz_rg l_a2 u_a2) (mz_rg l_v6 u_v6) (fun c29_6 => ?_) (fun c29_6 => ?_)
    · skip
      refine mm_g 1 (pc1 := 37) (lo1 := [some (.ref 0), some (.int (Int32.ofInt a1)), some (.int (Int32.ofInt a2)), some (.ref u3)]) (st1 := [.int (Int32.ofInt 0)]) (H1 := mz_mk g x) rfl ?_
      refine mz_csx rfl mt_11_183 rfl (Nat.le_of_ble_eq_true rfl) (by omega) rfl nh_X11_mustBe (t_X11_mustBe (by omega) hx hI (by decide) (by decide) (fun hp7 => ?_) hX0)
      show mm_W d mmX11_letter 40 [some (.ref 0), some (.int (Int32.ofInt a1)), some (.int (Int32.ofInt a2)), some (.ref u3)] [] (mz_mk g x) Q
      exfalso; omega
    · skip
      refine mm_g 1 (pc1 := 33) (lo1 := [some (.ref 0), some (.int (Int32.ofInt a1)), some (.int (Int32.ofInt a2)), some (.ref u3)]) (st1 := [.int (Int32.ofInt 1)]) (H1 := mz_mk g x) rfl ?_
      refine mz_gt (tgt := 37) rfl rfl ?_
      refine mz_csx rfl mt_11_183 rfl (Nat.le_of_ble_eq_true rfl) (by omega) rfl nh_X11_mustBe (t_X11_mustBe (by omega) hx hI (by decide) (by decide) (fun hp8 => ?_) hX0)
      show mm_W d mmX11_letter 40 [some (.ref 0), some (.int (Int32.ofInt a1)), some (.int (Int32.ofInt a2)), some (.ref u3)] [] (mz_mk g x) Q
      refine mm_g 2 (pc1 := 42) (lo1 := [some (.ref 0), some (.int (Int32.ofInt a1)), some (.int (Int32.ofInt a2)), some (.ref u3)]) (st1 := [.int (Int32.ofInt a2), .ref u3]) (H1 := mz_mk g x) rfl ?_
      refine mz_cv rfl mt_11_228 (by decide) (kc_let k_u3 _) rfl (Nat.le_of_ble_eq_true rfl) (by omega) (c_X0_signAt (by omega) hx hI k_u3 l_a2 u_a2 (fun v9 l_v9 u_v9 => ⟨_, rfl, ?_⟩))
      show mm_W d mmX11_letter 45 [some (.ref 0), some (.int (Int32.ofInt a1)), some (.int (Int32.ofInt a2)), some (.ref u3)] [.int (Int32.ofInt v9)] (mz_mk g x) Q
      exact mm_rt rfl rfl (hQ _ (by omega) (by omega))
theorem t_X11_trunk {d : Nat} (hd : 15 ≤ d) {x : mm_X} (hx : mk_x x) {g : mz_G} (hI : mz_inv g) {a1 : Int} (l_a1 : (-2147483648) ≤ a1) (u_a1 : a1 ≤ 2147483647) {a2 : Int} (l_a2 : (-2147483648) ≤ a2) (u_a2 : a2 ≤ 2147483647) {Q : (Option Value ⊕ Nat) → mm_H → Prop} (hQ : ∀ (r : Int) (g1 : mz_G), mz_inv g1 → mz_fr (fw_X11_trunk x a1 a2) g g1 → (-2147483648) ≤ r → r ≤ 2147483647 → Q (.inl (some (.int (Int32.ofInt r)))) (mz_mk g1 x)) (hX0 : Q (.inr 0) (mz_mk g (mz_tx x))) : mm_C d 132 [.ref 0, .int (Int32.ofInt a1), .int (Int32.ofInt a2)] (mz_mk g x) Q := by
  have kx := kn_x hx
  refine ⟨mmX11_trunk, [some (.ref 0), some (.int (Int32.ofInt a1)), some (.int (Int32.ofInt a2)), none], rfl, rfl, ?_⟩
  refine mm_g 2 (pc1 := 2) (lo1 := [some (.ref 0), some (.int (Int32.ofInt a1)), some (.int (Int32.ofInt a2)), none]) (st1 := [.int (Int32.ofInt a1), .ref 0]) (H1 := mz_mk g x) rfl ?_
  refine mz_cv rfl mt_11_231 (by decide) (sc_0 _) rfl (Nat.le_of_ble_eq_true rfl) (by omega) (c_X11_isTrunk (by omega) hx hI l_a1 u_a1 (fun v1 l_v1 u_v1 => ⟨_, rfl, ?_⟩))
  show mm_W d mmX11_trunk 5 [some (.ref 0), some (.int (Int32.ofInt a1)), some (.int (Int32.ofInt a2)), none] [.int (Int32.ofInt v1)] (mz_mk g x) Q
  refine mz_if_eq (tgt := 22) rfl rfl (mz_rg l_v1 u_v1) (fun c5_1 => ?_) (fun c5_1 => ?_)
  · skip
    refine mm_g 1 (pc1 := 23) (lo1 := [some (.ref 0), some (.int (Int32.ofInt a1)), some (.int (Int32.ofInt a2)), none]) (st1 := [.int (Int32.ofInt 0)]) (H1 := mz_mk g x) rfl ?_
    refine mz_csx rfl mt_11_183 rfl (Nat.le_of_ble_eq_true rfl) (by omega) rfl nh_X11_mustBe (t_X11_mustBe (by omega) hx hI (by decide) (by decide) (fun hp2 => ?_) hX0)
    show mm_W d mmX11_trunk 26 [some (.ref 0), some (.int (Int32.ofInt a1)), some (.int (Int32.ofInt a2)), none] [] (mz_mk g x) Q
    exfalso; omega
  · skip
    refine mm_g 1 (pc1 := 9) (lo1 := [some (.ref 0), some (.int (Int32.ofInt a1)), some (.int (Int32.ofInt a2)), none]) (st1 := [.int (Int32.ofInt a2)]) (H1 := mz_mk g x) rfl ?_
    refine mz_if_lt (tgt := 22) rfl rfl (mz_rg l_a2 u_a2) (fun c9_2 => ?_) (fun c9_2 => ?_)
    · skip
      refine mm_g 1 (pc1 := 23) (lo1 := [some (.ref 0), some (.int (Int32.ofInt a1)), some (.int (Int32.ofInt a2)), none]) (st1 := [.int (Int32.ofInt 0)]) (H1 := mz_mk g x) rfl ?_
      refine mz_csx rfl mt_11_183 rfl (Nat.le_of_ble_eq_true rfl) (by omega) rfl nh_X11_mustBe (t_X11_mustBe (by omega) hx hI (by decide) (by decide) (fun hp3 => ?_) hX0)
      show mm_W d mmX11_trunk 26 [some (.ref 0), some (.int (Int32.ofInt a1)), some (.int (Int32.ofInt a2)), none] [] (mz_mk g x) Q
      exfalso; omega
    · skip
      refine mm_g 1 (pc1 := 13) (lo1 := [some (.ref 0), some (.int (Int32.ofInt a1)), some (.int (Int32.ofInt a2)), none]) (st1 := [.int (Int32.ofInt a2)]) (H1 := mz_mk g x) rfl ?_
      refine mz_bip rfl bip_7 ?_
      refine mz_ic_gt (tgt := 22) rfl rfl (mz_rg l_a2 u_a2) ⟨by decide, by decide⟩ (fun c15_3 => ?_) (fun c15_3 => ?_)
      · skip
        refine mm_g 1 (pc1 := 23) (lo1 := [some (.ref 0), some (.int (Int32.ofInt a1)), some (.int (Int32.ofInt a2)), none]) (st1 := [.int (Int32.ofInt 0)]) (H1 := mz_mk g x) rfl ?_
        refine mz_csx rfl mt_11_183 rfl (Nat.le_of_ble_eq_true rfl) (by omega) rfl nh_X11_mustBe (t_X11_mustBe (by omega) hx hI (by decide) (by decide) (fun hp4 => ?_) hX0)
        show mm_W d mmX11_trunk 26 [some (.ref 0), some (.int (Int32.ofInt a1)), some (.int (Int32.ofInt a2)), none] [] (mz_mk g x) Q
        exfalso; omega
      · skip
        refine mm_g 1 (pc1 := 19) (lo1 := [some (.ref 0), some (.int (Int32.ofInt a1)), some (.int (Int32.ofInt a2)), none]) (st1 := [.int (Int32.ofInt 1)]) (H1 := mz_mk g x) rfl ?_
        refine mz_gt (tgt := 23) rfl rfl ?_
        refine mz_csx rfl mt_11_183 rfl (Nat.le_of_ble_eq_true rfl) (by omega) rfl nh_X11_mustBe (t_X11_mustBe (by omega) hx hI (by decide) (by decide) (fun hp5 => ?_) hX0)
        show mm_W d mmX11_trunk 26 [some (.ref 0), some (.int (Int32.ofInt a1)), some (.int (Int32.ofInt a2)), none] [] (mz_mk g x) Q
        refine mm_g 1 (pc1 := 27) (lo1 := [some (.ref 0), some (.int (Int32.ofInt a1)), some (.int (Int32.ofInt a2)), none]) (st1 := [.ref 0]) (H1 := mz_mk g x) rfl ?_
        refine mz_fgR (v := 86) rfl fd_11_37 (by decide) (sc_0 _) (rf_0_5 _ _ _) ?_
        refine mz_fgR (v := 87) rfl fd_11_158 (by decide) (sc_86 _) (rf_86_0 _ _ _) ?_
        refine mm_g 1 (pc1 := 34) (lo1 := [some (.ref 0), some (.int (Int32.ofInt a1)), some (.int (Int32.ofInt a2)), none]) (st1 := [.int (Int32.ofInt a1), .ref 87]) (H1 := mz_mk g x) rfl ?_
        refine mz_cv rfl mt_11_192 (by decide) (sc_87 _) rfl (Nat.le_of_ble_eq_true rfl) (by omega) (c_X9_get (by omega) hx hI kp_tks_87 l_a1 u_a1 (fun u6 k_u6 hp7 => ⟨_, rfl, ?_⟩))
        show mm_W d mmX11_trunk 37 [some (.ref 0), some (.int (Int32.ofInt a1)), some (.int (Int32.ofInt a2)), none] [.ref u6] (mz_mk g x) Q
        refine mm_g 2 (pc1 := 39) (lo1 := [some (.ref 0), some (.int (Int32.ofInt a1)), some (.int (Int32.ofInt a2)), some (.ref u6)]) (st1 := [.int (Int32.ofInt a2)]) (H1 := mz_mk g x) rfl ?_
        by_cases c39_0 : a2 = 0
        · refine mz_tsi (tgt := 80) rfl (mz_rg l_a2 u_a2) (by omega) (by omega) (by rw [c39_0]; rfl) rfl ?_
          refine mm_g 1 (pc1 := 81) (lo1 := [some (.ref 0), some (.int (Int32.ofInt a1)), some (.int (Int32.ofInt a2)), some (.ref u6)]) (st1 := [.ref u6]) (H1 := mz_mk g x) rfl ?_
          refine mz_gI rfl fd_11_222 (by decide) (kc_trunk k_u6 _) hI (kb_trunk_0 k_u6) (fun v8 e_v8 l_v8 u_v8 => ?_)
          exact mm_rt rfl rfl (hQ _ _ hI (fun _ _ _ => rfl) (by omega) (by omega))
        by_cases c39_1 : a2 = 1
        · refine mz_tsi (tgt := 85) rfl (mz_rg l_a2 u_a2) (by omega) (by omega) (by rw [c39_1]; rfl) rfl ?_
          refine mm_g 1 (pc1 := 86) (lo1 := [some (.ref 0), some (.int (Int32.ofInt a1)), some (.int (Int32.ofInt a2)), some (.ref u6)]) (st1 := [.ref u6]) (H1 := mz_mk g x) rfl ?_
          refine mz_gI rfl fd_11_225 (by decide) (kc_trunk k_u6 _) hI (kb_trunk_1 k_u6) (fun v9 e_v9 l_v9 u_v9 => ?_)
          exact mm_rt rfl rfl (hQ _ _ hI (fun _ _ _ => rfl) (by omega) (by omega))
        by_cases c39_2 : a2 = 2
        · refine mz_tsi (tgt := 90) rfl (mz_rg l_a2 u_a2) (by omega) (by omega) (by rw [c39_2]; rfl) rfl ?_
          refine mm_g 1 (pc1 := 91) (lo1 := [some (.ref 0), some (.int (Int32.ofInt a1)), some (.int (Int32.ofInt a2)), some (.ref u6)]) (st1 := [.ref u6]) (H1 := mz_mk g x) rfl ?_
          refine mz_gI rfl fd_11_234 (by decide) (kc_trunk k_u6 _) hI (kb_trunk_2 k_u6) (fun v10 e_v10 l_v10 u_v10 => ?_)
          exact mm_rt rfl rfl (hQ _ _ hI (fun _ _ _ => rfl) (by omega) (by omega))
        by_cases c39_3 : a2 = 3
        · refine mz_tsi (tgt := 95) rfl (mz_rg l_a2 u_a2) (by omega) (by omega) (by rw [c39_3]; rfl) rfl ?_
          refine mm_g 1 (pc1 := 96) (lo1 := [some (.ref 0), some (.int (Int32.ofInt a1)), some (.int (Int32.ofInt a2)), some (.ref u6)]) (st1 := [.ref u6]) (H1 := mz_mk g x) rfl ?_
          refine mz_gI rfl fd_11_237 (by decide) (kc_trunk k_u6 _) hI (kb_trunk_3 k_u6) (fun v11 e_v11 l_v11 u_v11 => ?_)
          exact mm_rt rfl rfl (hQ _ _ hI (fun _ _ _ => rfl) (by omega) (by omega))
        by_cases c39_4 : a2 = 4
        · refine mz_tsi (tgt := 100) rfl (mz_rg l_a2 u_a2) (by omega) (by omega) (by rw [c39_4]; rfl) rfl ?_
          refine mm_g 1 (pc1 := 101) (lo1 := [some (.ref 0), some (.int (Int32.ofInt a1)), some (.int (Int32.ofInt a2)), some (.ref u6)]) (st1 := [.ref 0]) (H1 := mz_mk g x) rfl ?_
          refine mz_fgR (v := x.1) rfl fd_11_16 (by decide) (sc_0 _) rfl ?_
          refine mm_g 1 (pc1 := 105) (lo1 := [some (.ref 0), some (.int (Int32.ofInt a1)), some (.int (Int32.ofInt a2)), some (.ref u6)]) (st1 := [.ref u6, .ref x.1]) (H1 := mz_mk g x) rfl ?_
          refine mz_cv rfl mt_11_240 (by decide) (kc_load (kx_1 hx) _) rfl (Nat.le_of_ble_eq_true rfl) (by omega) (c_X1_fullOf (by omega) hx hI (kx_1 hx) k_u6 (fun v12 l_v12 u_v12 => ⟨_, rfl, ?_⟩))
          show mm_W d mmX11_trunk 108 [some (.ref 0), some (.int (Int32.ofInt a1)), some (.int (Int32.ofInt a2)), some (.ref u6)] [.int (Int32.ofInt v12)] (mz_mk g x) Q
          exact mm_rt rfl rfl (hQ _ _ hI (fun _ _ _ => rfl) (by omega) (by omega))
        by_cases c39_5 : a2 = 5
        · refine mz_tsi (tgt := 109) rfl (mz_rg l_a2 u_a2) (by omega) (by omega) (by rw [c39_5]; rfl) rfl ?_
          refine mm_g 1 (pc1 := 110) (lo1 := [some (.ref 0), some (.int (Int32.ofInt a1)), some (.int (Int32.ofInt a2)), some (.ref u6)]) (st1 := [.ref 0]) (H1 := mz_mk g x) rfl ?_
          refine mz_fgR (v := x.1) rfl fd_11_16 (by decide) (sc_0 _) rfl ?_
          refine mm_g 1 (pc1 := 114) (lo1 := [some (.ref 0), some (.int (Int32.ofInt a1)), some (.int (Int32.ofInt a2)), some (.ref u6)]) (st1 := [.ref u6, .ref x.1]) (H1 := mz_mk g x) rfl ?_
          refine mz_cv rfl mt_11_244 (by decide) (kc_load (kx_1 hx) _) rfl (Nat.le_of_ble_eq_true rfl) (by omega) (c_X1_blendSize (by omega) hx hI (kx_1 hx) k_u6 (fun v13 l_v13 u_v13 => ⟨_, rfl, ?_⟩))
          show mm_W d mmX11_trunk 117 [some (.ref 0), some (.int (Int32.ofInt a1)), some (.int (Int32.ofInt a2)), some (.ref u6)] [.int (Int32.ofInt v13)] (mz_mk g x) Q
          exact mm_rt rfl rfl (hQ _ _ hI (fun _ _ _ => rfl) (by omega) (by omega))
        by_cases c39_6 : a2 = 6
        · refine mz_tsi (tgt := 118) rfl (mz_rg l_a2 u_a2) (by omega) (by omega) (by rw [c39_6]; rfl) rfl ?_
          refine mm_g 1 (pc1 := 119) (lo1 := [some (.ref 0), some (.int (Int32.ofInt a1)), some (.int (Int32.ofInt a2)), some (.ref u6)]) (st1 := [.ref u6]) (H1 := mz_mk g x) rfl ?_
          refine mz_gI rfl fd_11_196 (by decide) (kc_trunk k_u6 _) hI (kb_trunk_4 k_u6) (fun v14 e_v14 l_v14 u_v14 => ?_)
          refine mz_if_eq (tgt := 129) rfl rfl (mz_rg l_v14 u_v14) (fun c122_14 => ?_) (fun c122_14 => ?_)
          · skip
            refine mm_g 1 (pc1 := 130) (lo1 := [some (.ref 0), some (.int (Int32.ofInt a1)), some (.int (Int32.ofInt a2)), some (.ref u6)]) (st1 := [.int (Int32.ofInt 0)]) (H1 := mz_mk g x) rfl ?_
            exact mm_rt rfl rfl (hQ _ _ hI (fun _ _ _ => rfl) (by decide) (by decide))
          · skip
            refine mm_g 1 (pc1 := 126) (lo1 := [some (.ref 0), some (.int (Int32.ofInt a1)), some (.int (Int32.ofInt a2)), some (.ref u6)]) (st1 := [.int (Int32.ofInt 1)]) (H1 := mz_mk g x) rfl ?_
            refine mz_gt (tgt := 130) rfl rfl ?_
            exact mm_rt rfl rfl (hQ _ _ hI (fun _ _ _ => rfl) (by decide) (by decide))
        refine mz_tso (tgt := 131) rfl (mz_rg l_a2 u_a2) (by omega) rfl ?_
        refine mm_g 1 (pc1 := 132) (lo1 := [some (.ref 0), some (.int (Int32.ofInt a1)), some (.int (Int32.ofInt a2)), some (.ref u6)]) (st1 := [.ref 0]) (H1 := mz_mk g x) rfl ?_
        refine mz_cv rfl mt_11_247 (by decide) (sc_0 _) rfl (Nat.le_of_ble_eq_true rfl) (by omega) (c_X11_findCouples (by omega) hx hI (fun g15 hIg15 hfg15 => ⟨_, rfl, ?_⟩))
        show mm_W d mmX11_trunk 135 [some (.ref 0), some (.int (Int32.ofInt a1)), some (.int (Int32.ofInt a2)), some (.ref u6)] [] (mz_mk g15 x) Q
        refine mm_g 1 (pc1 := 136) (lo1 := [some (.ref 0), some (.int (Int32.ofInt a1)), some (.int (Int32.ofInt a2)), some (.ref u6)]) (st1 := [.ref 0]) (H1 := mz_mk g15 x) rfl ?_
        refine mz_fgR (v := 118) rfl fd_11_58 (by decide) (sc_0 _) (rf_0_9 _ _ _) ?_
        refine mm_g 1 (pc1 := 140) (lo1 := [some (.ref 0), some (.int (Int32.ofInt a1)), some (.int (Int32.ofInt a2)), some (.ref u6)]) (st1 := [.int (Int32.ofInt a1), .ref 118]) (H1 := mz_mk g15 x) rfl ?_
        refine mz_cv rfl mt_11_250 (by decide) (sc_118 _) rfl (Nat.le_of_ble_eq_true rfl) (by omega) (c_X3_partnerOf (by omega) hx hIg15 l_a1 u_a1 (fun v16 l_v16 u_v16 => ⟨_, rfl, ?_⟩))
        show mm_W d mmX11_trunk 143 [some (.ref 0), some (.int (Int32.ofInt a1)), some (.int (Int32.ofInt a2)), some (.ref u6)] [.int (Int32.ofInt v16)] (mz_mk g15 x) Q
        exact mm_rt rfl rfl (hQ _ _ hIg15 (fun k j hk => (hfg15 k j (fun h => hk (Or.elim h (fun h => (Or.inl h)) (fun h => (Or.elim h (fun h => (Or.inr (Or.inl h))) (fun h => (Or.elim h (fun h => (Or.inr (Or.inr (Or.inl h)))) (fun h => (Or.elim h (fun h => (Or.inr (Or.inr (Or.inr (Or.inl h))))) (fun h => (Or.elim h (fun h => (Or.inr (Or.inr (Or.inr (Or.inr (Or.inl h)))))) (fun h => (Or.elim h (fun h => (Or.inr (Or.inr (Or.inr (Or.inr (Or.inr (Or.inl h))))))) (fun h => (Or.elim h (fun h => (Or.inr (Or.inr (Or.inr (Or.inr (Or.inr (Or.inr (Or.inl h)))))))) (fun h => (Or.elim h (fun h => (Or.inr (Or.inr (Or.inr (Or.inr (Or.inr (Or.inr (Or.inr (Or.inl h))))))))) (fun h => (Or.inr (Or.inr (Or.inr (Or.inr (Or.inr (Or.inr (Or.inr (Or.inr h))))))))))))))))))))))))))) (by omega) (by omega))
theorem t_X11_draw {d : Nat} (hd : 13 ≤ d) {x : mm_X} (hx : mk_x x) {g : mz_G} (hI : mz_inv g) {a1 : Int} (l_a1 : (-2147483648) ≤ a1) (u_a1 : a1 ≤ 2147483647) {a2 : Int} (l_a2 : (-2147483648) ≤ a2) (u_a2 : a2 ≤ 2147483647) {Q : (Option Value ⊕ Nat) → mm_H → Prop} (hQ : ∀ (r : Int) (g1 : mz_G), mz_inv g1 → mz_fr (fw_X11_draw x a1 a2) g g1 → (-2147483648) ≤ r → r ≤ 2147483647 → Q (.inl (some (.int (Int32.ofInt r)))) (mz_mk g1 x)) (hX0 : Q (.inr 0) (mz_mk g (mz_tx x))) : mm_C d 134 [.ref 0, .int (Int32.ofInt a1), .int (Int32.ofInt a2)] (mz_mk g x) Q := by
  have kx := kn_x hx
  refine ⟨mmX11_draw, [some (.ref 0), some (.int (Int32.ofInt a1)), some (.int (Int32.ofInt a2)), none, none], rfl, rfl, ?_⟩
  refine mm_g 2 (pc1 := 2) (lo1 := [some (.ref 0), some (.int (Int32.ofInt a1)), some (.int (Int32.ofInt a2)), none, none]) (st1 := [.int (Int32.ofInt a1), .ref 0]) (H1 := mz_mk g x) rfl ?_
  refine mz_cv rfl mt_11_231 (by decide) (sc_0 _) rfl (Nat.le_of_ble_eq_true rfl) (by omega) (c_X11_isTrunk (by omega) hx hI l_a1 u_a1 (fun v1 l_v1 u_v1 => ⟨_, rfl, ?_⟩))
  show mm_W d mmX11_draw 5 [some (.ref 0), some (.int (Int32.ofInt a1)), some (.int (Int32.ofInt a2)), none, none] [.int (Int32.ofInt v1)] (mz_mk g x) Q
  refine mz_csx rfl mt_11_183 rfl (Nat.le_of_ble_eq_true rfl) (by omega) rfl nh_X11_mustBe (t_X11_mustBe (by omega) hx hI l_v1 u_v1 (fun hp2 => ?_) hX0)
  show mm_W d mmX11_draw 8 [some (.ref 0), some (.int (Int32.ofInt a1)), some (.int (Int32.ofInt a2)), none, none] [] (mz_mk g x) Q
  refine mm_g 1 (pc1 := 9) (lo1 := [some (.ref 0), some (.int (Int32.ofInt a1)), some (.int (Int32.ofInt a2)), none, none]) (st1 := [.ref 0]) (H1 := mz_mk g x) rfl ?_
  refine mz_fgR (v := 86) rfl fd_11_37 (by decide) (sc_0 _) (rf_0_5 _ _ _) ?_
  refine mz_fgR (v := 87) rfl fd_11_158 (by decide) (sc_86 _) (rf_86_0 _ _ _) ?_
  refine mm_g 1 (pc1 := 16) (lo1 := [some (.ref 0), some (.int (Int32.ofInt a1)), some (.int (Int32.ofInt a2)), none, none]) (st1 := [.int (Int32.ofInt a1), .ref 87]) (H1 := mz_mk g x) rfl ?_
  refine mz_cv rfl mt_11_192 (by decide) (sc_87 _) rfl (Nat.le_of_ble_eq_true rfl) (by omega) (c_X9_get (by omega) hx hI kp_tks_87 l_a1 u_a1 (fun u3 k_u3 hp4 => ⟨_, rfl, ?_⟩))
  show mm_W d mmX11_draw 19 [some (.ref 0), some (.int (Int32.ofInt a1)), some (.int (Int32.ofInt a2)), none, none] [.ref u3] (mz_mk g x) Q
  refine mm_g 2 (pc1 := 21) (lo1 := [some (.ref 0), some (.int (Int32.ofInt a1)), some (.int (Int32.ofInt a2)), some (.ref u3), none]) (st1 := [.int (Int32.ofInt a2)]) (H1 := mz_mk g x) rfl ?_
  refine mz_if_lt (tgt := 38) rfl rfl (mz_rg l_a2 u_a2) (fun c21_4 => ?_) (fun c21_4 => ?_)
  · skip
    refine mm_g 1 (pc1 := 39) (lo1 := [some (.ref 0), some (.int (Int32.ofInt a1)), some (.int (Int32.ofInt a2)), some (.ref u3), none]) (st1 := [.ref 0]) (H1 := mz_mk g x) rfl ?_
    refine mz_fgR (v := 86) rfl fd_11_37 (by decide) (sc_0 _) (rf_0_5 _ _ _) ?_
    refine mm_g 1 (pc1 := 43) (lo1 := [some (.ref 0), some (.int (Int32.ofInt a1)), some (.int (Int32.ofInt a2)), some (.ref u3), none]) (st1 := [.int (Int32.ofInt 1), .ref 86]) (H1 := mz_mk g x) rfl ?_
    refine mz_cv rfl mt_11_131 (by decide) (sc_86 _) rfl (Nat.le_of_ble_eq_true rfl) (by omega) (c_X6_refuse (by omega) hx hI kp_story_86 (by decide) (by decide) (fun v5 g6 hIg6 hfg6 l_v5 u_v5 => ⟨_, rfl, ?_⟩))
    show mm_W d mmX11_draw 46 [some (.ref 0), some (.int (Int32.ofInt a1)), some (.int (Int32.ofInt a2)), some (.ref u3), none] [.int (Int32.ofInt v5)] (mz_mk g6 x) Q
    exact mm_rt rfl rfl (hQ _ _ hIg6 (fun k j hk => (hfg6 k j (fun h => hk (Or.inl h)))) (by omega) (by omega))
  · skip
    refine mm_g 1 (pc1 := 25) (lo1 := [some (.ref 0), some (.int (Int32.ofInt a1)), some (.int (Int32.ofInt a2)), some (.ref u3), none]) (st1 := [.int (Int32.ofInt a2)]) (H1 := mz_mk g x) rfl ?_
    refine mz_bip rfl bip_9 ?_
    refine mz_ic_gt (tgt := 38) rfl rfl (mz_rg l_a2 u_a2) ⟨by decide, by decide⟩ (fun c27_6 => ?_) (fun c27_6 => ?_)
    · skip
      refine mm_g 1 (pc1 := 39) (lo1 := [some (.ref 0), some (.int (Int32.ofInt a1)), some (.int (Int32.ofInt a2)), some (.ref u3), none]) (st1 := [.ref 0]) (H1 := mz_mk g x) rfl ?_
      refine mz_fgR (v := 86) rfl fd_11_37 (by decide) (sc_0 _) (rf_0_5 _ _ _) ?_
      refine mm_g 1 (pc1 := 43) (lo1 := [some (.ref 0), some (.int (Int32.ofInt a1)), some (.int (Int32.ofInt a2)), some (.ref u3), none]) (st1 := [.int (Int32.ofInt 1), .ref 86]) (H1 := mz_mk g x) rfl ?_
      refine mz_cv rfl mt_11_131 (by decide) (sc_86 _) rfl (Nat.le_of_ble_eq_true rfl) (by omega) (c_X6_refuse (by omega) hx hI kp_story_86 (by decide) (by decide) (fun v7 g8 hIg8 hfg8 l_v7 u_v7 => ⟨_, rfl, ?_⟩))
      show mm_W d mmX11_draw 46 [some (.ref 0), some (.int (Int32.ofInt a1)), some (.int (Int32.ofInt a2)), some (.ref u3), none] [.int (Int32.ofInt v7)] (mz_mk g8 x) Q
      exact mm_rt rfl rfl (hQ _ _ hIg8 (fun k j hk => (hfg8 k j (fun h => hk (Or.inl h)))) (by omega) (by omega))
    · skip
      refine mm_g 2 (pc1 := 32) (lo1 := [some (.ref 0), some (.int (Int32.ofInt a1)), some (.int (Int32.ofInt a2)), some (.ref u3), none]) (st1 := [.ref u3, .int (Int32.ofInt a2)]) (H1 := mz_mk g x) rfl ?_
      refine mz_gI rfl fd_11_234 (by decide) (kc_trunk k_u3 _) hI (kb_trunk_2 k_u3) (fun v9 e_v9 l_v9 u_v9 => ?_)
      refine mz_ic_ne (tgt := 47) rfl rfl (mz_rg l_a2 u_a2) (mz_rg l_v9 u_v9) (fun c35_9 => ?_) (fun c35_9 => ?_)
      · skip
        refine mm_g 1 (pc1 := 48) (lo1 := [some (.ref 0), some (.int (Int32.ofInt a1)), some (.int (Int32.ofInt a2)), some (.ref u3), none]) (st1 := [.ref 0]) (H1 := mz_mk g x) rfl ?_
        refine mz_fgR (v := 86) rfl fd_11_37 (by decide) (sc_0 _) (rf_0_5 _ _ _) ?_
        refine mz_cv rfl mt_11_253 (by decide) (sc_86 _) rfl (Nat.le_of_ble_eq_true rfl) (by omega) (c_X6_keepAct (by omega) hx hI kp_story_86 (fun g10 hIg10 hfg10 => ⟨_, rfl, ?_⟩))
        show mm_W d mmX11_draw 54 [some (.ref 0), some (.int (Int32.ofInt a1)), some (.int (Int32.ofInt a2)), some (.ref u3), none] [] (mz_mk g10 x) Q
        refine mm_g 1 (pc1 := 55) (lo1 := [some (.ref 0), some (.int (Int32.ofInt a1)), some (.int (Int32.ofInt a2)), some (.ref u3), none]) (st1 := [.ref u3]) (H1 := mz_mk g10 x) rfl ?_
        refine mz_gI rfl fd_11_234 (by decide) (kc_trunk k_u3 _) hIg10 (kb_trunk_2 k_u3) (fun v11 e_v11 l_v11 u_v11 => ?_)
        refine mm_g 3 (pc1 := 62) (lo1 := [some (.ref 0), some (.int (Int32.ofInt a1)), some (.int (Int32.ofInt a2)), some (.ref u3), some (.int (Int32.ofInt v11))]) (st1 := [.int (Int32.ofInt a2), .ref u3]) (H1 := mz_mk g10 x) rfl ?_
        refine mz_pI rfl fd_11_234 (kc_trunk k_u3 _) hIg10 (kb_trunk_2 k_u3) (by omega) (by omega) (fun g12 hIg12 hug12 => ?_)
        refine mm_g 1 (pc1 := 67) (lo1 := [some (.ref 0), some (.int (Int32.ofInt a1)), some (.int (Int32.ofInt a2)), some (.ref u3), some (.int (Int32.ofInt v11))]) (st1 := [.int (Int32.ofInt v11)]) (H1 := mz_mk g12 x) rfl ?_
        exact mm_rt rfl rfl (hQ _ _ hIg12 (fun k j hk => ((hug12.2 k j (fun h => hk (Or.inr (Or.inr (Or.inr (show (87 ≤ k ∧ k < 96) by have h9 : k = u3 ∧ j = 2 := h; omega)))))).trans (hfg10 k j (fun h => hk (Or.elim h (fun h => (Or.inr (Or.inl h))) (fun h => (Or.inr (Or.inr (Or.inl h))))))))) (by omega) (by omega))
      · skip
        refine mm_g 1 (pc1 := 39) (lo1 := [some (.ref 0), some (.int (Int32.ofInt a1)), some (.int (Int32.ofInt a2)), some (.ref u3), none]) (st1 := [.ref 0]) (H1 := mz_mk g x) rfl ?_
        refine mz_fgR (v := 86) rfl fd_11_37 (by decide) (sc_0 _) (rf_0_5 _ _ _) ?_
        refine mm_g 1 (pc1 := 43) (lo1 := [some (.ref 0), some (.int (Int32.ofInt a1)), some (.int (Int32.ofInt a2)), some (.ref u3), none]) (st1 := [.int (Int32.ofInt 1), .ref 86]) (H1 := mz_mk g x) rfl ?_
        refine mz_cv rfl mt_11_131 (by decide) (sc_86 _) rfl (Nat.le_of_ble_eq_true rfl) (by omega) (c_X6_refuse (by omega) hx hI kp_story_86 (by decide) (by decide) (fun v13 g14 hIg14 hfg14 l_v13 u_v13 => ⟨_, rfl, ?_⟩))
        show mm_W d mmX11_draw 46 [some (.ref 0), some (.int (Int32.ofInt a1)), some (.int (Int32.ofInt a2)), some (.ref u3), none] [.int (Int32.ofInt v13)] (mz_mk g14 x) Q
        exact mm_rt rfl rfl (hQ _ _ hIg14 (fun k j hk => (hfg14 k j (fun h => hk (Or.inl h)))) (by omega) (by omega))
theorem t_X11_pull {d : Nat} (hd : 14 ≤ d) {x : mm_X} (hx : mk_x x) {g : mz_G} (hI : mz_inv g) {a1 : Int} (l_a1 : (-2147483648) ≤ a1) (u_a1 : a1 ≤ 2147483647) {a2 : Int} (l_a2 : (-2147483648) ≤ a2) (u_a2 : a2 ≤ 2147483647) {Q : (Option Value ⊕ Nat) → mm_H → Prop} (hQ : ∀ (r : Int) (g1 : mz_G), mz_inv g1 → mz_fr (fw_X11_pull x a1 a2) g g1 → (-1) ≤ r → r ≤ 2147483647 → Q (.inl (some (.int (Int32.ofInt r)))) (mz_mk g1 x)) (hX0 : Q (.inr 0) (mz_mk g (mz_tx x))) : mm_C d 135 [.ref 0, .int (Int32.ofInt a1), .int (Int32.ofInt a2)] (mz_mk g x) Q := by
  have kx := kn_x hx
  refine ⟨mmX11_pull, [some (.ref 0), some (.int (Int32.ofInt a1)), some (.int (Int32.ofInt a2)), none], rfl, rfl, ?_⟩
  refine mm_g 2 (pc1 := 2) (lo1 := [some (.ref 0), some (.int (Int32.ofInt a1)), some (.int (Int32.ofInt a2)), none]) (st1 := [.int (Int32.ofInt a1), .ref 0]) (H1 := mz_mk g x) rfl ?_
  refine mz_cv rfl mt_11_231 (by decide) (sc_0 _) rfl (Nat.le_of_ble_eq_true rfl) (by omega) (c_X11_isTrunk (by omega) hx hI l_a1 u_a1 (fun v1 l_v1 u_v1 => ⟨_, rfl, ?_⟩))
  show mm_W d mmX11_pull 5 [some (.ref 0), some (.int (Int32.ofInt a1)), some (.int (Int32.ofInt a2)), none] [.int (Int32.ofInt v1)] (mz_mk g x) Q
  refine mz_csx rfl mt_11_183 rfl (Nat.le_of_ble_eq_true rfl) (by omega) rfl nh_X11_mustBe (t_X11_mustBe (by omega) hx hI l_v1 u_v1 (fun hp2 => ?_) hX0)
  show mm_W d mmX11_pull 8 [some (.ref 0), some (.int (Int32.ofInt a1)), some (.int (Int32.ofInt a2)), none] [] (mz_mk g x) Q
  refine mm_g 1 (pc1 := 9) (lo1 := [some (.ref 0), some (.int (Int32.ofInt a1)), some (.int (Int32.ofInt a2)), none]) (st1 := [.ref 0]) (H1 := mz_mk g x) rfl ?_
  refine mz_fgR (v := 86) rfl fd_11_37 (by decide) (sc_0 _) (rf_0_5 _ _ _) ?_
  refine mz_fgR (v := 87) rfl fd_11_158 (by decide) (sc_86 _) (rf_86_0 _ _ _) ?_
  refine mm_g 1 (pc1 := 16) (lo1 := [some (.ref 0), some (.int (Int32.ofInt a1)), some (.int (Int32.ofInt a2)), none]) (st1 := [.int (Int32.ofInt a1), .ref 87]) (H1 := mz_mk g x) rfl ?_
  refine mz_cv rfl mt_11_192 (by decide) (sc_87 _) rfl (Nat.le_of_ble_eq_true rfl) (by omega) (c_X9_get (by omega) hx hI kp_tks_87 l_a1 u_a1 (fun u3 k_u3 hp4 => ⟨_, rfl, ?_⟩))
  show mm_W d mmX11_pull 19 [some (.ref 0), some (.int (Int32.ofInt a1)), some (.int (Int32.ofInt a2)), none] [.ref u3] (mz_mk g x) Q
  refine mm_g 3 (pc1 := 22) (lo1 := [some (.ref 0), some (.int (Int32.ofInt a1)), some (.int (Int32.ofInt a2)), some (.ref u3)]) (st1 := [.int (Int32.ofInt 1), .int (Int32.ofInt a2)]) (H1 := mz_mk g x) rfl ?_
  refine mz_ic_lt (tgt := 56) rfl rfl (mz_rg l_a2 u_a2) ⟨by decide, by decide⟩ (fun c22_4 => ?_) (fun c22_4 => ?_)
  · skip
    refine mm_g 1 (pc1 := 57) (lo1 := [some (.ref 0), some (.int (Int32.ofInt a1)), some (.int (Int32.ofInt a2)), some (.ref u3)]) (st1 := [.ref 0]) (H1 := mz_mk g x) rfl ?_
    refine mz_fgR (v := 86) rfl fd_11_37 (by decide) (sc_0 _) (rf_0_5 _ _ _) ?_
    refine mm_g 1 (pc1 := 61) (lo1 := [some (.ref 0), some (.int (Int32.ofInt a1)), some (.int (Int32.ofInt a2)), some (.ref u3)]) (st1 := [.int (Int32.ofInt 1), .ref 86]) (H1 := mz_mk g x) rfl ?_
    refine mz_cv rfl mt_11_131 (by decide) (sc_86 _) rfl (Nat.le_of_ble_eq_true rfl) (by omega) (c_X6_refuse (by omega) hx hI kp_story_86 (by decide) (by decide) (fun v5 g6 hIg6 hfg6 l_v5 u_v5 => ⟨_, rfl, ?_⟩))
    show mm_W d mmX11_pull 64 [some (.ref 0), some (.int (Int32.ofInt a1)), some (.int (Int32.ofInt a2)), some (.ref u3)] [.int (Int32.ofInt v5)] (mz_mk g6 x) Q
    exact mm_rt rfl rfl (hQ _ _ hIg6 (fun k j hk => (hfg6 k j (fun h => hk (Or.inl h)))) (by omega) (by omega))
  · skip
    refine mm_g 1 (pc1 := 26) (lo1 := [some (.ref 0), some (.int (Int32.ofInt a1)), some (.int (Int32.ofInt a2)), some (.ref u3)]) (st1 := [.int (Int32.ofInt a2)]) (H1 := mz_mk g x) rfl ?_
    refine mz_bip rfl bip_9 ?_
    refine mz_ic_gt (tgt := 56) rfl rfl (mz_rg l_a2 u_a2) ⟨by decide, by decide⟩ (fun c28_6 => ?_) (fun c28_6 => ?_)
    · skip
      refine mm_g 1 (pc1 := 57) (lo1 := [some (.ref 0), some (.int (Int32.ofInt a1)), some (.int (Int32.ofInt a2)), some (.ref u3)]) (st1 := [.ref 0]) (H1 := mz_mk g x) rfl ?_
      refine mz_fgR (v := 86) rfl fd_11_37 (by decide) (sc_0 _) (rf_0_5 _ _ _) ?_
      refine mm_g 1 (pc1 := 61) (lo1 := [some (.ref 0), some (.int (Int32.ofInt a1)), some (.int (Int32.ofInt a2)), some (.ref u3)]) (st1 := [.int (Int32.ofInt 1), .ref 86]) (H1 := mz_mk g x) rfl ?_
      refine mz_cv rfl mt_11_131 (by decide) (sc_86 _) rfl (Nat.le_of_ble_eq_true rfl) (by omega) (c_X6_refuse (by omega) hx hI kp_story_86 (by decide) (by decide) (fun v7 g8 hIg8 hfg8 l_v7 u_v7 => ⟨_, rfl, ?_⟩))
      show mm_W d mmX11_pull 64 [some (.ref 0), some (.int (Int32.ofInt a1)), some (.int (Int32.ofInt a2)), some (.ref u3)] [.int (Int32.ofInt v7)] (mz_mk g8 x) Q
      exact mm_rt rfl rfl (hQ _ _ hIg8 (fun k j hk => (hfg8 k j (fun h => hk (Or.inl h)))) (by omega) (by omega))
    · skip
      refine mm_g 1 (pc1 := 32) (lo1 := [some (.ref 0), some (.int (Int32.ofInt a1)), some (.int (Int32.ofInt a2)), some (.ref u3)]) (st1 := [.ref u3]) (H1 := mz_mk g x) rfl ?_
      refine mz_gI rfl fd_11_237 (by decide) (kc_trunk k_u3 _) hI (kb_trunk_3 k_u3) (fun v9 e_v9 l_v9 u_v9 => ?_)
      refine mz_if_eq (tgt := 56) rfl rfl (mz_rg l_v9 u_v9) (fun c35_9 => ?_) (fun c35_9 => ?_)
      · skip
        refine mm_g 1 (pc1 := 57) (lo1 := [some (.ref 0), some (.int (Int32.ofInt a1)), some (.int (Int32.ofInt a2)), some (.ref u3)]) (st1 := [.ref 0]) (H1 := mz_mk g x) rfl ?_
        refine mz_fgR (v := 86) rfl fd_11_37 (by decide) (sc_0 _) (rf_0_5 _ _ _) ?_
        refine mm_g 1 (pc1 := 61) (lo1 := [some (.ref 0), some (.int (Int32.ofInt a1)), some (.int (Int32.ofInt a2)), some (.ref u3)]) (st1 := [.int (Int32.ofInt 1), .ref 86]) (H1 := mz_mk g x) rfl ?_
        refine mz_cv rfl mt_11_131 (by decide) (sc_86 _) rfl (Nat.le_of_ble_eq_true rfl) (by omega) (c_X6_refuse (by omega) hx hI kp_story_86 (by decide) (by decide) (fun v10 g11 hIg11 hfg11 l_v10 u_v10 => ⟨_, rfl, ?_⟩))
        show mm_W d mmX11_pull 64 [some (.ref 0), some (.int (Int32.ofInt a1)), some (.int (Int32.ofInt a2)), some (.ref u3)] [.int (Int32.ofInt v10)] (mz_mk g11 x) Q
        exact mm_rt rfl rfl (hQ _ _ hIg11 (fun k j hk => (hfg11 k j (fun h => hk (Or.inl h)))) (by omega) (by omega))
      · skip
        refine mm_g 1 (pc1 := 39) (lo1 := [some (.ref 0), some (.int (Int32.ofInt a1)), some (.int (Int32.ofInt a2)), some (.ref u3)]) (st1 := [.ref 0]) (H1 := mz_mk g x) rfl ?_
        refine mz_fgR (v := x.1) rfl fd_11_16 (by decide) (sc_0 _) rfl ?_
        refine mm_g 1 (pc1 := 43) (lo1 := [some (.ref 0), some (.int (Int32.ofInt a1)), some (.int (Int32.ofInt a2)), some (.ref u3)]) (st1 := [.ref u3, .ref x.1]) (H1 := mz_mk g x) rfl ?_
        refine mz_cv rfl mt_11_259 (by decide) (kc_load (kx_1 hx) _) rfl (Nat.le_of_ble_eq_true rfl) (by omega) (c_X1_isFull (by omega) hx hI (kx_1 hx) k_u3 (fun v12 l_v12 u_v12 => ⟨_, rfl, ?_⟩))
        show mm_W d mmX11_pull 46 [some (.ref 0), some (.int (Int32.ofInt a1)), some (.int (Int32.ofInt a2)), some (.ref u3)] [.int (Int32.ofInt v12)] (mz_mk g x) Q
        refine mz_if_ne (tgt := 56) rfl rfl (mz_rg l_v12 u_v12) (fun c46_12 => ?_) (fun c46_12 => ?_)
        · skip
          refine mm_g 1 (pc1 := 57) (lo1 := [some (.ref 0), some (.int (Int32.ofInt a1)), some (.int (Int32.ofInt a2)), some (.ref u3)]) (st1 := [.ref 0]) (H1 := mz_mk g x) rfl ?_
          refine mz_fgR (v := 86) rfl fd_11_37 (by decide) (sc_0 _) (rf_0_5 _ _ _) ?_
          refine mm_g 1 (pc1 := 61) (lo1 := [some (.ref 0), some (.int (Int32.ofInt a1)), some (.int (Int32.ofInt a2)), some (.ref u3)]) (st1 := [.int (Int32.ofInt 1), .ref 86]) (H1 := mz_mk g x) rfl ?_
          refine mz_cv rfl mt_11_131 (by decide) (sc_86 _) rfl (Nat.le_of_ble_eq_true rfl) (by omega) (c_X6_refuse (by omega) hx hI kp_story_86 (by decide) (by decide) (fun v13 g14 hIg14 hfg14 l_v13 u_v13 => ⟨_, rfl, ?_⟩))
          show mm_W d mmX11_pull 64 [some (.ref 0), some (.int (Int32.ofInt a1)), some (.int (Int32.ofInt a2)), some (.ref u3)] [.int (Int32.ofInt v13)] (mz_mk g14 x) Q
          exact mm_rt rfl rfl (hQ _ _ hIg14 (fun k j hk => (hfg14 k j (fun h => hk (Or.inl h)))) (by omega) (by omega))
        · skip
          refine mm_g 1 (pc1 := 50) (lo1 := [some (.ref 0), some (.int (Int32.ofInt a1)), some (.int (Int32.ofInt a2)), some (.ref u3)]) (st1 := [.ref u3]) (H1 := mz_mk g x) rfl ?_
          refine mz_gI rfl fd_11_196 (by decide) (kc_trunk k_u3 _) hI (kb_trunk_4 k_u3) (fun v15 e_v15 l_v15 u_v15 => ?_)
          refine mz_if_eq (tgt := 65) rfl rfl (mz_rg l_v15 u_v15) (fun c53_15 => ?_) (fun c53_15 => ?_)
          · skip
            refine mm_g 1 (pc1 := 66) (lo1 := [some (.ref 0), some (.int (Int32.ofInt a1)), some (.int (Int32.ofInt a2)), some (.ref u3)]) (st1 := [.ref 0]) (H1 := mz_mk g x) rfl ?_
            refine mz_fgR (v := 86) rfl fd_11_37 (by decide) (sc_0 _) (rf_0_5 _ _ _) ?_
            refine mz_cv rfl mt_11_253 (by decide) (sc_86 _) rfl (Nat.le_of_ble_eq_true rfl) (by omega) (c_X6_keepAct (by omega) hx hI kp_story_86 (fun g16 hIg16 hfg16 => ⟨_, rfl, ?_⟩))
            show mm_W d mmX11_pull 72 [some (.ref 0), some (.int (Int32.ofInt a1)), some (.int (Int32.ofInt a2)), some (.ref u3)] [] (mz_mk g16 x) Q
            refine mm_g 3 (pc1 := 75) (lo1 := [some (.ref 0), some (.int (Int32.ofInt a1)), some (.int (Int32.ofInt a2)), some (.ref u3)]) (st1 := [.ref u3, .int (Int32.ofInt 0), .ref u3]) (H1 := mz_mk g16 x) rfl ?_
            refine mz_gI rfl fd_11_237 (by decide) (kc_trunk k_u3 _) hIg16 (kb_trunk_3 k_u3) (fun v17 e_v17 l_v17 u_v17 => ?_)
            refine mm_g 1 (pc1 := 79) (lo1 := [some (.ref 0), some (.int (Int32.ofInt a1)), some (.int (Int32.ofInt a2)), some (.ref u3)]) (st1 := [.int (Int32.ofInt a2), .int (Int32.ofInt v17), .int (Int32.ofInt 0), .ref u3]) (H1 := mz_mk g16 x) rfl ?_
            refine mz_isub_w rfl (fun v18 _ hwv18 => ?_)
            have l_v18 := hwv18.1
            have u_v18 := hwv18.2
            refine mz_mx rfl mt_11_263 (Nat.le_of_ble_eq_true rfl) (by omega) ⟨by decide, by decide⟩ (mz_rg l_v18 u_v18) (fun v19 e_v19 => ?_)
            have l_v19 : 0 ≤ v19 := by omega
            have u_v19 : v19 ≤ 2147483647 := by omega
            refine mz_pI rfl fd_11_237 (kc_trunk k_u3 _) hIg16 (kb_trunk_3 k_u3) (by omega) (by omega) (fun g20 hIg20 hug20 => ?_)
            refine mm_g 1 (pc1 := 87) (lo1 := [some (.ref 0), some (.int (Int32.ofInt a1)), some (.int (Int32.ofInt a2)), some (.ref u3)]) (st1 := [.ref u3]) (H1 := mz_mk g20 x) rfl ?_
            refine mz_fgI (v := v19) rfl fd_11_237 (by decide) (kc_trunk k_u3 _) (show g20 u3 3 = v19 from hug20.1) ?_
            exact mm_rt rfl rfl (hQ _ _ hIg20 (fun k j hk => ((hug20.2 k j (fun h => hk (Or.inr (Or.inr (Or.inr (show (87 ≤ k ∧ k < 96) by have h9 : k = u3 ∧ j = 3 := h; omega)))))).trans (hfg16 k j (fun h => hk (Or.elim h (fun h => (Or.inr (Or.inl h))) (fun h => (Or.inr (Or.inr (Or.inl h))))))))) (by omega) (by omega))
          · skip
            refine mm_g 1 (pc1 := 57) (lo1 := [some (.ref 0), some (.int (Int32.ofInt a1)), some (.int (Int32.ofInt a2)), some (.ref u3)]) (st1 := [.ref 0]) (H1 := mz_mk g x) rfl ?_
            refine mz_fgR (v := 86) rfl fd_11_37 (by decide) (sc_0 _) (rf_0_5 _ _ _) ?_
            refine mm_g 1 (pc1 := 61) (lo1 := [some (.ref 0), some (.int (Int32.ofInt a1)), some (.int (Int32.ofInt a2)), some (.ref u3)]) (st1 := [.int (Int32.ofInt 1), .ref 86]) (H1 := mz_mk g x) rfl ?_
            refine mz_cv rfl mt_11_131 (by decide) (sc_86 _) rfl (Nat.le_of_ble_eq_true rfl) (by omega) (c_X6_refuse (by omega) hx hI kp_story_86 (by decide) (by decide) (fun v21 g22 hIg22 hfg22 l_v21 u_v21 => ⟨_, rfl, ?_⟩))
            show mm_W d mmX11_pull 64 [some (.ref 0), some (.int (Int32.ofInt a1)), some (.int (Int32.ofInt a2)), some (.ref u3)] [.int (Int32.ofInt v21)] (mz_mk g22 x) Q
            exact mm_rt rfl rfl (hQ _ _ hIg22 (fun k j hk => (hfg22 k j (fun h => hk (Or.inl h)))) (by omega) (by omega))
theorem t_X11_turn {d : Nat} (hd : 13 ≤ d) {x : mm_X} (hx : mk_x x) {g : mz_G} (hI : mz_inv g) {a1 : Int} (l_a1 : (-2147483648) ≤ a1) (u_a1 : a1 ≤ 2147483647) {Q : (Option Value ⊕ Nat) → mm_H → Prop} (hQ : ∀ (r : Int) (g1 : mz_G), mz_inv g1 → mz_fr (fw_X11_turn x a1) g g1 → (-2147483648) ≤ r → r ≤ 2147483647 → Q (.inl (some (.int (Int32.ofInt r)))) (mz_mk g1 x)) (hX0 : Q (.inr 0) (mz_mk g (mz_tx x))) : mm_C d 136 [.ref 0, .int (Int32.ofInt a1)] (mz_mk g x) Q := by
  have kx := kn_x hx
  refine ⟨mmX11_turn, [some (.ref 0), some (.int (Int32.ofInt a1)), none, none], rfl, rfl, ?_⟩
  refine mm_g 2 (pc1 := 2) (lo1 := [some (.ref 0), some (.int (Int32.ofInt a1)), none, none]) (st1 := [.int (Int32.ofInt a1), .ref 0]) (H1 := mz_mk g x) rfl ?_
  refine mz_cv rfl mt_11_231 (by decide) (sc_0 _) rfl (Nat.le_of_ble_eq_true rfl) (by omega) (c_X11_isTrunk (by omega) hx hI l_a1 u_a1 (fun v1 l_v1 u_v1 => ⟨_, rfl, ?_⟩))
  show mm_W d mmX11_turn 5 [some (.ref 0), some (.int (Int32.ofInt a1)), none, none] [.int (Int32.ofInt v1)] (mz_mk g x) Q
  refine mz_csx rfl mt_11_183 rfl (Nat.le_of_ble_eq_true rfl) (by omega) rfl nh_X11_mustBe (t_X11_mustBe (by omega) hx hI l_v1 u_v1 (fun hp2 => ?_) hX0)
  show mm_W d mmX11_turn 8 [some (.ref 0), some (.int (Int32.ofInt a1)), none, none] [] (mz_mk g x) Q
  refine mm_g 1 (pc1 := 9) (lo1 := [some (.ref 0), some (.int (Int32.ofInt a1)), none, none]) (st1 := [.ref 0]) (H1 := mz_mk g x) rfl ?_
  refine mz_fgR (v := 86) rfl fd_11_37 (by decide) (sc_0 _) (rf_0_5 _ _ _) ?_
  refine mz_fgR (v := 87) rfl fd_11_158 (by decide) (sc_86 _) (rf_86_0 _ _ _) ?_
  refine mm_g 1 (pc1 := 16) (lo1 := [some (.ref 0), some (.int (Int32.ofInt a1)), none, none]) (st1 := [.int (Int32.ofInt a1), .ref 87]) (H1 := mz_mk g x) rfl ?_
  refine mz_cv rfl mt_11_192 (by decide) (sc_87 _) rfl (Nat.le_of_ble_eq_true rfl) (by omega) (c_X9_get (by omega) hx hI kp_tks_87 l_a1 u_a1 (fun u3 k_u3 hp4 => ⟨_, rfl, ?_⟩))
  show mm_W d mmX11_turn 19 [some (.ref 0), some (.int (Int32.ofInt a1)), none, none] [.ref u3] (mz_mk g x) Q
  refine mm_g 2 (pc1 := 21) (lo1 := [some (.ref 0), some (.int (Int32.ofInt a1)), some (.ref u3), none]) (st1 := [.ref 0]) (H1 := mz_mk g x) rfl ?_
  refine mz_fgR (v := 86) rfl fd_11_37 (by decide) (sc_0 _) (rf_0_5 _ _ _) ?_
  refine mz_cv rfl mt_11_253 (by decide) (sc_86 _) rfl (Nat.le_of_ble_eq_true rfl) (by omega) (c_X6_keepAct (by omega) hx hI kp_story_86 (fun g5 hIg5 hfg5 => ⟨_, rfl, ?_⟩))
  show mm_W d mmX11_turn 27 [some (.ref 0), some (.int (Int32.ofInt a1)), some (.ref u3), none] [] (mz_mk g5 x) Q
  refine mm_g 1 (pc1 := 28) (lo1 := [some (.ref 0), some (.int (Int32.ofInt a1)), some (.ref u3), none]) (st1 := [.ref u3]) (H1 := mz_mk g5 x) rfl ?_
  refine mz_gI rfl fd_11_237 (by decide) (kc_trunk k_u3 _) hIg5 (kb_trunk_3 k_u3) (fun v6 e_v6 l_v6 u_v6 => ?_)
  refine mm_g 2 (pc1 := 33) (lo1 := [some (.ref 0), some (.int (Int32.ofInt a1)), some (.ref u3), some (.int (Int32.ofInt v6))]) (st1 := [.ref u3]) (H1 := mz_mk g5 x) rfl ?_
  refine mz_cv rfl mt_11_269 (by decide) (kc_trunk k_u3 _) rfl (Nat.le_of_ble_eq_true rfl) (by omega) (c_X8_turnRound (by omega) hx hIg5 k_u3 (fun g7 hIg7 hfg7 => ⟨_, rfl, ?_⟩))
  show mm_W d mmX11_turn 36 [some (.ref 0), some (.int (Int32.ofInt a1)), some (.ref u3), some (.int (Int32.ofInt v6))] [] (mz_mk g7 x) Q
  refine mm_g 1 (pc1 := 37) (lo1 := [some (.ref 0), some (.int (Int32.ofInt a1)), some (.ref u3), some (.int (Int32.ofInt v6))]) (st1 := [.int (Int32.ofInt v6)]) (H1 := mz_mk g7 x) rfl ?_
  exact mm_rt rfl rfl (hQ _ _ hIg7 (fun k j hk => ((hfg7 k j (fun h => hk (Or.inr (Or.inr (show (87 ≤ k ∧ k < 96) by have h9 : k = u3 := h; omega))))).trans (hfg5 k j (fun h => hk (Or.elim h (fun h => (Or.inl h)) (fun h => (Or.inr (Or.inl h)))))))) (by omega) (by omega))
theorem t_X11_pack {d : Nat} (hd : 13 ≤ d) {x : mm_X} (hx : mk_x x) {g : mz_G} (hI : mz_inv g) {a1 : Int} (l_a1 : (-2147483648) ≤ a1) (u_a1 : a1 ≤ 2147483647) {a2 : Int} (l_a2 : (-2147483648) ≤ a2) (u_a2 : a2 ≤ 2147483647) {a3 : Int} (l_a3 : (-2147483648) ≤ a3) (u_a3 : a3 ≤ 2147483647) {Q : (Option Value ⊕ Nat) → mm_H → Prop} (hQ : ∀ (r : Int) (g1 : mz_G), mz_inv g1 → mz_fr (fw_X11_pack x a1 a2 a3) g g1 → (-2147483648) ≤ r → r ≤ 2147483647 → Q (.inl (some (.int (Int32.ofInt r)))) (mz_mk g1 x)) (hX0 : Q (.inr 0) (mz_mk g (mz_tx x))) : mm_C d 137 [.ref 0, .int (Int32.ofInt a1), .int (Int32.ofInt a2), .int (Int32.ofInt a3)] (mz_mk g x) Q := by
  have kx := kn_x hx
  refine ⟨mmX11_pack, [some (.ref 0), some (.int (Int32.ofInt a1)), some (.int (Int32.ofInt a2)), some (.int (Int32.ofInt a3)), none, none], rfl, rfl, ?_⟩
  refine mm_g 2 (pc1 := 2) (lo1 := [some (.ref 0), some (.int (Int32.ofInt a1)), some (.int (Int32.ofInt a2)), some (.int (Int32.ofInt a3)), none, none]) (st1 := [.int (Int32.ofInt a1), .ref 0]) (H1 := mz_mk g x) rfl ?_
  refine mz_cv rfl mt_11_231 (by decide) (sc_0 _) rfl (Nat.le_of_ble_eq_true rfl) (by omega) (c_X11_isTrunk (by omega) hx hI l_a1 u_a1 (fun v1 l_v1 u_v1 => ⟨_, rfl, ?_⟩))
  show mm_W d mmX11_pack 5 [some (.ref 0), some (.int (Int32.ofInt a1)), some (.int (Int32.ofInt a2)), some (.int (Int32.ofInt a3)), none, none] [.int (Int32.ofInt v1)] (mz_mk g x) Q
  refine mz_if_eq (tgt := 29) rfl rfl (mz_rg l_v1 u_v1) (fun c5_1 => ?_) (fun c5_1 => ?_)
  · skip
    refine mm_g 1 (pc1 := 30) (lo1 := [some (.ref 0), some (.int (Int32.ofInt a1)), some (.int (Int32.ofInt a2)), some (.int (Int32.ofInt a3)), none, none]) (st1 := [.int (Int32.ofInt 0)]) (H1 := mz_mk g x) rfl ?_
    refine mz_csx rfl mt_11_183 rfl (Nat.le_of_ble_eq_true rfl) (by omega) rfl nh_X11_mustBe (t_X11_mustBe (by omega) hx hI (by decide) (by decide) (fun hp2 => ?_) hX0)
    show mm_W d mmX11_pack 33 [some (.ref 0), some (.int (Int32.ofInt a1)), some (.int (Int32.ofInt a2)), some (.int (Int32.ofInt a3)), none, none] [] (mz_mk g x) Q
    exfalso; omega
  · skip
    refine mm_g 1 (pc1 := 9) (lo1 := [some (.ref 0), some (.int (Int32.ofInt a1)), some (.int (Int32.ofInt a2)), some (.int (Int32.ofInt a3)), none, none]) (st1 := [.int (Int32.ofInt a2)]) (H1 := mz_mk g x) rfl ?_
    refine mz_if_eq (tgt := 17) rfl rfl (mz_rg l_a2 u_a2) (fun c9_2 => ?_) (fun c9_2 => ?_)
    · skip
      refine mm_g 2 (pc1 := 19) (lo1 := [some (.ref 0), some (.int (Int32.ofInt a1)), some (.int (Int32.ofInt a2)), some (.int (Int32.ofInt a3)), none, none]) (st1 := [.int (Int32.ofInt a3), .ref 0]) (H1 := mz_mk g x) rfl ?_
      refine mz_cv rfl mt_11_199 (by decide) (sc_0 _) rfl (Nat.le_of_ble_eq_true rfl) (by omega) (c_X11_isWord (by omega) hx hI l_a3 u_a3 (fun v3 l_v3 u_v3 => ⟨_, rfl, ?_⟩))
      show mm_W d mmX11_pack 22 [some (.ref 0), some (.int (Int32.ofInt a1)), some (.int (Int32.ofInt a2)), some (.int (Int32.ofInt a3)), none, none] [.int (Int32.ofInt v3)] (mz_mk g x) Q
      refine mz_if_eq (tgt := 29) rfl rfl (mz_rg l_v3 u_v3) (fun c22_3 => ?_) (fun c22_3 => ?_)
      · skip
        refine mm_g 1 (pc1 := 30) (lo1 := [some (.ref 0), some (.int (Int32.ofInt a1)), some (.int (Int32.ofInt a2)), some (.int (Int32.ofInt a3)), none, none]) (st1 := [.int (Int32.ofInt 0)]) (H1 := mz_mk g x) rfl ?_
        refine mz_csx rfl mt_11_183 rfl (Nat.le_of_ble_eq_true rfl) (by omega) rfl nh_X11_mustBe (t_X11_mustBe (by omega) hx hI (by decide) (by decide) (fun hp4 => ?_) hX0)
        show mm_W d mmX11_pack 33 [some (.ref 0), some (.int (Int32.ofInt a1)), some (.int (Int32.ofInt a2)), some (.int (Int32.ofInt a3)), none, none] [] (mz_mk g x) Q
        exfalso; omega
      · skip
        refine mm_g 1 (pc1 := 26) (lo1 := [some (.ref 0), some (.int (Int32.ofInt a1)), some (.int (Int32.ofInt a2)), some (.int (Int32.ofInt a3)), none, none]) (st1 := [.int (Int32.ofInt 1)]) (H1 := mz_mk g x) rfl ?_
        refine mz_gt (tgt := 30) rfl rfl ?_
        refine mz_csx rfl mt_11_183 rfl (Nat.le_of_ble_eq_true rfl) (by omega) rfl nh_X11_mustBe (t_X11_mustBe (by omega) hx hI (by decide) (by decide) (fun hp5 => ?_) hX0)
        show mm_W d mmX11_pack 33 [some (.ref 0), some (.int (Int32.ofInt a1)), some (.int (Int32.ofInt a2)), some (.int (Int32.ofInt a3)), none, none] [] (mz_mk g x) Q
        refine mm_g 1 (pc1 := 34) (lo1 := [some (.ref 0), some (.int (Int32.ofInt a1)), some (.int (Int32.ofInt a2)), some (.int (Int32.ofInt a3)), none, none]) (st1 := [.ref 0]) (H1 := mz_mk g x) rfl ?_
        refine mz_fgR (v := 86) rfl fd_11_37 (by decide) (sc_0 _) (rf_0_5 _ _ _) ?_
        refine mz_fgR (v := 87) rfl fd_11_158 (by decide) (sc_86 _) (rf_86_0 _ _ _) ?_
        refine mm_g 1 (pc1 := 41) (lo1 := [some (.ref 0), some (.int (Int32.ofInt a1)), some (.int (Int32.ofInt a2)), some (.int (Int32.ofInt a3)), none, none]) (st1 := [.int (Int32.ofInt a1), .ref 87]) (H1 := mz_mk g x) rfl ?_
        refine mz_cv rfl mt_11_192 (by decide) (sc_87 _) rfl (Nat.le_of_ble_eq_true rfl) (by omega) (c_X9_get (by omega) hx hI kp_tks_87 l_a1 u_a1 (fun u6 k_u6 hp7 => ⟨_, rfl, ?_⟩))
        show mm_W d mmX11_pack 44 [some (.ref 0), some (.int (Int32.ofInt a1)), some (.int (Int32.ofInt a2)), some (.int (Int32.ofInt a3)), none, none] [.ref u6] (mz_mk g x) Q
        refine mm_g 2 (pc1 := 47) (lo1 := [some (.ref 0), some (.int (Int32.ofInt a1)), some (.int (Int32.ofInt a2)), some (.int (Int32.ofInt a3)), some (.ref u6), none]) (st1 := [.int (Int32.ofInt a2)]) (H1 := mz_mk g x) rfl ?_
        refine mz_if_ne (tgt := 58) rfl rfl (mz_rg l_a2 u_a2) (fun c47_7 => ?_) (fun c47_7 => ?_)
        · exfalso; omega
        · skip
          refine mm_g 1 (pc1 := 52) (lo1 := [some (.ref 0), some (.int (Int32.ofInt a1)), some (.int (Int32.ofInt a2)), some (.int (Int32.ofInt a3)), some (.ref u6), none]) (st1 := [.ref u6]) (H1 := mz_mk g x) rfl ?_
          refine mz_gI rfl fd_11_222 (by decide) (kc_trunk k_u6 _) hI (kb_trunk_0 k_u6) (fun v8 e_v8 l_v8 u_v8 => ?_)
          refine mz_gt (tgt := 63) rfl rfl ?_
          refine mm_g 3 (pc1 := 68) (lo1 := [some (.ref 0), some (.int (Int32.ofInt a1)), some (.int (Int32.ofInt a2)), some (.int (Int32.ofInt a3)), some (.ref u6), some (.int (Int32.ofInt v8))]) (st1 := [.int (Int32.ofInt a3), .int (Int32.ofInt v8)]) (H1 := mz_mk g x) rfl ?_
          refine mz_ic_ne (tgt := 80) rfl rfl (mz_rg l_v8 u_v8) (mz_rg l_a3 u_a3) (fun c68_8 => ?_) (fun c68_8 => ?_)
          · skip
            refine mm_g 1 (pc1 := 81) (lo1 := [some (.ref 0), some (.int (Int32.ofInt a1)), some (.int (Int32.ofInt a2)), some (.int (Int32.ofInt a3)), some (.ref u6), some (.int (Int32.ofInt v8))]) (st1 := [.ref 0]) (H1 := mz_mk g x) rfl ?_
            refine mz_fgR (v := 86) rfl fd_11_37 (by decide) (sc_0 _) (rf_0_5 _ _ _) ?_
            refine mz_cv rfl mt_11_253 (by decide) (sc_86 _) rfl (Nat.le_of_ble_eq_true rfl) (by omega) (c_X6_keepAct (by omega) hx hI kp_story_86 (fun g9 hIg9 hfg9 => ⟨_, rfl, ?_⟩))
            show mm_W d mmX11_pack 87 [some (.ref 0), some (.int (Int32.ofInt a1)), some (.int (Int32.ofInt a2)), some (.int (Int32.ofInt a3)), some (.ref u6), some (.int (Int32.ofInt v8))] [] (mz_mk g9 x) Q
            refine mm_g 3 (pc1 := 91) (lo1 := [some (.ref 0), some (.int (Int32.ofInt a1)), some (.int (Int32.ofInt a2)), some (.int (Int32.ofInt a3)), some (.ref u6), some (.int (Int32.ofInt v8))]) (st1 := [.int (Int32.ofInt a3), .int (Int32.ofInt a2), .ref u6]) (H1 := mz_mk g9 x) rfl ?_
            refine mz_cv rfl mt_11_272 (by decide) (kc_trunk k_u6 _) rfl (Nat.le_of_ble_eq_true rfl) (by omega) (c_X8_packIn (by omega) hx hIg9 k_u6 l_a2 u_a2 l_a3 u_a3 (fun g10 hIg10 hfg10 => ⟨_, rfl, ?_⟩))
            show mm_W d mmX11_pack 94 [some (.ref 0), some (.int (Int32.ofInt a1)), some (.int (Int32.ofInt a2)), some (.int (Int32.ofInt a3)), some (.ref u6), some (.int (Int32.ofInt v8))] [] (mz_mk g10 x) Q
            refine mm_g 1 (pc1 := 96) (lo1 := [some (.ref 0), some (.int (Int32.ofInt a1)), some (.int (Int32.ofInt a2)), some (.int (Int32.ofInt a3)), some (.ref u6), some (.int (Int32.ofInt v8))]) (st1 := [.int (Int32.ofInt v8)]) (H1 := mz_mk g10 x) rfl ?_
            exact mm_rt rfl rfl (hQ _ _ hIg10 (fun k j hk => ((hfg10 k j (fun h => hk (Or.inr (Or.inr (Or.inl (show (87 ≤ k ∧ k < 96) by have h9 : k = u6 := h; omega)))))).trans (hfg9 k j (fun h => hk (Or.elim h (fun h => (Or.inl h)) (fun h => (Or.inr (Or.inl h)))))))) (by omega) (by omega))
          · skip
            refine mm_g 1 (pc1 := 72) (lo1 := [some (.ref 0), some (.int (Int32.ofInt a1)), some (.int (Int32.ofInt a2)), some (.int (Int32.ofInt a3)), some (.ref u6), some (.int (Int32.ofInt v8))]) (st1 := [.ref 0]) (H1 := mz_mk g x) rfl ?_
            refine mz_fgR (v := 86) rfl fd_11_37 (by decide) (sc_0 _) (rf_0_5 _ _ _) ?_
            refine mm_g 1 (pc1 := 76) (lo1 := [some (.ref 0), some (.int (Int32.ofInt a1)), some (.int (Int32.ofInt a2)), some (.int (Int32.ofInt a3)), some (.ref u6), some (.int (Int32.ofInt v8))]) (st1 := [.int (Int32.ofInt 1), .ref 86]) (H1 := mz_mk g x) rfl ?_
            refine mz_cv rfl mt_11_131 (by decide) (sc_86 _) rfl (Nat.le_of_ble_eq_true rfl) (by omega) (c_X6_refuse (by omega) hx hI kp_story_86 (by decide) (by decide) (fun v11 g12 hIg12 hfg12 l_v11 u_v11 => ⟨_, rfl, ?_⟩))
            show mm_W d mmX11_pack 79 [some (.ref 0), some (.int (Int32.ofInt a1)), some (.int (Int32.ofInt a2)), some (.int (Int32.ofInt a3)), some (.ref u6), some (.int (Int32.ofInt v8))] [.int (Int32.ofInt v11)] (mz_mk g12 x) Q
            exact mm_rt rfl rfl (hQ _ _ hIg12 (fun k j hk => (hfg12 k j (fun h => hk (Or.inr (Or.inr (Or.inr h)))))) (by omega) (by omega))
    · skip
      refine mm_g 2 (pc1 := 14) (lo1 := [some (.ref 0), some (.int (Int32.ofInt a1)), some (.int (Int32.ofInt a2)), some (.int (Int32.ofInt a3)), none, none]) (st1 := [.int (Int32.ofInt 1), .int (Int32.ofInt a2)]) (H1 := mz_mk g x) rfl ?_
      refine mz_ic_ne (tgt := 29) rfl rfl (mz_rg l_a2 u_a2) ⟨by decide, by decide⟩ (fun c14_12 => ?_) (fun c14_12 => ?_)
      · skip
        refine mm_g 1 (pc1 := 30) (lo1 := [some (.ref 0), some (.int (Int32.ofInt a1)), some (.int (Int32.ofInt a2)), some (.int (Int32.ofInt a3)), none, none]) (st1 := [.int (Int32.ofInt 0)]) (H1 := mz_mk g x) rfl ?_
        refine mz_csx rfl mt_11_183 rfl (Nat.le_of_ble_eq_true rfl) (by omega) rfl nh_X11_mustBe (t_X11_mustBe (by omega) hx hI (by decide) (by decide) (fun hp13 => ?_) hX0)
        show mm_W d mmX11_pack 33 [some (.ref 0), some (.int (Int32.ofInt a1)), some (.int (Int32.ofInt a2)), some (.int (Int32.ofInt a3)), none, none] [] (mz_mk g x) Q
        exfalso; omega
      · skip
        refine mm_g 2 (pc1 := 19) (lo1 := [some (.ref 0), some (.int (Int32.ofInt a1)), some (.int (Int32.ofInt a2)), some (.int (Int32.ofInt a3)), none, none]) (st1 := [.int (Int32.ofInt a3), .ref 0]) (H1 := mz_mk g x) rfl ?_
        refine mz_cv rfl mt_11_199 (by decide) (sc_0 _) rfl (Nat.le_of_ble_eq_true rfl) (by omega) (c_X11_isWord (by omega) hx hI l_a3 u_a3 (fun v14 l_v14 u_v14 => ⟨_, rfl, ?_⟩))
        show mm_W d mmX11_pack 22 [some (.ref 0), some (.int (Int32.ofInt a1)), some (.int (Int32.ofInt a2)), some (.int (Int32.ofInt a3)), none, none] [.int (Int32.ofInt v14)] (mz_mk g x) Q
        refine mz_if_eq (tgt := 29) rfl rfl (mz_rg l_v14 u_v14) (fun c22_14 => ?_) (fun c22_14 => ?_)
        · skip
          refine mm_g 1 (pc1 := 30) (lo1 := [some (.ref 0), some (.int (Int32.ofInt a1)), some (.int (Int32.ofInt a2)), some (.int (Int32.ofInt a3)), none, none]) (st1 := [.int (Int32.ofInt 0)]) (H1 := mz_mk g x) rfl ?_
          refine mz_csx rfl mt_11_183 rfl (Nat.le_of_ble_eq_true rfl) (by omega) rfl nh_X11_mustBe (t_X11_mustBe (by omega) hx hI (by decide) (by decide) (fun hp15 => ?_) hX0)
          show mm_W d mmX11_pack 33 [some (.ref 0), some (.int (Int32.ofInt a1)), some (.int (Int32.ofInt a2)), some (.int (Int32.ofInt a3)), none, none] [] (mz_mk g x) Q
          exfalso; omega
        · skip
          refine mm_g 1 (pc1 := 26) (lo1 := [some (.ref 0), some (.int (Int32.ofInt a1)), some (.int (Int32.ofInt a2)), some (.int (Int32.ofInt a3)), none, none]) (st1 := [.int (Int32.ofInt 1)]) (H1 := mz_mk g x) rfl ?_
          refine mz_gt (tgt := 30) rfl rfl ?_
          refine mz_csx rfl mt_11_183 rfl (Nat.le_of_ble_eq_true rfl) (by omega) rfl nh_X11_mustBe (t_X11_mustBe (by omega) hx hI (by decide) (by decide) (fun hp16 => ?_) hX0)
          show mm_W d mmX11_pack 33 [some (.ref 0), some (.int (Int32.ofInt a1)), some (.int (Int32.ofInt a2)), some (.int (Int32.ofInt a3)), none, none] [] (mz_mk g x) Q
          refine mm_g 1 (pc1 := 34) (lo1 := [some (.ref 0), some (.int (Int32.ofInt a1)), some (.int (Int32.ofInt a2)), some (.int (Int32.ofInt a3)), none, none]) (st1 := [.ref 0]) (H1 := mz_mk g x) rfl ?_
          refine mz_fgR (v := 86) rfl fd_11_37 (by decide) (sc_0 _) (rf_0_5 _ _ _) ?_
          refine mz_fgR (v := 87) rfl fd_11_158 (by decide) (sc_86 _) (rf_86_0 _ _ _) ?_
          refine mm_g 1 (pc1 := 41) (lo1 := [some (.ref 0), some (.int (Int32.ofInt a1)), some (.int (Int32.ofInt a2)), some (.int (Int32.ofInt a3)), none, none]) (st1 := [.int (Int32.ofInt a1), .ref 87]) (H1 := mz_mk g x) rfl ?_
          refine mz_cv rfl mt_11_192 (by decide) (sc_87 _) rfl (Nat.le_of_ble_eq_true rfl) (by omega) (c_X9_get (by omega) hx hI kp_tks_87 l_a1 u_a1 (fun u17 k_u17 hp18 => ⟨_, rfl, ?_⟩))
          show mm_W d mmX11_pack 44 [some (.ref 0), some (.int (Int32.ofInt a1)), some (.int (Int32.ofInt a2)), some (.int (Int32.ofInt a3)), none, none] [.ref u17] (mz_mk g x) Q
          refine mm_g 2 (pc1 := 47) (lo1 := [some (.ref 0), some (.int (Int32.ofInt a1)), some (.int (Int32.ofInt a2)), some (.int (Int32.ofInt a3)), some (.ref u17), none]) (st1 := [.int (Int32.ofInt a2)]) (H1 := mz_mk g x) rfl ?_
          refine mz_if_ne (tgt := 58) rfl rfl (mz_rg l_a2 u_a2) (fun c47_18 => ?_) (fun c47_18 => ?_)
          · skip
            refine mm_g 1 (pc1 := 60) (lo1 := [some (.ref 0), some (.int (Int32.ofInt a1)), some (.int (Int32.ofInt a2)), some (.int (Int32.ofInt a3)), some (.ref u17), none]) (st1 := [.ref u17]) (H1 := mz_mk g x) rfl ?_
            refine mz_gI rfl fd_11_225 (by decide) (kc_trunk k_u17 _) hI (kb_trunk_1 k_u17) (fun v19 e_v19 l_v19 u_v19 => ?_)
            refine mm_g 3 (pc1 := 68) (lo1 := [some (.ref 0), some (.int (Int32.ofInt a1)), some (.int (Int32.ofInt a2)), some (.int (Int32.ofInt a3)), some (.ref u17), some (.int (Int32.ofInt v19))]) (st1 := [.int (Int32.ofInt a3), .int (Int32.ofInt v19)]) (H1 := mz_mk g x) rfl ?_
            refine mz_ic_ne (tgt := 80) rfl rfl (mz_rg l_v19 u_v19) (mz_rg l_a3 u_a3) (fun c68_19 => ?_) (fun c68_19 => ?_)
            · skip
              refine mm_g 1 (pc1 := 81) (lo1 := [some (.ref 0), some (.int (Int32.ofInt a1)), some (.int (Int32.ofInt a2)), some (.int (Int32.ofInt a3)), some (.ref u17), some (.int (Int32.ofInt v19))]) (st1 := [.ref 0]) (H1 := mz_mk g x) rfl ?_
              refine mz_fgR (v := 86) rfl fd_11_37 (by decide) (sc_0 _) (rf_0_5 _ _ _) ?_
              refine mz_cv rfl mt_11_253 (by decide) (sc_86 _) rfl (Nat.le_of_ble_eq_true rfl) (by omega) (c_X6_keepAct (by omega) hx hI kp_story_86 (fun g20 hIg20 hfg20 => ⟨_, rfl, ?_⟩))
              show mm_W d mmX11_pack 87 [some (.ref 0), some (.int (Int32.ofInt a1)), some (.int (Int32.ofInt a2)), some (.int (Int32.ofInt a3)), some (.ref u17), some (.int (Int32.ofInt v19))] [] (mz_mk g20 x) Q
              refine mm_g 3 (pc1 := 91) (lo1 := [some (.ref 0), some (.int (Int32.ofInt a1)), some (.int (Int32.ofInt a2)), some (.int (Int32.ofInt a3)), some (.ref u17), some (.int (Int32.ofInt v19))]) (st1 := [.int (Int32.ofInt a3), .int (Int32.ofInt a2), .ref u17]) (H1 := mz_mk g20 x) rfl ?_
              refine mz_cv rfl mt_11_272 (by decide) (kc_trunk k_u17 _) rfl (Nat.le_of_ble_eq_true rfl) (by omega) (c_X8_packIn (by omega) hx hIg20 k_u17 l_a2 u_a2 l_a3 u_a3 (fun g21 hIg21 hfg21 => ⟨_, rfl, ?_⟩))
              show mm_W d mmX11_pack 94 [some (.ref 0), some (.int (Int32.ofInt a1)), some (.int (Int32.ofInt a2)), some (.int (Int32.ofInt a3)), some (.ref u17), some (.int (Int32.ofInt v19))] [] (mz_mk g21 x) Q
              refine mm_g 1 (pc1 := 96) (lo1 := [some (.ref 0), some (.int (Int32.ofInt a1)), some (.int (Int32.ofInt a2)), some (.int (Int32.ofInt a3)), some (.ref u17), some (.int (Int32.ofInt v19))]) (st1 := [.int (Int32.ofInt v19)]) (H1 := mz_mk g21 x) rfl ?_
              exact mm_rt rfl rfl (hQ _ _ hIg21 (fun k j hk => ((hfg21 k j (fun h => hk (Or.inr (Or.inr (Or.inl (show (87 ≤ k ∧ k < 96) by have h9 : k = u17 := h; omega)))))).trans (hfg20 k j (fun h => hk (Or.elim h (fun h => (Or.inl h)) (fun h => (Or.inr (Or.inl h)))))))) (by omega) (by omega))
            · skip
              refine mm_g 1 (pc1 := 72) (lo1 := [some (.ref 0), some (.int (Int32.ofInt a1)), some (.int (Int32.ofInt a2)), some (.int (Int32.ofInt a3)), some (.ref u17), some (.int (Int32.ofInt v19))]) (st1 := [.ref 0]) (H1 := mz_mk g x) rfl ?_
              refine mz_fgR (v := 86) rfl fd_11_37 (by decide) (sc_0 _) (rf_0_5 _ _ _) ?_
              refine mm_g 1 (pc1 := 76) (lo1 := [some (.ref 0), some (.int (Int32.ofInt a1)), some (.int (Int32.ofInt a2)), some (.int (Int32.ofInt a3)), some (.ref u17), some (.int (Int32.ofInt v19))]) (st1 := [.int (Int32.ofInt 1), .ref 86]) (H1 := mz_mk g x) rfl ?_
              refine mz_cv rfl mt_11_131 (by decide) (sc_86 _) rfl (Nat.le_of_ble_eq_true rfl) (by omega) (c_X6_refuse (by omega) hx hI kp_story_86 (by decide) (by decide) (fun v22 g23 hIg23 hfg23 l_v22 u_v22 => ⟨_, rfl, ?_⟩))
              show mm_W d mmX11_pack 79 [some (.ref 0), some (.int (Int32.ofInt a1)), some (.int (Int32.ofInt a2)), some (.int (Int32.ofInt a3)), some (.ref u17), some (.int (Int32.ofInt v19))] [.int (Int32.ofInt v22)] (mz_mk g23 x) Q
              exact mm_rt rfl rfl (hQ _ _ hIg23 (fun k j hk => (hfg23 k j (fun h => hk (Or.inr (Or.inr (Or.inr h)))))) (by omega) (by omega))
          · exfalso; omega
theorem t_X11_then {d : Nat} (hd : 16 ≤ d) {x : mm_X} (hx : mk_x x) {g : mz_G} (hI : mz_inv g) {a1 : Int} (l_a1 : (-2147483648) ≤ a1) (u_a1 : a1 ≤ 2147483647) {a2 : Int} (l_a2 : (-2147483648) ≤ a2) (u_a2 : a2 ≤ 2147483647) {a3 : Int} (l_a3 : (-2147483648) ≤ a3) (u_a3 : a3 ≤ 2147483647) {Q : (Option Value ⊕ Nat) → mm_H → Prop} (hQ : ∀ (r : Int) (g1 : mz_G), mz_inv g1 → mz_fr (fw_X11_then x a1 a2 a3) g g1 → (-2147483648) ≤ r → r ≤ 2147483647 → Q (.inl (some (.int (Int32.ofInt r)))) (mz_mk g1 x)) (hX0 : Q (.inr 0) (mz_mk g (mz_tx x))) (hX1 : Q (.inr 1) (mz_mk g (mz_tx x))) : mm_C d 139 [.ref 0, .int (Int32.ofInt a1), .int (Int32.ofInt a2), .int (Int32.ofInt a3)] (mz_mk g x) Q := by
  have kx := kn_x hx
  refine ⟨mmX11_then, [some (.ref 0), some (.int (Int32.ofInt a1)), some (.int (Int32.ofInt a2)), some (.int (Int32.ofInt a3)), none], rfl, rfl, ?_⟩
  refine mm_g 2 (pc1 := 2) (lo1 := [some (.ref 0), some (.int (Int32.ofInt a1)), some (.int (Int32.ofInt a2)), some (.int (Int32.ofInt a3)), none]) (st1 := [.int (Int32.ofInt a1), .ref 0]) (H1 := mz_mk g x) rfl ?_
  refine mz_cv rfl mt_11_231 (by decide) (sc_0 _) rfl (Nat.le_of_ble_eq_true rfl) (by omega) (c_X11_isTrunk (by omega) hx hI l_a1 u_a1 (fun v1 l_v1 u_v1 => ⟨_, rfl, ?_⟩))
  show mm_W d mmX11_then 5 [some (.ref 0), some (.int (Int32.ofInt a1)), some (.int (Int32.ofInt a2)), some (.int (Int32.ofInt a3)), none] [.int (Int32.ofInt v1)] (mz_mk g x) Q
  refine mz_if_eq (tgt := 21) rfl rfl (mz_rg l_v1 u_v1) (fun c5_1 => ?_) (fun c5_1 => ?_)
  · skip
    refine mm_g 1 (pc1 := 22) (lo1 := [some (.ref 0), some (.int (Int32.ofInt a1)), some (.int (Int32.ofInt a2)), some (.int (Int32.ofInt a3)), none]) (st1 := [.int (Int32.ofInt 0)]) (H1 := mz_mk g x) rfl ?_
    refine mz_csx rfl mt_11_183 rfl (Nat.le_of_ble_eq_true rfl) (by omega) rfl nh_X11_mustBe (t_X11_mustBe (by omega) hx hI (by decide) (by decide) (fun hp2 => ?_) hX0)
    show mm_W d mmX11_then 25 [some (.ref 0), some (.int (Int32.ofInt a1)), some (.int (Int32.ofInt a2)), some (.int (Int32.ofInt a3)), none] [] (mz_mk g x) Q
    exfalso; omega
  · skip
    refine mm_g 1 (pc1 := 9) (lo1 := [some (.ref 0), some (.int (Int32.ofInt a1)), some (.int (Int32.ofInt a2)), some (.int (Int32.ofInt a3)), none]) (st1 := [.int (Int32.ofInt a3)]) (H1 := mz_mk g x) rfl ?_
    refine mz_if_lt (tgt := 21) rfl rfl (mz_rg l_a3 u_a3) (fun c9_2 => ?_) (fun c9_2 => ?_)
    · skip
      refine mm_g 1 (pc1 := 22) (lo1 := [some (.ref 0), some (.int (Int32.ofInt a1)), some (.int (Int32.ofInt a2)), some (.int (Int32.ofInt a3)), none]) (st1 := [.int (Int32.ofInt 0)]) (H1 := mz_mk g x) rfl ?_
      refine mz_csx rfl mt_11_183 rfl (Nat.le_of_ble_eq_true rfl) (by omega) rfl nh_X11_mustBe (t_X11_mustBe (by omega) hx hI (by decide) (by decide) (fun hp3 => ?_) hX0)
      show mm_W d mmX11_then 25 [some (.ref 0), some (.int (Int32.ofInt a1)), some (.int (Int32.ofInt a2)), some (.int (Int32.ofInt a3)), none] [] (mz_mk g x) Q
      exfalso; omega
    · skip
      refine mm_g 2 (pc1 := 14) (lo1 := [some (.ref 0), some (.int (Int32.ofInt a1)), some (.int (Int32.ofInt a2)), some (.int (Int32.ofInt a3)), none]) (st1 := [.int (Int32.ofInt 3), .int (Int32.ofInt a3)]) (H1 := mz_mk g x) rfl ?_
      refine mz_ic_gt (tgt := 21) rfl rfl (mz_rg l_a3 u_a3) ⟨by decide, by decide⟩ (fun c14_3 => ?_) (fun c14_3 => ?_)
      · skip
        refine mm_g 1 (pc1 := 22) (lo1 := [some (.ref 0), some (.int (Int32.ofInt a1)), some (.int (Int32.ofInt a2)), some (.int (Int32.ofInt a3)), none]) (st1 := [.int (Int32.ofInt 0)]) (H1 := mz_mk g x) rfl ?_
        refine mz_csx rfl mt_11_183 rfl (Nat.le_of_ble_eq_true rfl) (by omega) rfl nh_X11_mustBe (t_X11_mustBe (by omega) hx hI (by decide) (by decide) (fun hp4 => ?_) hX0)
        show mm_W d mmX11_then 25 [some (.ref 0), some (.int (Int32.ofInt a1)), some (.int (Int32.ofInt a2)), some (.int (Int32.ofInt a3)), none] [] (mz_mk g x) Q
        exfalso; omega
      · skip
        refine mm_g 1 (pc1 := 18) (lo1 := [some (.ref 0), some (.int (Int32.ofInt a1)), some (.int (Int32.ofInt a2)), some (.int (Int32.ofInt a3)), none]) (st1 := [.int (Int32.ofInt 1)]) (H1 := mz_mk g x) rfl ?_
        refine mz_gt (tgt := 22) rfl rfl ?_
        refine mz_csx rfl mt_11_183 rfl (Nat.le_of_ble_eq_true rfl) (by omega) rfl nh_X11_mustBe (t_X11_mustBe (by omega) hx hI (by decide) (by decide) (fun hp5 => ?_) hX0)
        show mm_W d mmX11_then 25 [some (.ref 0), some (.int (Int32.ofInt a1)), some (.int (Int32.ofInt a2)), some (.int (Int32.ofInt a3)), none] [] (mz_mk g x) Q
        refine mm_g 1 (pc1 := 26) (lo1 := [some (.ref 0), some (.int (Int32.ofInt a1)), some (.int (Int32.ofInt a2)), some (.int (Int32.ofInt a3)), none]) (st1 := [.int (Int32.ofInt a2)]) (H1 := mz_mk g x) rfl ?_
        refine mz_cs rfl mt_11_279 (by decide) rfl (Nat.le_of_ble_eq_true rfl) (by omega) (c_X11_isAhead (by omega) hx hI l_a2 u_a2 (fun v6 l_v6 u_v6 => ⟨_, rfl, ?_⟩))
        show mm_W d mmX11_then 29 [some (.ref 0), some (.int (Int32.ofInt a1)), some (.int (Int32.ofInt a2)), some (.int (Int32.ofInt a3)), none] [.int (Int32.ofInt v6)] (mz_mk g x) Q
        refine mz_csx rfl mt_11_106 rfl (Nat.le_of_ble_eq_true rfl) (by omega) rfl nh_X11_mustFit (t_X11_mustFit (by omega) hx hI l_v6 u_v6 (fun hp7 => ?_) (fun _ => hX1))
        show mm_W d mmX11_then 32 [some (.ref 0), some (.int (Int32.ofInt a1)), some (.int (Int32.ofInt a2)), some (.int (Int32.ofInt a3)), none] [] (mz_mk g x) Q
        refine mm_g 3 (pc1 := 35) (lo1 := [some (.ref 0), some (.int (Int32.ofInt a1)), some (.int (Int32.ofInt a2)), some (.int (Int32.ofInt a3)), none]) (st1 := [.ref 0, .int (Int32.ofInt a1), .ref 0]) (H1 := mz_mk g x) rfl ?_
        refine mz_fgR (v := 86) rfl fd_11_37 (by decide) (sc_0 _) (rf_0_5 _ _ _) ?_
        refine mz_fgR (v := 87) rfl fd_11_158 (by decide) (sc_86 _) (rf_86_0 _ _ _) ?_
        refine mm_g 1 (pc1 := 42) (lo1 := [some (.ref 0), some (.int (Int32.ofInt a1)), some (.int (Int32.ofInt a2)), some (.int (Int32.ofInt a3)), none]) (st1 := [.int (Int32.ofInt a1), .ref 87, .int (Int32.ofInt a1), .ref 0]) (H1 := mz_mk g x) rfl ?_
        refine mz_cv rfl mt_11_192 (by decide) (sc_87 _) rfl (Nat.le_of_ble_eq_true rfl) (by omega) (c_X9_get (by omega) hx hI kp_tks_87 l_a1 u_a1 (fun u8 k_u8 hp9 => ⟨_, rfl, ?_⟩))
        show mm_W d mmX11_then 45 [some (.ref 0), some (.int (Int32.ofInt a1)), some (.int (Int32.ofInt a2)), some (.int (Int32.ofInt a3)), none] [.ref u8, .int (Int32.ofInt a1), .ref 0] (mz_mk g x) Q
        refine mz_gI rfl fd_11_234 (by decide) (kc_trunk k_u8 _) hI (kb_trunk_2 k_u8) (fun v10 e_v10 l_v10 u_v10 => ?_)
        refine mm_g 1 (pc1 := 49) (lo1 := [some (.ref 0), some (.int (Int32.ofInt a1)), some (.int (Int32.ofInt a2)), some (.int (Int32.ofInt a3)), none]) (st1 := [.int (Int32.ofInt a2), .int (Int32.ofInt v10), .int (Int32.ofInt a1), .ref 0]) (H1 := mz_mk g x) rfl ?_
        refine mz_cv rfl mt_11_282 (by decide) (sc_0 _) rfl (Nat.le_of_ble_eq_true rfl) (by omega) (c_X11_growProbe (by omega) hx hI l_a1 u_a1 l_v10 u_v10 l_a2 u_a2 (fun g11 hIg11 hfg11 => ⟨_, rfl, ?_⟩))
        show mm_W d mmX11_then 52 [some (.ref 0), some (.int (Int32.ofInt a1)), some (.int (Int32.ofInt a2)), some (.int (Int32.ofInt a3)), none] [] (mz_mk g11 x) Q
        refine mm_g 1 (pc1 := 53) (lo1 := [some (.ref 0), some (.int (Int32.ofInt a1)), some (.int (Int32.ofInt a2)), some (.int (Int32.ofInt a3)), none]) (st1 := [.int (Int32.ofInt a3)]) (H1 := mz_mk g11 x) rfl ?_
        refine mz_if_ne (tgt := 64) rfl rfl (mz_rg l_a3 u_a3) (fun c53_11 => ?_) (fun c53_11 => ?_)
        · skip
          refine mm_g 2 (pc1 := 66) (lo1 := [some (.ref 0), some (.int (Int32.ofInt a1)), some (.int (Int32.ofInt a2)), some (.int (Int32.ofInt a3)), none]) (st1 := [.int (Int32.ofInt 1), .int (Int32.ofInt a3)]) (H1 := mz_mk g11 x) rfl ?_
          refine mz_ic_ne (tgt := 81) rfl rfl (mz_rg l_a3 u_a3) ⟨by decide, by decide⟩ (fun c66_11 => ?_) (fun c66_11 => ?_)
          · skip
            refine mm_g 1 (pc1 := 82) (lo1 := [some (.ref 0), some (.int (Int32.ofInt a1)), some (.int (Int32.ofInt a2)), some (.int (Int32.ofInt a3)), none]) (st1 := [.ref 0]) (H1 := mz_mk g11 x) rfl ?_
            refine mz_fgR (v := x.1) rfl fd_11_16 (by decide) (sc_0 _) rfl ?_
            refine mm_g 1 (pc1 := 86) (lo1 := [some (.ref 0), some (.int (Int32.ofInt a1)), some (.int (Int32.ofInt a2)), some (.int (Int32.ofInt a3)), none]) (st1 := [.ref 0, .ref x.1]) (H1 := mz_mk g11 x) rfl ?_
            refine mz_fgR (v := 122) rfl fd_11_65 (by decide) (sc_0 _) (rf_0_10 _ _ _) ?_
            refine mm_g 1 (pc1 := 90) (lo1 := [some (.ref 0), some (.int (Int32.ofInt a1)), some (.int (Int32.ofInt a2)), some (.int (Int32.ofInt a3)), none]) (st1 := [.ref 0, .ref 122, .ref x.1]) (H1 := mz_mk g11 x) rfl ?_
            refine mz_fgR (v := 133) rfl fd_11_84 (by decide) (sc_0 _) (rf_0_13 _ _ _) ?_
            refine mz_cv rfl mt_11_286 (by decide) (kc_load (kx_1 hx) _) rfl (Nat.le_of_ble_eq_true rfl) (by omega) (c_X1_blendInto (by omega) hx hIg11 (kx_1 hx) kp_trunk_122 kp_let_133 (fun g12 hIg12 hfg12 => ⟨_, rfl, ?_⟩))
            show mm_W d mmX11_then 96 [some (.ref 0), some (.int (Int32.ofInt a1)), some (.int (Int32.ofInt a2)), some (.int (Int32.ofInt a3)), none] [] (mz_mk g12 x) Q
            refine mm_g 1 (pc1 := 97) (lo1 := [some (.ref 0), some (.int (Int32.ofInt a1)), some (.int (Int32.ofInt a2)), some (.int (Int32.ofInt a3)), none]) (st1 := [.ref 0]) (H1 := mz_mk g12 x) rfl ?_
            refine mz_cv rfl mt_11_290 (by decide) (sc_0 _) rfl (Nat.le_of_ble_eq_true rfl) (by omega) (c_X11_nearestToBlend (by omega) hx hIg12 (fun v13 g14 hIg14 hfg14 l_v13 u_v13 => ⟨_, rfl, ?_⟩))
            show mm_W d mmX11_then 100 [some (.ref 0), some (.int (Int32.ofInt a1)), some (.int (Int32.ofInt a2)), some (.int (Int32.ofInt a3)), none] [.int (Int32.ofInt v13)] (mz_mk g14 x) Q
            refine mm_g 3 (pc1 := 104) (lo1 := [some (.ref 0), some (.int (Int32.ofInt a1)), some (.int (Int32.ofInt a2)), some (.int (Int32.ofInt a3)), some (.int (Int32.ofInt v13))]) (st1 := [.int (Int32.ofInt 2), .int (Int32.ofInt a3)]) (H1 := mz_mk g14 x) rfl ?_
            refine mz_ic_ne (tgt := 112) rfl rfl (mz_rg l_a3 u_a3) ⟨by decide, by decide⟩ (fun c104_14 => ?_) (fun c104_14 => ?_)
            · skip
              refine mm_g 1 (pc1 := 113) (lo1 := [some (.ref 0), some (.int (Int32.ofInt a1)), some (.int (Int32.ofInt a2)), some (.int (Int32.ofInt a3)), some (.int (Int32.ofInt v13))]) (st1 := [.ref 0]) (H1 := mz_mk g14 x) rfl ?_
              refine mz_fgR (v := 116) rfl fd_11_51 (by decide) (sc_0 _) (rf_0_8 _ _ _) ?_
              refine mm_g 1 (pc1 := 117) (lo1 := [some (.ref 0), some (.int (Int32.ofInt a1)), some (.int (Int32.ofInt a2)), some (.int (Int32.ofInt a3)), some (.int (Int32.ofInt v13))]) (st1 := [.ref 0, .ref 116]) (H1 := mz_mk g14 x) rfl ?_
              refine mz_fgR (v := 133) rfl fd_11_84 (by decide) (sc_0 _) (rf_0_13 _ _ _) ?_
              refine mm_g 1 (pc1 := 121) (lo1 := [some (.ref 0), some (.int (Int32.ofInt a1)), some (.int (Int32.ofInt a2)), some (.int (Int32.ofInt a3)), some (.int (Int32.ofInt v13))]) (st1 := [.ref 0, .ref 133, .ref 116]) (H1 := mz_mk g14 x) rfl ?_
              refine mz_fgR (v := x.1) rfl fd_11_16 (by decide) (sc_0 _) rfl ?_
              refine mz_fgR (v := (x.1 + 1)) rfl fd_11_135 (by decide) (kc_load (kx_1 hx) _) (kr_load_0 (kx_1 hx) _ _ _) ?_
              refine mm_g 1 (pc1 := 129) (lo1 := [some (.ref 0), some (.int (Int32.ofInt a1)), some (.int (Int32.ofInt a2)), some (.int (Int32.ofInt a3)), some (.int (Int32.ofInt v13))]) (st1 := [.int (Int32.ofInt v13), .ref (x.1 + 1), .ref 133, .ref 116]) (H1 := mz_mk g14 x) rfl ?_
              refine mz_cv rfl mt_11_203 (by decide) (kc_words (ks_load_0 (kx_1 hx)) _) rfl (Nat.le_of_ble_eq_true rfl) (by omega) (c_X10_of (by omega) hx hIg14 (ks_load_0 (kx_1 hx)) (by omega) (by omega) (fun u15 k_u15 hp16 => ⟨_, rfl, ?_⟩))
              show mm_W d mmX11_then 132 [some (.ref 0), some (.int (Int32.ofInt a1)), some (.int (Int32.ofInt a2)), some (.int (Int32.ofInt a3)), some (.int (Int32.ofInt v13))] [.ref u15, .ref 133, .ref 116] (mz_mk g14 x) Q
              refine mz_cv rfl mt_11_293 (by decide) (sc_116 _) rfl (Nat.le_of_ble_eq_true rfl) (by omega) (c_X2_changes (by omega) hx hIg14 kp_let_133 k_u15 (fun v17 g18 hIg18 hfg18 l_v17 u_v17 => ⟨_, rfl, ?_⟩))
              show mm_W d mmX11_then 135 [some (.ref 0), some (.int (Int32.ofInt a1)), some (.int (Int32.ofInt a2)), some (.int (Int32.ofInt a3)), some (.int (Int32.ofInt v13))] [.int (Int32.ofInt v17)] (mz_mk g18 x) Q
              exact mm_rt rfl rfl (hQ _ _ hIg18 (fun k j hk => ((hfg18 k j (fun h => hk (Or.inr (Or.inr (Or.inr (Or.inr (Or.inr h))))))).trans ((hfg14 k j (fun h => hk (Or.inr (Or.inr (Or.inr (Or.inr (Or.inr h))))))).trans ((hfg12 k j (fun h => hk (Or.elim h (fun h => (Or.inr (Or.inr (Or.inr (Or.inl h))))) (fun h => (Or.inr (Or.inr (Or.inr (Or.inr (Or.inl h))))))))).trans (hfg11 k j (fun h => hk (Or.elim h (fun h => (Or.inl h)) (fun h => (Or.elim h (fun h => (Or.inr (Or.inl h))) (fun h => (Or.inr (Or.inr (Or.inl h))))))))))))) (by omega) (by omega))
            · skip
              refine mm_g 1 (pc1 := 109) (lo1 := [some (.ref 0), some (.int (Int32.ofInt a1)), some (.int (Int32.ofInt a2)), some (.int (Int32.ofInt a3)), some (.int (Int32.ofInt v13))]) (st1 := [.int (Int32.ofInt v13)]) (H1 := mz_mk g14 x) rfl ?_
              refine mz_gt (tgt := 135) rfl rfl ?_
              exact mm_rt rfl rfl (hQ _ _ hIg14 (fun k j hk => ((hfg14 k j (fun h => hk (Or.inr (Or.inr (Or.inr (Or.inr (Or.inr h))))))).trans ((hfg12 k j (fun h => hk (Or.elim h (fun h => (Or.inr (Or.inr (Or.inr (Or.inl h))))) (fun h => (Or.inr (Or.inr (Or.inr (Or.inr (Or.inl h))))))))).trans (hfg11 k j (fun h => hk (Or.elim h (fun h => (Or.inl h)) (fun h => (Or.elim h (fun h => (Or.inr (Or.inl h))) (fun h => (Or.inr (Or.inr (Or.inl h)))))))))))) (by omega) (by omega))
          · skip
            refine mm_g 1 (pc1 := 70) (lo1 := [some (.ref 0), some (.int (Int32.ofInt a1)), some (.int (Int32.ofInt a2)), some (.int (Int32.ofInt a3)), none]) (st1 := [.ref 0]) (H1 := mz_mk g11 x) rfl ?_
            refine mz_fgR (v := x.1) rfl fd_11_16 (by decide) (sc_0 _) rfl ?_
            refine mm_g 1 (pc1 := 74) (lo1 := [some (.ref 0), some (.int (Int32.ofInt a1)), some (.int (Int32.ofInt a2)), some (.int (Int32.ofInt a3)), none]) (st1 := [.ref 0, .ref x.1]) (H1 := mz_mk g11 x) rfl ?_
            refine mz_fgR (v := 122) rfl fd_11_65 (by decide) (sc_0 _) (rf_0_10 _ _ _) ?_
            refine mz_cv rfl mt_11_244 (by decide) (kc_load (kx_1 hx) _) rfl (Nat.le_of_ble_eq_true rfl) (by omega) (c_X1_blendSize (by omega) hx hIg11 (kx_1 hx) kp_trunk_122 (fun v19 l_v19 u_v19 => ⟨_, rfl, ?_⟩))
            show mm_W d mmX11_then 80 [some (.ref 0), some (.int (Int32.ofInt a1)), some (.int (Int32.ofInt a2)), some (.int (Int32.ofInt a3)), none] [.int (Int32.ofInt v19)] (mz_mk g11 x) Q
            exact mm_rt rfl rfl (hQ _ _ hIg11 (fun k j hk => (hfg11 k j (fun h => hk (Or.elim h (fun h => (Or.inl h)) (fun h => (Or.elim h (fun h => (Or.inr (Or.inl h))) (fun h => (Or.inr (Or.inr (Or.inl h)))))))))) (by omega) (by omega))
        · skip
          refine mm_g 1 (pc1 := 57) (lo1 := [some (.ref 0), some (.int (Int32.ofInt a1)), some (.int (Int32.ofInt a2)), some (.int (Int32.ofInt a3)), none]) (st1 := [.ref 0]) (H1 := mz_mk g11 x) rfl ?_
          refine mz_fgR (v := 122) rfl fd_11_65 (by decide) (sc_0 _) (rf_0_10 _ _ _) ?_
          refine mz_gI rfl fd_11_237 (by decide) (sc_122 _) hIg11 bd_122_3 (fun v20 e_v20 l_v20 u_v20 => ?_)
          exact mm_rt rfl rfl (hQ _ _ hIg11 (fun k j hk => (hfg11 k j (fun h => hk (Or.elim h (fun h => (Or.inl h)) (fun h => (Or.elim h (fun h => (Or.inr (Or.inl h))) (fun h => (Or.inr (Or.inr (Or.inl h)))))))))) (by omega) (by omega))
