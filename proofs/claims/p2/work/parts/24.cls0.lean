/-! CONTRACTS OF THE CLASS, by program (wip/p2/tools/gen23.py) -/
def fl_X7_takeBytes_3 (x : mm_X) (a1 : Int) : Nat → Nat → Prop := fun k j => k = 83 ∨ (k = 82 ∧ j = 1)
def fw_X7_takeBytes (x : mm_X) (a1 : Int) : Nat → Nat → Prop := fun k j => k = 83 ∨ (k = 82 ∧ j = 1)
theorem c_X7_takeBytes {d : Nat} (hd : 1 ≤ d) {x : mm_X} (hx : mk_x x) {g : mz_G} (hI : mz_inv g) {a1 : Int} (l_a1 : (-2147483648) ≤ a1) (u_a1 : a1 ≤ 2147483647) {Q : (Option Value ⊕ Nat) → mm_H → Prop} (hQ : ∀ (g1 : mz_G), mz_inv g1 → mz_fr (fw_X7_takeBytes x a1) g g1 → Q (.inl none) (mz_mk g1 x)) : mm_C d 79 [.ref 82, .int (Int32.ofInt a1)] (mz_mk g x) Q := by
  refine ⟨mmX7_takeBytes, [some (.ref 82), some (.int (Int32.ofInt a1)), none], rfl, rfl, ?_⟩
  refine mz_bip rfl bip_24 ?_
  refine mm_g 1 (pc1 := 3) (lo1 := [some (.ref 82), some (.int (Int32.ofInt a1)), some (.int (Int32.ofInt 24))]) (st1 := []) (H1 := mz_mk g x) rfl ?_
  have L5 : ∀ n4 : Nat, ∀ (v1 : Int) (g2 : mz_G), (v1 - (-8)).toNat = n4 → (-8) ≤ v1 → v1 ≤ 24 → mz_inv g2 → mz_fr (fl_X7_takeBytes_3 x a1) g g2 → mm_W d mmX7_takeBytes 3 [some (.ref 82), some (.int (Int32.ofInt a1)), some (.int (Int32.ofInt v1))] [] (mz_mk g2 x) Q := by
    intro n4
    induction n4 using Nat.strongRecOn with
    | ind n4 ih3 =>
    intro v1 g2 hmn4 l_v1 u_v1 hIg2 hfg2
    refine mm_g 1 (pc1 := 4) (lo1 := [some (.ref 82), some (.int (Int32.ofInt a1)), some (.int (Int32.ofInt v1))]) (st1 := [.int (Int32.ofInt v1)]) (H1 := mz_mk g2 x) rfl ?_
    refine mz_if_lt (tgt := 55) rfl rfl (mz_rg l_v1 u_v1) (fun c4_5 => ?_) (fun c4_5 => ?_)
    · skip
      exact mm_rt rfl rfl (hQ _ hIg2 (fun k j hk => (hfg2 k j (fun h => hk (Or.elim h (fun h => (Or.inl h)) (fun h => (Or.inr h)))))))
    · skip
      refine mm_g 1 (pc1 := 8) (lo1 := [some (.ref 82), some (.int (Int32.ofInt a1)), some (.int (Int32.ofInt v1))]) (st1 := [.ref 82]) (H1 := mz_mk g2 x) rfl ?_
      refine mz_gI rfl fd_7_15 (by decide) (sc_82 _) hIg2 bd_82_1 (fun v6 e_v6 l_v6 u_v6 => ?_)
      refine mz_if_lt (tgt := 49) rfl rfl (mz_rg l_v6 u_v6) (fun c11_6 => ?_) (fun c11_6 => ?_)
      · exfalso; omega
      · skip
        refine mm_g 1 (pc1 := 15) (lo1 := [some (.ref 82), some (.int (Int32.ofInt a1)), some (.int (Int32.ofInt v1))]) (st1 := [.ref 82]) (H1 := mz_mk g2 x) rfl ?_
        refine mz_fgI (v := v6) rfl fd_7_15 (by decide) (sc_82 _) e_v6 ?_
        refine mm_g 1 (pc1 := 19) (lo1 := [some (.ref 82), some (.int (Int32.ofInt a1)), some (.int (Int32.ofInt v1))]) (st1 := [.ref 82, .int (Int32.ofInt v6)]) (H1 := mz_mk g2 x) rfl ?_
        refine mz_fgR (v := 83) rfl fd_7_9 (by decide) (sc_82 _) (rf_82_0 _ _ _) ?_
        refine mz_al rfl (sh_83 _) (by decide) ?_
        refine mz_ic_ge (tgt := 49) rfl rfl (mz_rg l_v6 u_v6) ⟨by omega, by omega⟩ (fun c23_6 => ?_) (fun c23_6 => ?_)
        · skip
          refine mz_iincR (v := v1) (lo2 := [some (.ref 82), some (.int (Int32.ofInt a1)), some (.int (Int32.ofInt (v1 + (-8))))]) rfl rfl rfl (Nat.le_of_ble_eq_true rfl) rfl ?_
          refine mz_gt (tgt := 3) rfl rfl ?_
          exact ih3 (((v1 + (-8)) - (-8)).toNat) (by omega) (v1 + (-8)) g2 rfl (by omega) (by omega) hIg2 (fun k j hk => (hfg2 k j (fun h => hk (Or.elim h (fun h => (Or.inl h)) (fun h => (Or.inr h))))))
        · skip
          refine mm_g 1 (pc1 := 27) (lo1 := [some (.ref 82), some (.int (Int32.ofInt a1)), some (.int (Int32.ofInt v1))]) (st1 := [.ref 82]) (H1 := mz_mk g2 x) rfl ?_
          refine mz_fgR (v := 83) rfl fd_7_9 (by decide) (sc_82 _) (rf_82_0 _ _ _) ?_
          refine mm_g 1 (pc1 := 31) (lo1 := [some (.ref 82), some (.int (Int32.ofInt a1)), some (.int (Int32.ofInt v1))]) (st1 := [.ref 82, .ref 83]) (H1 := mz_mk g2 x) rfl ?_
          refine mz_fgI (v := v6) rfl fd_7_15 (by decide) (sc_82 _) e_v6 ?_
          refine mm_g 2 (pc1 := 36) (lo1 := [some (.ref 82), some (.int (Int32.ofInt a1)), some (.int (Int32.ofInt v1))]) (st1 := [.int (Int32.ofInt v1), .int (Int32.ofInt a1), .int (Int32.ofInt v6), .ref 83]) (H1 := mz_mk g2 x) rfl ?_
          refine mz_ishr rfl (fun v7 e_v7 hwv7 => ?_)
          have l_v7 := hwv7.1
          have u_v7 := hwv7.2
          refine mz_i2b rfl (fun v8 _ hwv8 => ?_)
          have l_v8 := hwv8.1
          have u_v8 := hwv8.2
          refine mz_sB rfl (sh_83 _) (by omega) (by omega) (by decide) hIg2 (ba_83 _) (by omega) (by omega) (fun g9 hIg9 hug9 => ?_)
          refine mm_g 2 (pc1 := 41) (lo1 := [some (.ref 82), some (.int (Int32.ofInt a1)), some (.int (Int32.ofInt v1))]) (st1 := [.ref 82, .ref 82]) (H1 := mz_mk g9 x) rfl ?_
          refine mz_fgI (v := v6) rfl fd_7_15 (by decide) (sc_82 _) (show g9 82 1 = v6 from ((hug9.2 82 1 (fun h => absurd h.1 (by decide))).trans e_v6)) ?_
          refine mm_g 1 (pc1 := 45) (lo1 := [some (.ref 82), some (.int (Int32.ofInt a1)), some (.int (Int32.ofInt v1))]) (st1 := [.int (Int32.ofInt 1), .int (Int32.ofInt v6), .ref 82]) (H1 := mz_mk g9 x) rfl ?_
          refine mz_iadd rfl ?_
          refine mz_pI rfl fd_7_15 (sc_82 _) hIg9 bd_82_1 (by omega) (by omega) (fun g10 hIg10 hug10 => ?_)
          refine mz_iincR (v := v1) (lo2 := [some (.ref 82), some (.int (Int32.ofInt a1)), some (.int (Int32.ofInt (v1 + (-8))))]) rfl rfl rfl (Nat.le_of_ble_eq_true rfl) rfl ?_
          refine mz_gt (tgt := 3) rfl rfl ?_
          exact ih3 (((v1 + (-8)) - (-8)).toNat) (by omega) (v1 + (-8)) g10 rfl (by omega) (by omega) hIg10 (fun k j hk => ((hug10.2 k j (fun h => hk (Or.inr h))).trans ((hug9.2 k j (fun h => hk (Or.inl h.1))).trans (hfg2 k j (fun h => hk (Or.elim h (fun h => (Or.inl h)) (fun h => (Or.inr h))))))))
  exact L5 _ 24 g rfl (by decide) (by decide) hI (fun _ _ _ => rfl)
def fw_X11_feed (x : mm_X) (a1 : Int) (a2 : Int) (a3 : Int) (a4 : Int) (a5 : Int) : Nat → Nat → Prop := fun k j => k = 83 ∨ (k = 82 ∧ j = 1)
theorem c_X11_feed {d : Nat} (hd : 2 ≤ d) {x : mm_X} (hx : mk_x x) {g : mz_G} (hI : mz_inv g) {a1 : Int} (l_a1 : (-2147483648) ≤ a1) (u_a1 : a1 ≤ 2147483647) {a2 : Int} (l_a2 : (-2147483648) ≤ a2) (u_a2 : a2 ≤ 2147483647) {a3 : Int} (l_a3 : (-2147483648) ≤ a3) (u_a3 : a3 ≤ 2147483647) {a4 : Int} (l_a4 : (-2147483648) ≤ a4) (u_a4 : a4 ≤ 2147483647) {a5 : Int} (l_a5 : (-2147483648) ≤ a5) (u_a5 : a5 ≤ 2147483647) {Q : (Option Value ⊕ Nat) → mm_H → Prop} (hQ : ∀ (r : Int) (g1 : mz_G), mz_inv g1 → mz_fr (fw_X11_feed x a1 a2 a3 a4 a5) g g1 → (-1) ≤ r → r ≤ 700 → Q (.inl (some (.int (Int32.ofInt r)))) (mz_mk g1 x)) : mm_C d 123 [.ref 0, .int (Int32.ofInt a1), .int (Int32.ofInt a2), .int (Int32.ofInt a3), .int (Int32.ofInt a4), .int (Int32.ofInt a5)] (mz_mk g x) Q := by
  have kx := kn_x hx
  refine ⟨mmX11_feed, [some (.ref 0), some (.int (Int32.ofInt a1)), some (.int (Int32.ofInt a2)), some (.int (Int32.ofInt a3)), some (.int (Int32.ofInt a4)), some (.int (Int32.ofInt a5))], rfl, rfl, ?_⟩
  refine mm_g 1 (pc1 := 1) (lo1 := [some (.ref 0), some (.int (Int32.ofInt a1)), some (.int (Int32.ofInt a2)), some (.int (Int32.ofInt a3)), some (.int (Int32.ofInt a4)), some (.int (Int32.ofInt a5))]) (st1 := [.ref 0]) (H1 := mz_mk g x) rfl ?_
  refine mz_fgR (v := 81) rfl fd_11_26 (by decide) (sc_0 _) (rf_0_3 _ _ _) ?_
  refine mz_fgR (v := 82) rfl fd_11_94 (by decide) (sc_81 _) (rf_81_0 _ _ _) ?_
  refine mz_gI rfl fd_11_98 (by decide) (sc_82 _) hI bd_82_1 (fun v1 e_v1 l_v1 u_v1 => ?_)
  refine mz_bip rfl bip_20 ?_
  refine mz_iadd rfl ?_
  refine mz_sip rfl sip_700 ?_
  refine mz_ic_le (tgt := 21) rfl rfl ⟨by omega, by omega⟩ ⟨by decide, by decide⟩ (fun c16_1 => ?_) (fun c16_1 => ?_)
  · skip
    refine mm_g 1 (pc1 := 22) (lo1 := [some (.ref 0), some (.int (Int32.ofInt a1)), some (.int (Int32.ofInt a2)), some (.int (Int32.ofInt a3)), some (.int (Int32.ofInt a4)), some (.int (Int32.ofInt a5))]) (st1 := [.ref 0]) (H1 := mz_mk g x) rfl ?_
    refine mz_fgR (v := 81) rfl fd_11_26 (by decide) (sc_0 _) (rf_0_3 _ _ _) ?_
    refine mz_fgR (v := 82) rfl fd_11_94 (by decide) (sc_81 _) (rf_81_0 _ _ _) ?_
    refine mm_g 1 (pc1 := 29) (lo1 := [some (.ref 0), some (.int (Int32.ofInt a1)), some (.int (Int32.ofInt a2)), some (.int (Int32.ofInt a3)), some (.int (Int32.ofInt a4)), some (.int (Int32.ofInt a5))]) (st1 := [.int (Int32.ofInt a1), .ref 82]) (H1 := mz_mk g x) rfl ?_
    refine mz_cv rfl mt_11_103 (by decide) (sc_82 _) rfl (Nat.le_of_ble_eq_true rfl) (by omega) (c_X7_takeBytes (by omega) hx hI l_a1 u_a1 (fun g2 hIg2 hfg2 => ⟨_, rfl, ?_⟩))
    show mm_W d mmX11_feed 32 [some (.ref 0), some (.int (Int32.ofInt a1)), some (.int (Int32.ofInt a2)), some (.int (Int32.ofInt a3)), some (.int (Int32.ofInt a4)), some (.int (Int32.ofInt a5))] [] (mz_mk g2 x) Q
    refine mm_g 1 (pc1 := 33) (lo1 := [some (.ref 0), some (.int (Int32.ofInt a1)), some (.int (Int32.ofInt a2)), some (.int (Int32.ofInt a3)), some (.int (Int32.ofInt a4)), some (.int (Int32.ofInt a5))]) (st1 := [.ref 0]) (H1 := mz_mk g2 x) rfl ?_
    refine mz_fgR (v := 81) rfl fd_11_26 (by decide) (sc_0 _) (rf_0_3 _ _ _) ?_
    refine mz_fgR (v := 82) rfl fd_11_94 (by decide) (sc_81 _) (rf_81_0 _ _ _) ?_
    refine mm_g 1 (pc1 := 40) (lo1 := [some (.ref 0), some (.int (Int32.ofInt a1)), some (.int (Int32.ofInt a2)), some (.int (Int32.ofInt a3)), some (.int (Int32.ofInt a4)), some (.int (Int32.ofInt a5))]) (st1 := [.int (Int32.ofInt a2), .ref 82]) (H1 := mz_mk g2 x) rfl ?_
    refine mz_cv rfl mt_11_103 (by decide) (sc_82 _) rfl (Nat.le_of_ble_eq_true rfl) (by omega) (c_X7_takeBytes (by omega) hx hIg2 l_a2 u_a2 (fun g3 hIg3 hfg3 => ⟨_, rfl, ?_⟩))
    show mm_W d mmX11_feed 43 [some (.ref 0), some (.int (Int32.ofInt a1)), some (.int (Int32.ofInt a2)), some (.int (Int32.ofInt a3)), some (.int (Int32.ofInt a4)), some (.int (Int32.ofInt a5))] [] (mz_mk g3 x) Q
    refine mm_g 1 (pc1 := 44) (lo1 := [some (.ref 0), some (.int (Int32.ofInt a1)), some (.int (Int32.ofInt a2)), some (.int (Int32.ofInt a3)), some (.int (Int32.ofInt a4)), some (.int (Int32.ofInt a5))]) (st1 := [.ref 0]) (H1 := mz_mk g3 x) rfl ?_
    refine mz_fgR (v := 81) rfl fd_11_26 (by decide) (sc_0 _) (rf_0_3 _ _ _) ?_
    refine mz_fgR (v := 82) rfl fd_11_94 (by decide) (sc_81 _) (rf_81_0 _ _ _) ?_
    refine mm_g 1 (pc1 := 51) (lo1 := [some (.ref 0), some (.int (Int32.ofInt a1)), some (.int (Int32.ofInt a2)), some (.int (Int32.ofInt a3)), some (.int (Int32.ofInt a4)), some (.int (Int32.ofInt a5))]) (st1 := [.int (Int32.ofInt a3), .ref 82]) (H1 := mz_mk g3 x) rfl ?_
    refine mz_cv rfl mt_11_103 (by decide) (sc_82 _) rfl (Nat.le_of_ble_eq_true rfl) (by omega) (c_X7_takeBytes (by omega) hx hIg3 l_a3 u_a3 (fun g4 hIg4 hfg4 => ⟨_, rfl, ?_⟩))
    show mm_W d mmX11_feed 54 [some (.ref 0), some (.int (Int32.ofInt a1)), some (.int (Int32.ofInt a2)), some (.int (Int32.ofInt a3)), some (.int (Int32.ofInt a4)), some (.int (Int32.ofInt a5))] [] (mz_mk g4 x) Q
    refine mm_g 1 (pc1 := 55) (lo1 := [some (.ref 0), some (.int (Int32.ofInt a1)), some (.int (Int32.ofInt a2)), some (.int (Int32.ofInt a3)), some (.int (Int32.ofInt a4)), some (.int (Int32.ofInt a5))]) (st1 := [.ref 0]) (H1 := mz_mk g4 x) rfl ?_
    refine mz_fgR (v := 81) rfl fd_11_26 (by decide) (sc_0 _) (rf_0_3 _ _ _) ?_
    refine mz_fgR (v := 82) rfl fd_11_94 (by decide) (sc_81 _) (rf_81_0 _ _ _) ?_
    refine mm_g 1 (pc1 := 63) (lo1 := [some (.ref 0), some (.int (Int32.ofInt a1)), some (.int (Int32.ofInt a2)), some (.int (Int32.ofInt a3)), some (.int (Int32.ofInt a4)), some (.int (Int32.ofInt a5))]) (st1 := [.int (Int32.ofInt a4), .ref 82]) (H1 := mz_mk g4 x) rfl ?_
    refine mz_cv rfl mt_11_103 (by decide) (sc_82 _) rfl (Nat.le_of_ble_eq_true rfl) (by omega) (c_X7_takeBytes (by omega) hx hIg4 l_a4 u_a4 (fun g5 hIg5 hfg5 => ⟨_, rfl, ?_⟩))
    show mm_W d mmX11_feed 66 [some (.ref 0), some (.int (Int32.ofInt a1)), some (.int (Int32.ofInt a2)), some (.int (Int32.ofInt a3)), some (.int (Int32.ofInt a4)), some (.int (Int32.ofInt a5))] [] (mz_mk g5 x) Q
    refine mm_g 1 (pc1 := 67) (lo1 := [some (.ref 0), some (.int (Int32.ofInt a1)), some (.int (Int32.ofInt a2)), some (.int (Int32.ofInt a3)), some (.int (Int32.ofInt a4)), some (.int (Int32.ofInt a5))]) (st1 := [.ref 0]) (H1 := mz_mk g5 x) rfl ?_
    refine mz_fgR (v := 81) rfl fd_11_26 (by decide) (sc_0 _) (rf_0_3 _ _ _) ?_
    refine mz_fgR (v := 82) rfl fd_11_94 (by decide) (sc_81 _) (rf_81_0 _ _ _) ?_
    refine mm_g 1 (pc1 := 75) (lo1 := [some (.ref 0), some (.int (Int32.ofInt a1)), some (.int (Int32.ofInt a2)), some (.int (Int32.ofInt a3)), some (.int (Int32.ofInt a4)), some (.int (Int32.ofInt a5))]) (st1 := [.int (Int32.ofInt a5), .ref 82]) (H1 := mz_mk g5 x) rfl ?_
    refine mz_cv rfl mt_11_103 (by decide) (sc_82 _) rfl (Nat.le_of_ble_eq_true rfl) (by omega) (c_X7_takeBytes (by omega) hx hIg5 l_a5 u_a5 (fun g6 hIg6 hfg6 => ⟨_, rfl, ?_⟩))
    show mm_W d mmX11_feed 78 [some (.ref 0), some (.int (Int32.ofInt a1)), some (.int (Int32.ofInt a2)), some (.int (Int32.ofInt a3)), some (.int (Int32.ofInt a4)), some (.int (Int32.ofInt a5))] [] (mz_mk g6 x) Q
    refine mm_g 1 (pc1 := 79) (lo1 := [some (.ref 0), some (.int (Int32.ofInt a1)), some (.int (Int32.ofInt a2)), some (.int (Int32.ofInt a3)), some (.int (Int32.ofInt a4)), some (.int (Int32.ofInt a5))]) (st1 := [.ref 0]) (H1 := mz_mk g6 x) rfl ?_
    refine mz_fgR (v := 81) rfl fd_11_26 (by decide) (sc_0 _) (rf_0_3 _ _ _) ?_
    refine mz_fgR (v := 82) rfl fd_11_94 (by decide) (sc_81 _) (rf_81_0 _ _ _) ?_
    refine mz_gI rfl fd_11_98 (by decide) (sc_82 _) hIg6 bd_82_1 (fun v7 e_v7 l_v7 u_v7 => ?_)
    exact mm_rt rfl rfl (hQ _ _ hIg6 (fun k j hk => ((hfg6 k j (fun h => hk (Or.elim h (fun h => (Or.inl h)) (fun h => (Or.inr h))))).trans ((hfg5 k j (fun h => hk (Or.elim h (fun h => (Or.inl h)) (fun h => (Or.inr h))))).trans ((hfg4 k j (fun h => hk (Or.elim h (fun h => (Or.inl h)) (fun h => (Or.inr h))))).trans ((hfg3 k j (fun h => hk (Or.elim h (fun h => (Or.inl h)) (fun h => (Or.inr h))))).trans (hfg2 k j (fun h => hk (Or.elim h (fun h => (Or.inl h)) (fun h => (Or.inr h)))))))))) (by omega) (by omega))
  · skip
    refine mm_g 1 (pc1 := 20) (lo1 := [some (.ref 0), some (.int (Int32.ofInt a1)), some (.int (Int32.ofInt a2)), some (.int (Int32.ofInt a3)), some (.int (Int32.ofInt a4)), some (.int (Int32.ofInt a5))]) (st1 := [.int (Int32.ofInt (-1))]) (H1 := mz_mk g x) rfl ?_
    exact mm_rt rfl rfl (hQ _ _ hI (fun _ _ _ => rfl) (by decide) (by decide))
theorem c_X11_mustFit {d : Nat} (hd : 12 ≤ d) {x : mm_X} (hx : mk_x x) {g : mz_G} (hI : mz_inv g) {a1 : Int} (l_a1 : 0 ≤ a1) (u_a1 : a1 ≤ 1) {Q : (Option Value ⊕ Nat) → mm_H → Prop} (hQ : (a1 = 1) → Q (.inl none) (mz_mk g x)) (hX : ∀ E, Q (.inr E) (mz_mk g (mz_tx x))) : mm_C d 175 [.int (Int32.ofInt a1)] (mz_mk g x) Q := by
  have kx := kn_x hx
  refine ⟨mmX11_mustFit, [some (.int (Int32.ofInt a1))], rfl, rfl, ?_⟩
  refine mm_g 1 (pc1 := 1) (lo1 := [some (.int (Int32.ofInt a1))]) (st1 := [.int (Int32.ofInt a1)]) (H1 := mz_mk g x) rfl ?_
  refine mz_if_ne (tgt := 12) rfl rfl (mz_rg l_a1 u_a1) (fun c1_0 => ?_) (fun c1_0 => ?_)
  · skip
    exact mm_rt rfl rfl (hQ (by omega))
  · skip
    exact mz_throw rfl rfl rfl rfl rfl rfl rfl (Nat.le_of_ble_eq_true rfl) (by omega) (hX _)
def fw_X10_startAnew (x : mm_X) (q0 : Nat) : Nat → Nat → Prop := fun k j => k = q0
theorem c_X10_startAnew {d : Nat} (hd : 1 ≤ d) {x : mm_X} (hx : mk_x x) {g : mz_G} (hI : mz_inv g) {q0 : Nat} (h_q0 : kd_words q0) {Q : (Option Value ⊕ Nat) → mm_H → Prop} (hQ : ∀ (g1 : mz_G), mz_inv g1 → mz_fr (fw_X10_startAnew x q0) g g1 → Q (.inl none) (mz_mk g1 x)) : mm_C d 105 [.ref q0] (mz_mk g x) Q := by
  have kn_q0 := kn_words h_q0
  refine ⟨mmX10_startAnew, [some (.ref q0)], rfl, rfl, ?_⟩
  refine mm_g 2 (pc1 := 2) (lo1 := [some (.ref q0)]) (st1 := [.int (Int32.ofInt 0), .ref q0]) (H1 := mz_mk g x) rfl ?_
  refine mz_pI rfl fd_10_28 (kc_words h_q0 _) hI (kb_words_3 h_q0) (by omega) (by omega) (fun g1 hIg1 hug1 => ?_)
  exact mm_rt rfl rfl (hQ _ hIg1 (fun k j hk => (hug1.2 k j (fun h => hk h.1))))
def fw_X5_clear (x : mm_X) (q0 : Nat) : Nat → Nat → Prop := fun k j => k = q0
theorem c_X5_clear {d : Nat} (hd : 1 ≤ d) {x : mm_X} (hx : mk_x x) {g : mz_G} (hI : mz_inv g) {q0 : Nat} (h_q0 : kd_rule q0) {Q : (Option Value ⊕ Nat) → mm_H → Prop} (hQ : ∀ (g1 : mz_G), mz_inv g1 → mz_fr (fw_X5_clear x q0) g g1 → Q (.inl none) (mz_mk g1 x)) : mm_C d 58 [.ref q0] (mz_mk g x) Q := by
  have kn_q0 := kn_rule h_q0
  refine ⟨mmX5_clear, [some (.ref q0)], rfl, rfl, ?_⟩
  refine mm_g 2 (pc1 := 2) (lo1 := [some (.ref q0)]) (st1 := [.int (Int32.ofInt 0), .ref q0]) (H1 := mz_mk g x) rfl ?_
  refine mz_pI rfl fd_5_15 (kc_rule h_q0 _) hI (kb_rule_1 h_q0) (by omega) (by omega) (fun g1 hIg1 hug1 => ?_)
  exact mm_rt rfl rfl (hQ _ hIg1 (fun k j hk => (hug1.2 k j (fun h => hk h.1))))
def fw_X1_forgetAll (x : mm_X) (q0 : Nat) : Nat → Nat → Prop := fun k j => k = (q0 + 1) ∨ k = (q0 + 26) ∨ k = q0 ∨ k = (q0 + 36)
theorem c_X1_forgetAll {d : Nat} (hd : 2 ≤ d) {x : mm_X} (hx : mk_x x) {g : mz_G} (hI : mz_inv g) {q0 : Nat} (h_q0 : kd_load q0) {Q : (Option Value ⊕ Nat) → mm_H → Prop} (hQ : ∀ (g1 : mz_G), mz_inv g1 → mz_fr (fw_X1_forgetAll x q0) g g1 → Q (.inl none) (mz_mk g1 x)) : mm_C d 13 [.ref q0] (mz_mk g x) Q := by
  have kn_q0 := kn_load h_q0
  refine ⟨mmX1_forgetAll, [some (.ref q0)], rfl, rfl, ?_⟩
  refine mm_g 1 (pc1 := 1) (lo1 := [some (.ref q0)]) (st1 := [.ref q0]) (H1 := mz_mk g x) rfl ?_
  refine mz_fgR (v := (q0 + 1)) rfl fd_1_12 (by decide) (kc_load h_q0 _) (kr_load_0 h_q0 _ _ _) ?_
  refine mz_cv rfl mt_1_40 (by decide) (kc_words (ks_load_0 h_q0) _) rfl (Nat.le_of_ble_eq_true rfl) (by omega) (c_X10_startAnew (by omega) hx hI (ks_load_0 h_q0) (fun g1 hIg1 hfg1 => ⟨_, rfl, ?_⟩))
  show mm_W d mmX1_forgetAll 7 [some (.ref q0)] [] (mz_mk g1 x) Q
  refine mm_g 1 (pc1 := 8) (lo1 := [some (.ref q0)]) (st1 := [.ref q0]) (H1 := mz_mk g1 x) rfl ?_
  refine mz_fgR (v := (q0 + 26)) rfl fd_1_21 (by decide) (kc_load h_q0 _) (kr_load_1 h_q0 _ _ _) ?_
  refine mm_g 1 (pc1 := 12) (lo1 := [some (.ref q0)]) (st1 := [.int (Int32.ofInt 0), .ref (q0 + 26)]) (H1 := mz_mk g1 x) rfl ?_
  refine mz_pI rfl fd_1_43 (kc_tks (ks_load_1 h_q0) _) hIg1 (kb_tks_2 (ks_load_1 h_q0)) (by omega) (by omega) (fun g2 hIg2 hug2 => ?_)
  refine mm_g 2 (pc1 := 17) (lo1 := [some (.ref q0)]) (st1 := [.int (Int32.ofInt 0), .ref q0]) (H1 := mz_mk g2 x) rfl ?_
  refine mz_pI rfl fd_1_29 (kc_load h_q0 _) hIg2 (kb_load_3 h_q0) (by omega) (by omega) (fun g3 hIg3 hug3 => ?_)
  refine mm_g 1 (pc1 := 21) (lo1 := [some (.ref q0)]) (st1 := [.ref q0]) (H1 := mz_mk g3 x) rfl ?_
  refine mz_fgR (v := (q0 + 36)) rfl fd_1_36 (by decide) (kc_load h_q0 _) (kr_load_4 h_q0 _ _ _) ?_
  refine mz_cv rfl mt_1_46 (by decide) (kc_rule (ks_load_4 h_q0) _) rfl (Nat.le_of_ble_eq_true rfl) (by omega) (c_X5_clear (by omega) hx hIg3 (ks_load_4 h_q0) (fun g4 hIg4 hfg4 => ⟨_, rfl, ?_⟩))
  show mm_W d mmX1_forgetAll 27 [some (.ref q0)] [] (mz_mk g4 x) Q
  exact mm_rt rfl rfl (hQ _ hIg4 (fun k j hk => ((hfg4 k j (fun h => hk (Or.inr (Or.inr (Or.inr h))))).trans ((hug3.2 k j (fun h => hk (Or.inr (Or.inr (Or.inl h.1))))).trans ((hug2.2 k j (fun h => hk (Or.inr (Or.inl h.1)))).trans (hfg1 k j (fun h => hk (Or.inl h))))))))
theorem c_X7_byteAt {d : Nat} (hd : 1 ≤ d) {x : mm_X} (hx : mk_x x) {g : mz_G} (hI : mz_inv g) {a1 : Int} (l_a1 : (-2147483648) ≤ a1) (u_a1 : a1 ≤ 2147483647) {Q : (Option Value ⊕ Nat) → mm_H → Prop} (hQ : ∀ (r : Int), 0 ≤ r → r ≤ 255 → Q (.inl (some (.int (Int32.ofInt r)))) (mz_mk g x)) : mm_C d 84 [.ref 82, .int (Int32.ofInt a1)] (mz_mk g x) Q := by
  refine ⟨mmX7_byteAt, [some (.ref 82), some (.int (Int32.ofInt a1))], rfl, rfl, ?_⟩
  refine mm_g 1 (pc1 := 1) (lo1 := [some (.ref 82), some (.int (Int32.ofInt a1))]) (st1 := [.int (Int32.ofInt a1)]) (H1 := mz_mk g x) rfl ?_
  refine mz_if_lt (tgt := 26) rfl rfl (mz_rg l_a1 u_a1) (fun c1_0 => ?_) (fun c1_0 => ?_)
  · skip
    refine mm_g 1 (pc1 := 27) (lo1 := [some (.ref 82), some (.int (Int32.ofInt a1))]) (st1 := [.int (Int32.ofInt 0)]) (H1 := mz_mk g x) rfl ?_
    exact mm_rt rfl rfl (hQ _ (by decide) (by decide))
  · skip
    refine mm_g 2 (pc1 := 6) (lo1 := [some (.ref 82), some (.int (Int32.ofInt a1))]) (st1 := [.ref 82, .int (Int32.ofInt a1)]) (H1 := mz_mk g x) rfl ?_
    refine mz_fgR (v := 83) rfl fd_7_9 (by decide) (sc_82 _) (rf_82_0 _ _ _) ?_
    refine mz_al rfl (sh_83 _) (by decide) ?_
    refine mz_ic_ge (tgt := 26) rfl rfl (mz_rg l_a1 u_a1) ⟨by omega, by omega⟩ (fun c10_0 => ?_) (fun c10_0 => ?_)
    · skip
      refine mm_g 1 (pc1 := 27) (lo1 := [some (.ref 82), some (.int (Int32.ofInt a1))]) (st1 := [.int (Int32.ofInt 0)]) (H1 := mz_mk g x) rfl ?_
      exact mm_rt rfl rfl (hQ _ (by decide) (by decide))
    · skip
      refine mm_g 1 (pc1 := 14) (lo1 := [some (.ref 82), some (.int (Int32.ofInt a1))]) (st1 := [.ref 82]) (H1 := mz_mk g x) rfl ?_
      refine mz_fgR (v := 83) rfl fd_7_9 (by decide) (sc_82 _) (rf_82_0 _ _ _) ?_
      refine mm_g 1 (pc1 := 18) (lo1 := [some (.ref 82), some (.int (Int32.ofInt a1))]) (st1 := [.int (Int32.ofInt a1), .ref 83]) (H1 := mz_mk g x) rfl ?_
      refine mz_bI rfl (sh_83 _) (Or.inl rfl) (by omega) (by omega) (by decide) hI (ba_83 _) (fun v1 e_v1 l_v1 u_v1 => ?_)
      refine mz_sip rfl sip_255 ?_
      refine mz_iand rfl (fun v2 e_v2 hwv2 => ?_)
      have b_v2 : 0 ≤ v2 ∧ v2 ≤ 255 := by rw [e_v2]; exact mz_and_r (by omega) (by omega) (mz_rg l_v1 u_v1)
      have l_v2 := b_v2.1
      have u_v2 := b_v2.2
      refine mz_gt (tgt := 27) rfl rfl ?_
      exact mm_rt rfl rfl (hQ _ (by omega) (by omega))
theorem c_X7_isLetter {d : Nat} (hd : 1 ≤ d) {x : mm_X} (hx : mk_x x) {g : mz_G} (hI : mz_inv g) {a1 : Int} (l_a1 : (-2147483648) ≤ a1) (u_a1 : a1 ≤ 2147483647) {Q : (Option Value ⊕ Nat) → mm_H → Prop} (hQ : ∀ (r : Int), 0 ≤ r → r ≤ 1 → Q (.inl (some (.int (Int32.ofInt r)))) (mz_mk g x)) : mm_C d 85 [.int (Int32.ofInt a1)] (mz_mk g x) Q := by
  refine ⟨mmX7_isLetter, [some (.int (Int32.ofInt a1))], rfl, rfl, ?_⟩
  refine mm_g 1 (pc1 := 1) (lo1 := [some (.int (Int32.ofInt a1))]) (st1 := [.int (Int32.ofInt a1)]) (H1 := mz_mk g x) rfl ?_
  refine mz_bip rfl bip_97 ?_
  refine mz_ic_lt (tgt := 16) rfl rfl (mz_rg l_a1 u_a1) ⟨by decide, by decide⟩ (fun c3_0 => ?_) (fun c3_0 => ?_)
  · skip
    refine mm_g 1 (pc1 := 17) (lo1 := [some (.int (Int32.ofInt a1))]) (st1 := [.int (Int32.ofInt 0)]) (H1 := mz_mk g x) rfl ?_
    exact mz_rtZ rfl (by decide) (by omega) (hQ _ (by decide) (by decide))
  · skip
    refine mm_g 1 (pc1 := 7) (lo1 := [some (.int (Int32.ofInt a1))]) (st1 := [.int (Int32.ofInt a1)]) (H1 := mz_mk g x) rfl ?_
    refine mz_bip rfl bip_122 ?_
    refine mz_ic_gt (tgt := 16) rfl rfl (mz_rg l_a1 u_a1) ⟨by decide, by decide⟩ (fun c9_0 => ?_) (fun c9_0 => ?_)
    · skip
      refine mm_g 1 (pc1 := 17) (lo1 := [some (.int (Int32.ofInt a1))]) (st1 := [.int (Int32.ofInt 0)]) (H1 := mz_mk g x) rfl ?_
      exact mz_rtZ rfl (by decide) (by omega) (hQ _ (by decide) (by decide))
    · skip
      refine mm_g 1 (pc1 := 13) (lo1 := [some (.int (Int32.ofInt a1))]) (st1 := [.int (Int32.ofInt 1)]) (H1 := mz_mk g x) rfl ?_
      refine mz_gt (tgt := 17) rfl rfl ?_
      exact mz_rtZ rfl (by decide) (by omega) (hQ _ (by decide) (by decide))
def fl_X7_stepWord_5 (x : mm_X) : Nat → Nat → Prop := fun k j => (k = 82 ∧ j = 3)
def fw_X7_stepWord (x : mm_X) : Nat → Nat → Prop := fun k j => (k = 82 ∧ j = 4) ∨ (k = 82 ∧ j = 3)
theorem c_X7_stepWord {d : Nat} (hd : 2 ≤ d) {x : mm_X} (hx : mk_x x) {g : mz_G} (hI : mz_inv g) {Q : (Option Value ⊕ Nat) → mm_H → Prop} (hQ : ∀ (g1 : mz_G), mz_inv g1 → mz_fr (fw_X7_stepWord x) g g1 → Q (.inl none) (mz_mk g1 x)) : mm_C d 82 [.ref 82] (mz_mk g x) Q := by
  refine ⟨mmX7_stepWord, [some (.ref 82)], rfl, rfl, ?_⟩
  refine mm_g 2 (pc1 := 2) (lo1 := [some (.ref 82)]) (st1 := [.int (Int32.ofInt 1), .ref 82]) (H1 := mz_mk g x) rfl ?_
  refine mz_pI rfl fd_7_25 (sc_82 _) hI bd_82_4 (by omega) (by omega) (fun g1 hIg1 hug1 => ?_)
  have L5 : ∀ n4 : Nat, ∀ (g2 : mz_G), (700 - g2 82 3).toNat = n4 → mz_inv g2 → mz_fr (fl_X7_stepWord_5 x) g1 g2 → mm_W d mmX7_stepWord 5 [some (.ref 82)] [] (mz_mk g2 x) Q := by
    intro n4
    induction n4 using Nat.strongRecOn with
    | ind n4 ih3 =>
    intro g2 hmn4 hIg2 hfg2
    refine mm_g 1 (pc1 := 6) (lo1 := [some (.ref 82)]) (st1 := [.ref 82]) (H1 := mz_mk g2 x) rfl ?_
    refine mz_gI rfl fd_7_22 (by decide) (sc_82 _) hIg2 bd_82_3 (fun v6 e_v6 l_v6 u_v6 => ?_)
    refine mm_g 1 (pc1 := 10) (lo1 := [some (.ref 82)]) (st1 := [.ref 82, .int (Int32.ofInt v6)]) (H1 := mz_mk g2 x) rfl ?_
    refine mz_gI rfl fd_7_19 (by decide) (sc_82 _) hIg2 bd_82_2 (fun v7 e_v7 l_v7 u_v7 => ?_)
    refine mz_ic_ge (tgt := 43) rfl rfl (mz_rg l_v6 u_v6) (mz_rg l_v7 u_v7) (fun c13_7 => ?_) (fun c13_7 => ?_)
    · skip
      exact mm_rt rfl rfl (hQ _ hIg2 (fun k j hk => ((hfg2 k j (fun h => hk (Or.inr h))).trans (hug1.2 k j (fun h => hk (Or.inl h))))))
    · skip
      refine mm_g 2 (pc1 := 18) (lo1 := [some (.ref 82)]) (st1 := [.ref 82, .ref 82]) (H1 := mz_mk g2 x) rfl ?_
      refine mz_fgI (v := v6) rfl fd_7_22 (by decide) (sc_82 _) e_v6 ?_
      refine mz_cv rfl mt_7_37 (by decide) (sc_82 _) rfl (Nat.le_of_ble_eq_true rfl) (by omega) (c_X7_byteAt (by omega) hx hIg2 (by omega) (by omega) (fun v8 l_v8 u_v8 => ⟨_, rfl, ?_⟩))
      show mm_W d mmX7_stepWord 24 [some (.ref 82)] [.int (Int32.ofInt v8)] (mz_mk g2 x) Q
      refine mz_cs rfl mt_7_41 (by decide) rfl (Nat.le_of_ble_eq_true rfl) (by omega) (c_X7_isLetter (by omega) hx hIg2 (by omega) (by omega) (fun v9 l_v9 u_v9 => ⟨_, rfl, ?_⟩))
      show mm_W d mmX7_stepWord 27 [some (.ref 82)] [.int (Int32.ofInt v9)] (mz_mk g2 x) Q
      refine mz_if_eq (tgt := 43) rfl rfl (mz_rg l_v9 u_v9) (fun c27_9 => ?_) (fun c27_9 => ?_)
      · skip
        exact mm_rt rfl rfl (hQ _ hIg2 (fun k j hk => ((hfg2 k j (fun h => hk (Or.inr h))).trans (hug1.2 k j (fun h => hk (Or.inl h))))))
      · skip
        refine mm_g 2 (pc1 := 32) (lo1 := [some (.ref 82)]) (st1 := [.ref 82, .ref 82]) (H1 := mz_mk g2 x) rfl ?_
        refine mz_fgI (v := v6) rfl fd_7_22 (by decide) (sc_82 _) e_v6 ?_
        refine mm_g 1 (pc1 := 36) (lo1 := [some (.ref 82)]) (st1 := [.int (Int32.ofInt 1), .int (Int32.ofInt v6), .ref 82]) (H1 := mz_mk g2 x) rfl ?_
        refine mz_iadd rfl ?_
        refine mz_pI rfl fd_7_22 (sc_82 _) hIg2 bd_82_3 (by omega) (by omega) (fun g10 hIg10 hug10 => ?_)
        refine mz_gt (tgt := 5) rfl rfl ?_
        exact ih3 ((700 - g10 82 3).toNat) (by have hz := (show g10 82 3 = (v6 + 1) from hug10.1); omega) g10 rfl hIg10 (fun k j hk => ((hug10.2 k j (fun h => hk h)).trans (hfg2 k j (fun h => hk h))))
  exact L5 _ g1 rfl hIg1 (fun _ _ _ => rfl)
theorem c_X7_isDigit {d : Nat} (hd : 1 ≤ d) {x : mm_X} (hx : mk_x x) {g : mz_G} (hI : mz_inv g) {a1 : Int} (l_a1 : (-2147483648) ≤ a1) (u_a1 : a1 ≤ 2147483647) {Q : (Option Value ⊕ Nat) → mm_H → Prop} (hQ : ∀ (r : Int), 0 ≤ r → r ≤ 1 → Q (.inl (some (.int (Int32.ofInt r)))) (mz_mk g x)) : mm_C d 86 [.int (Int32.ofInt a1)] (mz_mk g x) Q := by
  refine ⟨mmX7_isDigit, [some (.int (Int32.ofInt a1))], rfl, rfl, ?_⟩
  refine mm_g 1 (pc1 := 1) (lo1 := [some (.int (Int32.ofInt a1))]) (st1 := [.int (Int32.ofInt a1)]) (H1 := mz_mk g x) rfl ?_
  refine mz_bip rfl bip_48 ?_
  refine mz_ic_lt (tgt := 16) rfl rfl (mz_rg l_a1 u_a1) ⟨by decide, by decide⟩ (fun c3_0 => ?_) (fun c3_0 => ?_)
  · skip
    refine mm_g 1 (pc1 := 17) (lo1 := [some (.int (Int32.ofInt a1))]) (st1 := [.int (Int32.ofInt 0)]) (H1 := mz_mk g x) rfl ?_
    exact mz_rtZ rfl (by decide) (by omega) (hQ _ (by decide) (by decide))
  · skip
    refine mm_g 1 (pc1 := 7) (lo1 := [some (.int (Int32.ofInt a1))]) (st1 := [.int (Int32.ofInt a1)]) (H1 := mz_mk g x) rfl ?_
    refine mz_bip rfl bip_57 ?_
    refine mz_ic_gt (tgt := 16) rfl rfl (mz_rg l_a1 u_a1) ⟨by decide, by decide⟩ (fun c9_0 => ?_) (fun c9_0 => ?_)
    · skip
      refine mm_g 1 (pc1 := 17) (lo1 := [some (.int (Int32.ofInt a1))]) (st1 := [.int (Int32.ofInt 0)]) (H1 := mz_mk g x) rfl ?_
      exact mz_rtZ rfl (by decide) (by omega) (hQ _ (by decide) (by decide))
    · skip
      refine mm_g 1 (pc1 := 13) (lo1 := [some (.int (Int32.ofInt a1))]) (st1 := [.int (Int32.ofInt 1)]) (H1 := mz_mk g x) rfl ?_
      refine mz_gt (tgt := 17) rfl rfl ?_
      exact mz_rtZ rfl (by decide) (by omega) (hQ _ (by decide) (by decide))
def fl_X7_stepNumber_5 (x : mm_X) : Nat → Nat → Prop := fun k j => (k = 82 ∧ j = 6) ∨ (k = 82 ∧ j = 3)
def fw_X7_stepNumber (x : mm_X) : Nat → Nat → Prop := fun k j => (k = 82 ∧ j = 4) ∨ (k = 82 ∧ j = 6) ∨ (k = 82 ∧ j = 3)
theorem c_X7_stepNumber {d : Nat} (hd : 2 ≤ d) {x : mm_X} (hx : mk_x x) {g : mz_G} (hI : mz_inv g) {Q : (Option Value ⊕ Nat) → mm_H → Prop} (hQ : ∀ (g1 : mz_G), mz_inv g1 → mz_fr (fw_X7_stepNumber x) g g1 → Q (.inl none) (mz_mk g1 x)) : mm_C d 83 [.ref 82] (mz_mk g x) Q := by
  refine ⟨mmX7_stepNumber, [some (.ref 82)], rfl, rfl, ?_⟩
  refine mm_g 2 (pc1 := 2) (lo1 := [some (.ref 82)]) (st1 := [.int (Int32.ofInt 2), .ref 82]) (H1 := mz_mk g x) rfl ?_
  refine mz_pI rfl fd_7_25 (sc_82 _) hI bd_82_4 (by omega) (by omega) (fun g1 hIg1 hug1 => ?_)
  have L5 : ∀ n4 : Nat, ∀ (g2 : mz_G), (700 - g2 82 3).toNat = n4 → mz_inv g2 → mz_fr (fl_X7_stepNumber_5 x) g1 g2 → mm_W d mmX7_stepNumber 5 [some (.ref 82)] [] (mz_mk g2 x) Q := by
    intro n4
    induction n4 using Nat.strongRecOn with
    | ind n4 ih3 =>
    intro g2 hmn4 hIg2 hfg2
    refine mm_g 1 (pc1 := 6) (lo1 := [some (.ref 82)]) (st1 := [.ref 82]) (H1 := mz_mk g2 x) rfl ?_
    refine mz_gI rfl fd_7_22 (by decide) (sc_82 _) hIg2 bd_82_3 (fun v6 e_v6 l_v6 u_v6 => ?_)
    refine mm_g 1 (pc1 := 10) (lo1 := [some (.ref 82)]) (st1 := [.ref 82, .int (Int32.ofInt v6)]) (H1 := mz_mk g2 x) rfl ?_
    refine mz_gI rfl fd_7_19 (by decide) (sc_82 _) hIg2 bd_82_2 (fun v7 e_v7 l_v7 u_v7 => ?_)
    refine mz_ic_ge (tgt := 86) rfl rfl (mz_rg l_v6 u_v6) (mz_rg l_v7 u_v7) (fun c13_7 => ?_) (fun c13_7 => ?_)
    · skip
      exact mm_rt rfl rfl (hQ _ hIg2 (fun k j hk => ((hfg2 k j (fun h => hk (Or.elim h (fun h => (Or.inr (Or.inl h))) (fun h => (Or.inr (Or.inr h)))))).trans (hug1.2 k j (fun h => hk (Or.inl h))))))
    · skip
      refine mm_g 2 (pc1 := 18) (lo1 := [some (.ref 82)]) (st1 := [.ref 82, .ref 82]) (H1 := mz_mk g2 x) rfl ?_
      refine mz_fgI (v := v6) rfl fd_7_22 (by decide) (sc_82 _) e_v6 ?_
      refine mz_cv rfl mt_7_37 (by decide) (sc_82 _) rfl (Nat.le_of_ble_eq_true rfl) (by omega) (c_X7_byteAt (by omega) hx hIg2 (by omega) (by omega) (fun v8 l_v8 u_v8 => ⟨_, rfl, ?_⟩))
      show mm_W d mmX7_stepNumber 24 [some (.ref 82)] [.int (Int32.ofInt v8)] (mz_mk g2 x) Q
      refine mz_cs rfl mt_7_48 (by decide) rfl (Nat.le_of_ble_eq_true rfl) (by omega) (c_X7_isDigit (by omega) hx hIg2 (by omega) (by omega) (fun v9 l_v9 u_v9 => ⟨_, rfl, ?_⟩))
      show mm_W d mmX7_stepNumber 27 [some (.ref 82)] [.int (Int32.ofInt v9)] (mz_mk g2 x) Q
      refine mz_if_eq (tgt := 86) rfl rfl (mz_rg l_v9 u_v9) (fun c27_9 => ?_) (fun c27_9 => ?_)
      · skip
        exact mm_rt rfl rfl (hQ _ hIg2 (fun k j hk => ((hfg2 k j (fun h => hk (Or.elim h (fun h => (Or.inr (Or.inl h))) (fun h => (Or.inr (Or.inr h)))))).trans (hug1.2 k j (fun h => hk (Or.inl h))))))
      · skip
        refine mm_g 2 (pc1 := 32) (lo1 := [some (.ref 82)]) (st1 := [.ref 82, .ref 82]) (H1 := mz_mk g2 x) rfl ?_
        refine mz_fgI (v := v6) rfl fd_7_22 (by decide) (sc_82 _) e_v6 ?_
        refine mm_g 1 (pc1 := 36) (lo1 := [some (.ref 82)]) (st1 := [.ref 82, .int (Int32.ofInt v6), .ref 82]) (H1 := mz_mk g2 x) rfl ?_
        refine mz_gI rfl fd_7_28 (by decide) (sc_82 _) hIg2 bd_82_5 (fun v10 e_v10 l_v10 u_v10 => ?_)
        refine mz_isub rfl ?_
        refine mm_g 1 (pc1 := 41) (lo1 := [some (.ref 82)]) (st1 := [.int (Int32.ofInt 4), .int (Int32.ofInt (v6 - v10)), .ref 82]) (H1 := mz_mk g2 x) rfl ?_
        refine mz_ic_ge (tgt := 66) rfl rfl ⟨by omega, by omega⟩ ⟨by decide, by decide⟩ (fun c41_10 => ?_) (fun c41_10 => ?_)
        · skip
          refine mm_g 1 (pc1 := 67) (lo1 := [some (.ref 82)]) (st1 := [.ref 82, .ref 82]) (H1 := mz_mk g2 x) rfl ?_
          refine mz_gI rfl fd_7_31 (by decide) (sc_82 _) hIg2 bd_82_6 (fun v11 e_v11 l_v11 u_v11 => ?_)
          refine mz_pI rfl fd_7_31 (sc_82 _) hIg2 bd_82_6 (by omega) (by omega) (fun g12 hIg12 hug12 => ?_)
          refine mm_g 2 (pc1 := 75) (lo1 := [some (.ref 82)]) (st1 := [.ref 82, .ref 82]) (H1 := mz_mk g12 x) rfl ?_
          refine mz_fgI (v := v6) rfl fd_7_22 (by decide) (sc_82 _) (show g12 82 3 = v6 from ((hug12.2 82 3 (fun h => absurd h.2 (by decide))).trans e_v6)) ?_
          refine mm_g 1 (pc1 := 79) (lo1 := [some (.ref 82)]) (st1 := [.int (Int32.ofInt 1), .int (Int32.ofInt v6), .ref 82]) (H1 := mz_mk g12 x) rfl ?_
          refine mz_iadd rfl ?_
          refine mz_pI rfl fd_7_22 (sc_82 _) hIg12 bd_82_3 (by omega) (by omega) (fun g13 hIg13 hug13 => ?_)
          refine mz_gt (tgt := 5) rfl rfl ?_
          exact ih3 ((700 - g13 82 3).toNat) (by have hz := (show g13 82 3 = (v6 + 1) from hug13.1); omega) g13 rfl hIg13 (fun k j hk => ((hug13.2 k j (fun h => hk (Or.inr h))).trans ((hug12.2 k j (fun h => hk (Or.inl h))).trans (hfg2 k j (fun h => hk (Or.elim h (fun h => (Or.inl h)) (fun h => (Or.inr h))))))))
        · skip
          refine mz_bip rfl bip_10 ?_
          refine mm_g 1 (pc1 := 47) (lo1 := [some (.ref 82)]) (st1 := [.ref 82, .int (Int32.ofInt 10), .ref 82]) (H1 := mz_mk g2 x) rfl ?_
          refine mz_gI rfl fd_7_31 (by decide) (sc_82 _) hIg2 bd_82_6 (fun v14 e_v14 l_v14 u_v14 => ?_)
          refine mz_imul_w rfl (fun v15 _ hwv15 => ?_)
          have l_v15 := hwv15.1
          have u_v15 := hwv15.2
          refine mm_g 2 (pc1 := 53) (lo1 := [some (.ref 82)]) (st1 := [.ref 82, .ref 82, .int (Int32.ofInt v15), .ref 82]) (H1 := mz_mk g2 x) rfl ?_
          refine mz_fgI (v := v6) rfl fd_7_22 (by decide) (sc_82 _) e_v6 ?_
          refine mz_cv rfl mt_7_37 (by decide) (sc_82 _) rfl (Nat.le_of_ble_eq_true rfl) (by omega) (c_X7_byteAt (by omega) hx hIg2 (by omega) (by omega) (fun v16 l_v16 u_v16 => ⟨_, rfl, ?_⟩))
          show mm_W d mmX7_stepNumber 59 [some (.ref 82)] [.int (Int32.ofInt v16), .int (Int32.ofInt v15), .ref 82] (mz_mk g2 x) Q
          refine mz_iadd_w rfl (fun v17 _ hwv17 => ?_)
          have l_v17 := hwv17.1
          have u_v17 := hwv17.2
          refine mz_bip rfl bip_48 ?_
          refine mz_isub_w rfl (fun v18 _ hwv18 => ?_)
          have l_v18 := hwv18.1
          have u_v18 := hwv18.2
          refine mz_gt (tgt := 70) rfl rfl ?_
          refine mz_pI rfl fd_7_31 (sc_82 _) hIg2 bd_82_6 (by omega) (by omega) (fun g19 hIg19 hug19 => ?_)
          refine mm_g 2 (pc1 := 75) (lo1 := [some (.ref 82)]) (st1 := [.ref 82, .ref 82]) (H1 := mz_mk g19 x) rfl ?_
          refine mz_fgI (v := v6) rfl fd_7_22 (by decide) (sc_82 _) (show g19 82 3 = v6 from ((hug19.2 82 3 (fun h => absurd h.2 (by decide))).trans e_v6)) ?_
          refine mm_g 1 (pc1 := 79) (lo1 := [some (.ref 82)]) (st1 := [.int (Int32.ofInt 1), .int (Int32.ofInt v6), .ref 82]) (H1 := mz_mk g19 x) rfl ?_
          refine mz_iadd rfl ?_
          refine mz_pI rfl fd_7_22 (sc_82 _) hIg19 bd_82_3 (by omega) (by omega) (fun g20 hIg20 hug20 => ?_)
          refine mz_gt (tgt := 5) rfl rfl ?_
          exact ih3 ((700 - g20 82 3).toNat) (by have hz := (show g20 82 3 = (v6 + 1) from hug20.1); omega) g20 rfl hIg20 (fun k j hk => ((hug20.2 k j (fun h => hk (Or.inr h))).trans ((hug19.2 k j (fun h => hk (Or.inl h))).trans (hfg2 k j (fun h => hk (Or.elim h (fun h => (Or.inl h)) (fun h => (Or.inr h))))))))
  exact L5 _ g1 rfl hIg1 (fun _ _ _ => rfl)
theorem c_X7_isSign {d : Nat} (hd : 1 ≤ d) {x : mm_X} (hx : mk_x x) {g : mz_G} (hI : mz_inv g) {a1 : Int} (l_a1 : (-2147483648) ≤ a1) (u_a1 : a1 ≤ 2147483647) {Q : (Option Value ⊕ Nat) → mm_H → Prop} (hQ : ∀ (r : Int), 0 ≤ r → r ≤ 1 → Q (.inl (some (.int (Int32.ofInt r)))) (mz_mk g x)) : mm_C d 87 [.int (Int32.ofInt a1)] (mz_mk g x) Q := by
  refine ⟨mmX7_isSign, [some (.int (Int32.ofInt a1)), none], rfl, rfl, ?_⟩
  refine mm_g 1 (pc1 := 1) (lo1 := [some (.int (Int32.ofInt a1)), none]) (st1 := [.int (Int32.ofInt a1)]) (H1 := mz_mk g x) rfl ?_
  refine mz_bip rfl bip_59 ?_
  refine mz_ic_eq (tgt := 30) rfl rfl (mz_rg l_a1 u_a1) ⟨by decide, by decide⟩ (fun c3_0 => ?_) (fun c3_0 => ?_)
  · skip
    refine mm_g 1 (pc1 := 31) (lo1 := [some (.int (Int32.ofInt a1)), none]) (st1 := [.int (Int32.ofInt 1)]) (H1 := mz_mk g x) rfl ?_
    refine mz_gt (tgt := 35) rfl rfl ?_
    refine mm_g 2 (pc1 := 37) (lo1 := [some (.int (Int32.ofInt a1)), some (.int (Int32.ofInt 1))]) (st1 := [.int (Int32.ofInt 1)]) (H1 := mz_mk g x) rfl ?_
    refine mz_if_ne (tgt := 64) rfl rfl ⟨by decide, by decide⟩ (fun c37_0 => ?_) (fun c37_0 => ?_)
    · skip
      refine mm_g 1 (pc1 := 65) (lo1 := [some (.int (Int32.ofInt a1)), some (.int (Int32.ofInt 1))]) (st1 := [.int (Int32.ofInt 1)]) (H1 := mz_mk g x) rfl ?_
      refine mz_gt (tgt := 69) rfl rfl ?_
      exact mz_rtZ rfl (by decide) (by omega) (hQ _ (by decide) (by decide))
    · exfalso; omega
  · skip
    refine mm_g 1 (pc1 := 7) (lo1 := [some (.int (Int32.ofInt a1)), none]) (st1 := [.int (Int32.ofInt a1)]) (H1 := mz_mk g x) rfl ?_
    refine mz_bip rfl bip_40 ?_
    refine mz_ic_eq (tgt := 30) rfl rfl (mz_rg l_a1 u_a1) ⟨by decide, by decide⟩ (fun c9_0 => ?_) (fun c9_0 => ?_)
    · skip
      refine mm_g 1 (pc1 := 31) (lo1 := [some (.int (Int32.ofInt a1)), none]) (st1 := [.int (Int32.ofInt 1)]) (H1 := mz_mk g x) rfl ?_
      refine mz_gt (tgt := 35) rfl rfl ?_
      refine mm_g 2 (pc1 := 37) (lo1 := [some (.int (Int32.ofInt a1)), some (.int (Int32.ofInt 1))]) (st1 := [.int (Int32.ofInt 1)]) (H1 := mz_mk g x) rfl ?_
      refine mz_if_ne (tgt := 64) rfl rfl ⟨by decide, by decide⟩ (fun c37_0 => ?_) (fun c37_0 => ?_)
      · skip
        refine mm_g 1 (pc1 := 65) (lo1 := [some (.int (Int32.ofInt a1)), some (.int (Int32.ofInt 1))]) (st1 := [.int (Int32.ofInt 1)]) (H1 := mz_mk g x) rfl ?_
        refine mz_gt (tgt := 69) rfl rfl ?_
        exact mz_rtZ rfl (by decide) (by omega) (hQ _ (by decide) (by decide))
      · exfalso; omega
    · skip
      refine mm_g 1 (pc1 := 13) (lo1 := [some (.int (Int32.ofInt a1)), none]) (st1 := [.int (Int32.ofInt a1)]) (H1 := mz_mk g x) rfl ?_
      refine mz_bip rfl bip_41 ?_
      refine mz_ic_eq (tgt := 30) rfl rfl (mz_rg l_a1 u_a1) ⟨by decide, by decide⟩ (fun c15_0 => ?_) (fun c15_0 => ?_)
      · skip
        refine mm_g 1 (pc1 := 31) (lo1 := [some (.int (Int32.ofInt a1)), none]) (st1 := [.int (Int32.ofInt 1)]) (H1 := mz_mk g x) rfl ?_
        refine mz_gt (tgt := 35) rfl rfl ?_
        refine mm_g 2 (pc1 := 37) (lo1 := [some (.int (Int32.ofInt a1)), some (.int (Int32.ofInt 1))]) (st1 := [.int (Int32.ofInt 1)]) (H1 := mz_mk g x) rfl ?_
        refine mz_if_ne (tgt := 64) rfl rfl ⟨by decide, by decide⟩ (fun c37_0 => ?_) (fun c37_0 => ?_)
        · skip
          refine mm_g 1 (pc1 := 65) (lo1 := [some (.int (Int32.ofInt a1)), some (.int (Int32.ofInt 1))]) (st1 := [.int (Int32.ofInt 1)]) (H1 := mz_mk g x) rfl ?_
          refine mz_gt (tgt := 69) rfl rfl ?_
          exact mz_rtZ rfl (by decide) (by omega) (hQ _ (by decide) (by decide))
        · exfalso; omega
      · skip
        refine mm_g 1 (pc1 := 19) (lo1 := [some (.int (Int32.ofInt a1)), none]) (st1 := [.int (Int32.ofInt a1)]) (H1 := mz_mk g x) rfl ?_
        refine mz_bip rfl bip_60 ?_
        refine mz_ic_eq (tgt := 30) rfl rfl (mz_rg l_a1 u_a1) ⟨by decide, by decide⟩ (fun c21_0 => ?_) (fun c21_0 => ?_)
        · skip
          refine mm_g 1 (pc1 := 31) (lo1 := [some (.int (Int32.ofInt a1)), none]) (st1 := [.int (Int32.ofInt 1)]) (H1 := mz_mk g x) rfl ?_
          refine mz_gt (tgt := 35) rfl rfl ?_
          refine mm_g 2 (pc1 := 37) (lo1 := [some (.int (Int32.ofInt a1)), some (.int (Int32.ofInt 1))]) (st1 := [.int (Int32.ofInt 1)]) (H1 := mz_mk g x) rfl ?_
          refine mz_if_ne (tgt := 64) rfl rfl ⟨by decide, by decide⟩ (fun c37_0 => ?_) (fun c37_0 => ?_)
          · skip
            refine mm_g 1 (pc1 := 65) (lo1 := [some (.int (Int32.ofInt a1)), some (.int (Int32.ofInt 1))]) (st1 := [.int (Int32.ofInt 1)]) (H1 := mz_mk g x) rfl ?_
            refine mz_gt (tgt := 69) rfl rfl ?_
            exact mz_rtZ rfl (by decide) (by omega) (hQ _ (by decide) (by decide))
          · exfalso; omega
        · skip
          refine mm_g 1 (pc1 := 25) (lo1 := [some (.int (Int32.ofInt a1)), none]) (st1 := [.int (Int32.ofInt a1)]) (H1 := mz_mk g x) rfl ?_
          refine mz_bip rfl bip_61 ?_
          refine mz_ic_ne (tgt := 34) rfl rfl (mz_rg l_a1 u_a1) ⟨by decide, by decide⟩ (fun c27_0 => ?_) (fun c27_0 => ?_)
          · skip
            refine mm_g 3 (pc1 := 37) (lo1 := [some (.int (Int32.ofInt a1)), some (.int (Int32.ofInt 0))]) (st1 := [.int (Int32.ofInt 0)]) (H1 := mz_mk g x) rfl ?_
            refine mz_if_ne (tgt := 64) rfl rfl ⟨by decide, by decide⟩ (fun c37_0 => ?_) (fun c37_0 => ?_)
            · exfalso; omega
            · skip
              refine mm_g 1 (pc1 := 41) (lo1 := [some (.int (Int32.ofInt a1)), some (.int (Int32.ofInt 0))]) (st1 := [.int (Int32.ofInt a1)]) (H1 := mz_mk g x) rfl ?_
              refine mz_bip rfl bip_43 ?_
              refine mz_ic_eq (tgt := 64) rfl rfl (mz_rg l_a1 u_a1) ⟨by decide, by decide⟩ (fun c43_0 => ?_) (fun c43_0 => ?_)
              · skip
                refine mm_g 1 (pc1 := 65) (lo1 := [some (.int (Int32.ofInt a1)), some (.int (Int32.ofInt 0))]) (st1 := [.int (Int32.ofInt 1)]) (H1 := mz_mk g x) rfl ?_
                refine mz_gt (tgt := 69) rfl rfl ?_
                exact mz_rtZ rfl (by decide) (by omega) (hQ _ (by decide) (by decide))
              · skip
                refine mm_g 1 (pc1 := 47) (lo1 := [some (.int (Int32.ofInt a1)), some (.int (Int32.ofInt 0))]) (st1 := [.int (Int32.ofInt a1)]) (H1 := mz_mk g x) rfl ?_
                refine mz_bip rfl bip_45 ?_
                refine mz_ic_eq (tgt := 64) rfl rfl (mz_rg l_a1 u_a1) ⟨by decide, by decide⟩ (fun c49_0 => ?_) (fun c49_0 => ?_)
                · skip
                  refine mm_g 1 (pc1 := 65) (lo1 := [some (.int (Int32.ofInt a1)), some (.int (Int32.ofInt 0))]) (st1 := [.int (Int32.ofInt 1)]) (H1 := mz_mk g x) rfl ?_
                  refine mz_gt (tgt := 69) rfl rfl ?_
                  exact mz_rtZ rfl (by decide) (by omega) (hQ _ (by decide) (by decide))
                · skip
                  refine mm_g 1 (pc1 := 53) (lo1 := [some (.int (Int32.ofInt a1)), some (.int (Int32.ofInt 0))]) (st1 := [.int (Int32.ofInt a1)]) (H1 := mz_mk g x) rfl ?_
                  refine mz_bip rfl bip_42 ?_
                  refine mz_ic_eq (tgt := 64) rfl rfl (mz_rg l_a1 u_a1) ⟨by decide, by decide⟩ (fun c55_0 => ?_) (fun c55_0 => ?_)
                  · skip
                    refine mm_g 1 (pc1 := 65) (lo1 := [some (.int (Int32.ofInt a1)), some (.int (Int32.ofInt 0))]) (st1 := [.int (Int32.ofInt 1)]) (H1 := mz_mk g x) rfl ?_
                    refine mz_gt (tgt := 69) rfl rfl ?_
                    exact mz_rtZ rfl (by decide) (by omega) (hQ _ (by decide) (by decide))
                  · skip
                    refine mm_g 1 (pc1 := 59) (lo1 := [some (.int (Int32.ofInt a1)), some (.int (Int32.ofInt 0))]) (st1 := [.int (Int32.ofInt a1)]) (H1 := mz_mk g x) rfl ?_
                    refine mz_bip rfl bip_47 ?_
                    refine mz_ic_ne (tgt := 68) rfl rfl (mz_rg l_a1 u_a1) ⟨by decide, by decide⟩ (fun c61_0 => ?_) (fun c61_0 => ?_)
                    · skip
                      refine mm_g 1 (pc1 := 69) (lo1 := [some (.int (Int32.ofInt a1)), some (.int (Int32.ofInt 0))]) (st1 := [.int (Int32.ofInt 0)]) (H1 := mz_mk g x) rfl ?_
                      exact mz_rtZ rfl (by decide) (by omega) (hQ _ (by decide) (by decide))
                    · skip
                      refine mm_g 1 (pc1 := 65) (lo1 := [some (.int (Int32.ofInt a1)), some (.int (Int32.ofInt 0))]) (st1 := [.int (Int32.ofInt 1)]) (H1 := mz_mk g x) rfl ?_
                      refine mz_gt (tgt := 69) rfl rfl ?_
                      exact mz_rtZ rfl (by decide) (by omega) (hQ _ (by decide) (by decide))
          · skip
            refine mm_g 1 (pc1 := 31) (lo1 := [some (.int (Int32.ofInt a1)), none]) (st1 := [.int (Int32.ofInt 1)]) (H1 := mz_mk g x) rfl ?_
            refine mz_gt (tgt := 35) rfl rfl ?_
            refine mm_g 2 (pc1 := 37) (lo1 := [some (.int (Int32.ofInt a1)), some (.int (Int32.ofInt 1))]) (st1 := [.int (Int32.ofInt 1)]) (H1 := mz_mk g x) rfl ?_
            refine mz_if_ne (tgt := 64) rfl rfl ⟨by decide, by decide⟩ (fun c37_0 => ?_) (fun c37_0 => ?_)
            · skip
              refine mm_g 1 (pc1 := 65) (lo1 := [some (.int (Int32.ofInt a1)), some (.int (Int32.ofInt 1))]) (st1 := [.int (Int32.ofInt 1)]) (H1 := mz_mk g x) rfl ?_
              refine mz_gt (tgt := 69) rfl rfl ?_
              exact mz_rtZ rfl (by decide) (by omega) (hQ _ (by decide) (by decide))
            · exfalso; omega
def fl_X7_step_0 (x : mm_X) : Nat → Nat → Prop := fun k j => (k = 82 ∧ j = 3)
def fw_X7_step (x : mm_X) : Nat → Nat → Prop := fun k j => (k = 82 ∧ j = 3) ∨ (k = 82 ∧ j = 5) ∨ (k = 82 ∧ j = 6) ∨ (k = 82 ∧ j = 4)
theorem c_X7_step {d : Nat} (hd : 3 ≤ d) {x : mm_X} (hx : mk_x x) {g : mz_G} (hI : mz_inv g) {Q : (Option Value ⊕ Nat) → mm_H → Prop} (hQ : ∀ (g1 : mz_G), mz_inv g1 → mz_fr (fw_X7_step x) g g1 → Q (.inl none) (mz_mk g1 x)) : mm_C d 81 [.ref 82] (mz_mk g x) Q := by
  refine ⟨mmX7_step, [some (.ref 82), none], rfl, rfl, ?_⟩
  have L4 : ∀ n3 : Nat, ∀ (g1 : mz_G), (700 - g1 82 3).toNat = n3 → mz_inv g1 → mz_fr (fl_X7_step_0 x) g g1 → mm_W d mmX7_step 0 [some (.ref 82), none] [] (mz_mk g1 x) Q := by
    intro n3
    induction n3 using Nat.strongRecOn with
    | ind n3 ih2 =>
    intro g1 hmn3 hIg1 hfg1
    refine mm_g 1 (pc1 := 1) (lo1 := [some (.ref 82), none]) (st1 := [.ref 82]) (H1 := mz_mk g1 x) rfl ?_
    refine mz_gI rfl fd_7_22 (by decide) (sc_82 _) hIg1 bd_82_3 (fun v5 e_v5 l_v5 u_v5 => ?_)
    refine mm_g 1 (pc1 := 5) (lo1 := [some (.ref 82), none]) (st1 := [.ref 82, .int (Int32.ofInt v5)]) (H1 := mz_mk g1 x) rfl ?_
    refine mz_gI rfl fd_7_19 (by decide) (sc_82 _) hIg1 bd_82_2 (fun v6 e_v6 l_v6 u_v6 => ?_)
    refine mz_ic_ge (tgt := 50) rfl rfl (mz_rg l_v5 u_v5) (mz_rg l_v6 u_v6) (fun c8_6 => ?_) (fun c8_6 => ?_)
    · skip
      refine mm_g 2 (pc1 := 52) (lo1 := [some (.ref 82), none]) (st1 := [.ref 82, .ref 82]) (H1 := mz_mk g1 x) rfl ?_
      refine mz_fgI (v := v5) rfl fd_7_22 (by decide) (sc_82 _) e_v5 ?_
      refine mz_pI rfl fd_7_28 (sc_82 _) hIg1 bd_82_5 (by omega) (by omega) (fun g7 hIg7 hug7 => ?_)
      refine mm_g 2 (pc1 := 60) (lo1 := [some (.ref 82), none]) (st1 := [.int (Int32.ofInt 0), .ref 82]) (H1 := mz_mk g7 x) rfl ?_
      refine mz_pI rfl fd_7_31 (sc_82 _) hIg7 bd_82_6 (by omega) (by omega) (fun g8 hIg8 hug8 => ?_)
      refine mm_g 1 (pc1 := 64) (lo1 := [some (.ref 82), none]) (st1 := [.ref 82]) (H1 := mz_mk g8 x) rfl ?_
      refine mz_fgI (v := v5) rfl fd_7_22 (by decide) (sc_82 _) (show g8 82 3 = v5 from ((hug8.2 82 3 (fun h => absurd h.2 (by decide))).trans ((hug7.2 82 3 (fun h => absurd h.2 (by decide))).trans e_v5))) ?_
      refine mm_g 1 (pc1 := 68) (lo1 := [some (.ref 82), none]) (st1 := [.ref 82, .int (Int32.ofInt v5)]) (H1 := mz_mk g8 x) rfl ?_
      refine mz_fgI (v := v6) rfl fd_7_19 (by decide) (sc_82 _) (show g8 82 2 = v6 from ((hug8.2 82 2 (fun h => absurd h.2 (by decide))).trans ((hug7.2 82 2 (fun h => absurd h.2 (by decide))).trans e_v6))) ?_
      refine mz_ic_lt (tgt := 82) rfl rfl (mz_rg l_v5 u_v5) (mz_rg l_v6 u_v6) (fun c71_8 => ?_) (fun c71_8 => ?_)
      · exfalso; omega
      · skip
        refine mm_g 2 (pc1 := 76) (lo1 := [some (.ref 82), none]) (st1 := [.int (Int32.ofInt 0), .ref 82]) (H1 := mz_mk g8 x) rfl ?_
        refine mz_pI rfl fd_7_25 (sc_82 _) hIg8 bd_82_4 (by omega) (by omega) (fun g9 hIg9 hug9 => ?_)
        refine mz_gt (tgt := 159) rfl rfl ?_
        exact mm_rt rfl rfl (hQ _ hIg9 (fun k j hk => ((hug9.2 k j (fun h => hk (Or.inr (Or.inr (Or.inr h))))).trans ((hug8.2 k j (fun h => hk (Or.inr (Or.inr (Or.inl h))))).trans ((hug7.2 k j (fun h => hk (Or.inr (Or.inl h)))).trans (hfg1 k j (fun h => hk (Or.inl h))))))))
    · skip
      refine mm_g 2 (pc1 := 13) (lo1 := [some (.ref 82), none]) (st1 := [.ref 82, .ref 82]) (H1 := mz_mk g1 x) rfl ?_
      refine mz_fgI (v := v5) rfl fd_7_22 (by decide) (sc_82 _) e_v5 ?_
      refine mz_cv rfl mt_7_37 (by decide) (sc_82 _) rfl (Nat.le_of_ble_eq_true rfl) (by omega) (c_X7_byteAt (by omega) hx hIg1 (by omega) (by omega) (fun v10 l_v10 u_v10 => ⟨_, rfl, ?_⟩))
      show mm_W d mmX7_step 19 [some (.ref 82), none] [.int (Int32.ofInt v10)] (mz_mk g1 x) Q
      refine mz_bip rfl bip_32 ?_
      refine mz_ic_eq (tgt := 37) rfl rfl (mz_rg l_v10 u_v10) ⟨by decide, by decide⟩ (fun c21_10 => ?_) (fun c21_10 => ?_)
      · skip
        refine mm_g 2 (pc1 := 39) (lo1 := [some (.ref 82), none]) (st1 := [.ref 82, .ref 82]) (H1 := mz_mk g1 x) rfl ?_
        refine mz_fgI (v := v5) rfl fd_7_22 (by decide) (sc_82 _) e_v5 ?_
        refine mm_g 1 (pc1 := 43) (lo1 := [some (.ref 82), none]) (st1 := [.int (Int32.ofInt 1), .int (Int32.ofInt v5), .ref 82]) (H1 := mz_mk g1 x) rfl ?_
        refine mz_iadd rfl ?_
        refine mz_pI rfl fd_7_22 (sc_82 _) hIg1 bd_82_3 (by omega) (by omega) (fun g11 hIg11 hug11 => ?_)
        refine mz_gt (tgt := 0) rfl rfl ?_
        exact ih2 ((700 - g11 82 3).toNat) (by have hz := (show g11 82 3 = (v5 + 1) from hug11.1); omega) g11 rfl hIg11 (fun k j hk => ((hug11.2 k j (fun h => hk h)).trans (hfg1 k j (fun h => hk h))))
      · skip
        refine mm_g 2 (pc1 := 26) (lo1 := [some (.ref 82), none]) (st1 := [.ref 82, .ref 82]) (H1 := mz_mk g1 x) rfl ?_
        refine mz_fgI (v := v5) rfl fd_7_22 (by decide) (sc_82 _) e_v5 ?_
        refine mz_cv rfl mt_7_37 (by decide) (sc_82 _) rfl (Nat.le_of_ble_eq_true rfl) (by omega) (c_X7_byteAt (by omega) hx hIg1 (by omega) (by omega) (fun v12 l_v12 u_v12 => ⟨_, rfl, ?_⟩))
        show mm_W d mmX7_step 32 [some (.ref 82), none] [.int (Int32.ofInt v12)] (mz_mk g1 x) Q
        refine mz_bip rfl bip_10 ?_
        refine mz_ic_ne (tgt := 50) rfl rfl (mz_rg l_v12 u_v12) ⟨by decide, by decide⟩ (fun c34_12 => ?_) (fun c34_12 => ?_)
        · skip
          refine mm_g 2 (pc1 := 52) (lo1 := [some (.ref 82), none]) (st1 := [.ref 82, .ref 82]) (H1 := mz_mk g1 x) rfl ?_
          refine mz_fgI (v := v5) rfl fd_7_22 (by decide) (sc_82 _) e_v5 ?_
          refine mz_pI rfl fd_7_28 (sc_82 _) hIg1 bd_82_5 (by omega) (by omega) (fun g13 hIg13 hug13 => ?_)
          refine mm_g 2 (pc1 := 60) (lo1 := [some (.ref 82), none]) (st1 := [.int (Int32.ofInt 0), .ref 82]) (H1 := mz_mk g13 x) rfl ?_
          refine mz_pI rfl fd_7_31 (sc_82 _) hIg13 bd_82_6 (by omega) (by omega) (fun g14 hIg14 hug14 => ?_)
          refine mm_g 1 (pc1 := 64) (lo1 := [some (.ref 82), none]) (st1 := [.ref 82]) (H1 := mz_mk g14 x) rfl ?_
          refine mz_fgI (v := v5) rfl fd_7_22 (by decide) (sc_82 _) (show g14 82 3 = v5 from ((hug14.2 82 3 (fun h => absurd h.2 (by decide))).trans ((hug13.2 82 3 (fun h => absurd h.2 (by decide))).trans e_v5))) ?_
          refine mm_g 1 (pc1 := 68) (lo1 := [some (.ref 82), none]) (st1 := [.ref 82, .int (Int32.ofInt v5)]) (H1 := mz_mk g14 x) rfl ?_
          refine mz_fgI (v := v6) rfl fd_7_19 (by decide) (sc_82 _) (show g14 82 2 = v6 from ((hug14.2 82 2 (fun h => absurd h.2 (by decide))).trans ((hug13.2 82 2 (fun h => absurd h.2 (by decide))).trans e_v6))) ?_
          refine mz_ic_lt (tgt := 82) rfl rfl (mz_rg l_v5 u_v5) (mz_rg l_v6 u_v6) (fun c71_14 => ?_) (fun c71_14 => ?_)
          · skip
            refine mm_g 2 (pc1 := 84) (lo1 := [some (.ref 82), none]) (st1 := [.ref 82, .ref 82]) (H1 := mz_mk g14 x) rfl ?_
            refine mz_fgI (v := v5) rfl fd_7_22 (by decide) (sc_82 _) (show g14 82 3 = v5 from ((hug14.2 82 3 (fun h => absurd h.2 (by decide))).trans ((hug13.2 82 3 (fun h => absurd h.2 (by decide))).trans e_v5))) ?_
            refine mz_cv rfl mt_7_37 (by decide) (sc_82 _) rfl (Nat.le_of_ble_eq_true rfl) (by omega) (c_X7_byteAt (by omega) hx hIg14 (by omega) (by omega) (fun v15 l_v15 u_v15 => ⟨_, rfl, ?_⟩))
            show mm_W d mmX7_step 90 [some (.ref 82), none] [.int (Int32.ofInt v15)] (mz_mk g14 x) Q
            refine mz_cs rfl mt_7_41 (by decide) rfl (Nat.le_of_ble_eq_true rfl) (by omega) (c_X7_isLetter (by omega) hx hIg14 (by omega) (by omega) (fun v16 l_v16 u_v16 => ⟨_, rfl, ?_⟩))
            show mm_W d mmX7_step 93 [some (.ref 82), none] [.int (Int32.ofInt v16)] (mz_mk g14 x) Q
            refine mz_if_eq (tgt := 103) rfl rfl (mz_rg l_v16 u_v16) (fun c93_16 => ?_) (fun c93_16 => ?_)
            · skip
              refine mm_g 2 (pc1 := 105) (lo1 := [some (.ref 82), none]) (st1 := [.ref 82, .ref 82]) (H1 := mz_mk g14 x) rfl ?_
              refine mz_fgI (v := v5) rfl fd_7_22 (by decide) (sc_82 _) (show g14 82 3 = v5 from ((hug14.2 82 3 (fun h => absurd h.2 (by decide))).trans ((hug13.2 82 3 (fun h => absurd h.2 (by decide))).trans e_v5))) ?_
              refine mz_cv rfl mt_7_37 (by decide) (sc_82 _) rfl (Nat.le_of_ble_eq_true rfl) (by omega) (c_X7_byteAt (by omega) hx hIg14 (by omega) (by omega) (fun v17 l_v17 u_v17 => ⟨_, rfl, ?_⟩))
              show mm_W d mmX7_step 111 [some (.ref 82), none] [.int (Int32.ofInt v17)] (mz_mk g14 x) Q
              refine mz_cs rfl mt_7_48 (by decide) rfl (Nat.le_of_ble_eq_true rfl) (by omega) (c_X7_isDigit (by omega) hx hIg14 (by omega) (by omega) (fun v18 l_v18 u_v18 => ⟨_, rfl, ?_⟩))
              show mm_W d mmX7_step 114 [some (.ref 82), none] [.int (Int32.ofInt v18)] (mz_mk g14 x) Q
              refine mz_if_eq (tgt := 124) rfl rfl (mz_rg l_v18 u_v18) (fun c114_18 => ?_) (fun c114_18 => ?_)
              · skip
                refine mm_g 2 (pc1 := 126) (lo1 := [some (.ref 82), none]) (st1 := [.ref 82, .ref 82]) (H1 := mz_mk g14 x) rfl ?_
                refine mz_fgI (v := v5) rfl fd_7_22 (by decide) (sc_82 _) (show g14 82 3 = v5 from ((hug14.2 82 3 (fun h => absurd h.2 (by decide))).trans ((hug13.2 82 3 (fun h => absurd h.2 (by decide))).trans e_v5))) ?_
                refine mz_cv rfl mt_7_37 (by decide) (sc_82 _) rfl (Nat.le_of_ble_eq_true rfl) (by omega) (c_X7_byteAt (by omega) hx hIg14 (by omega) (by omega) (fun v19 l_v19 u_v19 => ⟨_, rfl, ?_⟩))
                show mm_W d mmX7_step 132 [some (.ref 82), none] [.int (Int32.ofInt v19)] (mz_mk g14 x) Q
                refine mm_g 3 (pc1 := 135) (lo1 := [some (.ref 82), some (.int (Int32.ofInt v19))]) (st1 := [.int (Int32.ofInt v19), .ref 82]) (H1 := mz_mk g14 x) rfl ?_
                refine mz_cs rfl mt_7_54 (by decide) rfl (Nat.le_of_ble_eq_true rfl) (by omega) (c_X7_isSign (by omega) hx hIg14 (by omega) (by omega) (fun v20 l_v20 u_v20 => ⟨_, rfl, ?_⟩))
                show mm_W d mmX7_step 138 [some (.ref 82), some (.int (Int32.ofInt v19))] [.int (Int32.ofInt v20), .ref 82] (mz_mk g14 x) Q
                refine mz_if_eq (tgt := 145) rfl rfl (mz_rg l_v20 u_v20) (fun c138_20 => ?_) (fun c138_20 => ?_)
                · skip
                  refine mm_g 1 (pc1 := 146) (lo1 := [some (.ref 82), some (.int (Int32.ofInt v19))]) (st1 := [.int (Int32.ofInt 3), .ref 82]) (H1 := mz_mk g14 x) rfl ?_
                  refine mz_pI rfl fd_7_25 (sc_82 _) hIg14 bd_82_4 (by omega) (by omega) (fun g21 hIg21 hug21 => ?_)
                  refine mm_g 2 (pc1 := 151) (lo1 := [some (.ref 82), some (.int (Int32.ofInt v19))]) (st1 := [.ref 82, .ref 82]) (H1 := mz_mk g21 x) rfl ?_
                  refine mz_fgI (v := v5) rfl fd_7_22 (by decide) (sc_82 _) (show g21 82 3 = v5 from ((hug21.2 82 3 (fun h => absurd h.2 (by decide))).trans ((hug14.2 82 3 (fun h => absurd h.2 (by decide))).trans ((hug13.2 82 3 (fun h => absurd h.2 (by decide))).trans e_v5)))) ?_
                  refine mm_g 1 (pc1 := 155) (lo1 := [some (.ref 82), some (.int (Int32.ofInt v19))]) (st1 := [.int (Int32.ofInt 1), .int (Int32.ofInt v5), .ref 82]) (H1 := mz_mk g21 x) rfl ?_
                  refine mz_iadd rfl ?_
                  refine mz_pI rfl fd_7_22 (sc_82 _) hIg21 bd_82_3 (by omega) (by omega) (fun g22 hIg22 hug22 => ?_)
                  exact mm_rt rfl rfl (hQ _ hIg22 (fun k j hk => ((hug22.2 k j (fun h => hk (Or.inl h))).trans ((hug21.2 k j (fun h => hk (Or.inr (Or.inr (Or.inr h))))).trans ((hug14.2 k j (fun h => hk (Or.inr (Or.inr (Or.inl h))))).trans ((hug13.2 k j (fun h => hk (Or.inr (Or.inl h)))).trans (hfg1 k j (fun h => hk (Or.inl h)))))))))
                · skip
                  refine mm_g 1 (pc1 := 142) (lo1 := [some (.ref 82), some (.int (Int32.ofInt v19))]) (st1 := [.int (Int32.ofInt v19), .ref 82]) (H1 := mz_mk g14 x) rfl ?_
                  refine mz_gt (tgt := 146) rfl rfl ?_
                  refine mz_pI rfl fd_7_25 (sc_82 _) hIg14 bd_82_4 (by omega) (by omega) (fun g23 hIg23 hug23 => ?_)
                  refine mm_g 2 (pc1 := 151) (lo1 := [some (.ref 82), some (.int (Int32.ofInt v19))]) (st1 := [.ref 82, .ref 82]) (H1 := mz_mk g23 x) rfl ?_
                  refine mz_fgI (v := v5) rfl fd_7_22 (by decide) (sc_82 _) (show g23 82 3 = v5 from ((hug23.2 82 3 (fun h => absurd h.2 (by decide))).trans ((hug14.2 82 3 (fun h => absurd h.2 (by decide))).trans ((hug13.2 82 3 (fun h => absurd h.2 (by decide))).trans e_v5)))) ?_
                  refine mm_g 1 (pc1 := 155) (lo1 := [some (.ref 82), some (.int (Int32.ofInt v19))]) (st1 := [.int (Int32.ofInt 1), .int (Int32.ofInt v5), .ref 82]) (H1 := mz_mk g23 x) rfl ?_
                  refine mz_iadd rfl ?_
                  refine mz_pI rfl fd_7_22 (sc_82 _) hIg23 bd_82_3 (by omega) (by omega) (fun g24 hIg24 hug24 => ?_)
                  exact mm_rt rfl rfl (hQ _ hIg24 (fun k j hk => ((hug24.2 k j (fun h => hk (Or.inl h))).trans ((hug23.2 k j (fun h => hk (Or.inr (Or.inr (Or.inr h))))).trans ((hug14.2 k j (fun h => hk (Or.inr (Or.inr (Or.inl h))))).trans ((hug13.2 k j (fun h => hk (Or.inr (Or.inl h)))).trans (hfg1 k j (fun h => hk (Or.inl h)))))))))
              · skip
                refine mm_g 1 (pc1 := 118) (lo1 := [some (.ref 82), none]) (st1 := [.ref 82]) (H1 := mz_mk g14 x) rfl ?_
                refine mz_cv rfl mt_7_51 (by decide) (sc_82 _) rfl (Nat.le_of_ble_eq_true rfl) (by omega) (c_X7_stepNumber (by omega) hx hIg14 (fun g25 hIg25 hfg25 => ⟨_, rfl, ?_⟩))
                show mm_W d mmX7_step 121 [some (.ref 82), none] [] (mz_mk g25 x) Q
                refine mz_gt (tgt := 159) rfl rfl ?_
                exact mm_rt rfl rfl (hQ _ hIg25 (fun k j hk => ((hfg25 k j (fun h => hk (Or.elim h (fun h => (Or.inr (Or.inr (Or.inr h)))) (fun h => (Or.elim h (fun h => (Or.inr (Or.inr (Or.inl h)))) (fun h => (Or.inl h))))))).trans ((hug14.2 k j (fun h => hk (Or.inr (Or.inr (Or.inl h))))).trans ((hug13.2 k j (fun h => hk (Or.inr (Or.inl h)))).trans (hfg1 k j (fun h => hk (Or.inl h))))))))
            · skip
              refine mm_g 1 (pc1 := 97) (lo1 := [some (.ref 82), none]) (st1 := [.ref 82]) (H1 := mz_mk g14 x) rfl ?_
              refine mz_cv rfl mt_7_45 (by decide) (sc_82 _) rfl (Nat.le_of_ble_eq_true rfl) (by omega) (c_X7_stepWord (by omega) hx hIg14 (fun g26 hIg26 hfg26 => ⟨_, rfl, ?_⟩))
              show mm_W d mmX7_step 100 [some (.ref 82), none] [] (mz_mk g26 x) Q
              refine mz_gt (tgt := 159) rfl rfl ?_
              exact mm_rt rfl rfl (hQ _ hIg26 (fun k j hk => ((hfg26 k j (fun h => hk (Or.elim h (fun h => (Or.inr (Or.inr (Or.inr h)))) (fun h => (Or.inl h))))).trans ((hug14.2 k j (fun h => hk (Or.inr (Or.inr (Or.inl h))))).trans ((hug13.2 k j (fun h => hk (Or.inr (Or.inl h)))).trans (hfg1 k j (fun h => hk (Or.inl h))))))))
          · exfalso; omega
        · skip
          refine mm_g 2 (pc1 := 39) (lo1 := [some (.ref 82), none]) (st1 := [.ref 82, .ref 82]) (H1 := mz_mk g1 x) rfl ?_
          refine mz_fgI (v := v5) rfl fd_7_22 (by decide) (sc_82 _) e_v5 ?_
          refine mm_g 1 (pc1 := 43) (lo1 := [some (.ref 82), none]) (st1 := [.int (Int32.ofInt 1), .int (Int32.ofInt v5), .ref 82]) (H1 := mz_mk g1 x) rfl ?_
          refine mz_iadd rfl ?_
          refine mz_pI rfl fd_7_22 (sc_82 _) hIg1 bd_82_3 (by omega) (by omega) (fun g27 hIg27 hug27 => ?_)
          refine mz_gt (tgt := 0) rfl rfl ?_
          exact ih2 ((700 - g27 82 3).toNat) (by have hz := (show g27 82 3 = (v5 + 1) from hug27.1); omega) g27 rfl hIg27 (fun k j hk => ((hug27.2 k j (fun h => hk h)).trans (hfg1 k j (fun h => hk h))))
  exact L4 _ g rfl hI (fun _ _ _ => rfl)
def fw_X7_open (x : mm_X) (a1 : Int) : Nat → Nat → Prop := fun k j => (k = 82 ∧ j = 1) ∨ (k = 82 ∧ j = 2) ∨ (k = 82 ∧ j = 3) ∨ (k = 82 ∧ j = 5) ∨ (k = 82 ∧ j = 6) ∨ (k = 82 ∧ j = 4)
theorem c_X7_open {d : Nat} (hd : 4 ≤ d) {x : mm_X} (hx : mk_x x) {g : mz_G} (hI : mz_inv g) {a1 : Int} (l_a1 : 0 ≤ a1) (u_a1 : a1 ≤ 700) {Q : (Option Value ⊕ Nat) → mm_H → Prop} (hQ : ∀ (g1 : mz_G), mz_inv g1 → mz_fr (fw_X7_open x a1) g g1 → Q (.inl none) (mz_mk g1 x)) : mm_C d 80 [.ref 82, .int (Int32.ofInt a1)] (mz_mk g x) Q := by
  refine ⟨mmX7_open, [some (.ref 82), some (.int (Int32.ofInt a1))], rfl, rfl, ?_⟩
  refine mm_g 2 (pc1 := 2) (lo1 := [some (.ref 82), some (.int (Int32.ofInt a1))]) (st1 := [.int (Int32.ofInt 0), .ref 82]) (H1 := mz_mk g x) rfl ?_
  refine mz_pI rfl fd_7_15 (sc_82 _) hI bd_82_1 (by omega) (by omega) (fun g1 hIg1 hug1 => ?_)
  refine mm_g 2 (pc1 := 7) (lo1 := [some (.ref 82), some (.int (Int32.ofInt a1))]) (st1 := [.int (Int32.ofInt a1), .ref 82]) (H1 := mz_mk g1 x) rfl ?_
  refine mz_pI rfl fd_7_19 (sc_82 _) hIg1 bd_82_2 (by omega) (by omega) (fun g2 hIg2 hug2 => ?_)
  refine mm_g 2 (pc1 := 12) (lo1 := [some (.ref 82), some (.int (Int32.ofInt a1))]) (st1 := [.int (Int32.ofInt 0), .ref 82]) (H1 := mz_mk g2 x) rfl ?_
  refine mz_pI rfl fd_7_22 (sc_82 _) hIg2 bd_82_3 (by omega) (by omega) (fun g3 hIg3 hug3 => ?_)
  refine mm_g 1 (pc1 := 16) (lo1 := [some (.ref 82), some (.int (Int32.ofInt a1))]) (st1 := [.ref 82]) (H1 := mz_mk g3 x) rfl ?_
  refine mz_cv rfl mt_7_34 (by decide) (sc_82 _) rfl (Nat.le_of_ble_eq_true rfl) (by omega) (c_X7_step (by omega) hx hIg3 (fun g4 hIg4 hfg4 => ⟨_, rfl, ?_⟩))
  show mm_W d mmX7_open 19 [some (.ref 82), some (.int (Int32.ofInt a1))] [] (mz_mk g4 x) Q
  exact mm_rt rfl rfl (hQ _ hIg4 (fun k j hk => ((hfg4 k j (fun h => hk (Or.elim h (fun h => (Or.inr (Or.inr (Or.inl h)))) (fun h => (Or.elim h (fun h => (Or.inr (Or.inr (Or.inr (Or.inl h))))) (fun h => (Or.elim h (fun h => (Or.inr (Or.inr (Or.inr (Or.inr (Or.inl h)))))) (fun h => (Or.inr (Or.inr (Or.inr (Or.inr (Or.inr h))))))))))))).trans ((hug3.2 k j (fun h => hk (Or.inr (Or.inr (Or.inl h))))).trans ((hug2.2 k j (fun h => hk (Or.inr (Or.inl h)))).trans (hug1.2 k j (fun h => hk (Or.inl h))))))))
def fw_X4_begin (x : mm_X) (a1 : Int) : Nat → Nat → Prop := fun k j => (k = 81 ∧ j = 1) ∨ (k = 81 ∧ j = 2) ∨ (k = 82 ∧ j = 1) ∨ (k = 82 ∧ j = 2) ∨ (k = 82 ∧ j = 3) ∨ (k = 82 ∧ j = 5) ∨ (k = 82 ∧ j = 6) ∨ (k = 82 ∧ j = 4)
theorem c_X4_begin {d : Nat} (hd : 5 ≤ d) {x : mm_X} (hx : mk_x x) {g : mz_G} (hI : mz_inv g) {a1 : Int} (l_a1 : 0 ≤ a1) (u_a1 : a1 ≤ 700) {Q : (Option Value ⊕ Nat) → mm_H → Prop} (hQ : ∀ (g1 : mz_G), mz_inv g1 → mz_fr (fw_X4_begin x a1) g g1 → Q (.inl none) (mz_mk g1 x)) : mm_C d 38 [.ref 81, .int (Int32.ofInt a1)] (mz_mk g x) Q := by
  refine ⟨mmX4_begin, [some (.ref 81), some (.int (Int32.ofInt a1))], rfl, rfl, ?_⟩
  refine mm_g 2 (pc1 := 2) (lo1 := [some (.ref 81), some (.int (Int32.ofInt a1))]) (st1 := [.int (Int32.ofInt 0), .ref 81]) (H1 := mz_mk g x) rfl ?_
  refine mz_pI rfl fd_4_18 (sc_81 _) hI bd_81_1 (by omega) (by omega) (fun g1 hIg1 hug1 => ?_)
  refine mm_g 2 (pc1 := 7) (lo1 := [some (.ref 81), some (.int (Int32.ofInt a1))]) (st1 := [.int (Int32.ofInt (-1)), .ref 81]) (H1 := mz_mk g1 x) rfl ?_
  refine mz_pI rfl fd_4_22 (sc_81 _) hIg1 bd_81_2 (by omega) (by omega) (fun g2 hIg2 hug2 => ?_)
  refine mm_g 1 (pc1 := 11) (lo1 := [some (.ref 81), some (.int (Int32.ofInt a1))]) (st1 := [.ref 81]) (H1 := mz_mk g2 x) rfl ?_
  refine mz_fgR (v := 82) rfl fd_4_12 (by decide) (sc_81 _) (rf_81_0 _ _ _) ?_
  refine mm_g 1 (pc1 := 15) (lo1 := [some (.ref 81), some (.int (Int32.ofInt a1))]) (st1 := [.int (Int32.ofInt a1), .ref 82]) (H1 := mz_mk g2 x) rfl ?_
  refine mz_cv rfl mt_4_45 (by decide) (sc_82 _) rfl (Nat.le_of_ble_eq_true rfl) (by omega) (c_X7_open (by omega) hx hIg2 l_a1 u_a1 (fun g3 hIg3 hfg3 => ⟨_, rfl, ?_⟩))
  show mm_W d mmX4_begin 18 [some (.ref 81), some (.int (Int32.ofInt a1))] [] (mz_mk g3 x) Q
  exact mm_rt rfl rfl (hQ _ hIg3 (fun k j hk => ((hfg3 k j (fun h => hk (Or.elim h (fun h => (Or.inr (Or.inr (Or.inl h)))) (fun h => (Or.elim h (fun h => (Or.inr (Or.inr (Or.inr (Or.inl h))))) (fun h => (Or.elim h (fun h => (Or.inr (Or.inr (Or.inr (Or.inr (Or.inl h)))))) (fun h => (Or.elim h (fun h => (Or.inr (Or.inr (Or.inr (Or.inr (Or.inr (Or.inl h))))))) (fun h => (Or.elim h (fun h => (Or.inr (Or.inr (Or.inr (Or.inr (Or.inr (Or.inr (Or.inl h)))))))) (fun h => (Or.inr (Or.inr (Or.inr (Or.inr (Or.inr (Or.inr (Or.inr h))))))))))))))))))).trans ((hug2.2 k j (fun h => hk (Or.inr (Or.inl h)))).trans (hug1.2 k j (fun h => hk (Or.inl h)))))))
theorem c_X7_kind {d : Nat} (hd : 1 ≤ d) {x : mm_X} (hx : mk_x x) {g : mz_G} (hI : mz_inv g) {Q : (Option Value ⊕ Nat) → mm_H → Prop} (hQ : ∀ (r : Int), (-2147483648) ≤ r → r ≤ 2147483647 → Q (.inl (some (.int (Int32.ofInt r)))) (mz_mk g x)) : mm_C d 88 [.ref 82] (mz_mk g x) Q := by
  refine ⟨mmX7_kind, [some (.ref 82)], rfl, rfl, ?_⟩
  refine mm_g 1 (pc1 := 1) (lo1 := [some (.ref 82)]) (st1 := [.ref 82]) (H1 := mz_mk g x) rfl ?_
  refine mz_gI rfl fd_7_25 (by decide) (sc_82 _) hI bd_82_4 (fun v1 e_v1 l_v1 u_v1 => ?_)
  exact mm_rt rfl rfl (hQ _ (by omega) (by omega))
theorem c_X4_goesOn {d : Nat} (hd : 2 ≤ d) {x : mm_X} (hx : mk_x x) {g : mz_G} (hI : mz_inv g) {Q : (Option Value ⊕ Nat) → mm_H → Prop} (hQ : ∀ (r : Int), 0 ≤ r → r ≤ 1 → Q (.inl (some (.int (Int32.ofInt r)))) (mz_mk g x)) : mm_C d 39 [.ref 81] (mz_mk g x) Q := by
  refine ⟨mmX4_goesOn, [some (.ref 81)], rfl, rfl, ?_⟩
  refine mm_g 1 (pc1 := 1) (lo1 := [some (.ref 81)]) (st1 := [.ref 81]) (H1 := mz_mk g x) rfl ?_
  refine mz_gI rfl fd_4_18 (by decide) (sc_81 _) hI bd_81_1 (fun v1 e_v1 l_v1 u_v1 => ?_)
  refine mz_if_ne (tgt := 21) rfl rfl (mz_rg l_v1 u_v1) (fun c4_1 => ?_) (fun c4_1 => ?_)
  · skip
    refine mm_g 1 (pc1 := 22) (lo1 := [some (.ref 81)]) (st1 := [.int (Int32.ofInt 0)]) (H1 := mz_mk g x) rfl ?_
    exact mz_rtZ rfl (by decide) (by omega) (hQ _ (by decide) (by decide))
  · skip
    refine mm_g 1 (pc1 := 8) (lo1 := [some (.ref 81)]) (st1 := [.ref 81]) (H1 := mz_mk g x) rfl ?_
    refine mz_fgR (v := 82) rfl fd_4_12 (by decide) (sc_81 _) (rf_81_0 _ _ _) ?_
    refine mz_cv rfl mt_4_48 (by decide) (sc_82 _) rfl (Nat.le_of_ble_eq_true rfl) (by omega) (c_X7_kind (by omega) hx hI (fun v2 l_v2 u_v2 => ⟨_, rfl, ?_⟩))
    show mm_W d mmX4_goesOn 14 [some (.ref 81)] [.int (Int32.ofInt v2)] (mz_mk g x) Q
    refine mz_if_eq (tgt := 21) rfl rfl (mz_rg l_v2 u_v2) (fun c14_2 => ?_) (fun c14_2 => ?_)
    · skip
      refine mm_g 1 (pc1 := 22) (lo1 := [some (.ref 81)]) (st1 := [.int (Int32.ofInt 0)]) (H1 := mz_mk g x) rfl ?_
      exact mz_rtZ rfl (by decide) (by omega) (hQ _ (by decide) (by decide))
    · skip
      refine mm_g 1 (pc1 := 18) (lo1 := [some (.ref 81)]) (st1 := [.int (Int32.ofInt 1)]) (H1 := mz_mk g x) rfl ?_
      refine mz_gt (tgt := 22) rfl rfl ?_
      exact mz_rtZ rfl (by decide) (by omega) (hQ _ (by decide) (by decide))
theorem c_X7_tokenSize {d : Nat} (hd : 1 ≤ d) {x : mm_X} (hx : mk_x x) {g : mz_G} (hI : mz_inv g) {Q : (Option Value ⊕ Nat) → mm_H → Prop} (hQ : ∀ (r : Int), (-700) ≤ r → r ≤ 700 → Q (.inl (some (.int (Int32.ofInt r)))) (mz_mk g x)) : mm_C d 90 [.ref 82] (mz_mk g x) Q := by
  refine ⟨mmX7_tokenSize, [some (.ref 82)], rfl, rfl, ?_⟩
  refine mm_g 1 (pc1 := 1) (lo1 := [some (.ref 82)]) (st1 := [.ref 82]) (H1 := mz_mk g x) rfl ?_
  refine mz_gI rfl fd_7_22 (by decide) (sc_82 _) hI bd_82_3 (fun v1 e_v1 l_v1 u_v1 => ?_)
  refine mm_g 1 (pc1 := 5) (lo1 := [some (.ref 82)]) (st1 := [.ref 82, .int (Int32.ofInt v1)]) (H1 := mz_mk g x) rfl ?_
  refine mz_gI rfl fd_7_28 (by decide) (sc_82 _) hI bd_82_5 (fun v2 e_v2 l_v2 u_v2 => ?_)
  refine mz_isub rfl ?_
  exact mm_rt rfl rfl (hQ _ (by omega) (by omega))
theorem c_J0_coder {d : Nat} (hd : 1 ≤ d) {x : mm_X} (hx : mk_x x) {g : mz_G} (hI : mz_inv g) {q0 : Nat} (h_q0 : q0 < 28) {Q : (Option Value ⊕ Nat) → mm_H → Prop} (hQ : ∀ (r : Int), 0 ≤ r → r ≤ 0 → (r = 0) → Q (.inl (some (.int (Int32.ofInt r)))) (mz_mk g x)) : mm_C d 295 [.ref (1000 + q0)] (mz_mk g x) Q := by
  refine ⟨mmJ0_coder, [some (.ref (1000 + q0))], rfl, rfl, ?_⟩
  refine mz_gs0 rfl rfl ?_
  refine mz_if_eq (tgt := 13) rfl rfl ⟨by decide, by decide⟩ (fun c3_0 => ?_) (fun c3_0 => ?_)
  · exfalso; omega
  · skip
    refine mm_g 1 (pc1 := 7) (lo1 := [some (.ref (1000 + q0))]) (st1 := [.ref (1000 + q0)]) (H1 := mz_mk g x) rfl ?_
    refine mz_sfc rfl rfl rfl (kc_str h_q0 _) ?_
    refine mz_gt (tgt := 14) rfl rfl ?_
    exact mz_rtZ rfl (by decide) (by omega) (hQ _ (by decide) (by decide) (by omega))
theorem c_J0_length {d : Nat} (hd : 2 ≤ d) {x : mm_X} (hx : mk_x x) {g : mz_G} (hI : mz_inv g) {q0 : Nat} (h_q0 : q0 < 28) {Q : (Option Value ⊕ Nat) → mm_H → Prop} (hQ : ∀ (r : Int), 0 ≤ r → r ≤ 100 → (r = (mz_sl q0 : Int)) → Q (.inl (some (.int (Int32.ofInt r)))) (mz_mk g x)) : mm_C d 293 [.ref (1000 + q0)] (mz_mk g x) Q := by
  refine ⟨mmJ0_length, [some (.ref (1000 + q0))], rfl, rfl, ?_⟩
  refine mm_g 1 (pc1 := 1) (lo1 := [some (.ref (1000 + q0))]) (st1 := [.ref (1000 + q0)]) (H1 := mz_mk g x) rfl ?_
  refine mz_sfv rfl rfl rfl (kc_str h_q0 _) ?_
  refine mz_al rfl (sb_sh h_q0 _) (by decide) ?_
  have ml := mz_sl_le h_q0
  refine mm_g 1 (pc1 := 6) (lo1 := [some (.ref (1000 + q0))]) (st1 := [.ref (1000 + q0), .int (Int32.ofInt ((mz_sl q0) : Int))]) (H1 := mz_mk g x) rfl ?_
  refine mz_cv rfl mt_16_335 (by decide) (kc_str h_q0 _) rfl (Nat.le_of_ble_eq_true rfl) (by omega) (c_J0_coder (by omega) hx hI h_q0 (fun v1 l_v1 u_v1 hp2 => ⟨_, rfl, ?_⟩))
  show mm_W d mmJ0_length 9 [some (.ref (1000 + q0))] [.int (Int32.ofInt v1), .int (Int32.ofInt ((mz_sl q0) : Int))] (mz_mk g x) Q
  refine mz_ishr rfl (fun v3 e_v3 hwv3 => ?_)
  have b_v3 : 0 ≤ v3 ∧ v3 ≤ 100 := by rw [e_v3]; exact mz_shr_b (by omega) (by omega) (by omega) (by omega)
  have l_v3 := b_v3.1
  have u_v3 := b_v3.2
  exact mm_rt rfl rfl (hQ _ (by omega) (by omega) (by rw [e_v3]; exact mz_shr0 (by omega) (by omega) (by omega)))
theorem c_J0_isLatin1 {d : Nat} (hd : 1 ≤ d) {x : mm_X} (hx : mk_x x) {g : mz_G} (hI : mz_inv g) {q0 : Nat} (h_q0 : q0 < 28) {Q : (Option Value ⊕ Nat) → mm_H → Prop} (hQ : ∀ (r : Int), 1 ≤ r → r ≤ 1 → (r = 1) → Q (.inl (some (.int (Int32.ofInt r)))) (mz_mk g x)) : mm_C d 296 [.ref (1000 + q0)] (mz_mk g x) Q := by
  refine ⟨mmJ0_isLatin1, [some (.ref (1000 + q0))], rfl, rfl, ?_⟩
  refine mz_gs0 rfl rfl ?_
  refine mz_if_eq (tgt := 17) rfl rfl ⟨by decide, by decide⟩ (fun c3_0 => ?_) (fun c3_0 => ?_)
  · exfalso; omega
  · skip
    refine mm_g 1 (pc1 := 7) (lo1 := [some (.ref (1000 + q0))]) (st1 := [.ref (1000 + q0)]) (H1 := mz_mk g x) rfl ?_
    refine mz_sfc rfl rfl rfl (kc_str h_q0 _) ?_
    refine mz_if_ne (tgt := 17) rfl rfl ⟨by decide, by decide⟩ (fun c10_0 => ?_) (fun c10_0 => ?_)
    · exfalso; omega
    · skip
      refine mm_g 1 (pc1 := 14) (lo1 := [some (.ref (1000 + q0))]) (st1 := [.int (Int32.ofInt 1)]) (H1 := mz_mk g x) rfl ?_
      refine mz_gt (tgt := 18) rfl rfl ?_
      exact mz_rtZ rfl (by decide) (by omega) (hQ _ (by decide) (by decide) (by omega))
theorem c_J3_checkIndex {d : Nat} (hd : 1 ≤ d) {x : mm_X} (hx : mk_x x) {g : mz_G} (hI : mz_inv g) {a1 : Int} (l_a1 : (-2147483648) ≤ a1) (u_a1 : a1 ≤ 2147483647) {a2 : Int} (l_a2 : (-2147483648) ≤ a2) (u_a2 : a2 ≤ 2147483647) {q3 : Value} (h_q3 : mm_long q3 = false) (p1 : 0 ≤ a1 ∧ a1 < a2) {Q : (Option Value ⊕ Nat) → mm_H → Prop} (hQ : ∀ (r : Int), 0 ≤ r → r ≤ 2147483646 → Q (.inl (some (.int (Int32.ofInt r)))) (mz_mk g x)) : mm_C d 299 [.int (Int32.ofInt a1), .int (Int32.ofInt a2), q3] (mz_mk g x) Q := by
  refine ⟨mmJ3_checkIndex, [some (.int (Int32.ofInt a1)), some (.int (Int32.ofInt a2)), some (q3)], rfl, (by simp only [mm_enter, mm_slots, mm_pad, h_q3]; rfl), ?_⟩
  refine mm_g 1 (pc1 := 1) (lo1 := [some (.int (Int32.ofInt a1)), some (.int (Int32.ofInt a2)), some (q3)]) (st1 := [.int (Int32.ofInt a1)]) (H1 := mz_mk g x) rfl ?_
  refine mz_if_lt (tgt := 9) rfl rfl (mz_rg l_a1 u_a1) (fun c1_0 => ?_) (fun c1_0 => ?_)
  · exfalso; omega
  · skip
    refine mm_g 2 (pc1 := 6) (lo1 := [some (.int (Int32.ofInt a1)), some (.int (Int32.ofInt a2)), some (q3)]) (st1 := [.int (Int32.ofInt a2), .int (Int32.ofInt a1)]) (H1 := mz_mk g x) rfl ?_
    refine mz_ic_lt (tgt := 16) rfl rfl (mz_rg l_a1 u_a1) (mz_rg l_a2 u_a2) (fun c6_0 => ?_) (fun c6_0 => ?_)
    · skip
      refine mm_g 1 (pc1 := 17) (lo1 := [some (.int (Int32.ofInt a1)), some (.int (Int32.ofInt a2)), some (q3)]) (st1 := [.int (Int32.ofInt a1)]) (H1 := mz_mk g x) rfl ?_
      exact mm_rt rfl rfl (hQ _ (by omega) (by omega))
    · exfalso; omega
theorem c_J0_checkIndex {d : Nat} (hd : 2 ≤ d) {x : mm_X} (hx : mk_x x) {g : mz_G} (hI : mz_inv g) {a1 : Int} (l_a1 : (-2147483648) ≤ a1) (u_a1 : a1 ≤ 2147483647) {a2 : Int} (l_a2 : (-2147483648) ≤ a2) (u_a2 : a2 ≤ 2147483647) (p1 : 0 ≤ a1 ∧ a1 < a2) {Q : (Option Value ⊕ Nat) → mm_H → Prop} (hQ : Q (.inl none) (mz_mk g x)) : mm_C d 297 [.int (Int32.ofInt a1), .int (Int32.ofInt a2)] (mz_mk g x) Q := by
  refine ⟨mmJ0_checkIndex, [some (.int (Int32.ofInt a1)), some (.int (Int32.ofInt a2))], rfl, rfl, ?_⟩
  refine mm_g 2 (pc1 := 2) (lo1 := [some (.int (Int32.ofInt a1)), some (.int (Int32.ofInt a2))]) (st1 := [.int (Int32.ofInt a2), .int (Int32.ofInt a1)]) (H1 := mz_mk g x) rfl ?_
  refine mz_gs1 rfl rfl ?_
  refine mz_cs rfl mt_16_1059 (by decide) rfl (Nat.le_of_ble_eq_true rfl) (by omega) (c_J3_checkIndex (by omega) hx hI l_a1 u_a1 l_a2 u_a2 (mz_lrf _) (by omega) (fun v1 l_v1 u_v1 => ⟨_, rfl, ?_⟩))
  show mm_W d mmJ0_checkIndex 8 [some (.int (Int32.ofInt a1)), some (.int (Int32.ofInt a2))] [.int (Int32.ofInt v1)] (mz_mk g x) Q
  refine mm_g 1 (pc1 := 9) (lo1 := [some (.int (Int32.ofInt a1)), some (.int (Int32.ofInt a2))]) (st1 := []) (H1 := mz_mk g x) rfl ?_
  exact mm_rt rfl rfl (hQ)
theorem c_J1_charAt {d : Nat} (hd : 3 ≤ d) {x : mm_X} (hx : mk_x x) {g : mz_G} (hI : mz_inv g) {q1 : Nat} (h_q1 : q1 < 28) {a2 : Int} (l_a2 : (-2147483648) ≤ a2) (u_a2 : a2 ≤ 2147483647) (p1 : 0 ≤ a2 ∧ a2 < (mz_sl q1 : Int)) {Q : (Option Value ⊕ Nat) → mm_H → Prop} (hQ : ∀ (r : Int), 0 ≤ r → r ≤ 255 → Q (.inl (some (.int (Int32.ofInt r)))) (mz_mk g x)) : mm_C d 298 [.ref ((1000 + q1) + 1000), .int (Int32.ofInt a2)] (mz_mk g x) Q := by
  refine ⟨mmJ1_charAt, [some (.ref ((1000 + q1) + 1000)), some (.int (Int32.ofInt a2))], rfl, rfl, ?_⟩
  refine mm_g 2 (pc1 := 2) (lo1 := [some (.ref ((1000 + q1) + 1000)), some (.int (Int32.ofInt a2))]) (st1 := [.ref ((1000 + q1) + 1000), .int (Int32.ofInt a2)]) (H1 := mz_mk g x) rfl ?_
  refine mz_al rfl (sb_sh h_q1 _) (by decide) ?_
  have ml := mz_sl_le h_q1
  refine mz_cs rfl mt_17_9 (by decide) rfl (Nat.le_of_ble_eq_true rfl) (by omega) (c_J0_checkIndex (by omega) hx hI l_a2 u_a2 (by omega) (by omega) (by omega) (⟨_, rfl, ?_⟩))
  show mm_W d mmJ1_charAt 6 [some (.ref ((1000 + q1) + 1000)), some (.int (Int32.ofInt a2))] [] (mz_mk g x) Q
  refine mm_g 2 (pc1 := 8) (lo1 := [some (.ref ((1000 + q1) + 1000)), some (.int (Int32.ofInt a2))]) (st1 := [.int (Int32.ofInt a2), .ref ((1000 + q1) + 1000)]) (H1 := mz_mk g x) rfl ?_
  have ml := mz_sl_le h_q1
  refine mz_bI rfl (sb_sh h_q1 _) (Or.inr rfl) (by omega) (by omega) (by omega) hI (sb_bd _ _) (fun v1 e_v1 l_v1 u_v1 => ?_)
  refine mz_sip rfl sip_255 ?_
  refine mz_iand rfl (fun v2 e_v2 hwv2 => ?_)
  have b_v2 : 0 ≤ v2 ∧ v2 ≤ 255 := by rw [e_v2]; exact mz_and_r (by omega) (by omega) (mz_rg l_v1 u_v1)
  have l_v2 := b_v2.1
  have u_v2 := b_v2.2
  refine mz_i2c rfl (by omega) (by omega) ?_
  exact mz_rtC rfl rfl (by omega) (by omega) (hQ _ (by omega) (by omega))
