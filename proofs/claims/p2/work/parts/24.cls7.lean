/-! CONTRACTS OF THE CLASS, by program (wip/p2/tools/gen23.py) -/
def fl_X11_game_55 (x : mm_X) (a1 : Int) (a2 : Int) (a3 : Int) : Nat → Nat → Prop := fun k j => k = 122 ∨ k = ((x.1 + 36) + 2) ∨ k = ((x.1 + 36) + 3)
def fl_X11_game_64 (x : mm_X) (a1 : Int) (a2 : Int) (a3 : Int) : Nat → Nat → Prop := fun k j => k = 122 ∨ k = ((x.1 + 36) + 2) ∨ k = ((x.1 + 36) + 3)
def fw_X11_game (x : mm_X) (a1 : Int) (a2 : Int) (a3 : Int) : Nat → Nat → Prop := fun k j => k = 122 ∨ k = ((x.1 + 36) + 2) ∨ k = ((x.1 + 36) + 3)
theorem c_X11_game {d : Nat} (hd : 17 ≤ d) {x : mm_X} (hx : mk_x x) {g : mz_G} (hI : mz_inv g) {a1 : Int} (l_a1 : (-2147483648) ≤ a1) (u_a1 : a1 ≤ 2147483647) {a2 : Int} (l_a2 : (-2147483648) ≤ a2) (u_a2 : a2 ≤ 2147483647) {a3 : Int} (l_a3 : (-2147483648) ≤ a3) (u_a3 : a3 ≤ 2147483647) {Q : (Option Value ⊕ Nat) → mm_H → Prop} (hQ : ∀ (r : Int) (g1 : mz_G), mz_inv g1 → mz_fr (fw_X11_game x a1 a2 a3) g g1 → (-2147483648) ≤ r → r ≤ 2147483647 → Q (.inl (some (.int (Int32.ofInt r)))) (mz_mk g1 x)) (hX : ∀ E, Q (.inr E) (mz_mk g (mz_tx x))) : mm_C d 164 [.ref 0, .int (Int32.ofInt a1), .int (Int32.ofInt a2), .int (Int32.ofInt a3)] (mz_mk g x) Q := by
  have kx := kn_x hx
  refine ⟨mmX11_game, [some (.ref 0), some (.int (Int32.ofInt a1)), some (.int (Int32.ofInt a2)), some (.int (Int32.ofInt a3)), none, none, none, none], rfl, rfl, ?_⟩
  refine mm_g 2 (pc1 := 2) (lo1 := [some (.ref 0), some (.int (Int32.ofInt a1)), some (.int (Int32.ofInt a2)), some (.int (Int32.ofInt a3)), none, none, none, none]) (st1 := [.int (Int32.ofInt a1), .ref 0]) (H1 := mz_mk g x) rfl ?_
  refine mz_cv rfl mt_11_231 (by decide) (sc_0 _) rfl (Nat.le_of_ble_eq_true rfl) (by omega) (c_X11_isTrunk (by omega) hx hI l_a1 u_a1 (fun v1 l_v1 u_v1 => ⟨_, rfl, ?_⟩))
  show mm_W d mmX11_game 5 [some (.ref 0), some (.int (Int32.ofInt a1)), some (.int (Int32.ofInt a2)), some (.int (Int32.ofInt a3)), none, none, none, none] [.int (Int32.ofInt v1)] (mz_mk g x) Q
  refine mz_if_eq (tgt := 29) rfl rfl (mz_rg l_v1 u_v1) (fun c5_1 => ?_) (fun c5_1 => ?_)
  · skip
    refine mm_g 1 (pc1 := 30) (lo1 := [some (.ref 0), some (.int (Int32.ofInt a1)), some (.int (Int32.ofInt a2)), some (.int (Int32.ofInt a3)), none, none, none, none]) (st1 := [.int (Int32.ofInt 0)]) (H1 := mz_mk g x) rfl ?_
    refine mz_csx rfl mt_11_183 rfl (Nat.le_of_ble_eq_true rfl) (by omega) rfl nh_X11_mustBe (c_X11_mustBe (by omega) hx hI (by decide) (by decide) (fun hp2 => ?_) (fun E => hX E))
    show mm_W d mmX11_game 33 [some (.ref 0), some (.int (Int32.ofInt a1)), some (.int (Int32.ofInt a2)), some (.int (Int32.ofInt a3)), none, none, none, none] [] (mz_mk g x) Q
    exfalso; omega
  · skip
    refine mm_g 2 (pc1 := 10) (lo1 := [some (.ref 0), some (.int (Int32.ofInt a1)), some (.int (Int32.ofInt a2)), some (.int (Int32.ofInt a3)), none, none, none, none]) (st1 := [.int (Int32.ofInt a2), .ref 0]) (H1 := mz_mk g x) rfl ?_
    refine mz_cv rfl mt_11_231 (by decide) (sc_0 _) rfl (Nat.le_of_ble_eq_true rfl) (by omega) (c_X11_isTrunk (by omega) hx hI l_a2 u_a2 (fun v3 l_v3 u_v3 => ⟨_, rfl, ?_⟩))
    show mm_W d mmX11_game 13 [some (.ref 0), some (.int (Int32.ofInt a1)), some (.int (Int32.ofInt a2)), some (.int (Int32.ofInt a3)), none, none, none, none] [.int (Int32.ofInt v3)] (mz_mk g x) Q
    refine mz_if_eq (tgt := 29) rfl rfl (mz_rg l_v3 u_v3) (fun c13_3 => ?_) (fun c13_3 => ?_)
    · skip
      refine mm_g 1 (pc1 := 30) (lo1 := [some (.ref 0), some (.int (Int32.ofInt a1)), some (.int (Int32.ofInt a2)), some (.int (Int32.ofInt a3)), none, none, none, none]) (st1 := [.int (Int32.ofInt 0)]) (H1 := mz_mk g x) rfl ?_
      refine mz_csx rfl mt_11_183 rfl (Nat.le_of_ble_eq_true rfl) (by omega) rfl nh_X11_mustBe (c_X11_mustBe (by omega) hx hI (by decide) (by decide) (fun hp4 => ?_) (fun E => hX E))
      show mm_W d mmX11_game 33 [some (.ref 0), some (.int (Int32.ofInt a1)), some (.int (Int32.ofInt a2)), some (.int (Int32.ofInt a3)), none, none, none, none] [] (mz_mk g x) Q
      exfalso; omega
    · skip
      refine mm_g 1 (pc1 := 17) (lo1 := [some (.ref 0), some (.int (Int32.ofInt a1)), some (.int (Int32.ofInt a2)), some (.int (Int32.ofInt a3)), none, none, none, none]) (st1 := [.int (Int32.ofInt a3)]) (H1 := mz_mk g x) rfl ?_
      refine mz_if_eq (tgt := 25) rfl rfl (mz_rg l_a3 u_a3) (fun c17_4 => ?_) (fun c17_4 => ?_)
      · skip
        refine mm_g 1 (pc1 := 26) (lo1 := [some (.ref 0), some (.int (Int32.ofInt a1)), some (.int (Int32.ofInt a2)), some (.int (Int32.ofInt a3)), none, none, none, none]) (st1 := [.int (Int32.ofInt 1)]) (H1 := mz_mk g x) rfl ?_
        refine mz_gt (tgt := 30) rfl rfl ?_
        refine mz_csx rfl mt_11_183 rfl (Nat.le_of_ble_eq_true rfl) (by omega) rfl nh_X11_mustBe (c_X11_mustBe (by omega) hx hI (by decide) (by decide) (fun hp5 => ?_) (fun E => hX E))
        show mm_W d mmX11_game 33 [some (.ref 0), some (.int (Int32.ofInt a1)), some (.int (Int32.ofInt a2)), some (.int (Int32.ofInt a3)), none, none, none, none] [] (mz_mk g x) Q
        refine mm_g 2 (pc1 := 35) (lo1 := [some (.ref 0), some (.int (Int32.ofInt a1)), some (.int (Int32.ofInt a2)), some (.int (Int32.ofInt a3)), none, none, none, none]) (st1 := [.int (Int32.ofInt a2), .int (Int32.ofInt a1)]) (H1 := mz_mk g x) rfl ?_
        refine mz_ic_eq (tgt := 42) rfl rfl (mz_rg l_a1 u_a1) (mz_rg l_a2 u_a2) (fun c35_5 => ?_) (fun c35_5 => ?_)
        · skip
          refine mm_g 1 (pc1 := 43) (lo1 := [some (.ref 0), some (.int (Int32.ofInt a1)), some (.int (Int32.ofInt a2)), some (.int (Int32.ofInt a3)), none, none, none, none]) (st1 := [.int (Int32.ofInt 0)]) (H1 := mz_mk g x) rfl ?_
          refine mz_csx rfl mt_11_106 rfl (Nat.le_of_ble_eq_true rfl) (by omega) rfl nh_X11_mustFit (c_X11_mustFit (by omega) hx hI (by decide) (by decide) (fun hp6 => ?_) (fun E => hX E))
          show mm_W d mmX11_game 46 [some (.ref 0), some (.int (Int32.ofInt a1)), some (.int (Int32.ofInt a2)), some (.int (Int32.ofInt a3)), none, none, none, none] [] (mz_mk g x) Q
          exfalso; omega
        · skip
          refine mm_g 1 (pc1 := 39) (lo1 := [some (.ref 0), some (.int (Int32.ofInt a1)), some (.int (Int32.ofInt a2)), some (.int (Int32.ofInt a3)), none, none, none, none]) (st1 := [.int (Int32.ofInt 1)]) (H1 := mz_mk g x) rfl ?_
          refine mz_gt (tgt := 43) rfl rfl ?_
          refine mz_csx rfl mt_11_106 rfl (Nat.le_of_ble_eq_true rfl) (by omega) rfl nh_X11_mustFit (c_X11_mustFit (by omega) hx hI (by decide) (by decide) (fun hp7 => ?_) (fun E => hX E))
          show mm_W d mmX11_game 46 [some (.ref 0), some (.int (Int32.ofInt a1)), some (.int (Int32.ofInt a2)), some (.int (Int32.ofInt a3)), none, none, none, none] [] (mz_mk g x) Q
          refine mm_g 6 (pc1 := 55) (lo1 := [some (.ref 0), some (.int (Int32.ofInt a1)), some (.int (Int32.ofInt a2)), some (.int (Int32.ofInt a3)), some (.int (Int32.ofInt 0)), some (.int (Int32.ofInt (-1))), some (.int (Int32.ofInt 0)), none]) (st1 := []) (H1 := mz_mk g x) rfl ?_
          have L15 : ∀ n14 : Nat, ∀ (v8 : Int) (v9 : Int) (v10 : Int) (o11 : Option Value) (g12 : mz_G), (2 - v10).toNat = n14 → (-2147483648) ≤ v8 → v8 ≤ 2147483647 → (-1) ≤ v9 → v9 ≤ 15 → 0 ≤ v10 → v10 ≤ 2 → mz_nl o11 → mz_inv g12 → mz_fr (fl_X11_game_55 x a1 a2 a3) g g12 → mm_W d mmX11_game 55 [some (.ref 0), some (.int (Int32.ofInt a1)), some (.int (Int32.ofInt a2)), some (.int (Int32.ofInt a3)), some (.int (Int32.ofInt v8)), some (.int (Int32.ofInt v9)), some (.int (Int32.ofInt v10)), o11] [] (mz_mk g12 x) Q := by
            intro n14
            induction n14 using Nat.strongRecOn with
            | ind n14 ih13 =>
            intro v8 v9 v10 o11 g12 hmn14 l_v8 u_v8 l_v9 u_v9 l_v10 u_v10 h_o11 hIg12 hfg12
            refine mm_g 2 (pc1 := 58) (lo1 := [some (.ref 0), some (.int (Int32.ofInt a1)), some (.int (Int32.ofInt a2)), some (.int (Int32.ofInt a3)), some (.int (Int32.ofInt v8)), some (.int (Int32.ofInt v9)), some (.int (Int32.ofInt v10)), o11]) (st1 := [.int (Int32.ofInt 1), .int (Int32.ofInt v10)]) (H1 := mz_mk g12 x) rfl ?_
            refine mz_ic_gt (tgt := 144) rfl rfl (mz_rg l_v10 u_v10) ⟨by decide, by decide⟩ (fun c58_15 => ?_) (fun c58_15 => ?_)
            · skip
              refine mm_g 1 (pc1 := 145) (lo1 := [some (.ref 0), some (.int (Int32.ofInt a1)), some (.int (Int32.ofInt a2)), some (.int (Int32.ofInt a3)), some (.int (Int32.ofInt v8)), some (.int (Int32.ofInt v9)), some (.int (Int32.ofInt v10)), o11]) (st1 := [.int (Int32.ofInt a3)]) (H1 := mz_mk g12 x) rfl ?_
              refine mz_if_ne (tgt := 153) rfl rfl (mz_rg l_a3 u_a3) (fun c145_15 => ?_) (fun c145_15 => ?_)
              · exfalso; omega
              · skip
                refine mm_g 1 (pc1 := 150) (lo1 := [some (.ref 0), some (.int (Int32.ofInt a1)), some (.int (Int32.ofInt a2)), some (.int (Int32.ofInt a3)), some (.int (Int32.ofInt v8)), some (.int (Int32.ofInt v9)), some (.int (Int32.ofInt v10)), o11]) (st1 := [.int (Int32.ofInt v8)]) (H1 := mz_mk g12 x) rfl ?_
                refine mz_gt (tgt := 155) rfl rfl ?_
                exact mm_rt rfl rfl (hQ _ _ hIg12 (fun k j hk => (hfg12 k j (fun h => hk (Or.elim h (fun h => (Or.inl h)) (fun h => (Or.elim h (fun h => (Or.inr (Or.inl h))) (fun h => (Or.inr (Or.inr h))))))))) (by omega) (by omega))
            · skip
              refine mm_g 2 (pc1 := 64) (lo1 := [some (.ref 0), some (.int (Int32.ofInt a1)), some (.int (Int32.ofInt a2)), some (.int (Int32.ofInt a3)), some (.int (Int32.ofInt v8)), some (.int (Int32.ofInt v9)), some (.int (Int32.ofInt v10)), some (.int (Int32.ofInt 0))]) (st1 := []) (H1 := mz_mk g12 x) rfl ?_
              have L22 : ∀ n21 : Nat, ∀ (v16 : Int) (v17 : Int) (v18 : Int) (g19 : mz_G), (2 - v18).toNat = n21 → (-2147483648) ≤ v16 → v16 ≤ 2147483647 → (-1) ≤ v17 → v17 ≤ 15 → 0 ≤ v18 → v18 ≤ 2 → mz_inv g19 → mz_fr (fl_X11_game_64 x a1 a2 a3) g12 g19 → mm_W d mmX11_game 64 [some (.ref 0), some (.int (Int32.ofInt a1)), some (.int (Int32.ofInt a2)), some (.int (Int32.ofInt a3)), some (.int (Int32.ofInt v16)), some (.int (Int32.ofInt v17)), some (.int (Int32.ofInt v10)), some (.int (Int32.ofInt v18))] [] (mz_mk g19 x) Q := by
                intro n21
                induction n21 using Nat.strongRecOn with
                | ind n21 ih20 =>
                intro v16 v17 v18 g19 hmn21 l_v16 u_v16 l_v17 u_v17 l_v18 u_v18 hIg19 hfg19
                refine mm_g 2 (pc1 := 67) (lo1 := [some (.ref 0), some (.int (Int32.ofInt a1)), some (.int (Int32.ofInt a2)), some (.int (Int32.ofInt a3)), some (.int (Int32.ofInt v16)), some (.int (Int32.ofInt v17)), some (.int (Int32.ofInt v10)), some (.int (Int32.ofInt v18))]) (st1 := [.int (Int32.ofInt 1), .int (Int32.ofInt v18)]) (H1 := mz_mk g19 x) rfl ?_
                refine mz_ic_gt (tgt := 138) rfl rfl (mz_rg l_v18 u_v18) ⟨by decide, by decide⟩ (fun c67_22 => ?_) (fun c67_22 => ?_)
                · skip
                  refine mz_iincR (v := v10) (lo2 := [some (.ref 0), some (.int (Int32.ofInt a1)), some (.int (Int32.ofInt a2)), some (.int (Int32.ofInt a3)), some (.int (Int32.ofInt v16)), some (.int (Int32.ofInt v17)), some (.int (Int32.ofInt (v10 + 1))), some (.int (Int32.ofInt v18))]) rfl rfl rfl (Nat.le_of_ble_eq_true rfl) rfl ?_
                  refine mz_gt (tgt := 55) rfl rfl ?_
                  exact ih13 ((2 - (v10 + 1)).toNat) (by omega) v16 v17 (v10 + 1) (some (.int (Int32.ofInt v18))) g19 rfl (by omega) (by omega) (by omega) (by omega) (by omega) (by omega) (mz_nl_i _) hIg19 (fun k j hk => ((hfg19 k j (fun h => hk (Or.elim h (fun h => (Or.inl h)) (fun h => (Or.elim h (fun h => (Or.inr (Or.inl h))) (fun h => (Or.inr (Or.inr h)))))))).trans (hfg12 k j (fun h => hk (Or.elim h (fun h => (Or.inl h)) (fun h => (Or.elim h (fun h => (Or.inr (Or.inl h))) (fun h => (Or.inr (Or.inr h))))))))))
                · skip
                  refine mm_g 3 (pc1 := 74) (lo1 := [some (.ref 0), some (.int (Int32.ofInt a1)), some (.int (Int32.ofInt a2)), some (.int (Int32.ofInt a3)), some (.int (Int32.ofInt v16)), some (.int (Int32.ofInt v17)), some (.int (Int32.ofInt v10)), some (.int (Int32.ofInt v18))]) (st1 := [.int (Int32.ofInt v10), .int (Int32.ofInt a1), .ref 0]) (H1 := mz_mk g19 x) rfl ?_
                  refine mz_cv rfl mt_11_381 (by decide) (sc_0 _) rfl (Nat.le_of_ble_eq_true rfl) (by omega) (c_X11_ownGain (by omega) hx hIg19 l_a1 u_a1 (by omega) (by omega) (fun v23 g24 hIg24 hfg24 l_v23 u_v23 => ⟨_, rfl, ?_⟩))
                  show mm_W d mmX11_game 77 [some (.ref 0), some (.int (Int32.ofInt a1)), some (.int (Int32.ofInt a2)), some (.int (Int32.ofInt a3)), some (.int (Int32.ofInt v16)), some (.int (Int32.ofInt v17)), some (.int (Int32.ofInt v10)), some (.int (Int32.ofInt v18))] [.int (Int32.ofInt v23)] (mz_mk g24 x) Q
                  refine mm_g 4 (pc1 := 82) (lo1 := [some (.ref 0), some (.int (Int32.ofInt a1)), some (.int (Int32.ofInt a2)), some (.int (Int32.ofInt a3)), some (.int (Int32.ofInt v16)), some (.int (Int32.ofInt v17)), some (.int (Int32.ofInt v10)), some (.int (Int32.ofInt v18))]) (st1 := [.int (Int32.ofInt v10), .int (Int32.ofInt 1), .int (Int32.ofInt a1), .ref 0, .int (Int32.ofInt v23)]) (H1 := mz_mk g24 x) rfl ?_
                  refine mz_isub rfl ?_
                  refine mz_cv rfl mt_11_381 (by decide) (sc_0 _) rfl (Nat.le_of_ble_eq_true rfl) (by omega) (c_X11_ownGain (by omega) hx hIg24 l_a1 u_a1 (by omega) (by omega) (fun v25 g26 hIg26 hfg26 l_v25 u_v25 => ⟨_, rfl, ?_⟩))
                  show mm_W d mmX11_game 86 [some (.ref 0), some (.int (Int32.ofInt a1)), some (.int (Int32.ofInt a2)), some (.int (Int32.ofInt a3)), some (.int (Int32.ofInt v16)), some (.int (Int32.ofInt v17)), some (.int (Int32.ofInt v10)), some (.int (Int32.ofInt v18))] [.int (Int32.ofInt v25), .int (Int32.ofInt v23)] (mz_mk g26 x) Q
                  refine mz_ic_lt (tgt := 132) rfl rfl (mz_rg l_v23 u_v23) (mz_rg l_v25 u_v25) (fun c86_26 => ?_) (fun c86_26 => ?_)
                  · skip
                    refine mz_iincR (v := v18) (lo2 := [some (.ref 0), some (.int (Int32.ofInt a1)), some (.int (Int32.ofInt a2)), some (.int (Int32.ofInt a3)), some (.int (Int32.ofInt v16)), some (.int (Int32.ofInt v17)), some (.int (Int32.ofInt v10)), some (.int (Int32.ofInt (v18 + 1)))]) rfl rfl rfl (Nat.le_of_ble_eq_true rfl) rfl ?_
                    refine mz_gt (tgt := 64) rfl rfl ?_
                    exact ih20 ((2 - (v18 + 1)).toNat) (by omega) v16 v17 (v18 + 1) g26 rfl (by omega) (by omega) (by omega) (by omega) (by omega) (by omega) hIg26 (fun k j hk => ((hfg26 k j (fun h => hk (Or.elim h (fun h => (Or.inl h)) (fun h => (Or.elim h (fun h => (Or.inr (Or.inl h))) (fun h => (Or.inr (Or.inr h)))))))).trans ((hfg24 k j (fun h => hk (Or.elim h (fun h => (Or.inl h)) (fun h => (Or.elim h (fun h => (Or.inr (Or.inl h))) (fun h => (Or.inr (Or.inr h)))))))).trans (hfg19 k j (fun h => hk (Or.elim h (fun h => (Or.inl h)) (fun h => (Or.elim h (fun h => (Or.inr (Or.inl h))) (fun h => (Or.inr (Or.inr h)))))))))))
                  · skip
                    refine mm_g 3 (pc1 := 93) (lo1 := [some (.ref 0), some (.int (Int32.ofInt a1)), some (.int (Int32.ofInt a2)), some (.int (Int32.ofInt a3)), some (.int (Int32.ofInt v16)), some (.int (Int32.ofInt v17)), some (.int (Int32.ofInt v10)), some (.int (Int32.ofInt v18))]) (st1 := [.int (Int32.ofInt v18), .int (Int32.ofInt a2), .ref 0]) (H1 := mz_mk g26 x) rfl ?_
                    refine mz_cv rfl mt_11_381 (by decide) (sc_0 _) rfl (Nat.le_of_ble_eq_true rfl) (by omega) (c_X11_ownGain (by omega) hx hIg26 l_a2 u_a2 (by omega) (by omega) (fun v27 g28 hIg28 hfg28 l_v27 u_v27 => ⟨_, rfl, ?_⟩))
                    show mm_W d mmX11_game 96 [some (.ref 0), some (.int (Int32.ofInt a1)), some (.int (Int32.ofInt a2)), some (.int (Int32.ofInt a3)), some (.int (Int32.ofInt v16)), some (.int (Int32.ofInt v17)), some (.int (Int32.ofInt v10)), some (.int (Int32.ofInt v18))] [.int (Int32.ofInt v27)] (mz_mk g28 x) Q
                    refine mm_g 4 (pc1 := 101) (lo1 := [some (.ref 0), some (.int (Int32.ofInt a1)), some (.int (Int32.ofInt a2)), some (.int (Int32.ofInt a3)), some (.int (Int32.ofInt v16)), some (.int (Int32.ofInt v17)), some (.int (Int32.ofInt v10)), some (.int (Int32.ofInt v18))]) (st1 := [.int (Int32.ofInt v18), .int (Int32.ofInt 1), .int (Int32.ofInt a2), .ref 0, .int (Int32.ofInt v27)]) (H1 := mz_mk g28 x) rfl ?_
                    refine mz_isub rfl ?_
                    refine mz_cv rfl mt_11_381 (by decide) (sc_0 _) rfl (Nat.le_of_ble_eq_true rfl) (by omega) (c_X11_ownGain (by omega) hx hIg28 l_a2 u_a2 (by omega) (by omega) (fun v29 g30 hIg30 hfg30 l_v29 u_v29 => ⟨_, rfl, ?_⟩))
                    show mm_W d mmX11_game 105 [some (.ref 0), some (.int (Int32.ofInt a1)), some (.int (Int32.ofInt a2)), some (.int (Int32.ofInt a3)), some (.int (Int32.ofInt v16)), some (.int (Int32.ofInt v17)), some (.int (Int32.ofInt v10)), some (.int (Int32.ofInt v18))] [.int (Int32.ofInt v29), .int (Int32.ofInt v27)] (mz_mk g30 x) Q
                    refine mz_ic_lt (tgt := 132) rfl rfl (mz_rg l_v27 u_v27) (mz_rg l_v29 u_v29) (fun c105_30 => ?_) (fun c105_30 => ?_)
                    · skip
                      refine mz_iincR (v := v18) (lo2 := [some (.ref 0), some (.int (Int32.ofInt a1)), some (.int (Int32.ofInt a2)), some (.int (Int32.ofInt a3)), some (.int (Int32.ofInt v16)), some (.int (Int32.ofInt v17)), some (.int (Int32.ofInt v10)), some (.int (Int32.ofInt (v18 + 1)))]) rfl rfl rfl (Nat.le_of_ble_eq_true rfl) rfl ?_
                      refine mz_gt (tgt := 64) rfl rfl ?_
                      exact ih20 ((2 - (v18 + 1)).toNat) (by omega) v16 v17 (v18 + 1) g30 rfl (by omega) (by omega) (by omega) (by omega) (by omega) (by omega) hIg30 (fun k j hk => ((hfg30 k j (fun h => hk (Or.elim h (fun h => (Or.inl h)) (fun h => (Or.elim h (fun h => (Or.inr (Or.inl h))) (fun h => (Or.inr (Or.inr h)))))))).trans ((hfg28 k j (fun h => hk (Or.elim h (fun h => (Or.inl h)) (fun h => (Or.elim h (fun h => (Or.inr (Or.inl h))) (fun h => (Or.inr (Or.inr h)))))))).trans ((hfg26 k j (fun h => hk (Or.elim h (fun h => (Or.inl h)) (fun h => (Or.elim h (fun h => (Or.inr (Or.inl h))) (fun h => (Or.inr (Or.inr h)))))))).trans ((hfg24 k j (fun h => hk (Or.elim h (fun h => (Or.inl h)) (fun h => (Or.elim h (fun h => (Or.inr (Or.inl h))) (fun h => (Or.inr (Or.inr h)))))))).trans (hfg19 k j (fun h => hk (Or.elim h (fun h => (Or.inl h)) (fun h => (Or.elim h (fun h => (Or.inr (Or.inl h))) (fun h => (Or.inr (Or.inr h)))))))))))))
                    · skip
                      refine mm_g 2 (pc1 := 111) (lo1 := [some (.ref 0), some (.int (Int32.ofInt a1)), some (.int (Int32.ofInt a2)), some (.int (Int32.ofInt a3)), some (.int (Int32.ofInt v16)), some (.int (Int32.ofInt v17)), some (.int (Int32.ofInt v10)), some (.int (Int32.ofInt v18))]) (st1 := [.int (Int32.ofInt (-1)), .int (Int32.ofInt v17)]) (H1 := mz_mk g30 x) rfl ?_
                      refine mz_ic_ne (tgt := 125) rfl rfl (mz_rg l_v17 u_v17) ⟨by decide, by decide⟩ (fun c111_30 => ?_) (fun c111_30 => ?_)
                      · skip
                        refine mm_g 2 (pc1 := 129) (lo1 := [some (.ref 0), some (.int (Int32.ofInt a1)), some (.int (Int32.ofInt a2)), some (.int (Int32.ofInt a3)), some (.int (Int32.ofInt v16)), some (.int (Int32.ofInt v17)), some (.int (Int32.ofInt v10)), some (.int (Int32.ofInt v18))]) (st1 := []) (H1 := mz_mk g30 x) rfl ?_
                        refine mz_iincW (v := v16) (lo2 := fun v31 => [some (.ref 0), some (.int (Int32.ofInt a1)), some (.int (Int32.ofInt a2)), some (.int (Int32.ofInt a3)), some (.int (Int32.ofInt v31)), some (.int (Int32.ofInt v17)), some (.int (Int32.ofInt v10)), some (.int (Int32.ofInt v18))]) rfl rfl rfl (Nat.le_of_ble_eq_true rfl) (fun _ => rfl) (fun v31 _ hwv31 => ?_)
                        have l_v31 := hwv31.1
                        have u_v31 := hwv31.2
                        refine mz_iincR (v := v18) (lo2 := [some (.ref 0), some (.int (Int32.ofInt a1)), some (.int (Int32.ofInt a2)), some (.int (Int32.ofInt a3)), some (.int (Int32.ofInt v31)), some (.int (Int32.ofInt v17)), some (.int (Int32.ofInt v10)), some (.int (Int32.ofInt (v18 + 1)))]) rfl rfl rfl (Nat.le_of_ble_eq_true rfl) rfl ?_
                        refine mz_gt (tgt := 64) rfl rfl ?_
                        exact ih20 ((2 - (v18 + 1)).toNat) (by omega) v31 v17 (v18 + 1) g30 rfl (by omega) (by omega) (by omega) (by omega) (by omega) (by omega) hIg30 (fun k j hk => ((hfg30 k j (fun h => hk (Or.elim h (fun h => (Or.inl h)) (fun h => (Or.elim h (fun h => (Or.inr (Or.inl h))) (fun h => (Or.inr (Or.inr h)))))))).trans ((hfg28 k j (fun h => hk (Or.elim h (fun h => (Or.inl h)) (fun h => (Or.elim h (fun h => (Or.inr (Or.inl h))) (fun h => (Or.inr (Or.inr h)))))))).trans ((hfg26 k j (fun h => hk (Or.elim h (fun h => (Or.inl h)) (fun h => (Or.elim h (fun h => (Or.inr (Or.inl h))) (fun h => (Or.inr (Or.inr h)))))))).trans ((hfg24 k j (fun h => hk (Or.elim h (fun h => (Or.inl h)) (fun h => (Or.elim h (fun h => (Or.inr (Or.inl h))) (fun h => (Or.inr (Or.inr h)))))))).trans (hfg19 k j (fun h => hk (Or.elim h (fun h => (Or.inl h)) (fun h => (Or.elim h (fun h => (Or.inr (Or.inl h))) (fun h => (Or.inr (Or.inr h)))))))))))))
                      · skip
                        refine mz_bip rfl bip_10 ?_
                        refine mm_g 1 (pc1 := 118) (lo1 := [some (.ref 0), some (.int (Int32.ofInt a1)), some (.int (Int32.ofInt a2)), some (.int (Int32.ofInt a3)), some (.int (Int32.ofInt v16)), some (.int (Int32.ofInt v17)), some (.int (Int32.ofInt v10)), some (.int (Int32.ofInt v18))]) (st1 := [.int (Int32.ofInt v10), .int (Int32.ofInt 10)]) (H1 := mz_mk g30 x) rfl ?_
                        refine mz_imul rfl ?_
                        refine mm_g 1 (pc1 := 121) (lo1 := [some (.ref 0), some (.int (Int32.ofInt a1)), some (.int (Int32.ofInt a2)), some (.int (Int32.ofInt a3)), some (.int (Int32.ofInt v16)), some (.int (Int32.ofInt v17)), some (.int (Int32.ofInt v10)), some (.int (Int32.ofInt v18))]) (st1 := [.int (Int32.ofInt v18), .int (Int32.ofInt (10 * v10))]) (H1 := mz_mk g30 x) rfl ?_
                        refine mz_iadd rfl ?_
                        refine mz_gt (tgt := 127) rfl rfl ?_
                        refine mm_g 1 (pc1 := 129) (lo1 := [some (.ref 0), some (.int (Int32.ofInt a1)), some (.int (Int32.ofInt a2)), some (.int (Int32.ofInt a3)), some (.int (Int32.ofInt v16)), some (.int (Int32.ofInt ((10 * v10) + v18))), some (.int (Int32.ofInt v10)), some (.int (Int32.ofInt v18))]) (st1 := []) (H1 := mz_mk g30 x) rfl ?_
                        refine mz_iincW (v := v16) (lo2 := fun v32 => [some (.ref 0), some (.int (Int32.ofInt a1)), some (.int (Int32.ofInt a2)), some (.int (Int32.ofInt a3)), some (.int (Int32.ofInt v32)), some (.int (Int32.ofInt ((10 * v10) + v18))), some (.int (Int32.ofInt v10)), some (.int (Int32.ofInt v18))]) rfl rfl rfl (Nat.le_of_ble_eq_true rfl) (fun _ => rfl) (fun v32 _ hwv32 => ?_)
                        have l_v32 := hwv32.1
                        have u_v32 := hwv32.2
                        refine mz_iincR (v := v18) (lo2 := [some (.ref 0), some (.int (Int32.ofInt a1)), some (.int (Int32.ofInt a2)), some (.int (Int32.ofInt a3)), some (.int (Int32.ofInt v32)), some (.int (Int32.ofInt ((10 * v10) + v18))), some (.int (Int32.ofInt v10)), some (.int (Int32.ofInt (v18 + 1)))]) rfl rfl rfl (Nat.le_of_ble_eq_true rfl) rfl ?_
                        refine mz_gt (tgt := 64) rfl rfl ?_
                        exact ih20 ((2 - (v18 + 1)).toNat) (by omega) v32 ((10 * v10) + v18) (v18 + 1) g30 rfl (by omega) (by omega) (by omega) (by omega) (by omega) (by omega) hIg30 (fun k j hk => ((hfg30 k j (fun h => hk (Or.elim h (fun h => (Or.inl h)) (fun h => (Or.elim h (fun h => (Or.inr (Or.inl h))) (fun h => (Or.inr (Or.inr h)))))))).trans ((hfg28 k j (fun h => hk (Or.elim h (fun h => (Or.inl h)) (fun h => (Or.elim h (fun h => (Or.inr (Or.inl h))) (fun h => (Or.inr (Or.inr h)))))))).trans ((hfg26 k j (fun h => hk (Or.elim h (fun h => (Or.inl h)) (fun h => (Or.elim h (fun h => (Or.inr (Or.inl h))) (fun h => (Or.inr (Or.inr h)))))))).trans ((hfg24 k j (fun h => hk (Or.elim h (fun h => (Or.inl h)) (fun h => (Or.elim h (fun h => (Or.inr (Or.inl h))) (fun h => (Or.inr (Or.inr h)))))))).trans (hfg19 k j (fun h => hk (Or.elim h (fun h => (Or.inl h)) (fun h => (Or.elim h (fun h => (Or.inr (Or.inl h))) (fun h => (Or.inr (Or.inr h)))))))))))))
              exact L22 _ v8 v9 0 g12 rfl (by omega) (by omega) (by omega) (by omega) (by decide) (by decide) hIg12 (fun _ _ _ => rfl)
          exact L15 _ 0 (-1) 0 none g rfl (by decide) (by decide) (by decide) (by decide) (by decide) (by decide) mz_nl_n hI (fun _ _ _ => rfl)
      · skip
        refine mm_g 2 (pc1 := 22) (lo1 := [some (.ref 0), some (.int (Int32.ofInt a1)), some (.int (Int32.ofInt a2)), some (.int (Int32.ofInt a3)), none, none, none, none]) (st1 := [.int (Int32.ofInt 1), .int (Int32.ofInt a3)]) (H1 := mz_mk g x) rfl ?_
        refine mz_ic_ne (tgt := 29) rfl rfl (mz_rg l_a3 u_a3) ⟨by decide, by decide⟩ (fun c22_32 => ?_) (fun c22_32 => ?_)
        · skip
          refine mm_g 1 (pc1 := 30) (lo1 := [some (.ref 0), some (.int (Int32.ofInt a1)), some (.int (Int32.ofInt a2)), some (.int (Int32.ofInt a3)), none, none, none, none]) (st1 := [.int (Int32.ofInt 0)]) (H1 := mz_mk g x) rfl ?_
          refine mz_csx rfl mt_11_183 rfl (Nat.le_of_ble_eq_true rfl) (by omega) rfl nh_X11_mustBe (c_X11_mustBe (by omega) hx hI (by decide) (by decide) (fun hp33 => ?_) (fun E => hX E))
          show mm_W d mmX11_game 33 [some (.ref 0), some (.int (Int32.ofInt a1)), some (.int (Int32.ofInt a2)), some (.int (Int32.ofInt a3)), none, none, none, none] [] (mz_mk g x) Q
          exfalso; omega
        · skip
          refine mm_g 1 (pc1 := 26) (lo1 := [some (.ref 0), some (.int (Int32.ofInt a1)), some (.int (Int32.ofInt a2)), some (.int (Int32.ofInt a3)), none, none, none, none]) (st1 := [.int (Int32.ofInt 1)]) (H1 := mz_mk g x) rfl ?_
          refine mz_gt (tgt := 30) rfl rfl ?_
          refine mz_csx rfl mt_11_183 rfl (Nat.le_of_ble_eq_true rfl) (by omega) rfl nh_X11_mustBe (c_X11_mustBe (by omega) hx hI (by decide) (by decide) (fun hp34 => ?_) (fun E => hX E))
          show mm_W d mmX11_game 33 [some (.ref 0), some (.int (Int32.ofInt a1)), some (.int (Int32.ofInt a2)), some (.int (Int32.ofInt a3)), none, none, none, none] [] (mz_mk g x) Q
          refine mm_g 2 (pc1 := 35) (lo1 := [some (.ref 0), some (.int (Int32.ofInt a1)), some (.int (Int32.ofInt a2)), some (.int (Int32.ofInt a3)), none, none, none, none]) (st1 := [.int (Int32.ofInt a2), .int (Int32.ofInt a1)]) (H1 := mz_mk g x) rfl ?_
          refine mz_ic_eq (tgt := 42) rfl rfl (mz_rg l_a1 u_a1) (mz_rg l_a2 u_a2) (fun c35_34 => ?_) (fun c35_34 => ?_)
          · skip
            refine mm_g 1 (pc1 := 43) (lo1 := [some (.ref 0), some (.int (Int32.ofInt a1)), some (.int (Int32.ofInt a2)), some (.int (Int32.ofInt a3)), none, none, none, none]) (st1 := [.int (Int32.ofInt 0)]) (H1 := mz_mk g x) rfl ?_
            refine mz_csx rfl mt_11_106 rfl (Nat.le_of_ble_eq_true rfl) (by omega) rfl nh_X11_mustFit (c_X11_mustFit (by omega) hx hI (by decide) (by decide) (fun hp35 => ?_) (fun E => hX E))
            show mm_W d mmX11_game 46 [some (.ref 0), some (.int (Int32.ofInt a1)), some (.int (Int32.ofInt a2)), some (.int (Int32.ofInt a3)), none, none, none, none] [] (mz_mk g x) Q
            exfalso; omega
          · skip
            refine mm_g 1 (pc1 := 39) (lo1 := [some (.ref 0), some (.int (Int32.ofInt a1)), some (.int (Int32.ofInt a2)), some (.int (Int32.ofInt a3)), none, none, none, none]) (st1 := [.int (Int32.ofInt 1)]) (H1 := mz_mk g x) rfl ?_
            refine mz_gt (tgt := 43) rfl rfl ?_
            refine mz_csx rfl mt_11_106 rfl (Nat.le_of_ble_eq_true rfl) (by omega) rfl nh_X11_mustFit (c_X11_mustFit (by omega) hx hI (by decide) (by decide) (fun hp36 => ?_) (fun E => hX E))
            show mm_W d mmX11_game 46 [some (.ref 0), some (.int (Int32.ofInt a1)), some (.int (Int32.ofInt a2)), some (.int (Int32.ofInt a3)), none, none, none, none] [] (mz_mk g x) Q
            refine mm_g 6 (pc1 := 55) (lo1 := [some (.ref 0), some (.int (Int32.ofInt a1)), some (.int (Int32.ofInt a2)), some (.int (Int32.ofInt a3)), some (.int (Int32.ofInt 0)), some (.int (Int32.ofInt (-1))), some (.int (Int32.ofInt 0)), none]) (st1 := []) (H1 := mz_mk g x) rfl ?_
            have L44 : ∀ n43 : Nat, ∀ (v37 : Int) (v38 : Int) (v39 : Int) (o40 : Option Value) (g41 : mz_G), (2 - v39).toNat = n43 → (-2147483648) ≤ v37 → v37 ≤ 2147483647 → (-1) ≤ v38 → v38 ≤ 15 → 0 ≤ v39 → v39 ≤ 2 → mz_nl o40 → mz_inv g41 → mz_fr (fl_X11_game_55 x a1 a2 a3) g g41 → mm_W d mmX11_game 55 [some (.ref 0), some (.int (Int32.ofInt a1)), some (.int (Int32.ofInt a2)), some (.int (Int32.ofInt a3)), some (.int (Int32.ofInt v37)), some (.int (Int32.ofInt v38)), some (.int (Int32.ofInt v39)), o40] [] (mz_mk g41 x) Q := by
              intro n43
              induction n43 using Nat.strongRecOn with
              | ind n43 ih42 =>
              intro v37 v38 v39 o40 g41 hmn43 l_v37 u_v37 l_v38 u_v38 l_v39 u_v39 h_o40 hIg41 hfg41
              refine mm_g 2 (pc1 := 58) (lo1 := [some (.ref 0), some (.int (Int32.ofInt a1)), some (.int (Int32.ofInt a2)), some (.int (Int32.ofInt a3)), some (.int (Int32.ofInt v37)), some (.int (Int32.ofInt v38)), some (.int (Int32.ofInt v39)), o40]) (st1 := [.int (Int32.ofInt 1), .int (Int32.ofInt v39)]) (H1 := mz_mk g41 x) rfl ?_
              refine mz_ic_gt (tgt := 144) rfl rfl (mz_rg l_v39 u_v39) ⟨by decide, by decide⟩ (fun c58_44 => ?_) (fun c58_44 => ?_)
              · skip
                refine mm_g 1 (pc1 := 145) (lo1 := [some (.ref 0), some (.int (Int32.ofInt a1)), some (.int (Int32.ofInt a2)), some (.int (Int32.ofInt a3)), some (.int (Int32.ofInt v37)), some (.int (Int32.ofInt v38)), some (.int (Int32.ofInt v39)), o40]) (st1 := [.int (Int32.ofInt a3)]) (H1 := mz_mk g41 x) rfl ?_
                refine mz_if_ne (tgt := 153) rfl rfl (mz_rg l_a3 u_a3) (fun c145_44 => ?_) (fun c145_44 => ?_)
                · skip
                  refine mm_g 1 (pc1 := 155) (lo1 := [some (.ref 0), some (.int (Int32.ofInt a1)), some (.int (Int32.ofInt a2)), some (.int (Int32.ofInt a3)), some (.int (Int32.ofInt v37)), some (.int (Int32.ofInt v38)), some (.int (Int32.ofInt v39)), o40]) (st1 := [.int (Int32.ofInt v38)]) (H1 := mz_mk g41 x) rfl ?_
                  exact mm_rt rfl rfl (hQ _ _ hIg41 (fun k j hk => (hfg41 k j (fun h => hk (Or.elim h (fun h => (Or.inl h)) (fun h => (Or.elim h (fun h => (Or.inr (Or.inl h))) (fun h => (Or.inr (Or.inr h))))))))) (by omega) (by omega))
                · exfalso; omega
              · skip
                refine mm_g 2 (pc1 := 64) (lo1 := [some (.ref 0), some (.int (Int32.ofInt a1)), some (.int (Int32.ofInt a2)), some (.int (Int32.ofInt a3)), some (.int (Int32.ofInt v37)), some (.int (Int32.ofInt v38)), some (.int (Int32.ofInt v39)), some (.int (Int32.ofInt 0))]) (st1 := []) (H1 := mz_mk g41 x) rfl ?_
                have L51 : ∀ n50 : Nat, ∀ (v45 : Int) (v46 : Int) (v47 : Int) (g48 : mz_G), (2 - v47).toNat = n50 → (-2147483648) ≤ v45 → v45 ≤ 2147483647 → (-1) ≤ v46 → v46 ≤ 15 → 0 ≤ v47 → v47 ≤ 2 → mz_inv g48 → mz_fr (fl_X11_game_64 x a1 a2 a3) g41 g48 → mm_W d mmX11_game 64 [some (.ref 0), some (.int (Int32.ofInt a1)), some (.int (Int32.ofInt a2)), some (.int (Int32.ofInt a3)), some (.int (Int32.ofInt v45)), some (.int (Int32.ofInt v46)), some (.int (Int32.ofInt v39)), some (.int (Int32.ofInt v47))] [] (mz_mk g48 x) Q := by
                  intro n50
                  induction n50 using Nat.strongRecOn with
                  | ind n50 ih49 =>
                  intro v45 v46 v47 g48 hmn50 l_v45 u_v45 l_v46 u_v46 l_v47 u_v47 hIg48 hfg48
                  refine mm_g 2 (pc1 := 67) (lo1 := [some (.ref 0), some (.int (Int32.ofInt a1)), some (.int (Int32.ofInt a2)), some (.int (Int32.ofInt a3)), some (.int (Int32.ofInt v45)), some (.int (Int32.ofInt v46)), some (.int (Int32.ofInt v39)), some (.int (Int32.ofInt v47))]) (st1 := [.int (Int32.ofInt 1), .int (Int32.ofInt v47)]) (H1 := mz_mk g48 x) rfl ?_
                  refine mz_ic_gt (tgt := 138) rfl rfl (mz_rg l_v47 u_v47) ⟨by decide, by decide⟩ (fun c67_51 => ?_) (fun c67_51 => ?_)
                  · skip
                    refine mz_iincR (v := v39) (lo2 := [some (.ref 0), some (.int (Int32.ofInt a1)), some (.int (Int32.ofInt a2)), some (.int (Int32.ofInt a3)), some (.int (Int32.ofInt v45)), some (.int (Int32.ofInt v46)), some (.int (Int32.ofInt (v39 + 1))), some (.int (Int32.ofInt v47))]) rfl rfl rfl (Nat.le_of_ble_eq_true rfl) rfl ?_
                    refine mz_gt (tgt := 55) rfl rfl ?_
                    exact ih42 ((2 - (v39 + 1)).toNat) (by omega) v45 v46 (v39 + 1) (some (.int (Int32.ofInt v47))) g48 rfl (by omega) (by omega) (by omega) (by omega) (by omega) (by omega) (mz_nl_i _) hIg48 (fun k j hk => ((hfg48 k j (fun h => hk (Or.elim h (fun h => (Or.inl h)) (fun h => (Or.elim h (fun h => (Or.inr (Or.inl h))) (fun h => (Or.inr (Or.inr h)))))))).trans (hfg41 k j (fun h => hk (Or.elim h (fun h => (Or.inl h)) (fun h => (Or.elim h (fun h => (Or.inr (Or.inl h))) (fun h => (Or.inr (Or.inr h))))))))))
                  · skip
                    refine mm_g 3 (pc1 := 74) (lo1 := [some (.ref 0), some (.int (Int32.ofInt a1)), some (.int (Int32.ofInt a2)), some (.int (Int32.ofInt a3)), some (.int (Int32.ofInt v45)), some (.int (Int32.ofInt v46)), some (.int (Int32.ofInt v39)), some (.int (Int32.ofInt v47))]) (st1 := [.int (Int32.ofInt v39), .int (Int32.ofInt a1), .ref 0]) (H1 := mz_mk g48 x) rfl ?_
                    refine mz_cv rfl mt_11_381 (by decide) (sc_0 _) rfl (Nat.le_of_ble_eq_true rfl) (by omega) (c_X11_ownGain (by omega) hx hIg48 l_a1 u_a1 (by omega) (by omega) (fun v52 g53 hIg53 hfg53 l_v52 u_v52 => ⟨_, rfl, ?_⟩))
                    show mm_W d mmX11_game 77 [some (.ref 0), some (.int (Int32.ofInt a1)), some (.int (Int32.ofInt a2)), some (.int (Int32.ofInt a3)), some (.int (Int32.ofInt v45)), some (.int (Int32.ofInt v46)), some (.int (Int32.ofInt v39)), some (.int (Int32.ofInt v47))] [.int (Int32.ofInt v52)] (mz_mk g53 x) Q
                    refine mm_g 4 (pc1 := 82) (lo1 := [some (.ref 0), some (.int (Int32.ofInt a1)), some (.int (Int32.ofInt a2)), some (.int (Int32.ofInt a3)), some (.int (Int32.ofInt v45)), some (.int (Int32.ofInt v46)), some (.int (Int32.ofInt v39)), some (.int (Int32.ofInt v47))]) (st1 := [.int (Int32.ofInt v39), .int (Int32.ofInt 1), .int (Int32.ofInt a1), .ref 0, .int (Int32.ofInt v52)]) (H1 := mz_mk g53 x) rfl ?_
                    refine mz_isub rfl ?_
                    refine mz_cv rfl mt_11_381 (by decide) (sc_0 _) rfl (Nat.le_of_ble_eq_true rfl) (by omega) (c_X11_ownGain (by omega) hx hIg53 l_a1 u_a1 (by omega) (by omega) (fun v54 g55 hIg55 hfg55 l_v54 u_v54 => ⟨_, rfl, ?_⟩))
                    show mm_W d mmX11_game 86 [some (.ref 0), some (.int (Int32.ofInt a1)), some (.int (Int32.ofInt a2)), some (.int (Int32.ofInt a3)), some (.int (Int32.ofInt v45)), some (.int (Int32.ofInt v46)), some (.int (Int32.ofInt v39)), some (.int (Int32.ofInt v47))] [.int (Int32.ofInt v54), .int (Int32.ofInt v52)] (mz_mk g55 x) Q
                    refine mz_ic_lt (tgt := 132) rfl rfl (mz_rg l_v52 u_v52) (mz_rg l_v54 u_v54) (fun c86_55 => ?_) (fun c86_55 => ?_)
                    · skip
                      refine mz_iincR (v := v47) (lo2 := [some (.ref 0), some (.int (Int32.ofInt a1)), some (.int (Int32.ofInt a2)), some (.int (Int32.ofInt a3)), some (.int (Int32.ofInt v45)), some (.int (Int32.ofInt v46)), some (.int (Int32.ofInt v39)), some (.int (Int32.ofInt (v47 + 1)))]) rfl rfl rfl (Nat.le_of_ble_eq_true rfl) rfl ?_
                      refine mz_gt (tgt := 64) rfl rfl ?_
                      exact ih49 ((2 - (v47 + 1)).toNat) (by omega) v45 v46 (v47 + 1) g55 rfl (by omega) (by omega) (by omega) (by omega) (by omega) (by omega) hIg55 (fun k j hk => ((hfg55 k j (fun h => hk (Or.elim h (fun h => (Or.inl h)) (fun h => (Or.elim h (fun h => (Or.inr (Or.inl h))) (fun h => (Or.inr (Or.inr h)))))))).trans ((hfg53 k j (fun h => hk (Or.elim h (fun h => (Or.inl h)) (fun h => (Or.elim h (fun h => (Or.inr (Or.inl h))) (fun h => (Or.inr (Or.inr h)))))))).trans (hfg48 k j (fun h => hk (Or.elim h (fun h => (Or.inl h)) (fun h => (Or.elim h (fun h => (Or.inr (Or.inl h))) (fun h => (Or.inr (Or.inr h)))))))))))
                    · skip
                      refine mm_g 3 (pc1 := 93) (lo1 := [some (.ref 0), some (.int (Int32.ofInt a1)), some (.int (Int32.ofInt a2)), some (.int (Int32.ofInt a3)), some (.int (Int32.ofInt v45)), some (.int (Int32.ofInt v46)), some (.int (Int32.ofInt v39)), some (.int (Int32.ofInt v47))]) (st1 := [.int (Int32.ofInt v47), .int (Int32.ofInt a2), .ref 0]) (H1 := mz_mk g55 x) rfl ?_
                      refine mz_cv rfl mt_11_381 (by decide) (sc_0 _) rfl (Nat.le_of_ble_eq_true rfl) (by omega) (c_X11_ownGain (by omega) hx hIg55 l_a2 u_a2 (by omega) (by omega) (fun v56 g57 hIg57 hfg57 l_v56 u_v56 => ⟨_, rfl, ?_⟩))
                      show mm_W d mmX11_game 96 [some (.ref 0), some (.int (Int32.ofInt a1)), some (.int (Int32.ofInt a2)), some (.int (Int32.ofInt a3)), some (.int (Int32.ofInt v45)), some (.int (Int32.ofInt v46)), some (.int (Int32.ofInt v39)), some (.int (Int32.ofInt v47))] [.int (Int32.ofInt v56)] (mz_mk g57 x) Q
                      refine mm_g 4 (pc1 := 101) (lo1 := [some (.ref 0), some (.int (Int32.ofInt a1)), some (.int (Int32.ofInt a2)), some (.int (Int32.ofInt a3)), some (.int (Int32.ofInt v45)), some (.int (Int32.ofInt v46)), some (.int (Int32.ofInt v39)), some (.int (Int32.ofInt v47))]) (st1 := [.int (Int32.ofInt v47), .int (Int32.ofInt 1), .int (Int32.ofInt a2), .ref 0, .int (Int32.ofInt v56)]) (H1 := mz_mk g57 x) rfl ?_
                      refine mz_isub rfl ?_
                      refine mz_cv rfl mt_11_381 (by decide) (sc_0 _) rfl (Nat.le_of_ble_eq_true rfl) (by omega) (c_X11_ownGain (by omega) hx hIg57 l_a2 u_a2 (by omega) (by omega) (fun v58 g59 hIg59 hfg59 l_v58 u_v58 => ⟨_, rfl, ?_⟩))
                      show mm_W d mmX11_game 105 [some (.ref 0), some (.int (Int32.ofInt a1)), some (.int (Int32.ofInt a2)), some (.int (Int32.ofInt a3)), some (.int (Int32.ofInt v45)), some (.int (Int32.ofInt v46)), some (.int (Int32.ofInt v39)), some (.int (Int32.ofInt v47))] [.int (Int32.ofInt v58), .int (Int32.ofInt v56)] (mz_mk g59 x) Q
                      refine mz_ic_lt (tgt := 132) rfl rfl (mz_rg l_v56 u_v56) (mz_rg l_v58 u_v58) (fun c105_59 => ?_) (fun c105_59 => ?_)
                      · skip
                        refine mz_iincR (v := v47) (lo2 := [some (.ref 0), some (.int (Int32.ofInt a1)), some (.int (Int32.ofInt a2)), some (.int (Int32.ofInt a3)), some (.int (Int32.ofInt v45)), some (.int (Int32.ofInt v46)), some (.int (Int32.ofInt v39)), some (.int (Int32.ofInt (v47 + 1)))]) rfl rfl rfl (Nat.le_of_ble_eq_true rfl) rfl ?_
                        refine mz_gt (tgt := 64) rfl rfl ?_
                        exact ih49 ((2 - (v47 + 1)).toNat) (by omega) v45 v46 (v47 + 1) g59 rfl (by omega) (by omega) (by omega) (by omega) (by omega) (by omega) hIg59 (fun k j hk => ((hfg59 k j (fun h => hk (Or.elim h (fun h => (Or.inl h)) (fun h => (Or.elim h (fun h => (Or.inr (Or.inl h))) (fun h => (Or.inr (Or.inr h)))))))).trans ((hfg57 k j (fun h => hk (Or.elim h (fun h => (Or.inl h)) (fun h => (Or.elim h (fun h => (Or.inr (Or.inl h))) (fun h => (Or.inr (Or.inr h)))))))).trans ((hfg55 k j (fun h => hk (Or.elim h (fun h => (Or.inl h)) (fun h => (Or.elim h (fun h => (Or.inr (Or.inl h))) (fun h => (Or.inr (Or.inr h)))))))).trans ((hfg53 k j (fun h => hk (Or.elim h (fun h => (Or.inl h)) (fun h => (Or.elim h (fun h => (Or.inr (Or.inl h))) (fun h => (Or.inr (Or.inr h)))))))).trans (hfg48 k j (fun h => hk (Or.elim h (fun h => (Or.inl h)) (fun h => (Or.elim h (fun h => (Or.inr (Or.inl h))) (fun h => (Or.inr (Or.inr h)))))))))))))
                      · skip
                        refine mm_g 2 (pc1 := 111) (lo1 := [some (.ref 0), some (.int (Int32.ofInt a1)), some (.int (Int32.ofInt a2)), some (.int (Int32.ofInt a3)), some (.int (Int32.ofInt v45)), some (.int (Int32.ofInt v46)), some (.int (Int32.ofInt v39)), some (.int (Int32.ofInt v47))]) (st1 := [.int (Int32.ofInt (-1)), .int (Int32.ofInt v46)]) (H1 := mz_mk g59 x) rfl ?_
                        refine mz_ic_ne (tgt := 125) rfl rfl (mz_rg l_v46 u_v46) ⟨by decide, by decide⟩ (fun c111_59 => ?_) (fun c111_59 => ?_)
                        · skip
                          refine mm_g 2 (pc1 := 129) (lo1 := [some (.ref 0), some (.int (Int32.ofInt a1)), some (.int (Int32.ofInt a2)), some (.int (Int32.ofInt a3)), some (.int (Int32.ofInt v45)), some (.int (Int32.ofInt v46)), some (.int (Int32.ofInt v39)), some (.int (Int32.ofInt v47))]) (st1 := []) (H1 := mz_mk g59 x) rfl ?_
                          refine mz_iincW (v := v45) (lo2 := fun v60 => [some (.ref 0), some (.int (Int32.ofInt a1)), some (.int (Int32.ofInt a2)), some (.int (Int32.ofInt a3)), some (.int (Int32.ofInt v60)), some (.int (Int32.ofInt v46)), some (.int (Int32.ofInt v39)), some (.int (Int32.ofInt v47))]) rfl rfl rfl (Nat.le_of_ble_eq_true rfl) (fun _ => rfl) (fun v60 _ hwv60 => ?_)
                          have l_v60 := hwv60.1
                          have u_v60 := hwv60.2
                          refine mz_iincR (v := v47) (lo2 := [some (.ref 0), some (.int (Int32.ofInt a1)), some (.int (Int32.ofInt a2)), some (.int (Int32.ofInt a3)), some (.int (Int32.ofInt v60)), some (.int (Int32.ofInt v46)), some (.int (Int32.ofInt v39)), some (.int (Int32.ofInt (v47 + 1)))]) rfl rfl rfl (Nat.le_of_ble_eq_true rfl) rfl ?_
                          refine mz_gt (tgt := 64) rfl rfl ?_
                          exact ih49 ((2 - (v47 + 1)).toNat) (by omega) v60 v46 (v47 + 1) g59 rfl (by omega) (by omega) (by omega) (by omega) (by omega) (by omega) hIg59 (fun k j hk => ((hfg59 k j (fun h => hk (Or.elim h (fun h => (Or.inl h)) (fun h => (Or.elim h (fun h => (Or.inr (Or.inl h))) (fun h => (Or.inr (Or.inr h)))))))).trans ((hfg57 k j (fun h => hk (Or.elim h (fun h => (Or.inl h)) (fun h => (Or.elim h (fun h => (Or.inr (Or.inl h))) (fun h => (Or.inr (Or.inr h)))))))).trans ((hfg55 k j (fun h => hk (Or.elim h (fun h => (Or.inl h)) (fun h => (Or.elim h (fun h => (Or.inr (Or.inl h))) (fun h => (Or.inr (Or.inr h)))))))).trans ((hfg53 k j (fun h => hk (Or.elim h (fun h => (Or.inl h)) (fun h => (Or.elim h (fun h => (Or.inr (Or.inl h))) (fun h => (Or.inr (Or.inr h)))))))).trans (hfg48 k j (fun h => hk (Or.elim h (fun h => (Or.inl h)) (fun h => (Or.elim h (fun h => (Or.inr (Or.inl h))) (fun h => (Or.inr (Or.inr h)))))))))))))
                        · skip
                          refine mz_bip rfl bip_10 ?_
                          refine mm_g 1 (pc1 := 118) (lo1 := [some (.ref 0), some (.int (Int32.ofInt a1)), some (.int (Int32.ofInt a2)), some (.int (Int32.ofInt a3)), some (.int (Int32.ofInt v45)), some (.int (Int32.ofInt v46)), some (.int (Int32.ofInt v39)), some (.int (Int32.ofInt v47))]) (st1 := [.int (Int32.ofInt v39), .int (Int32.ofInt 10)]) (H1 := mz_mk g59 x) rfl ?_
                          refine mz_imul rfl ?_
                          refine mm_g 1 (pc1 := 121) (lo1 := [some (.ref 0), some (.int (Int32.ofInt a1)), some (.int (Int32.ofInt a2)), some (.int (Int32.ofInt a3)), some (.int (Int32.ofInt v45)), some (.int (Int32.ofInt v46)), some (.int (Int32.ofInt v39)), some (.int (Int32.ofInt v47))]) (st1 := [.int (Int32.ofInt v47), .int (Int32.ofInt (10 * v39))]) (H1 := mz_mk g59 x) rfl ?_
                          refine mz_iadd rfl ?_
                          refine mz_gt (tgt := 127) rfl rfl ?_
                          refine mm_g 1 (pc1 := 129) (lo1 := [some (.ref 0), some (.int (Int32.ofInt a1)), some (.int (Int32.ofInt a2)), some (.int (Int32.ofInt a3)), some (.int (Int32.ofInt v45)), some (.int (Int32.ofInt ((10 * v39) + v47))), some (.int (Int32.ofInt v39)), some (.int (Int32.ofInt v47))]) (st1 := []) (H1 := mz_mk g59 x) rfl ?_
                          refine mz_iincW (v := v45) (lo2 := fun v61 => [some (.ref 0), some (.int (Int32.ofInt a1)), some (.int (Int32.ofInt a2)), some (.int (Int32.ofInt a3)), some (.int (Int32.ofInt v61)), some (.int (Int32.ofInt ((10 * v39) + v47))), some (.int (Int32.ofInt v39)), some (.int (Int32.ofInt v47))]) rfl rfl rfl (Nat.le_of_ble_eq_true rfl) (fun _ => rfl) (fun v61 _ hwv61 => ?_)
                          have l_v61 := hwv61.1
                          have u_v61 := hwv61.2
                          refine mz_iincR (v := v47) (lo2 := [some (.ref 0), some (.int (Int32.ofInt a1)), some (.int (Int32.ofInt a2)), some (.int (Int32.ofInt a3)), some (.int (Int32.ofInt v61)), some (.int (Int32.ofInt ((10 * v39) + v47))), some (.int (Int32.ofInt v39)), some (.int (Int32.ofInt (v47 + 1)))]) rfl rfl rfl (Nat.le_of_ble_eq_true rfl) rfl ?_
                          refine mz_gt (tgt := 64) rfl rfl ?_
                          exact ih49 ((2 - (v47 + 1)).toNat) (by omega) v61 ((10 * v39) + v47) (v47 + 1) g59 rfl (by omega) (by omega) (by omega) (by omega) (by omega) (by omega) hIg59 (fun k j hk => ((hfg59 k j (fun h => hk (Or.elim h (fun h => (Or.inl h)) (fun h => (Or.elim h (fun h => (Or.inr (Or.inl h))) (fun h => (Or.inr (Or.inr h)))))))).trans ((hfg57 k j (fun h => hk (Or.elim h (fun h => (Or.inl h)) (fun h => (Or.elim h (fun h => (Or.inr (Or.inl h))) (fun h => (Or.inr (Or.inr h)))))))).trans ((hfg55 k j (fun h => hk (Or.elim h (fun h => (Or.inl h)) (fun h => (Or.elim h (fun h => (Or.inr (Or.inl h))) (fun h => (Or.inr (Or.inr h)))))))).trans ((hfg53 k j (fun h => hk (Or.elim h (fun h => (Or.inl h)) (fun h => (Or.elim h (fun h => (Or.inr (Or.inl h))) (fun h => (Or.inr (Or.inr h)))))))).trans (hfg48 k j (fun h => hk (Or.elim h (fun h => (Or.inl h)) (fun h => (Or.elim h (fun h => (Or.inr (Or.inl h))) (fun h => (Or.inr (Or.inr h)))))))))))))
                exact L51 _ v37 v38 0 g41 rfl (by omega) (by omega) (by omega) (by omega) (by decide) (by decide) hIg41 (fun _ _ _ => rfl)
            exact L44 _ 0 (-1) 0 none g rfl (by decide) (by decide) (by decide) (by decide) (by decide) (by decide) mz_nl_n hI (fun _ _ _ => rfl)
def fw_X11_drawOf (x : mm_X) (a1 : Int) : Nat → Nat → Prop := fun k j => (k = 0 ∧ j = 15)
theorem c_X11_drawOf {d : Nat} (hd : 1 ≤ d) {x : mm_X} (hx : mk_x x) {g : mz_G} (hI : mz_inv g) {a1 : Int} (l_a1 : (-2147483648) ≤ a1) (u_a1 : a1 ≤ 2147483647) {Q : (Option Value ⊕ Nat) → mm_H → Prop} (hQ : ∀ (r : Int) (g1 : mz_G), mz_inv g1 → mz_fr (fw_X11_drawOf x a1) g g1 → 0 ≤ r → r ≤ 32767 → Q (.inl (some (.int (Int32.ofInt r)))) (mz_mk g1 x)) : mm_C d 168 [.ref 0, .int (Int32.ofInt a1)] (mz_mk g x) Q := by
  have kx := kn_x hx
  refine ⟨mmX11_drawOf, [some (.ref 0), some (.int (Int32.ofInt a1))], rfl, rfl, ?_⟩
  refine mm_g 2 (pc1 := 2) (lo1 := [some (.ref 0), some (.int (Int32.ofInt a1))]) (st1 := [.ref 0, .ref 0]) (H1 := mz_mk g x) rfl ?_
  refine mz_gI rfl fd_11_91 (by decide) (sc_0 _) hI bd_0_15 (fun v1 e_v1 l_v1 u_v1 => ?_)
  refine mz_ldcwI (c := 1103515245) rfl rfl rfl ?_
  refine mz_imul_w rfl (fun v2 _ hwv2 => ?_)
  have l_v2 := hwv2.1
  have u_v2 := hwv2.2
  refine mz_sip rfl sip_12345 ?_
  refine mz_iadd_w rfl (fun v3 _ hwv3 => ?_)
  have l_v3 := hwv3.1
  have u_v3 := hwv3.2
  refine mz_pI rfl fd_11_91 (sc_0 _) hI bd_0_15 (by omega) (by omega) (fun g4 hIg4 hug4 => ?_)
  refine mm_g 1 (pc1 := 17) (lo1 := [some (.ref 0), some (.int (Int32.ofInt a1))]) (st1 := [.int (Int32.ofInt a1)]) (H1 := mz_mk g4 x) rfl ?_
  refine mz_if_le (tgt := 36) rfl rfl (mz_rg l_a1 u_a1) (fun c17_4 => ?_) (fun c17_4 => ?_)
  · skip
    refine mm_g 1 (pc1 := 37) (lo1 := [some (.ref 0), some (.int (Int32.ofInt a1))]) (st1 := [.int (Int32.ofInt 0)]) (H1 := mz_mk g4 x) rfl ?_
    exact mm_rt rfl rfl (hQ _ _ hIg4 (fun k j hk => (hug4.2 k j (fun h => hk h))) (by decide) (by decide))
  · skip
    refine mm_g 1 (pc1 := 21) (lo1 := [some (.ref 0), some (.int (Int32.ofInt a1))]) (st1 := [.ref 0]) (H1 := mz_mk g4 x) rfl ?_
    refine mz_fgI (v := v3) rfl fd_11_91 (by decide) (sc_0 _) (show g4 0 15 = v3 from hug4.1) ?_
    refine mz_bip rfl bip_16 ?_
    refine mz_iushr rfl (fun v5 e_v5 hwv5 => ?_)
    have l_v5 := hwv5.1
    have u_v5 := hwv5.2
    refine mz_sip rfl sip_32767 ?_
    refine mz_iand rfl (fun v6 e_v6 hwv6 => ?_)
    have b_v6 : 0 ≤ v6 ∧ v6 ≤ 32767 := by rw [e_v6]; exact mz_and_r (by omega) (by omega) (mz_rg l_v5 u_v5)
    have l_v6 := b_v6.1
    have u_v6 := b_v6.2
    refine mm_g 1 (pc1 := 32) (lo1 := [some (.ref 0), some (.int (Int32.ofInt a1))]) (st1 := [.int (Int32.ofInt a1), .int (Int32.ofInt v6)]) (H1 := mz_mk g4 x) rfl ?_
    refine mz_iremq rfl (mz_rg l_v6 u_v6) (mz_rg l_a1 u_a1) (by omega) (by omega) (fun v7 e_v7 l_v7 w_v7 z_v7 => ?_)
    have u_v7 : v7 ≤ 32767 := by omega
    refine mz_gt (tgt := 37) rfl rfl ?_
    exact mm_rt rfl rfl (hQ _ _ hIg4 (fun k j hk => (hug4.2 k j (fun h => hk h))) (by omega) (by omega))
def fw_X11_drawAhead (x : mm_X) : Nat → Nat → Prop := fun k j => (k = 0 ∧ j = 15) ∨ (124 ≤ k ∧ k < 133)
theorem c_X11_drawAhead {d : Nat} (hd : 2 ≤ d) {x : mm_X} (hx : mk_x x) {g : mz_G} (hI : mz_inv g) {Q : (Option Value ⊕ Nat) → mm_H → Prop} (hQ : ∀ (g1 : mz_G), mz_inv g1 → mz_fr (fw_X11_drawAhead x) g g1 → Q (.inl none) (mz_mk g1 x)) : mm_C d 167 [.ref 0] (mz_mk g x) Q := by
  have kx := kn_x hx
  refine ⟨mmX11_drawAhead, [some (.ref 0), none, none, none], rfl, rfl, ?_⟩
  refine mm_g 1 (pc1 := 1) (lo1 := [some (.ref 0), none, none, none]) (st1 := [.ref 0]) (H1 := mz_mk g x) rfl ?_
  refine mz_bip rfl bip_6 ?_
  refine mz_cv rfl mt_11_390 (by decide) (sc_0 _) rfl (Nat.le_of_ble_eq_true rfl) (by omega) (c_X11_drawOf (by omega) hx hI (by decide) (by decide) (fun v1 g2 hIg2 hfg2 l_v1 u_v1 => ⟨_, rfl, ?_⟩))
  show mm_W d mmX11_drawAhead 6 [some (.ref 0), none, none, none] [.int (Int32.ofInt v1)] (mz_mk g2 x) Q
  refine mm_g 2 (pc1 := 8) (lo1 := [some (.ref 0), some (.int (Int32.ofInt v1)), none, none]) (st1 := [.ref 0]) (H1 := mz_mk g2 x) rfl ?_
  refine mz_fgR (v := 124) rfl fd_11_75 (by decide) (sc_0 _) (rf_0_12 _ _ _) ?_
  refine mz_gI rfl fd_11_189 (by decide) (sc_124 _) hIg2 bd_124_2 (fun v3 e_v3 l_v3 u_v3 => ?_)
  refine mz_if_eq (tgt := 22) rfl rfl (mz_rg l_v3 u_v3) (fun c14_3 => ?_) (fun c14_3 => ?_)
  · skip
    exact mm_rt rfl rfl (hQ _ hIg2 (fun k j hk => (hfg2 k j (fun h => hk (Or.inl h)))))
  · skip
    refine mm_g 2 (pc1 := 19) (lo1 := [some (.ref 0), some (.int (Int32.ofInt v1)), none, none]) (st1 := [.int (Int32.ofInt 2), .int (Int32.ofInt v1)]) (H1 := mz_mk g2 x) rfl ?_
    refine mz_ic_le (tgt := 23) rfl rfl (mz_rg l_v1 u_v1) ⟨by decide, by decide⟩ (fun c19_3 => ?_) (fun c19_3 => ?_)
    · skip
      refine mm_g 1 (pc1 := 24) (lo1 := [some (.ref 0), some (.int (Int32.ofInt v1)), none, none]) (st1 := [.ref 0]) (H1 := mz_mk g2 x) rfl ?_
      refine mz_fgR (v := 124) rfl fd_11_75 (by decide) (sc_0 _) (rf_0_12 _ _ _) ?_
      refine mm_g 2 (pc1 := 29) (lo1 := [some (.ref 0), some (.int (Int32.ofInt v1)), none, none]) (st1 := [.ref 0, .ref 0, .ref 124]) (H1 := mz_mk g2 x) rfl ?_
      refine mz_fgR (v := 124) rfl fd_11_75 (by decide) (sc_0 _) (rf_0_12 _ _ _) ?_
      refine mz_fgI (v := v3) rfl fd_11_189 (by decide) (sc_124 _) e_v3 ?_
      refine mz_cv rfl mt_11_390 (by decide) (sc_0 _) rfl (Nat.le_of_ble_eq_true rfl) (by omega) (c_X11_drawOf (by omega) hx hIg2 (by omega) (by omega) (fun v4 g5 hIg5 hfg5 l_v4 u_v4 => ⟨_, rfl, ?_⟩))
      show mm_W d mmX11_drawAhead 38 [some (.ref 0), some (.int (Int32.ofInt v1)), none, none] [.int (Int32.ofInt v4), .ref 124] (mz_mk g5 x) Q
      refine mz_cv rfl mt_11_192 (by decide) (sc_124 _) rfl (Nat.le_of_ble_eq_true rfl) (by omega) (c_X9_get (by omega) hx hIg5 kp_tks_124 (by omega) (by omega) (fun u6 k_u6 hp7 => ⟨_, rfl, ?_⟩))
      show mm_W d mmX11_drawAhead 41 [some (.ref 0), some (.int (Int32.ofInt v1)), none, none] [.ref u6] (mz_mk g5 x) Q
      refine mm_g 2 (pc1 := 43) (lo1 := [some (.ref 0), some (.int (Int32.ofInt v1)), some (.ref u6), none]) (st1 := [.int (Int32.ofInt v1)]) (H1 := mz_mk g5 x) rfl ?_
      refine mz_if_ne (tgt := 53) rfl rfl (mz_rg l_v1 u_v1) (fun c43_7 => ?_) (fun c43_7 => ?_)
      · skip
        refine mm_g 2 (pc1 := 55) (lo1 := [some (.ref 0), some (.int (Int32.ofInt v1)), some (.ref u6), none]) (st1 := [.int (Int32.ofInt 1), .int (Int32.ofInt v1)]) (H1 := mz_mk g5 x) rfl ?_
        refine mz_ic_ne (tgt := 71) rfl rfl (mz_rg l_v1 u_v1) ⟨by decide, by decide⟩ (fun c55_7 => ?_) (fun c55_7 => ?_)
        · skip
          refine mm_g 2 (pc1 := 73) (lo1 := [some (.ref 0), some (.int (Int32.ofInt v1)), some (.ref u6), none]) (st1 := [.ref 0, .ref 0]) (H1 := mz_mk g5 x) rfl ?_
          refine mz_fgR (v := x.1) rfl fd_11_16 (by decide) (sc_0 _) rfl ?_
          refine mz_fgR (v := (x.1 + 1)) rfl fd_11_135 (by decide) (kc_load (kx_1 hx) _) (kr_load_0 (kx_1 hx) _ _ _) ?_
          refine mz_cv rfl mt_11_152 (by decide) (kc_words (ks_load_0 (kx_1 hx)) _) rfl (Nat.le_of_ble_eq_true rfl) (by omega) (c_X10_many (by omega) hx hIg5 (ks_load_0 (kx_1 hx)) (fun v8 l_v8 u_v8 => ⟨_, rfl, ?_⟩))
          show mm_W d mmX11_drawAhead 82 [some (.ref 0), some (.int (Int32.ofInt v1)), some (.ref u6), none] [.int (Int32.ofInt v8), .ref 0] (mz_mk g5 x) Q
          refine mz_cv rfl mt_11_390 (by decide) (sc_0 _) rfl (Nat.le_of_ble_eq_true rfl) (by omega) (c_X11_drawOf (by omega) hx hIg5 (by omega) (by omega) (fun v9 g10 hIg10 hfg10 l_v9 u_v9 => ⟨_, rfl, ?_⟩))
          show mm_W d mmX11_drawAhead 85 [some (.ref 0), some (.int (Int32.ofInt v1)), some (.ref u6), none] [.int (Int32.ofInt v9)] (mz_mk g10 x) Q
          refine mm_g 4 (pc1 := 89) (lo1 := [some (.ref 0), some (.int (Int32.ofInt v1)), some (.ref u6), some (.int (Int32.ofInt v9))]) (st1 := [.int (Int32.ofInt 2), .ref 0, .ref u6]) (H1 := mz_mk g10 x) rfl ?_
          refine mz_cv rfl mt_11_390 (by decide) (sc_0 _) rfl (Nat.le_of_ble_eq_true rfl) (by omega) (c_X11_drawOf (by omega) hx hIg10 (by decide) (by decide) (fun v11 g12 hIg12 hfg12 l_v11 u_v11 => ⟨_, rfl, ?_⟩))
          show mm_W d mmX11_drawAhead 92 [some (.ref 0), some (.int (Int32.ofInt v1)), some (.ref u6), some (.int (Int32.ofInt v9))] [.int (Int32.ofInt v11), .ref u6] (mz_mk g12 x) Q
          refine mm_g 1 (pc1 := 93) (lo1 := [some (.ref 0), some (.int (Int32.ofInt v1)), some (.ref u6), some (.int (Int32.ofInt v9))]) (st1 := [.int (Int32.ofInt v9), .int (Int32.ofInt v11), .ref u6]) (H1 := mz_mk g12 x) rfl ?_
          refine mz_cv rfl mt_11_272 (by decide) (kc_trunk k_u6 _) rfl (Nat.le_of_ble_eq_true rfl) (by omega) (c_X8_packIn (by omega) hx hIg12 k_u6 (by omega) (by omega) (by omega) (by omega) (fun g13 hIg13 hfg13 => ⟨_, rfl, ?_⟩))
          show mm_W d mmX11_drawAhead 96 [some (.ref 0), some (.int (Int32.ofInt v1)), some (.ref u6), some (.int (Int32.ofInt v9))] [] (mz_mk g13 x) Q
          exact mm_rt rfl rfl (hQ _ hIg13 (fun k j hk => ((hfg13 k j (fun h => hk (Or.inr (show (124 ≤ k ∧ k < 133) by have h9 : k = u6 := h; omega)))).trans ((hfg12 k j (fun h => hk (Or.inl h))).trans ((hfg10 k j (fun h => hk (Or.inl h))).trans ((hfg5 k j (fun h => hk (Or.inl h))).trans (hfg2 k j (fun h => hk (Or.inl h)))))))))
        · skip
          refine mm_g 2 (pc1 := 60) (lo1 := [some (.ref 0), some (.int (Int32.ofInt v1)), some (.ref u6), none]) (st1 := [.ref 0, .ref u6]) (H1 := mz_mk g5 x) rfl ?_
          refine mz_bip rfl bip_10 ?_
          refine mz_cv rfl mt_11_390 (by decide) (sc_0 _) rfl (Nat.le_of_ble_eq_true rfl) (by omega) (c_X11_drawOf (by omega) hx hIg5 (by decide) (by decide) (fun v14 g15 hIg15 hfg15 l_v14 u_v14 => ⟨_, rfl, ?_⟩))
          show mm_W d mmX11_drawAhead 65 [some (.ref 0), some (.int (Int32.ofInt v1)), some (.ref u6), none] [.int (Int32.ofInt v14), .ref u6] (mz_mk g15 x) Q
          refine mz_pI rfl fd_11_234 (kc_trunk k_u6 _) hIg15 (kb_trunk_2 k_u6) (by omega) (by omega) (fun g16 hIg16 hug16 => ?_)
          refine mz_gt (tgt := 96) rfl rfl ?_
          exact mm_rt rfl rfl (hQ _ hIg16 (fun k j hk => ((hug16.2 k j (fun h => hk (Or.inr (show (124 ≤ k ∧ k < 133) by have h9 : k = u6 ∧ j = 2 := h; omega)))).trans ((hfg15 k j (fun h => hk (Or.inl h))).trans ((hfg5 k j (fun h => hk (Or.inl h))).trans (hfg2 k j (fun h => hk (Or.inl h))))))))
      · skip
        refine mm_g 1 (pc1 := 47) (lo1 := [some (.ref 0), some (.int (Int32.ofInt v1)), some (.ref u6), none]) (st1 := [.ref u6]) (H1 := mz_mk g5 x) rfl ?_
        refine mz_cv rfl mt_11_269 (by decide) (kc_trunk k_u6 _) rfl (Nat.le_of_ble_eq_true rfl) (by omega) (c_X8_turnRound (by omega) hx hIg5 k_u6 (fun g17 hIg17 hfg17 => ⟨_, rfl, ?_⟩))
        show mm_W d mmX11_drawAhead 50 [some (.ref 0), some (.int (Int32.ofInt v1)), some (.ref u6), none] [] (mz_mk g17 x) Q
        refine mz_gt (tgt := 96) rfl rfl ?_
        exact mm_rt rfl rfl (hQ _ hIg17 (fun k j hk => ((hfg17 k j (fun h => hk (Or.inr (show (124 ≤ k ∧ k < 133) by have h9 : k = u6 := h; omega)))).trans ((hfg5 k j (fun h => hk (Or.inl h))).trans (hfg2 k j (fun h => hk (Or.inl h)))))))
    · skip
      exact mm_rt rfl rfl (hQ _ hIg2 (fun k j hk => (hfg2 k j (fun h => hk (Or.inl h)))))
def fl_X11_years_49 (x : mm_X) (a1 : Int) (a2 : Int) (a3 : Int) : Nat → Nat → Prop := fun k j => (k = 0 ∧ j = 15) ∨ (124 ≤ k ∧ k < 133) ∨ k = ((x.1 + 36) + 2) ∨ k = ((x.1 + 36) + 3)
def fw_X11_years (x : mm_X) (a1 : Int) (a2 : Int) (a3 : Int) : Nat → Nat → Prop := fun k j => (k = 0 ∧ j = 15) ∨ (124 ≤ k ∧ k < 133) ∨ k = ((x.1 + 36) + 2) ∨ k = ((x.1 + 36) + 3)
theorem c_X11_years {d : Nat} (hd : 15 ≤ d) {x : mm_X} (hx : mk_x x) {g : mz_G} (hI : mz_inv g) {a1 : Int} (l_a1 : (-2147483648) ≤ a1) (u_a1 : a1 ≤ 2147483647) {a2 : Int} (l_a2 : (-2147483648) ≤ a2) (u_a2 : a2 ≤ 2147483647) {a3 : Int} (l_a3 : (-2147483648) ≤ a3) (u_a3 : a3 ≤ 2147483647) {Q : (Option Value ⊕ Nat) → mm_H → Prop} (hQ : ∀ (r : Int) (g1 : mz_G), mz_inv g1 → mz_fr (fw_X11_years x a1 a2 a3) g g1 → (-2147483648) ≤ r → r ≤ 2147483647 → Q (.inl (some (.int (Int32.ofInt r)))) (mz_mk g1 x)) (hX : ∀ E, Q (.inr E) (mz_mk g (mz_tx x))) : mm_C d 166 [.ref 0, .int (Int32.ofInt a1), .int (Int32.ofInt a2), .int (Int32.ofInt a3)] (mz_mk g x) Q := by
  have kx := kn_x hx
  refine ⟨mmX11_years, [some (.ref 0), some (.int (Int32.ofInt a1)), some (.int (Int32.ofInt a2)), some (.int (Int32.ofInt a3)), none, none, none], rfl, rfl, ?_⟩
  refine mm_g 1 (pc1 := 1) (lo1 := [some (.ref 0), some (.int (Int32.ofInt a1)), some (.int (Int32.ofInt a2)), some (.int (Int32.ofInt a3)), none, none, none]) (st1 := [.int (Int32.ofInt a3)]) (H1 := mz_mk g x) rfl ?_
  refine mz_if_lt (tgt := 13) rfl rfl (mz_rg l_a3 u_a3) (fun c1_0 => ?_) (fun c1_0 => ?_)
  · skip
    refine mm_g 1 (pc1 := 14) (lo1 := [some (.ref 0), some (.int (Int32.ofInt a1)), some (.int (Int32.ofInt a2)), some (.int (Int32.ofInt a3)), none, none, none]) (st1 := [.int (Int32.ofInt 0)]) (H1 := mz_mk g x) rfl ?_
    refine mz_csx rfl mt_11_183 rfl (Nat.le_of_ble_eq_true rfl) (by omega) rfl nh_X11_mustBe (c_X11_mustBe (by omega) hx hI (by decide) (by decide) (fun hp1 => ?_) (fun E => hX E))
    show mm_W d mmX11_years 17 [some (.ref 0), some (.int (Int32.ofInt a1)), some (.int (Int32.ofInt a2)), some (.int (Int32.ofInt a3)), none, none, none] [] (mz_mk g x) Q
    exfalso; omega
  · skip
    refine mm_g 2 (pc1 := 6) (lo1 := [some (.ref 0), some (.int (Int32.ofInt a1)), some (.int (Int32.ofInt a2)), some (.int (Int32.ofInt a3)), none, none, none]) (st1 := [.int (Int32.ofInt 2), .int (Int32.ofInt a3)]) (H1 := mz_mk g x) rfl ?_
    refine mz_ic_gt (tgt := 13) rfl rfl (mz_rg l_a3 u_a3) ⟨by decide, by decide⟩ (fun c6_1 => ?_) (fun c6_1 => ?_)
    · skip
      refine mm_g 1 (pc1 := 14) (lo1 := [some (.ref 0), some (.int (Int32.ofInt a1)), some (.int (Int32.ofInt a2)), some (.int (Int32.ofInt a3)), none, none, none]) (st1 := [.int (Int32.ofInt 0)]) (H1 := mz_mk g x) rfl ?_
      refine mz_csx rfl mt_11_183 rfl (Nat.le_of_ble_eq_true rfl) (by omega) rfl nh_X11_mustBe (c_X11_mustBe (by omega) hx hI (by decide) (by decide) (fun hp2 => ?_) (fun E => hX E))
      show mm_W d mmX11_years 17 [some (.ref 0), some (.int (Int32.ofInt a1)), some (.int (Int32.ofInt a2)), some (.int (Int32.ofInt a3)), none, none, none] [] (mz_mk g x) Q
      exfalso; omega
    · skip
      refine mm_g 1 (pc1 := 10) (lo1 := [some (.ref 0), some (.int (Int32.ofInt a1)), some (.int (Int32.ofInt a2)), some (.int (Int32.ofInt a3)), none, none, none]) (st1 := [.int (Int32.ofInt 1)]) (H1 := mz_mk g x) rfl ?_
      refine mz_gt (tgt := 14) rfl rfl ?_
      refine mz_csx rfl mt_11_183 rfl (Nat.le_of_ble_eq_true rfl) (by omega) rfl nh_X11_mustBe (c_X11_mustBe (by omega) hx hI (by decide) (by decide) (fun hp3 => ?_) (fun E => hX E))
      show mm_W d mmX11_years 17 [some (.ref 0), some (.int (Int32.ofInt a1)), some (.int (Int32.ofInt a2)), some (.int (Int32.ofInt a3)), none, none, none] [] (mz_mk g x) Q
      refine mm_g 1 (pc1 := 18) (lo1 := [some (.ref 0), some (.int (Int32.ofInt a1)), some (.int (Int32.ofInt a2)), some (.int (Int32.ofInt a3)), none, none, none]) (st1 := [.int (Int32.ofInt a2)]) (H1 := mz_mk g x) rfl ?_
      refine mz_cs rfl mt_11_279 (by decide) rfl (Nat.le_of_ble_eq_true rfl) (by omega) (c_X11_isAhead (by omega) hx hI l_a2 u_a2 (fun v4 l_v4 u_v4 => ⟨_, rfl, ?_⟩))
      show mm_W d mmX11_years 21 [some (.ref 0), some (.int (Int32.ofInt a1)), some (.int (Int32.ofInt a2)), some (.int (Int32.ofInt a3)), none, none, none] [.int (Int32.ofInt v4)] (mz_mk g x) Q
      refine mz_csx rfl mt_11_106 rfl (Nat.le_of_ble_eq_true rfl) (by omega) rfl nh_X11_mustFit (c_X11_mustFit (by omega) hx hI l_v4 u_v4 (fun hp5 => ?_) (fun E => hX E))
      show mm_W d mmX11_years 24 [some (.ref 0), some (.int (Int32.ofInt a1)), some (.int (Int32.ofInt a2)), some (.int (Int32.ofInt a3)), none, none, none] [] (mz_mk g x) Q
      refine mm_g 2 (pc1 := 26) (lo1 := [some (.ref 0), some (.int (Int32.ofInt a1)), some (.int (Int32.ofInt a2)), some (.int (Int32.ofInt a3)), none, none, none]) (st1 := [.int (Int32.ofInt a1), .ref 0]) (H1 := mz_mk g x) rfl ?_
      refine mz_pI rfl fd_11_91 (sc_0 _) hI bd_0_15 (by omega) (by omega) (fun g6 hIg6 hug6 => ?_)
      refine mm_g 1 (pc1 := 30) (lo1 := [some (.ref 0), some (.int (Int32.ofInt a1)), some (.int (Int32.ofInt a2)), some (.int (Int32.ofInt a3)), none, none, none]) (st1 := [.ref 0]) (H1 := mz_mk g6 x) rfl ?_
      refine mz_fgR (v := 124) rfl fd_11_75 (by decide) (sc_0 _) (rf_0_12 _ _ _) ?_
      refine mm_g 1 (pc1 := 34) (lo1 := [some (.ref 0), some (.int (Int32.ofInt a1)), some (.int (Int32.ofInt a2)), some (.int (Int32.ofInt a3)), none, none, none]) (st1 := [.ref 0, .ref 124]) (H1 := mz_mk g6 x) rfl ?_
      refine mz_fgR (v := 86) rfl fd_11_37 (by decide) (sc_0 _) (rf_0_5 _ _ _) ?_
      refine mz_fgR (v := 87) rfl fd_11_158 (by decide) (sc_86 _) (rf_86_0 _ _ _) ?_
      refine mz_cv rfl mt_11_384 (by decide) (sc_124 _) rfl (Nat.le_of_ble_eq_true rfl) (by omega) (c_X9_copyAll (by omega) hx hIg6 kp_tks_124 kp_tks_87 (fun g7 hIg7 hfg7 => ⟨_, rfl, ?_⟩))
      show mm_W d mmX11_years 43 [some (.ref 0), some (.int (Int32.ofInt a1)), some (.int (Int32.ofInt a2)), some (.int (Int32.ofInt a3)), none, none, none] [] (mz_mk g7 x) Q
      refine mm_g 4 (pc1 := 49) (lo1 := [some (.ref 0), some (.int (Int32.ofInt a1)), some (.int (Int32.ofInt a2)), some (.int (Int32.ofInt a3)), some (.int (Int32.ofInt 0)), some (.int (Int32.ofInt 0)), none]) (st1 := []) (H1 := mz_mk g7 x) rfl ?_
      have L14 : ∀ n13 : Nat, ∀ (v8 : Int) (v9 : Int) (o10 : Option Value) (g11 : mz_G), (2147483647 - v9).toNat = n13 → (-2147483648) ≤ v8 → v8 ≤ 2147483647 → 0 ≤ v9 → v9 ≤ 2147483647 → mz_nl o10 → mz_inv g11 → mz_fr (fl_X11_years_49 x a1 a2 a3) g7 g11 → mm_W d mmX11_years 49 [some (.ref 0), some (.int (Int32.ofInt a1)), some (.int (Int32.ofInt a2)), some (.int (Int32.ofInt a3)), some (.int (Int32.ofInt v8)), some (.int (Int32.ofInt v9)), o10] [] (mz_mk g11 x) Q := by
        intro n13
        induction n13 using Nat.strongRecOn with
        | ind n13 ih12 =>
        intro v8 v9 o10 g11 hmn13 l_v8 u_v8 l_v9 u_v9 h_o10 hIg11 hfg11
        refine mm_g 2 (pc1 := 52) (lo1 := [some (.ref 0), some (.int (Int32.ofInt a1)), some (.int (Int32.ofInt a2)), some (.int (Int32.ofInt a3)), some (.int (Int32.ofInt v8)), some (.int (Int32.ofInt v9)), o10]) (st1 := [.int (Int32.ofInt a2), .int (Int32.ofInt v9)]) (H1 := mz_mk g11 x) rfl ?_
        refine mz_ic_ge (tgt := 108) rfl rfl (mz_rg l_v9 u_v9) (mz_rg l_a2 u_a2) (fun c52_14 => ?_) (fun c52_14 => ?_)
        · skip
          refine mm_g 1 (pc1 := 109) (lo1 := [some (.ref 0), some (.int (Int32.ofInt a1)), some (.int (Int32.ofInt a2)), some (.int (Int32.ofInt a3)), some (.int (Int32.ofInt v8)), some (.int (Int32.ofInt v9)), o10]) (st1 := [.int (Int32.ofInt a3)]) (H1 := mz_mk g11 x) rfl ?_
          refine mz_if_ne (tgt := 117) rfl rfl (mz_rg l_a3 u_a3) (fun c109_14 => ?_) (fun c109_14 => ?_)
          · skip
            refine mm_g 2 (pc1 := 119) (lo1 := [some (.ref 0), some (.int (Int32.ofInt a1)), some (.int (Int32.ofInt a2)), some (.int (Int32.ofInt a3)), some (.int (Int32.ofInt v8)), some (.int (Int32.ofInt v9)), o10]) (st1 := [.int (Int32.ofInt 1), .int (Int32.ofInt a3)]) (H1 := mz_mk g11 x) rfl ?_
            refine mz_ic_ne (tgt := 136) rfl rfl (mz_rg l_a3 u_a3) ⟨by decide, by decide⟩ (fun c119_14 => ?_) (fun c119_14 => ?_)
            · skip
              refine mm_g 1 (pc1 := 137) (lo1 := [some (.ref 0), some (.int (Int32.ofInt a1)), some (.int (Int32.ofInt a2)), some (.int (Int32.ofInt a3)), some (.int (Int32.ofInt v8)), some (.int (Int32.ofInt v9)), o10]) (st1 := [.ref 0]) (H1 := mz_mk g11 x) rfl ?_
              refine mz_fgR (v := x.1) rfl fd_11_16 (by decide) (sc_0 _) rfl ?_
              refine mm_g 1 (pc1 := 141) (lo1 := [some (.ref 0), some (.int (Int32.ofInt a1)), some (.int (Int32.ofInt a2)), some (.int (Int32.ofInt a3)), some (.int (Int32.ofInt v8)), some (.int (Int32.ofInt v9)), o10]) (st1 := [.ref 0, .ref x.1]) (H1 := mz_mk g11 x) rfl ?_
              refine mz_fgR (v := 124) rfl fd_11_75 (by decide) (sc_0 _) (rf_0_12 _ _ _) ?_
              refine mz_cv rfl mt_11_174 (by decide) (kc_load (kx_1 hx) _) rfl (Nat.le_of_ble_eq_true rfl) (by omega) (c_X1_lettersOfAll (by omega) hx hIg11 (kx_1 hx) kp_tks_124 (fun v15 l_v15 u_v15 => ⟨_, rfl, ?_⟩))
              show mm_W d mmX11_years 147 [some (.ref 0), some (.int (Int32.ofInt a1)), some (.int (Int32.ofInt a2)), some (.int (Int32.ofInt a3)), some (.int (Int32.ofInt v8)), some (.int (Int32.ofInt v9)), o10] [.int (Int32.ofInt v15)] (mz_mk g11 x) Q
              exact mm_rt rfl rfl (hQ _ _ hIg11 (fun k j hk => ((hfg11 k j (fun h => hk (Or.elim h (fun h => (Or.inl h)) (fun h => (Or.elim h (fun h => (Or.inr (Or.inl h))) (fun h => (Or.elim h (fun h => (Or.inr (Or.inr (Or.inl h)))) (fun h => (Or.inr (Or.inr (Or.inr h))))))))))).trans ((hfg7 k j (fun h => hk (Or.inr (Or.inl h)))).trans (hug6.2 k j (fun h => hk (Or.inl h)))))) (by omega) (by omega))
            · skip
              refine mm_g 1 (pc1 := 123) (lo1 := [some (.ref 0), some (.int (Int32.ofInt a1)), some (.int (Int32.ofInt a2)), some (.int (Int32.ofInt a3)), some (.int (Int32.ofInt v8)), some (.int (Int32.ofInt v9)), o10]) (st1 := [.ref 0]) (H1 := mz_mk g11 x) rfl ?_
              refine mz_fgR (v := x.1) rfl fd_11_16 (by decide) (sc_0 _) rfl ?_
              refine mm_g 1 (pc1 := 127) (lo1 := [some (.ref 0), some (.int (Int32.ofInt a1)), some (.int (Int32.ofInt a2)), some (.int (Int32.ofInt a3)), some (.int (Int32.ofInt v8)), some (.int (Int32.ofInt v9)), o10]) (st1 := [.ref 0, .ref x.1]) (H1 := mz_mk g11 x) rfl ?_
              refine mz_fgR (v := 124) rfl fd_11_75 (by decide) (sc_0 _) (rf_0_12 _ _ _) ?_
              refine mz_cv rfl mt_11_167 (by decide) (kc_load (kx_1 hx) _) rfl (Nat.le_of_ble_eq_true rfl) (by omega) (c_X1_howManyFull (by omega) hx hIg11 (kx_1 hx) kp_tks_124 (fun v16 l_v16 u_v16 => ⟨_, rfl, ?_⟩))
              show mm_W d mmX11_years 133 [some (.ref 0), some (.int (Int32.ofInt a1)), some (.int (Int32.ofInt a2)), some (.int (Int32.ofInt a3)), some (.int (Int32.ofInt v8)), some (.int (Int32.ofInt v9)), o10] [.int (Int32.ofInt v16)] (mz_mk g11 x) Q
              refine mz_gt (tgt := 147) rfl rfl ?_
              exact mm_rt rfl rfl (hQ _ _ hIg11 (fun k j hk => ((hfg11 k j (fun h => hk (Or.elim h (fun h => (Or.inl h)) (fun h => (Or.elim h (fun h => (Or.inr (Or.inl h))) (fun h => (Or.elim h (fun h => (Or.inr (Or.inr (Or.inl h)))) (fun h => (Or.inr (Or.inr (Or.inr h))))))))))).trans ((hfg7 k j (fun h => hk (Or.inr (Or.inl h)))).trans (hug6.2 k j (fun h => hk (Or.inl h)))))) (by omega) (by omega))
          · skip
            refine mm_g 1 (pc1 := 114) (lo1 := [some (.ref 0), some (.int (Int32.ofInt a1)), some (.int (Int32.ofInt a2)), some (.int (Int32.ofInt a3)), some (.int (Int32.ofInt v8)), some (.int (Int32.ofInt v9)), o10]) (st1 := [.int (Int32.ofInt v8)]) (H1 := mz_mk g11 x) rfl ?_
            refine mz_gt (tgt := 147) rfl rfl ?_
            exact mm_rt rfl rfl (hQ _ _ hIg11 (fun k j hk => ((hfg11 k j (fun h => hk (Or.elim h (fun h => (Or.inl h)) (fun h => (Or.elim h (fun h => (Or.inr (Or.inl h))) (fun h => (Or.elim h (fun h => (Or.inr (Or.inr (Or.inl h)))) (fun h => (Or.inr (Or.inr (Or.inr h))))))))))).trans ((hfg7 k j (fun h => hk (Or.inr (Or.inl h)))).trans (hug6.2 k j (fun h => hk (Or.inl h)))))) (by omega) (by omega))
        · skip
          refine mm_g 1 (pc1 := 56) (lo1 := [some (.ref 0), some (.int (Int32.ofInt a1)), some (.int (Int32.ofInt a2)), some (.int (Int32.ofInt a3)), some (.int (Int32.ofInt v8)), some (.int (Int32.ofInt v9)), o10]) (st1 := [.ref 0]) (H1 := mz_mk g11 x) rfl ?_
          refine mz_cv rfl mt_11_387 (by decide) (sc_0 _) rfl (Nat.le_of_ble_eq_true rfl) (by omega) (c_X11_drawAhead (by omega) hx hIg11 (fun g17 hIg17 hfg17 => ⟨_, rfl, ?_⟩))
          show mm_W d mmX11_years 59 [some (.ref 0), some (.int (Int32.ofInt a1)), some (.int (Int32.ofInt a2)), some (.int (Int32.ofInt a3)), some (.int (Int32.ofInt v8)), some (.int (Int32.ofInt v9)), o10] [] (mz_mk g17 x) Q
          refine mm_g 1 (pc1 := 60) (lo1 := [some (.ref 0), some (.int (Int32.ofInt a1)), some (.int (Int32.ofInt a2)), some (.int (Int32.ofInt a3)), some (.int (Int32.ofInt v8)), some (.int (Int32.ofInt v9)), o10]) (st1 := [.ref 0]) (H1 := mz_mk g17 x) rfl ?_
          refine mz_fgR (v := x.1) rfl fd_11_16 (by decide) (sc_0 _) rfl ?_
          refine mm_g 1 (pc1 := 64) (lo1 := [some (.ref 0), some (.int (Int32.ofInt a1)), some (.int (Int32.ofInt a2)), some (.int (Int32.ofInt a3)), some (.int (Int32.ofInt v8)), some (.int (Int32.ofInt v9)), o10]) (st1 := [.ref 0, .ref x.1]) (H1 := mz_mk g17 x) rfl ?_
          refine mz_fgR (v := 124) rfl fd_11_75 (by decide) (sc_0 _) (rf_0_12 _ _ _) ?_
          refine mz_cv rfl mt_11_167 (by decide) (kc_load (kx_1 hx) _) rfl (Nat.le_of_ble_eq_true rfl) (by omega) (c_X1_howManyFull (by omega) hx hIg17 (kx_1 hx) kp_tks_124 (fun v18 l_v18 u_v18 => ⟨_, rfl, ?_⟩))
          show mm_W d mmX11_years 70 [some (.ref 0), some (.int (Int32.ofInt a1)), some (.int (Int32.ofInt a2)), some (.int (Int32.ofInt a3)), some (.int (Int32.ofInt v8)), some (.int (Int32.ofInt v9)), o10] [.int (Int32.ofInt v18)] (mz_mk g17 x) Q
          refine mm_g 2 (pc1 := 73) (lo1 := [some (.ref 0), some (.int (Int32.ofInt a1)), some (.int (Int32.ofInt a2)), some (.int (Int32.ofInt a3)), some (.int (Int32.ofInt v8)), some (.int (Int32.ofInt v9)), some (.int (Int32.ofInt v18))]) (st1 := [.ref 0]) (H1 := mz_mk g17 x) rfl ?_
          refine mz_fgR (v := x.1) rfl fd_11_16 (by decide) (sc_0 _) rfl ?_
          refine mm_g 1 (pc1 := 77) (lo1 := [some (.ref 0), some (.int (Int32.ofInt a1)), some (.int (Int32.ofInt a2)), some (.int (Int32.ofInt a3)), some (.int (Int32.ofInt v8)), some (.int (Int32.ofInt v9)), some (.int (Int32.ofInt v18))]) (st1 := [.ref 0, .ref x.1]) (H1 := mz_mk g17 x) rfl ?_
          refine mz_fgR (v := 124) rfl fd_11_75 (by decide) (sc_0 _) (rf_0_12 _ _ _) ?_
          refine mz_cv rfl mt_11_256 (by decide) (kc_load (kx_1 hx) _) rfl (Nat.le_of_ble_eq_true rfl) (by omega) (c_X1_passDay (by omega) hx hIg17 (kx_1 hx) kp_tks_124 (fun g19 hIg19 hfg19 => ⟨_, rfl, ?_⟩))
          show mm_W d mmX11_years 83 [some (.ref 0), some (.int (Int32.ofInt a1)), some (.int (Int32.ofInt a2)), some (.int (Int32.ofInt a3)), some (.int (Int32.ofInt v8)), some (.int (Int32.ofInt v9)), some (.int (Int32.ofInt v18))] [] (mz_mk g19 x) Q
          refine mm_g 2 (pc1 := 86) (lo1 := [some (.ref 0), some (.int (Int32.ofInt a1)), some (.int (Int32.ofInt a2)), some (.int (Int32.ofInt a3)), some (.int (Int32.ofInt v8)), some (.int (Int32.ofInt v9)), some (.int (Int32.ofInt v18))]) (st1 := [.ref 0, .int (Int32.ofInt v8)]) (H1 := mz_mk g19 x) rfl ?_
          refine mz_fgR (v := x.1) rfl fd_11_16 (by decide) (sc_0 _) rfl ?_
          refine mm_g 1 (pc1 := 90) (lo1 := [some (.ref 0), some (.int (Int32.ofInt a1)), some (.int (Int32.ofInt a2)), some (.int (Int32.ofInt a3)), some (.int (Int32.ofInt v8)), some (.int (Int32.ofInt v9)), some (.int (Int32.ofInt v18))]) (st1 := [.ref 0, .ref x.1, .int (Int32.ofInt v8)]) (H1 := mz_mk g19 x) rfl ?_
          refine mz_fgR (v := 124) rfl fd_11_75 (by decide) (sc_0 _) (rf_0_12 _ _ _) ?_
          refine mz_cv rfl mt_11_167 (by decide) (kc_load (kx_1 hx) _) rfl (Nat.le_of_ble_eq_true rfl) (by omega) (c_X1_howManyFull (by omega) hx hIg19 (kx_1 hx) kp_tks_124 (fun v20 l_v20 u_v20 => ⟨_, rfl, ?_⟩))
          show mm_W d mmX11_years 96 [some (.ref 0), some (.int (Int32.ofInt a1)), some (.int (Int32.ofInt a2)), some (.int (Int32.ofInt a3)), some (.int (Int32.ofInt v8)), some (.int (Int32.ofInt v9)), some (.int (Int32.ofInt v18))] [.int (Int32.ofInt v20), .int (Int32.ofInt v8)] (mz_mk g19 x) Q
          refine mm_g 1 (pc1 := 98) (lo1 := [some (.ref 0), some (.int (Int32.ofInt a1)), some (.int (Int32.ofInt a2)), some (.int (Int32.ofInt a3)), some (.int (Int32.ofInt v8)), some (.int (Int32.ofInt v9)), some (.int (Int32.ofInt v18))]) (st1 := [.int (Int32.ofInt v18), .int (Int32.ofInt v20), .int (Int32.ofInt v8)]) (H1 := mz_mk g19 x) rfl ?_
          refine mz_isub_w rfl (fun v21 _ hwv21 => ?_)
          have l_v21 := hwv21.1
          have u_v21 := hwv21.2
          refine mz_iadd_w rfl (fun v22 _ hwv22 => ?_)
          have l_v22 := hwv22.1
          have u_v22 := hwv22.2
          refine mm_g 1 (pc1 := 102) (lo1 := [some (.ref 0), some (.int (Int32.ofInt a1)), some (.int (Int32.ofInt a2)), some (.int (Int32.ofInt a3)), some (.int (Int32.ofInt v22)), some (.int (Int32.ofInt v9)), some (.int (Int32.ofInt v18))]) (st1 := []) (H1 := mz_mk g19 x) rfl ?_
          refine mz_iincR (v := v9) (lo2 := [some (.ref 0), some (.int (Int32.ofInt a1)), some (.int (Int32.ofInt a2)), some (.int (Int32.ofInt a3)), some (.int (Int32.ofInt v22)), some (.int (Int32.ofInt (v9 + 1))), some (.int (Int32.ofInt v18))]) rfl rfl rfl (Nat.le_of_ble_eq_true rfl) rfl ?_
          refine mz_gt (tgt := 49) rfl rfl ?_
          exact ih12 ((2147483647 - (v9 + 1)).toNat) (by omega) v22 (v9 + 1) (some (.int (Int32.ofInt v18))) g19 rfl (by omega) (by omega) (by omega) (by omega) (mz_nl_i _) hIg19 (fun k j hk => ((hfg19 k j (fun h => hk (Or.elim h (fun h => (Or.inr (Or.inl h))) (fun h => (Or.elim h (fun h => (Or.inr (Or.inr (Or.inl h)))) (fun h => (Or.inr (Or.inr (Or.inr h))))))))).trans ((hfg17 k j (fun h => hk (Or.elim h (fun h => (Or.inl h)) (fun h => (Or.inr (Or.inl h)))))).trans (hfg11 k j (fun h => hk (Or.elim h (fun h => (Or.inl h)) (fun h => (Or.elim h (fun h => (Or.inr (Or.inl h))) (fun h => (Or.elim h (fun h => (Or.inr (Or.inr (Or.inl h)))) (fun h => (Or.inr (Or.inr (Or.inr h))))))))))))))
      exact L14 _ 0 0 none g7 rfl (by decide) (by decide) (by decide) (by decide) mz_nl_n hIg7 (fun _ _ _ => rfl)
def fl_X11_copyRow_2 (x : mm_X) (q1 : Nat) (q2 : Nat) : Nat → Nat → Prop := fun k j => k = q2
def fw_X11_copyRow (x : mm_X) (q1 : Nat) (q2 : Nat) : Nat → Nat → Prop := fun k j => k = q2
theorem c_X11_copyRow {d : Nat} (hd : 1 ≤ d) {x : mm_X} (hx : mk_x x) {g : mz_G} (hI : mz_inv g) {q1 n_q1 : Nat} {lb_q1 ub_q1 : Int} (h_q1 : mm_SH x.2.2.2.1 q1 = (100, n_q1)) (m_q1 : n_q1 ≤ 2048) (b_q1 : ∀ j, mz_bd q1 j = (lb_q1, ub_q1)) (y_q1 : lb_q1 ≤ 0) (z_q1 : 0 ≤ ub_q1) {q2 n_q2 : Nat} {lb_q2 ub_q2 : Int} (h_q2 : mm_SH x.2.2.2.1 q2 = (100, n_q2)) (m_q2 : n_q2 ≤ 2048) (b_q2 : ∀ j, mz_bd q2 j = (lb_q2, ub_q2)) (y_q2 : lb_q2 ≤ 0) (z_q2 : 0 ≤ ub_q2) (p1 : lb_q2 ≤ lb_q1) (p2 : ub_q1 ≤ ub_q2) {Q : (Option Value ⊕ Nat) → mm_H → Prop} (hQ : ∀ (g1 : mz_G), mz_inv g1 → mz_fr (fw_X11_copyRow x q1 q2) g g1 → Q (.inl none) (mz_mk g1 x)) : mm_C d 178 [.ref q1, .ref q2] (mz_mk g x) Q := by
  have kx := kn_x hx
  refine ⟨mmX11_copyRow, [some (.ref q1), some (.ref q2), none], rfl, rfl, ?_⟩
  refine mm_g 2 (pc1 := 2) (lo1 := [some (.ref q1), some (.ref q2), some (.int (Int32.ofInt 0))]) (st1 := []) (H1 := mz_mk g x) rfl ?_
  have L5 : ∀ n4 : Nat, ∀ (v1 : Int) (g2 : mz_G), (2048 - v1).toNat = n4 → 0 ≤ v1 → v1 ≤ 2048 → mz_inv g2 → mz_fr (fl_X11_copyRow_2 x q1 q2) g g2 → mm_W d mmX11_copyRow 2 [some (.ref q1), some (.ref q2), some (.int (Int32.ofInt v1))] [] (mz_mk g2 x) Q := by
    intro n4
    induction n4 using Nat.strongRecOn with
    | ind n4 ih3 =>
    intro v1 g2 hmn4 l_v1 u_v1 hIg2 hfg2
    refine mm_g 2 (pc1 := 4) (lo1 := [some (.ref q1), some (.ref q2), some (.int (Int32.ofInt v1))]) (st1 := [.ref q1, .int (Int32.ofInt v1)]) (H1 := mz_mk g2 x) rfl ?_
    refine mz_al rfl h_q1 (by decide) ?_
    refine mz_ic_ge (tgt := 26) rfl rfl (mz_rg l_v1 u_v1) ⟨by omega, by omega⟩ (fun c5_5 => ?_) (fun c5_5 => ?_)
    · skip
      exact mm_rt rfl rfl (hQ _ hIg2 (fun k j hk => (hfg2 k j (fun h => hk h))))
    · skip
      refine mm_g 2 (pc1 := 10) (lo1 := [some (.ref q1), some (.ref q2), some (.int (Int32.ofInt v1))]) (st1 := [.ref q2, .int (Int32.ofInt v1)]) (H1 := mz_mk g2 x) rfl ?_
      refine mz_al rfl h_q2 (by decide) ?_
      refine mz_ic_ge (tgt := 26) rfl rfl (mz_rg l_v1 u_v1) ⟨by omega, by omega⟩ (fun c11_5 => ?_) (fun c11_5 => ?_)
      · skip
        exact mm_rt rfl rfl (hQ _ hIg2 (fun k j hk => (hfg2 k j (fun h => hk h))))
      · skip
        refine mm_g 4 (pc1 := 18) (lo1 := [some (.ref q1), some (.ref q2), some (.int (Int32.ofInt v1))]) (st1 := [.int (Int32.ofInt v1), .ref q1, .int (Int32.ofInt v1), .ref q2]) (H1 := mz_mk g2 x) rfl ?_
        refine mz_aI rfl h_q1 (by omega) (by omega) (by omega) hIg2 (b_q1 _) (fun v6 e_v6 l_v6 u_v6 => ?_)
        refine mz_sI rfl h_q2 (by omega) (by omega) (by omega) hIg2 (b_q2 _) (by omega) (by omega) (fun g7 hIg7 hug7 => ?_)
        refine mz_iincR (v := v1) (lo2 := [some (.ref q1), some (.ref q2), some (.int (Int32.ofInt (v1 + 1)))]) rfl rfl rfl (Nat.le_of_ble_eq_true rfl) rfl ?_
        refine mz_gt (tgt := 2) rfl rfl ?_
        exact ih3 ((2048 - (v1 + 1)).toNat) (by omega) (v1 + 1) g7 rfl (by omega) (by omega) hIg7 (fun k j hk => ((hug7.2 k j (fun h => hk h.1)).trans (hfg2 k j (fun h => hk h))))
  exact L5 _ 0 g rfl (by decide) (by decide) hI (fun _ _ _ => rfl)
def fw_X6_takeOver (x : mm_X) (q0 : Nat) (q1 : Nat) : Nat → Nat → Prop := fun k j => ((q0 + 1) ≤ k ∧ k < (q0 + 1) + 9) ∨ k = (q0 + 10) ∨ k = q0 ∨ k = (q0 + 11) ∨ k = (q0 + 12) ∨ k = (q0 + 13) ∨ k = (q0 + 14)
theorem c_X6_takeOver {d : Nat} (hd : 3 ≤ d) {x : mm_X} (hx : mk_x x) {g : mz_G} (hI : mz_inv g) {q0 : Nat} (h_q0 : kd_story q0) {q1 : Nat} (h_q1 : kd_story q1) {Q : (Option Value ⊕ Nat) → mm_H → Prop} (hQ : ∀ (g1 : mz_G), mz_inv g1 → mz_fr (fw_X6_takeOver x q0 q1) g g1 → Q (.inl none) (mz_mk g1 x)) : mm_C d 66 [.ref q0, .ref q1] (mz_mk g x) Q := by
  have kn_q0 := kn_story h_q0
  have kn_q1 := kn_story h_q1
  refine ⟨mmX6_takeOver, [some (.ref q0), some (.ref q1)], rfl, rfl, ?_⟩
  refine mm_g 1 (pc1 := 1) (lo1 := [some (.ref q0), some (.ref q1)]) (st1 := [.ref q0]) (H1 := mz_mk g x) rfl ?_
  refine mz_fgR (v := (q0 + 1)) rfl fd_6_12 (by decide) (kc_story h_q0 _) (kr_story_0 h_q0 _ _ _) ?_
  refine mm_g 1 (pc1 := 5) (lo1 := [some (.ref q0), some (.ref q1)]) (st1 := [.ref q1, .ref (q0 + 1)]) (H1 := mz_mk g x) rfl ?_
  refine mz_fgR (v := (q1 + 1)) rfl fd_6_12 (by decide) (kc_story h_q1 _) (kr_story_0 h_q1 _ _ _) ?_
  refine mz_cv rfl mt_6_44 (by decide) (kc_tks (ks_story_0 h_q0) _) rfl (Nat.le_of_ble_eq_true rfl) (by omega) (c_X9_copyAll (by omega) hx hI (ks_story_0 h_q0) (ks_story_0 h_q1) (fun g1 hIg1 hfg1 => ⟨_, rfl, ?_⟩))
  show mm_W d mmX6_takeOver 11 [some (.ref q0), some (.ref q1)] [] (mz_mk g1 x) Q
  refine mm_g 1 (pc1 := 12) (lo1 := [some (.ref q0), some (.ref q1)]) (st1 := [.ref q1]) (H1 := mz_mk g1 x) rfl ?_
  refine mz_fgR (v := (q1 + 10)) rfl fd_6_18 (by decide) (kc_story h_q1 _) (kr_story_1 h_q1 _ _ _) ?_
  refine mm_g 1 (pc1 := 16) (lo1 := [some (.ref q0), some (.ref q1)]) (st1 := [.ref q0, .ref (q1 + 10)]) (H1 := mz_mk g1 x) rfl ?_
  refine mz_fgR (v := (q0 + 10)) rfl fd_6_18 (by decide) (kc_story h_q0 _) (kr_story_1 h_q0 _ _ _) ?_
  refine mz_cs rfl mt_6_48 (by decide) rfl (Nat.le_of_ble_eq_true rfl) (by omega) (c_X11_copyRow (by omega) hx hIg1 (ka_story_1 h_q1 _) (by decide) (kba_story_1 h_q1) (by omega) (by omega) (ka_story_1 h_q0 _) (by decide) (kba_story_1 h_q0) (by omega) (by omega) (by omega) (by omega) (fun g2 hIg2 hfg2 => ⟨_, rfl, ?_⟩))
  show mm_W d mmX6_takeOver 22 [some (.ref q0), some (.ref q1)] [] (mz_mk g2 x) Q
  refine mm_g 2 (pc1 := 24) (lo1 := [some (.ref q0), some (.ref q1)]) (st1 := [.ref q1, .ref q0]) (H1 := mz_mk g2 x) rfl ?_
  refine mz_gI rfl fd_6_22 (by decide) (kc_story h_q1 _) hIg2 (kb_story_2 h_q1) (fun v3 e_v3 l_v3 u_v3 => ?_)
  refine mz_pI rfl fd_6_22 (kc_story h_q0 _) hIg2 (kb_story_2 h_q0) (by omega) (by omega) (fun g4 hIg4 hug4 => ?_)
  refine mm_g 2 (pc1 := 32) (lo1 := [some (.ref q0), some (.ref q1)]) (st1 := [.ref q1, .ref q0]) (H1 := mz_mk g4 x) rfl ?_
  refine mz_gI rfl fd_6_26 (by decide) (kc_story h_q1 _) hIg4 (kb_story_3 h_q1) (fun v5 e_v5 l_v5 u_v5 => ?_)
  refine mz_pI rfl fd_6_26 (kc_story h_q0 _) hIg4 (kb_story_3 h_q0) (by omega) (by omega) (fun g6 hIg6 hug6 => ?_)
  refine mm_g 1 (pc1 := 39) (lo1 := [some (.ref q0), some (.ref q1)]) (st1 := [.ref q1]) (H1 := mz_mk g6 x) rfl ?_
  refine mz_fgR (v := (q1 + 11)) rfl fd_6_29 (by decide) (kc_story h_q1 _) (kr_story_4 h_q1 _ _ _) ?_
  refine mm_g 1 (pc1 := 43) (lo1 := [some (.ref q0), some (.ref q1)]) (st1 := [.ref q0, .ref (q1 + 11)]) (H1 := mz_mk g6 x) rfl ?_
  refine mz_fgR (v := (q0 + 11)) rfl fd_6_29 (by decide) (kc_story h_q0 _) (kr_story_4 h_q0 _ _ _) ?_
  refine mz_cs rfl mt_6_48 (by decide) rfl (Nat.le_of_ble_eq_true rfl) (by omega) (c_X11_copyRow (by omega) hx hIg6 (ka_story_4 h_q1 _) (by decide) (kba_story_4 h_q1) (by omega) (by omega) (ka_story_4 h_q0 _) (by decide) (kba_story_4 h_q0) (by omega) (by omega) (by omega) (by omega) (fun g7 hIg7 hfg7 => ⟨_, rfl, ?_⟩))
  show mm_W d mmX6_takeOver 49 [some (.ref q0), some (.ref q1)] [] (mz_mk g7 x) Q
  refine mm_g 1 (pc1 := 50) (lo1 := [some (.ref q0), some (.ref q1)]) (st1 := [.ref q1]) (H1 := mz_mk g7 x) rfl ?_
  refine mz_fgR (v := (q1 + 12)) rfl fd_6_32 (by decide) (kc_story h_q1 _) (kr_story_5 h_q1 _ _ _) ?_
  refine mm_g 1 (pc1 := 54) (lo1 := [some (.ref q0), some (.ref q1)]) (st1 := [.ref q0, .ref (q1 + 12)]) (H1 := mz_mk g7 x) rfl ?_
  refine mz_fgR (v := (q0 + 12)) rfl fd_6_32 (by decide) (kc_story h_q0 _) (kr_story_5 h_q0 _ _ _) ?_
  refine mz_cs rfl mt_6_48 (by decide) rfl (Nat.le_of_ble_eq_true rfl) (by omega) (c_X11_copyRow (by omega) hx hIg7 (ka_story_5 h_q1 _) (by decide) (kba_story_5 h_q1) (by omega) (by omega) (ka_story_5 h_q0 _) (by decide) (kba_story_5 h_q0) (by omega) (by omega) (by omega) (by omega) (fun g8 hIg8 hfg8 => ⟨_, rfl, ?_⟩))
  show mm_W d mmX6_takeOver 60 [some (.ref q0), some (.ref q1)] [] (mz_mk g8 x) Q
  refine mm_g 1 (pc1 := 61) (lo1 := [some (.ref q0), some (.ref q1)]) (st1 := [.ref q1]) (H1 := mz_mk g8 x) rfl ?_
  refine mz_fgR (v := (q1 + 13)) rfl fd_6_35 (by decide) (kc_story h_q1 _) (kr_story_6 h_q1 _ _ _) ?_
  refine mm_g 1 (pc1 := 65) (lo1 := [some (.ref q0), some (.ref q1)]) (st1 := [.ref q0, .ref (q1 + 13)]) (H1 := mz_mk g8 x) rfl ?_
  refine mz_fgR (v := (q0 + 13)) rfl fd_6_35 (by decide) (kc_story h_q0 _) (kr_story_6 h_q0 _ _ _) ?_
  refine mz_cs rfl mt_6_48 (by decide) rfl (Nat.le_of_ble_eq_true rfl) (by omega) (c_X11_copyRow (by omega) hx hIg8 (ka_story_6 h_q1 _) (by decide) (kba_story_6 h_q1) (by omega) (by omega) (ka_story_6 h_q0 _) (by decide) (kba_story_6 h_q0) (by omega) (by omega) (by omega) (by omega) (fun g9 hIg9 hfg9 => ⟨_, rfl, ?_⟩))
  show mm_W d mmX6_takeOver 71 [some (.ref q0), some (.ref q1)] [] (mz_mk g9 x) Q
  refine mm_g 2 (pc1 := 73) (lo1 := [some (.ref q0), some (.ref q1)]) (st1 := [.ref q1, .ref q0]) (H1 := mz_mk g9 x) rfl ?_
  refine mz_gI rfl fd_6_38 (by decide) (kc_story h_q1 _) hIg9 (kb_story_7 h_q1) (fun v10 e_v10 l_v10 u_v10 => ?_)
  refine mz_pI rfl fd_6_38 (kc_story h_q0 _) hIg9 (kb_story_7 h_q0) (by omega) (by omega) (fun g11 hIg11 hug11 => ?_)
  refine mm_g 1 (pc1 := 80) (lo1 := [some (.ref q0), some (.ref q1)]) (st1 := [.ref q1]) (H1 := mz_mk g11 x) rfl ?_
  refine mz_fgR (v := (q1 + 14)) rfl fd_6_41 (by decide) (kc_story h_q1 _) (kr_story_8 h_q1 _ _ _) ?_
  refine mm_g 1 (pc1 := 84) (lo1 := [some (.ref q0), some (.ref q1)]) (st1 := [.ref q0, .ref (q1 + 14)]) (H1 := mz_mk g11 x) rfl ?_
  refine mz_fgR (v := (q0 + 14)) rfl fd_6_41 (by decide) (kc_story h_q0 _) (kr_story_8 h_q0 _ _ _) ?_
  refine mz_cs rfl mt_6_48 (by decide) rfl (Nat.le_of_ble_eq_true rfl) (by omega) (c_X11_copyRow (by omega) hx hIg11 (ka_story_8 h_q1 _) (by decide) (kba_story_8 h_q1) (by omega) (by omega) (ka_story_8 h_q0 _) (by decide) (kba_story_8 h_q0) (by omega) (by omega) (by omega) (by omega) (fun g12 hIg12 hfg12 => ⟨_, rfl, ?_⟩))
  show mm_W d mmX6_takeOver 90 [some (.ref q0), some (.ref q1)] [] (mz_mk g12 x) Q
  exact mm_rt rfl rfl (hQ _ hIg12 (fun k j hk => ((hfg12 k j (fun h => hk (Or.inr (Or.inr (Or.inr (Or.inr (Or.inr (Or.inr h)))))))).trans ((hug11.2 k j (fun h => hk (Or.inr (Or.inr (Or.inl h.1))))).trans ((hfg9 k j (fun h => hk (Or.inr (Or.inr (Or.inr (Or.inr (Or.inr (Or.inl h)))))))).trans ((hfg8 k j (fun h => hk (Or.inr (Or.inr (Or.inr (Or.inr (Or.inl h))))))).trans ((hfg7 k j (fun h => hk (Or.inr (Or.inr (Or.inr (Or.inl h)))))).trans ((hug6.2 k j (fun h => hk (Or.inr (Or.inr (Or.inl h.1))))).trans ((hug4.2 k j (fun h => hk (Or.inr (Or.inr (Or.inl h.1))))).trans ((hfg2 k j (fun h => hk (Or.inr (Or.inl h)))).trans (hfg1 k j (fun h => hk (Or.inl h)))))))))))))
def fw_X11_image (x : mm_X) : Nat → Nat → Prop := fun k j => (102 ≤ k ∧ k < 111) ∨ k = 111 ∨ k = 101 ∨ k = 112 ∨ k = 113 ∨ k = 114 ∨ k = 115 ∨ (k = 0 ∧ j = 7)
theorem c_X11_image {d : Nat} (hd : 4 ≤ d) {x : mm_X} (hx : mk_x x) {g : mz_G} (hI : mz_inv g) {Q : (Option Value ⊕ Nat) → mm_H → Prop} (hQ : ∀ (g1 : mz_G), mz_inv g1 → mz_fr (fw_X11_image x) g g1 → Q (.inl none) (mz_mk g1 x)) : mm_C d 169 [.ref 0] (mz_mk g x) Q := by
  have kx := kn_x hx
  refine ⟨mmX11_image, [some (.ref 0)], rfl, rfl, ?_⟩
  refine mm_g 1 (pc1 := 1) (lo1 := [some (.ref 0)]) (st1 := [.ref 0]) (H1 := mz_mk g x) rfl ?_
  refine mz_fgR (v := 101) rfl fd_11_41 (by decide) (sc_0 _) (rf_0_6 _ _ _) ?_
  refine mm_g 1 (pc1 := 5) (lo1 := [some (.ref 0)]) (st1 := [.ref 0, .ref 101]) (H1 := mz_mk g x) rfl ?_
  refine mz_fgR (v := 86) rfl fd_11_37 (by decide) (sc_0 _) (rf_0_5 _ _ _) ?_
  refine mz_cv rfl mt_11_394 (by decide) (sc_101 _) rfl (Nat.le_of_ble_eq_true rfl) (by omega) (c_X6_takeOver (by omega) hx hI kp_story_101 kp_story_86 (fun g1 hIg1 hfg1 => ⟨_, rfl, ?_⟩))
  show mm_W d mmX11_image 11 [some (.ref 0)] [] (mz_mk g1 x) Q
  refine mm_g 2 (pc1 := 13) (lo1 := [some (.ref 0)]) (st1 := [.int (Int32.ofInt 1), .ref 0]) (H1 := mz_mk g1 x) rfl ?_
  refine mz_pZ rfl fd_11_44 (sc_0 _) (by decide) hIg1 bd_0_7 (by omega) (by omega) (fun g2 hIg2 hug2 => ?_)
  exact mm_rt rfl rfl (hQ _ hIg2 (fun k j hk => ((hug2.2 k j (fun h => hk (Or.inr (Or.inr (Or.inr (Or.inr (Or.inr (Or.inr (Or.inr h))))))))).trans (hfg1 k j (fun h => hk (Or.elim h (fun h => (Or.inl h)) (fun h => (Or.elim h (fun h => (Or.inr (Or.inl h))) (fun h => (Or.elim h (fun h => (Or.inr (Or.inr (Or.inl h)))) (fun h => (Or.elim h (fun h => (Or.inr (Or.inr (Or.inr (Or.inl h))))) (fun h => (Or.elim h (fun h => (Or.inr (Or.inr (Or.inr (Or.inr (Or.inl h)))))) (fun h => (Or.elim h (fun h => (Or.inr (Or.inr (Or.inr (Or.inr (Or.inr (Or.inl h))))))) (fun h => (Or.inr (Or.inr (Or.inr (Or.inr (Or.inr (Or.inr (Or.inl h))))))))))))))))))))))))
def fw_X11_restore (x : mm_X) : Nat → Nat → Prop := fun k j => (87 ≤ k ∧ k < 96) ∨ k = 96 ∨ k = 86 ∨ k = 97 ∨ k = 98 ∨ k = 99 ∨ k = 100
theorem c_X11_restore {d : Nat} (hd : 4 ≤ d) {x : mm_X} (hx : mk_x x) {g : mz_G} (hI : mz_inv g) {Q : (Option Value ⊕ Nat) → mm_H → Prop} (hQ : ∀ (r : Int) (g1 : mz_G), mz_inv g1 → mz_fr (fw_X11_restore x) g g1 → 0 ≤ r → r ≤ 1 → Q (.inl (some (.int (Int32.ofInt r)))) (mz_mk g1 x)) : mm_C d 170 [.ref 0] (mz_mk g x) Q := by
  have kx := kn_x hx
  refine ⟨mmX11_restore, [some (.ref 0)], rfl, rfl, ?_⟩
  refine mm_g 1 (pc1 := 1) (lo1 := [some (.ref 0)]) (st1 := [.ref 0]) (H1 := mz_mk g x) rfl ?_
  refine mz_gI rfl fd_11_44 (by decide) (sc_0 _) hI bd_0_7 (fun v1 e_v1 l_v1 u_v1 => ?_)
  refine mz_if_eq (tgt := 18) rfl rfl (mz_rg l_v1 u_v1) (fun c4_1 => ?_) (fun c4_1 => ?_)
  · skip
    refine mm_g 1 (pc1 := 19) (lo1 := [some (.ref 0)]) (st1 := [.ref 0]) (H1 := mz_mk g x) rfl ?_
    refine mz_fgI (v := v1) rfl fd_11_44 (by decide) (sc_0 _) e_v1 ?_
    exact mz_rtZ rfl (by decide) (by omega) (hQ _ _ hI (fun _ _ _ => rfl) (by omega) (by omega))
  · skip
    refine mm_g 1 (pc1 := 8) (lo1 := [some (.ref 0)]) (st1 := [.ref 0]) (H1 := mz_mk g x) rfl ?_
    refine mz_fgR (v := 86) rfl fd_11_37 (by decide) (sc_0 _) (rf_0_5 _ _ _) ?_
    refine mm_g 1 (pc1 := 12) (lo1 := [some (.ref 0)]) (st1 := [.ref 0, .ref 86]) (H1 := mz_mk g x) rfl ?_
    refine mz_fgR (v := 101) rfl fd_11_41 (by decide) (sc_0 _) (rf_0_6 _ _ _) ?_
    refine mz_cv rfl mt_11_394 (by decide) (sc_86 _) rfl (Nat.le_of_ble_eq_true rfl) (by omega) (c_X6_takeOver (by omega) hx hI kp_story_86 kp_story_101 (fun g2 hIg2 hfg2 => ⟨_, rfl, ?_⟩))
    show mm_W d mmX11_restore 18 [some (.ref 0)] [] (mz_mk g2 x) Q
    refine mm_g 1 (pc1 := 19) (lo1 := [some (.ref 0)]) (st1 := [.ref 0]) (H1 := mz_mk g2 x) rfl ?_
    refine mz_fgI (v := v1) rfl fd_11_44 (by decide) (sc_0 _) (show g2 0 7 = v1 from ((hfg2 0 7 (fun h => (Or.elim h (fun h => (absurd (show (87 ≤ 0 ∧ 0 < 96) from h) (by decide))) (fun h => (Or.elim h (fun h => (absurd (show 0 = 96 from h) (by decide))) (fun h => (Or.elim h (fun h => (absurd (show 0 = 86 from h) (by decide))) (fun h => (Or.elim h (fun h => (absurd (show 0 = 97 from h) (by decide))) (fun h => (Or.elim h (fun h => (absurd (show 0 = 98 from h) (by decide))) (fun h => (Or.elim h (fun h => (absurd (show 0 = 99 from h) (by decide))) (fun h => (absurd (show 0 = 100 from h) (by decide)))))))))))))))).trans e_v1)) ?_
    exact mz_rtZ rfl (by decide) (by omega) (hQ _ _ hIg2 (fun k j hk => (hfg2 k j (fun h => hk (Or.elim h (fun h => (Or.inl h)) (fun h => (Or.elim h (fun h => (Or.inr (Or.inl h))) (fun h => (Or.elim h (fun h => (Or.inr (Or.inr (Or.inl h)))) (fun h => (Or.elim h (fun h => (Or.inr (Or.inr (Or.inr (Or.inl h))))) (fun h => (Or.elim h (fun h => (Or.inr (Or.inr (Or.inr (Or.inr (Or.inl h)))))) (fun h => (Or.elim h (fun h => (Or.inr (Or.inr (Or.inr (Or.inr (Or.inr (Or.inl h))))))) (fun h => (Or.inr (Or.inr (Or.inr (Or.inr (Or.inr (Or.inr h))))))))))))))))))))) (by omega) (by omega))
