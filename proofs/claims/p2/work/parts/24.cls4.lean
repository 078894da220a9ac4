/-! CONTRACTS OF THE CLASS, by program (wip/p2/tools/gen23.py) -/
theorem c_X0_howOften {d : Nat} (hd : 2 ≤ d) {x : mm_X} (hx : mk_x x) {g : mz_G} (hI : mz_inv g) {q0 : Nat} (h_q0 : kd_let q0) {a1 : Int} (l_a1 : (-2147483648) ≤ a1) (u_a1 : a1 ≤ 2147483647) {Q : (Option Value ⊕ Nat) → mm_H → Prop} (hQ : ∀ (r : Int), (-2147483648) ≤ r → r ≤ 2147483647 → Q (.inl (some (.int (Int32.ofInt r)))) (mz_mk g x)) : mm_C d 11 [.ref q0, .int (Int32.ofInt a1)] (mz_mk g x) Q := by
  have kn_q0 := kn_let h_q0
  refine ⟨mmX0_howOften, [some (.ref q0), some (.int (Int32.ofInt a1)), none, none], rfl, rfl, ?_⟩
  refine mm_g 4 (pc1 := 4) (lo1 := [some (.ref q0), some (.int (Int32.ofInt a1)), some (.int (Int32.ofInt 0)), some (.int (Int32.ofInt 0))]) (st1 := []) (H1 := mz_mk g x) rfl ?_
  have L6 : ∀ n5 : Nat, ∀ (v1 : Int) (v2 : Int), (16 - v2).toNat = n5 → (-2147483648) ≤ v1 → v1 ≤ 2147483647 → 0 ≤ v2 → v2 ≤ 16 → mm_W d mmX0_howOften 4 [some (.ref q0), some (.int (Int32.ofInt a1)), some (.int (Int32.ofInt v1)), some (.int (Int32.ofInt v2))] [] (mz_mk g x) Q := by
    intro n5
    induction n5 using Nat.strongRecOn with
    | ind n5 ih4 =>
    intro v1 v2 hmn5 l_v1 u_v1 l_v2 u_v2
    refine mm_g 2 (pc1 := 6) (lo1 := [some (.ref q0), some (.int (Int32.ofInt a1)), some (.int (Int32.ofInt v1)), some (.int (Int32.ofInt v2))]) (st1 := [.ref q0, .int (Int32.ofInt v2)]) (H1 := mz_mk g x) rfl ?_
    refine mz_gI rfl fd_0_7 (by decide) (kc_let h_q0 _) hI (kb_let_1 h_q0) (fun v7 e_v7 l_v7 u_v7 => ?_)
    refine mz_ic_ge (tgt := 38) rfl rfl (mz_rg l_v2 u_v2) (mz_rg l_v7 u_v7) (fun c9_7 => ?_) (fun c9_7 => ?_)
    · skip
      refine mm_g 1 (pc1 := 39) (lo1 := [some (.ref q0), some (.int (Int32.ofInt a1)), some (.int (Int32.ofInt v1)), some (.int (Int32.ofInt v2))]) (st1 := [.int (Int32.ofInt v1)]) (H1 := mz_mk g x) rfl ?_
      exact mm_rt rfl rfl (hQ _ (by omega) (by omega))
    · skip
      refine mm_g 2 (pc1 := 14) (lo1 := [some (.ref q0), some (.int (Int32.ofInt a1)), some (.int (Int32.ofInt v1)), some (.int (Int32.ofInt v2))]) (st1 := [.ref q0, .int (Int32.ofInt v1)]) (H1 := mz_mk g x) rfl ?_
      refine mz_fgR (v := (q0 + 1)) rfl fd_0_13 (by decide) (kc_let h_q0 _) (kr_let_0 h_q0 _ _ _) ?_
      obtain ⟨n8, hn_n8, m_n8⟩ := kl_let h_q0 x.2.2.2.1
      have mm_n8 : n8 ≤ 100000 := by omega
      refine mm_g 1 (pc1 := 18) (lo1 := [some (.ref q0), some (.int (Int32.ofInt a1)), some (.int (Int32.ofInt v1)), some (.int (Int32.ofInt v2))]) (st1 := [.int (Int32.ofInt v2), .ref (q0 + 1), .int (Int32.ofInt v1)]) (H1 := mz_mk g x) rfl ?_
      refine mz_cs rfl mt_0_23 (by decide) rfl (Nat.le_of_ble_eq_true rfl) (by omega) (c_X11_at (by omega) hx hI hn_n8 (by omega) (kba_let_0 h_q0) (by omega) (by omega) (by omega) (by omega) (fun v9 l_v9 u_v9 => ⟨_, rfl, ?_⟩))
      show mm_W d mmX0_howOften 21 [some (.ref q0), some (.int (Int32.ofInt a1)), some (.int (Int32.ofInt v1)), some (.int (Int32.ofInt v2))] [.int (Int32.ofInt v9), .int (Int32.ofInt v1)] (mz_mk g x) Q
      refine mm_g 1 (pc1 := 22) (lo1 := [some (.ref q0), some (.int (Int32.ofInt a1)), some (.int (Int32.ofInt v1)), some (.int (Int32.ofInt v2))]) (st1 := [.int (Int32.ofInt a1), .int (Int32.ofInt v9), .int (Int32.ofInt v1)]) (H1 := mz_mk g x) rfl ?_
      refine mz_ic_ne (tgt := 29) rfl rfl (mz_rg l_v9 u_v9) (mz_rg l_a1 u_a1) (fun c22_9 => ?_) (fun c22_9 => ?_)
      · skip
        refine mm_g 1 (pc1 := 30) (lo1 := [some (.ref q0), some (.int (Int32.ofInt a1)), some (.int (Int32.ofInt v1)), some (.int (Int32.ofInt v2))]) (st1 := [.int (Int32.ofInt 0), .int (Int32.ofInt v1)]) (H1 := mz_mk g x) rfl ?_
        refine mz_iadd rfl ?_
        refine mm_g 1 (pc1 := 32) (lo1 := [some (.ref q0), some (.int (Int32.ofInt a1)), some (.int (Int32.ofInt (v1 + 0))), some (.int (Int32.ofInt v2))]) (st1 := []) (H1 := mz_mk g x) rfl ?_
        refine mz_iincR (v := v2) (lo2 := [some (.ref q0), some (.int (Int32.ofInt a1)), some (.int (Int32.ofInt (v1 + 0))), some (.int (Int32.ofInt (v2 + 1)))]) rfl rfl rfl (Nat.le_of_ble_eq_true rfl) rfl ?_
        refine mz_gt (tgt := 4) rfl rfl ?_
        exact ih4 ((16 - (v2 + 1)).toNat) (by omega) (v1 + 0) (v2 + 1) rfl (by omega) (by omega) (by omega) (by omega)
      · skip
        refine mm_g 1 (pc1 := 26) (lo1 := [some (.ref q0), some (.int (Int32.ofInt a1)), some (.int (Int32.ofInt v1)), some (.int (Int32.ofInt v2))]) (st1 := [.int (Int32.ofInt 1), .int (Int32.ofInt v1)]) (H1 := mz_mk g x) rfl ?_
        refine mz_gt (tgt := 30) rfl rfl ?_
        refine mz_iadd_w rfl (fun v10 _ hwv10 => ?_)
        have l_v10 := hwv10.1
        have u_v10 := hwv10.2
        refine mm_g 1 (pc1 := 32) (lo1 := [some (.ref q0), some (.int (Int32.ofInt a1)), some (.int (Int32.ofInt v10)), some (.int (Int32.ofInt v2))]) (st1 := []) (H1 := mz_mk g x) rfl ?_
        refine mz_iincR (v := v2) (lo2 := [some (.ref q0), some (.int (Int32.ofInt a1)), some (.int (Int32.ofInt v10)), some (.int (Int32.ofInt (v2 + 1)))]) rfl rfl rfl (Nat.le_of_ble_eq_true rfl) rfl ?_
        refine mz_gt (tgt := 4) rfl rfl ?_
        exact ih4 ((16 - (v2 + 1)).toNat) (by omega) v10 (v2 + 1) rfl (by omega) (by omega) (by omega) (by omega)
  exact L6 _ 0 0 rfl (by decide) (by decide) (by decide) (by decide)
theorem c_X0_isAnagram {d : Nat} (hd : 3 ≤ d) {x : mm_X} (hx : mk_x x) {g : mz_G} (hI : mz_inv g) {q0 : Nat} (h_q0 : kd_let q0) {q1 : Nat} (h_q1 : kd_let q1) {Q : (Option Value ⊕ Nat) → mm_H → Prop} (hQ : ∀ (r : Int), 0 ≤ r → r ≤ 1 → Q (.inl (some (.int (Int32.ofInt r)))) (mz_mk g x)) : mm_C d 10 [.ref q0, .ref q1] (mz_mk g x) Q := by
  have kn_q0 := kn_let h_q0
  have kn_q1 := kn_let h_q1
  refine ⟨mmX0_isAnagram, [some (.ref q0), some (.ref q1), none], rfl, rfl, ?_⟩
  refine mm_g 2 (pc1 := 2) (lo1 := [some (.ref q0), some (.ref q1), some (.int (Int32.ofInt 1))]) (st1 := []) (H1 := mz_mk g x) rfl ?_
  have L5 : ∀ n4 : Nat, ∀ (v1 : Int), (27 - v1).toNat = n4 → 1 ≤ v1 → v1 ≤ 27 → mm_W d mmX0_isAnagram 2 [some (.ref q0), some (.ref q1), some (.int (Int32.ofInt v1))] [] (mz_mk g x) Q := by
    intro n4
    induction n4 using Nat.strongRecOn with
    | ind n4 ih3 =>
    intro v1 hmn4 l_v1 u_v1
    refine mm_g 1 (pc1 := 3) (lo1 := [some (.ref q0), some (.ref q1), some (.int (Int32.ofInt v1))]) (st1 := [.int (Int32.ofInt v1)]) (H1 := mz_mk g x) rfl ?_
    refine mz_bip rfl bip_26 ?_
    refine mz_ic_gt (tgt := 29) rfl rfl (mz_rg l_v1 u_v1) ⟨by decide, by decide⟩ (fun c5_5 => ?_) (fun c5_5 => ?_)
    · skip
      refine mm_g 1 (pc1 := 30) (lo1 := [some (.ref q0), some (.ref q1), some (.int (Int32.ofInt v1))]) (st1 := [.int (Int32.ofInt 1)]) (H1 := mz_mk g x) rfl ?_
      exact mz_rtZ rfl (by decide) (by omega) (hQ _ (by decide) (by decide))
    · skip
      refine mm_g 2 (pc1 := 10) (lo1 := [some (.ref q0), some (.ref q1), some (.int (Int32.ofInt v1))]) (st1 := [.int (Int32.ofInt v1), .ref q0]) (H1 := mz_mk g x) rfl ?_
      refine mz_cv rfl mt_0_40 (by decide) (kc_let h_q0 _) rfl (Nat.le_of_ble_eq_true rfl) (by omega) (c_X0_howOften (by omega) hx hI h_q0 (by omega) (by omega) (fun v6 l_v6 u_v6 => ⟨_, rfl, ?_⟩))
      show mm_W d mmX0_isAnagram 13 [some (.ref q0), some (.ref q1), some (.int (Int32.ofInt v1))] [.int (Int32.ofInt v6)] (mz_mk g x) Q
      refine mm_g 2 (pc1 := 15) (lo1 := [some (.ref q0), some (.ref q1), some (.int (Int32.ofInt v1))]) (st1 := [.int (Int32.ofInt v1), .ref q1, .int (Int32.ofInt v6)]) (H1 := mz_mk g x) rfl ?_
      refine mz_cv rfl mt_0_40 (by decide) (kc_let h_q1 _) rfl (Nat.le_of_ble_eq_true rfl) (by omega) (c_X0_howOften (by omega) hx hI h_q1 (by omega) (by omega) (fun v7 l_v7 u_v7 => ⟨_, rfl, ?_⟩))
      show mm_W d mmX0_isAnagram 18 [some (.ref q0), some (.ref q1), some (.int (Int32.ofInt v1))] [.int (Int32.ofInt v7), .int (Int32.ofInt v6)] (mz_mk g x) Q
      refine mz_ic_eq (tgt := 23) rfl rfl (mz_rg l_v6 u_v6) (mz_rg l_v7 u_v7) (fun c18_7 => ?_) (fun c18_7 => ?_)
      · skip
        refine mz_iincR (v := v1) (lo2 := [some (.ref q0), some (.ref q1), some (.int (Int32.ofInt (v1 + 1)))]) rfl rfl rfl (Nat.le_of_ble_eq_true rfl) rfl ?_
        refine mz_gt (tgt := 2) rfl rfl ?_
        exact ih3 ((27 - (v1 + 1)).toNat) (by omega) (v1 + 1) rfl (by omega) (by omega)
      · skip
        refine mm_g 1 (pc1 := 22) (lo1 := [some (.ref q0), some (.ref q1), some (.int (Int32.ofInt v1))]) (st1 := [.int (Int32.ofInt 0)]) (H1 := mz_mk g x) rfl ?_
        exact mz_rtZ rfl (by decide) (by omega) (hQ _ (by decide) (by decide))
  exact L5 _ 1 rfl (by decide) (by decide)
theorem c_X10_anagrams {d : Nat} (hd : 4 ≤ d) {x : mm_X} (hx : mk_x x) {g : mz_G} (hI : mz_inv g) {q0 : Nat} (h_q0 : kd_words q0) {a1 : Int} (l_a1 : (-2147483648) ≤ a1) (u_a1 : a1 ≤ 2147483647) {Q : (Option Value ⊕ Nat) → mm_H → Prop} (hQ : ∀ (r : Int), (-2147483648) ≤ r → r ≤ 2147483647 → Q (.inl (some (.int (Int32.ofInt r)))) (mz_mk g x)) : mm_C d 117 [.ref q0, .int (Int32.ofInt a1)] (mz_mk g x) Q := by
  have kn_q0 := kn_words h_q0
  refine ⟨mmX10_anagrams, [some (.ref q0), some (.int (Int32.ofInt a1)), none, none], rfl, rfl, ?_⟩
  refine mm_g 4 (pc1 := 4) (lo1 := [some (.ref q0), some (.int (Int32.ofInt a1)), some (.int (Int32.ofInt 0)), some (.int (Int32.ofInt 0))]) (st1 := []) (H1 := mz_mk g x) rfl ?_
  have L6 : ∀ n5 : Nat, ∀ (v1 : Int) (v2 : Int), (8 - v2).toNat = n5 → (-2147483648) ≤ v1 → v1 ≤ 2147483647 → 0 ≤ v2 → v2 ≤ 8 → mm_W d mmX10_anagrams 4 [some (.ref q0), some (.int (Int32.ofInt a1)), some (.int (Int32.ofInt v1)), some (.int (Int32.ofInt v2))] [] (mz_mk g x) Q := by
    intro n5
    induction n5 using Nat.strongRecOn with
    | ind n5 ih4 =>
    intro v1 v2 hmn5 l_v1 u_v1 l_v2 u_v2
    refine mm_g 2 (pc1 := 6) (lo1 := [some (.ref q0), some (.int (Int32.ofInt a1)), some (.int (Int32.ofInt v1)), some (.int (Int32.ofInt v2))]) (st1 := [.ref q0, .int (Int32.ofInt v2)]) (H1 := mz_mk g x) rfl ?_
    refine mz_gI rfl fd_10_28 (by decide) (kc_words h_q0 _) hI (kb_words_3 h_q0) (fun v7 e_v7 l_v7 u_v7 => ?_)
    refine mz_ic_ge (tgt := 44) rfl rfl (mz_rg l_v2 u_v2) (mz_rg l_v7 u_v7) (fun c9_7 => ?_) (fun c9_7 => ?_)
    · skip
      refine mm_g 1 (pc1 := 45) (lo1 := [some (.ref q0), some (.int (Int32.ofInt a1)), some (.int (Int32.ofInt v1)), some (.int (Int32.ofInt v2))]) (st1 := [.int (Int32.ofInt v1)]) (H1 := mz_mk g x) rfl ?_
      exact mm_rt rfl rfl (hQ _ (by omega) (by omega))
    · skip
      refine mm_g 3 (pc1 := 15) (lo1 := [some (.ref q0), some (.int (Int32.ofInt a1)), some (.int (Int32.ofInt v1)), some (.int (Int32.ofInt v2))]) (st1 := [.int (Int32.ofInt v2), .ref q0, .int (Int32.ofInt v1)]) (H1 := mz_mk g x) rfl ?_
      refine mz_cv rfl mt_10_50 (by decide) (kc_words h_q0 _) rfl (Nat.le_of_ble_eq_true rfl) (by omega) (c_X10_of (by omega) hx hI h_q0 (by omega) (by omega) (fun u8 k_u8 hp9 => ⟨_, rfl, ?_⟩))
      show mm_W d mmX10_anagrams 18 [some (.ref q0), some (.int (Int32.ofInt a1)), some (.int (Int32.ofInt v1)), some (.int (Int32.ofInt v2))] [.ref u8, .int (Int32.ofInt v1)] (mz_mk g x) Q
      refine mm_g 2 (pc1 := 20) (lo1 := [some (.ref q0), some (.int (Int32.ofInt a1)), some (.int (Int32.ofInt v1)), some (.int (Int32.ofInt v2))]) (st1 := [.int (Int32.ofInt a1), .ref q0, .ref u8, .int (Int32.ofInt v1)]) (H1 := mz_mk g x) rfl ?_
      refine mz_cv rfl mt_10_50 (by decide) (kc_words h_q0 _) rfl (Nat.le_of_ble_eq_true rfl) (by omega) (c_X10_of (by omega) hx hI h_q0 l_a1 u_a1 (fun u10 k_u10 hp11 => ⟨_, rfl, ?_⟩))
      show mm_W d mmX10_anagrams 23 [some (.ref q0), some (.int (Int32.ofInt a1)), some (.int (Int32.ofInt v1)), some (.int (Int32.ofInt v2))] [.ref u10, .ref u8, .int (Int32.ofInt v1)] (mz_mk g x) Q
      refine mz_cv rfl mt_10_69 (by decide) (kc_let k_u8 _) rfl (Nat.le_of_ble_eq_true rfl) (by omega) (c_X0_isAnagram (by omega) hx hI k_u8 k_u10 (fun v12 l_v12 u_v12 => ⟨_, rfl, ?_⟩))
      show mm_W d mmX10_anagrams 26 [some (.ref q0), some (.int (Int32.ofInt a1)), some (.int (Int32.ofInt v1)), some (.int (Int32.ofInt v2))] [.int (Int32.ofInt v12), .int (Int32.ofInt v1)] (mz_mk g x) Q
      refine mz_if_eq (tgt := 35) rfl rfl (mz_rg l_v12 u_v12) (fun c26_12 => ?_) (fun c26_12 => ?_)
      · skip
        refine mm_g 1 (pc1 := 36) (lo1 := [some (.ref q0), some (.int (Int32.ofInt a1)), some (.int (Int32.ofInt v1)), some (.int (Int32.ofInt v2))]) (st1 := [.int (Int32.ofInt 0), .int (Int32.ofInt v1)]) (H1 := mz_mk g x) rfl ?_
        refine mz_ior rfl (fun v13 e_v13 hwv13 => ?_)
        have l_v13 := hwv13.1
        have u_v13 := hwv13.2
        refine mm_g 1 (pc1 := 38) (lo1 := [some (.ref q0), some (.int (Int32.ofInt a1)), some (.int (Int32.ofInt v13)), some (.int (Int32.ofInt v2))]) (st1 := []) (H1 := mz_mk g x) rfl ?_
        refine mz_iincR (v := v2) (lo2 := [some (.ref q0), some (.int (Int32.ofInt a1)), some (.int (Int32.ofInt v13)), some (.int (Int32.ofInt (v2 + 1)))]) rfl rfl rfl (Nat.le_of_ble_eq_true rfl) rfl ?_
        refine mz_gt (tgt := 4) rfl rfl ?_
        exact ih4 ((8 - (v2 + 1)).toNat) (by omega) v13 (v2 + 1) rfl (by omega) (by omega) (by omega) (by omega)
      · skip
        refine mm_g 2 (pc1 := 31) (lo1 := [some (.ref q0), some (.int (Int32.ofInt a1)), some (.int (Int32.ofInt v1)), some (.int (Int32.ofInt v2))]) (st1 := [.int (Int32.ofInt v2), .int (Int32.ofInt 1), .int (Int32.ofInt v1)]) (H1 := mz_mk g x) rfl ?_
        refine mz_ishl rfl (fun v14 e_v14 hwv14 => ?_)
        have b_v14 : 1 ≤ v14 ∧ v14 ≤ 128 := by rw [e_v14]; exact mz_shl_b (lx := 1) (hx := 1) (k := 7) (by decide) (by decide) (by omega) (by omega) (by omega) (by omega)
        have l_v14 := b_v14.1
        have u_v14 := b_v14.2
        refine mz_gt (tgt := 36) rfl rfl ?_
        refine mz_ior rfl (fun v15 e_v15 hwv15 => ?_)
        have l_v15 := hwv15.1
        have u_v15 := hwv15.2
        refine mm_g 1 (pc1 := 38) (lo1 := [some (.ref q0), some (.int (Int32.ofInt a1)), some (.int (Int32.ofInt v15)), some (.int (Int32.ofInt v2))]) (st1 := []) (H1 := mz_mk g x) rfl ?_
        refine mz_iincR (v := v2) (lo2 := [some (.ref q0), some (.int (Int32.ofInt a1)), some (.int (Int32.ofInt v15)), some (.int (Int32.ofInt (v2 + 1)))]) rfl rfl rfl (Nat.le_of_ble_eq_true rfl) rfl ?_
        refine mz_gt (tgt := 4) rfl rfl ?_
        exact ih4 ((8 - (v2 + 1)).toNat) (by omega) v15 (v2 + 1) rfl (by omega) (by omega) (by omega) (by omega)
  exact L6 _ 0 0 rfl (by decide) (by decide) (by decide) (by decide)
theorem c_X11_trunksWith {d : Nat} (hd : 2 ≤ d) {x : mm_X} (hx : mk_x x) {g : mz_G} (hI : mz_inv g) {a1 : Int} (l_a1 : (-2147483648) ≤ a1) (u_a1 : a1 ≤ 2147483647) {Q : (Option Value ⊕ Nat) → mm_H → Prop} (hQ : ∀ (r : Int), 0 ≤ r → r ≤ 63 → Q (.inl (some (.int (Int32.ofInt r)))) (mz_mk g x)) : mm_C d 130 [.ref 0, .int (Int32.ofInt a1)] (mz_mk g x) Q := by
  have kx := kn_x hx
  refine ⟨mmX11_trunksWith, [some (.ref 0), some (.int (Int32.ofInt a1)), none, none, none], rfl, rfl, ?_⟩
  refine mm_g 4 (pc1 := 4) (lo1 := [some (.ref 0), some (.int (Int32.ofInt a1)), some (.int (Int32.ofInt 0)), some (.int (Int32.ofInt 0)), none]) (st1 := []) (H1 := mz_mk g x) rfl ?_
  have L7 : ∀ n6 : Nat, ∀ (v1 : Int) (v2 : Int) (o3 : Option Value), (6 - v2).toNat = n6 → 0 ≤ v1 → v1 ≤ 63 → 0 ≤ v2 → v2 ≤ 6 → mz_nl o3 → mm_W d mmX11_trunksWith 4 [some (.ref 0), some (.int (Int32.ofInt a1)), some (.int (Int32.ofInt v1)), some (.int (Int32.ofInt v2)), o3] [] (mz_mk g x) Q := by
    intro n6
    induction n6 using Nat.strongRecOn with
    | ind n6 ih5 =>
    intro v1 v2 o3 hmn6 l_v1 u_v1 l_v2 u_v2 h_o3
    refine mm_g 2 (pc1 := 6) (lo1 := [some (.ref 0), some (.int (Int32.ofInt a1)), some (.int (Int32.ofInt v1)), some (.int (Int32.ofInt v2)), o3]) (st1 := [.ref 0, .int (Int32.ofInt v2)]) (H1 := mz_mk g x) rfl ?_
    refine mz_cv rfl mt_11_155 (by decide) (sc_0 _) rfl (Nat.le_of_ble_eq_true rfl) (by omega) (c_X11_trunkCount (by omega) hx hI (fun v8 l_v8 u_v8 => ⟨_, rfl, ?_⟩))
    show mm_W d mmX11_trunksWith 9 [some (.ref 0), some (.int (Int32.ofInt a1)), some (.int (Int32.ofInt v1)), some (.int (Int32.ofInt v2)), o3] [.int (Int32.ofInt v8), .int (Int32.ofInt v2)] (mz_mk g x) Q
    refine mz_ic_ge (tgt := 55) rfl rfl (mz_rg l_v2 u_v2) (mz_rg l_v8 u_v8) (fun c9_8 => ?_) (fun c9_8 => ?_)
    · skip
      refine mm_g 1 (pc1 := 56) (lo1 := [some (.ref 0), some (.int (Int32.ofInt a1)), some (.int (Int32.ofInt v1)), some (.int (Int32.ofInt v2)), o3]) (st1 := [.int (Int32.ofInt v1)]) (H1 := mz_mk g x) rfl ?_
      exact mm_rt rfl rfl (hQ _ (by omega) (by omega))
    · skip
      refine mm_g 1 (pc1 := 13) (lo1 := [some (.ref 0), some (.int (Int32.ofInt a1)), some (.int (Int32.ofInt v1)), some (.int (Int32.ofInt v2)), o3]) (st1 := [.ref 0]) (H1 := mz_mk g x) rfl ?_
      refine mz_fgR (v := 86) rfl fd_11_37 (by decide) (sc_0 _) (rf_0_5 _ _ _) ?_
      refine mz_fgR (v := 87) rfl fd_11_158 (by decide) (sc_86 _) (rf_86_0 _ _ _) ?_
      refine mm_g 1 (pc1 := 20) (lo1 := [some (.ref 0), some (.int (Int32.ofInt a1)), some (.int (Int32.ofInt v1)), some (.int (Int32.ofInt v2)), o3]) (st1 := [.int (Int32.ofInt v2), .ref 87]) (H1 := mz_mk g x) rfl ?_
      refine mz_cv rfl mt_11_192 (by decide) (sc_87 _) rfl (Nat.le_of_ble_eq_true rfl) (by omega) (c_X9_get (by omega) hx hI kp_tks_87 (by omega) (by omega) (fun u9 k_u9 hp10 => ⟨_, rfl, ?_⟩))
      show mm_W d mmX11_trunksWith 23 [some (.ref 0), some (.int (Int32.ofInt a1)), some (.int (Int32.ofInt v1)), some (.int (Int32.ofInt v2)), o3] [.ref u9] (mz_mk g x) Q
      refine mm_g 2 (pc1 := 27) (lo1 := [some (.ref 0), some (.int (Int32.ofInt a1)), some (.int (Int32.ofInt v1)), some (.int (Int32.ofInt v2)), some (.ref u9)]) (st1 := [.ref u9]) (H1 := mz_mk g x) rfl ?_
      refine mz_gI rfl fd_11_222 (by decide) (kc_trunk k_u9 _) hI (kb_trunk_0 k_u9) (fun v11 e_v11 l_v11 u_v11 => ?_)
      refine mm_g 1 (pc1 := 31) (lo1 := [some (.ref 0), some (.int (Int32.ofInt a1)), some (.int (Int32.ofInt v1)), some (.int (Int32.ofInt v2)), some (.ref u9)]) (st1 := [.int (Int32.ofInt a1), .int (Int32.ofInt v11)]) (H1 := mz_mk g x) rfl ?_
      refine mz_ic_eq (tgt := 43) rfl rfl (mz_rg l_v11 u_v11) (mz_rg l_a1 u_a1) (fun c31_11 => ?_) (fun c31_11 => ?_)
      · skip
        refine mm_g 3 (pc1 := 46) (lo1 := [some (.ref 0), some (.int (Int32.ofInt a1)), some (.int (Int32.ofInt v1)), some (.int (Int32.ofInt v2)), some (.ref u9)]) (st1 := [.int (Int32.ofInt v2), .int (Int32.ofInt 1), .int (Int32.ofInt v1)]) (H1 := mz_mk g x) rfl ?_
        refine mz_ishl rfl (fun v12 e_v12 hwv12 => ?_)
        have b_v12 : 1 ≤ v12 ∧ v12 ≤ 32 := by rw [e_v12]; exact mz_shl_b (lx := 1) (hx := 1) (k := 5) (by decide) (by decide) (by omega) (by omega) (by omega) (by omega)
        have l_v12 := b_v12.1
        have u_v12 := b_v12.2
        refine mz_ior rfl (fun v13 e_v13 hwv13 => ?_)
        have b_v13 : 0 ≤ v13 ∧ v13 ≤ 63 := by rw [e_v13]; exact mz_or_lt (n := 6) (by decide) (by omega) (by omega) (by omega) (by omega)
        have l_v13 := b_v13.1
        have u_v13 := b_v13.2
        refine mm_g 1 (pc1 := 49) (lo1 := [some (.ref 0), some (.int (Int32.ofInt a1)), some (.int (Int32.ofInt v13)), some (.int (Int32.ofInt v2)), some (.ref u9)]) (st1 := []) (H1 := mz_mk g x) rfl ?_
        refine mz_iincR (v := v2) (lo2 := [some (.ref 0), some (.int (Int32.ofInt a1)), some (.int (Int32.ofInt v13)), some (.int (Int32.ofInt (v2 + 1))), some (.ref u9)]) rfl rfl rfl (Nat.le_of_ble_eq_true rfl) rfl ?_
        refine mz_gt (tgt := 4) rfl rfl ?_
        exact ih5 ((6 - (v2 + 1)).toNat) (by omega) v13 (v2 + 1) (some (.ref u9)) rfl (by omega) (by omega) (by omega) (by omega) (mz_nl_r _)
      · skip
        refine mm_g 1 (pc1 := 36) (lo1 := [some (.ref 0), some (.int (Int32.ofInt a1)), some (.int (Int32.ofInt v1)), some (.int (Int32.ofInt v2)), some (.ref u9)]) (st1 := [.ref u9]) (H1 := mz_mk g x) rfl ?_
        refine mz_gI rfl fd_11_225 (by decide) (kc_trunk k_u9 _) hI (kb_trunk_1 k_u9) (fun v14 e_v14 l_v14 u_v14 => ?_)
        refine mm_g 1 (pc1 := 40) (lo1 := [some (.ref 0), some (.int (Int32.ofInt a1)), some (.int (Int32.ofInt v1)), some (.int (Int32.ofInt v2)), some (.ref u9)]) (st1 := [.int (Int32.ofInt a1), .int (Int32.ofInt v14)]) (H1 := mz_mk g x) rfl ?_
        refine mz_ic_ne (tgt := 49) rfl rfl (mz_rg l_v14 u_v14) (mz_rg l_a1 u_a1) (fun c40_14 => ?_) (fun c40_14 => ?_)
        · skip
          refine mz_iincR (v := v2) (lo2 := [some (.ref 0), some (.int (Int32.ofInt a1)), some (.int (Int32.ofInt v1)), some (.int (Int32.ofInt (v2 + 1))), some (.ref u9)]) rfl rfl rfl (Nat.le_of_ble_eq_true rfl) rfl ?_
          refine mz_gt (tgt := 4) rfl rfl ?_
          exact ih5 ((6 - (v2 + 1)).toNat) (by omega) v1 (v2 + 1) (some (.ref u9)) rfl (by omega) (by omega) (by omega) (by omega) (mz_nl_r _)
        · skip
          refine mm_g 3 (pc1 := 46) (lo1 := [some (.ref 0), some (.int (Int32.ofInt a1)), some (.int (Int32.ofInt v1)), some (.int (Int32.ofInt v2)), some (.ref u9)]) (st1 := [.int (Int32.ofInt v2), .int (Int32.ofInt 1), .int (Int32.ofInt v1)]) (H1 := mz_mk g x) rfl ?_
          refine mz_ishl rfl (fun v15 e_v15 hwv15 => ?_)
          have b_v15 : 1 ≤ v15 ∧ v15 ≤ 32 := by rw [e_v15]; exact mz_shl_b (lx := 1) (hx := 1) (k := 5) (by decide) (by decide) (by omega) (by omega) (by omega) (by omega)
          have l_v15 := b_v15.1
          have u_v15 := b_v15.2
          refine mz_ior rfl (fun v16 e_v16 hwv16 => ?_)
          have b_v16 : 0 ≤ v16 ∧ v16 ≤ 63 := by rw [e_v16]; exact mz_or_lt (n := 6) (by decide) (by omega) (by omega) (by omega) (by omega)
          have l_v16 := b_v16.1
          have u_v16 := b_v16.2
          refine mm_g 1 (pc1 := 49) (lo1 := [some (.ref 0), some (.int (Int32.ofInt a1)), some (.int (Int32.ofInt v16)), some (.int (Int32.ofInt v2)), some (.ref u9)]) (st1 := []) (H1 := mz_mk g x) rfl ?_
          refine mz_iincR (v := v2) (lo2 := [some (.ref 0), some (.int (Int32.ofInt a1)), some (.int (Int32.ofInt v16)), some (.int (Int32.ofInt (v2 + 1))), some (.ref u9)]) rfl rfl rfl (Nat.le_of_ble_eq_true rfl) rfl ?_
          refine mz_gt (tgt := 4) rfl rfl ?_
          exact ih5 ((6 - (v2 + 1)).toNat) (by omega) v16 (v2 + 1) (some (.ref u9)) rfl (by omega) (by omega) (by omega) (by omega) (mz_nl_r _)
  exact L7 _ 0 0 none rfl (by decide) (by decide) (by decide) (by decide) mz_nl_n
theorem c_X11_word {d : Nat} (hd : 13 ≤ d) {x : mm_X} (hx : mk_x x) {g : mz_G} (hI : mz_inv g) {a1 : Int} (l_a1 : (-2147483648) ≤ a1) (u_a1 : a1 ≤ 2147483647) {a2 : Int} (l_a2 : (-2147483648) ≤ a2) (u_a2 : a2 ≤ 2147483647) {Q : (Option Value ⊕ Nat) → mm_H → Prop} (hQ : ∀ (r : Int), (-2147483648) ≤ r → r ≤ 2147483647 → Q (.inl (some (.int (Int32.ofInt r)))) (mz_mk g x)) (hX : ∀ E, Q (.inr E) (mz_mk g (mz_tx x))) : mm_C d 129 [.ref 0, .int (Int32.ofInt a1), .int (Int32.ofInt a2)] (mz_mk g x) Q := by
  have kx := kn_x hx
  refine ⟨mmX11_word, [some (.ref 0), some (.int (Int32.ofInt a1)), some (.int (Int32.ofInt a2))], rfl, rfl, ?_⟩
  refine mm_g 2 (pc1 := 2) (lo1 := [some (.ref 0), some (.int (Int32.ofInt a1)), some (.int (Int32.ofInt a2))]) (st1 := [.int (Int32.ofInt a1), .ref 0]) (H1 := mz_mk g x) rfl ?_
  refine mz_cv rfl mt_11_199 (by decide) (sc_0 _) rfl (Nat.le_of_ble_eq_true rfl) (by omega) (c_X11_isWord (by omega) hx hI l_a1 u_a1 (fun v1 l_v1 u_v1 => ⟨_, rfl, ?_⟩))
  show mm_W d mmX11_word 5 [some (.ref 0), some (.int (Int32.ofInt a1)), some (.int (Int32.ofInt a2))] [.int (Int32.ofInt v1)] (mz_mk g x) Q
  refine mz_if_eq (tgt := 21) rfl rfl (mz_rg l_v1 u_v1) (fun c5_1 => ?_) (fun c5_1 => ?_)
  · skip
    refine mm_g 1 (pc1 := 22) (lo1 := [some (.ref 0), some (.int (Int32.ofInt a1)), some (.int (Int32.ofInt a2))]) (st1 := [.int (Int32.ofInt 0)]) (H1 := mz_mk g x) rfl ?_
    refine mz_csx rfl mt_11_183 rfl (Nat.le_of_ble_eq_true rfl) (by omega) rfl nh_X11_mustBe (c_X11_mustBe (by omega) hx hI (by decide) (by decide) (fun hp2 => ?_) (fun E => hX E))
    show mm_W d mmX11_word 25 [some (.ref 0), some (.int (Int32.ofInt a1)), some (.int (Int32.ofInt a2))] [] (mz_mk g x) Q
    exfalso; omega
  · skip
    refine mm_g 1 (pc1 := 9) (lo1 := [some (.ref 0), some (.int (Int32.ofInt a1)), some (.int (Int32.ofInt a2))]) (st1 := [.int (Int32.ofInt a2)]) (H1 := mz_mk g x) rfl ?_
    refine mz_if_lt (tgt := 21) rfl rfl (mz_rg l_a2 u_a2) (fun c9_2 => ?_) (fun c9_2 => ?_)
    · skip
      refine mm_g 1 (pc1 := 22) (lo1 := [some (.ref 0), some (.int (Int32.ofInt a1)), some (.int (Int32.ofInt a2))]) (st1 := [.int (Int32.ofInt 0)]) (H1 := mz_mk g x) rfl ?_
      refine mz_csx rfl mt_11_183 rfl (Nat.le_of_ble_eq_true rfl) (by omega) rfl nh_X11_mustBe (c_X11_mustBe (by omega) hx hI (by decide) (by decide) (fun hp3 => ?_) (fun E => hX E))
      show mm_W d mmX11_word 25 [some (.ref 0), some (.int (Int32.ofInt a1)), some (.int (Int32.ofInt a2))] [] (mz_mk g x) Q
      exfalso; omega
    · skip
      refine mm_g 2 (pc1 := 14) (lo1 := [some (.ref 0), some (.int (Int32.ofInt a1)), some (.int (Int32.ofInt a2))]) (st1 := [.int (Int32.ofInt 4), .int (Int32.ofInt a2)]) (H1 := mz_mk g x) rfl ?_
      refine mz_ic_gt (tgt := 21) rfl rfl (mz_rg l_a2 u_a2) ⟨by decide, by decide⟩ (fun c14_3 => ?_) (fun c14_3 => ?_)
      · skip
        refine mm_g 1 (pc1 := 22) (lo1 := [some (.ref 0), some (.int (Int32.ofInt a1)), some (.int (Int32.ofInt a2))]) (st1 := [.int (Int32.ofInt 0)]) (H1 := mz_mk g x) rfl ?_
        refine mz_csx rfl mt_11_183 rfl (Nat.le_of_ble_eq_true rfl) (by omega) rfl nh_X11_mustBe (c_X11_mustBe (by omega) hx hI (by decide) (by decide) (fun hp4 => ?_) (fun E => hX E))
        show mm_W d mmX11_word 25 [some (.ref 0), some (.int (Int32.ofInt a1)), some (.int (Int32.ofInt a2))] [] (mz_mk g x) Q
        exfalso; omega
      · skip
        refine mm_g 1 (pc1 := 18) (lo1 := [some (.ref 0), some (.int (Int32.ofInt a1)), some (.int (Int32.ofInt a2))]) (st1 := [.int (Int32.ofInt 1)]) (H1 := mz_mk g x) rfl ?_
        refine mz_gt (tgt := 22) rfl rfl ?_
        refine mz_csx rfl mt_11_183 rfl (Nat.le_of_ble_eq_true rfl) (by omega) rfl nh_X11_mustBe (c_X11_mustBe (by omega) hx hI (by decide) (by decide) (fun hp5 => ?_) (fun E => hX E))
        show mm_W d mmX11_word 25 [some (.ref 0), some (.int (Int32.ofInt a1)), some (.int (Int32.ofInt a2))] [] (mz_mk g x) Q
        refine mm_g 1 (pc1 := 26) (lo1 := [some (.ref 0), some (.int (Int32.ofInt a1)), some (.int (Int32.ofInt a2))]) (st1 := [.int (Int32.ofInt a2)]) (H1 := mz_mk g x) rfl ?_
        by_cases c26_0 : a2 = 0
        · refine mz_tsi (tgt := 56) rfl (mz_rg l_a2 u_a2) (by omega) (by omega) (by rw [c26_0]; rfl) rfl ?_
          refine mm_g 1 (pc1 := 57) (lo1 := [some (.ref 0), some (.int (Int32.ofInt a1)), some (.int (Int32.ofInt a2))]) (st1 := [.ref 0]) (H1 := mz_mk g x) rfl ?_
          refine mz_fgR (v := x.1) rfl fd_11_16 (by decide) (sc_0 _) rfl ?_
          refine mz_fgR (v := (x.1 + 1)) rfl fd_11_135 (by decide) (kc_load (kx_1 hx) _) (kr_load_0 (kx_1 hx) _ _ _) ?_
          refine mm_g 1 (pc1 := 64) (lo1 := [some (.ref 0), some (.int (Int32.ofInt a1)), some (.int (Int32.ofInt a2))]) (st1 := [.int (Int32.ofInt a1), .ref (x.1 + 1)]) (H1 := mz_mk g x) rfl ?_
          refine mz_cv rfl mt_11_203 (by decide) (kc_words (ks_load_0 (kx_1 hx)) _) rfl (Nat.le_of_ble_eq_true rfl) (by omega) (c_X10_of (by omega) hx hI (ks_load_0 (kx_1 hx)) l_a1 u_a1 (fun u6 k_u6 hp7 => ⟨_, rfl, ?_⟩))
          show mm_W d mmX11_word 67 [some (.ref 0), some (.int (Int32.ofInt a1)), some (.int (Int32.ofInt a2))] [.ref u6] (mz_mk g x) Q
          refine mz_cv rfl mt_11_207 (by decide) (kc_let k_u6 _) rfl (Nat.le_of_ble_eq_true rfl) (by omega) (c_X0_length (by omega) hx hI k_u6 (fun v8 l_v8 u_v8 => ⟨_, rfl, ?_⟩))
          show mm_W d mmX11_word 70 [some (.ref 0), some (.int (Int32.ofInt a1)), some (.int (Int32.ofInt a2))] [.int (Int32.ofInt v8)] (mz_mk g x) Q
          exact mm_rt rfl rfl (hQ _ (by omega) (by omega))
        by_cases c26_1 : a2 = 1
        · refine mz_tsi (tgt := 71) rfl (mz_rg l_a2 u_a2) (by omega) (by omega) (by rw [c26_1]; rfl) rfl ?_
          refine mm_g 1 (pc1 := 72) (lo1 := [some (.ref 0), some (.int (Int32.ofInt a1)), some (.int (Int32.ofInt a2))]) (st1 := [.ref 0]) (H1 := mz_mk g x) rfl ?_
          refine mz_fgR (v := x.1) rfl fd_11_16 (by decide) (sc_0 _) rfl ?_
          refine mz_fgR (v := (x.1 + 1)) rfl fd_11_135 (by decide) (kc_load (kx_1 hx) _) (kr_load_0 (kx_1 hx) _ _ _) ?_
          refine mm_g 1 (pc1 := 79) (lo1 := [some (.ref 0), some (.int (Int32.ofInt a1)), some (.int (Int32.ofInt a2))]) (st1 := [.int (Int32.ofInt a1), .ref (x.1 + 1)]) (H1 := mz_mk g x) rfl ?_
          refine mz_cv rfl mt_11_210 (by decide) (kc_words (ks_load_0 (kx_1 hx)) _) rfl (Nat.le_of_ble_eq_true rfl) (by omega) (c_X10_firmness (by omega) hx hI (ks_load_0 (kx_1 hx)) l_a1 u_a1 (fun v9 l_v9 u_v9 => ⟨_, rfl, ?_⟩))
          show mm_W d mmX11_word 82 [some (.ref 0), some (.int (Int32.ofInt a1)), some (.int (Int32.ofInt a2))] [.int (Int32.ofInt v9)] (mz_mk g x) Q
          exact mm_rt rfl rfl (hQ _ (by omega) (by omega))
        by_cases c26_2 : a2 = 2
        · refine mz_tsi (tgt := 83) rfl (mz_rg l_a2 u_a2) (by omega) (by omega) (by rw [c26_2]; rfl) rfl ?_
          refine mm_g 1 (pc1 := 84) (lo1 := [some (.ref 0), some (.int (Int32.ofInt a1)), some (.int (Int32.ofInt a2))]) (st1 := [.ref 0]) (H1 := mz_mk g x) rfl ?_
          refine mz_fgR (v := x.1) rfl fd_11_16 (by decide) (sc_0 _) rfl ?_
          refine mz_fgR (v := (x.1 + 1)) rfl fd_11_135 (by decide) (kc_load (kx_1 hx) _) (kr_load_0 (kx_1 hx) _ _ _) ?_
          refine mm_g 1 (pc1 := 91) (lo1 := [some (.ref 0), some (.int (Int32.ofInt a1)), some (.int (Int32.ofInt a2))]) (st1 := [.int (Int32.ofInt a1), .ref (x.1 + 1)]) (H1 := mz_mk g x) rfl ?_
          refine mz_cv rfl mt_11_213 (by decide) (kc_words (ks_load_0 (kx_1 hx)) _) rfl (Nat.le_of_ble_eq_true rfl) (by omega) (c_X10_within (by omega) hx hI (ks_load_0 (kx_1 hx)) l_a1 u_a1 (fun v10 l_v10 u_v10 => ⟨_, rfl, ?_⟩))
          show mm_W d mmX11_word 94 [some (.ref 0), some (.int (Int32.ofInt a1)), some (.int (Int32.ofInt a2))] [.int (Int32.ofInt v10)] (mz_mk g x) Q
          exact mm_rt rfl rfl (hQ _ (by omega) (by omega))
        by_cases c26_3 : a2 = 3
        · refine mz_tsi (tgt := 95) rfl (mz_rg l_a2 u_a2) (by omega) (by omega) (by rw [c26_3]; rfl) rfl ?_
          refine mm_g 1 (pc1 := 96) (lo1 := [some (.ref 0), some (.int (Int32.ofInt a1)), some (.int (Int32.ofInt a2))]) (st1 := [.ref 0]) (H1 := mz_mk g x) rfl ?_
          refine mz_fgR (v := x.1) rfl fd_11_16 (by decide) (sc_0 _) rfl ?_
          refine mz_fgR (v := (x.1 + 1)) rfl fd_11_135 (by decide) (kc_load (kx_1 hx) _) (kr_load_0 (kx_1 hx) _ _ _) ?_
          refine mm_g 1 (pc1 := 103) (lo1 := [some (.ref 0), some (.int (Int32.ofInt a1)), some (.int (Int32.ofInt a2))]) (st1 := [.int (Int32.ofInt a1), .ref (x.1 + 1)]) (H1 := mz_mk g x) rfl ?_
          refine mz_cv rfl mt_11_216 (by decide) (kc_words (ks_load_0 (kx_1 hx)) _) rfl (Nat.le_of_ble_eq_true rfl) (by omega) (c_X10_anagrams (by omega) hx hI (ks_load_0 (kx_1 hx)) l_a1 u_a1 (fun v11 l_v11 u_v11 => ⟨_, rfl, ?_⟩))
          show mm_W d mmX11_word 106 [some (.ref 0), some (.int (Int32.ofInt a1)), some (.int (Int32.ofInt a2))] [.int (Int32.ofInt v11)] (mz_mk g x) Q
          exact mm_rt rfl rfl (hQ _ (by omega) (by omega))
        refine mz_tso (tgt := 107) rfl (mz_rg l_a2 u_a2) (by omega) rfl ?_
        refine mm_g 2 (pc1 := 109) (lo1 := [some (.ref 0), some (.int (Int32.ofInt a1)), some (.int (Int32.ofInt a2))]) (st1 := [.int (Int32.ofInt a1), .ref 0]) (H1 := mz_mk g x) rfl ?_
        refine mz_cv rfl mt_11_219 (by decide) (sc_0 _) rfl (Nat.le_of_ble_eq_true rfl) (by omega) (c_X11_trunksWith (by omega) hx hI l_a1 u_a1 (fun v12 l_v12 u_v12 => ⟨_, rfl, ?_⟩))
        show mm_W d mmX11_word 112 [some (.ref 0), some (.int (Int32.ofInt a1)), some (.int (Int32.ofInt a2))] [.int (Int32.ofInt v12)] (mz_mk g x) Q
        exact mm_rt rfl rfl (hQ _ (by omega) (by omega))
theorem c_X11_letter {d : Nat} (hd : 13 ≤ d) {x : mm_X} (hx : mk_x x) {g : mz_G} (hI : mz_inv g) {a1 : Int} (l_a1 : (-2147483648) ≤ a1) (u_a1 : a1 ≤ 2147483647) {a2 : Int} (l_a2 : (-2147483648) ≤ a2) (u_a2 : a2 ≤ 2147483647) {Q : (Option Value ⊕ Nat) → mm_H → Prop} (hQ : ∀ (r : Int), (-2147483648) ≤ r → r ≤ 2147483647 → Q (.inl (some (.int (Int32.ofInt r)))) (mz_mk g x)) (hX : ∀ E, Q (.inr E) (mz_mk g (mz_tx x))) : mm_C d 131 [.ref 0, .int (Int32.ofInt a1), .int (Int32.ofInt a2)] (mz_mk g x) Q := by
  have kx := kn_x hx
  refine ⟨mmX11_letter, [some (.ref 0), some (.int (Int32.ofInt a1)), some (.int (Int32.ofInt a2)), none], rfl, rfl, ?_⟩
  refine mm_g 2 (pc1 := 2) (lo1 := [some (.ref 0), some (.int (Int32.ofInt a1)), some (.int (Int32.ofInt a2)), none]) (st1 := [.int (Int32.ofInt a1), .ref 0]) (H1 := mz_mk g x) rfl ?_
  refine mz_cv rfl mt_11_199 (by decide) (sc_0 _) rfl (Nat.le_of_ble_eq_true rfl) (by omega) (c_X11_isWord (by omega) hx hI l_a1 u_a1 (fun v1 l_v1 u_v1 => ⟨_, rfl, ?_⟩))
  show mm_W d mmX11_letter 5 [some (.ref 0), some (.int (Int32.ofInt a1)), some (.int (Int32.ofInt a2)), none] [.int (Int32.ofInt v1)] (mz_mk g x) Q
  refine mz_csx rfl mt_11_183 rfl (Nat.le_of_ble_eq_true rfl) (by omega) rfl nh_X11_mustBe (c_X11_mustBe (by omega) hx hI l_v1 u_v1 (fun hp2 => ?_) (fun E => hX E))
  show mm_W d mmX11_letter 8 [some (.ref 0), some (.int (Int32.ofInt a1)), some (.int (Int32.ofInt a2)), none] [] (mz_mk g x) Q
  refine mm_g 1 (pc1 := 9) (lo1 := [some (.ref 0), some (.int (Int32.ofInt a1)), some (.int (Int32.ofInt a2)), none]) (st1 := [.ref 0]) (H1 := mz_mk g x) rfl ?_
  refine mz_fgR (v := x.1) rfl fd_11_16 (by decide) (sc_0 _) rfl ?_
  refine mz_fgR (v := (x.1 + 1)) rfl fd_11_135 (by decide) (kc_load (kx_1 hx) _) (kr_load_0 (kx_1 hx) _ _ _) ?_
  refine mm_g 1 (pc1 := 16) (lo1 := [some (.ref 0), some (.int (Int32.ofInt a1)), some (.int (Int32.ofInt a2)), none]) (st1 := [.int (Int32.ofInt a1), .ref (x.1 + 1)]) (H1 := mz_mk g x) rfl ?_
  refine mz_cv rfl mt_11_203 (by decide) (kc_words (ks_load_0 (kx_1 hx)) _) rfl (Nat.le_of_ble_eq_true rfl) (by omega) (c_X10_of (by omega) hx hI (ks_load_0 (kx_1 hx)) l_a1 u_a1 (fun u3 k_u3 hp4 => ⟨_, rfl, ?_⟩))
  show mm_W d mmX11_letter 19 [some (.ref 0), some (.int (Int32.ofInt a1)), some (.int (Int32.ofInt a2)), none] [.ref u3] (mz_mk g x) Q
  refine mm_g 2 (pc1 := 21) (lo1 := [some (.ref 0), some (.int (Int32.ofInt a1)), some (.int (Int32.ofInt a2)), some (.ref u3)]) (st1 := [.int (Int32.ofInt a2)]) (H1 := mz_mk g x) rfl ?_
  refine mz_if_lt (tgt := 36) rfl rfl (mz_rg l_a2 u_a2) (fun c21_4 => ?_) (fun c21_4 => ?_)
  · skip
    refine mm_g 1 (pc1 := 37) (lo1 := [some (.ref 0), some (.int (Int32.ofInt a1)), some (.int (Int32.ofInt a2)), some (.ref u3)]) (st1 := [.int (Int32.ofInt 0)]) (H1 := mz_mk g x) rfl ?_
    refine mz_csx rfl mt_11_183 rfl (Nat.le_of_ble_eq_true rfl) (by omega) rfl nh_X11_mustBe (c_X11_mustBe (by omega) hx hI (by decide) (by decide) (fun hp5 => ?_) (fun E => hX E))
    show mm_W d mmX11_letter 40 [some (.ref 0), some (.int (Int32.ofInt a1)), some (.int (Int32.ofInt a2)), some (.ref u3)] [] (mz_mk g x) Q
    exfalso; omega
  · skip
    refine mm_g 2 (pc1 := 26) (lo1 := [some (.ref 0), some (.int (Int32.ofInt a1)), some (.int (Int32.ofInt a2)), some (.ref u3)]) (st1 := [.ref u3, .int (Int32.ofInt a2)]) (H1 := mz_mk g x) rfl ?_
    refine mz_cv rfl mt_11_207 (by decide) (kc_let k_u3 _) rfl (Nat.le_of_ble_eq_true rfl) (by omega) (c_X0_length (by omega) hx hI k_u3 (fun v6 l_v6 u_v6 => ⟨_, rfl, ?_⟩))
    show mm_W d mmX11_letter 29 [some (.ref 0), some (.int (Int32.ofInt a1)), some (.int (Int32.ofInt a2)), some (.ref u3)] [.int (Int32.ofInt v6), .int (Int32.ofInt a2)] (mz_mk g x) Q
    refine mz_ic_ge (tgt := 36) rfl rfl (mz_rg l_a2 u_a2) (mz_rg l_v6 u_v6) (fun c29_6 => ?_) (fun c29_6 => ?_)
    · skip
      refine mm_g 1 (pc1 := 37) (lo1 := [some (.ref 0), some (.int (Int32.ofInt a1)), some (.int (Int32.ofInt a2)), some (.ref u3)]) (st1 := [.int (Int32.ofInt 0)]) (H1 := mz_mk g x) rfl ?_
      refine mz_csx rfl mt_11_183 rfl (Nat.le_of_ble_eq_true rfl) (by omega) rfl nh_X11_mustBe (c_X11_mustBe (by omega) hx hI (by decide) (by decide) (fun hp7 => ?_) (fun E => hX E))
      show mm_W d mmX11_letter 40 [some (.ref 0), some (.int (Int32.ofInt a1)), some (.int (Int32.ofInt a2)), some (.ref u3)] [] (mz_mk g x) Q
      exfalso; omega
    · skip
      refine mm_g 1 (pc1 := 33) (lo1 := [some (.ref 0), some (.int (Int32.ofInt a1)), some (.int (Int32.ofInt a2)), some (.ref u3)]) (st1 := [.int (Int32.ofInt 1)]) (H1 := mz_mk g x) rfl ?_
      refine mz_gt (tgt := 37) rfl rfl ?_
      refine mz_csx rfl mt_11_183 rfl (Nat.le_of_ble_eq_true rfl) (by omega) rfl nh_X11_mustBe (c_X11_mustBe (by omega) hx hI (by decide) (by decide) (fun hp8 => ?_) (fun E => hX E))
      show mm_W d mmX11_letter 40 [some (.ref 0), some (.int (Int32.ofInt a1)), some (.int (Int32.ofInt a2)), some (.ref u3)] [] (mz_mk g x) Q
      refine mm_g 2 (pc1 := 42) (lo1 := [some (.ref 0), some (.int (Int32.ofInt a1)), some (.int (Int32.ofInt a2)), some (.ref u3)]) (st1 := [.int (Int32.ofInt a2), .ref u3]) (H1 := mz_mk g x) rfl ?_
      refine mz_cv rfl mt_11_228 (by decide) (kc_let k_u3 _) rfl (Nat.le_of_ble_eq_true rfl) (by omega) (c_X0_signAt (by omega) hx hI k_u3 l_a2 u_a2 (fun v9 l_v9 u_v9 => ⟨_, rfl, ?_⟩))
      show mm_W d mmX11_letter 45 [some (.ref 0), some (.int (Int32.ofInt a1)), some (.int (Int32.ofInt a2)), some (.ref u3)] [.int (Int32.ofInt v9)] (mz_mk g x) Q
      exact mm_rt rfl rfl (hQ _ (by omega) (by omega))
theorem c_X11_isTrunk {d : Nat} (hd : 2 ≤ d) {x : mm_X} (hx : mk_x x) {g : mz_G} (hI : mz_inv g) {a1 : Int} (l_a1 : (-2147483648) ≤ a1) (u_a1 : a1 ≤ 2147483647) {Q : (Option Value ⊕ Nat) → mm_H → Prop} (hQ : ∀ (r : Int), 0 ≤ r → r ≤ 1 → Q (.inl (some (.int (Int32.ofInt r)))) (mz_mk g x)) : mm_C d 172 [.ref 0, .int (Int32.ofInt a1)] (mz_mk g x) Q := by
  have kx := kn_x hx
  refine ⟨mmX11_isTrunk, [some (.ref 0), some (.int (Int32.ofInt a1))], rfl, rfl, ?_⟩
  refine mm_g 1 (pc1 := 1) (lo1 := [some (.ref 0), some (.int (Int32.ofInt a1))]) (st1 := [.int (Int32.ofInt a1)]) (H1 := mz_mk g x) rfl ?_
  refine mz_if_lt (tgt := 16) rfl rfl (mz_rg l_a1 u_a1) (fun c1_0 => ?_) (fun c1_0 => ?_)
  · skip
    refine mm_g 1 (pc1 := 17) (lo1 := [some (.ref 0), some (.int (Int32.ofInt a1))]) (st1 := [.int (Int32.ofInt 0)]) (H1 := mz_mk g x) rfl ?_
    exact mz_rtZ rfl (by decide) (by omega) (hQ _ (by decide) (by decide))
  · skip
    refine mm_g 2 (pc1 := 6) (lo1 := [some (.ref 0), some (.int (Int32.ofInt a1))]) (st1 := [.ref 0, .int (Int32.ofInt a1)]) (H1 := mz_mk g x) rfl ?_
    refine mz_cv rfl mt_11_155 (by decide) (sc_0 _) rfl (Nat.le_of_ble_eq_true rfl) (by omega) (c_X11_trunkCount (by omega) hx hI (fun v1 l_v1 u_v1 => ⟨_, rfl, ?_⟩))
    show mm_W d mmX11_isTrunk 9 [some (.ref 0), some (.int (Int32.ofInt a1))] [.int (Int32.ofInt v1), .int (Int32.ofInt a1)] (mz_mk g x) Q
    refine mz_ic_ge (tgt := 16) rfl rfl (mz_rg l_a1 u_a1) (mz_rg l_v1 u_v1) (fun c9_1 => ?_) (fun c9_1 => ?_)
    · skip
      refine mm_g 1 (pc1 := 17) (lo1 := [some (.ref 0), some (.int (Int32.ofInt a1))]) (st1 := [.int (Int32.ofInt 0)]) (H1 := mz_mk g x) rfl ?_
      exact mz_rtZ rfl (by decide) (by omega) (hQ _ (by decide) (by decide))
    · skip
      refine mm_g 1 (pc1 := 13) (lo1 := [some (.ref 0), some (.int (Int32.ofInt a1))]) (st1 := [.int (Int32.ofInt 1)]) (H1 := mz_mk g x) rfl ?_
      refine mz_gt (tgt := 17) rfl rfl ?_
      exact mz_rtZ rfl (by decide) (by omega) (hQ _ (by decide) (by decide))
def fl_X1_blendInto_47 (x : mm_X) (q0 : Nat) (q1 : Nat) (q2 : Nat) : Nat → Nat → Prop := fun k j => k = (q2 + 1) ∨ k = q2
def fl_X1_blendInto_78 (x : mm_X) (q0 : Nat) (q1 : Nat) (q2 : Nat) : Nat → Nat → Prop := fun k j => k = (q2 + 1) ∨ k = q2
def fw_X1_blendInto (x : mm_X) (q0 : Nat) (q1 : Nat) (q2 : Nat) : Nat → Nat → Prop := fun k j => k = q2 ∨ k = (q2 + 1)
theorem c_X1_blendInto {d : Nat} (hd : 3 ≤ d) {x : mm_X} (hx : mk_x x) {g : mz_G} (hI : mz_inv g) {q0 : Nat} (h_q0 : kd_load q0) {q1 : Nat} (h_q1 : kd_trunk q1) {q2 : Nat} (h_q2 : kd_let q2) {Q : (Option Value ⊕ Nat) → mm_H → Prop} (hQ : ∀ (g1 : mz_G), mz_inv g1 → mz_fr (fw_X1_blendInto x q0 q1 q2) g g1 → Q (.inl none) (mz_mk g1 x)) : mm_C d 19 [.ref q0, .ref q1, .ref q2] (mz_mk g x) Q := by
  have kn_q0 := kn_load h_q0
  have kn_q1 := kn_trunk h_q1
  have kn_q2 := kn_let h_q2
  refine ⟨mmX1_blendInto, [some (.ref q0), some (.ref q1), some (.ref q2), none, none, none, none], rfl, rfl, ?_⟩
  refine mm_g 1 (pc1 := 1) (lo1 := [some (.ref q0), some (.ref q1), some (.ref q2), none, none, none, none]) (st1 := [.ref q0]) (H1 := mz_mk g x) rfl ?_
  refine mz_fgR (v := (q0 + 1)) rfl fd_1_12 (by decide) (kc_load h_q0 _) (kr_load_0 h_q0 _ _ _) ?_
  refine mm_g 1 (pc1 := 5) (lo1 := [some (.ref q0), some (.ref q1), some (.ref q2), none, none, none, none]) (st1 := [.ref q1, .ref (q0 + 1)]) (H1 := mz_mk g x) rfl ?_
  refine mz_gI rfl fd_1_57 (by decide) (kc_trunk h_q1 _) hI (kb_trunk_0 h_q1) (fun v1 e_v1 l_v1 u_v1 => ?_)
  refine mz_cv rfl mt_1_62 (by decide) (kc_words (ks_load_0 h_q0) _) rfl (Nat.le_of_ble_eq_true rfl) (by omega) (c_X10_of (by omega) hx hI (ks_load_0 h_q0) l_v1 u_v1 (fun u2 k_u2 hp3 => ⟨_, rfl, ?_⟩))
  show mm_W d mmX1_blendInto 11 [some (.ref q0), some (.ref q1), some (.ref q2), none, none, none, none] [.ref u2] (mz_mk g x) Q
  refine mm_g 2 (pc1 := 13) (lo1 := [some (.ref q0), some (.ref q1), some (.ref q2), some (.ref u2), none, none, none]) (st1 := [.ref q0]) (H1 := mz_mk g x) rfl ?_
  refine mz_fgR (v := (q0 + 1)) rfl fd_1_12 (by decide) (kc_load h_q0 _) (kr_load_0 h_q0 _ _ _) ?_
  refine mm_g 1 (pc1 := 17) (lo1 := [some (.ref q0), some (.ref q1), some (.ref q2), some (.ref u2), none, none, none]) (st1 := [.ref q1, .ref (q0 + 1)]) (H1 := mz_mk g x) rfl ?_
  refine mz_gI rfl fd_1_72 (by decide) (kc_trunk h_q1 _) hI (kb_trunk_1 h_q1) (fun v4 e_v4 l_v4 u_v4 => ?_)
  refine mz_cv rfl mt_1_62 (by decide) (kc_words (ks_load_0 h_q0) _) rfl (Nat.le_of_ble_eq_true rfl) (by omega) (c_X10_of (by omega) hx hI (ks_load_0 h_q0) l_v4 u_v4 (fun u5 k_u5 hp6 => ⟨_, rfl, ?_⟩))
  show mm_W d mmX1_blendInto 23 [some (.ref q0), some (.ref q1), some (.ref q2), some (.ref u2), none, none, none] [.ref u5] (mz_mk g x) Q
  refine mm_g 2 (pc1 := 26) (lo1 := [some (.ref q0), some (.ref q1), some (.ref q2), some (.ref u2), some (.ref u5), none, none]) (st1 := [.ref u2]) (H1 := mz_mk g x) rfl ?_
  refine mz_cv rfl mt_1_66 (by decide) (kc_let k_u2 _) rfl (Nat.le_of_ble_eq_true rfl) (by omega) (c_X0_length (by omega) hx hI k_u2 (fun v7 l_v7 u_v7 => ⟨_, rfl, ?_⟩))
  show mm_W d mmX1_blendInto 29 [some (.ref q0), some (.ref q1), some (.ref q2), some (.ref u2), some (.ref u5), none, none] [.int (Int32.ofInt v7)] (mz_mk g x) Q
  refine mm_g 1 (pc1 := 30) (lo1 := [some (.ref q0), some (.ref q1), some (.ref q2), some (.ref u2), some (.ref u5), none, none]) (st1 := [.ref q1, .int (Int32.ofInt v7)]) (H1 := mz_mk g x) rfl ?_
  refine mz_gI rfl fd_1_81 (by decide) (kc_trunk h_q1 _) hI (kb_trunk_3 h_q1) (fun v8 e_v8 l_v8 u_v8 => ?_)
  refine mm_g 1 (pc1 := 34) (lo1 := [some (.ref q0), some (.ref q1), some (.ref q2), some (.ref u2), some (.ref u5), none, none]) (st1 := [.int (Int32.ofInt 1), .int (Int32.ofInt v8), .int (Int32.ofInt v7)]) (H1 := mz_mk g x) rfl ?_
  refine mz_iadd_w rfl (fun v9 _ hwv9 => ?_)
  have l_v9 := hwv9.1
  have u_v9 := hwv9.2
  refine mm_g 1 (pc1 := 36) (lo1 := [some (.ref q0), some (.ref q1), some (.ref q2), some (.ref u2), some (.ref u5), none, none]) (st1 := [.int (Int32.ofInt 2), .int (Int32.ofInt v9), .int (Int32.ofInt v7)]) (H1 := mz_mk g x) rfl ?_
  refine mz_idiv rfl ⟨by decide, by decide⟩ (by decide) (fun v10 _ hwv10 => ?_)
  have l_v10 := hwv10.1
  have u_v10 := hwv10.2
  refine mz_isub_w rfl (fun v11 _ hwv11 => ?_)
  have l_v11 := hwv11.1
  have u_v11 := hwv11.2
  refine mm_g 2 (pc1 := 41) (lo1 := [some (.ref q0), some (.ref q1), some (.ref q2), some (.ref u2), some (.ref u5), some (.int (Int32.ofInt v11)), none]) (st1 := [.ref q2]) (H1 := mz_mk g x) rfl ?_
  refine mz_cv rfl mt_1_88 (by decide) (kc_let h_q2 _) rfl (Nat.le_of_ble_eq_true rfl) (by omega) (c_X0_empty (by omega) hx hI h_q2 (fun g12 hIg12 hfg12 => ⟨_, rfl, ?_⟩))
  show mm_W d mmX1_blendInto 44 [some (.ref q0), some (.ref q1), some (.ref q2), some (.ref u2), some (.ref u5), some (.int (Int32.ofInt v11)), none] [] (mz_mk g12 x) Q
  refine mm_g 2 (pc1 := 47) (lo1 := [some (.ref q0), some (.ref q1), some (.ref q2), some (.ref u2), some (.ref u5), some (.int (Int32.ofInt v11)), some (.int (Int32.ofInt 0))]) (st1 := []) (H1 := mz_mk g12 x) rfl ?_
  have L17 : ∀ n16 : Nat, ∀ (v13 : Int) (g14 : mz_G), (2147483647 - v13).toNat = n16 → 0 ≤ v13 → v13 ≤ 2147483647 → mz_inv g14 → mz_fr (fl_X1_blendInto_47 x q0 q1 q2) g12 g14 → mm_W d mmX1_blendInto 47 [some (.ref q0), some (.ref q1), some (.ref q2), some (.ref u2), some (.ref u5), some (.int (Int32.ofInt v11)), some (.int (Int32.ofInt v13))] [] (mz_mk g14 x) Q := by
    intro n16
    induction n16 using Nat.strongRecOn with
    | ind n16 ih15 =>
    intro v13 g14 hmn16 l_v13 u_v13 hIg14 hfg14
    refine mm_g 2 (pc1 := 51) (lo1 := [some (.ref q0), some (.ref q1), some (.ref q2), some (.ref u2), some (.ref u5), some (.int (Int32.ofInt v11)), some (.int (Int32.ofInt v13))]) (st1 := [.int (Int32.ofInt v11), .int (Int32.ofInt v13)]) (H1 := mz_mk g14 x) rfl ?_
    refine mz_ic_ge (tgt := 70) rfl rfl (mz_rg l_v13 u_v13) (mz_rg l_v11 u_v11) (fun c51_17 => ?_) (fun c51_17 => ?_)
    · skip
      refine mm_g 1 (pc1 := 71) (lo1 := [some (.ref q0), some (.ref q1), some (.ref q2), some (.ref u2), some (.ref u5), some (.int (Int32.ofInt v11)), some (.int (Int32.ofInt v13))]) (st1 := [.ref q1]) (H1 := mz_mk g14 x) rfl ?_
      refine mz_fgI (v := v8) rfl fd_1_81 (by decide) (kc_trunk h_q1 _) (show g14 q1 3 = v8 from ((hfg14 q1 3 (fun h => (Or.elim h (fun h => (by have h9 : q1 = (q2 + 1) := h; omega)) (fun h => (by have h9 : q1 = q2 := h; omega))))).trans ((hfg12 q1 3 (fun h => (by have h9 : q1 = q2 := h; omega))).trans e_v8))) ?_
      refine mm_g 1 (pc1 := 75) (lo1 := [some (.ref q0), some (.ref q1), some (.ref q2), some (.ref u2), some (.ref u5), some (.int (Int32.ofInt v11)), some (.int (Int32.ofInt v13))]) (st1 := [.int (Int32.ofInt 2), .int (Int32.ofInt v8)]) (H1 := mz_mk g14 x) rfl ?_
      refine mz_idiv rfl ⟨by decide, by decide⟩ (by decide) (fun v18 _ hwv18 => ?_)
      have l_v18 := hwv18.1
      have u_v18 := hwv18.2
      refine mm_g 1 (pc1 := 78) (lo1 := [some (.ref q0), some (.ref q1), some (.ref q2), some (.ref u2), some (.ref u5), some (.int (Int32.ofInt v11)), some (.int (Int32.ofInt v18))]) (st1 := []) (H1 := mz_mk g14 x) rfl ?_
      have L23 : ∀ n22 : Nat, ∀ (v19 : Int) (g20 : mz_G), (16 - v19).toNat = n22 → (-2147483648) ≤ v19 → v19 ≤ 2147483647 → mz_inv g20 → mz_fr (fl_X1_blendInto_78 x q0 q1 q2) g14 g20 → mm_W d mmX1_blendInto 78 [some (.ref q0), some (.ref q1), some (.ref q2), some (.ref u2), some (.ref u5), some (.int (Int32.ofInt v11)), some (.int (Int32.ofInt v19))] [] (mz_mk g20 x) Q := by
        intro n22
        induction n22 using Nat.strongRecOn with
        | ind n22 ih21 =>
        intro v19 g20 hmn22 l_v19 u_v19 hIg20 hfg20
        refine mm_g 2 (pc1 := 82) (lo1 := [some (.ref q0), some (.ref q1), some (.ref q2), some (.ref u2), some (.ref u5), some (.int (Int32.ofInt v11)), some (.int (Int32.ofInt v19))]) (st1 := [.ref u5, .int (Int32.ofInt v19)]) (H1 := mz_mk g20 x) rfl ?_
        refine mz_cv rfl mt_1_66 (by decide) (kc_let k_u5 _) rfl (Nat.le_of_ble_eq_true rfl) (by omega) (c_X0_length (by omega) hx hIg20 k_u5 (fun v24 l_v24 u_v24 => ⟨_, rfl, ?_⟩))
        show mm_W d mmX1_blendInto 85 [some (.ref q0), some (.ref q1), some (.ref q2), some (.ref u2), some (.ref u5), some (.int (Int32.ofInt v11)), some (.int (Int32.ofInt v19))] [.int (Int32.ofInt v24), .int (Int32.ofInt v19)] (mz_mk g20 x) Q
        refine mz_ic_ge (tgt := 105) rfl rfl (mz_rg l_v19 u_v19) (mz_rg l_v24 u_v24) (fun c85_24 => ?_) (fun c85_24 => ?_)
        · skip
          exact mm_rt rfl rfl (hQ _ hIg20 (fun k j hk => ((hfg20 k j (fun h => hk (Or.elim h (fun h => (Or.inr h)) (fun h => (Or.inl h))))).trans ((hfg14 k j (fun h => hk (Or.elim h (fun h => (Or.inr h)) (fun h => (Or.inl h))))).trans (hfg12 k j (fun h => hk (Or.inl h)))))))
        · skip
          refine mm_g 3 (pc1 := 93) (lo1 := [some (.ref q0), some (.ref q1), some (.ref q2), some (.ref u2), some (.ref u5), some (.int (Int32.ofInt v11)), some (.int (Int32.ofInt v19))]) (st1 := [.int (Int32.ofInt v19), .ref u5, .ref q2]) (H1 := mz_mk g20 x) rfl ?_
          refine mz_cv rfl mt_1_91 (by decide) (kc_let k_u5 _) rfl (Nat.le_of_ble_eq_true rfl) (by omega) (c_X0_signAt (by omega) hx hIg20 k_u5 l_v19 u_v19 (fun v25 l_v25 u_v25 => ⟨_, rfl, ?_⟩))
          show mm_W d mmX1_blendInto 96 [some (.ref q0), some (.ref q1), some (.ref q2), some (.ref u2), some (.ref u5), some (.int (Int32.ofInt v11)), some (.int (Int32.ofInt v19))] [.int (Int32.ofInt v25), .ref q2] (mz_mk g20 x) Q
          refine mz_cv rfl mt_1_95 (by decide) (kc_let h_q2 _) rfl (Nat.le_of_ble_eq_true rfl) (by omega) (c_X0_addLetter (by omega) hx hIg20 h_q2 l_v25 u_v25 (fun g26 hIg26 hfg26 => ⟨_, rfl, ?_⟩))
          show mm_W d mmX1_blendInto 99 [some (.ref q0), some (.ref q1), some (.ref q2), some (.ref u2), some (.ref u5), some (.int (Int32.ofInt v11)), some (.int (Int32.ofInt v19))] [] (mz_mk g26 x) Q
          refine mz_iincR (v := v19) (lo2 := [some (.ref q0), some (.ref q1), some (.ref q2), some (.ref u2), some (.ref u5), some (.int (Int32.ofInt v11)), some (.int (Int32.ofInt (v19 + 1)))]) rfl rfl rfl (Nat.le_of_ble_eq_true rfl) rfl ?_
          refine mz_gt (tgt := 78) rfl rfl ?_
          exact ih21 ((16 - (v19 + 1)).toNat) (by omega) (v19 + 1) g26 rfl (by omega) (by omega) hIg26 (fun k j hk => ((hfg26 k j (fun h => hk (Or.elim h (fun h => (Or.inl h)) (fun h => (Or.inr h))))).trans (hfg20 k j (fun h => hk (Or.elim h (fun h => (Or.inl h)) (fun h => (Or.inr h)))))))
      exact L23 _ v18 g14 rfl (by omega) (by omega) hIg14 (fun _ _ _ => rfl)
    · skip
      refine mm_g 3 (pc1 := 58) (lo1 := [some (.ref q0), some (.ref q1), some (.ref q2), some (.ref u2), some (.ref u5), some (.int (Int32.ofInt v11)), some (.int (Int32.ofInt v13))]) (st1 := [.int (Int32.ofInt v13), .ref u2, .ref q2]) (H1 := mz_mk g14 x) rfl ?_
      refine mz_cv rfl mt_1_91 (by decide) (kc_let k_u2 _) rfl (Nat.le_of_ble_eq_true rfl) (by omega) (c_X0_signAt (by omega) hx hIg14 k_u2 (by omega) (by omega) (fun v27 l_v27 u_v27 => ⟨_, rfl, ?_⟩))
      show mm_W d mmX1_blendInto 61 [some (.ref q0), some (.ref q1), some (.ref q2), some (.ref u2), some (.ref u5), some (.int (Int32.ofInt v11)), some (.int (Int32.ofInt v13))] [.int (Int32.ofInt v27), .ref q2] (mz_mk g14 x) Q
      refine mz_cv rfl mt_1_95 (by decide) (kc_let h_q2 _) rfl (Nat.le_of_ble_eq_true rfl) (by omega) (c_X0_addLetter (by omega) hx hIg14 h_q2 l_v27 u_v27 (fun g28 hIg28 hfg28 => ⟨_, rfl, ?_⟩))
      show mm_W d mmX1_blendInto 64 [some (.ref q0), some (.ref q1), some (.ref q2), some (.ref u2), some (.ref u5), some (.int (Int32.ofInt v11)), some (.int (Int32.ofInt v13))] [] (mz_mk g28 x) Q
      refine mz_iincR (v := v13) (lo2 := [some (.ref q0), some (.ref q1), some (.ref q2), some (.ref u2), some (.ref u5), some (.int (Int32.ofInt v11)), some (.int (Int32.ofInt (v13 + 1)))]) rfl rfl rfl (Nat.le_of_ble_eq_true rfl) rfl ?_
      refine mz_gt (tgt := 47) rfl rfl ?_
      exact ih15 ((2147483647 - (v13 + 1)).toNat) (by omega) (v13 + 1) g28 rfl (by omega) (by omega) hIg28 (fun k j hk => ((hfg28 k j (fun h => hk (Or.elim h (fun h => (Or.inl h)) (fun h => (Or.inr h))))).trans (hfg14 k j (fun h => hk (Or.elim h (fun h => (Or.inl h)) (fun h => (Or.inr h)))))))
  exact L17 _ 0 g12 rfl (by decide) (by decide) hIg12 (fun _ _ _ => rfl)
def fl_X2_changes_2 (x : mm_X) (q1 : Nat) (q2 : Nat) : Nat → Nat → Prop := fun k j => k = 117
def fl_X2_changes_27 (x : mm_X) (q1 : Nat) (q2 : Nat) : Nat → Nat → Prop := fun k j => k = 117
def fl_X2_changes_59 (x : mm_X) (q1 : Nat) (q2 : Nat) : Nat → Nat → Prop := fun k j => k = 117
def fw_X2_changes (x : mm_X) (q1 : Nat) (q2 : Nat) : Nat → Nat → Prop := fun k j => k = 117
theorem c_X2_changes {d : Nat} (hd : 12 ≤ d) {x : mm_X} (hx : mk_x x) {g : mz_G} (hI : mz_inv g) {q1 : Nat} (h_q1 : kd_let q1) {q2 : Nat} (h_q2 : kd_let q2) {Q : (Option Value ⊕ Nat) → mm_H → Prop} (hQ : ∀ (r : Int) (g1 : mz_G), mz_inv g1 → mz_fr (fw_X2_changes x q1 q2) g g1 → (-2147483648) ≤ r → r ≤ 2147483647 → Q (.inl (some (.int (Int32.ofInt r)))) (mz_mk g1 x)) : mm_C d 25 [.ref 116, .ref q1, .ref q2] (mz_mk g x) Q := by
  have kn_q1 := kn_let h_q1
  have kn_q2 := kn_let h_q2
  refine ⟨mmX2_changes, [some (.ref 116), some (.ref q1), some (.ref q2), none, none, none, none, none], rfl, rfl, ?_⟩
  refine mm_g 2 (pc1 := 2) (lo1 := [some (.ref 116), some (.ref q1), some (.ref q2), some (.int (Int32.ofInt 0)), none, none, none, none]) (st1 := []) (H1 := mz_mk g x) rfl ?_
  have L5 : ∀ n4 : Nat, ∀ (v1 : Int) (g2 : mz_G), (17 - v1).toNat = n4 → 0 ≤ v1 → v1 ≤ 17 → mz_inv g2 → mz_fr (fl_X2_changes_2 x q1 q2) g g2 → mm_W d mmX2_changes 2 [some (.ref 116), some (.ref q1), some (.ref q2), some (.int (Int32.ofInt v1)), none, none, none, none] [] (mz_mk g2 x) Q := by
    intro n4
    induction n4 using Nat.strongRecOn with
    | ind n4 ih3 =>
    intro v1 g2 hmn4 l_v1 u_v1 hIg2 hfg2
    refine mm_g 2 (pc1 := 4) (lo1 := [some (.ref 116), some (.ref q1), some (.ref q2), some (.int (Int32.ofInt v1)), none, none, none, none]) (st1 := [.ref q2, .int (Int32.ofInt v1)]) (H1 := mz_mk g2 x) rfl ?_
    refine mz_cv rfl mt_2_15 (by decide) (kc_let h_q2 _) rfl (Nat.le_of_ble_eq_true rfl) (by omega) (c_X0_length (by omega) hx hIg2 h_q2 (fun v6 l_v6 u_v6 => ⟨_, rfl, ?_⟩))
    show mm_W d mmX2_changes 7 [some (.ref 116), some (.ref q1), some (.ref q2), some (.int (Int32.ofInt v1)), none, none, none, none] [.int (Int32.ofInt v6), .int (Int32.ofInt v1)] (mz_mk g2 x) Q
    refine mz_ic_gt (tgt := 25) rfl rfl (mz_rg l_v1 u_v1) (mz_rg l_v6 u_v6) (fun c7_6 => ?_) (fun c7_6 => ?_)
    · skip
      refine mm_g 2 (pc1 := 27) (lo1 := [some (.ref 116), some (.ref q1), some (.ref q2), some (.int (Int32.ofInt 0)), none, none, none, none]) (st1 := []) (H1 := mz_mk g2 x) rfl ?_
      have L15 : ∀ n14 : Nat, ∀ (v7 : Int) (o8 : Option Value) (o9 : Option Value) (o10 : Option Value) (o11 : Option Value) (g12 : mz_G), (16 - v7).toNat = n14 → 0 ≤ v7 → v7 ≤ 16 → mz_nl o8 → mz_nl o9 → mz_nl o10 → mz_nl o11 → mz_inv g12 → mz_fr (fl_X2_changes_27 x q1 q2) g2 g12 → mm_W d mmX2_changes 27 [some (.ref 116), some (.ref q1), some (.ref q2), some (.int (Int32.ofInt v7)), o8, o9, o10, o11] [] (mz_mk g12 x) Q := by
        intro n14
        induction n14 using Nat.strongRecOn with
        | ind n14 ih13 =>
        intro v7 o8 o9 o10 o11 g12 hmn14 l_v7 u_v7 h_o8 h_o9 h_o10 h_o11 hIg12 hfg12
        refine mm_g 2 (pc1 := 29) (lo1 := [some (.ref 116), some (.ref q1), some (.ref q2), some (.int (Int32.ofInt v7)), o8, o9, o10, o11]) (st1 := [.ref q1, .int (Int32.ofInt v7)]) (H1 := mz_mk g12 x) rfl ?_
        refine mz_cv rfl mt_2_15 (by decide) (kc_let h_q1 _) rfl (Nat.le_of_ble_eq_true rfl) (by omega) (c_X0_length (by omega) hx hIg12 h_q1 (fun v16 l_v16 u_v16 => ⟨_, rfl, ?_⟩))
        show mm_W d mmX2_changes 32 [some (.ref 116), some (.ref q1), some (.ref q2), some (.int (Int32.ofInt v7)), o8, o9, o10, o11] [.int (Int32.ofInt v16), .int (Int32.ofInt v7)] (mz_mk g12 x) Q
        refine mz_ic_ge (tgt := 153) rfl rfl (mz_rg l_v7 u_v7) (mz_rg l_v16 u_v16) (fun c32_16 => ?_) (fun c32_16 => ?_)
        · skip
          refine mm_g 1 (pc1 := 154) (lo1 := [some (.ref 116), some (.ref q1), some (.ref q2), some (.int (Int32.ofInt v7)), o8, o9, o10, o11]) (st1 := [.ref 116]) (H1 := mz_mk g12 x) rfl ?_
          refine mz_fgR (v := 117) rfl fd_2_9 (by decide) (sc_116 _) (rf_116_0 _ _ _) ?_
          refine mm_g 1 (pc1 := 158) (lo1 := [some (.ref 116), some (.ref q1), some (.ref q2), some (.int (Int32.ofInt v7)), o8, o9, o10, o11]) (st1 := [.ref q2, .ref 117]) (H1 := mz_mk g12 x) rfl ?_
          refine mz_cv rfl mt_2_15 (by decide) (kc_let h_q2 _) rfl (Nat.le_of_ble_eq_true rfl) (by omega) (c_X0_length (by omega) hx hIg12 h_q2 (fun v17 l_v17 u_v17 => ⟨_, rfl, ?_⟩))
          show mm_W d mmX2_changes 161 [some (.ref 116), some (.ref q1), some (.ref q2), some (.int (Int32.ofInt v7)), o8, o9, o10, o11] [.int (Int32.ofInt v17), .ref 117] (mz_mk g12 x) Q
          refine mz_cs rfl mt_2_25 (by decide) rfl (Nat.le_of_ble_eq_true rfl) (by omega) (c_X11_at (by omega) hx hIg12 (sh_117 _) (by decide) ba_117 (by omega) (by omega) (by omega) (by omega) (fun v18 l_v18 u_v18 => ⟨_, rfl, ?_⟩))
          show mm_W d mmX2_changes 164 [some (.ref 116), some (.ref q1), some (.ref q2), some (.int (Int32.ofInt v7)), o8, o9, o10, o11] [.int (Int32.ofInt v18)] (mz_mk g12 x) Q
          exact mm_rt rfl rfl (hQ _ _ hIg12 (fun k j hk => ((hfg12 k j (fun h => hk h)).trans (hfg2 k j (fun h => hk h)))) (by omega) (by omega))
        · skip
          refine mm_g 1 (pc1 := 36) (lo1 := [some (.ref 116), some (.ref q1), some (.ref q2), some (.int (Int32.ofInt v7)), o8, o9, o10, o11]) (st1 := [.ref 116]) (H1 := mz_mk g12 x) rfl ?_
          refine mz_fgR (v := 117) rfl fd_2_9 (by decide) (sc_116 _) (rf_116_0 _ _ _) ?_
          refine mm_g 1 (pc1 := 40) (lo1 := [some (.ref 116), some (.ref q1), some (.ref q2), some (.int (Int32.ofInt v7)), o8, o9, o10, o11]) (st1 := [.int (Int32.ofInt 0), .ref 117]) (H1 := mz_mk g12 x) rfl ?_
          refine mz_cs rfl mt_2_25 (by decide) rfl (Nat.le_of_ble_eq_true rfl) (by omega) (c_X11_at (by omega) hx hIg12 (sh_117 _) (by decide) ba_117 (by omega) (by omega) (by decide) (by decide) (fun v19 l_v19 u_v19 => ⟨_, rfl, ?_⟩))
          show mm_W d mmX2_changes 43 [some (.ref 116), some (.ref q1), some (.ref q2), some (.int (Int32.ofInt v7)), o8, o9, o10, o11] [.int (Int32.ofInt v19)] (mz_mk g12 x) Q
          refine mm_g 2 (pc1 := 46) (lo1 := [some (.ref 116), some (.ref q1), some (.ref q2), some (.int (Int32.ofInt v7)), some (.int (Int32.ofInt v19)), o9, o10, o11]) (st1 := [.ref 116]) (H1 := mz_mk g12 x) rfl ?_
          refine mz_fgR (v := 117) rfl fd_2_9 (by decide) (sc_116 _) (rf_116_0 _ _ _) ?_
          refine mm_g 3 (pc1 := 52) (lo1 := [some (.ref 116), some (.ref q1), some (.ref q2), some (.int (Int32.ofInt v7)), some (.int (Int32.ofInt v19)), o9, o10, o11]) (st1 := [.int (Int32.ofInt 1), .int (Int32.ofInt v7), .int (Int32.ofInt 0), .ref 117]) (H1 := mz_mk g12 x) rfl ?_
          refine mz_iadd rfl ?_
          refine mz_cs rfl mt_2_21 (by decide) rfl (Nat.le_of_ble_eq_true rfl) (by omega) (c_X11_put (by omega) hx hIg12 (sh_117 _) (by decide) ba_117 (by omega) (by omega) (by decide) (by decide) (by omega) (by omega) (by omega) (by omega) (fun g20 hIg20 hfg20 => ⟨_, rfl, ?_⟩))
          show mm_W d mmX2_changes 56 [some (.ref 116), some (.ref q1), some (.ref q2), some (.int (Int32.ofInt v7)), some (.int (Int32.ofInt v19)), o9, o10, o11] [] (mz_mk g20 x) Q
          refine mm_g 2 (pc1 := 59) (lo1 := [some (.ref 116), some (.ref q1), some (.ref q2), some (.int (Int32.ofInt v7)), some (.int (Int32.ofInt v19)), some (.int (Int32.ofInt 0)), o10, o11]) (st1 := []) (H1 := mz_mk g20 x) rfl ?_
          have L28 : ∀ n27 : Nat, ∀ (v21 : Int) (v22 : Int) (o23 : Option Value) (o24 : Option Value) (g25 : mz_G), (16 - v22).toNat = n27 → (-2147483648) ≤ v21 → v21 ≤ 2147483647 → 0 ≤ v22 → v22 ≤ 16 → mz_nl o23 → mz_nl o24 → mz_inv g25 → mz_fr (fl_X2_changes_59 x q1 q2) g20 g25 → mm_W d mmX2_changes 59 [some (.ref 116), some (.ref q1), some (.ref q2), some (.int (Int32.ofInt v7)), some (.int (Int32.ofInt v21)), some (.int (Int32.ofInt v22)), o23, o24] [] (mz_mk g25 x) Q := by
            intro n27
            induction n27 using Nat.strongRecOn with
            | ind n27 ih26 =>
            intro v21 v22 o23 o24 g25 hmn27 l_v21 u_v21 l_v22 u_v22 h_o23 h_o24 hIg25 hfg25
            refine mm_g 2 (pc1 := 62) (lo1 := [some (.ref 116), some (.ref q1), some (.ref q2), some (.int (Int32.ofInt v7)), some (.int (Int32.ofInt v21)), some (.int (Int32.ofInt v22)), o23, o24]) (st1 := [.ref q2, .int (Int32.ofInt v22)]) (H1 := mz_mk g25 x) rfl ?_
            refine mz_cv rfl mt_2_15 (by decide) (kc_let h_q2 _) rfl (Nat.le_of_ble_eq_true rfl) (by omega) (c_X0_length (by omega) hx hIg25 h_q2 (fun v29 l_v29 u_v29 => ⟨_, rfl, ?_⟩))
            show mm_W d mmX2_changes 65 [some (.ref 116), some (.ref q1), some (.ref q2), some (.int (Int32.ofInt v7)), some (.int (Int32.ofInt v21)), some (.int (Int32.ofInt v22)), o23, o24] [.int (Int32.ofInt v29), .int (Int32.ofInt v22)] (mz_mk g25 x) Q
            refine mz_ic_ge (tgt := 147) rfl rfl (mz_rg l_v22 u_v22) (mz_rg l_v29 u_v29) (fun c65_29 => ?_) (fun c65_29 => ?_)
            · skip
              refine mz_iincR (v := v7) (lo2 := [some (.ref 116), some (.ref q1), some (.ref q2), some (.int (Int32.ofInt (v7 + 1))), some (.int (Int32.ofInt v21)), some (.int (Int32.ofInt v22)), o23, o24]) rfl rfl rfl (Nat.le_of_ble_eq_true rfl) rfl ?_
              refine mz_gt (tgt := 27) rfl rfl ?_
              exact ih13 ((16 - (v7 + 1)).toNat) (by omega) (v7 + 1) (some (.int (Int32.ofInt v21))) (some (.int (Int32.ofInt v22))) o23 o24 g25 rfl (by omega) (by omega) (mz_nl_i _) (mz_nl_i _) h_o23 h_o24 hIg25 (fun k j hk => ((hfg25 k j (fun h => hk h)).trans ((hfg20 k j (fun h => hk h)).trans (hfg12 k j (fun h => hk h)))))
            · skip
              refine mm_g 1 (pc1 := 69) (lo1 := [some (.ref 116), some (.ref q1), some (.ref q2), some (.int (Int32.ofInt v7)), some (.int (Int32.ofInt v21)), some (.int (Int32.ofInt v22)), o23, o24]) (st1 := [.ref 116]) (H1 := mz_mk g25 x) rfl ?_
              refine mz_fgR (v := 117) rfl fd_2_9 (by decide) (sc_116 _) (rf_116_0 _ _ _) ?_
              refine mm_g 2 (pc1 := 75) (lo1 := [some (.ref 116), some (.ref q1), some (.ref q2), some (.int (Int32.ofInt v7)), some (.int (Int32.ofInt v21)), some (.int (Int32.ofInt v22)), o23, o24]) (st1 := [.int (Int32.ofInt 1), .int (Int32.ofInt v22), .ref 117]) (H1 := mz_mk g25 x) rfl ?_
              refine mz_iadd rfl ?_
              refine mz_cs rfl mt_2_25 (by decide) rfl (Nat.le_of_ble_eq_true rfl) (by omega) (c_X11_at (by omega) hx hIg25 (sh_117 _) (by decide) ba_117 (by omega) (by omega) (by omega) (by omega) (fun v30 l_v30 u_v30 => ⟨_, rfl, ?_⟩))
              show mm_W d mmX2_changes 79 [some (.ref 116), some (.ref q1), some (.ref q2), some (.int (Int32.ofInt v7)), some (.int (Int32.ofInt v21)), some (.int (Int32.ofInt v22)), o23, o24] [.int (Int32.ofInt v30)] (mz_mk g25 x) Q
              refine mm_g 4 (pc1 := 85) (lo1 := [some (.ref 116), some (.ref q1), some (.ref q2), some (.int (Int32.ofInt v7)), some (.int (Int32.ofInt v21)), some (.int (Int32.ofInt v22)), some (.int (Int32.ofInt v30)), o24]) (st1 := [.int (Int32.ofInt v7), .ref q1, .int (Int32.ofInt v21)]) (H1 := mz_mk g25 x) rfl ?_
              refine mz_cv rfl mt_2_29 (by decide) (kc_let h_q1 _) rfl (Nat.le_of_ble_eq_true rfl) (by omega) (c_X0_signAt (by omega) hx hIg25 h_q1 (by omega) (by omega) (fun v31 l_v31 u_v31 => ⟨_, rfl, ?_⟩))
              show mm_W d mmX2_changes 88 [some (.ref 116), some (.ref q1), some (.ref q2), some (.int (Int32.ofInt v7)), some (.int (Int32.ofInt v21)), some (.int (Int32.ofInt v22)), some (.int (Int32.ofInt v30)), o24] [.int (Int32.ofInt v31), .int (Int32.ofInt v21)] (mz_mk g25 x) Q
              refine mm_g 2 (pc1 := 91) (lo1 := [some (.ref 116), some (.ref q1), some (.ref q2), some (.int (Int32.ofInt v7)), some (.int (Int32.ofInt v21)), some (.int (Int32.ofInt v22)), some (.int (Int32.ofInt v30)), o24]) (st1 := [.int (Int32.ofInt v22), .ref q2, .int (Int32.ofInt v31), .int (Int32.ofInt v21)]) (H1 := mz_mk g25 x) rfl ?_
              refine mz_cv rfl mt_2_29 (by decide) (kc_let h_q2 _) rfl (Nat.le_of_ble_eq_true rfl) (by omega) (c_X0_signAt (by omega) hx hIg25 h_q2 (by omega) (by omega) (fun v32 l_v32 u_v32 => ⟨_, rfl, ?_⟩))
              show mm_W d mmX2_changes 94 [some (.ref 116), some (.ref q1), some (.ref q2), some (.int (Int32.ofInt v7)), some (.int (Int32.ofInt v21)), some (.int (Int32.ofInt v22)), some (.int (Int32.ofInt v30)), o24] [.int (Int32.ofInt v32), .int (Int32.ofInt v31), .int (Int32.ofInt v21)] (mz_mk g25 x) Q
              refine mz_ic_ne (tgt := 101) rfl rfl (mz_rg l_v31 u_v31) (mz_rg l_v32 u_v32) (fun c94_32 => ?_) (fun c94_32 => ?_)
              · skip
                refine mm_g 1 (pc1 := 102) (lo1 := [some (.ref 116), some (.ref q1), some (.ref q2), some (.int (Int32.ofInt v7)), some (.int (Int32.ofInt v21)), some (.int (Int32.ofInt v22)), some (.int (Int32.ofInt v30)), o24]) (st1 := [.int (Int32.ofInt 1), .int (Int32.ofInt v21)]) (H1 := mz_mk g25 x) rfl ?_
                refine mz_iadd_w rfl (fun v33 _ hwv33 => ?_)
                have l_v33 := hwv33.1
                have u_v33 := hwv33.2
                refine mm_g 2 (pc1 := 106) (lo1 := [some (.ref 116), some (.ref q1), some (.ref q2), some (.int (Int32.ofInt v7)), some (.int (Int32.ofInt v21)), some (.int (Int32.ofInt v22)), some (.int (Int32.ofInt v30)), some (.int (Int32.ofInt v33))]) (st1 := [.ref 116]) (H1 := mz_mk g25 x) rfl ?_
                refine mz_fgR (v := 117) rfl fd_2_9 (by decide) (sc_116 _) (rf_116_0 _ _ _) ?_
                refine mm_g 2 (pc1 := 112) (lo1 := [some (.ref 116), some (.ref q1), some (.ref q2), some (.int (Int32.ofInt v7)), some (.int (Int32.ofInt v21)), some (.int (Int32.ofInt v22)), some (.int (Int32.ofInt v30)), some (.int (Int32.ofInt v33))]) (st1 := [.int (Int32.ofInt 1), .int (Int32.ofInt v22), .ref 117]) (H1 := mz_mk g25 x) rfl ?_
                refine mz_iadd rfl ?_
                refine mm_g 3 (pc1 := 118) (lo1 := [some (.ref 116), some (.ref q1), some (.ref q2), some (.int (Int32.ofInt v7)), some (.int (Int32.ofInt v21)), some (.int (Int32.ofInt v22)), some (.int (Int32.ofInt v30)), some (.int (Int32.ofInt v33))]) (st1 := [.ref 116, .int (Int32.ofInt v30), .int (Int32.ofInt v33), .int (Int32.ofInt (v22 + 1)), .ref 117]) (H1 := mz_mk g25 x) rfl ?_
                refine mz_fgR (v := 117) rfl fd_2_9 (by decide) (sc_116 _) (rf_116_0 _ _ _) ?_
                refine mm_g 1 (pc1 := 123) (lo1 := [some (.ref 116), some (.ref q1), some (.ref q2), some (.int (Int32.ofInt v7)), some (.int (Int32.ofInt v21)), some (.int (Int32.ofInt v22)), some (.int (Int32.ofInt v30)), some (.int (Int32.ofInt v33))]) (st1 := [.int (Int32.ofInt v22), .ref 117, .int (Int32.ofInt v30), .int (Int32.ofInt v33), .int (Int32.ofInt (v22 + 1)), .ref 117]) (H1 := mz_mk g25 x) rfl ?_
                refine mz_cs rfl mt_2_25 (by decide) rfl (Nat.le_of_ble_eq_true rfl) (by omega) (c_X11_at (by omega) hx hIg25 (sh_117 _) (by decide) ba_117 (by omega) (by omega) (by omega) (by omega) (fun v34 l_v34 u_v34 => ⟨_, rfl, ?_⟩))
                show mm_W d mmX2_changes 126 [some (.ref 116), some (.ref q1), some (.ref q2), some (.int (Int32.ofInt v7)), some (.int (Int32.ofInt v21)), some (.int (Int32.ofInt v22)), some (.int (Int32.ofInt v30)), some (.int (Int32.ofInt v33))] [.int (Int32.ofInt v34), .int (Int32.ofInt v30), .int (Int32.ofInt v33), .int (Int32.ofInt (v22 + 1)), .ref 117] (mz_mk g25 x) Q
                refine mz_mn rfl mt_2_33 (Nat.le_of_ble_eq_true rfl) (by omega) (mz_rg l_v30 u_v30) (mz_rg l_v34 u_v34) (fun v35 e_v35 => ?_)
                have l_v35 : (-2147483648) ≤ v35 := by omega
                have u_v35 : v35 ≤ 2147483647 := by omega
                refine mm_g 1 (pc1 := 130) (lo1 := [some (.ref 116), some (.ref q1), some (.ref q2), some (.int (Int32.ofInt v7)), some (.int (Int32.ofInt v21)), some (.int (Int32.ofInt v22)), some (.int (Int32.ofInt v30)), some (.int (Int32.ofInt v33))]) (st1 := [.int (Int32.ofInt 1), .int (Int32.ofInt v35), .int (Int32.ofInt v33), .int (Int32.ofInt (v22 + 1)), .ref 117]) (H1 := mz_mk g25 x) rfl ?_
                refine mz_iadd_w rfl (fun v36 _ hwv36 => ?_)
                have l_v36 := hwv36.1
                have u_v36 := hwv36.2
                refine mz_mn rfl mt_2_33 (Nat.le_of_ble_eq_true rfl) (by omega) (mz_rg l_v33 u_v33) (mz_rg l_v36 u_v36) (fun v37 e_v37 => ?_)
                have l_v37 : (-2147483648) ≤ v37 := by omega
                have u_v37 : v37 ≤ 2147483647 := by omega
                refine mz_cs rfl mt_2_21 (by decide) rfl (Nat.le_of_ble_eq_true rfl) (by omega) (c_X11_put (by omega) hx hIg25 (sh_117 _) (by decide) ba_117 (by omega) (by omega) (by omega) (by omega) l_v37 u_v37 (by omega) (by omega) (fun g38 hIg38 hfg38 => ⟨_, rfl, ?_⟩))
                show mm_W d mmX2_changes 137 [some (.ref 116), some (.ref q1), some (.ref q2), some (.int (Int32.ofInt v7)), some (.int (Int32.ofInt v21)), some (.int (Int32.ofInt v22)), some (.int (Int32.ofInt v30)), some (.int (Int32.ofInt v33))] [] (mz_mk g38 x) Q
                refine mm_g 2 (pc1 := 141) (lo1 := [some (.ref 116), some (.ref q1), some (.ref q2), some (.int (Int32.ofInt v7)), some (.int (Int32.ofInt v30)), some (.int (Int32.ofInt v22)), some (.int (Int32.ofInt v30)), some (.int (Int32.ofInt v33))]) (st1 := []) (H1 := mz_mk g38 x) rfl ?_
                refine mz_iincR (v := v22) (lo2 := [some (.ref 116), some (.ref q1), some (.ref q2), some (.int (Int32.ofInt v7)), some (.int (Int32.ofInt v30)), some (.int (Int32.ofInt (v22 + 1))), some (.int (Int32.ofInt v30)), some (.int (Int32.ofInt v33))]) rfl rfl rfl (Nat.le_of_ble_eq_true rfl) rfl ?_
                refine mz_gt (tgt := 59) rfl rfl ?_
                exact ih26 ((16 - (v22 + 1)).toNat) (by omega) v30 (v22 + 1) (some (.int (Int32.ofInt v30))) (some (.int (Int32.ofInt v33))) g38 rfl (by omega) (by omega) (by omega) (by omega) (mz_nl_i _) (mz_nl_i _) hIg38 (fun k j hk => ((hfg38 k j (fun h => hk h)).trans (hfg25 k j (fun h => hk h))))
              · skip
                refine mm_g 1 (pc1 := 98) (lo1 := [some (.ref 116), some (.ref q1), some (.ref q2), some (.int (Int32.ofInt v7)), some (.int (Int32.ofInt v21)), some (.int (Int32.ofInt v22)), some (.int (Int32.ofInt v30)), o24]) (st1 := [.int (Int32.ofInt 0), .int (Int32.ofInt v21)]) (H1 := mz_mk g25 x) rfl ?_
                refine mz_gt (tgt := 102) rfl rfl ?_
                refine mz_iadd rfl ?_
                refine mm_g 2 (pc1 := 106) (lo1 := [some (.ref 116), some (.ref q1), some (.ref q2), some (.int (Int32.ofInt v7)), some (.int (Int32.ofInt v21)), some (.int (Int32.ofInt v22)), some (.int (Int32.ofInt v30)), some (.int (Int32.ofInt (v21 + 0)))]) (st1 := [.ref 116]) (H1 := mz_mk g25 x) rfl ?_
                refine mz_fgR (v := 117) rfl fd_2_9 (by decide) (sc_116 _) (rf_116_0 _ _ _) ?_
                refine mm_g 2 (pc1 := 112) (lo1 := [some (.ref 116), some (.ref q1), some (.ref q2), some (.int (Int32.ofInt v7)), some (.int (Int32.ofInt v21)), some (.int (Int32.ofInt v22)), some (.int (Int32.ofInt v30)), some (.int (Int32.ofInt (v21 + 0)))]) (st1 := [.int (Int32.ofInt 1), .int (Int32.ofInt v22), .ref 117]) (H1 := mz_mk g25 x) rfl ?_
                refine mz_iadd rfl ?_
                refine mm_g 3 (pc1 := 118) (lo1 := [some (.ref 116), some (.ref q1), some (.ref q2), some (.int (Int32.ofInt v7)), some (.int (Int32.ofInt v21)), some (.int (Int32.ofInt v22)), some (.int (Int32.ofInt v30)), some (.int (Int32.ofInt (v21 + 0)))]) (st1 := [.ref 116, .int (Int32.ofInt v30), .int (Int32.ofInt (v21 + 0)), .int (Int32.ofInt (v22 + 1)), .ref 117]) (H1 := mz_mk g25 x) rfl ?_
                refine mz_fgR (v := 117) rfl fd_2_9 (by decide) (sc_116 _) (rf_116_0 _ _ _) ?_
                refine mm_g 1 (pc1 := 123) (lo1 := [some (.ref 116), some (.ref q1), some (.ref q2), some (.int (Int32.ofInt v7)), some (.int (Int32.ofInt v21)), some (.int (Int32.ofInt v22)), some (.int (Int32.ofInt v30)), some (.int (Int32.ofInt (v21 + 0)))]) (st1 := [.int (Int32.ofInt v22), .ref 117, .int (Int32.ofInt v30), .int (Int32.ofInt (v21 + 0)), .int (Int32.ofInt (v22 + 1)), .ref 117]) (H1 := mz_mk g25 x) rfl ?_
                refine mz_cs rfl mt_2_25 (by decide) rfl (Nat.le_of_ble_eq_true rfl) (by omega) (c_X11_at (by omega) hx hIg25 (sh_117 _) (by decide) ba_117 (by omega) (by omega) (by omega) (by omega) (fun v39 l_v39 u_v39 => ⟨_, rfl, ?_⟩))
                show mm_W d mmX2_changes 126 [some (.ref 116), some (.ref q1), some (.ref q2), some (.int (Int32.ofInt v7)), some (.int (Int32.ofInt v21)), some (.int (Int32.ofInt v22)), some (.int (Int32.ofInt v30)), some (.int (Int32.ofInt (v21 + 0)))] [.int (Int32.ofInt v39), .int (Int32.ofInt v30), .int (Int32.ofInt (v21 + 0)), .int (Int32.ofInt (v22 + 1)), .ref 117] (mz_mk g25 x) Q
                refine mz_mn rfl mt_2_33 (Nat.le_of_ble_eq_true rfl) (by omega) (mz_rg l_v30 u_v30) (mz_rg l_v39 u_v39) (fun v40 e_v40 => ?_)
                have l_v40 : (-2147483648) ≤ v40 := by omega
                have u_v40 : v40 ≤ 2147483647 := by omega
                refine mm_g 1 (pc1 := 130) (lo1 := [some (.ref 116), some (.ref q1), some (.ref q2), some (.int (Int32.ofInt v7)), some (.int (Int32.ofInt v21)), some (.int (Int32.ofInt v22)), some (.int (Int32.ofInt v30)), some (.int (Int32.ofInt (v21 + 0)))]) (st1 := [.int (Int32.ofInt 1), .int (Int32.ofInt v40), .int (Int32.ofInt (v21 + 0)), .int (Int32.ofInt (v22 + 1)), .ref 117]) (H1 := mz_mk g25 x) rfl ?_
                refine mz_iadd_w rfl (fun v41 _ hwv41 => ?_)
                have l_v41 := hwv41.1
                have u_v41 := hwv41.2
                refine mz_mn rfl mt_2_33 (Nat.le_of_ble_eq_true rfl) (by omega) ⟨by omega, by omega⟩ (mz_rg l_v41 u_v41) (fun v42 e_v42 => ?_)
                have l_v42 : (-2147483648) ≤ v42 := by omega
                have u_v42 : v42 ≤ 2147483647 := by omega
                refine mz_cs rfl mt_2_21 (by decide) rfl (Nat.le_of_ble_eq_true rfl) (by omega) (c_X11_put (by omega) hx hIg25 (sh_117 _) (by decide) ba_117 (by omega) (by omega) (by omega) (by omega) l_v42 u_v42 (by omega) (by omega) (fun g43 hIg43 hfg43 => ⟨_, rfl, ?_⟩))
                show mm_W d mmX2_changes 137 [some (.ref 116), some (.ref q1), some (.ref q2), some (.int (Int32.ofInt v7)), some (.int (Int32.ofInt v21)), some (.int (Int32.ofInt v22)), some (.int (Int32.ofInt v30)), some (.int (Int32.ofInt (v21 + 0)))] [] (mz_mk g43 x) Q
                refine mm_g 2 (pc1 := 141) (lo1 := [some (.ref 116), some (.ref q1), some (.ref q2), some (.int (Int32.ofInt v7)), some (.int (Int32.ofInt v30)), some (.int (Int32.ofInt v22)), some (.int (Int32.ofInt v30)), some (.int (Int32.ofInt (v21 + 0)))]) (st1 := []) (H1 := mz_mk g43 x) rfl ?_
                refine mz_iincR (v := v22) (lo2 := [some (.ref 116), some (.ref q1), some (.ref q2), some (.int (Int32.ofInt v7)), some (.int (Int32.ofInt v30)), some (.int (Int32.ofInt (v22 + 1))), some (.int (Int32.ofInt v30)), some (.int (Int32.ofInt (v21 + 0)))]) rfl rfl rfl (Nat.le_of_ble_eq_true rfl) rfl ?_
                refine mz_gt (tgt := 59) rfl rfl ?_
                exact ih26 ((16 - (v22 + 1)).toNat) (by omega) v30 (v22 + 1) (some (.int (Int32.ofInt v30))) (some (.int (Int32.ofInt (v21 + 0)))) g43 rfl (by omega) (by omega) (by omega) (by omega) (mz_nl_i _) (mz_nl_i _) hIg43 (fun k j hk => ((hfg43 k j (fun h => hk h)).trans (hfg25 k j (fun h => hk h))))
          exact L28 _ v19 0 o10 o11 g20 rfl (by omega) (by omega) (by decide) (by decide) h_o10 h_o11 hIg20 (fun _ _ _ => rfl)
      exact L15 _ 0 none none none none g2 rfl (by decide) (by decide) mz_nl_n mz_nl_n mz_nl_n mz_nl_n hIg2 (fun _ _ _ => rfl)
    · skip
      refine mm_g 1 (pc1 := 11) (lo1 := [some (.ref 116), some (.ref q1), some (.ref q2), some (.int (Int32.ofInt v1)), none, none, none, none]) (st1 := [.ref 116]) (H1 := mz_mk g2 x) rfl ?_
      refine mz_fgR (v := 117) rfl fd_2_9 (by decide) (sc_116 _) (rf_116_0 _ _ _) ?_
      refine mm_g 2 (pc1 := 16) (lo1 := [some (.ref 116), some (.ref q1), some (.ref q2), some (.int (Int32.ofInt v1)), none, none, none, none]) (st1 := [.int (Int32.ofInt v1), .int (Int32.ofInt v1), .ref 117]) (H1 := mz_mk g2 x) rfl ?_
      refine mz_cs rfl mt_2_21 (by decide) rfl (Nat.le_of_ble_eq_true rfl) (by omega) (c_X11_put (by omega) hx hIg2 (sh_117 _) (by decide) ba_117 (by omega) (by omega) (by omega) (by omega) (by omega) (by omega) (by omega) (by omega) (fun g44 hIg44 hfg44 => ⟨_, rfl, ?_⟩))
      show mm_W d mmX2_changes 19 [some (.ref 116), some (.ref q1), some (.ref q2), some (.int (Int32.ofInt v1)), none, none, none, none] [] (mz_mk g44 x) Q
      refine mz_iincR (v := v1) (lo2 := [some (.ref 116), some (.ref q1), some (.ref q2), some (.int (Int32.ofInt (v1 + 1))), none, none, none, none]) rfl rfl rfl (Nat.le_of_ble_eq_true rfl) rfl ?_
      refine mz_gt (tgt := 2) rfl rfl ?_
      exact ih3 ((17 - (v1 + 1)).toNat) (by omega) (v1 + 1) g44 rfl (by omega) (by omega) hIg44 (fun k j hk => ((hfg44 k j (fun h => hk h)).trans (hfg2 k j (fun h => hk h))))
  exact L5 _ 0 g rfl (by decide) (by decide) hI (fun _ _ _ => rfl)
def fw_X3_setCost (x : mm_X) (a1 : Int) (a2 : Int) (a3 : Int) : Nat → Nat → Prop := fun k j => k = 119
theorem c_X3_setCost {d : Nat} (hd : 2 ≤ d) {x : mm_X} (hx : mk_x x) {g : mz_G} (hI : mz_inv g) {a1 : Int} (l_a1 : (-2147483648) ≤ a1) (u_a1 : a1 ≤ 2147483647) {a2 : Int} (l_a2 : (-2147483648) ≤ a2) (u_a2 : a2 ≤ 2147483647) {a3 : Int} (l_a3 : (-2147483648) ≤ a3) (u_a3 : a3 ≤ 2147483647) {Q : (Option Value ⊕ Nat) → mm_H → Prop} (hQ : ∀ (g1 : mz_G), mz_inv g1 → mz_fr (fw_X3_setCost x a1 a2 a3) g g1 → Q (.inl none) (mz_mk g1 x)) : mm_C d 28 [.ref 118, .int (Int32.ofInt a1), .int (Int32.ofInt a2), .int (Int32.ofInt a3)] (mz_mk g x) Q := by
  refine ⟨mmX3_setCost, [some (.ref 118), some (.int (Int32.ofInt a1)), some (.int (Int32.ofInt a2)), some (.int (Int32.ofInt a3))], rfl, rfl, ?_⟩
  refine mm_g 1 (pc1 := 1) (lo1 := [some (.ref 118), some (.int (Int32.ofInt a1)), some (.int (Int32.ofInt a2)), some (.int (Int32.ofInt a3))]) (st1 := [.ref 118]) (H1 := mz_mk g x) rfl ?_
  refine mz_fgR (v := 119) rfl fd_3_9 (by decide) (sc_118 _) (rf_118_0 _ _ _) ?_
  refine mm_g 1 (pc1 := 5) (lo1 := [some (.ref 118), some (.int (Int32.ofInt a1)), some (.int (Int32.ofInt a2)), some (.int (Int32.ofInt a3))]) (st1 := [.int (Int32.ofInt a1), .ref 119]) (H1 := mz_mk g x) rfl ?_
  refine mz_bip rfl bip_6 ?_
  refine mz_imul_w rfl (fun v1 _ hwv1 => ?_)
  have l_v1 := hwv1.1
  have u_v1 := hwv1.2
  refine mm_g 1 (pc1 := 9) (lo1 := [some (.ref 118), some (.int (Int32.ofInt a1)), some (.int (Int32.ofInt a2)), some (.int (Int32.ofInt a3))]) (st1 := [.int (Int32.ofInt a2), .int (Int32.ofInt v1), .ref 119]) (H1 := mz_mk g x) rfl ?_
  refine mz_iadd_w rfl (fun v2 _ hwv2 => ?_)
  have l_v2 := hwv2.1
  have u_v2 := hwv2.2
  refine mm_g 1 (pc1 := 11) (lo1 := [some (.ref 118), some (.int (Int32.ofInt a1)), some (.int (Int32.ofInt a2)), some (.int (Int32.ofInt a3))]) (st1 := [.int (Int32.ofInt a3), .int (Int32.ofInt v2), .ref 119]) (H1 := mz_mk g x) rfl ?_
  refine mz_cs rfl mt_3_25 (by decide) rfl (Nat.le_of_ble_eq_true rfl) (by omega) (c_X11_put (by omega) hx hI (sh_119 _) (by decide) ba_119 (by omega) (by omega) l_v2 u_v2 l_a3 u_a3 (by omega) (by omega) (fun g3 hIg3 hfg3 => ⟨_, rfl, ?_⟩))
  show mm_W d mmX3_setCost 14 [some (.ref 118), some (.int (Int32.ofInt a1)), some (.int (Int32.ofInt a2)), some (.int (Int32.ofInt a3))] [] (mz_mk g3 x) Q
  exact mm_rt rfl rfl (hQ _ hIg3 (fun k j hk => (hfg3 k j (fun h => hk h))))
theorem c_X11_lowestBit {d : Nat} (hd : 1 ≤ d) {x : mm_X} (hx : mk_x x) {g : mz_G} (hI : mz_inv g) {a1 : Int} (l_a1 : (-2147483648) ≤ a1) (u_a1 : a1 ≤ 2147483647) {Q : (Option Value ⊕ Nat) → mm_H → Prop} (hQ : ∀ (r : Int), 0 ≤ r → r ≤ 32 → Q (.inl (some (.int (Int32.ofInt r)))) (mz_mk g x)) : mm_C d 179 [.int (Int32.ofInt a1)] (mz_mk g x) Q := by
  have kx := kn_x hx
  refine ⟨mmX11_lowestBit, [some (.int (Int32.ofInt a1)), none], rfl, rfl, ?_⟩
  refine mm_g 2 (pc1 := 2) (lo1 := [some (.int (Int32.ofInt a1)), some (.int (Int32.ofInt 0))]) (st1 := []) (H1 := mz_mk g x) rfl ?_
  have L5 : ∀ n4 : Nat, ∀ (v1 : Int), (32 - v1).toNat = n4 → 0 ≤ v1 → v1 ≤ 32 → mm_W d mmX11_lowestBit 2 [some (.int (Int32.ofInt a1)), some (.int (Int32.ofInt v1))] [] (mz_mk g x) Q := by
    intro n4
    induction n4 using Nat.strongRecOn with
    | ind n4 ih3 =>
    intro v1 hmn4 l_v1 u_v1
    refine mm_g 1 (pc1 := 3) (lo1 := [some (.int (Int32.ofInt a1)), some (.int (Int32.ofInt v1))]) (st1 := [.int (Int32.ofInt v1)]) (H1 := mz_mk g x) rfl ?_
    refine mz_bip rfl bip_32 ?_
    refine mz_ic_ge (tgt := 22) rfl rfl (mz_rg l_v1 u_v1) ⟨by decide, by decide⟩ (fun c5_5 => ?_) (fun c5_5 => ?_)
    · skip
      refine mm_g 1 (pc1 := 23) (lo1 := [some (.int (Int32.ofInt a1)), some (.int (Int32.ofInt v1))]) (st1 := [.int (Int32.ofInt v1)]) (H1 := mz_mk g x) rfl ?_
      exact mm_rt rfl rfl (hQ _ (by omega) (by omega))
    · skip
      refine mm_g 3 (pc1 := 11) (lo1 := [some (.int (Int32.ofInt a1)), some (.int (Int32.ofInt v1))]) (st1 := [.int (Int32.ofInt v1), .int (Int32.ofInt 1), .int (Int32.ofInt a1)]) (H1 := mz_mk g x) rfl ?_
      refine mz_ishl rfl (fun v6 e_v6 hwv6 => ?_)
      have l_v6 := hwv6.1
      have u_v6 := hwv6.2
      refine mz_iand rfl (fun v7 e_v7 hwv7 => ?_)
      have l_v7 := hwv7.1
      have u_v7 := hwv7.2
      refine mz_if_ne (tgt := 22) rfl rfl (mz_rg l_v7 u_v7) (fun c13_7 => ?_) (fun c13_7 => ?_)
      · skip
        refine mm_g 1 (pc1 := 23) (lo1 := [some (.int (Int32.ofInt a1)), some (.int (Int32.ofInt v1))]) (st1 := [.int (Int32.ofInt v1)]) (H1 := mz_mk g x) rfl ?_
        exact mm_rt rfl rfl (hQ _ (by omega) (by omega))
      · skip
        refine mz_iincR (v := v1) (lo2 := [some (.int (Int32.ofInt a1)), some (.int (Int32.ofInt (v1 + 1)))]) rfl rfl rfl (Nat.le_of_ble_eq_true rfl) rfl ?_
        refine mz_gt (tgt := 2) rfl rfl ?_
        exact ih3 ((32 - (v1 + 1)).toNat) (by omega) (v1 + 1) rfl (by omega) (by omega)
  exact L5 _ 0 rfl (by decide) (by decide)
theorem c_J6_bitCount {d : Nat} (hd : 1 ≤ d) {x : mm_X} (hx : mk_x x) {g : mz_G} (hI : mz_inv g) {a1 : Int} (l_a1 : (-2147483648) ≤ a1) (u_a1 : a1 ≤ 2147483647) {Q : (Option Value ⊕ Nat) → mm_H → Prop} (hQ : ∀ (r : Int), 0 ≤ r → r ≤ 63 → Q (.inl (some (.int (Int32.ofInt r)))) (mz_mk g x)) : mm_C d 292 [.int (Int32.ofInt a1)] (mz_mk g x) Q := by
  refine ⟨mmJ6_bitCount, [some (.int (Int32.ofInt a1))], rfl, rfl, ?_⟩
  refine mm_g 3 (pc1 := 3) (lo1 := [some (.int (Int32.ofInt a1))]) (st1 := [.int (Int32.ofInt 1), .int (Int32.ofInt a1), .int (Int32.ofInt a1)]) (H1 := mz_mk g x) rfl ?_
  refine mz_iushr rfl (fun v1 e_v1 hwv1 => ?_)
  have l_v1 := hwv1.1
  have u_v1 := hwv1.2
  refine mz_ldcwI (c := 1431655765) rfl rfl rfl ?_
  refine mz_iand rfl (fun v2 e_v2 hwv2 => ?_)
  have b_v2 : 0 ≤ v2 ∧ v2 ≤ 1431655765 := by rw [e_v2]; exact mz_and_r (by omega) (by omega) (mz_rg l_v1 u_v1)
  have l_v2 := b_v2.1
  have u_v2 := b_v2.2
  refine mz_isub_w rfl (fun v3 _ hwv3 => ?_)
  have l_v3 := hwv3.1
  have u_v3 := hwv3.2
  refine mm_g 2 (pc1 := 11) (lo1 := [some (.int (Int32.ofInt v3))]) (st1 := [.int (Int32.ofInt v3)]) (H1 := mz_mk g x) rfl ?_
  refine mz_ldcwI (c := 858993459) rfl rfl rfl ?_
  refine mz_iand rfl (fun v4 e_v4 hwv4 => ?_)
  have b_v4 : 0 ≤ v4 ∧ v4 ≤ 858993459 := by rw [e_v4]; exact mz_and_r (by omega) (by omega) (mz_rg l_v3 u_v3)
  have l_v4 := b_v4.1
  have u_v4 := b_v4.2
  refine mm_g 2 (pc1 := 17) (lo1 := [some (.int (Int32.ofInt v3))]) (st1 := [.int (Int32.ofInt 2), .int (Int32.ofInt v3), .int (Int32.ofInt v4)]) (H1 := mz_mk g x) rfl ?_
  refine mz_iushr rfl (fun v5 e_v5 hwv5 => ?_)
  have l_v5 := hwv5.1
  have u_v5 := hwv5.2
  refine mz_ldcwI (c := 858993459) rfl rfl rfl ?_
  refine mz_iand rfl (fun v6 e_v6 hwv6 => ?_)
  have b_v6 : 0 ≤ v6 ∧ v6 ≤ 858993459 := by rw [e_v6]; exact mz_and_r (by omega) (by omega) (mz_rg l_v5 u_v5)
  have l_v6 := b_v6.1
  have u_v6 := b_v6.2
  refine mz_iadd rfl ?_
  refine mm_g 4 (pc1 := 27) (lo1 := [some (.int (Int32.ofInt (v4 + v6)))]) (st1 := [.int (Int32.ofInt 4), .int (Int32.ofInt (v4 + v6)), .int (Int32.ofInt (v4 + v6))]) (H1 := mz_mk g x) rfl ?_
  refine mz_iushr rfl (fun v7 e_v7 hwv7 => ?_)
  have l_v7 := hwv7.1
  have u_v7 := hwv7.2
  refine mz_iadd_w rfl (fun v8 _ hwv8 => ?_)
  have l_v8 := hwv8.1
  have u_v8 := hwv8.2
  refine mz_ldcwI (c := 252645135) rfl rfl rfl ?_
  refine mz_iand rfl (fun v9 e_v9 hwv9 => ?_)
  have b_v9 : 0 ≤ v9 ∧ v9 ≤ 252645135 := by rw [e_v9]; exact mz_and_r (by omega) (by omega) (mz_rg l_v8 u_v8)
  have l_v9 := b_v9.1
  have u_v9 := b_v9.2
  refine mm_g 3 (pc1 := 36) (lo1 := [some (.int (Int32.ofInt v9))]) (st1 := [.int (Int32.ofInt v9), .int (Int32.ofInt v9)]) (H1 := mz_mk g x) rfl ?_
  refine mz_bip rfl bip_8 ?_
  refine mz_iushr rfl (fun v10 e_v10 hwv10 => ?_)
  have l_v10 := hwv10.1
  have u_v10 := hwv10.2
  refine mz_iadd_w rfl (fun v11 _ hwv11 => ?_)
  have l_v11 := hwv11.1
  have u_v11 := hwv11.2
  refine mm_g 3 (pc1 := 43) (lo1 := [some (.int (Int32.ofInt v11))]) (st1 := [.int (Int32.ofInt v11), .int (Int32.ofInt v11)]) (H1 := mz_mk g x) rfl ?_
  refine mz_bip rfl bip_16 ?_
  refine mz_iushr rfl (fun v12 e_v12 hwv12 => ?_)
  have l_v12 := hwv12.1
  have u_v12 := hwv12.2
  refine mz_iadd_w rfl (fun v13 _ hwv13 => ?_)
  have l_v13 := hwv13.1
  have u_v13 := hwv13.2
  refine mm_g 2 (pc1 := 49) (lo1 := [some (.int (Int32.ofInt v13))]) (st1 := [.int (Int32.ofInt v13)]) (H1 := mz_mk g x) rfl ?_
  refine mz_bip rfl bip_63 ?_
  refine mz_iand rfl (fun v14 e_v14 hwv14 => ?_)
  have b_v14 : 0 ≤ v14 ∧ v14 ≤ 63 := by rw [e_v14]; exact mz_and_r (by omega) (by omega) (mz_rg l_v13 u_v13)
  have l_v14 := b_v14.1
  have u_v14 := b_v14.2
  exact mm_rt rfl rfl (hQ _ (by omega) (by omega))
theorem c_X3_withCouple {d : Nat} (hd : 2 ≤ d) {x : mm_X} (hx : mk_x x) {g : mz_G} (hI : mz_inv g) {a1 : Int} (l_a1 : (-2147483648) ≤ a1) (u_a1 : a1 ≤ 2147483647) {a2 : Int} (l_a2 : (-2147483648) ≤ a2) (u_a2 : a2 ≤ 2147483647) {a3 : Int} (l_a3 : (-2147483648) ≤ a3) (u_a3 : a3 ≤ 2147483647) {Q : (Option Value ⊕ Nat) → mm_H → Prop} (hQ : ∀ (r : Int), (-2147483648) ≤ r → r ≤ 2147483647 → Q (.inl (some (.int (Int32.ofInt r)))) (mz_mk g x)) : mm_C d 33 [.ref 118, .int (Int32.ofInt a1), .int (Int32.ofInt a2), .int (Int32.ofInt a3)] (mz_mk g x) Q := by
  refine ⟨mmX3_withCouple, [some (.ref 118), some (.int (Int32.ofInt a1)), some (.int (Int32.ofInt a2)), some (.int (Int32.ofInt a3))], rfl, rfl, ?_⟩
  refine mm_g 1 (pc1 := 1) (lo1 := [some (.ref 118), some (.int (Int32.ofInt a1)), some (.int (Int32.ofInt a2)), some (.int (Int32.ofInt a3))]) (st1 := [.ref 118]) (H1 := mz_mk g x) rfl ?_
  refine mz_fgR (v := 119) rfl fd_3_9 (by decide) (sc_118 _) (rf_118_0 _ _ _) ?_
  refine mm_g 1 (pc1 := 5) (lo1 := [some (.ref 118), some (.int (Int32.ofInt a1)), some (.int (Int32.ofInt a2)), some (.int (Int32.ofInt a3))]) (st1 := [.int (Int32.ofInt a1), .ref 119]) (H1 := mz_mk g x) rfl ?_
  refine mz_bip rfl bip_6 ?_
  refine mz_imul_w rfl (fun v1 _ hwv1 => ?_)
  have l_v1 := hwv1.1
  have u_v1 := hwv1.2
  refine mm_g 1 (pc1 := 9) (lo1 := [some (.ref 118), some (.int (Int32.ofInt a1)), some (.int (Int32.ofInt a2)), some (.int (Int32.ofInt a3))]) (st1 := [.int (Int32.ofInt a2), .int (Int32.ofInt v1), .ref 119]) (H1 := mz_mk g x) rfl ?_
  refine mz_iadd_w rfl (fun v2 _ hwv2 => ?_)
  have l_v2 := hwv2.1
  have u_v2 := hwv2.2
  refine mz_cs rfl mt_3_29 (by decide) rfl (Nat.le_of_ble_eq_true rfl) (by omega) (c_X11_at (by omega) hx hI (sh_119 _) (by decide) ba_119 (by omega) (by omega) l_v2 u_v2 (fun v3 l_v3 u_v3 => ⟨_, rfl, ?_⟩))
  show mm_W d mmX3_withCouple 13 [some (.ref 118), some (.int (Int32.ofInt a1)), some (.int (Int32.ofInt a2)), some (.int (Int32.ofInt a3))] [.int (Int32.ofInt v3)] (mz_mk g x) Q
  refine mm_g 1 (pc1 := 14) (lo1 := [some (.ref 118), some (.int (Int32.ofInt a1)), some (.int (Int32.ofInt a2)), some (.int (Int32.ofInt a3))]) (st1 := [.ref 118, .int (Int32.ofInt v3)]) (H1 := mz_mk g x) rfl ?_
  refine mz_fgR (v := 120) rfl fd_3_15 (by decide) (sc_118 _) (rf_118_1 _ _ _) ?_
  refine mm_g 3 (pc1 := 20) (lo1 := [some (.ref 118), some (.int (Int32.ofInt a1)), some (.int (Int32.ofInt a2)), some (.int (Int32.ofInt a3))]) (st1 := [.int (Int32.ofInt a2), .int (Int32.ofInt 1), .int (Int32.ofInt a3), .ref 120, .int (Int32.ofInt v3)]) (H1 := mz_mk g x) rfl ?_
  refine mz_ishl rfl (fun v4 e_v4 hwv4 => ?_)
  have l_v4 := hwv4.1
  have u_v4 := hwv4.2
  refine mm_g 1 (pc1 := 22) (lo1 := [some (.ref 118), some (.int (Int32.ofInt a1)), some (.int (Int32.ofInt a2)), some (.int (Int32.ofInt a3))]) (st1 := [.int (Int32.ofInt (-1)), .int (Int32.ofInt v4), .int (Int32.ofInt a3), .ref 120, .int (Int32.ofInt v3)]) (H1 := mz_mk g x) rfl ?_
  refine mz_ixor rfl (fun v5 e_v5 hwv5 => ?_)
  have l_v5 := hwv5.1
  have u_v5 := hwv5.2
  refine mz_iand rfl (fun v6 e_v6 hwv6 => ?_)
  have l_v6 := hwv6.1
  have u_v6 := hwv6.2
  refine mz_cs rfl mt_3_29 (by decide) rfl (Nat.le_of_ble_eq_true rfl) (by omega) (c_X11_at (by omega) hx hI (sh_120 _) (by decide) ba_120 (by omega) (by omega) l_v6 u_v6 (fun v7 l_v7 u_v7 => ⟨_, rfl, ?_⟩))
  show mm_W d mmX3_withCouple 27 [some (.ref 118), some (.int (Int32.ofInt a1)), some (.int (Int32.ofInt a2)), some (.int (Int32.ofInt a3))] [.int (Int32.ofInt v7), .int (Int32.ofInt v3)] (mz_mk g x) Q
  refine mz_iadd_w rfl (fun v8 _ hwv8 => ?_)
  have l_v8 := hwv8.1
  have u_v8 := hwv8.2
  exact mm_rt rfl rfl (hQ _ (by omega) (by omega))
theorem c_X3_fewestOf {d : Nat} (hd : 12 ≤ d) {x : mm_X} (hx : mk_x x) {g : mz_G} (hI : mz_inv g) {a1 : Int} (l_a1 : (-2147483648) ≤ a1) (u_a1 : a1 ≤ 2147483647) {a2 : Int} (l_a2 : (-2147483648) ≤ a2) (u_a2 : a2 ≤ 2147483647) {Q : (Option Value ⊕ Nat) → mm_H → Prop} (hQ : ∀ (r : Int), (-2147483648) ≤ r → r ≤ 2147483647 → Q (.inl (some (.int (Int32.ofInt r)))) (mz_mk g x)) : mm_C d 32 [.ref 118, .int (Int32.ofInt a1), .int (Int32.ofInt a2)] (mz_mk g x) Q := by
  refine ⟨mmX3_fewestOf, [some (.ref 118), some (.int (Int32.ofInt a1)), some (.int (Int32.ofInt a2)), none, none, none, none], rfl, rfl, ?_⟩
  refine mm_g 1 (pc1 := 1) (lo1 := [some (.ref 118), some (.int (Int32.ofInt a1)), some (.int (Int32.ofInt a2)), none, none, none, none]) (st1 := [.int (Int32.ofInt a1)]) (H1 := mz_mk g x) rfl ?_
  refine mz_cs rfl mt_3_41 (by decide) rfl (Nat.le_of_ble_eq_true rfl) (by omega) (c_X11_lowestBit (by omega) hx hI l_a1 u_a1 (fun v1 l_v1 u_v1 => ⟨_, rfl, ?_⟩))
  show mm_W d mmX3_fewestOf 4 [some (.ref 118), some (.int (Int32.ofInt a1)), some (.int (Int32.ofInt a2)), none, none, none, none] [.int (Int32.ofInt v1)] (mz_mk g x) Q
  refine mm_g 4 (pc1 := 8) (lo1 := [some (.ref 118), some (.int (Int32.ofInt a1)), some (.int (Int32.ofInt a2)), some (.int (Int32.ofInt v1)), none, none, none]) (st1 := [.int (Int32.ofInt v1), .int (Int32.ofInt 1), .int (Int32.ofInt a1)]) (H1 := mz_mk g x) rfl ?_
  refine mz_ishl rfl (fun v2 e_v2 hwv2 => ?_)
  have l_v2 := hwv2.1
  have u_v2 := hwv2.2
  refine mm_g 1 (pc1 := 10) (lo1 := [some (.ref 118), some (.int (Int32.ofInt a1)), some (.int (Int32.ofInt a2)), some (.int (Int32.ofInt v1)), none, none, none]) (st1 := [.int (Int32.ofInt (-1)), .int (Int32.ofInt v2), .int (Int32.ofInt a1)]) (H1 := mz_mk g x) rfl ?_
  refine mz_ixor rfl (fun v3 e_v3 hwv3 => ?_)
  have l_v3 := hwv3.1
  have u_v3 := hwv3.2
  refine mz_iand rfl (fun v4 e_v4 hwv4 => ?_)
  have l_v4 := hwv4.1
  have u_v4 := hwv4.2
  refine mm_g 2 (pc1 := 15) (lo1 := [some (.ref 118), some (.int (Int32.ofInt a1)), some (.int (Int32.ofInt a2)), some (.int (Int32.ofInt v1)), some (.int (Int32.ofInt v4)), none, none]) (st1 := [.int (Int32.ofInt a1)]) (H1 := mz_mk g x) rfl ?_
  refine mz_cs rfl mt_3_45 (by decide) rfl (Nat.le_of_ble_eq_true rfl) (by omega) (c_J6_bitCount (by omega) hx hI l_a1 u_a1 (fun v5 l_v5 u_v5 => ⟨_, rfl, ?_⟩))
  show mm_W d mmX3_fewestOf 18 [some (.ref 118), some (.int (Int32.ofInt a1)), some (.int (Int32.ofInt a2)), some (.int (Int32.ofInt v1)), some (.int (Int32.ofInt v4)), none, none] [.int (Int32.ofInt v5)] (mz_mk g x) Q
  refine mm_g 1 (pc1 := 19) (lo1 := [some (.ref 118), some (.int (Int32.ofInt a1)), some (.int (Int32.ofInt a2)), some (.int (Int32.ofInt v1)), some (.int (Int32.ofInt v4)), none, none]) (st1 := [.int (Int32.ofInt 2), .int (Int32.ofInt v5)]) (H1 := mz_mk g x) rfl ?_
  refine mz_iremq rfl (mz_rg l_v5 u_v5) ⟨by decide, by decide⟩ (by omega) (by omega) (fun v6 e_v6 l_v6 w_v6 z_v6 => ?_)
  have u_v6 : v6 ≤ 1 := by omega
  refine mm_g 1 (pc1 := 21) (lo1 := [some (.ref 118), some (.int (Int32.ofInt a1)), some (.int (Int32.ofInt a2)), some (.int (Int32.ofInt v1)), some (.int (Int32.ofInt v4)), none, none]) (st1 := [.int (Int32.ofInt 1), .int (Int32.ofInt v6)]) (H1 := mz_mk g x) rfl ?_
  refine mz_ic_ne (tgt := 36) rfl rfl (mz_rg l_v6 u_v6) ⟨by decide, by decide⟩ (fun c21_6 => ?_) (fun c21_6 => ?_)
  · skip
    refine mz_ldcI (c := 2147483647) rfl rfl rfl ?_
    refine mm_g 3 (pc1 := 42) (lo1 := [some (.ref 118), some (.int (Int32.ofInt a1)), some (.int (Int32.ofInt a2)), some (.int (Int32.ofInt v1)), some (.int (Int32.ofInt v4)), some (.int (Int32.ofInt 2147483647)), none]) (st1 := [.int (Int32.ofInt 1), .int (Int32.ofInt v1)]) (H1 := mz_mk g x) rfl ?_
    refine mz_iadd rfl ?_
    refine mm_g 1 (pc1 := 45) (lo1 := [some (.ref 118), some (.int (Int32.ofInt a1)), some (.int (Int32.ofInt a2)), some (.int (Int32.ofInt v1)), some (.int (Int32.ofInt v4)), some (.int (Int32.ofInt 2147483647)), some (.int (Int32.ofInt (v1 + 1)))]) (st1 := []) (H1 := mz_mk g x) rfl ?_
    have L12 : ∀ n11 : Nat, ∀ (v7 : Int) (v8 : Int), (2147483647 - v8).toNat = n11 → (-2147483648) ≤ v7 → v7 ≤ 2147483647 → 1 ≤ v8 → v8 ≤ 2147483647 → mm_W d mmX3_fewestOf 45 [some (.ref 118), some (.int (Int32.ofInt a1)), some (.int (Int32.ofInt a2)), some (.int (Int32.ofInt v1)), some (.int (Int32.ofInt v4)), some (.int (Int32.ofInt v7)), some (.int (Int32.ofInt v8))] [] (mz_mk g x) Q := by
      intro n11
      induction n11 using Nat.strongRecOn with
      | ind n11 ih10 =>
      intro v7 v8 hmn11 l_v7 u_v7 l_v8 u_v8
      refine mm_g 2 (pc1 := 48) (lo1 := [some (.ref 118), some (.int (Int32.ofInt a1)), some (.int (Int32.ofInt a2)), some (.int (Int32.ofInt v1)), some (.int (Int32.ofInt v4)), some (.int (Int32.ofInt v7)), some (.int (Int32.ofInt v8))]) (st1 := [.int (Int32.ofInt a2), .int (Int32.ofInt v8)]) (H1 := mz_mk g x) rfl ?_
      refine mz_ic_ge (tgt := 83) rfl rfl (mz_rg l_v8 u_v8) (mz_rg l_a2 u_a2) (fun c48_12 => ?_) (fun c48_12 => ?_)
      · skip
        refine mm_g 1 (pc1 := 85) (lo1 := [some (.ref 118), some (.int (Int32.ofInt a1)), some (.int (Int32.ofInt a2)), some (.int (Int32.ofInt v1)), some (.int (Int32.ofInt v4)), some (.int (Int32.ofInt v7)), some (.int (Int32.ofInt v8))]) (st1 := [.int (Int32.ofInt v7)]) (H1 := mz_mk g x) rfl ?_
        exact mm_rt rfl rfl (hQ _ (by omega) (by omega))
      · skip
        refine mm_g 3 (pc1 := 56) (lo1 := [some (.ref 118), some (.int (Int32.ofInt a1)), some (.int (Int32.ofInt a2)), some (.int (Int32.ofInt v1)), some (.int (Int32.ofInt v4)), some (.int (Int32.ofInt v7)), some (.int (Int32.ofInt v8))]) (st1 := [.int (Int32.ofInt v8), .int (Int32.ofInt 1), .int (Int32.ofInt v4)]) (H1 := mz_mk g x) rfl ?_
        refine mz_ishl rfl (fun v13 e_v13 hwv13 => ?_)
        have l_v13 := hwv13.1
        have u_v13 := hwv13.2
        refine mz_iand rfl (fun v14 e_v14 hwv14 => ?_)
        have l_v14 := hwv14.1
        have u_v14 := hwv14.2
        refine mz_if_eq (tgt := 77) rfl rfl (mz_rg l_v14 u_v14) (fun c58_14 => ?_) (fun c58_14 => ?_)
        · skip
          refine mz_iincR (v := v8) (lo2 := [some (.ref 118), some (.int (Int32.ofInt a1)), some (.int (Int32.ofInt a2)), some (.int (Int32.ofInt v1)), some (.int (Int32.ofInt v4)), some (.int (Int32.ofInt v7)), some (.int (Int32.ofInt (v8 + 1)))]) rfl rfl rfl (Nat.le_of_ble_eq_true rfl) rfl ?_
          refine mz_gt (tgt := 45) rfl rfl ?_
          exact ih10 ((2147483647 - (v8 + 1)).toNat) (by omega) v7 (v8 + 1) rfl (by omega) (by omega) (by omega) (by omega)
        · skip
          refine mm_g 5 (pc1 := 69) (lo1 := [some (.ref 118), some (.int (Int32.ofInt a1)), some (.int (Int32.ofInt a2)), some (.int (Int32.ofInt v1)), some (.int (Int32.ofInt v4)), some (.int (Int32.ofInt v7)), some (.int (Int32.ofInt v8))]) (st1 := [.int (Int32.ofInt v4), .int (Int32.ofInt v8), .int (Int32.ofInt v1), .ref 118, .int (Int32.ofInt v7)]) (H1 := mz_mk g x) rfl ?_
          refine mz_cv rfl mt_3_51 (by decide) (sc_118 _) rfl (Nat.le_of_ble_eq_true rfl) (by omega) (c_X3_withCouple (by omega) hx hI (by omega) (by omega) (by omega) (by omega) l_v4 u_v4 (fun v15 l_v15 u_v15 => ⟨_, rfl, ?_⟩))
          show mm_W d mmX3_fewestOf 72 [some (.ref 118), some (.int (Int32.ofInt a1)), some (.int (Int32.ofInt a2)), some (.int (Int32.ofInt v1)), some (.int (Int32.ofInt v4)), some (.int (Int32.ofInt v7)), some (.int (Int32.ofInt v8))] [.int (Int32.ofInt v15), .int (Int32.ofInt v7)] (mz_mk g x) Q
          refine mz_mn rfl mt_3_55 (Nat.le_of_ble_eq_true rfl) (by omega) (mz_rg l_v7 u_v7) (mz_rg l_v15 u_v15) (fun v16 e_v16 => ?_)
          have l_v16 : (-2147483648) ≤ v16 := by omega
          have u_v16 : v16 ≤ 2147483647 := by omega
          refine mm_g 1 (pc1 := 77) (lo1 := [some (.ref 118), some (.int (Int32.ofInt a1)), some (.int (Int32.ofInt a2)), some (.int (Int32.ofInt v1)), some (.int (Int32.ofInt v4)), some (.int (Int32.ofInt v16)), some (.int (Int32.ofInt v8))]) (st1 := []) (H1 := mz_mk g x) rfl ?_
          refine mz_iincR (v := v8) (lo2 := [some (.ref 118), some (.int (Int32.ofInt a1)), some (.int (Int32.ofInt a2)), some (.int (Int32.ofInt v1)), some (.int (Int32.ofInt v4)), some (.int (Int32.ofInt v16)), some (.int (Int32.ofInt (v8 + 1)))]) rfl rfl rfl (Nat.le_of_ble_eq_true rfl) rfl ?_
          refine mz_gt (tgt := 45) rfl rfl ?_
          exact ih10 ((2147483647 - (v8 + 1)).toNat) (by omega) v16 (v8 + 1) rfl (by omega) (by omega) (by omega) (by omega)
    exact L12 _ 2147483647 (v1 + 1) rfl (by decide) (by decide) (by omega) (by omega)
  · skip
    refine mm_g 1 (pc1 := 25) (lo1 := [some (.ref 118), some (.int (Int32.ofInt a1)), some (.int (Int32.ofInt a2)), some (.int (Int32.ofInt v1)), some (.int (Int32.ofInt v4)), none, none]) (st1 := [.ref 118]) (H1 := mz_mk g x) rfl ?_
    refine mz_fgR (v := 120) rfl fd_3_15 (by decide) (sc_118 _) (rf_118_1 _ _ _) ?_
    refine mm_g 1 (pc1 := 30) (lo1 := [some (.ref 118), some (.int (Int32.ofInt a1)), some (.int (Int32.ofInt a2)), some (.int (Int32.ofInt v1)), some (.int (Int32.ofInt v4)), none, none]) (st1 := [.int (Int32.ofInt v4), .ref 120]) (H1 := mz_mk g x) rfl ?_
    refine mz_cs rfl mt_3_29 (by decide) rfl (Nat.le_of_ble_eq_true rfl) (by omega) (c_X11_at (by omega) hx hI (sh_120 _) (by decide) ba_120 (by omega) (by omega) l_v4 u_v4 (fun v17 l_v17 u_v17 => ⟨_, rfl, ?_⟩))
    show mm_W d mmX3_fewestOf 33 [some (.ref 118), some (.int (Int32.ofInt a1)), some (.int (Int32.ofInt a2)), some (.int (Int32.ofInt v1)), some (.int (Int32.ofInt v4)), none, none] [.int (Int32.ofInt v17)] (mz_mk g x) Q
    refine mz_gt (tgt := 38) rfl rfl ?_
    refine mm_g 3 (pc1 := 42) (lo1 := [some (.ref 118), some (.int (Int32.ofInt a1)), some (.int (Int32.ofInt a2)), some (.int (Int32.ofInt v1)), some (.int (Int32.ofInt v4)), some (.int (Int32.ofInt v17)), none]) (st1 := [.int (Int32.ofInt 1), .int (Int32.ofInt v1)]) (H1 := mz_mk g x) rfl ?_
    refine mz_iadd rfl ?_
    refine mm_g 1 (pc1 := 45) (lo1 := [some (.ref 118), some (.int (Int32.ofInt a1)), some (.int (Int32.ofInt a2)), some (.int (Int32.ofInt v1)), some (.int (Int32.ofInt v4)), some (.int (Int32.ofInt v17)), some (.int (Int32.ofInt (v1 + 1)))]) (st1 := []) (H1 := mz_mk g x) rfl ?_
    have L23 : ∀ n22 : Nat, ∀ (v18 : Int) (v19 : Int), (2147483647 - v19).toNat = n22 → (-2147483648) ≤ v18 → v18 ≤ 2147483647 → 1 ≤ v19 → v19 ≤ 2147483647 → mm_W d mmX3_fewestOf 45 [some (.ref 118), some (.int (Int32.ofInt a1)), some (.int (Int32.ofInt a2)), some (.int (Int32.ofInt v1)), some (.int (Int32.ofInt v4)), some (.int (Int32.ofInt v18)), some (.int (Int32.ofInt v19))] [] (mz_mk g x) Q := by
      intro n22
      induction n22 using Nat.strongRecOn with
      | ind n22 ih21 =>
      intro v18 v19 hmn22 l_v18 u_v18 l_v19 u_v19
      refine mm_g 2 (pc1 := 48) (lo1 := [some (.ref 118), some (.int (Int32.ofInt a1)), some (.int (Int32.ofInt a2)), some (.int (Int32.ofInt v1)), some (.int (Int32.ofInt v4)), some (.int (Int32.ofInt v18)), some (.int (Int32.ofInt v19))]) (st1 := [.int (Int32.ofInt a2), .int (Int32.ofInt v19)]) (H1 := mz_mk g x) rfl ?_
      refine mz_ic_ge (tgt := 83) rfl rfl (mz_rg l_v19 u_v19) (mz_rg l_a2 u_a2) (fun c48_23 => ?_) (fun c48_23 => ?_)
      · skip
        refine mm_g 1 (pc1 := 85) (lo1 := [some (.ref 118), some (.int (Int32.ofInt a1)), some (.int (Int32.ofInt a2)), some (.int (Int32.ofInt v1)), some (.int (Int32.ofInt v4)), some (.int (Int32.ofInt v18)), some (.int (Int32.ofInt v19))]) (st1 := [.int (Int32.ofInt v18)]) (H1 := mz_mk g x) rfl ?_
        exact mm_rt rfl rfl (hQ _ (by omega) (by omega))
      · skip
        refine mm_g 3 (pc1 := 56) (lo1 := [some (.ref 118), some (.int (Int32.ofInt a1)), some (.int (Int32.ofInt a2)), some (.int (Int32.ofInt v1)), some (.int (Int32.ofInt v4)), some (.int (Int32.ofInt v18)), some (.int (Int32.ofInt v19))]) (st1 := [.int (Int32.ofInt v19), .int (Int32.ofInt 1), .int (Int32.ofInt v4)]) (H1 := mz_mk g x) rfl ?_
        refine mz_ishl rfl (fun v24 e_v24 hwv24 => ?_)
        have l_v24 := hwv24.1
        have u_v24 := hwv24.2
        refine mz_iand rfl (fun v25 e_v25 hwv25 => ?_)
        have l_v25 := hwv25.1
        have u_v25 := hwv25.2
        refine mz_if_eq (tgt := 77) rfl rfl (mz_rg l_v25 u_v25) (fun c58_25 => ?_) (fun c58_25 => ?_)
        · skip
          refine mz_iincR (v := v19) (lo2 := [some (.ref 118), some (.int (Int32.ofInt a1)), some (.int (Int32.ofInt a2)), some (.int (Int32.ofInt v1)), some (.int (Int32.ofInt v4)), some (.int (Int32.ofInt v18)), some (.int (Int32.ofInt (v19 + 1)))]) rfl rfl rfl (Nat.le_of_ble_eq_true rfl) rfl ?_
          refine mz_gt (tgt := 45) rfl rfl ?_
          exact ih21 ((2147483647 - (v19 + 1)).toNat) (by omega) v18 (v19 + 1) rfl (by omega) (by omega) (by omega) (by omega)
        · skip
          refine mm_g 5 (pc1 := 69) (lo1 := [some (.ref 118), some (.int (Int32.ofInt a1)), some (.int (Int32.ofInt a2)), some (.int (Int32.ofInt v1)), some (.int (Int32.ofInt v4)), some (.int (Int32.ofInt v18)), some (.int (Int32.ofInt v19))]) (st1 := [.int (Int32.ofInt v4), .int (Int32.ofInt v19), .int (Int32.ofInt v1), .ref 118, .int (Int32.ofInt v18)]) (H1 := mz_mk g x) rfl ?_
          refine mz_cv rfl mt_3_51 (by decide) (sc_118 _) rfl (Nat.le_of_ble_eq_true rfl) (by omega) (c_X3_withCouple (by omega) hx hI (by omega) (by omega) (by omega) (by omega) l_v4 u_v4 (fun v26 l_v26 u_v26 => ⟨_, rfl, ?_⟩))
          show mm_W d mmX3_fewestOf 72 [some (.ref 118), some (.int (Int32.ofInt a1)), some (.int (Int32.ofInt a2)), some (.int (Int32.ofInt v1)), some (.int (Int32.ofInt v4)), some (.int (Int32.ofInt v18)), some (.int (Int32.ofInt v19))] [.int (Int32.ofInt v26), .int (Int32.ofInt v18)] (mz_mk g x) Q
          refine mz_mn rfl mt_3_55 (Nat.le_of_ble_eq_true rfl) (by omega) (mz_rg l_v18 u_v18) (mz_rg l_v26 u_v26) (fun v27 e_v27 => ?_)
          have l_v27 : (-2147483648) ≤ v27 := by omega
          have u_v27 : v27 ≤ 2147483647 := by omega
          refine mm_g 1 (pc1 := 77) (lo1 := [some (.ref 118), some (.int (Int32.ofInt a1)), some (.int (Int32.ofInt a2)), some (.int (Int32.ofInt v1)), some (.int (Int32.ofInt v4)), some (.int (Int32.ofInt v27)), some (.int (Int32.ofInt v19))]) (st1 := []) (H1 := mz_mk g x) rfl ?_
          refine mz_iincR (v := v19) (lo2 := [some (.ref 118), some (.int (Int32.ofInt a1)), some (.int (Int32.ofInt a2)), some (.int (Int32.ofInt v1)), some (.int (Int32.ofInt v4)), some (.int (Int32.ofInt v27)), some (.int (Int32.ofInt (v19 + 1)))]) rfl rfl rfl (Nat.le_of_ble_eq_true rfl) rfl ?_
          refine mz_gt (tgt := 45) rfl rfl ?_
          exact ih21 ((2147483647 - (v19 + 1)).toNat) (by omega) v27 (v19 + 1) rfl (by omega) (by omega) (by omega) (by omega)
    exact L23 _ v17 (v1 + 1) rfl (by omega) (by omega) (by omega) (by omega)
def fl_X3_choosePartners_5 (x : mm_X) (a1 : Int) (a2 : Int) : Nat → Nat → Prop := fun k j => k = 121
def fw_X3_choosePartners (x : mm_X) (a1 : Int) (a2 : Int) : Nat → Nat → Prop := fun k j => k = 121
theorem c_X3_choosePartners {d : Nat} (hd : 3 ≤ d) {x : mm_X} (hx : mk_x x) {g : mz_G} (hI : mz_inv g) {a1 : Int} (l_a1 : (-2147483648) ≤ a1) (u_a1 : a1 ≤ 2147483647) {a2 : Int} (l_a2 : (-2147483648) ≤ a2) (u_a2 : a2 ≤ 2147483647) {Q : (Option Value ⊕ Nat) → mm_H → Prop} (hQ : ∀ (g1 : mz_G), mz_inv g1 → mz_fr (fw_X3_choosePartners x a1 a2) g g1 → Q (.inl none) (mz_mk g1 x)) : mm_C d 34 [.ref 118, .int (Int32.ofInt a1), .int (Int32.ofInt a2)] (mz_mk g x) Q := by
  refine ⟨mmX3_choosePartners, [some (.ref 118), some (.int (Int32.ofInt a1)), some (.int (Int32.ofInt a2)), none, none, none, none], rfl, rfl, ?_⟩
  refine mm_g 4 (pc1 := 5) (lo1 := [some (.ref 118), some (.int (Int32.ofInt a1)), some (.int (Int32.ofInt a2)), some (.int (Int32.ofInt a1)), some (.int (Int32.ofInt 0)), none, none]) (st1 := []) (H1 := mz_mk g x) rfl ?_
  have L8 : ∀ n7 : Nat, ∀ (v1 : Int) (v2 : Int) (o3 : Option Value) (o4 : Option Value) (g5 : mz_G), (2147483647 - v2).toNat = n7 → (-2147483648) ≤ v1 → v1 ≤ 2147483647 → 0 ≤ v2 → v2 ≤ 2147483647 → mz_nl o3 → mz_nl o4 → mz_inv g5 → mz_fr (fl_X3_choosePartners_5 x a1 a2) g g5 → mm_W d mmX3_choosePartners 5 [some (.ref 118), some (.int (Int32.ofInt a1)), some (.int (Int32.ofInt a2)), some (.int (Int32.ofInt v1)), some (.int (Int32.ofInt v2)), o3, o4] [] (mz_mk g5 x) Q := by
    intro n7
    induction n7 using Nat.strongRecOn with
    | ind n7 ih6 =>
    intro v1 v2 o3 o4 g5 hmn7 l_v1 u_v1 l_v2 u_v2 h_o3 h_o4 hIg5 hfg5
    refine mm_g 2 (pc1 := 8) (lo1 := [some (.ref 118), some (.int (Int32.ofInt a1)), some (.int (Int32.ofInt a2)), some (.int (Int32.ofInt v1)), some (.int (Int32.ofInt v2)), o3, o4]) (st1 := [.int (Int32.ofInt a2), .int (Int32.ofInt v2)]) (H1 := mz_mk g5 x) rfl ?_
    refine mz_ic_ge (tgt := 140) rfl rfl (mz_rg l_v2 u_v2) (mz_rg l_a2 u_a2) (fun c8_8 => ?_) (fun c8_8 => ?_)
    · skip
      exact mm_rt rfl rfl (hQ _ hIg5 (fun k j hk => (hfg5 k j (fun h => hk h))))
    · skip
      refine mm_g 3 (pc1 := 15) (lo1 := [some (.ref 118), some (.int (Int32.ofInt a1)), some (.int (Int32.ofInt a2)), some (.int (Int32.ofInt v1)), some (.int (Int32.ofInt v2)), o3, o4]) (st1 := [.int (Int32.ofInt v2), .int (Int32.ofInt 1), .int (Int32.ofInt v1)]) (H1 := mz_mk g5 x) rfl ?_
      refine mz_ishl rfl (fun v9 e_v9 hwv9 => ?_)
      have l_v9 := hwv9.1
      have u_v9 := hwv9.2
      refine mz_iand rfl (fun v10 e_v10 hwv10 => ?_)
      have l_v10 := hwv10.1
      have u_v10 := hwv10.2
      refine mz_if_ne (tgt := 23) rfl rfl (mz_rg l_v10 u_v10) (fun c17_10 => ?_) (fun c17_10 => ?_)
      · skip
        refine mm_g 3 (pc1 := 27) (lo1 := [some (.ref 118), some (.int (Int32.ofInt a1)), some (.int (Int32.ofInt a2)), some (.int (Int32.ofInt v1)), some (.int (Int32.ofInt v2)), o3, o4]) (st1 := [.int (Int32.ofInt v2), .int (Int32.ofInt 1), .int (Int32.ofInt v1)]) (H1 := mz_mk g5 x) rfl ?_
        refine mz_ishl rfl (fun v11 e_v11 hwv11 => ?_)
        have l_v11 := hwv11.1
        have u_v11 := hwv11.2
        refine mm_g 1 (pc1 := 29) (lo1 := [some (.ref 118), some (.int (Int32.ofInt a1)), some (.int (Int32.ofInt a2)), some (.int (Int32.ofInt v1)), some (.int (Int32.ofInt v2)), o3, o4]) (st1 := [.int (Int32.ofInt (-1)), .int (Int32.ofInt v11), .int (Int32.ofInt v1)]) (H1 := mz_mk g5 x) rfl ?_
        refine mz_ixor rfl (fun v12 e_v12 hwv12 => ?_)
        have l_v12 := hwv12.1
        have u_v12 := hwv12.2
        refine mz_iand rfl (fun v13 e_v13 hwv13 => ?_)
        have l_v13 := hwv13.1
        have u_v13 := hwv13.2
        refine mm_g 3 (pc1 := 36) (lo1 := [some (.ref 118), some (.int (Int32.ofInt a1)), some (.int (Int32.ofInt a2)), some (.int (Int32.ofInt v1)), some (.int (Int32.ofInt v2)), some (.int (Int32.ofInt v13)), o4]) (st1 := [.int (Int32.ofInt 1), .int (Int32.ofInt v2)]) (H1 := mz_mk g5 x) rfl ?_
        refine mz_iadd rfl ?_
        refine mm_g 1 (pc1 := 39) (lo1 := [some (.ref 118), some (.int (Int32.ofInt a1)), some (.int (Int32.ofInt a2)), some (.int (Int32.ofInt v1)), some (.int (Int32.ofInt v2)), some (.int (Int32.ofInt v13)), some (.int (Int32.ofInt (v2 + 1)))]) (st1 := []) (H1 := mz_mk g5 x) rfl ?_
        have L18 : ∀ n17 : Nat, ∀ (v14 : Int), (2147483647 - v14).toNat = n17 → 1 ≤ v14 → v14 ≤ 2147483647 → mm_W d mmX3_choosePartners 39 [some (.ref 118), some (.int (Int32.ofInt a1)), some (.int (Int32.ofInt a2)), some (.int (Int32.ofInt v1)), some (.int (Int32.ofInt v2)), some (.int (Int32.ofInt v13)), some (.int (Int32.ofInt v14))] [] (mz_mk g5 x) Q := by
          intro n17
          induction n17 using Nat.strongRecOn with
          | ind n17 ih16 =>
          intro v14 hmn17 l_v14 u_v14
          refine mm_g 2 (pc1 := 42) (lo1 := [some (.ref 118), some (.int (Int32.ofInt a1)), some (.int (Int32.ofInt a2)), some (.int (Int32.ofInt v1)), some (.int (Int32.ofInt v2)), some (.int (Int32.ofInt v13)), some (.int (Int32.ofInt v14))]) (st1 := [.int (Int32.ofInt a2), .int (Int32.ofInt v14)]) (H1 := mz_mk g5 x) rfl ?_
          refine mz_ic_ge (tgt := 82) rfl rfl (mz_rg l_v14 u_v14) (mz_rg l_a2 u_a2) (fun c42_18 => ?_) (fun c42_18 => ?_)
          · skip
            refine mm_g 1 (pc1 := 83) (lo1 := [some (.ref 118), some (.int (Int32.ofInt a1)), some (.int (Int32.ofInt a2)), some (.int (Int32.ofInt v1)), some (.int (Int32.ofInt v2)), some (.int (Int32.ofInt v13)), some (.int (Int32.ofInt v14))]) (st1 := [.ref 118]) (H1 := mz_mk g5 x) rfl ?_
            refine mz_fgR (v := 121) rfl fd_3_18 (by decide) (sc_118 _) (rf_118_2 _ _ _) ?_
            refine mm_g 3 (pc1 := 91) (lo1 := [some (.ref 118), some (.int (Int32.ofInt a1)), some (.int (Int32.ofInt a2)), some (.int (Int32.ofInt v1)), some (.int (Int32.ofInt v2)), some (.int (Int32.ofInt v13)), some (.int (Int32.ofInt v14))]) (st1 := [.int (Int32.ofInt a2), .int (Int32.ofInt v14), .int (Int32.ofInt v2), .ref 121]) (H1 := mz_mk g5 x) rfl ?_
            refine mz_ic_ge (tgt := 99) rfl rfl (mz_rg l_v14 u_v14) (mz_rg l_a2 u_a2) (fun c91_18 => ?_) (fun c91_18 => ?_)
            · skip
              refine mm_g 1 (pc1 := 100) (lo1 := [some (.ref 118), some (.int (Int32.ofInt a1)), some (.int (Int32.ofInt a2)), some (.int (Int32.ofInt v1)), some (.int (Int32.ofInt v2)), some (.int (Int32.ofInt v13)), some (.int (Int32.ofInt v14))]) (st1 := [.int (Int32.ofInt (-1)), .int (Int32.ofInt v2), .ref 121]) (H1 := mz_mk g5 x) rfl ?_
              refine mz_cs rfl mt_3_25 (by decide) rfl (Nat.le_of_ble_eq_true rfl) (by omega) (c_X11_put (by omega) hx hIg5 (sh_121 _) (by decide) ba_121 (by omega) (by omega) (by omega) (by omega) (by decide) (by decide) (by omega) (by omega) (fun g19 hIg19 hfg19 => ⟨_, rfl, ?_⟩))
              show mm_W d mmX3_choosePartners 103 [some (.ref 118), some (.int (Int32.ofInt a1)), some (.int (Int32.ofInt a2)), some (.int (Int32.ofInt v1)), some (.int (Int32.ofInt v2)), some (.int (Int32.ofInt v13)), some (.int (Int32.ofInt v14))] [] (mz_mk g19 x) Q
              refine mm_g 2 (pc1 := 106) (lo1 := [some (.ref 118), some (.int (Int32.ofInt a1)), some (.int (Int32.ofInt a2)), some (.int (Int32.ofInt v1)), some (.int (Int32.ofInt v2)), some (.int (Int32.ofInt v13)), some (.int (Int32.ofInt v14))]) (st1 := [.int (Int32.ofInt a2), .int (Int32.ofInt v14)]) (H1 := mz_mk g19 x) rfl ?_
              refine mz_ic_ge (tgt := 131) rfl rfl (mz_rg l_v14 u_v14) (mz_rg l_a2 u_a2) (fun c106_19 => ?_) (fun c106_19 => ?_)
              · skip
                refine mm_g 2 (pc1 := 134) (lo1 := [some (.ref 118), some (.int (Int32.ofInt a1)), some (.int (Int32.ofInt a2)), some (.int (Int32.ofInt v13)), some (.int (Int32.ofInt v2)), some (.int (Int32.ofInt v13)), some (.int (Int32.ofInt v14))]) (st1 := []) (H1 := mz_mk g19 x) rfl ?_
                refine mz_iincR (v := v2) (lo2 := [some (.ref 118), some (.int (Int32.ofInt a1)), some (.int (Int32.ofInt a2)), some (.int (Int32.ofInt v13)), some (.int (Int32.ofInt (v2 + 1))), some (.int (Int32.ofInt v13)), some (.int (Int32.ofInt v14))]) rfl rfl rfl (Nat.le_of_ble_eq_true rfl) rfl ?_
                refine mz_gt (tgt := 5) rfl rfl ?_
                exact ih6 ((2147483647 - (v2 + 1)).toNat) (by omega) v13 (v2 + 1) (some (.int (Int32.ofInt v13))) (some (.int (Int32.ofInt v14))) g19 rfl (by omega) (by omega) (by omega) (by omega) (mz_nl_i _) (mz_nl_i _) hIg19 (fun k j hk => ((hfg19 k j (fun h => hk h)).trans (hfg5 k j (fun h => hk h))))
              · exfalso; omega
            · exfalso; omega
          · skip
            refine mm_g 3 (pc1 := 50) (lo1 := [some (.ref 118), some (.int (Int32.ofInt a1)), some (.int (Int32.ofInt a2)), some (.int (Int32.ofInt v1)), some (.int (Int32.ofInt v2)), some (.int (Int32.ofInt v13)), some (.int (Int32.ofInt v14))]) (st1 := [.int (Int32.ofInt v14), .int (Int32.ofInt 1), .int (Int32.ofInt v13)]) (H1 := mz_mk g5 x) rfl ?_
            refine mz_ishl rfl (fun v20 e_v20 hwv20 => ?_)
            have l_v20 := hwv20.1
            have u_v20 := hwv20.2
            refine mz_iand rfl (fun v21 e_v21 hwv21 => ?_)
            have l_v21 := hwv21.1
            have u_v21 := hwv21.2
            refine mz_if_eq (tgt := 76) rfl rfl (mz_rg l_v21 u_v21) (fun c52_21 => ?_) (fun c52_21 => ?_)
            · skip
              refine mz_iincR (v := v14) (lo2 := [some (.ref 118), some (.int (Int32.ofInt a1)), some (.int (Int32.ofInt a2)), some (.int (Int32.ofInt v1)), some (.int (Int32.ofInt v2)), some (.int (Int32.ofInt v13)), some (.int (Int32.ofInt (v14 + 1)))]) rfl rfl rfl (Nat.le_of_ble_eq_true rfl) rfl ?_
              refine mz_gt (tgt := 39) rfl rfl ?_
              exact ih16 ((2147483647 - (v14 + 1)).toNat) (by omega) (v14 + 1) rfl (by omega) (by omega)
            · skip
              refine mm_g 4 (pc1 := 62) (lo1 := [some (.ref 118), some (.int (Int32.ofInt a1)), some (.int (Int32.ofInt a2)), some (.int (Int32.ofInt v1)), some (.int (Int32.ofInt v2)), some (.int (Int32.ofInt v13)), some (.int (Int32.ofInt v14))]) (st1 := [.int (Int32.ofInt v13), .int (Int32.ofInt v14), .int (Int32.ofInt v2), .ref 118]) (H1 := mz_mk g5 x) rfl ?_
              refine mz_cv rfl mt_3_51 (by decide) (sc_118 _) rfl (Nat.le_of_ble_eq_true rfl) (by omega) (c_X3_withCouple (by omega) hx hIg5 (by omega) (by omega) (by omega) (by omega) l_v13 u_v13 (fun v22 l_v22 u_v22 => ⟨_, rfl, ?_⟩))
              show mm_W d mmX3_choosePartners 65 [some (.ref 118), some (.int (Int32.ofInt a1)), some (.int (Int32.ofInt a2)), some (.int (Int32.ofInt v1)), some (.int (Int32.ofInt v2)), some (.int (Int32.ofInt v13)), some (.int (Int32.ofInt v14))] [.int (Int32.ofInt v22)] (mz_mk g5 x) Q
              refine mm_g 1 (pc1 := 66) (lo1 := [some (.ref 118), some (.int (Int32.ofInt a1)), some (.int (Int32.ofInt a2)), some (.int (Int32.ofInt v1)), some (.int (Int32.ofInt v2)), some (.int (Int32.ofInt v13)), some (.int (Int32.ofInt v14))]) (st1 := [.ref 118, .int (Int32.ofInt v22)]) (H1 := mz_mk g5 x) rfl ?_
              refine mz_fgR (v := 120) rfl fd_3_15 (by decide) (sc_118 _) (rf_118_1 _ _ _) ?_
              refine mm_g 1 (pc1 := 70) (lo1 := [some (.ref 118), some (.int (Int32.ofInt a1)), some (.int (Int32.ofInt a2)), some (.int (Int32.ofInt v1)), some (.int (Int32.ofInt v2)), some (.int (Int32.ofInt v13)), some (.int (Int32.ofInt v14))]) (st1 := [.int (Int32.ofInt v1), .ref 120, .int (Int32.ofInt v22)]) (H1 := mz_mk g5 x) rfl ?_
              refine mz_cs rfl mt_3_29 (by decide) rfl (Nat.le_of_ble_eq_true rfl) (by omega) (c_X11_at (by omega) hx hIg5 (sh_120 _) (by decide) ba_120 (by omega) (by omega) l_v1 u_v1 (fun v23 l_v23 u_v23 => ⟨_, rfl, ?_⟩))
              show mm_W d mmX3_choosePartners 73 [some (.ref 118), some (.int (Int32.ofInt a1)), some (.int (Int32.ofInt a2)), some (.int (Int32.ofInt v1)), some (.int (Int32.ofInt v2)), some (.int (Int32.ofInt v13)), some (.int (Int32.ofInt v14))] [.int (Int32.ofInt v23), .int (Int32.ofInt v22)] (mz_mk g5 x) Q
              refine mz_ic_eq (tgt := 82) rfl rfl (mz_rg l_v22 u_v22) (mz_rg l_v23 u_v23) (fun c73_23 => ?_) (fun c73_23 => ?_)
              · skip
                refine mm_g 1 (pc1 := 83) (lo1 := [some (.ref 118), some (.int (Int32.ofInt a1)), some (.int (Int32.ofInt a2)), some (.int (Int32.ofInt v1)), some (.int (Int32.ofInt v2)), some (.int (Int32.ofInt v13)), some (.int (Int32.ofInt v14))]) (st1 := [.ref 118]) (H1 := mz_mk g5 x) rfl ?_
                refine mz_fgR (v := 121) rfl fd_3_18 (by decide) (sc_118 _) (rf_118_2 _ _ _) ?_
                refine mm_g 3 (pc1 := 91) (lo1 := [some (.ref 118), some (.int (Int32.ofInt a1)), some (.int (Int32.ofInt a2)), some (.int (Int32.ofInt v1)), some (.int (Int32.ofInt v2)), some (.int (Int32.ofInt v13)), some (.int (Int32.ofInt v14))]) (st1 := [.int (Int32.ofInt a2), .int (Int32.ofInt v14), .int (Int32.ofInt v2), .ref 121]) (H1 := mz_mk g5 x) rfl ?_
                refine mz_ic_ge (tgt := 99) rfl rfl (mz_rg l_v14 u_v14) (mz_rg l_a2 u_a2) (fun c91_23 => ?_) (fun c91_23 => ?_)
                · exfalso; omega
                · skip
                  refine mm_g 1 (pc1 := 96) (lo1 := [some (.ref 118), some (.int (Int32.ofInt a1)), some (.int (Int32.ofInt a2)), some (.int (Int32.ofInt v1)), some (.int (Int32.ofInt v2)), some (.int (Int32.ofInt v13)), some (.int (Int32.ofInt v14))]) (st1 := [.int (Int32.ofInt v14), .int (Int32.ofInt v2), .ref 121]) (H1 := mz_mk g5 x) rfl ?_
                  refine mz_gt (tgt := 100) rfl rfl ?_
                  refine mz_cs rfl mt_3_25 (by decide) rfl (Nat.le_of_ble_eq_true rfl) (by omega) (c_X11_put (by omega) hx hIg5 (sh_121 _) (by decide) ba_121 (by omega) (by omega) (by omega) (by omega) (by omega) (by omega) (by omega) (by omega) (fun g24 hIg24 hfg24 => ⟨_, rfl, ?_⟩))
                  show mm_W d mmX3_choosePartners 103 [some (.ref 118), some (.int (Int32.ofInt a1)), some (.int (Int32.ofInt a2)), some (.int (Int32.ofInt v1)), some (.int (Int32.ofInt v2)), some (.int (Int32.ofInt v13)), some (.int (Int32.ofInt v14))] [] (mz_mk g24 x) Q
                  refine mm_g 2 (pc1 := 106) (lo1 := [some (.ref 118), some (.int (Int32.ofInt a1)), some (.int (Int32.ofInt a2)), some (.int (Int32.ofInt v1)), some (.int (Int32.ofInt v2)), some (.int (Int32.ofInt v13)), some (.int (Int32.ofInt v14))]) (st1 := [.int (Int32.ofInt a2), .int (Int32.ofInt v14)]) (H1 := mz_mk g24 x) rfl ?_
                  refine mz_ic_ge (tgt := 131) rfl rfl (mz_rg l_v14 u_v14) (mz_rg l_a2 u_a2) (fun c106_24 => ?_) (fun c106_24 => ?_)
                  · exfalso; omega
                  · skip
                    refine mm_g 1 (pc1 := 110) (lo1 := [some (.ref 118), some (.int (Int32.ofInt a1)), some (.int (Int32.ofInt a2)), some (.int (Int32.ofInt v1)), some (.int (Int32.ofInt v2)), some (.int (Int32.ofInt v13)), some (.int (Int32.ofInt v14))]) (st1 := [.ref 118]) (H1 := mz_mk g24 x) rfl ?_
                    refine mz_fgR (v := 121) rfl fd_3_18 (by decide) (sc_118 _) (rf_118_2 _ _ _) ?_
                    refine mm_g 2 (pc1 := 117) (lo1 := [some (.ref 118), some (.int (Int32.ofInt a1)), some (.int (Int32.ofInt a2)), some (.int (Int32.ofInt v1)), some (.int (Int32.ofInt v2)), some (.int (Int32.ofInt v13)), some (.int (Int32.ofInt v14))]) (st1 := [.int (Int32.ofInt v2), .int (Int32.ofInt v14), .ref 121]) (H1 := mz_mk g24 x) rfl ?_
                    refine mz_cs rfl mt_3_25 (by decide) rfl (Nat.le_of_ble_eq_true rfl) (by omega) (c_X11_put (by omega) hx hIg24 (sh_121 _) (by decide) ba_121 (by omega) (by omega) (by omega) (by omega) (by omega) (by omega) (by omega) (by omega) (fun g25 hIg25 hfg25 => ⟨_, rfl, ?_⟩))
                    show mm_W d mmX3_choosePartners 120 [some (.ref 118), some (.int (Int32.ofInt a1)), some (.int (Int32.ofInt a2)), some (.int (Int32.ofInt v1)), some (.int (Int32.ofInt v2)), some (.int (Int32.ofInt v13)), some (.int (Int32.ofInt v14))] [] (mz_mk g25 x) Q
                    refine mm_g 3 (pc1 := 125) (lo1 := [some (.ref 118), some (.int (Int32.ofInt a1)), some (.int (Int32.ofInt a2)), some (.int (Int32.ofInt v1)), some (.int (Int32.ofInt v2)), some (.int (Int32.ofInt v13)), some (.int (Int32.ofInt v14))]) (st1 := [.int (Int32.ofInt v14), .int (Int32.ofInt 1), .int (Int32.ofInt v13)]) (H1 := mz_mk g25 x) rfl ?_
                    refine mz_ishl rfl (fun v26 e_v26 hwv26 => ?_)
                    have l_v26 := hwv26.1
                    have u_v26 := hwv26.2
                    refine mm_g 1 (pc1 := 127) (lo1 := [some (.ref 118), some (.int (Int32.ofInt a1)), some (.int (Int32.ofInt a2)), some (.int (Int32.ofInt v1)), some (.int (Int32.ofInt v2)), some (.int (Int32.ofInt v13)), some (.int (Int32.ofInt v14))]) (st1 := [.int (Int32.ofInt (-1)), .int (Int32.ofInt v26), .int (Int32.ofInt v13)]) (H1 := mz_mk g25 x) rfl ?_
                    refine mz_ixor rfl (fun v27 e_v27 hwv27 => ?_)
                    have l_v27 := hwv27.1
                    have u_v27 := hwv27.2
                    refine mz_iand rfl (fun v28 e_v28 hwv28 => ?_)
                    have l_v28 := hwv28.1
                    have u_v28 := hwv28.2
                    refine mm_g 3 (pc1 := 134) (lo1 := [some (.ref 118), some (.int (Int32.ofInt a1)), some (.int (Int32.ofInt a2)), some (.int (Int32.ofInt v28)), some (.int (Int32.ofInt v2)), some (.int (Int32.ofInt v28)), some (.int (Int32.ofInt v14))]) (st1 := []) (H1 := mz_mk g25 x) rfl ?_
                    refine mz_iincR (v := v2) (lo2 := [some (.ref 118), some (.int (Int32.ofInt a1)), some (.int (Int32.ofInt a2)), some (.int (Int32.ofInt v28)), some (.int (Int32.ofInt (v2 + 1))), some (.int (Int32.ofInt v28)), some (.int (Int32.ofInt v14))]) rfl rfl rfl (Nat.le_of_ble_eq_true rfl) rfl ?_
                    refine mz_gt (tgt := 5) rfl rfl ?_
                    exact ih6 ((2147483647 - (v2 + 1)).toNat) (by omega) v28 (v2 + 1) (some (.int (Int32.ofInt v28))) (some (.int (Int32.ofInt v14))) g25 rfl (by omega) (by omega) (by omega) (by omega) (mz_nl_i _) (mz_nl_i _) hIg25 (fun k j hk => ((hfg25 k j (fun h => hk h)).trans ((hfg24 k j (fun h => hk h)).trans (hfg5 k j (fun h => hk h)))))
              · skip
                refine mz_iincR (v := v14) (lo2 := [some (.ref 118), some (.int (Int32.ofInt a1)), some (.int (Int32.ofInt a2)), some (.int (Int32.ofInt v1)), some (.int (Int32.ofInt v2)), some (.int (Int32.ofInt v13)), some (.int (Int32.ofInt (v14 + 1)))]) rfl rfl rfl (Nat.le_of_ble_eq_true rfl) rfl ?_
                refine mz_gt (tgt := 39) rfl rfl ?_
                exact ih16 ((2147483647 - (v14 + 1)).toNat) (by omega) (v14 + 1) rfl (by omega) (by omega)
        exact L18 _ (v2 + 1) rfl (by omega) (by omega)
      · skip
        refine mz_gt (tgt := 134) rfl rfl ?_
        refine mz_iincR (v := v2) (lo2 := [some (.ref 118), some (.int (Int32.ofInt a1)), some (.int (Int32.ofInt a2)), some (.int (Int32.ofInt v1)), some (.int (Int32.ofInt (v2 + 1))), o3, o4]) rfl rfl rfl (Nat.le_of_ble_eq_true rfl) rfl ?_
        refine mz_gt (tgt := 5) rfl rfl ?_
        exact ih6 ((2147483647 - (v2 + 1)).toNat) (by omega) v1 (v2 + 1) o3 o4 g5 rfl (by omega) (by omega) (by omega) (by omega) h_o3 h_o4 hIg5 (fun k j hk => (hfg5 k j (fun h => hk h)))
  exact L8 _ a1 0 none none g rfl (by omega) (by omega) (by decide) (by decide) mz_nl_n mz_nl_n hI (fun _ _ _ => rfl)
def fl_X3_find_17 (x : mm_X) (a1 : Int) : Nat → Nat → Prop := fun k j => k = 120
def fw_X3_find (x : mm_X) (a1 : Int) : Nat → Nat → Prop := fun k j => k = 120 ∨ (k = 118 ∧ j = 3) ∨ k = 121
theorem c_X3_find {d : Nat} (hd : 13 ≤ d) {x : mm_X} (hx : mk_x x) {g : mz_G} (hI : mz_inv g) {a1 : Int} (l_a1 : 0 ≤ a1) (u_a1 : a1 ≤ 6) {Q : (Option Value ⊕ Nat) → mm_H → Prop} (hQ : ∀ (g1 : mz_G), mz_inv g1 → mz_fr (fw_X3_find x a1) g g1 → Q (.inl none) (mz_mk g1 x)) : mm_C d 31 [.ref 118, .int (Int32.ofInt a1)] (mz_mk g x) Q := by
  refine ⟨mmX3_find, [some (.ref 118), some (.int (Int32.ofInt a1)), none, none], rfl, rfl, ?_⟩
  refine mm_g 2 (pc1 := 2) (lo1 := [some (.ref 118), some (.int (Int32.ofInt a1)), none, none]) (st1 := [.int (Int32.ofInt a1), .int (Int32.ofInt 1)]) (H1 := mz_mk g x) rfl ?_
  refine mz_ishl rfl (fun v1 e_v1 hwv1 => ?_)
  have b_v1 : 1 ≤ v1 ∧ v1 ≤ 64 := by rw [e_v1]; exact mz_shl_b (lx := 1) (hx := 1) (k := 6) (by decide) (by decide) (by omega) (by omega) (by omega) (by omega)
  have l_v1 := b_v1.1
  have u_v1 := b_v1.2
  refine mm_g 1 (pc1 := 4) (lo1 := [some (.ref 118), some (.int (Int32.ofInt a1)), none, none]) (st1 := [.int (Int32.ofInt 1), .int (Int32.ofInt v1)]) (H1 := mz_mk g x) rfl ?_
  refine mz_isub rfl ?_
  refine mm_g 2 (pc1 := 7) (lo1 := [some (.ref 118), some (.int (Int32.ofInt a1)), some (.int (Int32.ofInt (v1 - 1))), none]) (st1 := [.ref 118]) (H1 := mz_mk g x) rfl ?_
  refine mz_fgR (v := 120) rfl fd_3_15 (by decide) (sc_118 _) (rf_118_1 _ _ _) ?_
  refine mm_g 2 (pc1 := 12) (lo1 := [some (.ref 118), some (.int (Int32.ofInt a1)), some (.int (Int32.ofInt (v1 - 1))), none]) (st1 := [.int (Int32.ofInt 0), .int (Int32.ofInt 0), .ref 120]) (H1 := mz_mk g x) rfl ?_
  refine mz_cs rfl mt_3_25 (by decide) rfl (Nat.le_of_ble_eq_true rfl) (by omega) (c_X11_put (by omega) hx hI (sh_120 _) (by decide) ba_120 (by omega) (by omega) (by decide) (by decide) (by decide) (by decide) (by omega) (by omega) (fun g2 hIg2 hfg2 => ⟨_, rfl, ?_⟩))
  show mm_W d mmX3_find 15 [some (.ref 118), some (.int (Int32.ofInt a1)), some (.int (Int32.ofInt (v1 - 1))), none] [] (mz_mk g2 x) Q
  refine mm_g 2 (pc1 := 17) (lo1 := [some (.ref 118), some (.int (Int32.ofInt a1)), some (.int (Int32.ofInt (v1 - 1))), some (.int (Int32.ofInt 1))]) (st1 := []) (H1 := mz_mk g2 x) rfl ?_
  have L7 : ∀ n6 : Nat, ∀ (v3 : Int) (g4 : mz_G), (64 - v3).toNat = n6 → 1 ≤ v3 → v3 ≤ 64 → mz_inv g4 → mz_fr (fl_X3_find_17 x a1) g2 g4 → mm_W d mmX3_find 17 [some (.ref 118), some (.int (Int32.ofInt a1)), some (.int (Int32.ofInt (v1 - 1))), some (.int (Int32.ofInt v3))] [] (mz_mk g4 x) Q := by
    intro n6
    induction n6 using Nat.strongRecOn with
    | ind n6 ih5 =>
    intro v3 g4 hmn6 l_v3 u_v3 hIg4 hfg4
    refine mm_g 2 (pc1 := 19) (lo1 := [some (.ref 118), some (.int (Int32.ofInt a1)), some (.int (Int32.ofInt (v1 - 1))), some (.int (Int32.ofInt v3))]) (st1 := [.int (Int32.ofInt (v1 - 1)), .int (Int32.ofInt v3)]) (H1 := mz_mk g4 x) rfl ?_
    refine mz_ic_gt (tgt := 42) rfl rfl (mz_rg l_v3 u_v3) ⟨by omega, by omega⟩ (fun c19_7 => ?_) (fun c19_7 => ?_)
    · skip
      refine mm_g 2 (pc1 := 44) (lo1 := [some (.ref 118), some (.int (Int32.ofInt a1)), some (.int (Int32.ofInt (v1 - 1))), some (.int (Int32.ofInt v3))]) (st1 := [.ref 118, .ref 118]) (H1 := mz_mk g4 x) rfl ?_
      refine mz_fgR (v := 120) rfl fd_3_15 (by decide) (sc_118 _) (rf_118_1 _ _ _) ?_
      refine mm_g 1 (pc1 := 48) (lo1 := [some (.ref 118), some (.int (Int32.ofInt a1)), some (.int (Int32.ofInt (v1 - 1))), some (.int (Int32.ofInt v3))]) (st1 := [.int (Int32.ofInt (v1 - 1)), .ref 120, .ref 118]) (H1 := mz_mk g4 x) rfl ?_
      refine mz_cs rfl mt_3_29 (by decide) rfl (Nat.le_of_ble_eq_true rfl) (by omega) (c_X11_at (by omega) hx hIg4 (sh_120 _) (by decide) ba_120 (by omega) (by omega) (by omega) (by omega) (fun v8 l_v8 u_v8 => ⟨_, rfl, ?_⟩))
      show mm_W d mmX3_find 51 [some (.ref 118), some (.int (Int32.ofInt a1)), some (.int (Int32.ofInt (v1 - 1))), some (.int (Int32.ofInt v3))] [.int (Int32.ofInt v8), .ref 118] (mz_mk g4 x) Q
      refine mz_pI rfl fd_3_21 (sc_118 _) hIg4 bd_118_3 (by omega) (by omega) (fun g9 hIg9 hug9 => ?_)
      refine mm_g 3 (pc1 := 57) (lo1 := [some (.ref 118), some (.int (Int32.ofInt a1)), some (.int (Int32.ofInt (v1 - 1))), some (.int (Int32.ofInt v3))]) (st1 := [.int (Int32.ofInt a1), .int (Int32.ofInt (v1 - 1)), .ref 118]) (H1 := mz_mk g9 x) rfl ?_
      refine mz_cv rfl mt_3_37 (by decide) (sc_118 _) rfl (Nat.le_of_ble_eq_true rfl) (by omega) (c_X3_choosePartners (by omega) hx hIg9 (by omega) (by omega) (by omega) (by omega) (fun g10 hIg10 hfg10 => ⟨_, rfl, ?_⟩))
      show mm_W d mmX3_find 60 [some (.ref 118), some (.int (Int32.ofInt a1)), some (.int (Int32.ofInt (v1 - 1))), some (.int (Int32.ofInt v3))] [] (mz_mk g10 x) Q
      exact mm_rt rfl rfl (hQ _ hIg10 (fun k j hk => ((hfg10 k j (fun h => hk (Or.inr (Or.inr h)))).trans ((hug9.2 k j (fun h => hk (Or.inr (Or.inl h)))).trans ((hfg4 k j (fun h => hk (Or.inl h))).trans (hfg2 k j (fun h => hk (Or.inl h))))))))
    · skip
      refine mm_g 1 (pc1 := 23) (lo1 := [some (.ref 118), some (.int (Int32.ofInt a1)), some (.int (Int32.ofInt (v1 - 1))), some (.int (Int32.ofInt v3))]) (st1 := [.ref 118]) (H1 := mz_mk g4 x) rfl ?_
      refine mz_fgR (v := 120) rfl fd_3_15 (by decide) (sc_118 _) (rf_118_1 _ _ _) ?_
      refine mm_g 4 (pc1 := 30) (lo1 := [some (.ref 118), some (.int (Int32.ofInt a1)), some (.int (Int32.ofInt (v1 - 1))), some (.int (Int32.ofInt v3))]) (st1 := [.int (Int32.ofInt a1), .int (Int32.ofInt v3), .ref 118, .int (Int32.ofInt v3), .ref 120]) (H1 := mz_mk g4 x) rfl ?_
      refine mz_cv rfl mt_3_33 (by decide) (sc_118 _) rfl (Nat.le_of_ble_eq_true rfl) (by omega) (c_X3_fewestOf (by omega) hx hIg4 (by omega) (by omega) (by omega) (by omega) (fun v11 l_v11 u_v11 => ⟨_, rfl, ?_⟩))
      show mm_W d mmX3_find 33 [some (.ref 118), some (.int (Int32.ofInt a1)), some (.int (Int32.ofInt (v1 - 1))), some (.int (Int32.ofInt v3))] [.int (Int32.ofInt v11), .int (Int32.ofInt v3), .ref 120] (mz_mk g4 x) Q
      refine mz_cs rfl mt_3_25 (by decide) rfl (Nat.le_of_ble_eq_true rfl) (by omega) (c_X11_put (by omega) hx hIg4 (sh_120 _) (by decide) ba_120 (by omega) (by omega) (by omega) (by omega) l_v11 u_v11 (by omega) (by omega) (fun g12 hIg12 hfg12 => ⟨_, rfl, ?_⟩))
      show mm_W d mmX3_find 36 [some (.ref 118), some (.int (Int32.ofInt a1)), some (.int (Int32.ofInt (v1 - 1))), some (.int (Int32.ofInt v3))] [] (mz_mk g12 x) Q
      refine mz_iincR (v := v3) (lo2 := [some (.ref 118), some (.int (Int32.ofInt a1)), some (.int (Int32.ofInt (v1 - 1))), some (.int (Int32.ofInt (v3 + 1)))]) rfl rfl rfl (Nat.le_of_ble_eq_true rfl) rfl ?_
      refine mz_gt (tgt := 17) rfl rfl ?_
      exact ih5 ((64 - (v3 + 1)).toNat) (by omega) (v3 + 1) g12 rfl (by omega) (by omega) hIg12 (fun k j hk => ((hfg12 k j (fun h => hk h)).trans (hfg4 k j (fun h => hk h))))
  exact L7 _ 1 g2 rfl (by decide) (by decide) hIg2 (fun _ _ _ => rfl)
def fl_X11_findCouples_7 (x : mm_X) : Nat → Nat → Prop := fun k j => k = 133 ∨ k = 134 ∨ k = 135 ∨ k = 136 ∨ k = 117 ∨ k = 119
def fl_X11_findCouples_38 (x : mm_X) : Nat → Nat → Prop := fun k j => k = 135 ∨ k = 136 ∨ k = 117 ∨ k = 119
def fw_X11_findCouples (x : mm_X) : Nat → Nat → Prop := fun k j => k = 133 ∨ k = 134 ∨ k = 135 ∨ k = 136 ∨ k = 117 ∨ k = 119 ∨ k = 120 ∨ (k = 118 ∧ j = 3) ∨ k = 121
theorem c_X11_findCouples {d : Nat} (hd : 14 ≤ d) {x : mm_X} (hx : mk_x x) {g : mz_G} (hI : mz_inv g) {Q : (Option Value ⊕ Nat) → mm_H → Prop} (hQ : ∀ (g1 : mz_G), mz_inv g1 → mz_fr (fw_X11_findCouples x) g g1 → Q (.inl none) (mz_mk g1 x)) : mm_C d 153 [.ref 0] (mz_mk g x) Q := by
  have kx := kn_x hx
  refine ⟨mmX11_findCouples, [some (.ref 0), none, none, none], rfl, rfl, ?_⟩
  refine mm_g 1 (pc1 := 1) (lo1 := [some (.ref 0), none, none, none]) (st1 := [.ref 0]) (H1 := mz_mk g x) rfl ?_
  refine mz_cv rfl mt_11_155 (by decide) (sc_0 _) rfl (Nat.le_of_ble_eq_true rfl) (by omega) (c_X11_trunkCount (by omega) hx hI (fun v1 l_v1 u_v1 => ⟨_, rfl, ?_⟩))
  show mm_W d mmX11_findCouples 4 [some (.ref 0), none, none, none] [.int (Int32.ofInt v1)] (mz_mk g x) Q
  refine mm_g 3 (pc1 := 7) (lo1 := [some (.ref 0), some (.int (Int32.ofInt v1)), some (.int (Int32.ofInt 0)), none]) (st1 := []) (H1 := mz_mk g x) rfl ?_
  have L7 : ∀ n6 : Nat, ∀ (v2 : Int) (o3 : Option Value) (g4 : mz_G), (6 - v2).toNat = n6 → 0 ≤ v2 → v2 ≤ 6 → mz_nl o3 → mz_inv g4 → mz_fr (fl_X11_findCouples_7 x) g g4 → mm_W d mmX11_findCouples 7 [some (.ref 0), some (.int (Int32.ofInt v1)), some (.int (Int32.ofInt v2)), o3] [] (mz_mk g4 x) Q := by
    intro n6
    induction n6 using Nat.strongRecOn with
    | ind n6 ih5 =>
    intro v2 o3 g4 hmn6 l_v2 u_v2 h_o3 hIg4 hfg4
    refine mm_g 2 (pc1 := 9) (lo1 := [some (.ref 0), some (.int (Int32.ofInt v1)), some (.int (Int32.ofInt v2)), o3]) (st1 := [.int (Int32.ofInt v1), .int (Int32.ofInt v2)]) (H1 := mz_mk g4 x) rfl ?_
    refine mz_ic_ge (tgt := 101) rfl rfl (mz_rg l_v2 u_v2) (mz_rg l_v1 u_v1) (fun c9_7 => ?_) (fun c9_7 => ?_)
    · skip
      refine mm_g 1 (pc1 := 102) (lo1 := [some (.ref 0), some (.int (Int32.ofInt v1)), some (.int (Int32.ofInt v2)), o3]) (st1 := [.ref 0]) (H1 := mz_mk g4 x) rfl ?_
      refine mz_fgR (v := 118) rfl fd_11_58 (by decide) (sc_0 _) (rf_0_9 _ _ _) ?_
      refine mm_g 1 (pc1 := 106) (lo1 := [some (.ref 0), some (.int (Int32.ofInt v1)), some (.int (Int32.ofInt v2)), o3]) (st1 := [.int (Int32.ofInt v1), .ref 118]) (H1 := mz_mk g4 x) rfl ?_
      refine mz_cv rfl mt_11_340 (by decide) (sc_118 _) rfl (Nat.le_of_ble_eq_true rfl) (by omega) (c_X3_find (by omega) hx hIg4 l_v1 u_v1 (fun g8 hIg8 hfg8 => ⟨_, rfl, ?_⟩))
      show mm_W d mmX11_findCouples 109 [some (.ref 0), some (.int (Int32.ofInt v1)), some (.int (Int32.ofInt v2)), o3] [] (mz_mk g8 x) Q
      exact mm_rt rfl rfl (hQ _ hIg8 (fun k j hk => ((hfg8 k j (fun h => hk (Or.elim h (fun h => (Or.inr (Or.inr (Or.inr (Or.inr (Or.inr (Or.inr (Or.inl h)))))))) (fun h => (Or.elim h (fun h => (Or.inr (Or.inr (Or.inr (Or.inr (Or.inr (Or.inr (Or.inr (Or.inl h))))))))) (fun h => (Or.inr (Or.inr (Or.inr (Or.inr (Or.inr (Or.inr (Or.inr (Or.inr h)))))))))))))).trans (hfg4 k j (fun h => hk (Or.elim h (fun h => (Or.inl h)) (fun h => (Or.elim h (fun h => (Or.inr (Or.inl h))) (fun h => (Or.elim h (fun h => (Or.inr (Or.inr (Or.inl h)))) (fun h => (Or.elim h (fun h => (Or.inr (Or.inr (Or.inr (Or.inl h))))) (fun h => (Or.elim h (fun h => (Or.inr (Or.inr (Or.inr (Or.inr (Or.inl h)))))) (fun h => (Or.inr (Or.inr (Or.inr (Or.inr (Or.inr (Or.inl h)))))))))))))))))))))
    · skip
      refine mm_g 1 (pc1 := 13) (lo1 := [some (.ref 0), some (.int (Int32.ofInt v1)), some (.int (Int32.ofInt v2)), o3]) (st1 := [.ref 0]) (H1 := mz_mk g4 x) rfl ?_
      refine mz_fgR (v := x.1) rfl fd_11_16 (by decide) (sc_0 _) rfl ?_
      refine mm_g 1 (pc1 := 17) (lo1 := [some (.ref 0), some (.int (Int32.ofInt v1)), some (.int (Int32.ofInt v2)), o3]) (st1 := [.ref 0, .ref x.1]) (H1 := mz_mk g4 x) rfl ?_
      refine mz_fgR (v := 86) rfl fd_11_37 (by decide) (sc_0 _) (rf_0_5 _ _ _) ?_
      refine mz_fgR (v := 87) rfl fd_11_158 (by decide) (sc_86 _) (rf_86_0 _ _ _) ?_
      refine mm_g 1 (pc1 := 24) (lo1 := [some (.ref 0), some (.int (Int32.ofInt v1)), some (.int (Int32.ofInt v2)), o3]) (st1 := [.int (Int32.ofInt v2), .ref 87, .ref x.1]) (H1 := mz_mk g4 x) rfl ?_
      refine mz_cv rfl mt_11_192 (by decide) (sc_87 _) rfl (Nat.le_of_ble_eq_true rfl) (by omega) (c_X9_get (by omega) hx hIg4 kp_tks_87 (by omega) (by omega) (fun u9 k_u9 hp10 => ⟨_, rfl, ?_⟩))
      show mm_W d mmX11_findCouples 27 [some (.ref 0), some (.int (Int32.ofInt v1)), some (.int (Int32.ofInt v2)), o3] [.ref u9, .ref x.1] (mz_mk g4 x) Q
      refine mm_g 1 (pc1 := 28) (lo1 := [some (.ref 0), some (.int (Int32.ofInt v1)), some (.int (Int32.ofInt v2)), o3]) (st1 := [.ref 0, .ref u9, .ref x.1]) (H1 := mz_mk g4 x) rfl ?_
      refine mz_fgR (v := 133) rfl fd_11_84 (by decide) (sc_0 _) (rf_0_13 _ _ _) ?_
      refine mz_cv rfl mt_11_286 (by decide) (kc_load (kx_1 hx) _) rfl (Nat.le_of_ble_eq_true rfl) (by omega) (c_X1_blendInto (by omega) hx hIg4 (kx_1 hx) k_u9 kp_let_133 (fun g11 hIg11 hfg11 => ⟨_, rfl, ?_⟩))
      show mm_W d mmX11_findCouples 34 [some (.ref 0), some (.int (Int32.ofInt v1)), some (.int (Int32.ofInt v2)), o3] [] (mz_mk g11 x) Q
      refine mm_g 2 (pc1 := 36) (lo1 := [some (.ref 0), some (.int (Int32.ofInt v1)), some (.int (Int32.ofInt v2)), o3]) (st1 := [.int (Int32.ofInt 1), .int (Int32.ofInt v2)]) (H1 := mz_mk g11 x) rfl ?_
      refine mz_iadd rfl ?_
      refine mm_g 1 (pc1 := 38) (lo1 := [some (.ref 0), some (.int (Int32.ofInt v1)), some (.int (Int32.ofInt v2)), some (.int (Int32.ofInt (v2 + 1)))]) (st1 := []) (H1 := mz_mk g11 x) rfl ?_
      have L16 : ∀ n15 : Nat, ∀ (v12 : Int) (g13 : mz_G), (6 - v12).toNat = n15 → 1 ≤ v12 → v12 ≤ 6 → mz_inv g13 → mz_fr (fl_X11_findCouples_38 x) g11 g13 → mm_W d mmX11_findCouples 38 [some (.ref 0), some (.int (Int32.ofInt v1)), some (.int (Int32.ofInt v2)), some (.int (Int32.ofInt v12))] [] (mz_mk g13 x) Q := by
        intro n15
        induction n15 using Nat.strongRecOn with
        | ind n15 ih14 =>
        intro v12 g13 hmn15 l_v12 u_v12 hIg13 hfg13
        refine mm_g 2 (pc1 := 40) (lo1 := [some (.ref 0), some (.int (Int32.ofInt v1)), some (.int (Int32.ofInt v2)), some (.int (Int32.ofInt v12))]) (st1 := [.int (Int32.ofInt v1), .int (Int32.ofInt v12)]) (H1 := mz_mk g13 x) rfl ?_
        refine mz_ic_ge (tgt := 95) rfl rfl (mz_rg l_v12 u_v12) (mz_rg l_v1 u_v1) (fun c40_16 => ?_) (fun c40_16 => ?_)
        · skip
          refine mz_iincR (v := v2) (lo2 := [some (.ref 0), some (.int (Int32.ofInt v1)), some (.int (Int32.ofInt (v2 + 1))), some (.int (Int32.ofInt v12))]) rfl rfl rfl (Nat.le_of_ble_eq_true rfl) rfl ?_
          refine mz_gt (tgt := 7) rfl rfl ?_
          exact ih5 ((6 - (v2 + 1)).toNat) (by omega) (v2 + 1) (some (.int (Int32.ofInt v12))) g13 rfl (by omega) (by omega) (mz_nl_i _) hIg13 (fun k j hk => ((hfg13 k j (fun h => hk (Or.elim h (fun h => (Or.inr (Or.inr (Or.inl h)))) (fun h => (Or.elim h (fun h => (Or.inr (Or.inr (Or.inr (Or.inl h))))) (fun h => (Or.elim h (fun h => (Or.inr (Or.inr (Or.inr (Or.inr (Or.inl h)))))) (fun h => (Or.inr (Or.inr (Or.inr (Or.inr (Or.inr h))))))))))))).trans ((hfg11 k j (fun h => hk (Or.elim h (fun h => (Or.inl h)) (fun h => (Or.inr (Or.inl h)))))).trans (hfg4 k j (fun h => hk (Or.elim h (fun h => (Or.inl h)) (fun h => (Or.elim h (fun h => (Or.inr (Or.inl h))) (fun h => (Or.elim h (fun h => (Or.inr (Or.inr (Or.inl h)))) (fun h => (Or.elim h (fun h => (Or.inr (Or.inr (Or.inr (Or.inl h))))) (fun h => (Or.elim h (fun h => (Or.inr (Or.inr (Or.inr (Or.inr (Or.inl h)))))) (fun h => (Or.inr (Or.inr (Or.inr (Or.inr (Or.inr h))))))))))))))))))))
        · skip
          refine mm_g 1 (pc1 := 44) (lo1 := [some (.ref 0), some (.int (Int32.ofInt v1)), some (.int (Int32.ofInt v2)), some (.int (Int32.ofInt v12))]) (st1 := [.ref 0]) (H1 := mz_mk g13 x) rfl ?_
          refine mz_fgR (v := x.1) rfl fd_11_16 (by decide) (sc_0 _) rfl ?_
          refine mm_g 1 (pc1 := 48) (lo1 := [some (.ref 0), some (.int (Int32.ofInt v1)), some (.int (Int32.ofInt v2)), some (.int (Int32.ofInt v12))]) (st1 := [.ref 0, .ref x.1]) (H1 := mz_mk g13 x) rfl ?_
          refine mz_fgR (v := 86) rfl fd_11_37 (by decide) (sc_0 _) (rf_0_5 _ _ _) ?_
          refine mz_fgR (v := 87) rfl fd_11_158 (by decide) (sc_86 _) (rf_86_0 _ _ _) ?_
          refine mm_g 1 (pc1 := 55) (lo1 := [some (.ref 0), some (.int (Int32.ofInt v1)), some (.int (Int32.ofInt v2)), some (.int (Int32.ofInt v12))]) (st1 := [.int (Int32.ofInt v12), .ref 87, .ref x.1]) (H1 := mz_mk g13 x) rfl ?_
          refine mz_cv rfl mt_11_192 (by decide) (sc_87 _) rfl (Nat.le_of_ble_eq_true rfl) (by omega) (c_X9_get (by omega) hx hIg13 kp_tks_87 (by omega) (by omega) (fun u17 k_u17 hp18 => ⟨_, rfl, ?_⟩))
          show mm_W d mmX11_findCouples 58 [some (.ref 0), some (.int (Int32.ofInt v1)), some (.int (Int32.ofInt v2)), some (.int (Int32.ofInt v12))] [.ref u17, .ref x.1] (mz_mk g13 x) Q
          refine mm_g 1 (pc1 := 59) (lo1 := [some (.ref 0), some (.int (Int32.ofInt v1)), some (.int (Int32.ofInt v2)), some (.int (Int32.ofInt v12))]) (st1 := [.ref 0, .ref u17, .ref x.1]) (H1 := mz_mk g13 x) rfl ?_
          refine mz_fgR (v := 135) rfl fd_11_88 (by decide) (sc_0 _) (rf_0_14 _ _ _) ?_
          refine mz_cv rfl mt_11_286 (by decide) (kc_load (kx_1 hx) _) rfl (Nat.le_of_ble_eq_true rfl) (by omega) (c_X1_blendInto (by omega) hx hIg13 (kx_1 hx) k_u17 kp_let_135 (fun g19 hIg19 hfg19 => ⟨_, rfl, ?_⟩))
          show mm_W d mmX11_findCouples 65 [some (.ref 0), some (.int (Int32.ofInt v1)), some (.int (Int32.ofInt v2)), some (.int (Int32.ofInt v12))] [] (mz_mk g19 x) Q
          refine mm_g 1 (pc1 := 66) (lo1 := [some (.ref 0), some (.int (Int32.ofInt v1)), some (.int (Int32.ofInt v2)), some (.int (Int32.ofInt v12))]) (st1 := [.ref 0]) (H1 := mz_mk g19 x) rfl ?_
          refine mz_fgR (v := 118) rfl fd_11_58 (by decide) (sc_0 _) (rf_0_9 _ _ _) ?_
          refine mm_g 3 (pc1 := 72) (lo1 := [some (.ref 0), some (.int (Int32.ofInt v1)), some (.int (Int32.ofInt v2)), some (.int (Int32.ofInt v12))]) (st1 := [.ref 0, .int (Int32.ofInt v12), .int (Int32.ofInt v2), .ref 118]) (H1 := mz_mk g19 x) rfl ?_
          refine mz_fgR (v := 116) rfl fd_11_51 (by decide) (sc_0 _) (rf_0_8 _ _ _) ?_
          refine mm_g 1 (pc1 := 76) (lo1 := [some (.ref 0), some (.int (Int32.ofInt v1)), some (.int (Int32.ofInt v2)), some (.int (Int32.ofInt v12))]) (st1 := [.ref 0, .ref 116, .int (Int32.ofInt v12), .int (Int32.ofInt v2), .ref 118]) (H1 := mz_mk g19 x) rfl ?_
          refine mz_fgR (v := 133) rfl fd_11_84 (by decide) (sc_0 _) (rf_0_13 _ _ _) ?_
          refine mm_g 1 (pc1 := 80) (lo1 := [some (.ref 0), some (.int (Int32.ofInt v1)), some (.int (Int32.ofInt v2)), some (.int (Int32.ofInt v12))]) (st1 := [.ref 0, .ref 133, .ref 116, .int (Int32.ofInt v12), .int (Int32.ofInt v2), .ref 118]) (H1 := mz_mk g19 x) rfl ?_
          refine mz_fgR (v := 135) rfl fd_11_88 (by decide) (sc_0 _) (rf_0_14 _ _ _) ?_
          refine mz_cv rfl mt_11_293 (by decide) (sc_116 _) rfl (Nat.le_of_ble_eq_true rfl) (by omega) (c_X2_changes (by omega) hx hIg19 kp_let_133 kp_let_135 (fun v20 g21 hIg21 hfg21 l_v20 u_v20 => ⟨_, rfl, ?_⟩))
          show mm_W d mmX11_findCouples 86 [some (.ref 0), some (.int (Int32.ofInt v1)), some (.int (Int32.ofInt v2)), some (.int (Int32.ofInt v12))] [.int (Int32.ofInt v20), .int (Int32.ofInt v12), .int (Int32.ofInt v2), .ref 118] (mz_mk g21 x) Q
          refine mz_cv rfl mt_11_337 (by decide) (sc_118 _) rfl (Nat.le_of_ble_eq_true rfl) (by omega) (c_X3_setCost (by omega) hx hIg21 (by omega) (by omega) (by omega) (by omega) l_v20 u_v20 (fun g22 hIg22 hfg22 => ⟨_, rfl, ?_⟩))
          show mm_W d mmX11_findCouples 89 [some (.ref 0), some (.int (Int32.ofInt v1)), some (.int (Int32.ofInt v2)), some (.int (Int32.ofInt v12))] [] (mz_mk g22 x) Q
          refine mz_iincR (v := v12) (lo2 := [some (.ref 0), some (.int (Int32.ofInt v1)), some (.int (Int32.ofInt v2)), some (.int (Int32.ofInt (v12 + 1)))]) rfl rfl rfl (Nat.le_of_ble_eq_true rfl) rfl ?_
          refine mz_gt (tgt := 38) rfl rfl ?_
          exact ih14 ((6 - (v12 + 1)).toNat) (by omega) (v12 + 1) g22 rfl (by omega) (by omega) hIg22 (fun k j hk => ((hfg22 k j (fun h => hk (Or.inr (Or.inr (Or.inr h))))).trans ((hfg21 k j (fun h => hk (Or.inr (Or.inr (Or.inl h))))).trans ((hfg19 k j (fun h => hk (Or.elim h (fun h => (Or.inl h)) (fun h => (Or.inr (Or.inl h)))))).trans (hfg13 k j (fun h => hk (Or.elim h (fun h => (Or.inl h)) (fun h => (Or.elim h (fun h => (Or.inr (Or.inl h))) (fun h => (Or.elim h (fun h => (Or.inr (Or.inr (Or.inl h)))) (fun h => (Or.inr (Or.inr (Or.inr h)))))))))))))))
      exact L16 _ (v2 + 1) g11 rfl (by omega) (by omega) hIg11 (fun _ _ _ => rfl)
  exact L7 _ 0 none g rfl (by decide) (by decide) mz_nl_n hI (fun _ _ _ => rfl)
theorem c_X3_partnerOf {d : Nat} (hd : 2 ≤ d) {x : mm_X} (hx : mk_x x) {g : mz_G} (hI : mz_inv g) {a1 : Int} (l_a1 : (-2147483648) ≤ a1) (u_a1 : a1 ≤ 2147483647) {Q : (Option Value ⊕ Nat) → mm_H → Prop} (hQ : ∀ (r : Int), (-2147483648) ≤ r → r ≤ 2147483647 → Q (.inl (some (.int (Int32.ofInt r)))) (mz_mk g x)) : mm_C d 30 [.ref 118, .int (Int32.ofInt a1)] (mz_mk g x) Q := by
  refine ⟨mmX3_partnerOf, [some (.ref 118), some (.int (Int32.ofInt a1))], rfl, rfl, ?_⟩
  refine mm_g 1 (pc1 := 1) (lo1 := [some (.ref 118), some (.int (Int32.ofInt a1))]) (st1 := [.ref 118]) (H1 := mz_mk g x) rfl ?_
  refine mz_fgR (v := 121) rfl fd_3_18 (by decide) (sc_118 _) (rf_118_2 _ _ _) ?_
  refine mm_g 1 (pc1 := 5) (lo1 := [some (.ref 118), some (.int (Int32.ofInt a1))]) (st1 := [.int (Int32.ofInt a1), .ref 121]) (H1 := mz_mk g x) rfl ?_
  refine mz_cs rfl mt_3_29 (by decide) rfl (Nat.le_of_ble_eq_true rfl) (by omega) (c_X11_at (by omega) hx hI (sh_121 _) (by decide) ba_121 (by omega) (by omega) l_a1 u_a1 (fun v1 l_v1 u_v1 => ⟨_, rfl, ?_⟩))
  show mm_W d mmX3_partnerOf 8 [some (.ref 118), some (.int (Int32.ofInt a1))] [.int (Int32.ofInt v1)] (mz_mk g x) Q
  exact mm_rt rfl rfl (hQ _ (by omega) (by omega))
def fw_X11_trunk (x : mm_X) (a1 : Int) (a2 : Int) : Nat → Nat → Prop := fun k j => k = 133 ∨ k = 134 ∨ k = 135 ∨ k = 136 ∨ k = 117 ∨ k = 119 ∨ k = 120 ∨ (k = 118 ∧ j = 3) ∨ k = 121
theorem c_X11_trunk {d : Nat} (hd : 15 ≤ d) {x : mm_X} (hx : mk_x x) {g : mz_G} (hI : mz_inv g) {a1 : Int} (l_a1 : (-2147483648) ≤ a1) (u_a1 : a1 ≤ 2147483647) {a2 : Int} (l_a2 : (-2147483648) ≤ a2) (u_a2 : a2 ≤ 2147483647) {Q : (Option Value ⊕ Nat) → mm_H → Prop} (hQ : ∀ (r : Int) (g1 : mz_G), mz_inv g1 → mz_fr (fw_X11_trunk x a1 a2) g g1 → (-2147483648) ≤ r → r ≤ 2147483647 → Q (.inl (some (.int (Int32.ofInt r)))) (mz_mk g1 x)) (hX : ∀ E, Q (.inr E) (mz_mk g (mz_tx x))) : mm_C d 132 [.ref 0, .int (Int32.ofInt a1), .int (Int32.ofInt a2)] (mz_mk g x) Q := by
  have kx := kn_x hx
  refine ⟨mmX11_trunk, [some (.ref 0), some (.int (Int32.ofInt a1)), some (.int (Int32.ofInt a2)), none], rfl, rfl, ?_⟩
  refine mm_g 2 (pc1 := 2) (lo1 := [some (.ref 0), some (.int (Int32.ofInt a1)), some (.int (Int32.ofInt a2)), none]) (st1 := [.int (Int32.ofInt a1), .ref 0]) (H1 := mz_mk g x) rfl ?_
  refine mz_cv rfl mt_11_231 (by decide) (sc_0 _) rfl (Nat.le_of_ble_eq_true rfl) (by omega) (c_X11_isTrunk (by omega) hx hI l_a1 u_a1 (fun v1 l_v1 u_v1 => ⟨_, rfl, ?_⟩))
  show mm_W d mmX11_trunk 5 [some (.ref 0), some (.int (Int32.ofInt a1)), some (.int (Int32.ofInt a2)), none] [.int (Int32.ofInt v1)] (mz_mk g x) Q
  refine mz_if_eq (tgt := 22) rfl rfl (mz_rg l_v1 u_v1) (fun c5_1 => ?_) (fun c5_1 => ?_)
  · skip
    refine mm_g 1 (pc1 := 23) (lo1 := [some (.ref 0), some (.int (Int32.ofInt a1)), some (.int (Int32.ofInt a2)), none]) (st1 := [.int (Int32.ofInt 0)]) (H1 := mz_mk g x) rfl ?_
    refine mz_csx rfl mt_11_183 rfl (Nat.le_of_ble_eq_true rfl) (by omega) rfl nh_X11_mustBe (c_X11_mustBe (by omega) hx hI (by decide) (by decide) (fun hp2 => ?_) (fun E => hX E))
    show mm_W d mmX11_trunk 26 [some (.ref 0), some (.int (Int32.ofInt a1)), some (.int (Int32.ofInt a2)), none] [] (mz_mk g x) Q
    exfalso; omega
  · skip
    refine mm_g 1 (pc1 := 9) (lo1 := [some (.ref 0), some (.int (Int32.ofInt a1)), some (.int (Int32.ofInt a2)), none]) (st1 := [.int (Int32.ofInt a2)]) (H1 := mz_mk g x) rfl ?_
    refine mz_if_lt (tgt := 22) rfl rfl (mz_rg l_a2 u_a2) (fun c9_2 => ?_) (fun c9_2 => ?_)
    · skip
      refine mm_g 1 (pc1 := 23) (lo1 := [some (.ref 0), some (.int (Int32.ofInt a1)), some (.int (Int32.ofInt a2)), none]) (st1 := [.int (Int32.ofInt 0)]) (H1 := mz_mk g x) rfl ?_
      refine mz_csx rfl mt_11_183 rfl (Nat.le_of_ble_eq_true rfl) (by omega) rfl nh_X11_mustBe (c_X11_mustBe (by omega) hx hI (by decide) (by decide) (fun hp3 => ?_) (fun E => hX E))
      show mm_W d mmX11_trunk 26 [some (.ref 0), some (.int (Int32.ofInt a1)), some (.int (Int32.ofInt a2)), none] [] (mz_mk g x) Q
      exfalso; omega
    · skip
      refine mm_g 1 (pc1 := 13) (lo1 := [some (.ref 0), some (.int (Int32.ofInt a1)), some (.int (Int32.ofInt a2)), none]) (st1 := [.int (Int32.ofInt a2)]) (H1 := mz_mk g x) rfl ?_
      refine mz_bip rfl bip_7 ?_
      refine mz_ic_gt (tgt := 22) rfl rfl (mz_rg l_a2 u_a2) ⟨by decide, by decide⟩ (fun c15_3 => ?_) (fun c15_3 => ?_)
      · skip
        refine mm_g 1 (pc1 := 23) (lo1 := [some (.ref 0), some (.int (Int32.ofInt a1)), some (.int (Int32.ofInt a2)), none]) (st1 := [.int (Int32.ofInt 0)]) (H1 := mz_mk g x) rfl ?_
        refine mz_csx rfl mt_11_183 rfl (Nat.le_of_ble_eq_true rfl) (by omega) rfl nh_X11_mustBe (c_X11_mustBe (by omega) hx hI (by decide) (by decide) (fun hp4 => ?_) (fun E => hX E))
        show mm_W d mmX11_trunk 26 [some (.ref 0), some (.int (Int32.ofInt a1)), some (.int (Int32.ofInt a2)), none] [] (mz_mk g x) Q
        exfalso; omega
      · skip
        refine mm_g 1 (pc1 := 19) (lo1 := [some (.ref 0), some (.int (Int32.ofInt a1)), some (.int (Int32.ofInt a2)), none]) (st1 := [.int (Int32.ofInt 1)]) (H1 := mz_mk g x) rfl ?_
        refine mz_gt (tgt := 23) rfl rfl ?_
        refine mz_csx rfl mt_11_183 rfl (Nat.le_of_ble_eq_true rfl) (by omega) rfl nh_X11_mustBe (c_X11_mustBe (by omega) hx hI (by decide) (by decide) (fun hp5 => ?_) (fun E => hX E))
        show mm_W d mmX11_trunk 26 [some (.ref 0), some (.int (Int32.ofInt a1)), some (.int (Int32.ofInt a2)), none] [] (mz_mk g x) Q
        refine mm_g 1 (pc1 := 27) (lo1 := [some (.ref 0), some (.int (Int32.ofInt a1)), some (.int (Int32.ofInt a2)), none]) (st1 := [.ref 0]) (H1 := mz_mk g x) rfl ?_
        refine mz_fgR (v := 86) rfl fd_11_37 (by decide) (sc_0 _) (rf_0_5 _ _ _) ?_
        refine mz_fgR (v := 87) rfl fd_11_158 (by decide) (sc_86 _) (rf_86_0 _ _ _) ?_
        refine mm_g 1 (pc1 := 34) (lo1 := [some (.ref 0), some (.int (Int32.ofInt a1)), some (.int (Int32.ofInt a2)), none]) (st1 := [.int (Int32.ofInt a1), .ref 87]) (H1 := mz_mk g x) rfl ?_
        refine mz_cv rfl mt_11_192 (by decide) (sc_87 _) rfl (Nat.le_of_ble_eq_true rfl) (by omega) (c_X9_get (by omega) hx hI kp_tks_87 l_a1 u_a1 (fun u6 k_u6 hp7 => ⟨_, rfl, ?_⟩))
        show mm_W d mmX11_trunk 37 [some (.ref 0), some (.int (Int32.ofInt a1)), some (.int (Int32.ofInt a2)), none] [.ref u6] (mz_mk g x) Q
        refine mm_g 2 (pc1 := 39) (lo1 := [some (.ref 0), some (.int (Int32.ofInt a1)), some (.int (Int32.ofInt a2)), some (.ref u6)]) (st1 := [.int (Int32.ofInt a2)]) (H1 := mz_mk g x) rfl ?_
        by_cases c39_0 : a2 = 0
        · refine mz_tsi (tgt := 80) rfl (mz_rg l_a2 u_a2) (by omega) (by omega) (by rw [c39_0]; rfl) rfl ?_
          refine mm_g 1 (pc1 := 81) (lo1 := [some (.ref 0), some (.int (Int32.ofInt a1)), some (.int (Int32.ofInt a2)), some (.ref u6)]) (st1 := [.ref u6]) (H1 := mz_mk g x) rfl ?_
          refine mz_gI rfl fd_11_222 (by decide) (kc_trunk k_u6 _) hI (kb_trunk_0 k_u6) (fun v8 e_v8 l_v8 u_v8 => ?_)
          exact mm_rt rfl rfl (hQ _ _ hI (fun _ _ _ => rfl) (by omega) (by omega))
        by_cases c39_1 : a2 = 1
        · refine mz_tsi (tgt := 85) rfl (mz_rg l_a2 u_a2) (by omega) (by omega) (by rw [c39_1]; rfl) rfl ?_
          refine mm_g 1 (pc1 := 86) (lo1 := [some (.ref 0), some (.int (Int32.ofInt a1)), some (.int (Int32.ofInt a2)), some (.ref u6)]) (st1 := [.ref u6]) (H1 := mz_mk g x) rfl ?_
          refine mz_gI rfl fd_11_225 (by decide) (kc_trunk k_u6 _) hI (kb_trunk_1 k_u6) (fun v9 e_v9 l_v9 u_v9 => ?_)
          exact mm_rt rfl rfl (hQ _ _ hI (fun _ _ _ => rfl) (by omega) (by omega))
        by_cases c39_2 : a2 = 2
        · refine mz_tsi (tgt := 90) rfl (mz_rg l_a2 u_a2) (by omega) (by omega) (by rw [c39_2]; rfl) rfl ?_
          refine mm_g 1 (pc1 := 91) (lo1 := [some (.ref 0), some (.int (Int32.ofInt a1)), some (.int (Int32.ofInt a2)), some (.ref u6)]) (st1 := [.ref u6]) (H1 := mz_mk g x) rfl ?_
          refine mz_gI rfl fd_11_234 (by decide) (kc_trunk k_u6 _) hI (kb_trunk_2 k_u6) (fun v10 e_v10 l_v10 u_v10 => ?_)
          exact mm_rt rfl rfl (hQ _ _ hI (fun _ _ _ => rfl) (by omega) (by omega))
        by_cases c39_3 : a2 = 3
        · refine mz_tsi (tgt := 95) rfl (mz_rg l_a2 u_a2) (by omega) (by omega) (by rw [c39_3]; rfl) rfl ?_
          refine mm_g 1 (pc1 := 96) (lo1 := [some (.ref 0), some (.int (Int32.ofInt a1)), some (.int (Int32.ofInt a2)), some (.ref u6)]) (st1 := [.ref u6]) (H1 := mz_mk g x) rfl ?_
          refine mz_gI rfl fd_11_237 (by decide) (kc_trunk k_u6 _) hI (kb_trunk_3 k_u6) (fun v11 e_v11 l_v11 u_v11 => ?_)
          exact mm_rt rfl rfl (hQ _ _ hI (fun _ _ _ => rfl) (by omega) (by omega))
        by_cases c39_4 : a2 = 4
        · refine mz_tsi (tgt := 100) rfl (mz_rg l_a2 u_a2) (by omega) (by omega) (by rw [c39_4]; rfl) rfl ?_
          refine mm_g 1 (pc1 := 101) (lo1 := [some (.ref 0), some (.int (Int32.ofInt a1)), some (.int (Int32.ofInt a2)), some (.ref u6)]) (st1 := [.ref 0]) (H1 := mz_mk g x) rfl ?_
          refine mz_fgR (v := x.1) rfl fd_11_16 (by decide) (sc_0 _) rfl ?_
          refine mm_g 1 (pc1 := 105) (lo1 := [some (.ref 0), some (.int (Int32.ofInt a1)), some (.int (Int32.ofInt a2)), some (.ref u6)]) (st1 := [.ref u6, .ref x.1]) (H1 := mz_mk g x) rfl ?_
          refine mz_cv rfl mt_11_240 (by decide) (kc_load (kx_1 hx) _) rfl (Nat.le_of_ble_eq_true rfl) (by omega) (c_X1_fullOf (by omega) hx hI (kx_1 hx) k_u6 (fun v12 l_v12 u_v12 => ⟨_, rfl, ?_⟩))
          show mm_W d mmX11_trunk 108 [some (.ref 0), some (.int (Int32.ofInt a1)), some (.int (Int32.ofInt a2)), some (.ref u6)] [.int (Int32.ofInt v12)] (mz_mk g x) Q
          exact mm_rt rfl rfl (hQ _ _ hI (fun _ _ _ => rfl) (by omega) (by omega))
        by_cases c39_5 : a2 = 5
        · refine mz_tsi (tgt := 109) rfl (mz_rg l_a2 u_a2) (by omega) (by omega) (by rw [c39_5]; rfl) rfl ?_
          refine mm_g 1 (pc1 := 110) (lo1 := [some (.ref 0), some (.int (Int32.ofInt a1)), some (.int (Int32.ofInt a2)), some (.ref u6)]) (st1 := [.ref 0]) (H1 := mz_mk g x) rfl ?_
          refine mz_fgR (v := x.1) rfl fd_11_16 (by decide) (sc_0 _) rfl ?_
          refine mm_g 1 (pc1 := 114) (lo1 := [some (.ref 0), some (.int (Int32.ofInt a1)), some (.int (Int32.ofInt a2)), some (.ref u6)]) (st1 := [.ref u6, .ref x.1]) (H1 := mz_mk g x) rfl ?_
          refine mz_cv rfl mt_11_244 (by decide) (kc_load (kx_1 hx) _) rfl (Nat.le_of_ble_eq_true rfl) (by omega) (c_X1_blendSize (by omega) hx hI (kx_1 hx) k_u6 (fun v13 l_v13 u_v13 => ⟨_, rfl, ?_⟩))
          show mm_W d mmX11_trunk 117 [some (.ref 0), some (.int (Int32.ofInt a1)), some (.int (Int32.ofInt a2)), some (.ref u6)] [.int (Int32.ofInt v13)] (mz_mk g x) Q
          exact mm_rt rfl rfl (hQ _ _ hI (fun _ _ _ => rfl) (by omega) (by omega))
        by_cases c39_6 : a2 = 6
        · refine mz_tsi (tgt := 118) rfl (mz_rg l_a2 u_a2) (by omega) (by omega) (by rw [c39_6]; rfl) rfl ?_
          refine mm_g 1 (pc1 := 119) (lo1 := [some (.ref 0), some (.int (Int32.ofInt a1)), some (.int (Int32.ofInt a2)), some (.ref u6)]) (st1 := [.ref u6]) (H1 := mz_mk g x) rfl ?_
          refine mz_gI rfl fd_11_196 (by decide) (kc_trunk k_u6 _) hI (kb_trunk_4 k_u6) (fun v14 e_v14 l_v14 u_v14 => ?_)
          refine mz_if_eq (tgt := 129) rfl rfl (mz_rg l_v14 u_v14) (fun c122_14 => ?_) (fun c122_14 => ?_)
          · skip
            refine mm_g 1 (pc1 := 130) (lo1 := [some (.ref 0), some (.int (Int32.ofInt a1)), some (.int (Int32.ofInt a2)), some (.ref u6)]) (st1 := [.int (Int32.ofInt 0)]) (H1 := mz_mk g x) rfl ?_
            exact mm_rt rfl rfl (hQ _ _ hI (fun _ _ _ => rfl) (by decide) (by decide))
          · skip
            refine mm_g 1 (pc1 := 126) (lo1 := [some (.ref 0), some (.int (Int32.ofInt a1)), some (.int (Int32.ofInt a2)), some (.ref u6)]) (st1 := [.int (Int32.ofInt 1)]) (H1 := mz_mk g x) rfl ?_
            refine mz_gt (tgt := 130) rfl rfl ?_
            exact mm_rt rfl rfl (hQ _ _ hI (fun _ _ _ => rfl) (by decide) (by decide))
        refine mz_tso (tgt := 131) rfl (mz_rg l_a2 u_a2) (by omega) rfl ?_
        refine mm_g 1 (pc1 := 132) (lo1 := [some (.ref 0), some (.int (Int32.ofInt a1)), some (.int (Int32.ofInt a2)), some (.ref u6)]) (st1 := [.ref 0]) (H1 := mz_mk g x) rfl ?_
        refine mz_cv rfl mt_11_247 (by decide) (sc_0 _) rfl (Nat.le_of_ble_eq_true rfl) (by omega) (c_X11_findCouples (by omega) hx hI (fun g15 hIg15 hfg15 => ⟨_, rfl, ?_⟩))
        show mm_W d mmX11_trunk 135 [some (.ref 0), some (.int (Int32.ofInt a1)), some (.int (Int32.ofInt a2)), some (.ref u6)] [] (mz_mk g15 x) Q
        refine mm_g 1 (pc1 := 136) (lo1 := [some (.ref 0), some (.int (Int32.ofInt a1)), some (.int (Int32.ofInt a2)), some (.ref u6)]) (st1 := [.ref 0]) (H1 := mz_mk g15 x) rfl ?_
        refine mz_fgR (v := 118) rfl fd_11_58 (by decide) (sc_0 _) (rf_0_9 _ _ _) ?_
        refine mm_g 1 (pc1 := 140) (lo1 := [some (.ref 0), some (.int (Int32.ofInt a1)), some (.int (Int32.ofInt a2)), some (.ref u6)]) (st1 := [.int (Int32.ofInt a1), .ref 118]) (H1 := mz_mk g15 x) rfl ?_
        refine mz_cv rfl mt_11_250 (by decide) (sc_118 _) rfl (Nat.le_of_ble_eq_true rfl) (by omega) (c_X3_partnerOf (by omega) hx hIg15 l_a1 u_a1 (fun v16 l_v16 u_v16 => ⟨_, rfl, ?_⟩))
        show mm_W d mmX11_trunk 143 [some (.ref 0), some (.int (Int32.ofInt a1)), some (.int (Int32.ofInt a2)), some (.ref u6)] [.int (Int32.ofInt v16)] (mz_mk g15 x) Q
        exact mm_rt rfl rfl (hQ _ _ hIg15 (fun k j hk => (hfg15 k j (fun h => hk (Or.elim h (fun h => (Or.inl h)) (fun h => (Or.elim h (fun h => (Or.inr (Or.inl h))) (fun h => (Or.elim h (fun h => (Or.inr (Or.inr (Or.inl h)))) (fun h => (Or.elim h (fun h => (Or.inr (Or.inr (Or.inr (Or.inl h))))) (fun h => (Or.elim h (fun h => (Or.inr (Or.inr (Or.inr (Or.inr (Or.inl h)))))) (fun h => (Or.elim h (fun h => (Or.inr (Or.inr (Or.inr (Or.inr (Or.inr (Or.inl h))))))) (fun h => (Or.elim h (fun h => (Or.inr (Or.inr (Or.inr (Or.inr (Or.inr (Or.inr (Or.inl h)))))))) (fun h => (Or.elim h (fun h => (Or.inr (Or.inr (Or.inr (Or.inr (Or.inr (Or.inr (Or.inr (Or.inl h))))))))) (fun h => (Or.inr (Or.inr (Or.inr (Or.inr (Or.inr (Or.inr (Or.inr (Or.inr h))))))))))))))))))))))))))) (by omega) (by omega))
def fl_X9_saveIn_11 (x : mm_X) (q0 : Nat) (q1 : Nat) (a2 : Int) : Nat → Nat → Prop := fun k j => k = q1
def fw_X9_saveIn (x : mm_X) (q0 : Nat) (q1 : Nat) (a2 : Int) : Nat → Nat → Prop := fun k j => k = q1
theorem c_X9_saveIn {d : Nat} (hd : 2 ≤ d) {x : mm_X} (hx : mk_x x) {g : mz_G} (hI : mz_inv g) {q0 : Nat} (h_q0 : kd_tks q0) {q1 n_q1 : Nat} (h_q1 : mm_SH x.2.2.2.1 q1 = (100, n_q1)) (m_q1 : n_q1 ≤ 2048) (b_q1 : ∀ j, mz_bd q1 j = (-2147483648, 2147483647)) {a2 : Int} (l_a2 : (-2147483648) ≤ a2) (u_a2 : a2 ≤ 2147483647) {Q : (Option Value ⊕ Nat) → mm_H → Prop} (hQ : ∀ (g1 : mz_G), mz_inv g1 → mz_fr (fw_X9_saveIn x q0 q1 a2) g g1 → Q (.inl none) (mz_mk g1 x)) : mm_C d 102 [.ref q0, .ref q1, .int (Int32.ofInt a2)] (mz_mk g x) Q := by
  have kn_q0 := kn_tks h_q0
  refine ⟨mmX9_saveIn, [some (.ref q0), some (.ref q1), some (.int (Int32.ofInt a2)), none, none, none], rfl, rfl, ?_⟩
  refine mm_g 3 (pc1 := 3) (lo1 := [some (.ref q0), some (.ref q1), some (.int (Int32.ofInt a2)), none, none, none]) (st1 := [.ref q0, .int (Int32.ofInt a2), .ref q1]) (H1 := mz_mk g x) rfl ?_
  refine mz_gI rfl fd_9_26 (by decide) (kc_tks h_q0 _) hI (kb_tks_3 h_q0) (fun v1 e_v1 l_v1 u_v1 => ?_)
  refine mz_cs rfl mt_9_53 (by decide) rfl (Nat.le_of_ble_eq_true rfl) (by omega) (c_X11_put (by omega) hx hI h_q1 (by omega) b_q1 (by omega) (by omega) l_a2 u_a2 l_v1 u_v1 (by omega) (by omega) (fun g2 hIg2 hfg2 => ⟨_, rfl, ?_⟩))
  show mm_W d mmX9_saveIn 9 [some (.ref q0), some (.ref q1), some (.int (Int32.ofInt a2)), none, none, none] [] (mz_mk g2 x) Q
  refine mm_g 2 (pc1 := 11) (lo1 := [some (.ref q0), some (.ref q1), some (.int (Int32.ofInt a2)), some (.int (Int32.ofInt 0)), none, none]) (st1 := []) (H1 := mz_mk g2 x) rfl ?_
  have L9 : ∀ n8 : Nat, ∀ (v3 : Int) (o4 : Option Value) (o5 : Option Value) (g6 : mz_G), (6 - v3).toNat = n8 → 0 ≤ v3 → v3 ≤ 6 → mz_nl o4 → mz_nl o5 → mz_inv g6 → mz_fr (fl_X9_saveIn_11 x q0 q1 a2) g2 g6 → mm_W d mmX9_saveIn 11 [some (.ref q0), some (.ref q1), some (.int (Int32.ofInt a2)), some (.int (Int32.ofInt v3)), o4, o5] [] (mz_mk g6 x) Q := by
    intro n8
    induction n8 using Nat.strongRecOn with
    | ind n8 ih7 =>
    intro v3 o4 o5 g6 hmn8 l_v3 u_v3 h_o4 h_o5 hIg6 hfg6
    refine mm_g 2 (pc1 := 13) (lo1 := [some (.ref q0), some (.ref q1), some (.int (Int32.ofInt a2)), some (.int (Int32.ofInt v3)), o4, o5]) (st1 := [.ref q0, .int (Int32.ofInt v3)]) (H1 := mz_mk g6 x) rfl ?_
    refine mz_gI rfl fd_9_22 (by decide) (kc_tks h_q0 _) hIg6 (kb_tks_2 h_q0) (fun v10 e_v10 l_v10 u_v10 => ?_)
    refine mz_ic_ge (tgt := 91) rfl rfl (mz_rg l_v3 u_v3) (mz_rg l_v10 u_v10) (fun c16_10 => ?_) (fun c16_10 => ?_)
    · skip
      exact mm_rt rfl rfl (hQ _ hIg6 (fun k j hk => ((hfg6 k j (fun h => hk h)).trans (hfg2 k j (fun h => hk h)))))
    · skip
      refine mm_g 2 (pc1 := 21) (lo1 := [some (.ref q0), some (.ref q1), some (.int (Int32.ofInt a2)), some (.int (Int32.ofInt v3)), o4, o5]) (st1 := [.int (Int32.ofInt v3), .ref q0]) (H1 := mz_mk g6 x) rfl ?_
      refine mz_cv rfl mt_9_29 (by decide) (kc_tks h_q0 _) rfl (Nat.le_of_ble_eq_true rfl) (by omega) (c_X9_get (by omega) hx hIg6 h_q0 (by omega) (by omega) (fun u11 k_u11 hp12 => ⟨_, rfl, ?_⟩))
      show mm_W d mmX9_saveIn 24 [some (.ref q0), some (.ref q1), some (.int (Int32.ofInt a2)), some (.int (Int32.ofInt v3)), o4, o5] [.ref u11] (mz_mk g6 x) Q
      refine mm_g 3 (pc1 := 28) (lo1 := [some (.ref q0), some (.ref q1), some (.int (Int32.ofInt a2)), some (.int (Int32.ofInt v3)), some (.ref u11), o5]) (st1 := [.int (Int32.ofInt 1), .int (Int32.ofInt a2)]) (H1 := mz_mk g6 x) rfl ?_
      refine mz_iadd_w rfl (fun v13 _ hwv13 => ?_)
      have l_v13 := hwv13.1
      have u_v13 := hwv13.2
      refine mm_g 2 (pc1 := 31) (lo1 := [some (.ref q0), some (.ref q1), some (.int (Int32.ofInt a2)), some (.int (Int32.ofInt v3)), some (.ref u11), o5]) (st1 := [.int (Int32.ofInt v3), .int (Int32.ofInt 4), .int (Int32.ofInt v13)]) (H1 := mz_mk g6 x) rfl ?_
      refine mz_imul rfl ?_
      refine mz_iadd_w rfl (fun v14 _ hwv14 => ?_)
      have l_v14 := hwv14.1
      have u_v14 := hwv14.2
      refine mm_g 4 (pc1 := 40) (lo1 := [some (.ref q0), some (.ref q1), some (.int (Int32.ofInt a2)), some (.int (Int32.ofInt v3)), some (.ref u11), some (.int (Int32.ofInt v14))]) (st1 := [.ref u11, .int (Int32.ofInt v14), .ref q1]) (H1 := mz_mk g6 x) rfl ?_
      refine mz_gI rfl fd_9_33 (by decide) (kc_trunk k_u11 _) hIg6 (kb_trunk_0 k_u11) (fun v15 e_v15 l_v15 u_v15 => ?_)
      refine mz_cs rfl mt_9_53 (by decide) rfl (Nat.le_of_ble_eq_true rfl) (by omega) (c_X11_put (by omega) hx hIg6 h_q1 (by omega) b_q1 (by omega) (by omega) l_v14 u_v14 l_v15 u_v15 (by omega) (by omega) (fun g16 hIg16 hfg16 => ⟨_, rfl, ?_⟩))
      show mm_W d mmX9_saveIn 46 [some (.ref q0), some (.ref q1), some (.int (Int32.ofInt a2)), some (.int (Int32.ofInt v3)), some (.ref u11), some (.int (Int32.ofInt v14))] [] (mz_mk g16 x) Q
      refine mm_g 3 (pc1 := 50) (lo1 := [some (.ref q0), some (.ref q1), some (.int (Int32.ofInt a2)), some (.int (Int32.ofInt v3)), some (.ref u11), some (.int (Int32.ofInt v14))]) (st1 := [.int (Int32.ofInt 1), .int (Int32.ofInt v14), .ref q1]) (H1 := mz_mk g16 x) rfl ?_
      refine mz_iadd_w rfl (fun v17 _ hwv17 => ?_)
      have l_v17 := hwv17.1
      have u_v17 := hwv17.2
      refine mm_g 1 (pc1 := 53) (lo1 := [some (.ref q0), some (.ref q1), some (.int (Int32.ofInt a2)), some (.int (Int32.ofInt v3)), some (.ref u11), some (.int (Int32.ofInt v14))]) (st1 := [.ref u11, .int (Int32.ofInt v17), .ref q1]) (H1 := mz_mk g16 x) rfl ?_
      refine mz_gI rfl fd_9_36 (by decide) (kc_trunk k_u11 _) hIg16 (kb_trunk_1 k_u11) (fun v18 e_v18 l_v18 u_v18 => ?_)
      refine mz_cs rfl mt_9_53 (by decide) rfl (Nat.le_of_ble_eq_true rfl) (by omega) (c_X11_put (by omega) hx hIg16 h_q1 (by omega) b_q1 (by omega) (by omega) l_v17 u_v17 l_v18 u_v18 (by omega) (by omega) (fun g19 hIg19 hfg19 => ⟨_, rfl, ?_⟩))
      show mm_W d mmX9_saveIn 59 [some (.ref q0), some (.ref q1), some (.int (Int32.ofInt a2)), some (.int (Int32.ofInt v3)), some (.ref u11), some (.int (Int32.ofInt v14))] [] (mz_mk g19 x) Q
      refine mm_g 3 (pc1 := 63) (lo1 := [some (.ref q0), some (.ref q1), some (.int (Int32.ofInt a2)), some (.int (Int32.ofInt v3)), some (.ref u11), some (.int (Int32.ofInt v14))]) (st1 := [.int (Int32.ofInt 2), .int (Int32.ofInt v14), .ref q1]) (H1 := mz_mk g19 x) rfl ?_
      refine mz_iadd_w rfl (fun v20 _ hwv20 => ?_)
      have l_v20 := hwv20.1
      have u_v20 := hwv20.2
      refine mm_g 1 (pc1 := 66) (lo1 := [some (.ref q0), some (.ref q1), some (.int (Int32.ofInt a2)), some (.int (Int32.ofInt v3)), some (.ref u11), some (.int (Int32.ofInt v14))]) (st1 := [.ref u11, .int (Int32.ofInt v20), .ref q1]) (H1 := mz_mk g19 x) rfl ?_
      refine mz_gI rfl fd_9_39 (by decide) (kc_trunk k_u11 _) hIg19 (kb_trunk_2 k_u11) (fun v21 e_v21 l_v21 u_v21 => ?_)
      refine mz_cs rfl mt_9_53 (by decide) rfl (Nat.le_of_ble_eq_true rfl) (by omega) (c_X11_put (by omega) hx hIg19 h_q1 (by omega) b_q1 (by omega) (by omega) l_v20 u_v20 l_v21 u_v21 (by omega) (by omega) (fun g22 hIg22 hfg22 => ⟨_, rfl, ?_⟩))
      show mm_W d mmX9_saveIn 72 [some (.ref q0), some (.ref q1), some (.int (Int32.ofInt a2)), some (.int (Int32.ofInt v3)), some (.ref u11), some (.int (Int32.ofInt v14))] [] (mz_mk g22 x) Q
      refine mm_g 3 (pc1 := 76) (lo1 := [some (.ref q0), some (.ref q1), some (.int (Int32.ofInt a2)), some (.int (Int32.ofInt v3)), some (.ref u11), some (.int (Int32.ofInt v14))]) (st1 := [.int (Int32.ofInt 3), .int (Int32.ofInt v14), .ref q1]) (H1 := mz_mk g22 x) rfl ?_
      refine mz_iadd_w rfl (fun v23 _ hwv23 => ?_)
      have l_v23 := hwv23.1
      have u_v23 := hwv23.2
      refine mm_g 1 (pc1 := 79) (lo1 := [some (.ref q0), some (.ref q1), some (.int (Int32.ofInt a2)), some (.int (Int32.ofInt v3)), some (.ref u11), some (.int (Int32.ofInt v14))]) (st1 := [.ref u11, .int (Int32.ofInt v23), .ref q1]) (H1 := mz_mk g22 x) rfl ?_
      refine mz_gI rfl fd_9_42 (by decide) (kc_trunk k_u11 _) hIg22 (kb_trunk_3 k_u11) (fun v24 e_v24 l_v24 u_v24 => ?_)
      refine mz_cs rfl mt_9_53 (by decide) rfl (Nat.le_of_ble_eq_true rfl) (by omega) (c_X11_put (by omega) hx hIg22 h_q1 (by omega) b_q1 (by omega) (by omega) l_v23 u_v23 l_v24 u_v24 (by omega) (by omega) (fun g25 hIg25 hfg25 => ⟨_, rfl, ?_⟩))
      show mm_W d mmX9_saveIn 85 [some (.ref q0), some (.ref q1), some (.int (Int32.ofInt a2)), some (.int (Int32.ofInt v3)), some (.ref u11), some (.int (Int32.ofInt v14))] [] (mz_mk g25 x) Q
      refine mz_iincR (v := v3) (lo2 := [some (.ref q0), some (.ref q1), some (.int (Int32.ofInt a2)), some (.int (Int32.ofInt (v3 + 1))), some (.ref u11), some (.int (Int32.ofInt v14))]) rfl rfl rfl (Nat.le_of_ble_eq_true rfl) rfl ?_
      refine mz_gt (tgt := 11) rfl rfl ?_
      exact ih7 ((6 - (v3 + 1)).toNat) (by omega) (v3 + 1) (some (.ref u11)) (some (.int (Int32.ofInt v14))) g25 rfl (by omega) (by omega) (mz_nl_r _) (mz_nl_i _) hIg25 (fun k j hk => ((hfg25 k j (fun h => hk h)).trans ((hfg22 k j (fun h => hk h)).trans ((hfg19 k j (fun h => hk h)).trans ((hfg16 k j (fun h => hk h)).trans (hfg6 k j (fun h => hk h)))))))
  exact L9 _ 0 none none g2 rfl (by decide) (by decide) mz_nl_n mz_nl_n hIg2 (fun _ _ _ => rfl)
def fw_X6_keepAct (x : mm_X) (q0 : Nat) : Nat → Nat → Prop := fun k j => k = (q0 + 10) ∨ k = q0
theorem c_X6_keepAct {d : Nat} (hd : 3 ≤ d) {x : mm_X} (hx : mk_x x) {g : mz_G} (hI : mz_inv g) {q0 : Nat} (h_q0 : kd_story q0) {Q : (Option Value ⊕ Nat) → mm_H → Prop} (hQ : ∀ (g1 : mz_G), mz_inv g1 → mz_fr (fw_X6_keepAct x q0) g g1 → Q (.inl none) (mz_mk g1 x)) : mm_C d 71 [.ref q0] (mz_mk g x) Q := by
  have kn_q0 := kn_story h_q0
  refine ⟨mmX6_keepAct, [some (.ref q0)], rfl, rfl, ?_⟩
  refine mm_g 1 (pc1 := 1) (lo1 := [some (.ref q0)]) (st1 := [.ref q0]) (H1 := mz_mk g x) rfl ?_
  refine mz_fgR (v := (q0 + 1)) rfl fd_6_12 (by decide) (kc_story h_q0 _) (kr_story_0 h_q0 _ _ _) ?_
  refine mm_g 1 (pc1 := 5) (lo1 := [some (.ref q0)]) (st1 := [.ref q0, .ref (q0 + 1)]) (H1 := mz_mk g x) rfl ?_
  refine mz_fgR (v := (q0 + 10)) rfl fd_6_18 (by decide) (kc_story h_q0 _) (kr_story_1 h_q0 _ _ _) ?_
  refine mm_g 1 (pc1 := 9) (lo1 := [some (.ref q0)]) (st1 := [.ref q0, .ref (q0 + 10), .ref (q0 + 1)]) (H1 := mz_mk g x) rfl ?_
  refine mz_gI rfl fd_6_22 (by decide) (kc_story h_q0 _) hI (kb_story_2 h_q0) (fun v1 e_v1 l_v1 u_v1 => ?_)
  refine mm_g 1 (pc1 := 13) (lo1 := [some (.ref q0)]) (st1 := [.ref q0, .int (Int32.ofInt v1), .ref (q0 + 10), .ref (q0 + 1)]) (H1 := mz_mk g x) rfl ?_
  refine mz_gI rfl fd_6_26 (by decide) (kc_story h_q0 _) hI (kb_story_3 h_q0) (fun v2 e_v2 l_v2 u_v2 => ?_)
  refine mz_iadd rfl ?_
  refine mz_bip rfl bip_40 ?_
  refine mz_iremq rfl ⟨by omega, by omega⟩ ⟨by decide, by decide⟩ (by omega) (by omega) (fun v3 e_v3 l_v3 w_v3 z_v3 => ?_)
  have u_v3 : v3 ≤ 39 := by omega
  refine mz_bip rfl bip_25 ?_
  refine mz_imul rfl ?_
  refine mz_cv rfl mt_6_60 (by decide) (kc_tks (ks_story_0 h_q0) _) rfl (Nat.le_of_ble_eq_true rfl) (by omega) (c_X9_saveIn (by omega) hx hI (ks_story_0 h_q0) (ka_story_1 h_q0 _) (by decide) (kba_story_1 h_q0) (by omega) (by omega) (fun g4 hIg4 hfg4 => ⟨_, rfl, ?_⟩))
  show mm_W d mmX6_keepAct 26 [some (.ref q0)] [] (mz_mk g4 x) Q
  refine mm_g 1 (pc1 := 27) (lo1 := [some (.ref q0)]) (st1 := [.ref q0]) (H1 := mz_mk g4 x) rfl ?_
  refine mz_fgI (v := v2) rfl fd_6_26 (by decide) (kc_story h_q0 _) (show g4 q0 3 = v2 from ((hfg4 q0 3 (fun h => (by have h9 : q0 = (q0 + 10) := h; omega))).trans e_v2)) ?_
  refine mz_bip rfl bip_40 ?_
  refine mz_ic_ge (tgt := 48) rfl rfl (mz_rg l_v2 u_v2) ⟨by decide, by decide⟩ (fun c32_4 => ?_) (fun c32_4 => ?_)
  · skip
    refine mm_g 2 (pc1 := 50) (lo1 := [some (.ref q0)]) (st1 := [.ref q0, .ref q0]) (H1 := mz_mk g4 x) rfl ?_
    refine mz_fgI (v := v1) rfl fd_6_22 (by decide) (kc_story h_q0 _) (show g4 q0 2 = v1 from ((hfg4 q0 2 (fun h => (by have h9 : q0 = (q0 + 10) := h; omega))).trans e_v1)) ?_
    refine mm_g 1 (pc1 := 54) (lo1 := [some (.ref q0)]) (st1 := [.int (Int32.ofInt 1), .int (Int32.ofInt v1), .ref q0]) (H1 := mz_mk g4 x) rfl ?_
    refine mz_iadd rfl ?_
    refine mz_bip rfl bip_40 ?_
    refine mz_iremq rfl ⟨by omega, by omega⟩ ⟨by decide, by decide⟩ (by omega) (by omega) (fun v5 e_v5 l_v5 w_v5 z_v5 => ?_)
    have u_v5 : v5 ≤ 39 := by omega
    refine mz_pI rfl fd_6_22 (kc_story h_q0 _) hIg4 (kb_story_2 h_q0) (by omega) (by omega) (fun g6 hIg6 hug6 => ?_)
    exact mm_rt rfl rfl (hQ _ hIg6 (fun k j hk => ((hug6.2 k j (fun h => hk (Or.inr h.1))).trans (hfg4 k j (fun h => hk (Or.inl h))))))
  · skip
    refine mm_g 2 (pc1 := 37) (lo1 := [some (.ref q0)]) (st1 := [.ref q0, .ref q0]) (H1 := mz_mk g4 x) rfl ?_
    refine mz_fgI (v := v2) rfl fd_6_26 (by decide) (kc_story h_q0 _) (show g4 q0 3 = v2 from ((hfg4 q0 3 (fun h => (by have h9 : q0 = (q0 + 10) := h; omega))).trans e_v2)) ?_
    refine mm_g 1 (pc1 := 41) (lo1 := [some (.ref q0)]) (st1 := [.int (Int32.ofInt 1), .int (Int32.ofInt v2), .ref q0]) (H1 := mz_mk g4 x) rfl ?_
    refine mz_iadd rfl ?_
    refine mz_pI rfl fd_6_26 (kc_story h_q0 _) hIg4 (kb_story_3 h_q0) (by omega) (by omega) (fun g7 hIg7 hug7 => ?_)
    refine mz_gt (tgt := 61) rfl rfl ?_
    exact mm_rt rfl rfl (hQ _ hIg7 (fun k j hk => ((hug7.2 k j (fun h => hk (Or.inr h.1))).trans (hfg4 k j (fun h => hk (Or.inl h))))))
def fw_X5_setTrunk (x : mm_X) (q0 : Nat) (q1 : Nat) (a2 : Int) (a3 : Int) : Nat → Nat → Prop := fun k j => k = (q0 + 2)
theorem c_X5_setTrunk {d : Nat} (hd : 2 ≤ d) {x : mm_X} (hx : mk_x x) {g : mz_G} (hI : mz_inv g) {q0 : Nat} (h_q0 : kd_rule q0) {q1 : Nat} (h_q1 : kd_trunk q1) {a2 : Int} (l_a2 : (-2147483648) ≤ a2) (u_a2 : a2 ≤ 2147483647) {a3 : Int} (l_a3 : (-2147483648) ≤ a3) (u_a3 : a3 ≤ 2147483647) {Q : (Option Value ⊕ Nat) → mm_H → Prop} (hQ : ∀ (g1 : mz_G), mz_inv g1 → mz_fr (fw_X5_setTrunk x q0 q1 a2 a3) g g1 → Q (.inl none) (mz_mk g1 x)) : mm_C d 61 [.ref q0, .ref q1, .int (Int32.ofInt a2), .int (Int32.ofInt a3)] (mz_mk g x) Q := by
  have kn_q0 := kn_rule h_q0
  have kn_q1 := kn_trunk h_q1
  refine ⟨mmX5_setTrunk, [some (.ref q0), some (.ref q1), some (.int (Int32.ofInt a2)), some (.int (Int32.ofInt a3))], rfl, rfl, ?_⟩
  refine mm_g 1 (pc1 := 1) (lo1 := [some (.ref q0), some (.ref q1), some (.int (Int32.ofInt a2)), some (.int (Int32.ofInt a3))]) (st1 := [.ref q0]) (H1 := mz_mk g x) rfl ?_
  refine mz_fgR (v := (q0 + 2)) rfl fd_5_19 (by decide) (kc_rule h_q0 _) (kr_rule_2 h_q0 _ _ _) ?_
  refine mm_g 2 (pc1 := 6) (lo1 := [some (.ref q0), some (.ref q1), some (.int (Int32.ofInt a2)), some (.int (Int32.ofInt a3))]) (st1 := [.ref q1, .int (Int32.ofInt 0), .ref (q0 + 2)]) (H1 := mz_mk g x) rfl ?_
  refine mz_gI rfl fd_5_29 (by decide) (kc_trunk h_q1 _) hI (kb_trunk_2 h_q1) (fun v1 e_v1 l_v1 u_v1 => ?_)
  refine mz_cs rfl mt_5_25 (by decide) rfl (Nat.le_of_ble_eq_true rfl) (by omega) (c_X11_put (by omega) hx hI (ka_rule_2 h_q0 _) (by decide) (kba_rule_2 h_q0) (by omega) (by omega) (by decide) (by decide) l_v1 u_v1 (by omega) (by omega) (fun g2 hIg2 hfg2 => ⟨_, rfl, ?_⟩))
  show mm_W d mmX5_setTrunk 12 [some (.ref q0), some (.ref q1), some (.int (Int32.ofInt a2)), some (.int (Int32.ofInt a3))] [] (mz_mk g2 x) Q
  refine mm_g 1 (pc1 := 13) (lo1 := [some (.ref q0), some (.ref q1), some (.int (Int32.ofInt a2)), some (.int (Int32.ofInt a3))]) (st1 := [.ref q0]) (H1 := mz_mk g2 x) rfl ?_
  refine mz_fgR (v := (q0 + 2)) rfl fd_5_19 (by decide) (kc_rule h_q0 _) (kr_rule_2 h_q0 _ _ _) ?_
  refine mm_g 2 (pc1 := 18) (lo1 := [some (.ref q0), some (.ref q1), some (.int (Int32.ofInt a2)), some (.int (Int32.ofInt a3))]) (st1 := [.ref q1, .int (Int32.ofInt 2), .ref (q0 + 2)]) (H1 := mz_mk g2 x) rfl ?_
  refine mz_gI rfl fd_5_34 (by decide) (kc_trunk h_q1 _) hIg2 (kb_trunk_3 h_q1) (fun v3 e_v3 l_v3 u_v3 => ?_)
  refine mz_cs rfl mt_5_25 (by decide) rfl (Nat.le_of_ble_eq_true rfl) (by omega) (c_X11_put (by omega) hx hIg2 (ka_rule_2 h_q0 _) (by decide) (kba_rule_2 h_q0) (by omega) (by omega) (by decide) (by decide) l_v3 u_v3 (by omega) (by omega) (fun g4 hIg4 hfg4 => ⟨_, rfl, ?_⟩))
  show mm_W d mmX5_setTrunk 24 [some (.ref q0), some (.ref q1), some (.int (Int32.ofInt a2)), some (.int (Int32.ofInt a3))] [] (mz_mk g4 x) Q
  refine mm_g 1 (pc1 := 25) (lo1 := [some (.ref q0), some (.ref q1), some (.int (Int32.ofInt a2)), some (.int (Int32.ofInt a3))]) (st1 := [.ref q0]) (H1 := mz_mk g4 x) rfl ?_
  refine mz_fgR (v := (q0 + 2)) rfl fd_5_19 (by decide) (kc_rule h_q0 _) (kr_rule_2 h_q0 _ _ _) ?_
  refine mz_bip rfl bip_6 ?_
  refine mm_g 1 (pc1 := 31) (lo1 := [some (.ref q0), some (.ref q1), some (.int (Int32.ofInt a2)), some (.int (Int32.ofInt a3))]) (st1 := [.int (Int32.ofInt a2), .int (Int32.ofInt 6), .ref (q0 + 2)]) (H1 := mz_mk g4 x) rfl ?_
  refine mz_cs rfl mt_5_25 (by decide) rfl (Nat.le_of_ble_eq_true rfl) (by omega) (c_X11_put (by omega) hx hIg4 (ka_rule_2 h_q0 _) (by decide) (kba_rule_2 h_q0) (by omega) (by omega) (by decide) (by decide) l_a2 u_a2 (by omega) (by omega) (fun g5 hIg5 hfg5 => ⟨_, rfl, ?_⟩))
  show mm_W d mmX5_setTrunk 34 [some (.ref q0), some (.ref q1), some (.int (Int32.ofInt a2)), some (.int (Int32.ofInt a3))] [] (mz_mk g5 x) Q
  refine mm_g 1 (pc1 := 35) (lo1 := [some (.ref q0), some (.ref q1), some (.int (Int32.ofInt a2)), some (.int (Int32.ofInt a3))]) (st1 := [.ref q0]) (H1 := mz_mk g5 x) rfl ?_
  refine mz_fgR (v := (q0 + 2)) rfl fd_5_19 (by decide) (kc_rule h_q0 _) (kr_rule_2 h_q0 _ _ _) ?_
  refine mm_g 2 (pc1 := 40) (lo1 := [some (.ref q0), some (.ref q1), some (.int (Int32.ofInt a2)), some (.int (Int32.ofInt a3))]) (st1 := [.int (Int32.ofInt a3), .int (Int32.ofInt 1), .ref (q0 + 2)]) (H1 := mz_mk g5 x) rfl ?_
  refine mz_cs rfl mt_5_25 (by decide) rfl (Nat.le_of_ble_eq_true rfl) (by omega) (c_X11_put (by omega) hx hIg5 (ka_rule_2 h_q0 _) (by decide) (kba_rule_2 h_q0) (by omega) (by omega) (by decide) (by decide) l_a3 u_a3 (by omega) (by omega) (fun g6 hIg6 hfg6 => ⟨_, rfl, ?_⟩))
  show mm_W d mmX5_setTrunk 43 [some (.ref q0), some (.ref q1), some (.int (Int32.ofInt a2)), some (.int (Int32.ofInt a3))] [] (mz_mk g6 x) Q
  exact mm_rt rfl rfl (hQ _ hIg6 (fun k j hk => ((hfg6 k j (fun h => hk h)).trans ((hfg5 k j (fun h => hk h)).trans ((hfg4 k j (fun h => hk h)).trans (hfg2 k j (fun h => hk h)))))))
def fw_X5_setWords (x : mm_X) (q0 : Nat) (a1 : Int) (a2 : Int) (a3 : Int) : Nat → Nat → Prop := fun k j => k = (q0 + 2)
theorem c_X5_setWords {d : Nat} (hd : 2 ≤ d) {x : mm_X} (hx : mk_x x) {g : mz_G} (hI : mz_inv g) {q0 : Nat} (h_q0 : kd_rule q0) {a1 : Int} (l_a1 : (-2147483648) ≤ a1) (u_a1 : a1 ≤ 2147483647) {a2 : Int} (l_a2 : (-2147483648) ≤ a2) (u_a2 : a2 ≤ 2147483647) {a3 : Int} (l_a3 : (-2147483648) ≤ a3) (u_a3 : a3 ≤ 2147483647) {Q : (Option Value ⊕ Nat) → mm_H → Prop} (hQ : ∀ (g1 : mz_G), mz_inv g1 → mz_fr (fw_X5_setWords x q0 a1 a2 a3) g g1 → Q (.inl none) (mz_mk g1 x)) : mm_C d 62 [.ref q0, .int (Int32.ofInt a1), .int (Int32.ofInt a2), .int (Int32.ofInt a3)] (mz_mk g x) Q := by
  have kn_q0 := kn_rule h_q0
  refine ⟨mmX5_setWords, [some (.ref q0), some (.int (Int32.ofInt a1)), some (.int (Int32.ofInt a2)), some (.int (Int32.ofInt a3))], rfl, rfl, ?_⟩
  refine mm_g 1 (pc1 := 1) (lo1 := [some (.ref q0), some (.int (Int32.ofInt a1)), some (.int (Int32.ofInt a2)), some (.int (Int32.ofInt a3))]) (st1 := [.ref q0]) (H1 := mz_mk g x) rfl ?_
  refine mz_fgR (v := (q0 + 2)) rfl fd_5_19 (by decide) (kc_rule h_q0 _) (kr_rule_2 h_q0 _ _ _) ?_
  refine mm_g 2 (pc1 := 6) (lo1 := [some (.ref q0), some (.int (Int32.ofInt a1)), some (.int (Int32.ofInt a2)), some (.int (Int32.ofInt a3))]) (st1 := [.int (Int32.ofInt a1), .int (Int32.ofInt 3), .ref (q0 + 2)]) (H1 := mz_mk g x) rfl ?_
  refine mz_cs rfl mt_5_25 (by decide) rfl (Nat.le_of_ble_eq_true rfl) (by omega) (c_X11_put (by omega) hx hI (ka_rule_2 h_q0 _) (by decide) (kba_rule_2 h_q0) (by omega) (by omega) (by decide) (by decide) l_a1 u_a1 (by omega) (by omega) (fun g1 hIg1 hfg1 => ⟨_, rfl, ?_⟩))
  show mm_W d mmX5_setWords 9 [some (.ref q0), some (.int (Int32.ofInt a1)), some (.int (Int32.ofInt a2)), some (.int (Int32.ofInt a3))] [] (mz_mk g1 x) Q
  refine mm_g 1 (pc1 := 10) (lo1 := [some (.ref q0), some (.int (Int32.ofInt a1)), some (.int (Int32.ofInt a2)), some (.int (Int32.ofInt a3))]) (st1 := [.ref q0]) (H1 := mz_mk g1 x) rfl ?_
  refine mz_fgR (v := (q0 + 2)) rfl fd_5_19 (by decide) (kc_rule h_q0 _) (kr_rule_2 h_q0 _ _ _) ?_
  refine mm_g 2 (pc1 := 15) (lo1 := [some (.ref q0), some (.int (Int32.ofInt a1)), some (.int (Int32.ofInt a2)), some (.int (Int32.ofInt a3))]) (st1 := [.int (Int32.ofInt a2), .int (Int32.ofInt 4), .ref (q0 + 2)]) (H1 := mz_mk g1 x) rfl ?_
  refine mz_cs rfl mt_5_25 (by decide) rfl (Nat.le_of_ble_eq_true rfl) (by omega) (c_X11_put (by omega) hx hIg1 (ka_rule_2 h_q0 _) (by decide) (kba_rule_2 h_q0) (by omega) (by omega) (by decide) (by decide) l_a2 u_a2 (by omega) (by omega) (fun g2 hIg2 hfg2 => ⟨_, rfl, ?_⟩))
  show mm_W d mmX5_setWords 18 [some (.ref q0), some (.int (Int32.ofInt a1)), some (.int (Int32.ofInt a2)), some (.int (Int32.ofInt a3))] [] (mz_mk g2 x) Q
  refine mm_g 1 (pc1 := 19) (lo1 := [some (.ref q0), some (.int (Int32.ofInt a1)), some (.int (Int32.ofInt a2)), some (.int (Int32.ofInt a3))]) (st1 := [.ref q0]) (H1 := mz_mk g2 x) rfl ?_
  refine mz_fgR (v := (q0 + 2)) rfl fd_5_19 (by decide) (kc_rule h_q0 _) (kr_rule_2 h_q0 _ _ _) ?_
  refine mm_g 2 (pc1 := 24) (lo1 := [some (.ref q0), some (.int (Int32.ofInt a1)), some (.int (Int32.ofInt a2)), some (.int (Int32.ofInt a3))]) (st1 := [.int (Int32.ofInt a3), .int (Int32.ofInt 5), .ref (q0 + 2)]) (H1 := mz_mk g2 x) rfl ?_
  refine mz_cs rfl mt_5_25 (by decide) rfl (Nat.le_of_ble_eq_true rfl) (by omega) (c_X11_put (by omega) hx hIg2 (ka_rule_2 h_q0 _) (by decide) (kba_rule_2 h_q0) (by omega) (by omega) (by decide) (by decide) l_a3 u_a3 (by omega) (by omega) (fun g3 hIg3 hfg3 => ⟨_, rfl, ?_⟩))
  show mm_W d mmX5_setWords 27 [some (.ref q0), some (.int (Int32.ofInt a1)), some (.int (Int32.ofInt a2)), some (.int (Int32.ofInt a3))] [] (mz_mk g3 x) Q
  exact mm_rt rfl rfl (hQ _ hIg3 (fun k j hk => ((hfg3 k j (fun h => hk h)).trans ((hfg2 k j (fun h => hk h)).trans (hfg1 k j (fun h => hk h))))))
theorem c_X5_joined {d : Nat} (hd : 1 ≤ d) {x : mm_X} (hx : mk_x x) {g : mz_G} (hI : mz_inv g) {a1 : Int} (l_a1 : (-2147483648) ≤ a1) (u_a1 : a1 ≤ 2147483647) {a2 : Int} (l_a2 : (-2147483648) ≤ a2) (u_a2 : a2 ≤ 2147483647) {a3 : Int} (l_a3 : (-2147483648) ≤ a3) (u_a3 : a3 ≤ 2147483647) {Q : (Option Value ⊕ Nat) → mm_H → Prop} (hQ : ∀ (r : Int), (-2147483648) ≤ r → r ≤ 2147483647 → Q (.inl (some (.int (Int32.ofInt r)))) (mz_mk g x)) : mm_C d 64 [.int (Int32.ofInt a1), .int (Int32.ofInt a2), .int (Int32.ofInt a3)] (mz_mk g x) Q := by
  refine ⟨mmX5_joined, [some (.int (Int32.ofInt a1)), some (.int (Int32.ofInt a2)), some (.int (Int32.ofInt a3))], rfl, rfl, ?_⟩
  refine mm_g 1 (pc1 := 1) (lo1 := [some (.int (Int32.ofInt a1)), some (.int (Int32.ofInt a2)), some (.int (Int32.ofInt a3))]) (st1 := [.int (Int32.ofInt a1)]) (H1 := mz_mk g x) rfl ?_
  by_cases c1_0 : a1 = (-18)
  · refine mz_tsi (tgt := 106) rfl (mz_rg l_a1 u_a1) (by omega) (by omega) (by rw [c1_0]; rfl) rfl ?_
    refine mm_g 2 (pc1 := 108) (lo1 := [some (.int (Int32.ofInt a1)), some (.int (Int32.ofInt a2)), some (.int (Int32.ofInt a3))]) (st1 := [.int (Int32.ofInt a3), .int (Int32.ofInt a2)]) (H1 := mz_mk g x) rfl ?_
    refine mz_imul_w rfl (fun v1 _ hwv1 => ?_)
    have l_v1 := hwv1.1
    have u_v1 := hwv1.2
    exact mm_rt rfl rfl (hQ _ (by omega) (by omega))
  by_cases c1_1 : a1 = (-17)
  · refine mz_tsi (tgt := 102) rfl (mz_rg l_a1 u_a1) (by omega) (by omega) (by rw [c1_1]; rfl) rfl ?_
    refine mm_g 2 (pc1 := 104) (lo1 := [some (.int (Int32.ofInt a1)), some (.int (Int32.ofInt a2)), some (.int (Int32.ofInt a3))]) (st1 := [.int (Int32.ofInt a3), .int (Int32.ofInt a2)]) (H1 := mz_mk g x) rfl ?_
    refine mz_isub_w rfl (fun v2 _ hwv2 => ?_)
    have l_v2 := hwv2.1
    have u_v2 := hwv2.2
    exact mm_rt rfl rfl (hQ _ (by omega) (by omega))
  by_cases c1_2 : a1 = (-16)
  · refine mz_tsi (tgt := 98) rfl (mz_rg l_a1 u_a1) (by omega) (by omega) (by rw [c1_2]; rfl) rfl ?_
    refine mm_g 2 (pc1 := 100) (lo1 := [some (.int (Int32.ofInt a1)), some (.int (Int32.ofInt a2)), some (.int (Int32.ofInt a3))]) (st1 := [.int (Int32.ofInt a3), .int (Int32.ofInt a2)]) (H1 := mz_mk g x) rfl ?_
    refine mz_iadd_w rfl (fun v3 _ hwv3 => ?_)
    have l_v3 := hwv3.1
    have u_v3 := hwv3.2
    exact mm_rt rfl rfl (hQ _ (by omega) (by omega))
  by_cases c1_3 : a1 = (-15)
  · refine mz_tsi (tgt := 87) rfl (mz_rg l_a1 u_a1) (by omega) (by omega) (by rw [c1_3]; rfl) rfl ?_
    refine mm_g 2 (pc1 := 89) (lo1 := [some (.int (Int32.ofInt a1)), some (.int (Int32.ofInt a2)), some (.int (Int32.ofInt a3))]) (st1 := [.int (Int32.ofInt a3), .int (Int32.ofInt a2)]) (H1 := mz_mk g x) rfl ?_
    refine mz_ic_ne (tgt := 96) rfl rfl (mz_rg l_a2 u_a2) (mz_rg l_a3 u_a3) (fun c89_3 => ?_) (fun c89_3 => ?_)
    · skip
      refine mm_g 1 (pc1 := 97) (lo1 := [some (.int (Int32.ofInt a1)), some (.int (Int32.ofInt a2)), some (.int (Int32.ofInt a3))]) (st1 := [.int (Int32.ofInt 0)]) (H1 := mz_mk g x) rfl ?_
      exact mm_rt rfl rfl (hQ _ (by decide) (by decide))
    · skip
      refine mm_g 1 (pc1 := 93) (lo1 := [some (.int (Int32.ofInt a1)), some (.int (Int32.ofInt a2)), some (.int (Int32.ofInt a3))]) (st1 := [.int (Int32.ofInt 1)]) (H1 := mz_mk g x) rfl ?_
      refine mz_gt (tgt := 97) rfl rfl ?_
      exact mm_rt rfl rfl (hQ _ (by decide) (by decide))
  by_cases c1_4 : a1 = (-14)
  · refine mz_tsi (tgt := 76) rfl (mz_rg l_a1 u_a1) (by omega) (by omega) (by rw [c1_4]; rfl) rfl ?_
    refine mm_g 2 (pc1 := 78) (lo1 := [some (.int (Int32.ofInt a1)), some (.int (Int32.ofInt a2)), some (.int (Int32.ofInt a3))]) (st1 := [.int (Int32.ofInt a3), .int (Int32.ofInt a2)]) (H1 := mz_mk g x) rfl ?_
    refine mz_ic_ge (tgt := 85) rfl rfl (mz_rg l_a2 u_a2) (mz_rg l_a3 u_a3) (fun c78_3 => ?_) (fun c78_3 => ?_)
    · skip
      refine mm_g 1 (pc1 := 86) (lo1 := [some (.int (Int32.ofInt a1)), some (.int (Int32.ofInt a2)), some (.int (Int32.ofInt a3))]) (st1 := [.int (Int32.ofInt 0)]) (H1 := mz_mk g x) rfl ?_
      exact mm_rt rfl rfl (hQ _ (by decide) (by decide))
    · skip
      refine mm_g 1 (pc1 := 82) (lo1 := [some (.int (Int32.ofInt a1)), some (.int (Int32.ofInt a2)), some (.int (Int32.ofInt a3))]) (st1 := [.int (Int32.ofInt 1)]) (H1 := mz_mk g x) rfl ?_
      refine mz_gt (tgt := 86) rfl rfl ?_
      exact mm_rt rfl rfl (hQ _ (by decide) (by decide))
  by_cases c1_5 : a1 = (-13)
  · refine mz_tsi (tgt := 110) rfl (mz_rg l_a1 u_a1) (by omega) (by omega) (by rw [c1_5]; rfl) rfl ?_
    refine mm_g 1 (pc1 := 111) (lo1 := [some (.int (Int32.ofInt a1)), some (.int (Int32.ofInt a2)), some (.int (Int32.ofInt a3))]) (st1 := [.int (Int32.ofInt a3)]) (H1 := mz_mk g x) rfl ?_
    refine mz_if_ne (tgt := 118) rfl rfl (mz_rg l_a3 u_a3) (fun c111_3 => ?_) (fun c111_3 => ?_)
    · skip
      refine mm_g 2 (pc1 := 120) (lo1 := [some (.int (Int32.ofInt a1)), some (.int (Int32.ofInt a2)), some (.int (Int32.ofInt a3))]) (st1 := [.int (Int32.ofInt a3), .int (Int32.ofInt a2)]) (H1 := mz_mk g x) rfl ?_
      refine mz_idiv rfl (mz_rg l_a3 u_a3) (by omega) (fun v4 _ hwv4 => ?_)
      have l_v4 := hwv4.1
      have u_v4 := hwv4.2
      exact mm_rt rfl rfl (hQ _ (by omega) (by omega))
    · skip
      refine mm_g 1 (pc1 := 115) (lo1 := [some (.int (Int32.ofInt a1)), some (.int (Int32.ofInt a2)), some (.int (Int32.ofInt a3))]) (st1 := [.int (Int32.ofInt 0)]) (H1 := mz_mk g x) rfl ?_
      refine mz_gt (tgt := 121) rfl rfl ?_
      exact mm_rt rfl rfl (hQ _ (by decide) (by decide))
  by_cases c1_6 : a1 = (-12)
  · refine mz_tsi (tgt := 62) rfl (mz_rg l_a1 u_a1) (by omega) (by omega) (by rw [c1_6]; rfl) rfl ?_
    refine mm_g 1 (pc1 := 63) (lo1 := [some (.int (Int32.ofInt a1)), some (.int (Int32.ofInt a2)), some (.int (Int32.ofInt a3))]) (st1 := [.int (Int32.ofInt a2)]) (H1 := mz_mk g x) rfl ?_
    refine mz_if_eq (tgt := 74) rfl rfl (mz_rg l_a2 u_a2) (fun c63_4 => ?_) (fun c63_4 => ?_)
    · skip
      refine mm_g 1 (pc1 := 75) (lo1 := [some (.int (Int32.ofInt a1)), some (.int (Int32.ofInt a2)), some (.int (Int32.ofInt a3))]) (st1 := [.int (Int32.ofInt 0)]) (H1 := mz_mk g x) rfl ?_
      exact mm_rt rfl rfl (hQ _ (by decide) (by decide))
    · skip
      refine mm_g 1 (pc1 := 67) (lo1 := [some (.int (Int32.ofInt a1)), some (.int (Int32.ofInt a2)), some (.int (Int32.ofInt a3))]) (st1 := [.int (Int32.ofInt a3)]) (H1 := mz_mk g x) rfl ?_
      refine mz_if_eq (tgt := 74) rfl rfl (mz_rg l_a3 u_a3) (fun c67_4 => ?_) (fun c67_4 => ?_)
      · skip
        refine mm_g 1 (pc1 := 75) (lo1 := [some (.int (Int32.ofInt a1)), some (.int (Int32.ofInt a2)), some (.int (Int32.ofInt a3))]) (st1 := [.int (Int32.ofInt 0)]) (H1 := mz_mk g x) rfl ?_
        exact mm_rt rfl rfl (hQ _ (by decide) (by decide))
      · skip
        refine mm_g 1 (pc1 := 71) (lo1 := [some (.int (Int32.ofInt a1)), some (.int (Int32.ofInt a2)), some (.int (Int32.ofInt a3))]) (st1 := [.int (Int32.ofInt 1)]) (H1 := mz_mk g x) rfl ?_
        refine mz_gt (tgt := 75) rfl rfl ?_
        exact mm_rt rfl rfl (hQ _ (by decide) (by decide))
  by_cases c1_7 : a1 = (-11)
  · refine mz_tsi (tgt := 48) rfl (mz_rg l_a1 u_a1) (by omega) (by omega) (by rw [c1_7]; rfl) rfl ?_
    refine mm_g 1 (pc1 := 49) (lo1 := [some (.int (Int32.ofInt a1)), some (.int (Int32.ofInt a2)), some (.int (Int32.ofInt a3))]) (st1 := [.int (Int32.ofInt a2)]) (H1 := mz_mk g x) rfl ?_
    refine mz_if_ne (tgt := 56) rfl rfl (mz_rg l_a2 u_a2) (fun c49_4 => ?_) (fun c49_4 => ?_)
    · skip
      refine mm_g 1 (pc1 := 57) (lo1 := [some (.int (Int32.ofInt a1)), some (.int (Int32.ofInt a2)), some (.int (Int32.ofInt a3))]) (st1 := [.int (Int32.ofInt 1)]) (H1 := mz_mk g x) rfl ?_
      refine mz_gt (tgt := 61) rfl rfl ?_
      exact mm_rt rfl rfl (hQ _ (by decide) (by decide))
    · skip
      refine mm_g 1 (pc1 := 53) (lo1 := [some (.int (Int32.ofInt a1)), some (.int (Int32.ofInt a2)), some (.int (Int32.ofInt a3))]) (st1 := [.int (Int32.ofInt a3)]) (H1 := mz_mk g x) rfl ?_
      refine mz_if_eq (tgt := 60) rfl rfl (mz_rg l_a3 u_a3) (fun c53_4 => ?_) (fun c53_4 => ?_)
      · skip
        refine mm_g 1 (pc1 := 61) (lo1 := [some (.int (Int32.ofInt a1)), some (.int (Int32.ofInt a2)), some (.int (Int32.ofInt a3))]) (st1 := [.int (Int32.ofInt 0)]) (H1 := mz_mk g x) rfl ?_
        exact mm_rt rfl rfl (hQ _ (by decide) (by decide))
      · skip
        refine mm_g 1 (pc1 := 57) (lo1 := [some (.int (Int32.ofInt a1)), some (.int (Int32.ofInt a2)), some (.int (Int32.ofInt a3))]) (st1 := [.int (Int32.ofInt 1)]) (H1 := mz_mk g x) rfl ?_
        refine mz_gt (tgt := 61) rfl rfl ?_
        exact mm_rt rfl rfl (hQ _ (by decide) (by decide))
  refine mz_tso (tgt := 110) rfl (mz_rg l_a1 u_a1) (by omega) rfl ?_
  refine mm_g 1 (pc1 := 111) (lo1 := [some (.int (Int32.ofInt a1)), some (.int (Int32.ofInt a2)), some (.int (Int32.ofInt a3))]) (st1 := [.int (Int32.ofInt a3)]) (H1 := mz_mk g x) rfl ?_
  refine mz_if_ne (tgt := 118) rfl rfl (mz_rg l_a3 u_a3) (fun c111_4 => ?_) (fun c111_4 => ?_)
  · skip
    refine mm_g 2 (pc1 := 120) (lo1 := [some (.int (Int32.ofInt a1)), some (.int (Int32.ofInt a2)), some (.int (Int32.ofInt a3))]) (st1 := [.int (Int32.ofInt a3), .int (Int32.ofInt a2)]) (H1 := mz_mk g x) rfl ?_
    refine mz_idiv rfl (mz_rg l_a3 u_a3) (by omega) (fun v5 _ hwv5 => ?_)
    have l_v5 := hwv5.1
    have u_v5 := hwv5.2
    exact mm_rt rfl rfl (hQ _ (by omega) (by omega))
  · skip
    refine mm_g 1 (pc1 := 115) (lo1 := [some (.int (Int32.ofInt a1)), some (.int (Int32.ofInt a2)), some (.int (Int32.ofInt a3))]) (st1 := [.int (Int32.ofInt 0)]) (H1 := mz_mk g x) rfl ?_
    refine mz_gt (tgt := 121) rfl rfl ?_
    exact mm_rt rfl rfl (hQ _ (by decide) (by decide))
