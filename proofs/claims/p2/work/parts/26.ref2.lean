/-! CONTRACTS OF THE REFERENCE, by program (wip/p2/tools/gen25.py) -/
theorem c_X12_fullOf {d : Nat} (hd : 12 ≤ d) {x : mm_X} (hx : mk_x x) {g : mz_G} (hI : mz_inv g) {a1 : Int} (l_a1 : 0 ≤ a1) (u_a1 : a1 ≤ 5) {Q : (Option Value ⊕ Nat) → mm_H → Prop} (hQ : ∀ (r : Int), 0 ≤ r → r ≤ 8 → Q (.inl (some (.int (Int32.ofInt r)))) (mz_mk g x)) : mm_C d 233 [.ref 137, .int (Int32.ofInt a1)] (mz_mk g x) Q := by
  refine ⟨mmX12_fullOf, [some (.ref 137), some (.int (Int32.ofInt a1))], rfl, rfl, ?_⟩
  refine mm_g 1 (pc1 := 1) (lo1 := [some (.ref 137), some (.int (Int32.ofInt a1))]) (st1 := [.ref 137]) (H1 := mz_mk g x) rfl ?_
  refine mz_fgR (v := 142) rfl fd_12_43 (by decide) (sc_137 _) (rf_137_5 _ _ _) ?_
  refine mm_g 1 (pc1 := 5) (lo1 := [some (.ref 137), some (.int (Int32.ofInt a1))]) (st1 := [.ref 137, .ref 142]) (H1 := mz_mk g x) rfl ?_
  refine mz_fgR (v := 153) rfl fd_12_78 (by decide) (sc_137 _) (rf_137_26 _ _ _) ?_
  refine mm_g 1 (pc1 := 9) (lo1 := [some (.ref 137), some (.int (Int32.ofInt a1))]) (st1 := [.int (Int32.ofInt a1), .ref 153, .ref 142]) (H1 := mz_mk g x) rfl ?_
  refine mz_aI rfl (sh_153 _) (by omega) (by omega) (by decide) hI (ba_153 _) (fun v1 e_v1 l_v1 u_v1 => ?_)
  refine mz_aI rfl (sh_142 _) (by omega) (by omega) (by decide) hI (ba_142 _) (fun v2 e_v2 l_v2 u_v2 => ?_)
  refine mm_g 1 (pc1 := 12) (lo1 := [some (.ref 137), some (.int (Int32.ofInt a1))]) (st1 := [.ref 137, .int (Int32.ofInt v2)]) (H1 := mz_mk g x) rfl ?_
  refine mz_fgR (v := 142) rfl fd_12_43 (by decide) (sc_137 _) (rf_137_5 _ _ _) ?_
  refine mm_g 1 (pc1 := 16) (lo1 := [some (.ref 137), some (.int (Int32.ofInt a1))]) (st1 := [.ref 137, .ref 142, .int (Int32.ofInt v2)]) (H1 := mz_mk g x) rfl ?_
  refine mz_fgR (v := 154) rfl fd_12_80 (by decide) (sc_137 _) (rf_137_27 _ _ _) ?_
  refine mm_g 1 (pc1 := 20) (lo1 := [some (.ref 137), some (.int (Int32.ofInt a1))]) (st1 := [.int (Int32.ofInt a1), .ref 154, .ref 142, .int (Int32.ofInt v2)]) (H1 := mz_mk g x) rfl ?_
  refine mz_aI rfl (sh_154 _) (by omega) (by omega) (by decide) hI (ba_154 _) (fun v3 e_v3 l_v3 u_v3 => ?_)
  refine mz_aI rfl (sh_142 _) (by omega) (by omega) (by decide) hI (ba_142 _) (fun v4 e_v4 l_v4 u_v4 => ?_)
  refine mz_mn rfl mt_12_191 (Nat.le_of_ble_eq_true rfl) (by omega) (mz_rg l_v2 u_v2) (mz_rg l_v4 u_v4) (fun v5 e_v5 => ?_)
  have l_v5 : 0 ≤ v5 := by omega
  have u_v5 : v5 ≤ 8 := by omega
  exact mm_rt rfl rfl (hQ _ (by omega) (by omega))
theorem c_X12_isFull {d : Nat} (hd : 13 ≤ d) {x : mm_X} (hx : mk_x x) {g : mz_G} (hI : mz_inv g) {a1 : Int} (l_a1 : 0 ≤ a1) (u_a1 : a1 ≤ 5) {Q : (Option Value ⊕ Nat) → mm_H → Prop} (hQ : ∀ (r : Int), 0 ≤ r → r ≤ 1 → Q (.inl (some (.int (Int32.ofInt r)))) (mz_mk g x)) : mm_C d 234 [.ref 137, .int (Int32.ofInt a1)] (mz_mk g x) Q := by
  refine ⟨mmX12_isFull, [some (.ref 137), some (.int (Int32.ofInt a1))], rfl, rfl, ?_⟩
  refine mm_g 1 (pc1 := 1) (lo1 := [some (.ref 137), some (.int (Int32.ofInt a1))]) (st1 := [.ref 137]) (H1 := mz_mk g x) rfl ?_
  refine mz_fgR (v := 152) rfl fd_12_76 (by decide) (sc_137 _) (rf_137_25 _ _ _) ?_
  refine mm_g 1 (pc1 := 5) (lo1 := [some (.ref 137), some (.int (Int32.ofInt a1))]) (st1 := [.int (Int32.ofInt a1), .ref 152]) (H1 := mz_mk g x) rfl ?_
  refine mz_aI rfl (sh_152 _) (by omega) (by omega) (by decide) hI (ba_152 _) (fun v1 e_v1 l_v1 u_v1 => ?_)
  refine mm_g 2 (pc1 := 8) (lo1 := [some (.ref 137), some (.int (Int32.ofInt a1))]) (st1 := [.int (Int32.ofInt a1), .ref 137, .int (Int32.ofInt v1)]) (H1 := mz_mk g x) rfl ?_
  refine mz_cv rfl mt_12_347 (by decide) (sc_137 _) rfl (Nat.le_of_ble_eq_true rfl) (by omega) (c_X12_fullOf (by omega) hx hI l_a1 u_a1 (fun v2 l_v2 u_v2 => ⟨_, rfl, ?_⟩))
  show mm_W d mmX12_isFull 11 [some (.ref 137), some (.int (Int32.ofInt a1))] [.int (Int32.ofInt v2), .int (Int32.ofInt v1)] (mz_mk g x) Q
  refine mz_ic_ne (tgt := 18) rfl rfl (mz_rg l_v1 u_v1) (mz_rg l_v2 u_v2) (fun c11_2 => ?_) (fun c11_2 => ?_)
  · skip
    refine mm_g 1 (pc1 := 19) (lo1 := [some (.ref 137), some (.int (Int32.ofInt a1))]) (st1 := [.int (Int32.ofInt 0)]) (H1 := mz_mk g x) rfl ?_
    exact mz_rtZ rfl (by decide) (by omega) (hQ _ (by decide) (by decide))
  · skip
    refine mm_g 1 (pc1 := 15) (lo1 := [some (.ref 137), some (.int (Int32.ofInt a1))]) (st1 := [.int (Int32.ofInt 1)]) (H1 := mz_mk g x) rfl ?_
    refine mz_gt (tgt := 19) rfl rfl ?_
    exact mz_rtZ rfl (by decide) (by omega) (hQ _ (by decide) (by decide))
def fw_X12_growsOf (x : mm_X) (a1 : Int) (a2 : Int) : Nat → Nat → Prop := fun k j => (k = 160 ∧ j = 0) ∨ (k = 160 ∧ j = 1) ∨ (k = 160 ∧ j = 2) ∨ (k = 160 ∧ j = 3) ∨ (k = 160 ∧ j = 4) ∨ (k = 160 ∧ j = 5) ∨ (k = 160 ∧ j = 6) ∨ k = 161
theorem c_X12_growsOf {d : Nat} (hd : 13 ≤ d) {x : mm_X} (hx : mk_x x) {g : mz_G} (hI : mz_inv g) {a1 : Int} (l_a1 : 0 ≤ a1) (u_a1 : a1 ≤ 5) {a2 : Int} (l_a2 : (-2147483648) ≤ a2) (u_a2 : a2 ≤ 2147483647) (p1 : mz_pv g) {Q : (Option Value ⊕ Nat) → mm_H → Prop} (hQ : ∀ (r : Int) (g1 : mz_G), mz_inv g1 → mz_fr (fw_X12_growsOf x a1 a2) g g1 → 0 ≤ r → r ≤ 6 → Q (.inl (some (.int (Int32.ofInt r)))) (mz_mk g1 x)) : mm_C d 235 [.ref 137, .int (Int32.ofInt a1), .int (Int32.ofInt a2)] (mz_mk g x) Q := by
  refine ⟨mmX12_growsOf, [some (.ref 137), some (.int (Int32.ofInt a1)), some (.int (Int32.ofInt a2)), none], rfl, rfl, ?_⟩
  have hpv := p1
  refine mm_g 2 (pc1 := 2) (lo1 := [some (.ref 137), some (.int (Int32.ofInt a1)), some (.int (Int32.ofInt a2)), none]) (st1 := [.ref 137, .int (Int32.ofInt a2)]) (H1 := mz_mk g x) rfl ?_
  refine mz_fgR (v := 155) rfl fd_12_82 (by decide) (sc_137 _) (rf_137_28 _ _ _) ?_
  refine mm_g 1 (pc1 := 6) (lo1 := [some (.ref 137), some (.int (Int32.ofInt a1)), some (.int (Int32.ofInt a2)), none]) (st1 := [.int (Int32.ofInt a1), .ref 155, .int (Int32.ofInt a2)]) (H1 := mz_mk g x) rfl ?_
  refine mz_aI rfl (sh_155 _) (by omega) (by omega) (by decide) hI (ba_155 _) (fun v1 e_v1 l_v1 u_v1 => ?_)
  refine mz_ic_le (tgt := 14) rfl rfl (mz_rg l_a2 u_a2) (mz_rg l_v1 u_v1) (fun c7_1 => ?_) (fun c7_1 => ?_)
  · skip
    refine mm_g 3 (pc1 := 17) (lo1 := [some (.ref 137), some (.int (Int32.ofInt a1)), some (.int (Int32.ofInt a2)), some (.int (Int32.ofInt 0))]) (st1 := [.ref 137]) (H1 := mz_mk g x) rfl ?_
    refine mz_fgR (v := 140) rfl fd_12_36 (by decide) (sc_137 _) (rf_137_3 _ _ _) ?_
    refine mm_g 1 (pc1 := 21) (lo1 := [some (.ref 137), some (.int (Int32.ofInt a1)), some (.int (Int32.ofInt a2)), some (.int (Int32.ofInt 0))]) (st1 := [.int (Int32.ofInt 3), .ref 140]) (H1 := mz_mk g x) rfl ?_
    refine mz_aI rfl (sh_140 _) (by omega) (by omega) (by decide) hI bt_140_3 (fun v2 e_v2 l_v2 u_v2 => ?_)
    have e_v2 : g 140 3 = v2 := e_v2
    refine mz_if_le (tgt := 128) rfl rfl (mz_rg l_v2 u_v2) (fun c22_2 => ?_) (fun c22_2 => ?_)
    · skip
      refine mm_g 3 (pc1 := 131) (lo1 := [some (.ref 137), some (.int (Int32.ofInt a1)), some (.int (Int32.ofInt a2)), some (.int (Int32.ofInt 0))]) (st1 := [.int (Int32.ofInt 0), .int (Int32.ofInt 3), .int (Int32.ofInt 0)]) (H1 := mz_mk g x) rfl ?_
      refine mz_mn rfl mt_12_191 (Nat.le_of_ble_eq_true rfl) (by omega) ⟨by decide, by decide⟩ ⟨by decide, by decide⟩ (fun v3 e_v3 => ?_)
      have l_v3 : 0 ≤ v3 := by omega
      have u_v3 : v3 ≤ 0 := by omega
      refine mz_mx rfl mt_12_329 (Nat.le_of_ble_eq_true rfl) (by omega) ⟨by decide, by decide⟩ (mz_rg l_v3 u_v3) (fun v4 e_v4 => ?_)
      have l_v4 : 0 ≤ v4 := by omega
      have u_v4 : v4 ≤ 0 := by omega
      refine mm_g 2 (pc1 := 139) (lo1 := [some (.ref 137), some (.int (Int32.ofInt a1)), some (.int (Int32.ofInt a2)), some (.int (Int32.ofInt 0))]) (st1 := [.ref 137, .int (Int32.ofInt 1), .int (Int32.ofInt v4)]) (H1 := mz_mk g x) rfl ?_
      refine mz_fgR (v := 144) rfl fd_12_49 (by decide) (sc_137 _) (rf_137_7 _ _ _) ?_
      refine mm_g 1 (pc1 := 143) (lo1 := [some (.ref 137), some (.int (Int32.ofInt a1)), some (.int (Int32.ofInt a2)), some (.int (Int32.ofInt 0))]) (st1 := [.int (Int32.ofInt a1), .ref 144, .int (Int32.ofInt 1), .int (Int32.ofInt v4)]) (H1 := mz_mk g x) rfl ?_
      refine mz_aI rfl (sh_144 _) (by omega) (by omega) (by decide) hI (ba_144 _) (fun v5 e_v5 l_v5 u_v5 => ?_)
      refine mz_iadd rfl ?_
      refine mz_imulp (A := 0) (B := 2) rfl (by omega) (by omega) (by omega) (by omega) (by decide) (fun v6 e_v6 l_v6 u_v6 => ?_)
      have u_v6 : v6 ≤ 0 := u_v6
      exact mm_rt rfl rfl (hQ _ _ hI (fun _ _ _ => rfl) (by omega) (by omega))
    · skip
      refine mm_g 1 (pc1 := 26) (lo1 := [some (.ref 137), some (.int (Int32.ofInt a1)), some (.int (Int32.ofInt a2)), some (.int (Int32.ofInt 0))]) (st1 := [.ref 137]) (H1 := mz_mk g x) rfl ?_
      refine mz_fgR (v := 160) rfl fd_12_97 (by decide) (sc_137 _) (rf_137_38 _ _ _) ?_
      refine mm_g 2 (pc1 := 31) (lo1 := [some (.ref 137), some (.int (Int32.ofInt a1)), some (.int (Int32.ofInt a2)), some (.int (Int32.ofInt 0))]) (st1 := [.ref 137, .int (Int32.ofInt 0), .ref 160]) (H1 := mz_mk g x) rfl ?_
      refine mz_fgR (v := 155) rfl fd_12_82 (by decide) (sc_137 _) (rf_137_28 _ _ _) ?_
      refine mm_g 1 (pc1 := 35) (lo1 := [some (.ref 137), some (.int (Int32.ofInt a1)), some (.int (Int32.ofInt a2)), some (.int (Int32.ofInt 0))]) (st1 := [.int (Int32.ofInt a1), .ref 155, .int (Int32.ofInt 0), .ref 160]) (H1 := mz_mk g x) rfl ?_
      refine mz_ia (v := v1) rfl (sh_155 _) (by omega) (by omega) (by decide) e_v1 ?_
      refine mz_sI rfl (sh_160 _) (by omega) (by omega) (by decide) hI (ba_160 _) (by omega) (by omega) (fun g7 hIg7 hug7 => ?_)
      refine mm_g 1 (pc1 := 38) (lo1 := [some (.ref 137), some (.int (Int32.ofInt a1)), some (.int (Int32.ofInt a2)), some (.int (Int32.ofInt 0))]) (st1 := [.ref 137]) (H1 := mz_mk g7 x) rfl ?_
      refine mz_fgR (v := 160) rfl fd_12_97 (by decide) (sc_137 _) (rf_137_38 _ _ _) ?_
      refine mm_g 2 (pc1 := 43) (lo1 := [some (.ref 137), some (.int (Int32.ofInt a1)), some (.int (Int32.ofInt a2)), some (.int (Int32.ofInt 0))]) (st1 := [.int (Int32.ofInt a2), .int (Int32.ofInt 1), .ref 160]) (H1 := mz_mk g7 x) rfl ?_
      refine mz_sI rfl (sh_160 _) (by omega) (by omega) (by decide) hIg7 (ba_160 _) (by omega) (by omega) (fun g8 hIg8 hug8 => ?_)
      refine mm_g 1 (pc1 := 45) (lo1 := [some (.ref 137), some (.int (Int32.ofInt a1)), some (.int (Int32.ofInt a2)), some (.int (Int32.ofInt 0))]) (st1 := [.ref 137]) (H1 := mz_mk g8 x) rfl ?_
      refine mz_fgR (v := 160) rfl fd_12_97 (by decide) (sc_137 _) (rf_137_38 _ _ _) ?_
      refine mm_g 2 (pc1 := 50) (lo1 := [some (.ref 137), some (.int (Int32.ofInt a1)), some (.int (Int32.ofInt a2)), some (.int (Int32.ofInt 0))]) (st1 := [.ref 137, .int (Int32.ofInt 2), .ref 160]) (H1 := mz_mk g8 x) rfl ?_
      refine mz_fgR (v := 152) rfl fd_12_76 (by decide) (sc_137 _) (rf_137_25 _ _ _) ?_
      refine mm_g 1 (pc1 := 54) (lo1 := [some (.ref 137), some (.int (Int32.ofInt a1)), some (.int (Int32.ofInt a2)), some (.int (Int32.ofInt 0))]) (st1 := [.int (Int32.ofInt a1), .ref 152, .int (Int32.ofInt 2), .ref 160]) (H1 := mz_mk g8 x) rfl ?_
      refine mz_aI rfl (sh_152 _) (by omega) (by omega) (by decide) hIg8 (ba_152 _) (fun v9 e_v9 l_v9 u_v9 => ?_)
      refine mz_sI rfl (sh_160 _) (by omega) (by omega) (by decide) hIg8 (ba_160 _) (by omega) (by omega) (fun g10 hIg10 hug10 => ?_)
      refine mm_g 1 (pc1 := 57) (lo1 := [some (.ref 137), some (.int (Int32.ofInt a1)), some (.int (Int32.ofInt a2)), some (.int (Int32.ofInt 0))]) (st1 := [.ref 137]) (H1 := mz_mk g10 x) rfl ?_
      refine mz_fgR (v := 160) rfl fd_12_97 (by decide) (sc_137 _) (rf_137_38 _ _ _) ?_
      refine mm_g 2 (pc1 := 62) (lo1 := [some (.ref 137), some (.int (Int32.ofInt a1)), some (.int (Int32.ofInt a2)), some (.int (Int32.ofInt 0))]) (st1 := [.ref 137, .int (Int32.ofInt 3), .ref 160]) (H1 := mz_mk g10 x) rfl ?_
      refine mz_fgR (v := 143) rfl fd_12_46 (by decide) (sc_137 _) (rf_137_6 _ _ _) ?_
      refine mm_g 1 (pc1 := 66) (lo1 := [some (.ref 137), some (.int (Int32.ofInt a1)), some (.int (Int32.ofInt a2)), some (.int (Int32.ofInt 0))]) (st1 := [.ref 137, .ref 143, .int (Int32.ofInt 3), .ref 160]) (H1 := mz_mk g10 x) rfl ?_
      refine mz_fgR (v := 153) rfl fd_12_78 (by decide) (sc_137 _) (rf_137_26 _ _ _) ?_
      refine mm_g 1 (pc1 := 70) (lo1 := [some (.ref 137), some (.int (Int32.ofInt a1)), some (.int (Int32.ofInt a2)), some (.int (Int32.ofInt 0))]) (st1 := [.int (Int32.ofInt a1), .ref 153, .ref 143, .int (Int32.ofInt 3), .ref 160]) (H1 := mz_mk g10 x) rfl ?_
      refine mz_aI rfl (sh_153 _) (by omega) (by omega) (by decide) hIg10 (ba_153 _) (fun v11 e_v11 l_v11 u_v11 => ?_)
      refine mz_aI rfl (sh_143 _) (by omega) (by omega) (by decide) hIg10 (ba_143 _) (fun v12 e_v12 l_v12 u_v12 => ?_)
      refine mz_sI rfl (sh_160 _) (by omega) (by omega) (by decide) hIg10 (ba_160 _) (by omega) (by omega) (fun g13 hIg13 hug13 => ?_)
      refine mm_g 1 (pc1 := 74) (lo1 := [some (.ref 137), some (.int (Int32.ofInt a1)), some (.int (Int32.ofInt a2)), some (.int (Int32.ofInt 0))]) (st1 := [.ref 137]) (H1 := mz_mk g13 x) rfl ?_
      refine mz_fgR (v := 160) rfl fd_12_97 (by decide) (sc_137 _) (rf_137_38 _ _ _) ?_
      refine mm_g 2 (pc1 := 79) (lo1 := [some (.ref 137), some (.int (Int32.ofInt a1)), some (.int (Int32.ofInt a2)), some (.int (Int32.ofInt 0))]) (st1 := [.ref 137, .int (Int32.ofInt 4), .ref 160]) (H1 := mz_mk g13 x) rfl ?_
      refine mz_fgR (v := 143) rfl fd_12_46 (by decide) (sc_137 _) (rf_137_6 _ _ _) ?_
      refine mm_g 1 (pc1 := 83) (lo1 := [some (.ref 137), some (.int (Int32.ofInt a1)), some (.int (Int32.ofInt a2)), some (.int (Int32.ofInt 0))]) (st1 := [.ref 137, .ref 143, .int (Int32.ofInt 4), .ref 160]) (H1 := mz_mk g13 x) rfl ?_
      refine mz_fgR (v := 154) rfl fd_12_80 (by decide) (sc_137 _) (rf_137_27 _ _ _) ?_
      refine mm_g 1 (pc1 := 87) (lo1 := [some (.ref 137), some (.int (Int32.ofInt a1)), some (.int (Int32.ofInt a2)), some (.int (Int32.ofInt 0))]) (st1 := [.int (Int32.ofInt a1), .ref 154, .ref 143, .int (Int32.ofInt 4), .ref 160]) (H1 := mz_mk g13 x) rfl ?_
      refine mz_aI rfl (sh_154 _) (by omega) (by omega) (by decide) hIg13 (ba_154 _) (fun v14 e_v14 l_v14 u_v14 => ?_)
      refine mz_aI rfl (sh_143 _) (by omega) (by omega) (by decide) hIg13 (ba_143 _) (fun v15 e_v15 l_v15 u_v15 => ?_)
      refine mz_sI rfl (sh_160 _) (by omega) (by omega) (by decide) hIg13 (ba_160 _) (by omega) (by omega) (fun g16 hIg16 hug16 => ?_)
      refine mm_g 1 (pc1 := 91) (lo1 := [some (.ref 137), some (.int (Int32.ofInt a1)), some (.int (Int32.ofInt a2)), some (.int (Int32.ofInt 0))]) (st1 := [.ref 137]) (H1 := mz_mk g16 x) rfl ?_
      refine mz_fgR (v := 160) rfl fd_12_97 (by decide) (sc_137 _) (rf_137_38 _ _ _) ?_
      refine mm_g 3 (pc1 := 97) (lo1 := [some (.ref 137), some (.int (Int32.ofInt a1)), some (.int (Int32.ofInt a2)), some (.int (Int32.ofInt 0))]) (st1 := [.ref 137, .ref 137, .int (Int32.ofInt 5), .ref 160]) (H1 := mz_mk g16 x) rfl ?_
      refine mz_fgR (v := 153) rfl fd_12_78 (by decide) (sc_137 _) (rf_137_26 _ _ _) ?_
      refine mm_g 1 (pc1 := 101) (lo1 := [some (.ref 137), some (.int (Int32.ofInt a1)), some (.int (Int32.ofInt a2)), some (.int (Int32.ofInt 0))]) (st1 := [.int (Int32.ofInt a1), .ref 153, .ref 137, .int (Int32.ofInt 5), .ref 160]) (H1 := mz_mk g16 x) rfl ?_
      refine mz_ia (v := v11) rfl (sh_153 _) (by omega) (by omega) (by decide) (show g16 153 (a1 : Int).toNat = v11 from ((hug16.2 153 (a1 : Int).toNat (fun h => absurd h.1 (by decide))).trans ((hug13.2 153 (a1 : Int).toNat (fun h => absurd h.1 (by decide))).trans e_v11))) ?_
      refine mm_g 1 (pc1 := 103) (lo1 := [some (.ref 137), some (.int (Int32.ofInt a1)), some (.int (Int32.ofInt a2)), some (.int (Int32.ofInt 0))]) (st1 := [.ref 137, .int (Int32.ofInt v11), .ref 137, .int (Int32.ofInt 5), .ref 160]) (H1 := mz_mk g16 x) rfl ?_
      refine mz_fgR (v := 154) rfl fd_12_80 (by decide) (sc_137 _) (rf_137_27 _ _ _) ?_
      refine mm_g 1 (pc1 := 107) (lo1 := [some (.ref 137), some (.int (Int32.ofInt a1)), some (.int (Int32.ofInt a2)), some (.int (Int32.ofInt 0))]) (st1 := [.int (Int32.ofInt a1), .ref 154, .int (Int32.ofInt v11), .ref 137, .int (Int32.ofInt 5), .ref 160]) (H1 := mz_mk g16 x) rfl ?_
      refine mz_ia (v := v14) rfl (sh_154 _) (by omega) (by omega) (by decide) (show g16 154 (a1 : Int).toNat = v14 from ((hug16.2 154 (a1 : Int).toNat (fun h => absurd h.1 (by decide))).trans e_v14)) ?_
      refine mz_cv rfl mt_12_350 (by decide) (sc_137 _) rfl (Nat.le_of_ble_eq_true rfl) (by omega) (c_X12_overlapOf (by omega) hx hIg16 l_v11 u_v11 l_v14 u_v14 (fun v17 l_v17 u_v17 hp18 hp19 => ⟨_, rfl, ?_⟩))
      show mm_W d mmX12_growsOf 111 [some (.ref 137), some (.int (Int32.ofInt a1)), some (.int (Int32.ofInt a2)), some (.int (Int32.ofInt 0))] [.int (Int32.ofInt v17), .int (Int32.ofInt 5), .ref 160] (mz_mk g16 x) Q
      refine mz_sI rfl (sh_160 _) (by omega) (by omega) (by decide) hIg16 (ba_160 _) (by omega) (by omega) (fun g20 hIg20 hug20 => ?_)
      refine mm_g 1 (pc1 := 113) (lo1 := [some (.ref 137), some (.int (Int32.ofInt a1)), some (.int (Int32.ofInt a2)), some (.int (Int32.ofInt 0))]) (st1 := [.ref 137]) (H1 := mz_mk g20 x) rfl ?_
      refine mz_fgR (v := 160) rfl fd_12_97 (by decide) (sc_137 _) (rf_137_38 _ _ _) ?_
      refine mz_bip rfl bip_6 ?_
      refine mm_g 1 (pc1 := 119) (lo1 := [some (.ref 137), some (.int (Int32.ofInt a1)), some (.int (Int32.ofInt a2)), some (.int (Int32.ofInt 0))]) (st1 := [.ref 137, .int (Int32.ofInt 6), .ref 160]) (H1 := mz_mk g20 x) rfl ?_
      refine mz_gI rfl fd_12_307 (by decide) (sc_137 _) hIg20 bd_137_30 (fun v21 e_v21 l_v21 u_v21 => ?_)
      refine mz_sI rfl (sh_160 _) (by omega) (by omega) (by decide) hIg20 (ba_160 _) (by omega) (by omega) (fun g22 hIg22 hug22 => ?_)
      refine mm_g 1 (pc1 := 124) (lo1 := [some (.ref 137), some (.int (Int32.ofInt a1)), some (.int (Int32.ofInt a2)), some (.int (Int32.ofInt 0))]) (st1 := [.ref 137]) (H1 := mz_mk g22 x) rfl ?_
      refine mz_cv rfl mt_12_353 (by decide) (sc_137 _) rfl (Nat.le_of_ble_eq_true rfl) (by omega) (c_X12_valueNow (by omega) hx hIg22 (mz_pv_fr hpv (fun _j => ((hug22.2 149 _j (fun h => absurd h.1 (by decide))).trans ((hug20.2 149 _j (fun h => absurd h.1 (by decide))).trans ((hug16.2 149 _j (fun h => absurd h.1 (by decide))).trans ((hug13.2 149 _j (fun h => absurd h.1 (by decide))).trans ((hug10.2 149 _j (fun h => absurd h.1 (by decide))).trans ((hug8.2 149 _j (fun h => absurd h.1 (by decide))).trans ((hug7.2 149 _j (fun h => absurd h.1 (by decide))).trans rfl)))))))) ((hug22.2 140 3 (fun h => absurd h.1 (by decide))).trans ((hug20.2 140 3 (fun h => absurd h.1 (by decide))).trans ((hug16.2 140 3 (fun h => absurd h.1 (by decide))).trans ((hug13.2 140 3 (fun h => absurd h.1 (by decide))).trans ((hug10.2 140 3 (fun h => absurd h.1 (by decide))).trans ((hug8.2 140 3 (fun h => absurd h.1 (by decide))).trans ((hug7.2 140 3 (fun h => absurd h.1 (by decide))).trans rfl)))))))) (fun v23 g24 hIg24 hfg24 l_v23 u_v23 => ⟨_, rfl, ?_⟩))
      show mm_W d mmX12_growsOf 127 [some (.ref 137), some (.int (Int32.ofInt a1)), some (.int (Int32.ofInt a2)), some (.int (Int32.ofInt 0))] [.int (Int32.ofInt v23)] (mz_mk g24 x) Q
      refine mm_g 4 (pc1 := 131) (lo1 := [some (.ref 137), some (.int (Int32.ofInt a1)), some (.int (Int32.ofInt a2)), some (.int (Int32.ofInt v23))]) (st1 := [.int (Int32.ofInt v23), .int (Int32.ofInt 3), .int (Int32.ofInt 0)]) (H1 := mz_mk g24 x) rfl ?_
      refine mz_mn rfl mt_12_191 (Nat.le_of_ble_eq_true rfl) (by omega) ⟨by decide, by decide⟩ (mz_rg l_v23 u_v23) (fun v25 e_v25 => ?_)
      have l_v25 : (-2147483648) ≤ v25 := by omega
      have u_v25 : v25 ≤ 3 := by omega
      refine mz_mx rfl mt_12_329 (Nat.le_of_ble_eq_true rfl) (by omega) ⟨by decide, by decide⟩ (mz_rg l_v25 u_v25) (fun v26 e_v26 => ?_)
      have l_v26 : 0 ≤ v26 := by omega
      have u_v26 : v26 ≤ 3 := by omega
      refine mm_g 2 (pc1 := 139) (lo1 := [some (.ref 137), some (.int (Int32.ofInt a1)), some (.int (Int32.ofInt a2)), some (.int (Int32.ofInt v23))]) (st1 := [.ref 137, .int (Int32.ofInt 1), .int (Int32.ofInt v26)]) (H1 := mz_mk g24 x) rfl ?_
      refine mz_fgR (v := 144) rfl fd_12_49 (by decide) (sc_137 _) (rf_137_7 _ _ _) ?_
      refine mm_g 1 (pc1 := 143) (lo1 := [some (.ref 137), some (.int (Int32.ofInt a1)), some (.int (Int32.ofInt a2)), some (.int (Int32.ofInt v23))]) (st1 := [.int (Int32.ofInt a1), .ref 144, .int (Int32.ofInt 1), .int (Int32.ofInt v26)]) (H1 := mz_mk g24 x) rfl ?_
      refine mz_aI rfl (sh_144 _) (by omega) (by omega) (by decide) hIg24 (ba_144 _) (fun v27 e_v27 l_v27 u_v27 => ?_)
      refine mz_iadd rfl ?_
      refine mz_imulp (A := 3) (B := 2) rfl (by omega) (by omega) (by omega) (by omega) (by decide) (fun v28 e_v28 l_v28 u_v28 => ?_)
      have u_v28 : v28 ≤ 6 := u_v28
      exact mm_rt rfl rfl (hQ _ _ hIg24 (fun k j hk => ((hfg24 k j (fun h => hk (Or.inr (Or.inr (Or.inr (Or.inr (Or.inr (Or.inr (Or.inr h))))))))).trans ((hug22.2 k j (fun h => hk (Or.inr (Or.inr (Or.inr (Or.inr (Or.inr (Or.inr (Or.inl h))))))))).trans ((hug20.2 k j (fun h => hk (Or.inr (Or.inr (Or.inr (Or.inr (Or.inr (Or.inl h)))))))).trans ((hug16.2 k j (fun h => hk (Or.inr (Or.inr (Or.inr (Or.inr (Or.inl h))))))).trans ((hug13.2 k j (fun h => hk (Or.inr (Or.inr (Or.inr (Or.inl h)))))).trans ((hug10.2 k j (fun h => hk (Or.inr (Or.inr (Or.inl h))))).trans ((hug8.2 k j (fun h => hk (Or.inr (Or.inl h)))).trans (hug7.2 k j (fun h => hk (Or.inl h))))))))))) (by omega) (by omega))
  · skip
    refine mm_g 1 (pc1 := 11) (lo1 := [some (.ref 137), some (.int (Int32.ofInt a1)), some (.int (Int32.ofInt a2)), none]) (st1 := [.int (Int32.ofInt 1)]) (H1 := mz_mk g x) rfl ?_
    refine mz_gt (tgt := 15) rfl rfl ?_
    refine mm_g 2 (pc1 := 17) (lo1 := [some (.ref 137), some (.int (Int32.ofInt a1)), some (.int (Int32.ofInt a2)), some (.int (Int32.ofInt 1))]) (st1 := [.ref 137]) (H1 := mz_mk g x) rfl ?_
    refine mz_fgR (v := 140) rfl fd_12_36 (by decide) (sc_137 _) (rf_137_3 _ _ _) ?_
    refine mm_g 1 (pc1 := 21) (lo1 := [some (.ref 137), some (.int (Int32.ofInt a1)), some (.int (Int32.ofInt a2)), some (.int (Int32.ofInt 1))]) (st1 := [.int (Int32.ofInt 3), .ref 140]) (H1 := mz_mk g x) rfl ?_
    refine mz_aI rfl (sh_140 _) (by omega) (by omega) (by decide) hI bt_140_3 (fun v29 e_v29 l_v29 u_v29 => ?_)
    have e_v29 : g 140 3 = v29 := e_v29
    refine mz_if_le (tgt := 128) rfl rfl (mz_rg l_v29 u_v29) (fun c22_29 => ?_) (fun c22_29 => ?_)
    · skip
      refine mm_g 3 (pc1 := 131) (lo1 := [some (.ref 137), some (.int (Int32.ofInt a1)), some (.int (Int32.ofInt a2)), some (.int (Int32.ofInt 1))]) (st1 := [.int (Int32.ofInt 1), .int (Int32.ofInt 3), .int (Int32.ofInt 0)]) (H1 := mz_mk g x) rfl ?_
      refine mz_mn rfl mt_12_191 (Nat.le_of_ble_eq_true rfl) (by omega) ⟨by decide, by decide⟩ ⟨by decide, by decide⟩ (fun v30 e_v30 => ?_)
      have l_v30 : 1 ≤ v30 := by omega
      have u_v30 : v30 ≤ 1 := by omega
      refine mz_mx rfl mt_12_329 (Nat.le_of_ble_eq_true rfl) (by omega) ⟨by decide, by decide⟩ (mz_rg l_v30 u_v30) (fun v31 e_v31 => ?_)
      have l_v31 : 1 ≤ v31 := by omega
      have u_v31 : v31 ≤ 1 := by omega
      refine mm_g 2 (pc1 := 139) (lo1 := [some (.ref 137), some (.int (Int32.ofInt a1)), some (.int (Int32.ofInt a2)), some (.int (Int32.ofInt 1))]) (st1 := [.ref 137, .int (Int32.ofInt 1), .int (Int32.ofInt v31)]) (H1 := mz_mk g x) rfl ?_
      refine mz_fgR (v := 144) rfl fd_12_49 (by decide) (sc_137 _) (rf_137_7 _ _ _) ?_
      refine mm_g 1 (pc1 := 143) (lo1 := [some (.ref 137), some (.int (Int32.ofInt a1)), some (.int (Int32.ofInt a2)), some (.int (Int32.ofInt 1))]) (st1 := [.int (Int32.ofInt a1), .ref 144, .int (Int32.ofInt 1), .int (Int32.ofInt v31)]) (H1 := mz_mk g x) rfl ?_
      refine mz_aI rfl (sh_144 _) (by omega) (by omega) (by decide) hI (ba_144 _) (fun v32 e_v32 l_v32 u_v32 => ?_)
      refine mz_iadd rfl ?_
      refine mz_imulp (A := 1) (B := 2) rfl (by omega) (by omega) (by omega) (by omega) (by decide) (fun v33 e_v33 l_v33 u_v33 => ?_)
      have u_v33 : v33 ≤ 2 := u_v33
      exact mm_rt rfl rfl (hQ _ _ hI (fun _ _ _ => rfl) (by omega) (by omega))
    · skip
      refine mm_g 1 (pc1 := 26) (lo1 := [some (.ref 137), some (.int (Int32.ofInt a1)), some (.int (Int32.ofInt a2)), some (.int (Int32.ofInt 1))]) (st1 := [.ref 137]) (H1 := mz_mk g x) rfl ?_
      refine mz_fgR (v := 160) rfl fd_12_97 (by decide) (sc_137 _) (rf_137_38 _ _ _) ?_
      refine mm_g 2 (pc1 := 31) (lo1 := [some (.ref 137), some (.int (Int32.ofInt a1)), some (.int (Int32.ofInt a2)), some (.int (Int32.ofInt 1))]) (st1 := [.ref 137, .int (Int32.ofInt 0), .ref 160]) (H1 := mz_mk g x) rfl ?_
      refine mz_fgR (v := 155) rfl fd_12_82 (by decide) (sc_137 _) (rf_137_28 _ _ _) ?_
      refine mm_g 1 (pc1 := 35) (lo1 := [some (.ref 137), some (.int (Int32.ofInt a1)), some (.int (Int32.ofInt a2)), some (.int (Int32.ofInt 1))]) (st1 := [.int (Int32.ofInt a1), .ref 155, .int (Int32.ofInt 0), .ref 160]) (H1 := mz_mk g x) rfl ?_
      refine mz_ia (v := v1) rfl (sh_155 _) (by omega) (by omega) (by decide) e_v1 ?_
      refine mz_sI rfl (sh_160 _) (by omega) (by omega) (by decide) hI (ba_160 _) (by omega) (by omega) (fun g34 hIg34 hug34 => ?_)
      refine mm_g 1 (pc1 := 38) (lo1 := [some (.ref 137), some (.int (Int32.ofInt a1)), some (.int (Int32.ofInt a2)), some (.int (Int32.ofInt 1))]) (st1 := [.ref 137]) (H1 := mz_mk g34 x) rfl ?_
      refine mz_fgR (v := 160) rfl fd_12_97 (by decide) (sc_137 _) (rf_137_38 _ _ _) ?_
      refine mm_g 2 (pc1 := 43) (lo1 := [some (.ref 137), some (.int (Int32.ofInt a1)), some (.int (Int32.ofInt a2)), some (.int (Int32.ofInt 1))]) (st1 := [.int (Int32.ofInt a2), .int (Int32.ofInt 1), .ref 160]) (H1 := mz_mk g34 x) rfl ?_
      refine mz_sI rfl (sh_160 _) (by omega) (by omega) (by decide) hIg34 (ba_160 _) (by omega) (by omega) (fun g35 hIg35 hug35 => ?_)
      refine mm_g 1 (pc1 := 45) (lo1 := [some (.ref 137), some (.int (Int32.ofInt a1)), some (.int (Int32.ofInt a2)), some (.int (Int32.ofInt 1))]) (st1 := [.ref 137]) (H1 := mz_mk g35 x) rfl ?_
      refine mz_fgR (v := 160) rfl fd_12_97 (by decide) (sc_137 _) (rf_137_38 _ _ _) ?_
      refine mm_g 2 (pc1 := 50) (lo1 := [some (.ref 137), some (.int (Int32.ofInt a1)), some (.int (Int32.ofInt a2)), some (.int (Int32.ofInt 1))]) (st1 := [.ref 137, .int (Int32.ofInt 2), .ref 160]) (H1 := mz_mk g35 x) rfl ?_
      refine mz_fgR (v := 152) rfl fd_12_76 (by decide) (sc_137 _) (rf_137_25 _ _ _) ?_
      refine mm_g 1 (pc1 := 54) (lo1 := [some (.ref 137), some (.int (Int32.ofInt a1)), some (.int (Int32.ofInt a2)), some (.int (Int32.ofInt 1))]) (st1 := [.int (Int32.ofInt a1), .ref 152, .int (Int32.ofInt 2), .ref 160]) (H1 := mz_mk g35 x) rfl ?_
      refine mz_aI rfl (sh_152 _) (by omega) (by omega) (by decide) hIg35 (ba_152 _) (fun v36 e_v36 l_v36 u_v36 => ?_)
      refine mz_sI rfl (sh_160 _) (by omega) (by omega) (by decide) hIg35 (ba_160 _) (by omega) (by omega) (fun g37 hIg37 hug37 => ?_)
      refine mm_g 1 (pc1 := 57) (lo1 := [some (.ref 137), some (.int (Int32.ofInt a1)), some (.int (Int32.ofInt a2)), some (.int (Int32.ofInt 1))]) (st1 := [.ref 137]) (H1 := mz_mk g37 x) rfl ?_
      refine mz_fgR (v := 160) rfl fd_12_97 (by decide) (sc_137 _) (rf_137_38 _ _ _) ?_
      refine mm_g 2 (pc1 := 62) (lo1 := [some (.ref 137), some (.int (Int32.ofInt a1)), some (.int (Int32.ofInt a2)), some (.int (Int32.ofInt 1))]) (st1 := [.ref 137, .int (Int32.ofInt 3), .ref 160]) (H1 := mz_mk g37 x) rfl ?_
      refine mz_fgR (v := 143) rfl fd_12_46 (by decide) (sc_137 _) (rf_137_6 _ _ _) ?_
      refine mm_g 1 (pc1 := 66) (lo1 := [some (.ref 137), some (.int (Int32.ofInt a1)), some (.int (Int32.ofInt a2)), some (.int (Int32.ofInt 1))]) (st1 := [.ref 137, .ref 143, .int (Int32.ofInt 3), .ref 160]) (H1 := mz_mk g37 x) rfl ?_
      refine mz_fgR (v := 153) rfl fd_12_78 (by decide) (sc_137 _) (rf_137_26 _ _ _) ?_
      refine mm_g 1 (pc1 := 70) (lo1 := [some (.ref 137), some (.int (Int32.ofInt a1)), some (.int (Int32.ofInt a2)), some (.int (Int32.ofInt 1))]) (st1 := [.int (Int32.ofInt a1), .ref 153, .ref 143, .int (Int32.ofInt 3), .ref 160]) (H1 := mz_mk g37 x) rfl ?_
      refine mz_aI rfl (sh_153 _) (by omega) (by omega) (by decide) hIg37 (ba_153 _) (fun v38 e_v38 l_v38 u_v38 => ?_)
      refine mz_aI rfl (sh_143 _) (by omega) (by omega) (by decide) hIg37 (ba_143 _) (fun v39 e_v39 l_v39 u_v39 => ?_)
      refine mz_sI rfl (sh_160 _) (by omega) (by omega) (by decide) hIg37 (ba_160 _) (by omega) (by omega) (fun g40 hIg40 hug40 => ?_)
      refine mm_g 1 (pc1 := 74) (lo1 := [some (.ref 137), some (.int (Int32.ofInt a1)), some (.int (Int32.ofInt a2)), some (.int (Int32.ofInt 1))]) (st1 := [.ref 137]) (H1 := mz_mk g40 x) rfl ?_
      refine mz_fgR (v := 160) rfl fd_12_97 (by decide) (sc_137 _) (rf_137_38 _ _ _) ?_
      refine mm_g 2 (pc1 := 79) (lo1 := [some (.ref 137), some (.int (Int32.ofInt a1)), some (.int (Int32.ofInt a2)), some (.int (Int32.ofInt 1))]) (st1 := [.ref 137, .int (Int32.ofInt 4), .ref 160]) (H1 := mz_mk g40 x) rfl ?_
      refine mz_fgR (v := 143) rfl fd_12_46 (by decide) (sc_137 _) (rf_137_6 _ _ _) ?_
      refine mm_g 1 (pc1 := 83) (lo1 := [some (.ref 137), some (.int (Int32.ofInt a1)), some (.int (Int32.ofInt a2)), some (.int (Int32.ofInt 1))]) (st1 := [.ref 137, .ref 143, .int (Int32.ofInt 4), .ref 160]) (H1 := mz_mk g40 x) rfl ?_
      refine mz_fgR (v := 154) rfl fd_12_80 (by decide) (sc_137 _) (rf_137_27 _ _ _) ?_
      refine mm_g 1 (pc1 := 87) (lo1 := [some (.ref 137), some (.int (Int32.ofInt a1)), some (.int (Int32.ofInt a2)), some (.int (Int32.ofInt 1))]) (st1 := [.int (Int32.ofInt a1), .ref 154, .ref 143, .int (Int32.ofInt 4), .ref 160]) (H1 := mz_mk g40 x) rfl ?_
      refine mz_aI rfl (sh_154 _) (by omega) (by omega) (by decide) hIg40 (ba_154 _) (fun v41 e_v41 l_v41 u_v41 => ?_)
      refine mz_aI rfl (sh_143 _) (by omega) (by omega) (by decide) hIg40 (ba_143 _) (fun v42 e_v42 l_v42 u_v42 => ?_)
      refine mz_sI rfl (sh_160 _) (by omega) (by omega) (by decide) hIg40 (ba_160 _) (by omega) (by omega) (fun g43 hIg43 hug43 => ?_)
      refine mm_g 1 (pc1 := 91) (lo1 := [some (.ref 137), some (.int (Int32.ofInt a1)), some (.int (Int32.ofInt a2)), some (.int (Int32.ofInt 1))]) (st1 := [.ref 137]) (H1 := mz_mk g43 x) rfl ?_
      refine mz_fgR (v := 160) rfl fd_12_97 (by decide) (sc_137 _) (rf_137_38 _ _ _) ?_
      refine mm_g 3 (pc1 := 97) (lo1 := [some (.ref 137), some (.int (Int32.ofInt a1)), some (.int (Int32.ofInt a2)), some (.int (Int32.ofInt 1))]) (st1 := [.ref 137, .ref 137, .int (Int32.ofInt 5), .ref 160]) (H1 := mz_mk g43 x) rfl ?_
      refine mz_fgR (v := 153) rfl fd_12_78 (by decide) (sc_137 _) (rf_137_26 _ _ _) ?_
      refine mm_g 1 (pc1 := 101) (lo1 := [some (.ref 137), some (.int (Int32.ofInt a1)), some (.int (Int32.ofInt a2)), some (.int (Int32.ofInt 1))]) (st1 := [.int (Int32.ofInt a1), .ref 153, .ref 137, .int (Int32.ofInt 5), .ref 160]) (H1 := mz_mk g43 x) rfl ?_
      refine mz_ia (v := v38) rfl (sh_153 _) (by omega) (by omega) (by decide) (show g43 153 (a1 : Int).toNat = v38 from ((hug43.2 153 (a1 : Int).toNat (fun h => absurd h.1 (by decide))).trans ((hug40.2 153 (a1 : Int).toNat (fun h => absurd h.1 (by decide))).trans e_v38))) ?_
      refine mm_g 1 (pc1 := 103) (lo1 := [some (.ref 137), some (.int (Int32.ofInt a1)), some (.int (Int32.ofInt a2)), some (.int (Int32.ofInt 1))]) (st1 := [.ref 137, .int (Int32.ofInt v38), .ref 137, .int (Int32.ofInt 5), .ref 160]) (H1 := mz_mk g43 x) rfl ?_
      refine mz_fgR (v := 154) rfl fd_12_80 (by decide) (sc_137 _) (rf_137_27 _ _ _) ?_
      refine mm_g 1 (pc1 := 107) (lo1 := [some (.ref 137), some (.int (Int32.ofInt a1)), some (.int (Int32.ofInt a2)), some (.int (Int32.ofInt 1))]) (st1 := [.int (Int32.ofInt a1), .ref 154, .int (Int32.ofInt v38), .ref 137, .int (Int32.ofInt 5), .ref 160]) (H1 := mz_mk g43 x) rfl ?_
      refine mz_ia (v := v41) rfl (sh_154 _) (by omega) (by omega) (by decide) (show g43 154 (a1 : Int).toNat = v41 from ((hug43.2 154 (a1 : Int).toNat (fun h => absurd h.1 (by decide))).trans e_v41)) ?_
      refine mz_cv rfl mt_12_350 (by decide) (sc_137 _) rfl (Nat.le_of_ble_eq_true rfl) (by omega) (c_X12_overlapOf (by omega) hx hIg43 l_v38 u_v38 l_v41 u_v41 (fun v44 l_v44 u_v44 hp45 hp46 => ⟨_, rfl, ?_⟩))
      show mm_W d mmX12_growsOf 111 [some (.ref 137), some (.int (Int32.ofInt a1)), some (.int (Int32.ofInt a2)), some (.int (Int32.ofInt 1))] [.int (Int32.ofInt v44), .int (Int32.ofInt 5), .ref 160] (mz_mk g43 x) Q
      refine mz_sI rfl (sh_160 _) (by omega) (by omega) (by decide) hIg43 (ba_160 _) (by omega) (by omega) (fun g47 hIg47 hug47 => ?_)
      refine mm_g 1 (pc1 := 113) (lo1 := [some (.ref 137), some (.int (Int32.ofInt a1)), some (.int (Int32.ofInt a2)), some (.int (Int32.ofInt 1))]) (st1 := [.ref 137]) (H1 := mz_mk g47 x) rfl ?_
      refine mz_fgR (v := 160) rfl fd_12_97 (by decide) (sc_137 _) (rf_137_38 _ _ _) ?_
      refine mz_bip rfl bip_6 ?_
      refine mm_g 1 (pc1 := 119) (lo1 := [some (.ref 137), some (.int (Int32.ofInt a1)), some (.int (Int32.ofInt a2)), some (.int (Int32.ofInt 1))]) (st1 := [.ref 137, .int (Int32.ofInt 6), .ref 160]) (H1 := mz_mk g47 x) rfl ?_
      refine mz_gI rfl fd_12_307 (by decide) (sc_137 _) hIg47 bd_137_30 (fun v48 e_v48 l_v48 u_v48 => ?_)
      refine mz_sI rfl (sh_160 _) (by omega) (by omega) (by decide) hIg47 (ba_160 _) (by omega) (by omega) (fun g49 hIg49 hug49 => ?_)
      refine mm_g 1 (pc1 := 124) (lo1 := [some (.ref 137), some (.int (Int32.ofInt a1)), some (.int (Int32.ofInt a2)), some (.int (Int32.ofInt 1))]) (st1 := [.ref 137]) (H1 := mz_mk g49 x) rfl ?_
      refine mz_cv rfl mt_12_353 (by decide) (sc_137 _) rfl (Nat.le_of_ble_eq_true rfl) (by omega) (c_X12_valueNow (by omega) hx hIg49 (mz_pv_fr hpv (fun _j => ((hug49.2 149 _j (fun h => absurd h.1 (by decide))).trans ((hug47.2 149 _j (fun h => absurd h.1 (by decide))).trans ((hug43.2 149 _j (fun h => absurd h.1 (by decide))).trans ((hug40.2 149 _j (fun h => absurd h.1 (by decide))).trans ((hug37.2 149 _j (fun h => absurd h.1 (by decide))).trans ((hug35.2 149 _j (fun h => absurd h.1 (by decide))).trans ((hug34.2 149 _j (fun h => absurd h.1 (by decide))).trans rfl)))))))) ((hug49.2 140 3 (fun h => absurd h.1 (by decide))).trans ((hug47.2 140 3 (fun h => absurd h.1 (by decide))).trans ((hug43.2 140 3 (fun h => absurd h.1 (by decide))).trans ((hug40.2 140 3 (fun h => absurd h.1 (by decide))).trans ((hug37.2 140 3 (fun h => absurd h.1 (by decide))).trans ((hug35.2 140 3 (fun h => absurd h.1 (by decide))).trans ((hug34.2 140 3 (fun h => absurd h.1 (by decide))).trans rfl)))))))) (fun v50 g51 hIg51 hfg51 l_v50 u_v50 => ⟨_, rfl, ?_⟩))
      show mm_W d mmX12_growsOf 127 [some (.ref 137), some (.int (Int32.ofInt a1)), some (.int (Int32.ofInt a2)), some (.int (Int32.ofInt 1))] [.int (Int32.ofInt v50)] (mz_mk g51 x) Q
      refine mm_g 4 (pc1 := 131) (lo1 := [some (.ref 137), some (.int (Int32.ofInt a1)), some (.int (Int32.ofInt a2)), some (.int (Int32.ofInt v50))]) (st1 := [.int (Int32.ofInt v50), .int (Int32.ofInt 3), .int (Int32.ofInt 0)]) (H1 := mz_mk g51 x) rfl ?_
      refine mz_mn rfl mt_12_191 (Nat.le_of_ble_eq_true rfl) (by omega) ⟨by decide, by decide⟩ (mz_rg l_v50 u_v50) (fun v52 e_v52 => ?_)
      have l_v52 : (-2147483648) ≤ v52 := by omega
      have u_v52 : v52 ≤ 3 := by omega
      refine mz_mx rfl mt_12_329 (Nat.le_of_ble_eq_true rfl) (by omega) ⟨by decide, by decide⟩ (mz_rg l_v52 u_v52) (fun v53 e_v53 => ?_)
      have l_v53 : 0 ≤ v53 := by omega
      have u_v53 : v53 ≤ 3 := by omega
      refine mm_g 2 (pc1 := 139) (lo1 := [some (.ref 137), some (.int (Int32.ofInt a1)), some (.int (Int32.ofInt a2)), some (.int (Int32.ofInt v50))]) (st1 := [.ref 137, .int (Int32.ofInt 1), .int (Int32.ofInt v53)]) (H1 := mz_mk g51 x) rfl ?_
      refine mz_fgR (v := 144) rfl fd_12_49 (by decide) (sc_137 _) (rf_137_7 _ _ _) ?_
      refine mm_g 1 (pc1 := 143) (lo1 := [some (.ref 137), some (.int (Int32.ofInt a1)), some (.int (Int32.ofInt a2)), some (.int (Int32.ofInt v50))]) (st1 := [.int (Int32.ofInt a1), .ref 144, .int (Int32.ofInt 1), .int (Int32.ofInt v53)]) (H1 := mz_mk g51 x) rfl ?_
      refine mz_aI rfl (sh_144 _) (by omega) (by omega) (by decide) hIg51 (ba_144 _) (fun v54 e_v54 l_v54 u_v54 => ?_)
      refine mz_iadd rfl ?_
      refine mz_imulp (A := 3) (B := 2) rfl (by omega) (by omega) (by omega) (by omega) (by decide) (fun v55 e_v55 l_v55 u_v55 => ?_)
      have u_v55 : v55 ≤ 6 := u_v55
      exact mm_rt rfl rfl (hQ _ _ hIg51 (fun k j hk => ((hfg51 k j (fun h => hk (Or.inr (Or.inr (Or.inr (Or.inr (Or.inr (Or.inr (Or.inr h))))))))).trans ((hug49.2 k j (fun h => hk (Or.inr (Or.inr (Or.inr (Or.inr (Or.inr (Or.inr (Or.inl h))))))))).trans ((hug47.2 k j (fun h => hk (Or.inr (Or.inr (Or.inr (Or.inr (Or.inr (Or.inl h)))))))).trans ((hug43.2 k j (fun h => hk (Or.inr (Or.inr (Or.inr (Or.inr (Or.inl h))))))).trans ((hug40.2 k j (fun h => hk (Or.inr (Or.inr (Or.inr (Or.inl h)))))).trans ((hug37.2 k j (fun h => hk (Or.inr (Or.inr (Or.inl h))))).trans ((hug35.2 k j (fun h => hk (Or.inr (Or.inl h)))).trans (hug34.2 k j (fun h => hk (Or.inl h))))))))))) (by omega) (by omega))
def fl_X12_aDayOf_2 (x : mm_X) (a1 : Int) : Nat → Nat → Prop := fun k j => (k = 160 ∧ j = 0) ∨ (k = 160 ∧ j = 1) ∨ (k = 160 ∧ j = 2) ∨ (k = 160 ∧ j = 3) ∨ (k = 160 ∧ j = 4) ∨ (k = 160 ∧ j = 5) ∨ (k = 160 ∧ j = 6) ∨ k = 161 ∨ k = 152
def fw_X12_aDayOf (x : mm_X) (a1 : Int) : Nat → Nat → Prop := fun k j => (k = 160 ∧ j = 0) ∨ (k = 160 ∧ j = 1) ∨ (k = 160 ∧ j = 2) ∨ (k = 160 ∧ j = 3) ∨ (k = 160 ∧ j = 4) ∨ (k = 160 ∧ j = 5) ∨ (k = 160 ∧ j = 6) ∨ k = 161 ∨ k = 152 ∨ (k = 137 ∧ j = 30)
theorem c_X12_aDayOf {d : Nat} (hd : 14 ≤ d) {x : mm_X} (hx : mk_x x) {g : mz_G} (hI : mz_inv g) {a1 : Int} (l_a1 : (-2147483648) ≤ a1) (u_a1 : a1 ≤ 2147483647) (p1 : mz_pv g) (p2 : g 137 30 ≤ 1998) {Q : (Option Value ⊕ Nat) → mm_H → Prop} (hQ : ∀ (g1 : mz_G), mz_inv g1 → mz_fr (fw_X12_aDayOf x a1) g g1 → (g1 137 30 = g 137 30 + 1) → Q (.inl none) (mz_mk g1 x)) : mm_C d 236 [.ref 137, .int (Int32.ofInt a1)] (mz_mk g x) Q := by
  refine ⟨mmX12_aDayOf, [some (.ref 137), some (.int (Int32.ofInt a1)), none], rfl, rfl, ?_⟩
  have bz0 := mz_rd hI bd_137_30
  have hpv := p1
  refine mm_g 2 (pc1 := 2) (lo1 := [some (.ref 137), some (.int (Int32.ofInt a1)), some (.int (Int32.ofInt 0))]) (st1 := []) (H1 := mz_mk g x) rfl ?_
  have L5 : ∀ n4 : Nat, ∀ (v1 : Int) (g2 : mz_G), (6 - v1).toNat = n4 → 0 ≤ v1 → v1 ≤ 6 → mz_inv g2 → mz_fr (fl_X12_aDayOf_2 x a1) g g2 → mm_W d mmX12_aDayOf 2 [some (.ref 137), some (.int (Int32.ofInt a1)), some (.int (Int32.ofInt v1))] [] (mz_mk g2 x) Q := by
    intro n4
    induction n4 using Nat.strongRecOn with
    | ind n4 ih3 =>
    intro v1 g2 hmn4 l_v1 u_v1 hIg2 hfg2
    refine mm_g 2 (pc1 := 4) (lo1 := [some (.ref 137), some (.int (Int32.ofInt a1)), some (.int (Int32.ofInt v1))]) (st1 := [.ref 137, .int (Int32.ofInt v1)]) (H1 := mz_mk g2 x) rfl ?_
    refine mz_fgR (v := 140) rfl fd_12_36 (by decide) (sc_137 _) (rf_137_3 _ _ _) ?_
    refine mm_g 1 (pc1 := 8) (lo1 := [some (.ref 137), some (.int (Int32.ofInt a1)), some (.int (Int32.ofInt v1))]) (st1 := [.int (Int32.ofInt 1), .ref 140, .int (Int32.ofInt v1)]) (H1 := mz_mk g2 x) rfl ?_
    refine mz_aI rfl (sh_140 _) (by omega) (by omega) (by decide) hIg2 bt_140_1 (fun v6 e_v6 l_v6 u_v6 => ?_)
    have e_v6 : g2 140 1 = v6 := e_v6
    refine mz_ic_ge (tgt := 45) rfl rfl (mz_rg l_v1 u_v1) (mz_rg l_v6 u_v6) (fun c9_6 => ?_) (fun c9_6 => ?_)
    · skip
      refine mm_g 2 (pc1 := 47) (lo1 := [some (.ref 137), some (.int (Int32.ofInt a1)), some (.int (Int32.ofInt v1))]) (st1 := [.ref 137, .ref 137]) (H1 := mz_mk g2 x) rfl ?_
      refine mz_fgI (v := (g 137 30)) rfl fd_12_307 (by decide) (sc_137 _) (show g2 137 30 = (g 137 30) from ((hfg2 137 30 (fun h => (Or.elim h (fun h => (absurd (show 137 = 160 from (h).1) (by decide))) (fun h => (Or.elim h (fun h => (absurd (show 137 = 160 from (h).1) (by decide))) (fun h => (Or.elim h (fun h => (absurd (show 137 = 160 from (h).1) (by decide))) (fun h => (Or.elim h (fun h => (absurd (show 137 = 160 from (h).1) (by decide))) (fun h => (Or.elim h (fun h => (absurd (show 137 = 160 from (h).1) (by decide))) (fun h => (Or.elim h (fun h => (absurd (show 137 = 160 from (h).1) (by decide))) (fun h => (Or.elim h (fun h => (absurd (show 137 = 160 from (h).1) (by decide))) (fun h => (Or.elim h (fun h => (absurd (show 137 = 161 from h) (by decide))) (fun h => (absurd (show 137 = 152 from h) (by decide)))))))))))))))))))).trans rfl)) ?_
      refine mm_g 1 (pc1 := 51) (lo1 := [some (.ref 137), some (.int (Int32.ofInt a1)), some (.int (Int32.ofInt v1))]) (st1 := [.int (Int32.ofInt 1), .int (Int32.ofInt (g 137 30)), .ref 137]) (H1 := mz_mk g2 x) rfl ?_
      refine mz_iadd rfl ?_
      refine mz_pI rfl fd_12_307 (sc_137 _) hIg2 bd_137_30 (by omega) (by omega) (fun g7 hIg7 hug7 => ?_)
      exact mm_rt rfl rfl (hQ _ hIg7 (fun k j hk => ((hug7.2 k j (fun h => hk (Or.inr (Or.inr (Or.inr (Or.inr (Or.inr (Or.inr (Or.inr (Or.inr (Or.inr h))))))))))).trans (hfg2 k j (fun h => hk (Or.elim h (fun h => (Or.inl h)) (fun h => (Or.elim h (fun h => (Or.inr (Or.inl h))) (fun h => (Or.elim h (fun h => (Or.inr (Or.inr (Or.inl h)))) (fun h => (Or.elim h (fun h => (Or.inr (Or.inr (Or.inr (Or.inl h))))) (fun h => (Or.elim h (fun h => (Or.inr (Or.inr (Or.inr (Or.inr (Or.inl h)))))) (fun h => (Or.elim h (fun h => (Or.inr (Or.inr (Or.inr (Or.inr (Or.inr (Or.inl h))))))) (fun h => (Or.elim h (fun h => (Or.inr (Or.inr (Or.inr (Or.inr (Or.inr (Or.inr (Or.inl h)))))))) (fun h => (Or.elim h (fun h => (Or.inr (Or.inr (Or.inr (Or.inr (Or.inr (Or.inr (Or.inr (Or.inl h))))))))) (fun h => (Or.inr (Or.inr (Or.inr (Or.inr (Or.inr (Or.inr (Or.inr (Or.inr (Or.inl h))))))))))))))))))))))))))))) (by have h9 := (show g7 137 30 = ((g 137 30) + 1) from hug7.1); omega))
    · skip
      refine mm_g 1 (pc1 := 13) (lo1 := [some (.ref 137), some (.int (Int32.ofInt a1)), some (.int (Int32.ofInt v1))]) (st1 := [.ref 137]) (H1 := mz_mk g2 x) rfl ?_
      refine mz_fgR (v := 152) rfl fd_12_76 (by decide) (sc_137 _) (rf_137_25 _ _ _) ?_
      refine mm_g 3 (pc1 := 19) (lo1 := [some (.ref 137), some (.int (Int32.ofInt a1)), some (.int (Int32.ofInt v1))]) (st1 := [.int (Int32.ofInt v1), .ref 137, .int (Int32.ofInt v1), .ref 152]) (H1 := mz_mk g2 x) rfl ?_
      refine mz_cv rfl mt_12_347 (by decide) (sc_137 _) rfl (Nat.le_of_ble_eq_true rfl) (by omega) (c_X12_fullOf (by omega) hx hIg2 (by omega) (by omega) (fun v8 l_v8 u_v8 => ⟨_, rfl, ?_⟩))
      show mm_W d mmX12_aDayOf 22 [some (.ref 137), some (.int (Int32.ofInt a1)), some (.int (Int32.ofInt v1))] [.int (Int32.ofInt v8), .int (Int32.ofInt v1), .ref 152] (mz_mk g2 x) Q
      refine mm_g 1 (pc1 := 23) (lo1 := [some (.ref 137), some (.int (Int32.ofInt a1)), some (.int (Int32.ofInt v1))]) (st1 := [.ref 137, .int (Int32.ofInt v8), .int (Int32.ofInt v1), .ref 152]) (H1 := mz_mk g2 x) rfl ?_
      refine mz_fgR (v := 152) rfl fd_12_76 (by decide) (sc_137 _) (rf_137_25 _ _ _) ?_
      refine mm_g 1 (pc1 := 27) (lo1 := [some (.ref 137), some (.int (Int32.ofInt a1)), some (.int (Int32.ofInt v1))]) (st1 := [.int (Int32.ofInt v1), .ref 152, .int (Int32.ofInt v8), .int (Int32.ofInt v1), .ref 152]) (H1 := mz_mk g2 x) rfl ?_
      refine mz_aI rfl (sh_152 _) (by omega) (by omega) (by decide) hIg2 (ba_152 _) (fun v9 e_v9 l_v9 u_v9 => ?_)
      refine mm_g 3 (pc1 := 31) (lo1 := [some (.ref 137), some (.int (Int32.ofInt a1)), some (.int (Int32.ofInt v1))]) (st1 := [.int (Int32.ofInt a1), .int (Int32.ofInt v1), .ref 137, .int (Int32.ofInt v9), .int (Int32.ofInt v8), .int (Int32.ofInt v1), .ref 152]) (H1 := mz_mk g2 x) rfl ?_
      refine mz_cv rfl mt_12_356 (by decide) (sc_137 _) rfl (Nat.le_of_ble_eq_true rfl) (by omega) (c_X12_growsOf (by omega) hx hIg2 (by omega) (by omega) l_a1 u_a1 (mz_pv_fr hpv (fun _j => ((hfg2 149 _j (fun h => (Or.elim h (fun h => (absurd (show 149 = 160 from (h).1) (by decide))) (fun h => (Or.elim h (fun h => (absurd (show 149 = 160 from (h).1) (by decide))) (fun h => (Or.elim h (fun h => (absurd (show 149 = 160 from (h).1) (by decide))) (fun h => (Or.elim h (fun h => (absurd (show 149 = 160 from (h).1) (by decide))) (fun h => (Or.elim h (fun h => (absurd (show 149 = 160 from (h).1) (by decide))) (fun h => (Or.elim h (fun h => (absurd (show 149 = 160 from (h).1) (by decide))) (fun h => (Or.elim h (fun h => (absurd (show 149 = 160 from (h).1) (by decide))) (fun h => (Or.elim h (fun h => (absurd (show 149 = 161 from h) (by decide))) (fun h => (absurd (show 149 = 152 from h) (by decide)))))))))))))))))))).trans rfl)) ((hfg2 140 3 (fun h => (Or.elim h (fun h => (absurd (show 140 = 160 from (h).1) (by decide))) (fun h => (Or.elim h (fun h => (absurd (show 140 = 160 from (h).1) (by decide))) (fun h => (Or.elim h (fun h => (absurd (show 140 = 160 from (h).1) (by decide))) (fun h => (Or.elim h (fun h => (absurd (show 140 = 160 from (h).1) (by decide))) (fun h => (Or.elim h (fun h => (absurd (show 140 = 160 from (h).1) (by decide))) (fun h => (Or.elim h (fun h => (absurd (show 140 = 160 from (h).1) (by decide))) (fun h => (Or.elim h (fun h => (absurd (show 140 = 160 from (h).1) (by decide))) (fun h => (Or.elim h (fun h => (absurd (show 140 = 161 from h) (by decide))) (fun h => (absurd (show 140 = 152 from h) (by decide)))))))))))))))))))).trans rfl)) (fun v10 g11 hIg11 hfg11 l_v10 u_v10 => ⟨_, rfl, ?_⟩))
      show mm_W d mmX12_aDayOf 34 [some (.ref 137), some (.int (Int32.ofInt a1)), some (.int (Int32.ofInt v1))] [.int (Int32.ofInt v10), .int (Int32.ofInt v9), .int (Int32.ofInt v8), .int (Int32.ofInt v1), .ref 152] (mz_mk g11 x) Q
      refine mz_iadd rfl ?_
      refine mz_mn rfl mt_12_191 (Nat.le_of_ble_eq_true rfl) (by omega) (mz_rg l_v8 u_v8) ⟨by omega, by omega⟩ (fun v12 e_v12 => ?_)
      have l_v12 : 0 ≤ v12 := by omega
      have u_v12 : v12 ≤ 8 := by omega
      refine mz_sI rfl (sh_152 _) (by omega) (by omega) (by decide) hIg11 (ba_152 _) (by omega) (by omega) (fun g13 hIg13 hug13 => ?_)
      refine mz_iincR (v := v1) (lo2 := [some (.ref 137), some (.int (Int32.ofInt a1)), some (.int (Int32.ofInt (v1 + 1)))]) rfl rfl rfl (Nat.le_of_ble_eq_true rfl) rfl ?_
      refine mz_gt (tgt := 2) rfl rfl ?_
      exact ih3 ((6 - (v1 + 1)).toNat) (by omega) (v1 + 1) g13 rfl (by omega) (by omega) hIg13 (fun k j hk => ((hug13.2 k j (fun h => hk (Or.inr (Or.inr (Or.inr (Or.inr (Or.inr (Or.inr (Or.inr (Or.inr h.1)))))))))).trans ((hfg11 k j (fun h => hk (Or.elim h (fun h => (Or.inl h)) (fun h => (Or.elim h (fun h => (Or.inr (Or.inl h))) (fun h => (Or.elim h (fun h => (Or.inr (Or.inr (Or.inl h)))) (fun h => (Or.elim h (fun h => (Or.inr (Or.inr (Or.inr (Or.inl h))))) (fun h => (Or.elim h (fun h => (Or.inr (Or.inr (Or.inr (Or.inr (Or.inl h)))))) (fun h => (Or.elim h (fun h => (Or.inr (Or.inr (Or.inr (Or.inr (Or.inr (Or.inl h))))))) (fun h => (Or.elim h (fun h => (Or.inr (Or.inr (Or.inr (Or.inr (Or.inr (Or.inr (Or.inl h)))))))) (fun h => (Or.inr (Or.inr (Or.inr (Or.inr (Or.inr (Or.inr (Or.inr (Or.inl h)))))))))))))))))))))))).trans (hfg2 k j (fun h => hk (Or.elim h (fun h => (Or.inl h)) (fun h => (Or.elim h (fun h => (Or.inr (Or.inl h))) (fun h => (Or.elim h (fun h => (Or.inr (Or.inr (Or.inl h)))) (fun h => (Or.elim h (fun h => (Or.inr (Or.inr (Or.inr (Or.inl h))))) (fun h => (Or.elim h (fun h => (Or.inr (Or.inr (Or.inr (Or.inr (Or.inl h)))))) (fun h => (Or.elim h (fun h => (Or.inr (Or.inr (Or.inr (Or.inr (Or.inr (Or.inl h))))))) (fun h => (Or.elim h (fun h => (Or.inr (Or.inr (Or.inr (Or.inr (Or.inr (Or.inr (Or.inl h)))))))) (fun h => (Or.elim h (fun h => (Or.inr (Or.inr (Or.inr (Or.inr (Or.inr (Or.inr (Or.inr (Or.inl h))))))))) (fun h => (Or.inr (Or.inr (Or.inr (Or.inr (Or.inr (Or.inr (Or.inr (Or.inr h)))))))))))))))))))))))))))))
  exact L5 _ 0 g rfl (by decide) (by decide) hI (fun _ _ _ => rfl)
def fl_X12_goOn_2 (x : mm_X) (a1 : Int) : Nat → Nat → Prop := fun k j => (k = 160 ∧ j = 0) ∨ (k = 160 ∧ j = 1) ∨ (k = 160 ∧ j = 2) ∨ (k = 160 ∧ j = 3) ∨ (k = 160 ∧ j = 4) ∨ (k = 160 ∧ j = 5) ∨ (k = 160 ∧ j = 6) ∨ k = 161 ∨ k = 152 ∨ (k = 137 ∧ j = 30)
def fw_X12_goOn (x : mm_X) (a1 : Int) : Nat → Nat → Prop := fun k j => (k = 160 ∧ j = 0) ∨ (k = 160 ∧ j = 1) ∨ (k = 160 ∧ j = 2) ∨ (k = 160 ∧ j = 3) ∨ (k = 160 ∧ j = 4) ∨ (k = 160 ∧ j = 5) ∨ (k = 160 ∧ j = 6) ∨ k = 161 ∨ k = 152 ∨ (k = 137 ∧ j = 30)
theorem c_X12_goOn {d : Nat} (hd : 15 ≤ d) {x : mm_X} (hx : mk_x x) {g : mz_G} (hI : mz_inv g) {a1 : Int} (l_a1 : 0 ≤ a1) (u_a1 : a1 ≤ 60) (p1 : mz_pv g) (p2 : g 137 30 + a1 ≤ 1999) {Q : (Option Value ⊕ Nat) → mm_H → Prop} (hQ : ∀ (g1 : mz_G), mz_inv g1 → mz_fr (fw_X12_goOn x a1) g g1 → (g1 137 30 = g 137 30 + a1) → Q (.inl none) (mz_mk g1 x)) : mm_C d 237 [.ref 137, .int (Int32.ofInt a1)] (mz_mk g x) Q := by
  refine ⟨mmX12_goOn, [some (.ref 137), some (.int (Int32.ofInt a1)), none], rfl, rfl, ?_⟩
  have bz0 := mz_rd hI bd_137_30
  have hpv := p1
  refine mm_g 2 (pc1 := 2) (lo1 := [some (.ref 137), some (.int (Int32.ofInt a1)), some (.int (Int32.ofInt 0))]) (st1 := []) (H1 := mz_mk g x) rfl ?_
  have L5 : ∀ n4 : Nat, ∀ (v1 : Int) (g2 : mz_G), (60 - v1).toNat = n4 → 0 ≤ v1 → v1 ≤ 60 → mz_inv g2 → mz_fr (fl_X12_goOn_2 x a1) g g2 → (g2 137 30 = g 137 30 + v1) → (v1 ≤ a1) → mm_W d mmX12_goOn 2 [some (.ref 137), some (.int (Int32.ofInt a1)), some (.int (Int32.ofInt v1))] [] (mz_mk g2 x) Q := by
    intro n4
    induction n4 using Nat.strongRecOn with
    | ind n4 ih3 =>
    intro v1 g2 hmn4 l_v1 u_v1 hIg2 hfg2 hv6 hv7
    have bz_g2_30 := mz_rd hIg2 bd_137_30
    refine mm_g 2 (pc1 := 4) (lo1 := [some (.ref 137), some (.int (Int32.ofInt a1)), some (.int (Int32.ofInt v1))]) (st1 := [.int (Int32.ofInt a1), .int (Int32.ofInt v1)]) (H1 := mz_mk g2 x) rfl ?_
    refine mz_ic_ge (tgt := 25) rfl rfl (mz_rg l_v1 u_v1) (mz_rg l_a1 u_a1) (fun c4_7 => ?_) (fun c4_7 => ?_)
    · skip
      exact mm_rt rfl rfl (hQ _ hIg2 (fun k j hk => (hfg2 k j (fun h => hk (Or.elim h (fun h => (Or.inl h)) (fun h => (Or.elim h (fun h => (Or.inr (Or.inl h))) (fun h => (Or.elim h (fun h => (Or.inr (Or.inr (Or.inl h)))) (fun h => (Or.elim h (fun h => (Or.inr (Or.inr (Or.inr (Or.inl h))))) (fun h => (Or.elim h (fun h => (Or.inr (Or.inr (Or.inr (Or.inr (Or.inl h)))))) (fun h => (Or.elim h (fun h => (Or.inr (Or.inr (Or.inr (Or.inr (Or.inr (Or.inl h))))))) (fun h => (Or.elim h (fun h => (Or.inr (Or.inr (Or.inr (Or.inr (Or.inr (Or.inr (Or.inl h)))))))) (fun h => (Or.elim h (fun h => (Or.inr (Or.inr (Or.inr (Or.inr (Or.inr (Or.inr (Or.inr (Or.inl h))))))))) (fun h => (Or.elim h (fun h => (Or.inr (Or.inr (Or.inr (Or.inr (Or.inr (Or.inr (Or.inr (Or.inr (Or.inl h)))))))))) (fun h => (Or.inr (Or.inr (Or.inr (Or.inr (Or.inr (Or.inr (Or.inr (Or.inr (Or.inr h)))))))))))))))))))))))))))))) (by have h9 := hv6; omega))
    · skip
      refine mm_g 3 (pc1 := 10) (lo1 := [some (.ref 137), some (.int (Int32.ofInt a1)), some (.int (Int32.ofInt v1))]) (st1 := [.ref 137, .ref 137, .ref 137]) (H1 := mz_mk g2 x) rfl ?_
      refine mz_fgI (v := (g 137 30 + v1)) rfl fd_12_307 (by decide) (sc_137 _) hv6 ?_
      refine mz_cv rfl mt_12_359 (by decide) (sc_137 _) rfl (Nat.le_of_ble_eq_true rfl) (by omega) (c_X12_heatOf (by omega) hx hIg2 (by omega) (by omega) (fun v8 l_v8 u_v8 => ⟨_, rfl, ?_⟩))
      show mm_W d mmX12_goOn 16 [some (.ref 137), some (.int (Int32.ofInt a1)), some (.int (Int32.ofInt v1))] [.int (Int32.ofInt v8), .ref 137] (mz_mk g2 x) Q
      have hq9 : g2 137 30 = (g 137 30 + v1) := hv6
      refine mz_cv rfl mt_12_362 (by decide) (sc_137 _) rfl (Nat.le_of_ble_eq_true rfl) (by omega) (c_X12_aDayOf (by omega) hx hIg2 l_v8 u_v8 (mz_pv_fr hpv (fun _j => ((hfg2 149 _j (fun h => (Or.elim h (fun h => (absurd (show 149 = 160 from (h).1) (by decide))) (fun h => (Or.elim h (fun h => (absurd (show 149 = 160 from (h).1) (by decide))) (fun h => (Or.elim h (fun h => (absurd (show 149 = 160 from (h).1) (by decide))) (fun h => (Or.elim h (fun h => (absurd (show 149 = 160 from (h).1) (by decide))) (fun h => (Or.elim h (fun h => (absurd (show 149 = 160 from (h).1) (by decide))) (fun h => (Or.elim h (fun h => (absurd (show 149 = 160 from (h).1) (by decide))) (fun h => (Or.elim h (fun h => (absurd (show 149 = 160 from (h).1) (by decide))) (fun h => (Or.elim h (fun h => (absurd (show 149 = 161 from h) (by decide))) (fun h => (Or.elim h (fun h => (absurd (show 149 = 152 from h) (by decide))) (fun h => (absurd (show 149 = 137 from (h).1) (by decide)))))))))))))))))))))).trans rfl)) ((hfg2 140 3 (fun h => (Or.elim h (fun h => (absurd (show 140 = 160 from (h).1) (by decide))) (fun h => (Or.elim h (fun h => (absurd (show 140 = 160 from (h).1) (by decide))) (fun h => (Or.elim h (fun h => (absurd (show 140 = 160 from (h).1) (by decide))) (fun h => (Or.elim h (fun h => (absurd (show 140 = 160 from (h).1) (by decide))) (fun h => (Or.elim h (fun h => (absurd (show 140 = 160 from (h).1) (by decide))) (fun h => (Or.elim h (fun h => (absurd (show 140 = 160 from (h).1) (by decide))) (fun h => (Or.elim h (fun h => (absurd (show 140 = 160 from (h).1) (by decide))) (fun h => (Or.elim h (fun h => (absurd (show 140 = 161 from h) (by decide))) (fun h => (Or.elim h (fun h => (absurd (show 140 = 152 from h) (by decide))) (fun h => (absurd (show 140 = 137 from (h).1) (by decide)))))))))))))))))))))).trans rfl)) (by have h9 := hv6; omega) (fun g10 hIg10 hfg10 hp11 => ⟨_, rfl, ?_⟩))
      show mm_W d mmX12_goOn 19 [some (.ref 137), some (.int (Int32.ofInt a1)), some (.int (Int32.ofInt v1))] [] (mz_mk g10 x) Q
      refine mz_iincR (v := v1) (lo2 := [some (.ref 137), some (.int (Int32.ofInt a1)), some (.int (Int32.ofInt (v1 + 1)))]) rfl rfl rfl (Nat.le_of_ble_eq_true rfl) rfl ?_
      refine mz_gt (tgt := 2) rfl rfl ?_
      exact ih3 ((60 - (v1 + 1)).toNat) (by omega) (v1 + 1) g10 rfl (by omega) (by omega) hIg10 (fun k j hk => ((hfg10 k j (fun h => hk (Or.elim h (fun h => (Or.inl h)) (fun h => (Or.elim h (fun h => (Or.inr (Or.inl h))) (fun h => (Or.elim h (fun h => (Or.inr (Or.inr (Or.inl h)))) (fun h => (Or.elim h (fun h => (Or.inr (Or.inr (Or.inr (Or.inl h))))) (fun h => (Or.elim h (fun h => (Or.inr (Or.inr (Or.inr (Or.inr (Or.inl h)))))) (fun h => (Or.elim h (fun h => (Or.inr (Or.inr (Or.inr (Or.inr (Or.inr (Or.inl h))))))) (fun h => (Or.elim h (fun h => (Or.inr (Or.inr (Or.inr (Or.inr (Or.inr (Or.inr (Or.inl h)))))))) (fun h => (Or.elim h (fun h => (Or.inr (Or.inr (Or.inr (Or.inr (Or.inr (Or.inr (Or.inr (Or.inl h))))))))) (fun h => (Or.elim h (fun h => (Or.inr (Or.inr (Or.inr (Or.inr (Or.inr (Or.inr (Or.inr (Or.inr (Or.inl h)))))))))) (fun h => (Or.inr (Or.inr (Or.inr (Or.inr (Or.inr (Or.inr (Or.inr (Or.inr (Or.inr h))))))))))))))))))))))))))))).trans (hfg2 k j (fun h => hk (Or.elim h (fun h => (Or.inl h)) (fun h => (Or.elim h (fun h => (Or.inr (Or.inl h))) (fun h => (Or.elim h (fun h => (Or.inr (Or.inr (Or.inl h)))) (fun h => (Or.elim h (fun h => (Or.inr (Or.inr (Or.inr (Or.inl h))))) (fun h => (Or.elim h (fun h => (Or.inr (Or.inr (Or.inr (Or.inr (Or.inl h)))))) (fun h => (Or.elim h (fun h => (Or.inr (Or.inr (Or.inr (Or.inr (Or.inr (Or.inl h))))))) (fun h => (Or.elim h (fun h => (Or.inr (Or.inr (Or.inr (Or.inr (Or.inr (Or.inr (Or.inl h)))))))) (fun h => (Or.elim h (fun h => (Or.inr (Or.inr (Or.inr (Or.inr (Or.inr (Or.inr (Or.inr (Or.inl h))))))))) (fun h => (Or.elim h (fun h => (Or.inr (Or.inr (Or.inr (Or.inr (Or.inr (Or.inr (Or.inr (Or.inr (Or.inl h)))))))))) (fun h => (Or.inr (Or.inr (Or.inr (Or.inr (Or.inr (Or.inr (Or.inr (Or.inr (Or.inr h))))))))))))))))))))))))))))))) (by have h9 := (show g10 137 30 = (g10 137 30) from rfl); omega) (by omega)
  exact L5 _ 0 g rfl (by decide) (by decide) hI (fun _ _ _ => rfl) (by have h9 := (show g 137 30 = (g 137 30) from rfl); omega) (by omega)
theorem c_X12_fullOnes {d : Nat} (hd : 14 ≤ d) {x : mm_X} (hx : mk_x x) {g : mz_G} (hI : mz_inv g) {Q : (Option Value ⊕ Nat) → mm_H → Prop} (hQ : ∀ (r : Int), 0 ≤ r → r ≤ 63 → Q (.inl (some (.int (Int32.ofInt r)))) (mz_mk g x)) : mm_C d 238 [.ref 137] (mz_mk g x) Q := by
  refine ⟨mmX12_fullOnes, [some (.ref 137), none, none], rfl, rfl, ?_⟩
  refine mm_g 4 (pc1 := 4) (lo1 := [some (.ref 137), some (.int (Int32.ofInt 0)), some (.int (Int32.ofInt 0))]) (st1 := []) (H1 := mz_mk g x) rfl ?_
  have L6 : ∀ n5 : Nat, ∀ (v1 : Int) (v2 : Int), (6 - v2).toNat = n5 → 0 ≤ v1 → v1 ≤ 63 → 0 ≤ v2 → v2 ≤ 6 → mm_W d mmX12_fullOnes 4 [some (.ref 137), some (.int (Int32.ofInt v1)), some (.int (Int32.ofInt v2))] [] (mz_mk g x) Q := by
    intro n5
    induction n5 using Nat.strongRecOn with
    | ind n5 ih4 =>
    intro v1 v2 hmn5 l_v1 u_v1 l_v2 u_v2
    refine mm_g 2 (pc1 := 6) (lo1 := [some (.ref 137), some (.int (Int32.ofInt v1)), some (.int (Int32.ofInt v2))]) (st1 := [.ref 137, .int (Int32.ofInt v2)]) (H1 := mz_mk g x) rfl ?_
    refine mz_fgR (v := 140) rfl fd_12_36 (by decide) (sc_137 _) (rf_137_3 _ _ _) ?_
    refine mm_g 1 (pc1 := 10) (lo1 := [some (.ref 137), some (.int (Int32.ofInt v1)), some (.int (Int32.ofInt v2))]) (st1 := [.int (Int32.ofInt 1), .ref 140, .int (Int32.ofInt v2)]) (H1 := mz_mk g x) rfl ?_
    refine mz_aI rfl (sh_140 _) (by omega) (by omega) (by decide) hI bt_140_1 (fun v7 e_v7 l_v7 u_v7 => ?_)
    have e_v7 : g 140 1 = v7 := e_v7
    refine mz_ic_ge (tgt := 38) rfl rfl (mz_rg l_v2 u_v2) (mz_rg l_v7 u_v7) (fun c11_7 => ?_) (fun c11_7 => ?_)
    · skip
      refine mm_g 1 (pc1 := 39) (lo1 := [some (.ref 137), some (.int (Int32.ofInt v1)), some (.int (Int32.ofInt v2))]) (st1 := [.int (Int32.ofInt v1)]) (H1 := mz_mk g x) rfl ?_
      exact mm_rt rfl rfl (hQ _ (by omega) (by omega))
    · skip
      refine mm_g 3 (pc1 := 17) (lo1 := [some (.ref 137), some (.int (Int32.ofInt v1)), some (.int (Int32.ofInt v2))]) (st1 := [.int (Int32.ofInt v2), .ref 137, .int (Int32.ofInt v1)]) (H1 := mz_mk g x) rfl ?_
      refine mz_cv rfl mt_12_365 (by decide) (sc_137 _) rfl (Nat.le_of_ble_eq_true rfl) (by omega) (c_X12_isFull (by omega) hx hI (by omega) (by omega) (fun v8 l_v8 u_v8 => ⟨_, rfl, ?_⟩))
      show mm_W d mmX12_fullOnes 20 [some (.ref 137), some (.int (Int32.ofInt v1)), some (.int (Int32.ofInt v2))] [.int (Int32.ofInt v8), .int (Int32.ofInt v1)] (mz_mk g x) Q
      refine mz_if_eq (tgt := 29) rfl rfl (mz_rg l_v8 u_v8) (fun c20_8 => ?_) (fun c20_8 => ?_)
      · skip
        refine mm_g 1 (pc1 := 30) (lo1 := [some (.ref 137), some (.int (Int32.ofInt v1)), some (.int (Int32.ofInt v2))]) (st1 := [.int (Int32.ofInt 0), .int (Int32.ofInt v1)]) (H1 := mz_mk g x) rfl ?_
        refine mz_ior rfl (fun v9 e_v9 hwv9 => ?_)
        have b_v9 : 0 ≤ v9 ∧ v9 ≤ 63 := by rw [e_v9]; exact mz_or_lt (n := 6) (by decide) (by omega) (by omega) (by omega) (by omega)
        have l_v9 := b_v9.1
        have u_v9 := b_v9.2
        refine mm_g 1 (pc1 := 32) (lo1 := [some (.ref 137), some (.int (Int32.ofInt v9)), some (.int (Int32.ofInt v2))]) (st1 := []) (H1 := mz_mk g x) rfl ?_
        refine mz_iincR (v := v2) (lo2 := [some (.ref 137), some (.int (Int32.ofInt v9)), some (.int (Int32.ofInt (v2 + 1)))]) rfl rfl rfl (Nat.le_of_ble_eq_true rfl) rfl ?_
        refine mz_gt (tgt := 4) rfl rfl ?_
        exact ih4 ((6 - (v2 + 1)).toNat) (by omega) v9 (v2 + 1) rfl (by omega) (by omega) (by omega) (by omega)
      · skip
        refine mm_g 2 (pc1 := 25) (lo1 := [some (.ref 137), some (.int (Int32.ofInt v1)), some (.int (Int32.ofInt v2))]) (st1 := [.int (Int32.ofInt v2), .int (Int32.ofInt 1), .int (Int32.ofInt v1)]) (H1 := mz_mk g x) rfl ?_
        refine mz_ishl rfl (fun v10 e_v10 hwv10 => ?_)
        have b_v10 : 1 ≤ v10 ∧ v10 ≤ 32 := by rw [e_v10]; exact mz_shl_b (lx := 1) (hx := 1) (k := 5) (by decide) (by decide) (by omega) (by omega) (by omega) (by omega)
        have l_v10 := b_v10.1
        have u_v10 := b_v10.2
        refine mz_gt (tgt := 30) rfl rfl ?_
        refine mz_ior rfl (fun v11 e_v11 hwv11 => ?_)
        have b_v11 : 0 ≤ v11 ∧ v11 ≤ 63 := by rw [e_v11]; exact mz_or_lt (n := 6) (by decide) (by omega) (by omega) (by omega) (by omega)
        have l_v11 := b_v11.1
        have u_v11 := b_v11.2
        refine mm_g 1 (pc1 := 32) (lo1 := [some (.ref 137), some (.int (Int32.ofInt v11)), some (.int (Int32.ofInt v2))]) (st1 := []) (H1 := mz_mk g x) rfl ?_
        refine mz_iincR (v := v2) (lo2 := [some (.ref 137), some (.int (Int32.ofInt v11)), some (.int (Int32.ofInt (v2 + 1)))]) rfl rfl rfl (Nat.le_of_ble_eq_true rfl) rfl ?_
        refine mz_gt (tgt := 4) rfl rfl ?_
        exact ih4 ((6 - (v2 + 1)).toNat) (by omega) v11 (v2 + 1) rfl (by omega) (by omega) (by omega) (by omega)
  exact L6 _ 0 0 rfl (by decide) (by decide) (by decide) (by decide)
theorem c_X12_blendSize {d : Nat} (hd : 1 ≤ d) {x : mm_X} (hx : mk_x x) {g : mz_G} (hI : mz_inv g) {a1 : Int} (l_a1 : 0 ≤ a1) (u_a1 : a1 ≤ 5) {Q : (Option Value ⊕ Nat) → mm_H → Prop} (hQ : ∀ (r : Int), (-8) ≤ r → r ≤ 16 → Q (.inl (some (.int (Int32.ofInt r)))) (mz_mk g x)) : mm_C d 239 [.ref 137, .int (Int32.ofInt a1)] (mz_mk g x) Q := by
  refine ⟨mmX12_blendSize, [some (.ref 137), some (.int (Int32.ofInt a1))], rfl, rfl, ?_⟩
  refine mm_g 1 (pc1 := 1) (lo1 := [some (.ref 137), some (.int (Int32.ofInt a1))]) (st1 := [.ref 137]) (H1 := mz_mk g x) rfl ?_
  refine mz_fgR (v := 142) rfl fd_12_43 (by decide) (sc_137 _) (rf_137_5 _ _ _) ?_
  refine mm_g 1 (pc1 := 5) (lo1 := [some (.ref 137), some (.int (Int32.ofInt a1))]) (st1 := [.ref 137, .ref 142]) (H1 := mz_mk g x) rfl ?_
  refine mz_fgR (v := 153) rfl fd_12_78 (by decide) (sc_137 _) (rf_137_26 _ _ _) ?_
  refine mm_g 1 (pc1 := 9) (lo1 := [some (.ref 137), some (.int (Int32.ofInt a1))]) (st1 := [.int (Int32.ofInt a1), .ref 153, .ref 142]) (H1 := mz_mk g x) rfl ?_
  refine mz_aI rfl (sh_153 _) (by omega) (by omega) (by decide) hI (ba_153 _) (fun v1 e_v1 l_v1 u_v1 => ?_)
  refine mz_aI rfl (sh_142 _) (by omega) (by omega) (by decide) hI (ba_142 _) (fun v2 e_v2 l_v2 u_v2 => ?_)
  refine mm_g 1 (pc1 := 12) (lo1 := [some (.ref 137), some (.int (Int32.ofInt a1))]) (st1 := [.ref 137, .int (Int32.ofInt v2)]) (H1 := mz_mk g x) rfl ?_
  refine mz_fgR (v := 142) rfl fd_12_43 (by decide) (sc_137 _) (rf_137_5 _ _ _) ?_
  refine mm_g 1 (pc1 := 16) (lo1 := [some (.ref 137), some (.int (Int32.ofInt a1))]) (st1 := [.ref 137, .ref 142, .int (Int32.ofInt v2)]) (H1 := mz_mk g x) rfl ?_
  refine mz_fgR (v := 154) rfl fd_12_80 (by decide) (sc_137 _) (rf_137_27 _ _ _) ?_
  refine mm_g 1 (pc1 := 20) (lo1 := [some (.ref 137), some (.int (Int32.ofInt a1))]) (st1 := [.int (Int32.ofInt a1), .ref 154, .ref 142, .int (Int32.ofInt v2)]) (H1 := mz_mk g x) rfl ?_
  refine mz_aI rfl (sh_154 _) (by omega) (by omega) (by decide) hI (ba_154 _) (fun v3 e_v3 l_v3 u_v3 => ?_)
  refine mz_aI rfl (sh_142 _) (by omega) (by omega) (by decide) hI (ba_142 _) (fun v4 e_v4 l_v4 u_v4 => ?_)
  refine mz_iadd rfl ?_
  refine mm_g 1 (pc1 := 24) (lo1 := [some (.ref 137), some (.int (Int32.ofInt a1))]) (st1 := [.ref 137, .int (Int32.ofInt (v2 + v4))]) (H1 := mz_mk g x) rfl ?_
  refine mz_fgR (v := 152) rfl fd_12_76 (by decide) (sc_137 _) (rf_137_25 _ _ _) ?_
  refine mm_g 1 (pc1 := 28) (lo1 := [some (.ref 137), some (.int (Int32.ofInt a1))]) (st1 := [.int (Int32.ofInt a1), .ref 152, .int (Int32.ofInt (v2 + v4))]) (H1 := mz_mk g x) rfl ?_
  refine mz_aI rfl (sh_152 _) (by omega) (by omega) (by decide) hI (ba_152 _) (fun v5 e_v5 l_v5 u_v5 => ?_)
  refine mz_isub rfl ?_
  exact mm_rt rfl rfl (hQ _ (by omega) (by omega))
theorem c_X12_allLetters {d : Nat} (hd : 2 ≤ d) {x : mm_X} (hx : mk_x x) {g : mz_G} (hI : mz_inv g) {Q : (Option Value ⊕ Nat) → mm_H → Prop} (hQ : ∀ (r : Int), (-2147483648) ≤ r → r ≤ 2147483647 → Q (.inl (some (.int (Int32.ofInt r)))) (mz_mk g x)) : mm_C d 240 [.ref 137] (mz_mk g x) Q := by
  refine ⟨mmX12_allLetters, [some (.ref 137), none, none], rfl, rfl, ?_⟩
  refine mm_g 4 (pc1 := 4) (lo1 := [some (.ref 137), some (.int (Int32.ofInt 0)), some (.int (Int32.ofInt 0))]) (st1 := []) (H1 := mz_mk g x) rfl ?_
  have L6 : ∀ n5 : Nat, ∀ (v1 : Int) (v2 : Int), (6 - v2).toNat = n5 → (-2147483648) ≤ v1 → v1 ≤ 2147483647 → 0 ≤ v2 → v2 ≤ 6 → mm_W d mmX12_allLetters 4 [some (.ref 137), some (.int (Int32.ofInt v1)), some (.int (Int32.ofInt v2))] [] (mz_mk g x) Q := by
    intro n5
    induction n5 using Nat.strongRecOn with
    | ind n5 ih4 =>
    intro v1 v2 hmn5 l_v1 u_v1 l_v2 u_v2
    refine mm_g 2 (pc1 := 6) (lo1 := [some (.ref 137), some (.int (Int32.ofInt v1)), some (.int (Int32.ofInt v2))]) (st1 := [.ref 137, .int (Int32.ofInt v2)]) (H1 := mz_mk g x) rfl ?_
    refine mz_fgR (v := 140) rfl fd_12_36 (by decide) (sc_137 _) (rf_137_3 _ _ _) ?_
    refine mm_g 1 (pc1 := 10) (lo1 := [some (.ref 137), some (.int (Int32.ofInt v1)), some (.int (Int32.ofInt v2))]) (st1 := [.int (Int32.ofInt 1), .ref 140, .int (Int32.ofInt v2)]) (H1 := mz_mk g x) rfl ?_
    refine mz_aI rfl (sh_140 _) (by omega) (by omega) (by decide) hI bt_140_1 (fun v7 e_v7 l_v7 u_v7 => ?_)
    have e_v7 : g 140 1 = v7 := e_v7
    refine mz_ic_ge (tgt := 28) rfl rfl (mz_rg l_v2 u_v2) (mz_rg l_v7 u_v7) (fun c11_7 => ?_) (fun c11_7 => ?_)
    · skip
      refine mm_g 1 (pc1 := 29) (lo1 := [some (.ref 137), some (.int (Int32.ofInt v1)), some (.int (Int32.ofInt v2))]) (st1 := [.int (Int32.ofInt v1)]) (H1 := mz_mk g x) rfl ?_
      exact mm_rt rfl rfl (hQ _ (by omega) (by omega))
    · skip
      refine mm_g 3 (pc1 := 17) (lo1 := [some (.ref 137), some (.int (Int32.ofInt v1)), some (.int (Int32.ofInt v2))]) (st1 := [.int (Int32.ofInt v2), .ref 137, .int (Int32.ofInt v1)]) (H1 := mz_mk g x) rfl ?_
      refine mz_cv rfl mt_12_368 (by decide) (sc_137 _) rfl (Nat.le_of_ble_eq_true rfl) (by omega) (c_X12_blendSize (by omega) hx hI (by omega) (by omega) (fun v8 l_v8 u_v8 => ⟨_, rfl, ?_⟩))
      show mm_W d mmX12_allLetters 20 [some (.ref 137), some (.int (Int32.ofInt v1)), some (.int (Int32.ofInt v2))] [.int (Int32.ofInt v8), .int (Int32.ofInt v1)] (mz_mk g x) Q
      refine mz_iadd_w rfl (fun v9 _ hwv9 => ?_)
      have l_v9 := hwv9.1
      have u_v9 := hwv9.2
      refine mm_g 1 (pc1 := 22) (lo1 := [some (.ref 137), some (.int (Int32.ofInt v9)), some (.int (Int32.ofInt v2))]) (st1 := []) (H1 := mz_mk g x) rfl ?_
      refine mz_iincR (v := v2) (lo2 := [some (.ref 137), some (.int (Int32.ofInt v9)), some (.int (Int32.ofInt (v2 + 1)))]) rfl rfl rfl (Nat.le_of_ble_eq_true rfl) rfl ?_
      refine mz_gt (tgt := 4) rfl rfl ?_
      exact ih4 ((6 - (v2 + 1)).toNat) (by omega) v9 (v2 + 1) rfl (by omega) (by omega) (by omega) (by omega)
  exact L6 _ 0 0 rfl (by decide) (by decide) (by decide) (by decide)
theorem c_X12_treaties {d : Nat} (hd : 1 ≤ d) {x : mm_X} (hx : mk_x x) {g : mz_G} (hI : mz_inv g) {Q : (Option Value ⊕ Nat) → mm_H → Prop} (hQ : ∀ (r : Int), 0 ≤ r → r ≤ 63 → Q (.inl (some (.int (Int32.ofInt r)))) (mz_mk g x)) : mm_C d 241 [.ref 137] (mz_mk g x) Q := by
  refine ⟨mmX12_treaties, [some (.ref 137), none, none], rfl, rfl, ?_⟩
  refine mm_g 4 (pc1 := 4) (lo1 := [some (.ref 137), some (.int (Int32.ofInt 0)), some (.int (Int32.ofInt 0))]) (st1 := []) (H1 := mz_mk g x) rfl ?_
  have L6 : ∀ n5 : Nat, ∀ (v1 : Int) (v2 : Int), (6 - v2).toNat = n5 → 0 ≤ v1 → v1 ≤ 63 → 0 ≤ v2 → v2 ≤ 6 → mm_W d mmX12_treaties 4 [some (.ref 137), some (.int (Int32.ofInt v1)), some (.int (Int32.ofInt v2))] [] (mz_mk g x) Q := by
    intro n5
    induction n5 using Nat.strongRecOn with
    | ind n5 ih4 =>
    intro v1 v2 hmn5 l_v1 u_v1 l_v2 u_v2
    refine mm_g 2 (pc1 := 6) (lo1 := [some (.ref 137), some (.int (Int32.ofInt v1)), some (.int (Int32.ofInt v2))]) (st1 := [.ref 137, .int (Int32.ofInt v2)]) (H1 := mz_mk g x) rfl ?_
    refine mz_fgR (v := 140) rfl fd_12_36 (by decide) (sc_137 _) (rf_137_3 _ _ _) ?_
    refine mm_g 1 (pc1 := 10) (lo1 := [some (.ref 137), some (.int (Int32.ofInt v1)), some (.int (Int32.ofInt v2))]) (st1 := [.int (Int32.ofInt 1), .ref 140, .int (Int32.ofInt v2)]) (H1 := mz_mk g x) rfl ?_
    refine mz_aI rfl (sh_140 _) (by omega) (by omega) (by decide) hI bt_140_1 (fun v7 e_v7 l_v7 u_v7 => ?_)
    have e_v7 : g 140 1 = v7 := e_v7
    refine mz_ic_ge (tgt := 40) rfl rfl (mz_rg l_v2 u_v2) (mz_rg l_v7 u_v7) (fun c11_7 => ?_) (fun c11_7 => ?_)
    · skip
      refine mm_g 1 (pc1 := 41) (lo1 := [some (.ref 137), some (.int (Int32.ofInt v1)), some (.int (Int32.ofInt v2))]) (st1 := [.int (Int32.ofInt v1)]) (H1 := mz_mk g x) rfl ?_
      exact mm_rt rfl rfl (hQ _ (by omega) (by omega))
    · skip
      refine mm_g 2 (pc1 := 16) (lo1 := [some (.ref 137), some (.int (Int32.ofInt v1)), some (.int (Int32.ofInt v2))]) (st1 := [.ref 137, .int (Int32.ofInt v1)]) (H1 := mz_mk g x) rfl ?_
      refine mz_fgR (v := 144) rfl fd_12_49 (by decide) (sc_137 _) (rf_137_7 _ _ _) ?_
      refine mm_g 1 (pc1 := 20) (lo1 := [some (.ref 137), some (.int (Int32.ofInt v1)), some (.int (Int32.ofInt v2))]) (st1 := [.int (Int32.ofInt v2), .ref 144, .int (Int32.ofInt v1)]) (H1 := mz_mk g x) rfl ?_
      refine mz_aI rfl (sh_144 _) (by omega) (by omega) (by decide) hI (ba_144 _) (fun v8 e_v8 l_v8 u_v8 => ?_)
      refine mm_g 1 (pc1 := 22) (lo1 := [some (.ref 137), some (.int (Int32.ofInt v1)), some (.int (Int32.ofInt v2))]) (st1 := [.int (Int32.ofInt 1), .int (Int32.ofInt v8), .int (Int32.ofInt v1)]) (H1 := mz_mk g x) rfl ?_
      refine mz_ic_ne (tgt := 31) rfl rfl (mz_rg l_v8 u_v8) ⟨by decide, by decide⟩ (fun c22_8 => ?_) (fun c22_8 => ?_)
      · skip
        refine mm_g 1 (pc1 := 32) (lo1 := [some (.ref 137), some (.int (Int32.ofInt v1)), some (.int (Int32.ofInt v2))]) (st1 := [.int (Int32.ofInt 0), .int (Int32.ofInt v1)]) (H1 := mz_mk g x) rfl ?_
        refine mz_ior rfl (fun v9 e_v9 hwv9 => ?_)
        have b_v9 : 0 ≤ v9 ∧ v9 ≤ 63 := by rw [e_v9]; exact mz_or_lt (n := 6) (by decide) (by omega) (by omega) (by omega) (by omega)
        have l_v9 := b_v9.1
        have u_v9 := b_v9.2
        refine mm_g 1 (pc1 := 34) (lo1 := [some (.ref 137), some (.int (Int32.ofInt v9)), some (.int (Int32.ofInt v2))]) (st1 := []) (H1 := mz_mk g x) rfl ?_
        refine mz_iincR (v := v2) (lo2 := [some (.ref 137), some (.int (Int32.ofInt v9)), some (.int (Int32.ofInt (v2 + 1)))]) rfl rfl rfl (Nat.le_of_ble_eq_true rfl) rfl ?_
        refine mz_gt (tgt := 4) rfl rfl ?_
        exact ih4 ((6 - (v2 + 1)).toNat) (by omega) v9 (v2 + 1) rfl (by omega) (by omega) (by omega) (by omega)
      · skip
        refine mm_g 2 (pc1 := 27) (lo1 := [some (.ref 137), some (.int (Int32.ofInt v1)), some (.int (Int32.ofInt v2))]) (st1 := [.int (Int32.ofInt v2), .int (Int32.ofInt 1), .int (Int32.ofInt v1)]) (H1 := mz_mk g x) rfl ?_
        refine mz_ishl rfl (fun v10 e_v10 hwv10 => ?_)
        have b_v10 : 1 ≤ v10 ∧ v10 ≤ 32 := by rw [e_v10]; exact mz_shl_b (lx := 1) (hx := 1) (k := 5) (by decide) (by decide) (by omega) (by omega) (by omega) (by omega)
        have l_v10 := b_v10.1
        have u_v10 := b_v10.2
        refine mz_gt (tgt := 32) rfl rfl ?_
        refine mz_ior rfl (fun v11 e_v11 hwv11 => ?_)
        have b_v11 : 0 ≤ v11 ∧ v11 ≤ 63 := by rw [e_v11]; exact mz_or_lt (n := 6) (by decide) (by omega) (by omega) (by omega) (by omega)
        have l_v11 := b_v11.1
        have u_v11 := b_v11.2
        refine mm_g 1 (pc1 := 34) (lo1 := [some (.ref 137), some (.int (Int32.ofInt v11)), some (.int (Int32.ofInt v2))]) (st1 := []) (H1 := mz_mk g x) rfl ?_
        refine mz_iincR (v := v2) (lo2 := [some (.ref 137), some (.int (Int32.ofInt v11)), some (.int (Int32.ofInt (v2 + 1)))]) rfl rfl rfl (Nat.le_of_ble_eq_true rfl) rfl ?_
        refine mz_gt (tgt := 4) rfl rfl ?_
        exact ih4 ((6 - (v2 + 1)).toNat) (by omega) v11 (v2 + 1) rfl (by omega) (by omega) (by omega) (by omega)
  exact L6 _ 0 0 rfl (by decide) (by decide) (by decide) (by decide)
def fw_X12_count (x : mm_X) (a1 : Int) : Nat → Nat → Prop := fun k j => (k = 137 ∧ j = 2)
theorem c_X12_count {d : Nat} (hd : 15 ≤ d) {x : mm_X} (hx : mk_x x) {g : mz_G} (hI : mz_inv g) {a1 : Int} (l_a1 : (-2147483648) ≤ a1) (u_a1 : a1 ≤ 2147483647) (p1 : mz_pv g) (p2 : g 137 30 ≤ 999) {Q : (Option Value ⊕ Nat) → mm_H → Prop} (hQ : ∀ (r : Int) (g1 : mz_G), mz_inv g1 → mz_fr (fw_X12_count x a1) g g1 → (-2147483648) ≤ r → r ≤ 2147483647 → (g1 137 30 ≤ 999) → Q (.inl (some (.int (Int32.ofInt r)))) (mz_mk g1 x)) : mm_C d 242 [.ref 137, .int (Int32.ofInt a1)] (mz_mk g x) Q := by
  refine ⟨mmX12_count, [some (.ref 137), some (.int (Int32.ofInt a1))], rfl, rfl, ?_⟩
  have bz0 := mz_rd hI bd_137_30
  have hpv := p1
  refine mm_g 2 (pc1 := 2) (lo1 := [some (.ref 137), some (.int (Int32.ofInt a1))]) (st1 := [.int (Int32.ofInt 0), .ref 137]) (H1 := mz_mk g x) rfl ?_
  refine mz_pI rfl fd_12_154 (sc_137 _) hI bd_137_2 (by omega) (by omega) (fun g1 hIg1 hug1 => ?_)
  refine mm_g 1 (pc1 := 6) (lo1 := [some (.ref 137), some (.int (Int32.ofInt a1))]) (st1 := [.int (Int32.ofInt a1)]) (H1 := mz_mk g1 x) rfl ?_
  by_cases c6_0 : a1 = 0
  · refine mz_tsi (tgt := 72) rfl (mz_rg l_a1 u_a1) (by omega) (by omega) (by rw [c6_0]; rfl) rfl ?_
    refine mm_g 1 (pc1 := 73) (lo1 := [some (.ref 137), some (.int (Int32.ofInt a1))]) (st1 := [.ref 137]) (H1 := mz_mk g1 x) rfl ?_
    refine mz_fgR (v := 140) rfl fd_12_36 (by decide) (sc_137 _) (rf_137_3 _ _ _) ?_
    refine mm_g 1 (pc1 := 77) (lo1 := [some (.ref 137), some (.int (Int32.ofInt a1))]) (st1 := [.int (Int32.ofInt a1), .ref 140]) (H1 := mz_mk g1 x) rfl ?_
    refine mz_aI rfl (sh_140 _) (by omega) (by omega) (by decide) hIg1 (Prod.eta (mz_bd 140 (a1 : Int).toNat)).symm (fun v2 e_v2 l_v2 u_v2 => ?_)
    have t_v2 := told_le (a1 : Int).toNat
    have l0_v2 := l_v2
    have u0_v2 := u_v2
    have l_v2 : 0 ≤ v2 := by omega
    have u_v2 : v2 ≤ 700 := by omega
    exact mm_rt rfl rfl (hQ _ _ hIg1 (fun k j hk => (hug1.2 k j (fun h => hk h))) (by omega) (by omega) (by have h9 := (show g1 137 30 = (g 137 30) from ((hug1.2 137 30 (fun h => absurd h.2 (by decide))).trans rfl)); omega))
  by_cases c6_1 : a1 = 1
  · refine mz_tsi (tgt := 72) rfl (mz_rg l_a1 u_a1) (by omega) (by omega) (by rw [c6_1]; rfl) rfl ?_
    refine mm_g 1 (pc1 := 73) (lo1 := [some (.ref 137), some (.int (Int32.ofInt a1))]) (st1 := [.ref 137]) (H1 := mz_mk g1 x) rfl ?_
    refine mz_fgR (v := 140) rfl fd_12_36 (by decide) (sc_137 _) (rf_137_3 _ _ _) ?_
    refine mm_g 1 (pc1 := 77) (lo1 := [some (.ref 137), some (.int (Int32.ofInt a1))]) (st1 := [.int (Int32.ofInt a1), .ref 140]) (H1 := mz_mk g1 x) rfl ?_
    refine mz_aI rfl (sh_140 _) (by omega) (by omega) (by decide) hIg1 (Prod.eta (mz_bd 140 (a1 : Int).toNat)).symm (fun v3 e_v3 l_v3 u_v3 => ?_)
    have t_v3 := told_le (a1 : Int).toNat
    have l0_v3 := l_v3
    have u0_v3 := u_v3
    have l_v3 : 0 ≤ v3 := by omega
    have u_v3 : v3 ≤ 700 := by omega
    exact mm_rt rfl rfl (hQ _ _ hIg1 (fun k j hk => (hug1.2 k j (fun h => hk h))) (by omega) (by omega) (by have h9 := (show g1 137 30 = (g 137 30) from ((hug1.2 137 30 (fun h => absurd h.2 (by decide))).trans rfl)); omega))
  by_cases c6_2 : a1 = 2
  · refine mz_tsi (tgt := 79) rfl (mz_rg l_a1 u_a1) (by omega) (by omega) (by rw [c6_2]; rfl) rfl ?_
    refine mm_g 1 (pc1 := 80) (lo1 := [some (.ref 137), some (.int (Int32.ofInt a1))]) (st1 := [.ref 137]) (H1 := mz_mk g1 x) rfl ?_
    refine mz_fgI (v := (g 137 30)) rfl fd_12_307 (by decide) (sc_137 _) (show g1 137 30 = (g 137 30) from ((hug1.2 137 30 (fun h => absurd h.2 (by decide))).trans rfl)) ?_
    exact mm_rt rfl rfl (hQ _ _ hIg1 (fun k j hk => (hug1.2 k j (fun h => hk h))) (by omega) (by omega) (by have h9 := (show g1 137 30 = (g 137 30) from ((hug1.2 137 30 (fun h => absurd h.2 (by decide))).trans rfl)); omega))
  by_cases c6_3 : a1 = 3
  · refine mz_tsi (tgt := 84) rfl (mz_rg l_a1 u_a1) (by omega) (by omega) (by rw [c6_3]; rfl) rfl ?_
    refine mm_g 2 (pc1 := 86) (lo1 := [some (.ref 137), some (.int (Int32.ofInt a1))]) (st1 := [.ref 137, .ref 137]) (H1 := mz_mk g1 x) rfl ?_
    refine mz_fgI (v := (g 137 30)) rfl fd_12_307 (by decide) (sc_137 _) (show g1 137 30 = (g 137 30) from ((hug1.2 137 30 (fun h => absurd h.2 (by decide))).trans rfl)) ?_
    refine mz_cv rfl mt_12_359 (by decide) (sc_137 _) rfl (Nat.le_of_ble_eq_true rfl) (by omega) (c_X12_heatOf (by omega) hx hIg1 (by omega) (by omega) (fun v4 l_v4 u_v4 => ⟨_, rfl, ?_⟩))
    show mm_W d mmX12_count 92 [some (.ref 137), some (.int (Int32.ofInt a1))] [.int (Int32.ofInt v4)] (mz_mk g1 x) Q
    exact mm_rt rfl rfl (hQ _ _ hIg1 (fun k j hk => (hug1.2 k j (fun h => hk h))) (by omega) (by omega) (by have h9 := (show g1 137 30 = (g 137 30) from ((hug1.2 137 30 (fun h => absurd h.2 (by decide))).trans rfl)); omega))
  by_cases c6_4 : a1 = 4
  · refine mz_tsi (tgt := 93) rfl (mz_rg l_a1 u_a1) (by omega) (by omega) (by rw [c6_4]; rfl) rfl ?_
    refine mm_g 1 (pc1 := 94) (lo1 := [some (.ref 137), some (.int (Int32.ofInt a1))]) (st1 := [.ref 137]) (H1 := mz_mk g1 x) rfl ?_
    refine mz_cv rfl mt_12_371 (by decide) (sc_137 _) rfl (Nat.le_of_ble_eq_true rfl) (by omega) (c_X12_fullOnes (by omega) hx hIg1 (fun v5 l_v5 u_v5 => ⟨_, rfl, ?_⟩))
    show mm_W d mmX12_count 97 [some (.ref 137), some (.int (Int32.ofInt a1))] [.int (Int32.ofInt v5)] (mz_mk g1 x) Q
    exact mm_rt rfl rfl (hQ _ _ hIg1 (fun k j hk => (hug1.2 k j (fun h => hk h))) (by omega) (by omega) (by have h9 := (show g1 137 30 = (g 137 30) from ((hug1.2 137 30 (fun h => absurd h.2 (by decide))).trans rfl)); omega))
  by_cases c6_5 : a1 = 5
  · refine mz_tsi (tgt := 98) rfl (mz_rg l_a1 u_a1) (by omega) (by omega) (by rw [c6_5]; rfl) rfl ?_
    refine mm_g 1 (pc1 := 99) (lo1 := [some (.ref 137), some (.int (Int32.ofInt a1))]) (st1 := [.ref 137]) (H1 := mz_mk g1 x) rfl ?_
    refine mz_cv rfl mt_12_374 (by decide) (sc_137 _) rfl (Nat.le_of_ble_eq_true rfl) (by omega) (c_X12_treaties (by omega) hx hIg1 (fun v6 l_v6 u_v6 => ⟨_, rfl, ?_⟩))
    show mm_W d mmX12_count 102 [some (.ref 137), some (.int (Int32.ofInt a1))] [.int (Int32.ofInt v6)] (mz_mk g1 x) Q
    exact mm_rt rfl rfl (hQ _ _ hIg1 (fun k j hk => (hug1.2 k j (fun h => hk h))) (by omega) (by omega) (by have h9 := (show g1 137 30 = (g 137 30) from ((hug1.2 137 30 (fun h => absurd h.2 (by decide))).trans rfl)); omega))
  by_cases c6_6 : a1 = 6
  · refine mz_tsi (tgt := 103) rfl (mz_rg l_a1 u_a1) (by omega) (by omega) (by rw [c6_6]; rfl) rfl ?_
    refine mm_g 1 (pc1 := 104) (lo1 := [some (.ref 137), some (.int (Int32.ofInt a1))]) (st1 := [.ref 137]) (H1 := mz_mk g1 x) rfl ?_
    refine mz_cv rfl mt_12_377 (by decide) (sc_137 _) rfl (Nat.le_of_ble_eq_true rfl) (by omega) (c_X12_allLetters (by omega) hx hIg1 (fun v7 l_v7 u_v7 => ⟨_, rfl, ?_⟩))
    show mm_W d mmX12_count 107 [some (.ref 137), some (.int (Int32.ofInt a1))] [.int (Int32.ofInt v7)] (mz_mk g1 x) Q
    exact mm_rt rfl rfl (hQ _ _ hIg1 (fun k j hk => (hug1.2 k j (fun h => hk h))) (by omega) (by omega) (by have h9 := (show g1 137 30 = (g 137 30) from ((hug1.2 137 30 (fun h => absurd h.2 (by decide))).trans rfl)); omega))
  by_cases c6_7 : a1 = 7
  · refine mz_tsi (tgt := 108) rfl (mz_rg l_a1 u_a1) (by omega) (by omega) (by rw [c6_7]; rfl) rfl ?_
    refine mm_g 1 (pc1 := 109) (lo1 := [some (.ref 137), some (.int (Int32.ofInt a1))]) (st1 := [.ref 137]) (H1 := mz_mk g1 x) rfl ?_
    refine mz_gI rfl fd_12_310 (by decide) (sc_137 _) hIg1 bd_137_31 (fun v8 e_v8 l_v8 u_v8 => ?_)
    exact mm_rt rfl rfl (hQ _ _ hIg1 (fun k j hk => (hug1.2 k j (fun h => hk h))) (by omega) (by omega) (by have h9 := (show g1 137 30 = (g 137 30) from ((hug1.2 137 30 (fun h => absurd h.2 (by decide))).trans rfl)); omega))
  by_cases c6_8 : a1 = 8
  · refine mz_tsi (tgt := 113) rfl (mz_rg l_a1 u_a1) (by omega) (by omega) (by rw [c6_8]; rfl) rfl ?_
    refine mm_g 1 (pc1 := 114) (lo1 := [some (.ref 137), some (.int (Int32.ofInt a1))]) (st1 := [.ref 137]) (H1 := mz_mk g1 x) rfl ?_
    refine mz_gI rfl fd_12_313 (by decide) (sc_137 _) hIg1 bd_137_32 (fun v9 e_v9 l_v9 u_v9 => ?_)
    exact mm_rt rfl rfl (hQ _ _ hIg1 (fun k j hk => (hug1.2 k j (fun h => hk h))) (by omega) (by omega) (by have h9 := (show g1 137 30 = (g 137 30) from ((hug1.2 137 30 (fun h => absurd h.2 (by decide))).trans rfl)); omega))
  by_cases c6_9 : a1 = 9
  · refine mz_tsi (tgt := 118) rfl (mz_rg l_a1 u_a1) (by omega) (by omega) (by rw [c6_9]; rfl) rfl ?_
    refine mm_g 1 (pc1 := 119) (lo1 := [some (.ref 137), some (.int (Int32.ofInt a1))]) (st1 := [.ref 137]) (H1 := mz_mk g1 x) rfl ?_
    refine mz_gI rfl fd_12_161 (by decide) (sc_137 _) hIg1 bd_137_15 (fun v10 e_v10 l_v10 u_v10 => ?_)
    exact mm_rt rfl rfl (hQ _ _ hIg1 (fun k j hk => (hug1.2 k j (fun h => hk h))) (by omega) (by omega) (by have h9 := (show g1 137 30 = (g 137 30) from ((hug1.2 137 30 (fun h => absurd h.2 (by decide))).trans rfl)); omega))
  by_cases c6_10 : a1 = 10
  · refine mz_tsi (tgt := 123) rfl (mz_rg l_a1 u_a1) (by omega) (by omega) (by rw [c6_10]; rfl) rfl ?_
    refine mm_g 1 (pc1 := 124) (lo1 := [some (.ref 137), some (.int (Int32.ofInt a1))]) (st1 := [.ref 137]) (H1 := mz_mk g1 x) rfl ?_
    refine mz_fgR (v := 150) rfl fd_12_66 (by decide) (sc_137 _) (rf_137_13 _ _ _) ?_
    refine mm_g 1 (pc1 := 128) (lo1 := [some (.ref 137), some (.int (Int32.ofInt a1))]) (st1 := [.int (Int32.ofInt a1), .ref 150]) (H1 := mz_mk g1 x) rfl ?_
    refine mz_bip rfl bip_10 ?_
    refine mz_isub rfl ?_
    refine mz_aI rfl (sh_150 _) (by omega) (by omega) (by decide) hIg1 (ba_150 _) (fun v11 e_v11 l_v11 u_v11 => ?_)
    exact mm_rt rfl rfl (hQ _ _ hIg1 (fun k j hk => (hug1.2 k j (fun h => hk h))) (by omega) (by omega) (by have h9 := (show g1 137 30 = (g 137 30) from ((hug1.2 137 30 (fun h => absurd h.2 (by decide))).trans rfl)); omega))
  by_cases c6_11 : a1 = 11
  · refine mz_tsi (tgt := 123) rfl (mz_rg l_a1 u_a1) (by omega) (by omega) (by rw [c6_11]; rfl) rfl ?_
    refine mm_g 1 (pc1 := 124) (lo1 := [some (.ref 137), some (.int (Int32.ofInt a1))]) (st1 := [.ref 137]) (H1 := mz_mk g1 x) rfl ?_
    refine mz_fgR (v := 150) rfl fd_12_66 (by decide) (sc_137 _) (rf_137_13 _ _ _) ?_
    refine mm_g 1 (pc1 := 128) (lo1 := [some (.ref 137), some (.int (Int32.ofInt a1))]) (st1 := [.int (Int32.ofInt a1), .ref 150]) (H1 := mz_mk g1 x) rfl ?_
    refine mz_bip rfl bip_10 ?_
    refine mz_isub rfl ?_
    refine mz_aI rfl (sh_150 _) (by omega) (by omega) (by decide) hIg1 (ba_150 _) (fun v12 e_v12 l_v12 u_v12 => ?_)
    exact mm_rt rfl rfl (hQ _ _ hIg1 (fun k j hk => (hug1.2 k j (fun h => hk h))) (by omega) (by omega) (by have h9 := (show g1 137 30 = (g 137 30) from ((hug1.2 137 30 (fun h => absurd h.2 (by decide))).trans rfl)); omega))
  by_cases c6_12 : a1 = 12
  · refine mz_tsi (tgt := 123) rfl (mz_rg l_a1 u_a1) (by omega) (by omega) (by rw [c6_12]; rfl) rfl ?_
    refine mm_g 1 (pc1 := 124) (lo1 := [some (.ref 137), some (.int (Int32.ofInt a1))]) (st1 := [.ref 137]) (H1 := mz_mk g1 x) rfl ?_
    refine mz_fgR (v := 150) rfl fd_12_66 (by decide) (sc_137 _) (rf_137_13 _ _ _) ?_
    refine mm_g 1 (pc1 := 128) (lo1 := [some (.ref 137), some (.int (Int32.ofInt a1))]) (st1 := [.int (Int32.ofInt a1), .ref 150]) (H1 := mz_mk g1 x) rfl ?_
    refine mz_bip rfl bip_10 ?_
    refine mz_isub rfl ?_
    refine mz_aI rfl (sh_150 _) (by omega) (by omega) (by decide) hIg1 (ba_150 _) (fun v13 e_v13 l_v13 u_v13 => ?_)
    exact mm_rt rfl rfl (hQ _ _ hIg1 (fun k j hk => (hug1.2 k j (fun h => hk h))) (by omega) (by omega) (by have h9 := (show g1 137 30 = (g 137 30) from ((hug1.2 137 30 (fun h => absurd h.2 (by decide))).trans rfl)); omega))
  refine mz_tso (tgt := 133) rfl (mz_rg l_a1 u_a1) (by omega) rfl ?_
  refine mm_g 2 (pc1 := 135) (lo1 := [some (.ref 137), some (.int (Int32.ofInt a1))]) (st1 := [.int (Int32.ofInt 1), .ref 137]) (H1 := mz_mk g1 x) rfl ?_
  refine mz_cv rfl mt_12_294 (by decide) (sc_137 _) rfl (Nat.le_of_ble_eq_true rfl) (by omega) (c_X12_fail (by omega) hx hIg1 (by decide) (by decide) (fun v14 g15 hIg15 hfg15 l_v14 u_v14 => ⟨_, rfl, ?_⟩))
  show mm_W d mmX12_count 138 [some (.ref 137), some (.int (Int32.ofInt a1))] [.int (Int32.ofInt v14)] (mz_mk g15 x) Q
  exact mm_rt rfl rfl (hQ _ _ hIg15 (fun k j hk => ((hfg15 k j (fun h => hk h)).trans (hug1.2 k j (fun h => hk h)))) (by omega) (by omega) (by have h9 := (show g15 137 30 = (g 137 30) from ((hfg15 137 30 (fun h => (absurd (show (137 = 137 ∧ 30 = 2) from h) (by decide)))).trans ((hug1.2 137 30 (fun h => absurd h.2 (by decide))).trans rfl))); omega))
def fw_X12_word (x : mm_X) (a1 : Int) (a2 : Int) : Nat → Nat → Prop := fun k j => (k = 137 ∧ j = 2) ∨ k = 158 ∨ (k = 137 ∧ j = 37) ∨ k = 157 ∨ (k = 137 ∧ j = 36)
theorem c_X12_word {d : Nat} (hd : 4 ≤ d) {x : mm_X} (hx : mk_x x) {g : mz_G} (hI : mz_inv g) {a1 : Int} (l_a1 : (-2147483648) ≤ a1) (u_a1 : a1 ≤ 2147483647) {a2 : Int} (l_a2 : (-2147483648) ≤ a2) (u_a2 : a2 ≤ 2147483647) (p1 : mz_pv g) (p2 : g 137 30 ≤ 999) {Q : (Option Value ⊕ Nat) → mm_H → Prop} (hQ : ∀ (r : Int) (g1 : mz_G), mz_inv g1 → mz_fr (fw_X12_word x a1 a2) g g1 → (-2147483648) ≤ r → r ≤ 2147483647 → (g1 137 30 ≤ 999) → Q (.inl (some (.int (Int32.ofInt r)))) (mz_mk g1 x)) : mm_C d 243 [.ref 137, .int (Int32.ofInt a1), .int (Int32.ofInt a2)] (mz_mk g x) Q := by
  refine ⟨mmX12_word, [some (.ref 137), some (.int (Int32.ofInt a1)), some (.int (Int32.ofInt a2)), none, none], rfl, rfl, ?_⟩
  have bz0 := mz_rd hI bd_137_30
  have hpv := p1
  refine mm_g 2 (pc1 := 2) (lo1 := [some (.ref 137), some (.int (Int32.ofInt a1)), some (.int (Int32.ofInt a2)), none, none]) (st1 := [.int (Int32.ofInt 0), .ref 137]) (H1 := mz_mk g x) rfl ?_
  refine mz_pI rfl fd_12_154 (sc_137 _) hI bd_137_2 (by omega) (by omega) (fun g1 hIg1 hug1 => ?_)
  refine mm_g 2 (pc1 := 7) (lo1 := [some (.ref 137), some (.int (Int32.ofInt a1)), some (.int (Int32.ofInt a2)), none, none]) (st1 := [.int (Int32.ofInt a1), .ref 137]) (H1 := mz_mk g1 x) rfl ?_
  refine mz_cv rfl mt_12_380 (by decide) (sc_137 _) rfl (Nat.le_of_ble_eq_true rfl) (by omega) (c_X12_isWord (by omega) hx hIg1 l_a1 u_a1 (fun v2 l_v2 u_v2 hp3 hp4 => ⟨_, rfl, ?_⟩))
  show mm_W d mmX12_word 10 [some (.ref 137), some (.int (Int32.ofInt a1)), some (.int (Int32.ofInt a2)), none, none] [.int (Int32.ofInt v2)] (mz_mk g1 x) Q
  refine mz_if_eq (tgt := 25) rfl rfl (mz_rg l_v2 u_v2) (fun c10_4 => ?_) (fun c10_4 => ?_)
  · skip
    refine mm_g 2 (pc1 := 27) (lo1 := [some (.ref 137), some (.int (Int32.ofInt a1)), some (.int (Int32.ofInt a2)), none, none]) (st1 := [.int (Int32.ofInt 1), .ref 137]) (H1 := mz_mk g1 x) rfl ?_
    refine mz_cv rfl mt_12_294 (by decide) (sc_137 _) rfl (Nat.le_of_ble_eq_true rfl) (by omega) (c_X12_fail (by omega) hx hIg1 (by decide) (by decide) (fun v5 g6 hIg6 hfg6 l_v5 u_v5 => ⟨_, rfl, ?_⟩))
    show mm_W d mmX12_word 30 [some (.ref 137), some (.int (Int32.ofInt a1)), some (.int (Int32.ofInt a2)), none, none] [.int (Int32.ofInt v5)] (mz_mk g6 x) Q
    exact mm_rt rfl rfl (hQ _ _ hIg6 (fun k j hk => ((hfg6 k j (fun h => hk (Or.inl h))).trans (hug1.2 k j (fun h => hk (Or.inl h))))) (by omega) (by omega) (by have h9 := (show g6 137 30 = (g 137 30) from ((hfg6 137 30 (fun h => (absurd (show (137 = 137 ∧ 30 = 2) from h) (by decide)))).trans ((hug1.2 137 30 (fun h => absurd h.2 (by decide))).trans rfl))); omega))
  · skip
    refine mm_g 1 (pc1 := 14) (lo1 := [some (.ref 137), some (.int (Int32.ofInt a1)), some (.int (Int32.ofInt a2)), none, none]) (st1 := [.int (Int32.ofInt a2)]) (H1 := mz_mk g1 x) rfl ?_
    refine mz_i2l rfl (mz_rg l_a2 u_a2) ?_
    refine mz_lcst (c := 0) rfl rfl ?_
    refine mz_l2w (c := 4) rfl rfl rfl ?_
    refine mz_cs rfl mt_12_157 (by decide) rfl (Nat.le_of_ble_eq_true rfl) (by omega) (c_X12_isIn (by omega) hx hIg1 (by omega) (by omega) (by omega) (by omega) (by omega) (by omega) (fun v7 l_v7 u_v7 hp8 => ⟨_, rfl, ?_⟩))
    show mm_W d mmX12_word 22 [some (.ref 137), some (.int (Int32.ofInt a1)), some (.int (Int32.ofInt a2)), none, none] [.int (Int32.ofInt v7)] (mz_mk g1 x) Q
    refine mz_if_ne (tgt := 31) rfl rfl (mz_rg l_v7 u_v7) (fun c22_8 => ?_) (fun c22_8 => ?_)
    · skip
      refine mm_g 2 (pc1 := 33) (lo1 := [some (.ref 137), some (.int (Int32.ofInt a1)), some (.int (Int32.ofInt a2)), none, none]) (st1 := [.int (Int32.ofInt 2), .int (Int32.ofInt a2)]) (H1 := mz_mk g1 x) rfl ?_
      refine mz_ic_ge (tgt := 56) rfl rfl (mz_rg l_a2 u_a2) ⟨by decide, by decide⟩ (fun c33_8 => ?_) (fun c33_8 => ?_)
      · skip
        refine mm_g 4 (pc1 := 61) (lo1 := [some (.ref 137), some (.int (Int32.ofInt a1)), some (.int (Int32.ofInt a2)), some (.int (Int32.ofInt 0)), some (.int (Int32.ofInt 0))]) (st1 := []) (H1 := mz_mk g1 x) rfl ?_
        have L14 : ∀ n13 : Nat, ∀ (v9 : Int) (v10 : Int), (6 - v10).toNat = n13 → 0 ≤ v9 → v9 ≤ 63 → 0 ≤ v10 → v10 ≤ 6 → mm_W d mmX12_word 61 [some (.ref 137), some (.int (Int32.ofInt a1)), some (.int (Int32.ofInt a2)), some (.int (Int32.ofInt v9)), some (.int (Int32.ofInt v10))] [] (mz_mk g1 x) Q := by
          intro n13
          induction n13 using Nat.strongRecOn with
          | ind n13 ih12 =>
          intro v9 v10 hmn13 l_v9 u_v9 l_v10 u_v10
          refine mm_g 2 (pc1 := 64) (lo1 := [some (.ref 137), some (.int (Int32.ofInt a1)), some (.int (Int32.ofInt a2)), some (.int (Int32.ofInt v9)), some (.int (Int32.ofInt v10))]) (st1 := [.ref 137, .int (Int32.ofInt v10)]) (H1 := mz_mk g1 x) rfl ?_
          refine mz_fgR (v := 140) rfl fd_12_36 (by decide) (sc_137 _) (rf_137_3 _ _ _) ?_
          refine mm_g 1 (pc1 := 68) (lo1 := [some (.ref 137), some (.int (Int32.ofInt a1)), some (.int (Int32.ofInt a2)), some (.int (Int32.ofInt v9)), some (.int (Int32.ofInt v10))]) (st1 := [.int (Int32.ofInt 1), .ref 140, .int (Int32.ofInt v10)]) (H1 := mz_mk g1 x) rfl ?_
          refine mz_aI rfl (sh_140 _) (by omega) (by omega) (by decide) hIg1 bt_140_1 (fun v15 e_v15 l_v15 u_v15 => ?_)
          have e_v15 : g1 140 1 = v15 := e_v15
          refine mz_ic_ge (tgt := 111) rfl rfl (mz_rg l_v10 u_v10) (mz_rg l_v15 u_v15) (fun c69_15 => ?_) (fun c69_15 => ?_)
          · skip
            refine mm_g 2 (pc1 := 113) (lo1 := [some (.ref 137), some (.int (Int32.ofInt a1)), some (.int (Int32.ofInt a2)), some (.int (Int32.ofInt v9)), some (.int (Int32.ofInt v10))]) (st1 := [.int (Int32.ofInt 2), .int (Int32.ofInt a2)]) (H1 := mz_mk g1 x) rfl ?_
            refine mz_ic_ne (tgt := 124) rfl rfl (mz_rg l_a2 u_a2) ⟨by decide, by decide⟩ (fun c113_15 => ?_) (fun c113_15 => ?_)
            · skip
              refine mm_g 2 (pc1 := 126) (lo1 := [some (.ref 137), some (.int (Int32.ofInt a1)), some (.int (Int32.ofInt a2)), some (.int (Int32.ofInt v9)), some (.int (Int32.ofInt v10))]) (st1 := [.int (Int32.ofInt 3), .int (Int32.ofInt a2)]) (H1 := mz_mk g1 x) rfl ?_
              refine mz_ic_ne (tgt := 137) rfl rfl (mz_rg l_a2 u_a2) ⟨by decide, by decide⟩ (fun c126_15 => ?_) (fun c126_15 => ?_)
              · skip
                refine mm_g 1 (pc1 := 138) (lo1 := [some (.ref 137), some (.int (Int32.ofInt a1)), some (.int (Int32.ofInt a2)), some (.int (Int32.ofInt v9)), some (.int (Int32.ofInt v10))]) (st1 := [.int (Int32.ofInt v9)]) (H1 := mz_mk g1 x) rfl ?_
                exact mm_rt rfl rfl (hQ _ _ hIg1 (fun k j hk => (hug1.2 k j (fun h => hk (Or.inl h)))) (by omega) (by omega) (by have h9 := (show g1 137 30 = (g 137 30) from ((hug1.2 137 30 (fun h => absurd h.2 (by decide))).trans rfl)); omega))
              · skip
                refine mm_g 2 (pc1 := 131) (lo1 := [some (.ref 137), some (.int (Int32.ofInt a1)), some (.int (Int32.ofInt a2)), some (.int (Int32.ofInt v9)), some (.int (Int32.ofInt v10))]) (st1 := [.int (Int32.ofInt a1), .ref 137]) (H1 := mz_mk g1 x) rfl ?_
                refine mz_cv rfl mt_12_388 (by decide) (sc_137 _) rfl (Nat.le_of_ble_eq_true rfl) (by omega) (c_X12_anagramsOf (by omega) hx hIg1 (by omega) (by omega) (fun v16 l_v16 u_v16 => ⟨_, rfl, ?_⟩))
                show mm_W d mmX12_word 134 [some (.ref 137), some (.int (Int32.ofInt a1)), some (.int (Int32.ofInt a2)), some (.int (Int32.ofInt v9)), some (.int (Int32.ofInt v10))] [.int (Int32.ofInt v16)] (mz_mk g1 x) Q
                refine mz_gt (tgt := 138) rfl rfl ?_
                exact mm_rt rfl rfl (hQ _ _ hIg1 (fun k j hk => (hug1.2 k j (fun h => hk (Or.inl h)))) (by omega) (by omega) (by have h9 := (show g1 137 30 = (g 137 30) from ((hug1.2 137 30 (fun h => absurd h.2 (by decide))).trans rfl)); omega))
            · skip
              refine mm_g 2 (pc1 := 118) (lo1 := [some (.ref 137), some (.int (Int32.ofInt a1)), some (.int (Int32.ofInt a2)), some (.int (Int32.ofInt v9)), some (.int (Int32.ofInt v10))]) (st1 := [.int (Int32.ofInt a1), .ref 137]) (H1 := mz_mk g1 x) rfl ?_
              refine mz_cv rfl mt_12_385 (by decide) (sc_137 _) rfl (Nat.le_of_ble_eq_true rfl) (by omega) (c_X12_withinOf (by omega) hx hIg1 (by omega) (by omega) (fun v17 g18 hIg18 hfg18 l_v17 u_v17 => ⟨_, rfl, ?_⟩))
              show mm_W d mmX12_word 121 [some (.ref 137), some (.int (Int32.ofInt a1)), some (.int (Int32.ofInt a2)), some (.int (Int32.ofInt v9)), some (.int (Int32.ofInt v10))] [.int (Int32.ofInt v17)] (mz_mk g18 x) Q
              refine mz_gt (tgt := 138) rfl rfl ?_
              exact mm_rt rfl rfl (hQ _ _ hIg18 (fun k j hk => ((hfg18 k j (fun h => hk (Or.elim h (fun h => (Or.inr (Or.inl h))) (fun h => (Or.elim h (fun h => (Or.inr (Or.inr (Or.inl h)))) (fun h => (Or.elim h (fun h => (Or.inr (Or.inr (Or.inr (Or.inl h))))) (fun h => (Or.inr (Or.inr (Or.inr (Or.inr h)))))))))))).trans (hug1.2 k j (fun h => hk (Or.inl h))))) (by omega) (by omega) (by have h9 := (show g18 137 30 = (g 137 30) from ((hfg18 137 30 (fun h => (Or.elim h (fun h => (absurd (show 137 = 158 from h) (by decide))) (fun h => (Or.elim h (fun h => (absurd (show (137 = 137 ∧ 30 = 37) from h) (by decide))) (fun h => (Or.elim h (fun h => (absurd (show 137 = 157 from h) (by decide))) (fun h => (absurd (show (137 = 137 ∧ 30 = 36) from h) (by decide)))))))))).trans ((hug1.2 137 30 (fun h => absurd h.2 (by decide))).trans rfl))); omega))
          · skip
            refine mm_g 2 (pc1 := 74) (lo1 := [some (.ref 137), some (.int (Int32.ofInt a1)), some (.int (Int32.ofInt a2)), some (.int (Int32.ofInt v9)), some (.int (Int32.ofInt v10))]) (st1 := [.ref 137, .int (Int32.ofInt v9)]) (H1 := mz_mk g1 x) rfl ?_
            refine mz_fgR (v := 153) rfl fd_12_78 (by decide) (sc_137 _) (rf_137_26 _ _ _) ?_
            refine mm_g 1 (pc1 := 79) (lo1 := [some (.ref 137), some (.int (Int32.ofInt a1)), some (.int (Int32.ofInt a2)), some (.int (Int32.ofInt v9)), some (.int (Int32.ofInt v10))]) (st1 := [.int (Int32.ofInt v10), .ref 153, .int (Int32.ofInt v9)]) (H1 := mz_mk g1 x) rfl ?_
            refine mz_aI rfl (sh_153 _) (by omega) (by omega) (by decide) hIg1 (ba_153 _) (fun v19 e_v19 l_v19 u_v19 => ?_)
            refine mm_g 1 (pc1 := 81) (lo1 := [some (.ref 137), some (.int (Int32.ofInt a1)), some (.int (Int32.ofInt a2)), some (.int (Int32.ofInt v9)), some (.int (Int32.ofInt v10))]) (st1 := [.int (Int32.ofInt a1), .int (Int32.ofInt v19), .int (Int32.ofInt v9)]) (H1 := mz_mk g1 x) rfl ?_
            refine mz_ic_eq (tgt := 95) rfl rfl (mz_rg l_v19 u_v19) (mz_rg l_a1 u_a1) (fun c81_19 => ?_) (fun c81_19 => ?_)
            · skip
              refine mm_g 2 (pc1 := 98) (lo1 := [some (.ref 137), some (.int (Int32.ofInt a1)), some (.int (Int32.ofInt a2)), some (.int (Int32.ofInt v9)), some (.int (Int32.ofInt v10))]) (st1 := [.int (Int32.ofInt v10), .int (Int32.ofInt 1), .int (Int32.ofInt v9)]) (H1 := mz_mk g1 x) rfl ?_
              refine mz_ishl rfl (fun v20 e_v20 hwv20 => ?_)
              have b_v20 : 1 ≤ v20 ∧ v20 ≤ 32 := by rw [e_v20]; exact mz_shl_b (lx := 1) (hx := 1) (k := 5) (by decide) (by decide) (by omega) (by omega) (by omega) (by omega)
              have l_v20 := b_v20.1
              have u_v20 := b_v20.2
              refine mz_gt (tgt := 103) rfl rfl ?_
              refine mz_ior rfl (fun v21 e_v21 hwv21 => ?_)
              have b_v21 : 0 ≤ v21 ∧ v21 ≤ 63 := by rw [e_v21]; exact mz_or_lt (n := 6) (by decide) (by omega) (by omega) (by omega) (by omega)
              have l_v21 := b_v21.1
              have u_v21 := b_v21.2
              refine mm_g 1 (pc1 := 105) (lo1 := [some (.ref 137), some (.int (Int32.ofInt a1)), some (.int (Int32.ofInt a2)), some (.int (Int32.ofInt v21)), some (.int (Int32.ofInt v10))]) (st1 := []) (H1 := mz_mk g1 x) rfl ?_
              refine mz_iincR (v := v10) (lo2 := [some (.ref 137), some (.int (Int32.ofInt a1)), some (.int (Int32.ofInt a2)), some (.int (Int32.ofInt v21)), some (.int (Int32.ofInt (v10 + 1)))]) rfl rfl rfl (Nat.le_of_ble_eq_true rfl) rfl ?_
              refine mz_gt (tgt := 61) rfl rfl ?_
              exact ih12 ((6 - (v10 + 1)).toNat) (by omega) v21 (v10 + 1) rfl (by omega) (by omega) (by omega) (by omega)
            · skip
              refine mm_g 1 (pc1 := 85) (lo1 := [some (.ref 137), some (.int (Int32.ofInt a1)), some (.int (Int32.ofInt a2)), some (.int (Int32.ofInt v9)), some (.int (Int32.ofInt v10))]) (st1 := [.ref 137, .int (Int32.ofInt v9)]) (H1 := mz_mk g1 x) rfl ?_
              refine mz_fgR (v := 154) rfl fd_12_80 (by decide) (sc_137 _) (rf_137_27 _ _ _) ?_
              refine mm_g 1 (pc1 := 90) (lo1 := [some (.ref 137), some (.int (Int32.ofInt a1)), some (.int (Int32.ofInt a2)), some (.int (Int32.ofInt v9)), some (.int (Int32.ofInt v10))]) (st1 := [.int (Int32.ofInt v10), .ref 154, .int (Int32.ofInt v9)]) (H1 := mz_mk g1 x) rfl ?_
              refine mz_aI rfl (sh_154 _) (by omega) (by omega) (by decide) hIg1 (ba_154 _) (fun v22 e_v22 l_v22 u_v22 => ?_)
              refine mm_g 1 (pc1 := 92) (lo1 := [some (.ref 137), some (.int (Int32.ofInt a1)), some (.int (Int32.ofInt a2)), some (.int (Int32.ofInt v9)), some (.int (Int32.ofInt v10))]) (st1 := [.int (Int32.ofInt a1), .int (Int32.ofInt v22), .int (Int32.ofInt v9)]) (H1 := mz_mk g1 x) rfl ?_
              refine mz_ic_ne (tgt := 102) rfl rfl (mz_rg l_v22 u_v22) (mz_rg l_a1 u_a1) (fun c92_22 => ?_) (fun c92_22 => ?_)
              · skip
                refine mm_g 1 (pc1 := 103) (lo1 := [some (.ref 137), some (.int (Int32.ofInt a1)), some (.int (Int32.ofInt a2)), some (.int (Int32.ofInt v9)), some (.int (Int32.ofInt v10))]) (st1 := [.int (Int32.ofInt 0), .int (Int32.ofInt v9)]) (H1 := mz_mk g1 x) rfl ?_
                refine mz_ior rfl (fun v23 e_v23 hwv23 => ?_)
                have b_v23 : 0 ≤ v23 ∧ v23 ≤ 63 := by rw [e_v23]; exact mz_or_lt (n := 6) (by decide) (by omega) (by omega) (by omega) (by omega)
                have l_v23 := b_v23.1
                have u_v23 := b_v23.2
                refine mm_g 1 (pc1 := 105) (lo1 := [some (.ref 137), some (.int (Int32.ofInt a1)), some (.int (Int32.ofInt a2)), some (.int (Int32.ofInt v23)), some (.int (Int32.ofInt v10))]) (st1 := []) (H1 := mz_mk g1 x) rfl ?_
                refine mz_iincR (v := v10) (lo2 := [some (.ref 137), some (.int (Int32.ofInt a1)), some (.int (Int32.ofInt a2)), some (.int (Int32.ofInt v23)), some (.int (Int32.ofInt (v10 + 1)))]) rfl rfl rfl (Nat.le_of_ble_eq_true rfl) rfl ?_
                refine mz_gt (tgt := 61) rfl rfl ?_
                exact ih12 ((6 - (v10 + 1)).toNat) (by omega) v23 (v10 + 1) rfl (by omega) (by omega) (by omega) (by omega)
              · skip
                refine mm_g 2 (pc1 := 98) (lo1 := [some (.ref 137), some (.int (Int32.ofInt a1)), some (.int (Int32.ofInt a2)), some (.int (Int32.ofInt v9)), some (.int (Int32.ofInt v10))]) (st1 := [.int (Int32.ofInt v10), .int (Int32.ofInt 1), .int (Int32.ofInt v9)]) (H1 := mz_mk g1 x) rfl ?_
                refine mz_ishl rfl (fun v24 e_v24 hwv24 => ?_)
                have b_v24 : 1 ≤ v24 ∧ v24 ≤ 32 := by rw [e_v24]; exact mz_shl_b (lx := 1) (hx := 1) (k := 5) (by decide) (by decide) (by omega) (by omega) (by omega) (by omega)
                have l_v24 := b_v24.1
                have u_v24 := b_v24.2
                refine mz_gt (tgt := 103) rfl rfl ?_
                refine mz_ior rfl (fun v25 e_v25 hwv25 => ?_)
                have b_v25 : 0 ≤ v25 ∧ v25 ≤ 63 := by rw [e_v25]; exact mz_or_lt (n := 6) (by decide) (by omega) (by omega) (by omega) (by omega)
                have l_v25 := b_v25.1
                have u_v25 := b_v25.2
                refine mm_g 1 (pc1 := 105) (lo1 := [some (.ref 137), some (.int (Int32.ofInt a1)), some (.int (Int32.ofInt a2)), some (.int (Int32.ofInt v25)), some (.int (Int32.ofInt v10))]) (st1 := []) (H1 := mz_mk g1 x) rfl ?_
                refine mz_iincR (v := v10) (lo2 := [some (.ref 137), some (.int (Int32.ofInt a1)), some (.int (Int32.ofInt a2)), some (.int (Int32.ofInt v25)), some (.int (Int32.ofInt (v10 + 1)))]) rfl rfl rfl (Nat.le_of_ble_eq_true rfl) rfl ?_
                refine mz_gt (tgt := 61) rfl rfl ?_
                exact ih12 ((6 - (v10 + 1)).toNat) (by omega) v25 (v10 + 1) rfl (by omega) (by omega) (by omega) (by omega)
        exact L14 _ 0 0 rfl (by decide) (by decide) (by decide) (by decide)
      · skip
        refine mm_g 1 (pc1 := 37) (lo1 := [some (.ref 137), some (.int (Int32.ofInt a1)), some (.int (Int32.ofInt a2)), none, none]) (st1 := [.int (Int32.ofInt a2)]) (H1 := mz_mk g1 x) rfl ?_
        refine mz_if_ne (tgt := 49) rfl rfl (mz_rg l_a2 u_a2) (fun c37_25 => ?_) (fun c37_25 => ?_)
        · skip
          refine mm_g 1 (pc1 := 50) (lo1 := [some (.ref 137), some (.int (Int32.ofInt a1)), some (.int (Int32.ofInt a2)), none, none]) (st1 := [.ref 137]) (H1 := mz_mk g1 x) rfl ?_
          refine mz_fgR (v := 143) rfl fd_12_46 (by decide) (sc_137 _) (rf_137_6 _ _ _) ?_
          refine mm_g 1 (pc1 := 54) (lo1 := [some (.ref 137), some (.int (Int32.ofInt a1)), some (.int (Int32.ofInt a2)), none, none]) (st1 := [.int (Int32.ofInt a1), .ref 143]) (H1 := mz_mk g1 x) rfl ?_
          refine mz_aI rfl (sh_143 _) (by omega) (by omega) (by decide) hIg1 (ba_143 _) (fun v26 e_v26 l_v26 u_v26 => ?_)
          exact mm_rt rfl rfl (hQ _ _ hIg1 (fun k j hk => (hug1.2 k j (fun h => hk (Or.inl h)))) (by omega) (by omega) (by have h9 := (show g1 137 30 = (g 137 30) from ((hug1.2 137 30 (fun h => absurd h.2 (by decide))).trans rfl)); omega))
        · skip
          refine mm_g 1 (pc1 := 41) (lo1 := [some (.ref 137), some (.int (Int32.ofInt a1)), some (.int (Int32.ofInt a2)), none, none]) (st1 := [.ref 137]) (H1 := mz_mk g1 x) rfl ?_
          refine mz_fgR (v := 142) rfl fd_12_43 (by decide) (sc_137 _) (rf_137_5 _ _ _) ?_
          refine mm_g 1 (pc1 := 45) (lo1 := [some (.ref 137), some (.int (Int32.ofInt a1)), some (.int (Int32.ofInt a2)), none, none]) (st1 := [.int (Int32.ofInt a1), .ref 142]) (H1 := mz_mk g1 x) rfl ?_
          refine mz_aI rfl (sh_142 _) (by omega) (by omega) (by decide) hIg1 (ba_142 _) (fun v27 e_v27 l_v27 u_v27 => ?_)
          refine mz_gt (tgt := 55) rfl rfl ?_
          exact mm_rt rfl rfl (hQ _ _ hIg1 (fun k j hk => (hug1.2 k j (fun h => hk (Or.inl h)))) (by omega) (by omega) (by have h9 := (show g1 137 30 = (g 137 30) from ((hug1.2 137 30 (fun h => absurd h.2 (by decide))).trans rfl)); omega))
    · skip
      refine mm_g 2 (pc1 := 27) (lo1 := [some (.ref 137), some (.int (Int32.ofInt a1)), some (.int (Int32.ofInt a2)), none, none]) (st1 := [.int (Int32.ofInt 1), .ref 137]) (H1 := mz_mk g1 x) rfl ?_
      refine mz_cv rfl mt_12_294 (by decide) (sc_137 _) rfl (Nat.le_of_ble_eq_true rfl) (by omega) (c_X12_fail (by omega) hx hIg1 (by decide) (by decide) (fun v28 g29 hIg29 hfg29 l_v28 u_v28 => ⟨_, rfl, ?_⟩))
      show mm_W d mmX12_word 30 [some (.ref 137), some (.int (Int32.ofInt a1)), some (.int (Int32.ofInt a2)), none, none] [.int (Int32.ofInt v28)] (mz_mk g29 x) Q
      exact mm_rt rfl rfl (hQ _ _ hIg29 (fun k j hk => ((hfg29 k j (fun h => hk (Or.inl h))).trans (hug1.2 k j (fun h => hk (Or.inl h))))) (by omega) (by omega) (by have h9 := (show g29 137 30 = (g 137 30) from ((hfg29 137 30 (fun h => (absurd (show (137 = 137 ∧ 30 = 2) from h) (by decide)))).trans ((hug1.2 137 30 (fun h => absurd h.2 (by decide))).trans rfl))); omega))
def fw_X12_letter (x : mm_X) (a1 : Int) (a2 : Int) : Nat → Nat → Prop := fun k j => (k = 137 ∧ j = 2)
theorem c_X12_letter {d : Nat} (hd : 3 ≤ d) {x : mm_X} (hx : mk_x x) {g : mz_G} (hI : mz_inv g) {a1 : Int} (l_a1 : (-2147483648) ≤ a1) (u_a1 : a1 ≤ 2147483647) {a2 : Int} (l_a2 : (-2147483648) ≤ a2) (u_a2 : a2 ≤ 2147483647) (p1 : mz_pv g) (p2 : g 137 30 ≤ 999) {Q : (Option Value ⊕ Nat) → mm_H → Prop} (hQ : ∀ (r : Int) (g1 : mz_G), mz_inv g1 → mz_fr (fw_X12_letter x a1 a2) g g1 → (-2147483648) ≤ r → r ≤ 2147483647 → (g1 137 30 ≤ 999) → Q (.inl (some (.int (Int32.ofInt r)))) (mz_mk g1 x)) : mm_C d 244 [.ref 137, .int (Int32.ofInt a1), .int (Int32.ofInt a2)] (mz_mk g x) Q := by
  refine ⟨mmX12_letter, [some (.ref 137), some (.int (Int32.ofInt a1)), some (.int (Int32.ofInt a2))], rfl, rfl, ?_⟩
  have bz0 := mz_rd hI bd_137_30
  have hpv := p1
  refine mm_g 2 (pc1 := 2) (lo1 := [some (.ref 137), some (.int (Int32.ofInt a1)), some (.int (Int32.ofInt a2))]) (st1 := [.int (Int32.ofInt 0), .ref 137]) (H1 := mz_mk g x) rfl ?_
  refine mz_pI rfl fd_12_154 (sc_137 _) hI bd_137_2 (by omega) (by omega) (fun g1 hIg1 hug1 => ?_)
  refine mm_g 2 (pc1 := 7) (lo1 := [some (.ref 137), some (.int (Int32.ofInt a1)), some (.int (Int32.ofInt a2))]) (st1 := [.int (Int32.ofInt a1), .ref 137]) (H1 := mz_mk g1 x) rfl ?_
  refine mz_cv rfl mt_12_380 (by decide) (sc_137 _) rfl (Nat.le_of_ble_eq_true rfl) (by omega) (c_X12_isWord (by omega) hx hIg1 l_a1 u_a1 (fun v2 l_v2 u_v2 hp3 hp4 => ⟨_, rfl, ?_⟩))
  show mm_W d mmX12_letter 10 [some (.ref 137), some (.int (Int32.ofInt a1)), some (.int (Int32.ofInt a2))] [.int (Int32.ofInt v2)] (mz_mk g1 x) Q
  refine mz_if_eq (tgt := 40) rfl rfl (mz_rg l_v2 u_v2) (fun c10_4 => ?_) (fun c10_4 => ?_)
  · skip
    refine mm_g 2 (pc1 := 42) (lo1 := [some (.ref 137), some (.int (Int32.ofInt a1)), some (.int (Int32.ofInt a2))]) (st1 := [.int (Int32.ofInt 1), .ref 137]) (H1 := mz_mk g1 x) rfl ?_
    refine mz_cv rfl mt_12_294 (by decide) (sc_137 _) rfl (Nat.le_of_ble_eq_true rfl) (by omega) (c_X12_fail (by omega) hx hIg1 (by decide) (by decide) (fun v5 g6 hIg6 hfg6 l_v5 u_v5 => ⟨_, rfl, ?_⟩))
    show mm_W d mmX12_letter 45 [some (.ref 137), some (.int (Int32.ofInt a1)), some (.int (Int32.ofInt a2))] [.int (Int32.ofInt v5)] (mz_mk g6 x) Q
    exact mm_rt rfl rfl (hQ _ _ hIg6 (fun k j hk => ((hfg6 k j (fun h => hk h)).trans (hug1.2 k j (fun h => hk h)))) (by omega) (by omega) (by have h9 := (show g6 137 30 = (g 137 30) from ((hfg6 137 30 (fun h => (absurd (show (137 = 137 ∧ 30 = 2) from h) (by decide)))).trans ((hug1.2 137 30 (fun h => absurd h.2 (by decide))).trans rfl))); omega))
  · skip
    refine mm_g 1 (pc1 := 14) (lo1 := [some (.ref 137), some (.int (Int32.ofInt a1)), some (.int (Int32.ofInt a2))]) (st1 := [.int (Int32.ofInt a2)]) (H1 := mz_mk g1 x) rfl ?_
    refine mz_i2l rfl (mz_rg l_a2 u_a2) ?_
    refine mz_lcst (c := 0) rfl rfl ?_
    refine mm_g 1 (pc1 := 17) (lo1 := [some (.ref 137), some (.int (Int32.ofInt a1)), some (.int (Int32.ofInt a2))]) (st1 := [.ref 137, .long (Int64.ofInt 0), .long (Int64.ofInt a2)]) (H1 := mz_mk g1 x) rfl ?_
    refine mz_fgR (v := 142) rfl fd_12_43 (by decide) (sc_137 _) (rf_137_5 _ _ _) ?_
    refine mm_g 1 (pc1 := 21) (lo1 := [some (.ref 137), some (.int (Int32.ofInt a1)), some (.int (Int32.ofInt a2))]) (st1 := [.int (Int32.ofInt a1), .ref 142, .long (Int64.ofInt 0), .long (Int64.ofInt a2)]) (H1 := mz_mk g1 x) rfl ?_
    refine mz_aI rfl (sh_142 _) (by omega) (by omega) (by decide) hIg1 (ba_142 _) (fun v7 e_v7 l_v7 u_v7 => ?_)
    refine mm_g 1 (pc1 := 23) (lo1 := [some (.ref 137), some (.int (Int32.ofInt a1)), some (.int (Int32.ofInt a2))]) (st1 := [.int (Int32.ofInt 1), .int (Int32.ofInt v7), .long (Int64.ofInt 0), .long (Int64.ofInt a2)]) (H1 := mz_mk g1 x) rfl ?_
    refine mz_isub rfl ?_
    refine mz_i2l rfl ⟨by omega, by omega⟩ ?_
    refine mz_cs rfl mt_12_157 (by decide) rfl (Nat.le_of_ble_eq_true rfl) (by omega) (c_X12_isIn (by omega) hx hIg1 (by omega) (by omega) (by omega) (by omega) (by omega) (by omega) (fun v8 l_v8 u_v8 hp9 => ⟨_, rfl, ?_⟩))
    show mm_W d mmX12_letter 28 [some (.ref 137), some (.int (Int32.ofInt a1)), some (.int (Int32.ofInt a2))] [.int (Int32.ofInt v8)] (mz_mk g1 x) Q
    refine mz_if_eq (tgt := 40) rfl rfl (mz_rg l_v8 u_v8) (fun c28_9 => ?_) (fun c28_9 => ?_)
    · skip
      refine mm_g 2 (pc1 := 42) (lo1 := [some (.ref 137), some (.int (Int32.ofInt a1)), some (.int (Int32.ofInt a2))]) (st1 := [.int (Int32.ofInt 1), .ref 137]) (H1 := mz_mk g1 x) rfl ?_
      refine mz_cv rfl mt_12_294 (by decide) (sc_137 _) rfl (Nat.le_of_ble_eq_true rfl) (by omega) (c_X12_fail (by omega) hx hIg1 (by decide) (by decide) (fun v10 g11 hIg11 hfg11 l_v10 u_v10 => ⟨_, rfl, ?_⟩))
      show mm_W d mmX12_letter 45 [some (.ref 137), some (.int (Int32.ofInt a1)), some (.int (Int32.ofInt a2))] [.int (Int32.ofInt v10)] (mz_mk g11 x) Q
      exact mm_rt rfl rfl (hQ _ _ hIg11 (fun k j hk => ((hfg11 k j (fun h => hk h)).trans (hug1.2 k j (fun h => hk h)))) (by omega) (by omega) (by have h9 := (show g11 137 30 = (g 137 30) from ((hfg11 137 30 (fun h => (absurd (show (137 = 137 ∧ 30 = 2) from h) (by decide)))).trans ((hug1.2 137 30 (fun h => absurd h.2 (by decide))).trans rfl))); omega))
    · skip
      refine mm_g 3 (pc1 := 34) (lo1 := [some (.ref 137), some (.int (Int32.ofInt a1)), some (.int (Int32.ofInt a2))]) (st1 := [.int (Int32.ofInt a2), .int (Int32.ofInt a1), .ref 137]) (H1 := mz_mk g1 x) rfl ?_
      refine mz_cv rfl mt_12_320 (by decide) (sc_137 _) rfl (Nat.le_of_ble_eq_true rfl) (by omega) (c_X12_letterOf (by omega) hx hIg1 (by omega) (by omega) (by omega) (by omega) (fun v12 l_v12 u_v12 hp13 => ⟨_, rfl, ?_⟩))
      show mm_W d mmX12_letter 37 [some (.ref 137), some (.int (Int32.ofInt a1)), some (.int (Int32.ofInt a2))] [.int (Int32.ofInt v12)] (mz_mk g1 x) Q
      refine mz_gt (tgt := 45) rfl rfl ?_
      exact mm_rt rfl rfl (hQ _ _ hIg1 (fun k j hk => (hug1.2 k j (fun h => hk h))) (by omega) (by omega) (by have h9 := (show g1 137 30 = (g 137 30) from ((hug1.2 137 30 (fun h => absurd h.2 (by decide))).trans rfl)); omega))
def fl_X12_tellCouples_2 (x : mm_X) : Nat → Nat → Prop := fun k j => k = 157 ∨ (k = 137 ∧ j = 36) ∨ k = 158 ∨ (k = 137 ∧ j = 37) ∨ k = 159 ∨ k = 164
def fl_X12_tellCouples_87 (x : mm_X) : Nat → Nat → Prop := fun k j => k = 165
def fl_X12_tellCouples_144 (x : mm_X) : Nat → Nat → Prop := fun k j => k = 165
def fl_X12_tellCouples_27 (x : mm_X) : Nat → Nat → Prop := fun k j => k = 158 ∨ (k = 137 ∧ j = 37) ∨ k = 159 ∨ k = 164
def fw_X12_tellCouples (x : mm_X) : Nat → Nat → Prop := fun k j => k = 157 ∨ (k = 137 ∧ j = 36) ∨ k = 158 ∨ (k = 137 ∧ j = 37) ∨ k = 159 ∨ k = 164 ∨ k = 165
theorem c_X12_tellCouples {d : Nat} (hd : 13 ≤ d) {x : mm_X} (hx : mk_x x) {g : mz_G} (hI : mz_inv g) {Q : (Option Value ⊕ Nat) → mm_H → Prop} (hQ : ∀ (g1 : mz_G), mz_inv g1 → mz_fr (fw_X12_tellCouples x) g g1 → Q (.inl none) (mz_mk g1 x)) : mm_C d 274 [.ref 137] (mz_mk g x) Q := by
  refine ⟨mmX12_tellCouples, [some (.ref 137), none, none, none, none], rfl, rfl, ?_⟩
  refine mm_g 2 (pc1 := 2) (lo1 := [some (.ref 137), some (.int (Int32.ofInt 0)), none, none, none]) (st1 := []) (H1 := mz_mk g x) rfl ?_
  have L6 : ∀ n5 : Nat, ∀ (v1 : Int) (o2 : Option Value) (g3 : mz_G), (6 - v1).toNat = n5 → 0 ≤ v1 → v1 ≤ 6 → mz_nl o2 → mz_inv g3 → mz_fr (fl_X12_tellCouples_2 x) g g3 → mm_W d mmX12_tellCouples 2 [some (.ref 137), some (.int (Int32.ofInt v1)), o2, none, none] [] (mz_mk g3 x) Q := by
    intro n5
    induction n5 using Nat.strongRecOn with
    | ind n5 ih4 =>
    intro v1 o2 g3 hmn5 l_v1 u_v1 h_o2 hIg3 hfg3
    refine mm_g 2 (pc1 := 4) (lo1 := [some (.ref 137), some (.int (Int32.ofInt v1)), o2, none, none]) (st1 := [.ref 137, .int (Int32.ofInt v1)]) (H1 := mz_mk g3 x) rfl ?_
    refine mz_fgR (v := 140) rfl fd_12_36 (by decide) (sc_137 _) (rf_137_3 _ _ _) ?_
    refine mm_g 1 (pc1 := 8) (lo1 := [some (.ref 137), some (.int (Int32.ofInt v1)), o2, none, none]) (st1 := [.int (Int32.ofInt 1), .ref 140, .int (Int32.ofInt v1)]) (H1 := mz_mk g3 x) rfl ?_
    refine mz_aI rfl (sh_140 _) (by omega) (by omega) (by decide) hIg3 bt_140_1 (fun v7 e_v7 l_v7 u_v7 => ?_)
    have e_v7 : g3 140 1 = v7 := e_v7
    refine mz_ic_ge (tgt := 78) rfl rfl (mz_rg l_v1 u_v1) (mz_rg l_v7 u_v7) (fun c9_7 => ?_) (fun c9_7 => ?_)
    · skip
      refine mm_g 1 (pc1 := 79) (lo1 := [some (.ref 137), some (.int (Int32.ofInt v1)), o2, none, none]) (st1 := [.ref 137]) (H1 := mz_mk g3 x) rfl ?_
      refine mz_fgR (v := 165) rfl fd_12_112 (by decide) (sc_137 _) (rf_137_43 _ _ _) ?_
      refine mm_g 2 (pc1 := 84) (lo1 := [some (.ref 137), some (.int (Int32.ofInt v1)), o2, none, none]) (st1 := [.int (Int32.ofInt 0), .int (Int32.ofInt 0), .ref 165]) (H1 := mz_mk g3 x) rfl ?_
      refine mz_sI rfl (sh_165 _) (by omega) (by omega) (by decide) hIg3 (ba_165 _) (by omega) (by omega) (fun g8 hIg8 hug8 => ?_)
      refine mm_g 2 (pc1 := 87) (lo1 := [some (.ref 137), some (.int (Int32.ofInt 1)), o2, none, none]) (st1 := []) (H1 := mz_mk g8 x) rfl ?_
      have L16 : ∀ n15 : Nat, ∀ (v9 : Int) (o10 : Option Value) (o11 : Option Value) (o12 : Option Value) (g13 : mz_G), (64 - v9).toNat = n15 → 1 ≤ v9 → v9 ≤ 64 → mz_nl o10 → mz_nl o11 → mz_nl o12 → mz_inv g13 → mz_fr (fl_X12_tellCouples_87 x) g8 g13 → mm_W d mmX12_tellCouples 87 [some (.ref 137), some (.int (Int32.ofInt v9)), o10, o11, o12] [] (mz_mk g13 x) Q := by
        intro n15
        induction n15 using Nat.strongRecOn with
        | ind n15 ih14 =>
        intro v9 o10 o11 o12 g13 hmn15 l_v9 u_v9 h_o10 h_o11 h_o12 hIg13 hfg13
        refine mm_g 3 (pc1 := 90) (lo1 := [some (.ref 137), some (.int (Int32.ofInt v9)), o10, o11, o12]) (st1 := [.ref 137, .int (Int32.ofInt 1), .int (Int32.ofInt v9)]) (H1 := mz_mk g13 x) rfl ?_
        refine mz_fgR (v := 140) rfl fd_12_36 (by decide) (sc_137 _) (rf_137_3 _ _ _) ?_
        refine mm_g 1 (pc1 := 94) (lo1 := [some (.ref 137), some (.int (Int32.ofInt v9)), o10, o11, o12]) (st1 := [.int (Int32.ofInt 1), .ref 140, .int (Int32.ofInt 1), .int (Int32.ofInt v9)]) (H1 := mz_mk g13 x) rfl ?_
        refine mz_ia (v := v7) rfl (sh_140 _) (by decide) (by decide) (by decide) (show g13 140 1 = v7 from ((hfg13 140 1 (fun h => (absurd (show 140 = 165 from h) (by decide)))).trans ((hug8.2 140 1 (fun h => absurd h.1 (by decide))).trans e_v7))) ?_
        refine mz_ishl rfl (fun v17 e_v17 hwv17 => ?_)
        have b_v17 : 1 ≤ v17 ∧ v17 ≤ 64 := by rw [e_v17]; exact mz_shl_b (lx := 1) (hx := 1) (k := 6) (by decide) (by decide) (by omega) (by omega) (by omega) (by omega)
        have l_v17 := b_v17.1
        have u_v17 := b_v17.2
        refine mz_ic_ge (tgt := 217) rfl rfl (mz_rg l_v9 u_v9) (mz_rg l_v17 u_v17) (fun c96_17 => ?_) (fun c96_17 => ?_)
        · skip
          exact mm_rt rfl rfl (hQ _ hIg13 (fun k j hk => ((hfg13 k j (fun h => hk (Or.inr (Or.inr (Or.inr (Or.inr (Or.inr (Or.inr h)))))))).trans ((hug8.2 k j (fun h => hk (Or.inr (Or.inr (Or.inr (Or.inr (Or.inr (Or.inr h.1)))))))).trans (hfg3 k j (fun h => hk (Or.elim h (fun h => (Or.inl h)) (fun h => (Or.elim h (fun h => (Or.inr (Or.inl h))) (fun h => (Or.elim h (fun h => (Or.inr (Or.inr (Or.inl h)))) (fun h => (Or.elim h (fun h => (Or.inr (Or.inr (Or.inr (Or.inl h))))) (fun h => (Or.elim h (fun h => (Or.inr (Or.inr (Or.inr (Or.inr (Or.inl h)))))) (fun h => (Or.inr (Or.inr (Or.inr (Or.inr (Or.inr (Or.inl h))))))))))))))))))))))
        · skip
          refine mm_g 2 (pc1 := 101) (lo1 := [some (.ref 137), some (.int (Int32.ofInt v9)), some (.int (Int32.ofInt 0)), o11, o12]) (st1 := []) (H1 := mz_mk g13 x) rfl ?_
          have L22 : ∀ n21 : Nat, ∀ (v18 : Int), (6 - v18).toNat = n21 → 0 ≤ v18 → v18 ≤ 6 → (∀ i_ : Int, 0 ≤ i_ → i_ < v18 → mz_bit v9 i_ = 0) → mm_W d mmX12_tellCouples 101 [some (.ref 137), some (.int (Int32.ofInt v9)), some (.int (Int32.ofInt v18)), o11, o12] [] (mz_mk g13 x) Q := by
            intro n21
            induction n21 using Nat.strongRecOn with
            | ind n21 ih20 =>
            intro v18 hmn21 l_v18 u_v18 hv23
            have hb_v18 := hv23
            have ht_v18 : v18 ≤ 5 := mz_bit_ex (by omega) (by omega) (by omega) hb_v18
            refine mm_g 2 (pc1 := 103) (lo1 := [some (.ref 137), some (.int (Int32.ofInt v9)), some (.int (Int32.ofInt v18)), o11, o12]) (st1 := [.int (Int32.ofInt v18), .int (Int32.ofInt v9)]) (H1 := mz_mk g13 x) rfl ?_
            refine mz_cs rfl mt_12_450 (by decide) rfl (Nat.le_of_ble_eq_true rfl) (by omega) (c_X12_isOf (by omega) hx hIg13 (by omega) (by omega) (by omega) (by omega) (fun v24 l_v24 u_v24 hp25 => ⟨_, rfl, ?_⟩))
            show mm_W d mmX12_tellCouples 106 [some (.ref 137), some (.int (Int32.ofInt v9)), some (.int (Int32.ofInt v18)), o11, o12] [.int (Int32.ofInt v24)] (mz_mk g13 x) Q
            refine mz_if_ne (tgt := 115) rfl rfl (mz_rg l_v24 u_v24) (fun c106_25 => ?_) (fun c106_25 => ?_)
            · skip
              refine mm_g 3 (pc1 := 118) (lo1 := [some (.ref 137), some (.int (Int32.ofInt v9)), some (.int (Int32.ofInt v18)), o11, o12]) (st1 := [.int (Int32.ofInt v18), .int (Int32.ofInt 1), .int (Int32.ofInt v9)]) (H1 := mz_mk g13 x) rfl ?_
              refine mz_ishl rfl (fun v26 e_v26 hwv26 => ?_)
              have b_v26 : 1 ≤ v26 ∧ v26 ≤ 32 := by rw [e_v26]; exact mz_shl_b (lx := 1) (hx := 1) (k := 5) (by decide) (by decide) (by omega) (by omega) (by omega) (by omega)
              have l_v26 := b_v26.1
              have u_v26 := b_v26.2
              refine mm_g 1 (pc1 := 120) (lo1 := [some (.ref 137), some (.int (Int32.ofInt v9)), some (.int (Int32.ofInt v18)), o11, o12]) (st1 := [.int (Int32.ofInt (-1)), .int (Int32.ofInt v26), .int (Int32.ofInt v9)]) (H1 := mz_mk g13 x) rfl ?_
              refine mz_ixor rfl (fun v27 e_v27 hwv27 => ?_)
              have l_v27 := hwv27.1
              have u_v27 := hwv27.2
              refine mz_iand rfl (fun v28 e_v28 hwv28 => ?_)
              have b_v28 : 0 ≤ v28 ∧ v28 ≤ 63 := by rw [e_v28]; exact mz_and_l (by omega) (by omega) (mz_rg l_v27 u_v27)
              have l_v28 := b_v28.1
              have u_v28 := b_v28.2
              have w_v28 : v28 ≤ v9 := by rw [e_v28]; exact (mz_and_l (hi := v9) (by omega) (Int.le_refl _) (mz_rg l_v27 u_v27) (by omega)).2
              refine mm_g 2 (pc1 := 124) (lo1 := [some (.ref 137), some (.int (Int32.ofInt v9)), some (.int (Int32.ofInt v18)), some (.int (Int32.ofInt v28)), o12]) (st1 := [.ref 137]) (H1 := mz_mk g13 x) rfl ?_
              refine mz_fgR (v := 165) rfl fd_12_112 (by decide) (sc_137 _) (rf_137_43 _ _ _) ?_
              refine mm_g 1 (pc1 := 128) (lo1 := [some (.ref 137), some (.int (Int32.ofInt v9)), some (.int (Int32.ofInt v18)), some (.int (Int32.ofInt v28)), o12]) (st1 := [.int (Int32.ofInt v9), .ref 165]) (H1 := mz_mk g13 x) rfl ?_
              refine mz_sip rfl sip_1000 ?_
              refine mm_g 1 (pc1 := 132) (lo1 := [some (.ref 137), some (.int (Int32.ofInt v9)), some (.int (Int32.ofInt v18)), some (.int (Int32.ofInt v28)), o12]) (st1 := [.ref 137, .int (Int32.ofInt 1000), .int (Int32.ofInt v9), .ref 165]) (H1 := mz_mk g13 x) rfl ?_
              refine mz_fgR (v := 165) rfl fd_12_112 (by decide) (sc_137 _) (rf_137_43 _ _ _) ?_
              refine mm_g 1 (pc1 := 136) (lo1 := [some (.ref 137), some (.int (Int32.ofInt v9)), some (.int (Int32.ofInt v18)), some (.int (Int32.ofInt v28)), o12]) (st1 := [.int (Int32.ofInt v28), .ref 165, .int (Int32.ofInt 1000), .int (Int32.ofInt v9), .ref 165]) (H1 := mz_mk g13 x) rfl ?_
              refine mz_aI rfl (sh_165 _) (by omega) (by omega) (by decide) hIg13 (ba_165 _) (fun v29 e_v29 l_v29 u_v29 => ?_)
              refine mz_iadd_w rfl (fun v30 _ hwv30 => ?_)
              have l_v30 := hwv30.1
              have u_v30 := hwv30.2
              refine mz_sI rfl (sh_165 _) (by omega) (by omega) (by decide) hIg13 (ba_165 _) (by omega) (by omega) (fun g31 hIg31 hug31 => ?_)
              refine mm_g 2 (pc1 := 141) (lo1 := [some (.ref 137), some (.int (Int32.ofInt v9)), some (.int (Int32.ofInt v18)), some (.int (Int32.ofInt v28)), o12]) (st1 := [.int (Int32.ofInt 1), .int (Int32.ofInt v18)]) (H1 := mz_mk g31 x) rfl ?_
              refine mz_iadd rfl ?_
              refine mm_g 1 (pc1 := 144) (lo1 := [some (.ref 137), some (.int (Int32.ofInt v9)), some (.int (Int32.ofInt v18)), some (.int (Int32.ofInt v28)), some (.int (Int32.ofInt (v18 + 1)))]) (st1 := []) (H1 := mz_mk g31 x) rfl ?_
              have L36 : ∀ n35 : Nat, ∀ (v32 : Int) (g33 : mz_G), (6 - v32).toNat = n35 → 1 ≤ v32 → v32 ≤ 6 → mz_inv g33 → mz_fr (fl_X12_tellCouples_144 x) g31 g33 → mm_W d mmX12_tellCouples 144 [some (.ref 137), some (.int (Int32.ofInt v9)), some (.int (Int32.ofInt v18)), some (.int (Int32.ofInt v28)), some (.int (Int32.ofInt v32))] [] (mz_mk g33 x) Q := by
                intro n35
                induction n35 using Nat.strongRecOn with
                | ind n35 ih34 =>
                intro v32 g33 hmn35 l_v32 u_v32 hIg33 hfg33
                refine mm_g 2 (pc1 := 147) (lo1 := [some (.ref 137), some (.int (Int32.ofInt v9)), some (.int (Int32.ofInt v18)), some (.int (Int32.ofInt v28)), some (.int (Int32.ofInt v32))]) (st1 := [.ref 137, .int (Int32.ofInt v32)]) (H1 := mz_mk g33 x) rfl ?_
                refine mz_fgR (v := 140) rfl fd_12_36 (by decide) (sc_137 _) (rf_137_3 _ _ _) ?_
                refine mm_g 1 (pc1 := 151) (lo1 := [some (.ref 137), some (.int (Int32.ofInt v9)), some (.int (Int32.ofInt v18)), some (.int (Int32.ofInt v28)), some (.int (Int32.ofInt v32))]) (st1 := [.int (Int32.ofInt 1), .ref 140, .int (Int32.ofInt v32)]) (H1 := mz_mk g33 x) rfl ?_
                refine mz_ia (v := v7) rfl (sh_140 _) (by decide) (by decide) (by decide) (show g33 140 1 = v7 from ((hfg33 140 1 (fun h => (absurd (show 140 = 165 from h) (by decide)))).trans ((hug31.2 140 1 (fun h => absurd h.1 (by decide))).trans ((hfg13 140 1 (fun h => (absurd (show 140 = 165 from h) (by decide)))).trans ((hug8.2 140 1 (fun h => absurd h.1 (by decide))).trans e_v7))))) ?_
                refine mz_ic_ge (tgt := 211) rfl rfl (mz_rg l_v32 u_v32) (mz_rg l_v7 u_v7) (fun c152_36 => ?_) (fun c152_36 => ?_)
                · skip
                  refine mz_iincR (v := v9) (lo2 := [some (.ref 137), some (.int (Int32.ofInt (v9 + 1))), some (.int (Int32.ofInt v18)), some (.int (Int32.ofInt v28)), some (.int (Int32.ofInt v32))]) rfl rfl rfl (Nat.le_of_ble_eq_true rfl) rfl ?_
                  refine mz_gt (tgt := 87) rfl rfl ?_
                  exact ih14 ((64 - (v9 + 1)).toNat) (by omega) (v9 + 1) (some (.int (Int32.ofInt v18))) (some (.int (Int32.ofInt v28))) (some (.int (Int32.ofInt v32))) g33 rfl (by omega) (by omega) (mz_nl_i _) (mz_nl_i _) (mz_nl_i _) hIg33 (fun k j hk => ((hfg33 k j (fun h => hk h)).trans ((hug31.2 k j (fun h => hk h.1)).trans (hfg13 k j (fun h => hk h)))))
                · skip
                  refine mm_g 2 (pc1 := 158) (lo1 := [some (.ref 137), some (.int (Int32.ofInt v9)), some (.int (Int32.ofInt v18)), some (.int (Int32.ofInt v28)), some (.int (Int32.ofInt v32))]) (st1 := [.int (Int32.ofInt v32), .int (Int32.ofInt v28)]) (H1 := mz_mk g33 x) rfl ?_
                  refine mz_cs rfl mt_12_450 (by decide) rfl (Nat.le_of_ble_eq_true rfl) (by omega) (c_X12_isOf (by omega) hx hIg33 (by omega) (by omega) (by omega) (by omega) (fun v37 l_v37 u_v37 hp38 => ⟨_, rfl, ?_⟩))
                  show mm_W d mmX12_tellCouples 161 [some (.ref 137), some (.int (Int32.ofInt v9)), some (.int (Int32.ofInt v18)), some (.int (Int32.ofInt v28)), some (.int (Int32.ofInt v32))] [.int (Int32.ofInt v37)] (mz_mk g33 x) Q
                  refine mz_if_eq (tgt := 205) rfl rfl (mz_rg l_v37 u_v37) (fun c161_38 => ?_) (fun c161_38 => ?_)
                  · skip
                    refine mz_iincR (v := v32) (lo2 := [some (.ref 137), some (.int (Int32.ofInt v9)), some (.int (Int32.ofInt v18)), some (.int (Int32.ofInt v28)), some (.int (Int32.ofInt (v32 + 1)))]) rfl rfl rfl (Nat.le_of_ble_eq_true rfl) rfl ?_
                    refine mz_gt (tgt := 144) rfl rfl ?_
                    exact ih34 ((6 - (v32 + 1)).toNat) (by omega) (v32 + 1) g33 rfl (by omega) (by omega) hIg33 (fun k j hk => (hfg33 k j (fun h => hk h)))
                  · skip
                    refine mm_g 1 (pc1 := 165) (lo1 := [some (.ref 137), some (.int (Int32.ofInt v9)), some (.int (Int32.ofInt v18)), some (.int (Int32.ofInt v28)), some (.int (Int32.ofInt v32))]) (st1 := [.ref 137]) (H1 := mz_mk g33 x) rfl ?_
                    refine mz_fgR (v := 165) rfl fd_12_112 (by decide) (sc_137 _) (rf_137_43 _ _ _) ?_
                    refine mm_g 2 (pc1 := 170) (lo1 := [some (.ref 137), some (.int (Int32.ofInt v9)), some (.int (Int32.ofInt v18)), some (.int (Int32.ofInt v28)), some (.int (Int32.ofInt v32))]) (st1 := [.ref 137, .int (Int32.ofInt v9), .ref 165]) (H1 := mz_mk g33 x) rfl ?_
                    refine mz_fgR (v := 165) rfl fd_12_112 (by decide) (sc_137 _) (rf_137_43 _ _ _) ?_
                    refine mm_g 1 (pc1 := 174) (lo1 := [some (.ref 137), some (.int (Int32.ofInt v9)), some (.int (Int32.ofInt v18)), some (.int (Int32.ofInt v28)), some (.int (Int32.ofInt v32))]) (st1 := [.int (Int32.ofInt v9), .ref 165, .int (Int32.ofInt v9), .ref 165]) (H1 := mz_mk g33 x) rfl ?_
                    refine mz_aI rfl (sh_165 _) (by omega) (by omega) (by decide) hIg33 (ba_165 _) (fun v39 e_v39 l_v39 u_v39 => ?_)
                    refine mm_g 1 (pc1 := 176) (lo1 := [some (.ref 137), some (.int (Int32.ofInt v9)), some (.int (Int32.ofInt v18)), some (.int (Int32.ofInt v28)), some (.int (Int32.ofInt v32))]) (st1 := [.ref 137, .int (Int32.ofInt v39), .int (Int32.ofInt v9), .ref 165]) (H1 := mz_mk g33 x) rfl ?_
                    refine mz_fgR (v := 164) rfl fd_12_109 (by decide) (sc_137 _) (rf_137_42 _ _ _) ?_
                    refine mz_bip rfl bip_6 ?_
                    refine mm_g 1 (pc1 := 182) (lo1 := [some (.ref 137), some (.int (Int32.ofInt v9)), some (.int (Int32.ofInt v18)), some (.int (Int32.ofInt v28)), some (.int (Int32.ofInt v32))]) (st1 := [.int (Int32.ofInt v18), .int (Int32.ofInt 6), .ref 164, .int (Int32.ofInt v39), .int (Int32.ofInt v9), .ref 165]) (H1 := mz_mk g33 x) rfl ?_
                    refine mz_imul rfl ?_
                    refine mm_g 1 (pc1 := 185) (lo1 := [some (.ref 137), some (.int (Int32.ofInt v9)), some (.int (Int32.ofInt v18)), some (.int (Int32.ofInt v28)), some (.int (Int32.ofInt v32))]) (st1 := [.int (Int32.ofInt v32), .int (Int32.ofInt (6 * v18)), .ref 164, .int (Int32.ofInt v39), .int (Int32.ofInt v9), .ref 165]) (H1 := mz_mk g33 x) rfl ?_
                    refine mz_iadd rfl ?_
                    refine mz_aI rfl (sh_164 _) (by omega) (by omega) (by decide) hIg33 (ba_164 _) (fun v40 e_v40 l_v40 u_v40 => ?_)
                    refine mm_g 1 (pc1 := 188) (lo1 := [some (.ref 137), some (.int (Int32.ofInt v9)), some (.int (Int32.ofInt v18)), some (.int (Int32.ofInt v28)), some (.int (Int32.ofInt v32))]) (st1 := [.ref 137, .int (Int32.ofInt v40), .int (Int32.ofInt v39), .int (Int32.ofInt v9), .ref 165]) (H1 := mz_mk g33 x) rfl ?_
                    refine mz_fgR (v := 165) rfl fd_12_112 (by decide) (sc_137 _) (rf_137_43 _ _ _) ?_
                    refine mm_g 3 (pc1 := 195) (lo1 := [some (.ref 137), some (.int (Int32.ofInt v9)), some (.int (Int32.ofInt v18)), some (.int (Int32.ofInt v28)), some (.int (Int32.ofInt v32))]) (st1 := [.int (Int32.ofInt v32), .int (Int32.ofInt 1), .int (Int32.ofInt v28), .ref 165, .int (Int32.ofInt v40), .int (Int32.ofInt v39), .int (Int32.ofInt v9), .ref 165]) (H1 := mz_mk g33 x) rfl ?_
                    refine mz_ishl rfl (fun v41 e_v41 hwv41 => ?_)
                    have b_v41 : 1 ≤ v41 ∧ v41 ≤ 32 := by rw [e_v41]; exact mz_shl_b (lx := 1) (hx := 1) (k := 5) (by decide) (by decide) (by omega) (by omega) (by omega) (by omega)
                    have l_v41 := b_v41.1
                    have u_v41 := b_v41.2
                    refine mm_g 1 (pc1 := 197) (lo1 := [some (.ref 137), some (.int (Int32.ofInt v9)), some (.int (Int32.ofInt v18)), some (.int (Int32.ofInt v28)), some (.int (Int32.ofInt v32))]) (st1 := [.int (Int32.ofInt (-1)), .int (Int32.ofInt v41), .int (Int32.ofInt v28), .ref 165, .int (Int32.ofInt v40), .int (Int32.ofInt v39), .int (Int32.ofInt v9), .ref 165]) (H1 := mz_mk g33 x) rfl ?_
                    refine mz_ixor rfl (fun v42 e_v42 hwv42 => ?_)
                    have l_v42 := hwv42.1
                    have u_v42 := hwv42.2
                    refine mz_iand rfl (fun v43 e_v43 hwv43 => ?_)
                    have b_v43 : 0 ≤ v43 ∧ v43 ≤ 63 := by rw [e_v43]; exact mz_and_l (by omega) (by omega) (mz_rg l_v42 u_v42)
                    have l_v43 := b_v43.1
                    have u_v43 := b_v43.2
                    have w_v43 : v43 ≤ v28 := by rw [e_v43]; exact (mz_and_l (hi := v28) (by omega) (Int.le_refl _) (mz_rg l_v42 u_v42) (by omega)).2
                    refine mz_aI rfl (sh_165 _) (by omega) (by omega) (by decide) hIg33 (ba_165 _) (fun v44 e_v44 l_v44 u_v44 => ?_)
                    refine mz_iadd_w rfl (fun v45 _ hwv45 => ?_)
                    have l_v45 := hwv45.1
                    have u_v45 := hwv45.2
                    refine mz_mn rfl mt_12_191 (Nat.le_of_ble_eq_true rfl) (by omega) (mz_rg l_v39 u_v39) (mz_rg l_v45 u_v45) (fun v46 e_v46 => ?_)
                    have l_v46 : (-2147483648) ≤ v46 := by omega
                    have u_v46 : v46 ≤ 2147483647 := by omega
                    refine mz_sI rfl (sh_165 _) (by omega) (by omega) (by decide) hIg33 (ba_165 _) (by omega) (by omega) (fun g47 hIg47 hug47 => ?_)
                    refine mz_iincR (v := v32) (lo2 := [some (.ref 137), some (.int (Int32.ofInt v9)), some (.int (Int32.ofInt v18)), some (.int (Int32.ofInt v28)), some (.int (Int32.ofInt (v32 + 1)))]) rfl rfl rfl (Nat.le_of_ble_eq_true rfl) rfl ?_
                    refine mz_gt (tgt := 144) rfl rfl ?_
                    exact ih34 ((6 - (v32 + 1)).toNat) (by omega) (v32 + 1) g47 rfl (by omega) (by omega) hIg47 (fun k j hk => ((hug47.2 k j (fun h => hk h.1)).trans (hfg33 k j (fun h => hk h))))
              exact L36 _ (v18 + 1) g31 rfl (by omega) (by omega) hIg31 (fun _ _ _ => rfl)
            · skip
              refine mz_iincR (v := v18) (lo2 := [some (.ref 137), some (.int (Int32.ofInt v9)), some (.int (Int32.ofInt (v18 + 1))), o11, o12]) rfl rfl rfl (Nat.le_of_ble_eq_true rfl) rfl ?_
              refine mz_gt (tgt := 101) rfl rfl ?_
              exact ih20 ((6 - (v18 + 1)).toNat) (by omega) (v18 + 1) rfl (by omega) (by omega) (by intro i_ h0 h1; rcases (by omega : i_ < v18 ∨ i_ = v18) with h2 | h2; exact hb_v18 i_ h0 h2; rw [h2, ← hp25 (by omega) (by omega) (by omega)]; omega)
          exact L22 _ 0 rfl (by decide) (by decide) (by intro i_ h0 h1; omega)
      exact L16 _ 1 o2 none none g8 rfl (by decide) (by decide) h_o2 mz_nl_n mz_nl_n hIg8 (fun _ _ _ => rfl)
    · skip
      refine mm_g 3 (pc1 := 15) (lo1 := [some (.ref 137), some (.int (Int32.ofInt v1)), o2, none, none]) (st1 := [.ref 137, .ref 137, .ref 137]) (H1 := mz_mk g3 x) rfl ?_
      refine mz_fgR (v := 157) rfl fd_12_88 (by decide) (sc_137 _) (rf_137_33 _ _ _) ?_
      refine mm_g 1 (pc1 := 19) (lo1 := [some (.ref 137), some (.int (Int32.ofInt v1)), o2, none, none]) (st1 := [.int (Int32.ofInt v1), .ref 157, .ref 137, .ref 137]) (H1 := mz_mk g3 x) rfl ?_
      refine mz_cv rfl mt_12_424 (by decide) (sc_137 _) rfl (Nat.le_of_ble_eq_true rfl) (by omega) (c_X12_blendInto (by omega) hx hIg3 (sh_157 _) (by decide) ba_157 (by omega) (by omega) (by omega) (fun v48 g49 hIg49 hfg49 l_v48 u_v48 => ⟨_, rfl, ?_⟩))
      show mm_W d mmX12_tellCouples 22 [some (.ref 137), some (.int (Int32.ofInt v1)), o2, none, none] [.int (Int32.ofInt v48), .ref 137] (mz_mk g49 x) Q
      refine mz_pI rfl fd_12_323 (sc_137 _) hIg49 bd_137_36 (by omega) (by omega) (fun g50 hIg50 hug50 => ?_)
      refine mm_g 2 (pc1 := 27) (lo1 := [some (.ref 137), some (.int (Int32.ofInt v1)), some (.int (Int32.ofInt 0)), none, none]) (st1 := []) (H1 := mz_mk g50 x) rfl ?_
      have L55 : ∀ n54 : Nat, ∀ (v51 : Int) (g52 : mz_G), (6 - v51).toNat = n54 → 0 ≤ v51 → v51 ≤ 6 → mz_inv g52 → mz_fr (fl_X12_tellCouples_27 x) g50 g52 → mm_W d mmX12_tellCouples 27 [some (.ref 137), some (.int (Int32.ofInt v1)), some (.int (Int32.ofInt v51)), none, none] [] (mz_mk g52 x) Q := by
        intro n54
        induction n54 using Nat.strongRecOn with
        | ind n54 ih53 =>
        intro v51 g52 hmn54 l_v51 u_v51 hIg52 hfg52
        refine mm_g 2 (pc1 := 29) (lo1 := [some (.ref 137), some (.int (Int32.ofInt v1)), some (.int (Int32.ofInt v51)), none, none]) (st1 := [.ref 137, .int (Int32.ofInt v51)]) (H1 := mz_mk g52 x) rfl ?_
        refine mz_fgR (v := 140) rfl fd_12_36 (by decide) (sc_137 _) (rf_137_3 _ _ _) ?_
        refine mm_g 1 (pc1 := 33) (lo1 := [some (.ref 137), some (.int (Int32.ofInt v1)), some (.int (Int32.ofInt v51)), none, none]) (st1 := [.int (Int32.ofInt 1), .ref 140, .int (Int32.ofInt v51)]) (H1 := mz_mk g52 x) rfl ?_
        refine mz_ia (v := v7) rfl (sh_140 _) (by decide) (by decide) (by decide) (show g52 140 1 = v7 from ((hfg52 140 1 (fun h => (Or.elim h (fun h => (absurd (show 140 = 158 from h) (by decide))) (fun h => (Or.elim h (fun h => (absurd (show 140 = 137 from (h).1) (by decide))) (fun h => (Or.elim h (fun h => (absurd (show 140 = 159 from h) (by decide))) (fun h => (absurd (show 140 = 164 from h) (by decide)))))))))).trans ((hug50.2 140 1 (fun h => absurd h.1 (by decide))).trans ((hfg49 140 1 (fun h => (absurd (show 140 = 157 from h) (by decide)))).trans e_v7)))) ?_
        refine mz_ic_ge (tgt := 72) rfl rfl (mz_rg l_v51 u_v51) (mz_rg l_v7 u_v7) (fun c34_55 => ?_) (fun c34_55 => ?_)
        · skip
          refine mz_iincR (v := v1) (lo2 := [some (.ref 137), some (.int (Int32.ofInt (v1 + 1))), some (.int (Int32.ofInt v51)), none, none]) rfl rfl rfl (Nat.le_of_ble_eq_true rfl) rfl ?_
          refine mz_gt (tgt := 2) rfl rfl ?_
          exact ih4 ((6 - (v1 + 1)).toNat) (by omega) (v1 + 1) (some (.int (Int32.ofInt v51))) g52 rfl (by omega) (by omega) (mz_nl_i _) hIg52 (fun k j hk => ((hfg52 k j (fun h => hk (Or.elim h (fun h => (Or.inr (Or.inr (Or.inl h)))) (fun h => (Or.elim h (fun h => (Or.inr (Or.inr (Or.inr (Or.inl h))))) (fun h => (Or.elim h (fun h => (Or.inr (Or.inr (Or.inr (Or.inr (Or.inl h)))))) (fun h => (Or.inr (Or.inr (Or.inr (Or.inr (Or.inr h))))))))))))).trans ((hug50.2 k j (fun h => hk (Or.inr (Or.inl h)))).trans ((hfg49 k j (fun h => hk (Or.inl h))).trans (hfg3 k j (fun h => hk (Or.elim h (fun h => (Or.inl h)) (fun h => (Or.elim h (fun h => (Or.inr (Or.inl h))) (fun h => (Or.elim h (fun h => (Or.inr (Or.inr (Or.inl h)))) (fun h => (Or.elim h (fun h => (Or.inr (Or.inr (Or.inr (Or.inl h))))) (fun h => (Or.elim h (fun h => (Or.inr (Or.inr (Or.inr (Or.inr (Or.inl h)))))) (fun h => (Or.inr (Or.inr (Or.inr (Or.inr (Or.inr h)))))))))))))))))))))
        · skip
          refine mm_g 3 (pc1 := 40) (lo1 := [some (.ref 137), some (.int (Int32.ofInt v1)), some (.int (Int32.ofInt v51)), none, none]) (st1 := [.ref 137, .ref 137, .ref 137]) (H1 := mz_mk g52 x) rfl ?_
          refine mz_fgR (v := 158) rfl fd_12_91 (by decide) (sc_137 _) (rf_137_34 _ _ _) ?_
          refine mm_g 1 (pc1 := 44) (lo1 := [some (.ref 137), some (.int (Int32.ofInt v1)), some (.int (Int32.ofInt v51)), none, none]) (st1 := [.int (Int32.ofInt v51), .ref 158, .ref 137, .ref 137]) (H1 := mz_mk g52 x) rfl ?_
          refine mz_cv rfl mt_12_424 (by decide) (sc_137 _) rfl (Nat.le_of_ble_eq_true rfl) (by omega) (c_X12_blendInto (by omega) hx hIg52 (sh_158 _) (by decide) ba_158 (by omega) (by omega) (by omega) (fun v56 g57 hIg57 hfg57 l_v56 u_v56 => ⟨_, rfl, ?_⟩))
          show mm_W d mmX12_tellCouples 47 [some (.ref 137), some (.int (Int32.ofInt v1)), some (.int (Int32.ofInt v51)), none, none] [.int (Int32.ofInt v56), .ref 137] (mz_mk g57 x) Q
          refine mz_pI rfl fd_12_326 (sc_137 _) hIg57 bd_137_37 (by omega) (by omega) (fun g58 hIg58 hug58 => ?_)
          refine mm_g 1 (pc1 := 51) (lo1 := [some (.ref 137), some (.int (Int32.ofInt v1)), some (.int (Int32.ofInt v51)), none, none]) (st1 := [.ref 137]) (H1 := mz_mk g58 x) rfl ?_
          refine mz_fgR (v := 164) rfl fd_12_109 (by decide) (sc_137 _) (rf_137_42 _ _ _) ?_
          refine mz_bip rfl bip_6 ?_
          refine mm_g 1 (pc1 := 57) (lo1 := [some (.ref 137), some (.int (Int32.ofInt v1)), some (.int (Int32.ofInt v51)), none, none]) (st1 := [.int (Int32.ofInt v1), .int (Int32.ofInt 6), .ref 164]) (H1 := mz_mk g58 x) rfl ?_
          refine mz_imul rfl ?_
          refine mm_g 1 (pc1 := 59) (lo1 := [some (.ref 137), some (.int (Int32.ofInt v1)), some (.int (Int32.ofInt v51)), none, none]) (st1 := [.int (Int32.ofInt v51), .int (Int32.ofInt (6 * v1)), .ref 164]) (H1 := mz_mk g58 x) rfl ?_
          refine mz_iadd rfl ?_
          refine mm_g 2 (pc1 := 62) (lo1 := [some (.ref 137), some (.int (Int32.ofInt v1)), some (.int (Int32.ofInt v51)), none, none]) (st1 := [.int (Int32.ofInt 1), .ref 137, .int (Int32.ofInt ((6 * v1) + v51)), .ref 164]) (H1 := mz_mk g58 x) rfl ?_
          refine mz_cv rfl mt_12_427 (by decide) (sc_137 _) rfl (Nat.le_of_ble_eq_true rfl) (by omega) (c_X12_compared (by omega) hx hIg58 (by decide) (by decide) (fun v59 g60 hIg60 hfg60 l_v59 u_v59 => ⟨_, rfl, ?_⟩))
          show mm_W d mmX12_tellCouples 65 [some (.ref 137), some (.int (Int32.ofInt v1)), some (.int (Int32.ofInt v51)), none, none] [.int (Int32.ofInt v59), .int (Int32.ofInt ((6 * v1) + v51)), .ref 164] (mz_mk g60 x) Q
          refine mz_sI rfl (sh_164 _) (by omega) (by omega) (by decide) hIg60 (ba_164 _) (by omega) (by omega) (fun g61 hIg61 hug61 => ?_)
          refine mz_iincR (v := v51) (lo2 := [some (.ref 137), some (.int (Int32.ofInt v1)), some (.int (Int32.ofInt (v51 + 1))), none, none]) rfl rfl rfl (Nat.le_of_ble_eq_true rfl) rfl ?_
          refine mz_gt (tgt := 27) rfl rfl ?_
          exact ih53 ((6 - (v51 + 1)).toNat) (by omega) (v51 + 1) g61 rfl (by omega) (by omega) hIg61 (fun k j hk => ((hug61.2 k j (fun h => hk (Or.inr (Or.inr (Or.inr h.1))))).trans ((hfg60 k j (fun h => hk (Or.inr (Or.inr (Or.inl h))))).trans ((hug58.2 k j (fun h => hk (Or.inr (Or.inl h)))).trans ((hfg57 k j (fun h => hk (Or.inl h))).trans (hfg52 k j (fun h => hk (Or.elim h (fun h => (Or.inl h)) (fun h => (Or.elim h (fun h => (Or.inr (Or.inl h))) (fun h => (Or.elim h (fun h => (Or.inr (Or.inr (Or.inl h)))) (fun h => (Or.inr (Or.inr (Or.inr h))))))))))))))))
      exact L55 _ 0 g50 rfl (by decide) (by decide) hIg50 (fun _ _ _ => rfl)
  exact L6 _ 0 none g rfl (by decide) (by decide) mz_nl_n hI (fun _ _ _ => rfl)
def fw_X12_coupleOf (x : mm_X) (a1 : Int) : Nat → Nat → Prop := fun k j => k = 157 ∨ (k = 137 ∧ j = 36) ∨ k = 158 ∨ (k = 137 ∧ j = 37) ∨ k = 159 ∨ k = 164 ∨ k = 165
theorem c_X12_coupleOf {d : Nat} (hd : 14 ≤ d) {x : mm_X} (hx : mk_x x) {g : mz_G} (hI : mz_inv g) {a1 : Int} (l_a1 : 0 ≤ a1) (u_a1 : a1 ≤ 5) {Q : (Option Value ⊕ Nat) → mm_H → Prop} (hQ : ∀ (r : Int) (g1 : mz_G), mz_inv g1 → mz_fr (fw_X12_coupleOf x a1) g g1 → (-1) ≤ r → r ≤ 5 → Q (.inl (some (.int (Int32.ofInt r)))) (mz_mk g1 x)) : mm_C d 276 [.ref 137, .int (Int32.ofInt a1)] (mz_mk g x) Q := by
  refine ⟨mmX12_coupleOf, [some (.ref 137), some (.int (Int32.ofInt a1)), none, none, none, none, none], rfl, rfl, ?_⟩
  refine mm_g 1 (pc1 := 1) (lo1 := [some (.ref 137), some (.int (Int32.ofInt a1)), none, none, none, none, none]) (st1 := [.ref 137]) (H1 := mz_mk g x) rfl ?_
  refine mz_cv rfl mt_12_470 (by decide) (sc_137 _) rfl (Nat.le_of_ble_eq_true rfl) (by omega) (c_X12_tellCouples (by omega) hx hI (fun g1 hIg1 hfg1 => ⟨_, rfl, ?_⟩))
  show mm_W d mmX12_coupleOf 4 [some (.ref 137), some (.int (Int32.ofInt a1)), none, none, none, none, none] [] (mz_mk g1 x) Q
  refine mm_g 2 (pc1 := 6) (lo1 := [some (.ref 137), some (.int (Int32.ofInt a1)), none, none, none, none, none]) (st1 := [.ref 137, .int (Int32.ofInt 1)]) (H1 := mz_mk g1 x) rfl ?_
  refine mz_fgR (v := 140) rfl fd_12_36 (by decide) (sc_137 _) (rf_137_3 _ _ _) ?_
  refine mm_g 1 (pc1 := 10) (lo1 := [some (.ref 137), some (.int (Int32.ofInt a1)), none, none, none, none, none]) (st1 := [.int (Int32.ofInt 1), .ref 140, .int (Int32.ofInt 1)]) (H1 := mz_mk g1 x) rfl ?_
  refine mz_aI rfl (sh_140 _) (by omega) (by omega) (by decide) hIg1 bt_140_1 (fun v2 e_v2 l_v2 u_v2 => ?_)
  have e_v2 : g1 140 1 = v2 := e_v2
  refine mz_ishl rfl (fun v3 e_v3 hwv3 => ?_)
  have b_v3 : 1 ≤ v3 ∧ v3 ≤ 64 := by rw [e_v3]; exact mz_shl_b (lx := 1) (hx := 1) (k := 6) (by decide) (by decide) (by omega) (by omega) (by omega) (by omega)
  have l_v3 := b_v3.1
  have u_v3 := b_v3.2
  refine mm_g 1 (pc1 := 13) (lo1 := [some (.ref 137), some (.int (Int32.ofInt a1)), none, none, none, none, none]) (st1 := [.int (Int32.ofInt 1), .int (Int32.ofInt v3)]) (H1 := mz_mk g1 x) rfl ?_
  refine mz_isub rfl ?_
  refine mm_g 1 (pc1 := 15) (lo1 := [some (.ref 137), some (.int (Int32.ofInt a1)), some (.int (Int32.ofInt (v3 - 1))), none, none, none, none]) (st1 := []) (H1 := mz_mk g1 x) rfl ?_
  have L12 : ∀ n11 : Nat, ∀ (v4 : Int) (o5 : Option Value) (o6 : Option Value) (o7 : Option Value) (o8 : Option Value), (v4).toNat = n11 → 0 ≤ v4 → v4 ≤ 63 → mz_nl o5 → mz_nl o6 → mz_nl o7 → mz_nl o8 → mm_W d mmX12_coupleOf 15 [some (.ref 137), some (.int (Int32.ofInt a1)), some (.int (Int32.ofInt v4)), o5, o6, o7, o8] [] (mz_mk g1 x) Q := by
    intro n11
    induction n11 using Nat.strongRecOn with
    | ind n11 ih10 =>
    intro v4 o5 o6 o7 o8 hmn11 l_v4 u_v4 h_o5 h_o6 h_o7 h_o8
    refine mm_g 1 (pc1 := 16) (lo1 := [some (.ref 137), some (.int (Int32.ofInt a1)), some (.int (Int32.ofInt v4)), o5, o6, o7, o8]) (st1 := [.int (Int32.ofInt v4)]) (H1 := mz_mk g1 x) rfl ?_
    refine mz_if_eq (tgt := 159) rfl rfl (mz_rg l_v4 u_v4) (fun c16_12 => ?_) (fun c16_12 => ?_)
    · skip
      refine mm_g 1 (pc1 := 160) (lo1 := [some (.ref 137), some (.int (Int32.ofInt a1)), some (.int (Int32.ofInt v4)), o5, o6, o7, o8]) (st1 := [.int (Int32.ofInt (-1))]) (H1 := mz_mk g1 x) rfl ?_
      exact mm_rt rfl rfl (hQ _ _ hIg1 (fun k j hk => (hfg1 k j (fun h => hk (Or.elim h (fun h => (Or.inl h)) (fun h => (Or.elim h (fun h => (Or.inr (Or.inl h))) (fun h => (Or.elim h (fun h => (Or.inr (Or.inr (Or.inl h)))) (fun h => (Or.elim h (fun h => (Or.inr (Or.inr (Or.inr (Or.inl h))))) (fun h => (Or.elim h (fun h => (Or.inr (Or.inr (Or.inr (Or.inr (Or.inl h)))))) (fun h => (Or.elim h (fun h => (Or.inr (Or.inr (Or.inr (Or.inr (Or.inr (Or.inl h))))))) (fun h => (Or.inr (Or.inr (Or.inr (Or.inr (Or.inr (Or.inr h))))))))))))))))))))) (by decide) (by decide))
    · skip
      refine mm_g 2 (pc1 := 21) (lo1 := [some (.ref 137), some (.int (Int32.ofInt a1)), some (.int (Int32.ofInt v4)), some (.int (Int32.ofInt 0)), o6, o7, o8]) (st1 := []) (H1 := mz_mk g1 x) rfl ?_
      have L17 : ∀ n16 : Nat, ∀ (v13 : Int), (6 - v13).toNat = n16 → 0 ≤ v13 → v13 ≤ 6 → (∀ i_ : Int, 0 ≤ i_ → i_ < v13 → mz_bit v4 i_ = 0) → mm_W d mmX12_coupleOf 21 [some (.ref 137), some (.int (Int32.ofInt a1)), some (.int (Int32.ofInt v4)), some (.int (Int32.ofInt v13)), o6, o7, o8] [] (mz_mk g1 x) Q := by
        intro n16
        induction n16 using Nat.strongRecOn with
        | ind n16 ih15 =>
        intro v13 hmn16 l_v13 u_v13 hv18
        have hb_v13 := hv18
        have ht_v13 : v13 ≤ 5 := mz_bit_ex (by omega) (by omega) (by omega) hb_v13
        refine mm_g 2 (pc1 := 23) (lo1 := [some (.ref 137), some (.int (Int32.ofInt a1)), some (.int (Int32.ofInt v4)), some (.int (Int32.ofInt v13)), o6, o7, o8]) (st1 := [.int (Int32.ofInt v13), .int (Int32.ofInt v4)]) (H1 := mz_mk g1 x) rfl ?_
        refine mz_cs rfl mt_12_450 (by decide) rfl (Nat.le_of_ble_eq_true rfl) (by omega) (c_X12_isOf (by omega) hx hIg1 (by omega) (by omega) (by omega) (by omega) (fun v19 l_v19 u_v19 hp20 => ⟨_, rfl, ?_⟩))
        show mm_W d mmX12_coupleOf 26 [some (.ref 137), some (.int (Int32.ofInt a1)), some (.int (Int32.ofInt v4)), some (.int (Int32.ofInt v13)), o6, o7, o8] [.int (Int32.ofInt v19)] (mz_mk g1 x) Q
        refine mz_if_ne (tgt := 35) rfl rfl (mz_rg l_v19 u_v19) (fun c26_20 => ?_) (fun c26_20 => ?_)
        · skip
          refine mm_g 3 (pc1 := 38) (lo1 := [some (.ref 137), some (.int (Int32.ofInt a1)), some (.int (Int32.ofInt v4)), some (.int (Int32.ofInt v13)), o6, o7, o8]) (st1 := [.int (Int32.ofInt v13), .int (Int32.ofInt 1), .int (Int32.ofInt v4)]) (H1 := mz_mk g1 x) rfl ?_
          refine mz_ishl rfl (fun v21 e_v21 hwv21 => ?_)
          have b_v21 : 1 ≤ v21 ∧ v21 ≤ 32 := by rw [e_v21]; exact mz_shl_b (lx := 1) (hx := 1) (k := 5) (by decide) (by decide) (by omega) (by omega) (by omega) (by omega)
          have l_v21 := b_v21.1
          have u_v21 := b_v21.2
          refine mm_g 1 (pc1 := 40) (lo1 := [some (.ref 137), some (.int (Int32.ofInt a1)), some (.int (Int32.ofInt v4)), some (.int (Int32.ofInt v13)), o6, o7, o8]) (st1 := [.int (Int32.ofInt (-1)), .int (Int32.ofInt v21), .int (Int32.ofInt v4)]) (H1 := mz_mk g1 x) rfl ?_
          refine mz_ixor rfl (fun v22 e_v22 hwv22 => ?_)
          have l_v22 := hwv22.1
          have u_v22 := hwv22.2
          refine mz_iand rfl (fun v23 e_v23 hwv23 => ?_)
          have b_v23 : 0 ≤ v23 ∧ v23 ≤ 63 := by rw [e_v23]; exact mz_and_l (by omega) (by omega) (mz_rg l_v22 u_v22)
          have l_v23 := b_v23.1
          have u_v23 := b_v23.2
          have w_v23 : v23 ≤ v4 := by rw [e_v23]; exact (mz_and_l (hi := v4) (by omega) (Int.le_refl _) (mz_rg l_v22 u_v22) (by omega)).2
          have hc_v23 : v23 < v4 := mz_clr e_v21 e_v22 e_v23 (by omega) (by omega) (by omega) (by omega) (by rw [← hp20 (by omega) (by omega) (by omega)]; omega)
          refine mm_g 4 (pc1 := 48) (lo1 := [some (.ref 137), some (.int (Int32.ofInt a1)), some (.int (Int32.ofInt v4)), some (.int (Int32.ofInt v13)), some (.int (Int32.ofInt v23)), some (.int (Int32.ofInt (-1))), o8]) (st1 := [.ref 137]) (H1 := mz_mk g1 x) rfl ?_
          refine mz_fgR (v := 140) rfl fd_12_36 (by decide) (sc_137 _) (rf_137_3 _ _ _) ?_
          refine mm_g 1 (pc1 := 52) (lo1 := [some (.ref 137), some (.int (Int32.ofInt a1)), some (.int (Int32.ofInt v4)), some (.int (Int32.ofInt v13)), some (.int (Int32.ofInt v23)), some (.int (Int32.ofInt (-1))), o8]) (st1 := [.int (Int32.ofInt 1), .ref 140]) (H1 := mz_mk g1 x) rfl ?_
          refine mz_ia (v := v2) rfl (sh_140 _) (by decide) (by decide) (by decide) e_v2 ?_
          refine mm_g 1 (pc1 := 54) (lo1 := [some (.ref 137), some (.int (Int32.ofInt a1)), some (.int (Int32.ofInt v4)), some (.int (Int32.ofInt v13)), some (.int (Int32.ofInt v23)), some (.int (Int32.ofInt (-1))), o8]) (st1 := [.int (Int32.ofInt 1), .int (Int32.ofInt v2)]) (H1 := mz_mk g1 x) rfl ?_
          refine mz_isub rfl ?_
          refine mm_g 1 (pc1 := 57) (lo1 := [some (.ref 137), some (.int (Int32.ofInt a1)), some (.int (Int32.ofInt v4)), some (.int (Int32.ofInt v13)), some (.int (Int32.ofInt v23)), some (.int (Int32.ofInt (-1))), some (.int (Int32.ofInt (v2 - 1)))]) (st1 := []) (H1 := mz_mk g1 x) rfl ?_
          have L29 : ∀ n28 : Nat, ∀ (v24 : Int) (v25 : Int), (v25 - 0).toNat = n28 → (-1) ≤ v24 → v24 ≤ 5 → (-1) ≤ v25 → v25 ≤ 5 → mm_W d mmX12_coupleOf 57 [some (.ref 137), some (.int (Int32.ofInt a1)), some (.int (Int32.ofInt v4)), some (.int (Int32.ofInt v13)), some (.int (Int32.ofInt v23)), some (.int (Int32.ofInt v24)), some (.int (Int32.ofInt v25))] [] (mz_mk g1 x) Q := by
            intro n28
            induction n28 using Nat.strongRecOn with
            | ind n28 ih27 =>
            intro v24 v25 hmn28 l_v24 u_v24 l_v25 u_v25
            refine mm_g 2 (pc1 := 60) (lo1 := [some (.ref 137), some (.int (Int32.ofInt a1)), some (.int (Int32.ofInt v4)), some (.int (Int32.ofInt v13)), some (.int (Int32.ofInt v23)), some (.int (Int32.ofInt v24)), some (.int (Int32.ofInt v25))]) (st1 := [.int (Int32.ofInt v13), .int (Int32.ofInt v25)]) (H1 := mz_mk g1 x) rfl ?_
            refine mz_ic_le (tgt := 119) rfl rfl (mz_rg l_v25 u_v25) (mz_rg l_v13 u_v13) (fun c60_29 => ?_) (fun c60_29 => ?_)
            · skip
              refine mm_g 2 (pc1 := 121) (lo1 := [some (.ref 137), some (.int (Int32.ofInt a1)), some (.int (Int32.ofInt v4)), some (.int (Int32.ofInt v13)), some (.int (Int32.ofInt v23)), some (.int (Int32.ofInt v24)), some (.int (Int32.ofInt v25))]) (st1 := [.int (Int32.ofInt a1), .int (Int32.ofInt v13)]) (H1 := mz_mk g1 x) rfl ?_
              refine mz_ic_ne (tgt := 127) rfl rfl (mz_rg l_v13 u_v13) (mz_rg l_a1 u_a1) (fun c121_29 => ?_) (fun c121_29 => ?_)
              · skip
                refine mm_g 2 (pc1 := 130) (lo1 := [some (.ref 137), some (.int (Int32.ofInt a1)), some (.int (Int32.ofInt v4)), some (.int (Int32.ofInt v13)), some (.int (Int32.ofInt v23)), some (.int (Int32.ofInt v24)), some (.int (Int32.ofInt v25))]) (st1 := [.int (Int32.ofInt a1), .int (Int32.ofInt v24)]) (H1 := mz_mk g1 x) rfl ?_
                refine mz_ic_ne (tgt := 135) rfl rfl (mz_rg l_v24 u_v24) (mz_rg l_a1 u_a1) (fun c130_29 => ?_) (fun c130_29 => ?_)
                · skip
                  refine mm_g 2 (pc1 := 138) (lo1 := [some (.ref 137), some (.int (Int32.ofInt a1)), some (.int (Int32.ofInt v4)), some (.int (Int32.ofInt v13)), some (.int (Int32.ofInt v23)), some (.int (Int32.ofInt v24)), some (.int (Int32.ofInt v25))]) (st1 := [.int (Int32.ofInt (-1)), .int (Int32.ofInt v24)]) (H1 := mz_mk g1 x) rfl ?_
                  refine mz_ic_ne (tgt := 146) rfl rfl (mz_rg l_v24 u_v24) ⟨by decide, by decide⟩ (fun c138_29 => ?_) (fun c138_29 => ?_)
                  · skip
                    refine mm_g 3 (pc1 := 151) (lo1 := [some (.ref 137), some (.int (Int32.ofInt a1)), some (.int (Int32.ofInt v4)), some (.int (Int32.ofInt v13)), some (.int (Int32.ofInt v23)), some (.int (Int32.ofInt v24)), some (.int (Int32.ofInt v25))]) (st1 := [.int (Int32.ofInt v24), .int (Int32.ofInt 1), .int (Int32.ofInt v23)]) (H1 := mz_mk g1 x) rfl ?_
                    refine mz_ishl rfl (fun v30 e_v30 hwv30 => ?_)
                    have b_v30 : 1 ≤ v30 ∧ v30 ≤ 32 := by rw [e_v30]; exact mz_shl_b (lx := 1) (hx := 1) (k := 5) (by decide) (by decide) (by omega) (by omega) (by omega) (by omega)
                    have l_v30 := b_v30.1
                    have u_v30 := b_v30.2
                    refine mm_g 1 (pc1 := 153) (lo1 := [some (.ref 137), some (.int (Int32.ofInt a1)), some (.int (Int32.ofInt v4)), some (.int (Int32.ofInt v13)), some (.int (Int32.ofInt v23)), some (.int (Int32.ofInt v24)), some (.int (Int32.ofInt v25))]) (st1 := [.int (Int32.ofInt (-1)), .int (Int32.ofInt v30), .int (Int32.ofInt v23)]) (H1 := mz_mk g1 x) rfl ?_
                    refine mz_ixor rfl (fun v31 e_v31 hwv31 => ?_)
                    have l_v31 := hwv31.1
                    have u_v31 := hwv31.2
                    refine mz_iand rfl (fun v32 e_v32 hwv32 => ?_)
                    have b_v32 : 0 ≤ v32 ∧ v32 ≤ 62 := by rw [e_v32]; exact mz_and_l (by omega) (by omega) (mz_rg l_v31 u_v31)
                    have l_v32 := b_v32.1
                    have u_v32 := b_v32.2
                    have w_v32 : v32 ≤ v23 := by rw [e_v32]; exact (mz_and_l (hi := v23) (by omega) (Int.le_refl _) (mz_rg l_v31 u_v31) (by omega)).2
                    refine mm_g 1 (pc1 := 156) (lo1 := [some (.ref 137), some (.int (Int32.ofInt a1)), some (.int (Int32.ofInt v32)), some (.int (Int32.ofInt v13)), some (.int (Int32.ofInt v23)), some (.int (Int32.ofInt v24)), some (.int (Int32.ofInt v25))]) (st1 := []) (H1 := mz_mk g1 x) rfl ?_
                    refine mz_gt (tgt := 15) rfl rfl ?_
                    exact ih10 ((v32).toNat) (by omega) v32 (some (.int (Int32.ofInt v13))) (some (.int (Int32.ofInt v23))) (some (.int (Int32.ofInt v24))) (some (.int (Int32.ofInt v25))) rfl (by omega) (by omega) (mz_nl_i _) (mz_nl_i _) (mz_nl_i _) (mz_nl_i _)
                  · skip
                    refine mm_g 1 (pc1 := 143) (lo1 := [some (.ref 137), some (.int (Int32.ofInt a1)), some (.int (Int32.ofInt v4)), some (.int (Int32.ofInt v13)), some (.int (Int32.ofInt v23)), some (.int (Int32.ofInt v24)), some (.int (Int32.ofInt v25))]) (st1 := [.int (Int32.ofInt v23)]) (H1 := mz_mk g1 x) rfl ?_
                    refine mz_gt (tgt := 155) rfl rfl ?_
                    refine mm_g 1 (pc1 := 156) (lo1 := [some (.ref 137), some (.int (Int32.ofInt a1)), some (.int (Int32.ofInt v23)), some (.int (Int32.ofInt v13)), some (.int (Int32.ofInt v23)), some (.int (Int32.ofInt v24)), some (.int (Int32.ofInt v25))]) (st1 := []) (H1 := mz_mk g1 x) rfl ?_
                    refine mz_gt (tgt := 15) rfl rfl ?_
                    exact ih10 ((v23).toNat) (by omega) v23 (some (.int (Int32.ofInt v13))) (some (.int (Int32.ofInt v23))) (some (.int (Int32.ofInt v24))) (some (.int (Int32.ofInt v25))) rfl (by omega) (by omega) (mz_nl_i _) (mz_nl_i _) (mz_nl_i _) (mz_nl_i _)
                · skip
                  refine mm_g 1 (pc1 := 134) (lo1 := [some (.ref 137), some (.int (Int32.ofInt a1)), some (.int (Int32.ofInt v4)), some (.int (Int32.ofInt v13)), some (.int (Int32.ofInt v23)), some (.int (Int32.ofInt v24)), some (.int (Int32.ofInt v25))]) (st1 := [.int (Int32.ofInt v13)]) (H1 := mz_mk g1 x) rfl ?_
                  exact mm_rt rfl rfl (hQ _ _ hIg1 (fun k j hk => (hfg1 k j (fun h => hk (Or.elim h (fun h => (Or.inl h)) (fun h => (Or.elim h (fun h => (Or.inr (Or.inl h))) (fun h => (Or.elim h (fun h => (Or.inr (Or.inr (Or.inl h)))) (fun h => (Or.elim h (fun h => (Or.inr (Or.inr (Or.inr (Or.inl h))))) (fun h => (Or.elim h (fun h => (Or.inr (Or.inr (Or.inr (Or.inr (Or.inl h)))))) (fun h => (Or.elim h (fun h => (Or.inr (Or.inr (Or.inr (Or.inr (Or.inr (Or.inl h))))))) (fun h => (Or.inr (Or.inr (Or.inr (Or.inr (Or.inr (Or.inr h))))))))))))))))))))) (by omega) (by omega))
              · skip
                refine mm_g 1 (pc1 := 126) (lo1 := [some (.ref 137), some (.int (Int32.ofInt a1)), some (.int (Int32.ofInt v4)), some (.int (Int32.ofInt v13)), some (.int (Int32.ofInt v23)), some (.int (Int32.ofInt v24)), some (.int (Int32.ofInt v25))]) (st1 := [.int (Int32.ofInt v24)]) (H1 := mz_mk g1 x) rfl ?_
                exact mm_rt rfl rfl (hQ _ _ hIg1 (fun k j hk => (hfg1 k j (fun h => hk (Or.elim h (fun h => (Or.inl h)) (fun h => (Or.elim h (fun h => (Or.inr (Or.inl h))) (fun h => (Or.elim h (fun h => (Or.inr (Or.inr (Or.inl h)))) (fun h => (Or.elim h (fun h => (Or.inr (Or.inr (Or.inr (Or.inl h))))) (fun h => (Or.elim h (fun h => (Or.inr (Or.inr (Or.inr (Or.inr (Or.inl h)))))) (fun h => (Or.elim h (fun h => (Or.inr (Or.inr (Or.inr (Or.inr (Or.inr (Or.inl h))))))) (fun h => (Or.inr (Or.inr (Or.inr (Or.inr (Or.inr (Or.inr h))))))))))))))))))))) (by omega) (by omega))
            · skip
              refine mm_g 2 (pc1 := 67) (lo1 := [some (.ref 137), some (.int (Int32.ofInt a1)), some (.int (Int32.ofInt v4)), some (.int (Int32.ofInt v13)), some (.int (Int32.ofInt v23)), some (.int (Int32.ofInt v24)), some (.int (Int32.ofInt v25))]) (st1 := [.int (Int32.ofInt v25), .int (Int32.ofInt v23)]) (H1 := mz_mk g1 x) rfl ?_
              refine mz_cs rfl mt_12_450 (by decide) rfl (Nat.le_of_ble_eq_true rfl) (by omega) (c_X12_isOf (by omega) hx hIg1 (by omega) (by omega) (by omega) (by omega) (fun v33 l_v33 u_v33 hp34 => ⟨_, rfl, ?_⟩))
              show mm_W d mmX12_coupleOf 70 [some (.ref 137), some (.int (Int32.ofInt a1)), some (.int (Int32.ofInt v4)), some (.int (Int32.ofInt v13)), some (.int (Int32.ofInt v23)), some (.int (Int32.ofInt v24)), some (.int (Int32.ofInt v25))] [.int (Int32.ofInt v33)] (mz_mk g1 x) Q
              refine mz_if_eq (tgt := 113) rfl rfl (mz_rg l_v33 u_v33) (fun c70_34 => ?_) (fun c70_34 => ?_)
              · skip
                refine mz_iincR (v := v25) (lo2 := [some (.ref 137), some (.int (Int32.ofInt a1)), some (.int (Int32.ofInt v4)), some (.int (Int32.ofInt v13)), some (.int (Int32.ofInt v23)), some (.int (Int32.ofInt v24)), some (.int (Int32.ofInt (v25 + (-1))))]) rfl rfl rfl (Nat.le_of_ble_eq_true rfl) rfl ?_
                refine mz_gt (tgt := 57) rfl rfl ?_
                exact ih27 (((v25 + (-1)) - 0).toNat) (by omega) v24 (v25 + (-1)) rfl (by omega) (by omega) (by omega) (by omega)
              · skip
                refine mm_g 1 (pc1 := 74) (lo1 := [some (.ref 137), some (.int (Int32.ofInt a1)), some (.int (Int32.ofInt v4)), some (.int (Int32.ofInt v13)), some (.int (Int32.ofInt v23)), some (.int (Int32.ofInt v24)), some (.int (Int32.ofInt v25))]) (st1 := [.ref 137]) (H1 := mz_mk g1 x) rfl ?_
                refine mz_fgR (v := 164) rfl fd_12_109 (by decide) (sc_137 _) (rf_137_42 _ _ _) ?_
                refine mz_bip rfl bip_6 ?_
                refine mm_g 1 (pc1 := 80) (lo1 := [some (.ref 137), some (.int (Int32.ofInt a1)), some (.int (Int32.ofInt v4)), some (.int (Int32.ofInt v13)), some (.int (Int32.ofInt v23)), some (.int (Int32.ofInt v24)), some (.int (Int32.ofInt v25))]) (st1 := [.int (Int32.ofInt v13), .int (Int32.ofInt 6), .ref 164]) (H1 := mz_mk g1 x) rfl ?_
                refine mz_imul rfl ?_
                refine mm_g 1 (pc1 := 83) (lo1 := [some (.ref 137), some (.int (Int32.ofInt a1)), some (.int (Int32.ofInt v4)), some (.int (Int32.ofInt v13)), some (.int (Int32.ofInt v23)), some (.int (Int32.ofInt v24)), some (.int (Int32.ofInt v25))]) (st1 := [.int (Int32.ofInt v25), .int (Int32.ofInt (6 * v13)), .ref 164]) (H1 := mz_mk g1 x) rfl ?_
                refine mz_iadd rfl ?_
                refine mz_aI rfl (sh_164 _) (by omega) (by omega) (by decide) hIg1 (ba_164 _) (fun v35 e_v35 l_v35 u_v35 => ?_)
                refine mm_g 1 (pc1 := 86) (lo1 := [some (.ref 137), some (.int (Int32.ofInt a1)), some (.int (Int32.ofInt v4)), some (.int (Int32.ofInt v13)), some (.int (Int32.ofInt v23)), some (.int (Int32.ofInt v24)), some (.int (Int32.ofInt v25))]) (st1 := [.ref 137, .int (Int32.ofInt v35)]) (H1 := mz_mk g1 x) rfl ?_
                refine mz_fgR (v := 165) rfl fd_12_112 (by decide) (sc_137 _) (rf_137_43 _ _ _) ?_
                refine mm_g 3 (pc1 := 94) (lo1 := [some (.ref 137), some (.int (Int32.ofInt a1)), some (.int (Int32.ofInt v4)), some (.int (Int32.ofInt v13)), some (.int (Int32.ofInt v23)), some (.int (Int32.ofInt v24)), some (.int (Int32.ofInt v25))]) (st1 := [.int (Int32.ofInt v25), .int (Int32.ofInt 1), .int (Int32.ofInt v23), .ref 165, .int (Int32.ofInt v35)]) (H1 := mz_mk g1 x) rfl ?_
                refine mz_ishl rfl (fun v36 e_v36 hwv36 => ?_)
                have b_v36 : 1 ≤ v36 ∧ v36 ≤ 32 := by rw [e_v36]; exact mz_shl_b (lx := 1) (hx := 1) (k := 5) (by decide) (by decide) (by omega) (by omega) (by omega) (by omega)
                have l_v36 := b_v36.1
                have u_v36 := b_v36.2
                refine mm_g 1 (pc1 := 96) (lo1 := [some (.ref 137), some (.int (Int32.ofInt a1)), some (.int (Int32.ofInt v4)), some (.int (Int32.ofInt v13)), some (.int (Int32.ofInt v23)), some (.int (Int32.ofInt v24)), some (.int (Int32.ofInt v25))]) (st1 := [.int (Int32.ofInt (-1)), .int (Int32.ofInt v36), .int (Int32.ofInt v23), .ref 165, .int (Int32.ofInt v35)]) (H1 := mz_mk g1 x) rfl ?_
                refine mz_ixor rfl (fun v37 e_v37 hwv37 => ?_)
                have l_v37 := hwv37.1
                have u_v37 := hwv37.2
                refine mz_iand rfl (fun v38 e_v38 hwv38 => ?_)
                have b_v38 : 0 ≤ v38 ∧ v38 ≤ 62 := by rw [e_v38]; exact mz_and_l (by omega) (by omega) (mz_rg l_v37 u_v37)
                have l_v38 := b_v38.1
                have u_v38 := b_v38.2
                have w_v38 : v38 ≤ v23 := by rw [e_v38]; exact (mz_and_l (hi := v23) (by omega) (Int.le_refl _) (mz_rg l_v37 u_v37) (by omega)).2
                refine mz_aI rfl (sh_165 _) (by omega) (by omega) (by decide) hIg1 (ba_165 _) (fun v39 e_v39 l_v39 u_v39 => ?_)
                refine mz_iadd_w rfl (fun v40 _ hwv40 => ?_)
                have l_v40 := hwv40.1
                have u_v40 := hwv40.2
                refine mm_g 1 (pc1 := 101) (lo1 := [some (.ref 137), some (.int (Int32.ofInt a1)), some (.int (Int32.ofInt v4)), some (.int (Int32.ofInt v13)), some (.int (Int32.ofInt v23)), some (.int (Int32.ofInt v24)), some (.int (Int32.ofInt v25))]) (st1 := [.ref 137, .int (Int32.ofInt v40)]) (H1 := mz_mk g1 x) rfl ?_
                refine mz_fgR (v := 165) rfl fd_12_112 (by decide) (sc_137 _) (rf_137_43 _ _ _) ?_
                refine mm_g 1 (pc1 := 105) (lo1 := [some (.ref 137), some (.int (Int32.ofInt a1)), some (.int (Int32.ofInt v4)), some (.int (Int32.ofInt v13)), some (.int (Int32.ofInt v23)), some (.int (Int32.ofInt v24)), some (.int (Int32.ofInt v25))]) (st1 := [.int (Int32.ofInt v4), .ref 165, .int (Int32.ofInt v40)]) (H1 := mz_mk g1 x) rfl ?_
                refine mz_aI rfl (sh_165 _) (by omega) (by omega) (by decide) hIg1 (ba_165 _) (fun v41 e_v41 l_v41 u_v41 => ?_)
                refine mz_ic_ne (tgt := 113) rfl rfl (mz_rg l_v40 u_v40) (mz_rg l_v41 u_v41) (fun c106_41 => ?_) (fun c106_41 => ?_)
                · skip
                  refine mz_iincR (v := v25) (lo2 := [some (.ref 137), some (.int (Int32.ofInt a1)), some (.int (Int32.ofInt v4)), some (.int (Int32.ofInt v13)), some (.int (Int32.ofInt v23)), some (.int (Int32.ofInt v24)), some (.int (Int32.ofInt (v25 + (-1))))]) rfl rfl rfl (Nat.le_of_ble_eq_true rfl) rfl ?_
                  refine mz_gt (tgt := 57) rfl rfl ?_
                  exact ih27 (((v25 + (-1)) - 0).toNat) (by omega) v24 (v25 + (-1)) rfl (by omega) (by omega) (by omega) (by omega)
                · skip
                  refine mm_g 2 (pc1 := 113) (lo1 := [some (.ref 137), some (.int (Int32.ofInt a1)), some (.int (Int32.ofInt v4)), some (.int (Int32.ofInt v13)), some (.int (Int32.ofInt v23)), some (.int (Int32.ofInt v25)), some (.int (Int32.ofInt v25))]) (st1 := []) (H1 := mz_mk g1 x) rfl ?_
                  refine mz_iincR (v := v25) (lo2 := [some (.ref 137), some (.int (Int32.ofInt a1)), some (.int (Int32.ofInt v4)), some (.int (Int32.ofInt v13)), some (.int (Int32.ofInt v23)), some (.int (Int32.ofInt v25)), some (.int (Int32.ofInt (v25 + (-1))))]) rfl rfl rfl (Nat.le_of_ble_eq_true rfl) rfl ?_
                  refine mz_gt (tgt := 57) rfl rfl ?_
                  exact ih27 (((v25 + (-1)) - 0).toNat) (by omega) v25 (v25 + (-1)) rfl (by omega) (by omega) (by omega) (by omega)
          exact L29 _ (-1) (v2 - 1) rfl (by decide) (by decide) (by omega) (by omega)
        · skip
          refine mz_iincR (v := v13) (lo2 := [some (.ref 137), some (.int (Int32.ofInt a1)), some (.int (Int32.ofInt v4)), some (.int (Int32.ofInt (v13 + 1))), o6, o7, o8]) rfl rfl rfl (Nat.le_of_ble_eq_true rfl) rfl ?_
          refine mz_gt (tgt := 21) rfl rfl ?_
          exact ih15 ((6 - (v13 + 1)).toNat) (by omega) (v13 + 1) rfl (by omega) (by omega) (by intro i_ h0 h1; rcases (by omega : i_ < v13 ∨ i_ = v13) with h2 | h2; exact hb_v13 i_ h0 h2; rw [h2, ← hp20 (by omega) (by omega) (by omega)]; omega)
      exact L17 _ 0 rfl (by decide) (by decide) (by intro i_ h0 h1; omega)
  exact L12 _ (v3 - 1) none none none none rfl (by omega) (by omega) mz_nl_n mz_nl_n mz_nl_n mz_nl_n
def fw_X12_trunk (x : mm_X) (a1 : Int) (a2 : Int) : Nat → Nat → Prop := fun k j => (k = 137 ∧ j = 2) ∨ k = 157 ∨ (k = 137 ∧ j = 36) ∨ k = 158 ∨ (k = 137 ∧ j = 37) ∨ k = 159 ∨ k = 164 ∨ k = 165
theorem c_X12_trunk {d : Nat} (hd : 15 ≤ d) {x : mm_X} (hx : mk_x x) {g : mz_G} (hI : mz_inv g) {a1 : Int} (l_a1 : (-2147483648) ≤ a1) (u_a1 : a1 ≤ 2147483647) {a2 : Int} (l_a2 : (-2147483648) ≤ a2) (u_a2 : a2 ≤ 2147483647) (p1 : mz_pv g) (p2 : g 137 30 ≤ 999) {Q : (Option Value ⊕ Nat) → mm_H → Prop} (hQ : ∀ (r : Int) (g1 : mz_G), mz_inv g1 → mz_fr (fw_X12_trunk x a1 a2) g g1 → (-2147483648) ≤ r → r ≤ 2147483647 → (g1 137 30 ≤ 999) → Q (.inl (some (.int (Int32.ofInt r)))) (mz_mk g1 x)) : mm_C d 245 [.ref 137, .int (Int32.ofInt a1), .int (Int32.ofInt a2)] (mz_mk g x) Q := by
  refine ⟨mmX12_trunk, [some (.ref 137), some (.int (Int32.ofInt a1)), some (.int (Int32.ofInt a2))], rfl, rfl, ?_⟩
  have bz0 := mz_rd hI bd_137_30
  have hpv := p1
  refine mm_g 2 (pc1 := 2) (lo1 := [some (.ref 137), some (.int (Int32.ofInt a1)), some (.int (Int32.ofInt a2))]) (st1 := [.int (Int32.ofInt 0), .ref 137]) (H1 := mz_mk g x) rfl ?_
  refine mz_pI rfl fd_12_154 (sc_137 _) hI bd_137_2 (by omega) (by omega) (fun g1 hIg1 hug1 => ?_)
  refine mm_g 2 (pc1 := 7) (lo1 := [some (.ref 137), some (.int (Int32.ofInt a1)), some (.int (Int32.ofInt a2))]) (st1 := [.int (Int32.ofInt a1), .ref 137]) (H1 := mz_mk g1 x) rfl ?_
  refine mz_cv rfl mt_12_391 (by decide) (sc_137 _) rfl (Nat.le_of_ble_eq_true rfl) (by omega) (c_X12_isTrunk (by omega) hx hIg1 l_a1 u_a1 (fun v2 l_v2 u_v2 hp3 hp4 => ⟨_, rfl, ?_⟩))
  show mm_W d mmX12_trunk 10 [some (.ref 137), some (.int (Int32.ofInt a1)), some (.int (Int32.ofInt a2))] [.int (Int32.ofInt v2)] (mz_mk g1 x) Q
  refine mz_if_ne (tgt := 19) rfl rfl (mz_rg l_v2 u_v2) (fun c10_4 => ?_) (fun c10_4 => ?_)
  · skip
    refine mm_g 1 (pc1 := 20) (lo1 := [some (.ref 137), some (.int (Int32.ofInt a1)), some (.int (Int32.ofInt a2))]) (st1 := [.int (Int32.ofInt a2)]) (H1 := mz_mk g1 x) rfl ?_
    by_cases c20_0 : a2 = 0
    · refine mz_tsi (tgt := 68) rfl (mz_rg l_a2 u_a2) (by omega) (by omega) (by rw [c20_0]; rfl) rfl ?_
      refine mm_g 1 (pc1 := 69) (lo1 := [some (.ref 137), some (.int (Int32.ofInt a1)), some (.int (Int32.ofInt a2))]) (st1 := [.ref 137]) (H1 := mz_mk g1 x) rfl ?_
      refine mz_fgR (v := 153) rfl fd_12_78 (by decide) (sc_137 _) (rf_137_26 _ _ _) ?_
      refine mm_g 1 (pc1 := 73) (lo1 := [some (.ref 137), some (.int (Int32.ofInt a1)), some (.int (Int32.ofInt a2))]) (st1 := [.int (Int32.ofInt a1), .ref 153]) (H1 := mz_mk g1 x) rfl ?_
      refine mz_aI rfl (sh_153 _) (by omega) (by omega) (by decide) hIg1 (ba_153 _) (fun v5 e_v5 l_v5 u_v5 => ?_)
      exact mm_rt rfl rfl (hQ _ _ hIg1 (fun k j hk => (hug1.2 k j (fun h => hk (Or.inl h)))) (by omega) (by omega) (by have h9 := (show g1 137 30 = (g 137 30) from ((hug1.2 137 30 (fun h => absurd h.2 (by decide))).trans rfl)); omega))
    by_cases c20_1 : a2 = 1
    · refine mz_tsi (tgt := 75) rfl (mz_rg l_a2 u_a2) (by omega) (by omega) (by rw [c20_1]; rfl) rfl ?_
      refine mm_g 1 (pc1 := 76) (lo1 := [some (.ref 137), some (.int (Int32.ofInt a1)), some (.int (Int32.ofInt a2))]) (st1 := [.ref 137]) (H1 := mz_mk g1 x) rfl ?_
      refine mz_fgR (v := 154) rfl fd_12_80 (by decide) (sc_137 _) (rf_137_27 _ _ _) ?_
      refine mm_g 1 (pc1 := 80) (lo1 := [some (.ref 137), some (.int (Int32.ofInt a1)), some (.int (Int32.ofInt a2))]) (st1 := [.int (Int32.ofInt a1), .ref 154]) (H1 := mz_mk g1 x) rfl ?_
      refine mz_aI rfl (sh_154 _) (by omega) (by omega) (by decide) hIg1 (ba_154 _) (fun v6 e_v6 l_v6 u_v6 => ?_)
      exact mm_rt rfl rfl (hQ _ _ hIg1 (fun k j hk => (hug1.2 k j (fun h => hk (Or.inl h)))) (by omega) (by omega) (by have h9 := (show g1 137 30 = (g 137 30) from ((hug1.2 137 30 (fun h => absurd h.2 (by decide))).trans rfl)); omega))
    by_cases c20_2 : a2 = 2
    · refine mz_tsi (tgt := 82) rfl (mz_rg l_a2 u_a2) (by omega) (by omega) (by rw [c20_2]; rfl) rfl ?_
      refine mm_g 1 (pc1 := 83) (lo1 := [some (.ref 137), some (.int (Int32.ofInt a1)), some (.int (Int32.ofInt a2))]) (st1 := [.ref 137]) (H1 := mz_mk g1 x) rfl ?_
      refine mz_fgR (v := 155) rfl fd_12_82 (by decide) (sc_137 _) (rf_137_28 _ _ _) ?_
      refine mm_g 1 (pc1 := 87) (lo1 := [some (.ref 137), some (.int (Int32.ofInt a1)), some (.int (Int32.ofInt a2))]) (st1 := [.int (Int32.ofInt a1), .ref 155]) (H1 := mz_mk g1 x) rfl ?_
      refine mz_aI rfl (sh_155 _) (by omega) (by omega) (by decide) hIg1 (ba_155 _) (fun v7 e_v7 l_v7 u_v7 => ?_)
      exact mm_rt rfl rfl (hQ _ _ hIg1 (fun k j hk => (hug1.2 k j (fun h => hk (Or.inl h)))) (by omega) (by omega) (by have h9 := (show g1 137 30 = (g 137 30) from ((hug1.2 137 30 (fun h => absurd h.2 (by decide))).trans rfl)); omega))
    by_cases c20_3 : a2 = 3
    · refine mz_tsi (tgt := 89) rfl (mz_rg l_a2 u_a2) (by omega) (by omega) (by rw [c20_3]; rfl) rfl ?_
      refine mm_g 1 (pc1 := 90) (lo1 := [some (.ref 137), some (.int (Int32.ofInt a1)), some (.int (Int32.ofInt a2))]) (st1 := [.ref 137]) (H1 := mz_mk g1 x) rfl ?_
      refine mz_fgR (v := 152) rfl fd_12_76 (by decide) (sc_137 _) (rf_137_25 _ _ _) ?_
      refine mm_g 1 (pc1 := 94) (lo1 := [some (.ref 137), some (.int (Int32.ofInt a1)), some (.int (Int32.ofInt a2))]) (st1 := [.int (Int32.ofInt a1), .ref 152]) (H1 := mz_mk g1 x) rfl ?_
      refine mz_aI rfl (sh_152 _) (by omega) (by omega) (by decide) hIg1 (ba_152 _) (fun v8 e_v8 l_v8 u_v8 => ?_)
      exact mm_rt rfl rfl (hQ _ _ hIg1 (fun k j hk => (hug1.2 k j (fun h => hk (Or.inl h)))) (by omega) (by omega) (by have h9 := (show g1 137 30 = (g 137 30) from ((hug1.2 137 30 (fun h => absurd h.2 (by decide))).trans rfl)); omega))
    by_cases c20_4 : a2 = 4
    · refine mz_tsi (tgt := 96) rfl (mz_rg l_a2 u_a2) (by omega) (by omega) (by rw [c20_4]; rfl) rfl ?_
      refine mm_g 2 (pc1 := 98) (lo1 := [some (.ref 137), some (.int (Int32.ofInt a1)), some (.int (Int32.ofInt a2))]) (st1 := [.int (Int32.ofInt a1), .ref 137]) (H1 := mz_mk g1 x) rfl ?_
      refine mz_cv rfl mt_12_347 (by decide) (sc_137 _) rfl (Nat.le_of_ble_eq_true rfl) (by omega) (c_X12_fullOf (by omega) hx hIg1 (by omega) (by omega) (fun v9 l_v9 u_v9 => ⟨_, rfl, ?_⟩))
      show mm_W d mmX12_trunk 101 [some (.ref 137), some (.int (Int32.ofInt a1)), some (.int (Int32.ofInt a2))] [.int (Int32.ofInt v9)] (mz_mk g1 x) Q
      exact mm_rt rfl rfl (hQ _ _ hIg1 (fun k j hk => (hug1.2 k j (fun h => hk (Or.inl h)))) (by omega) (by omega) (by have h9 := (show g1 137 30 = (g 137 30) from ((hug1.2 137 30 (fun h => absurd h.2 (by decide))).trans rfl)); omega))
    by_cases c20_5 : a2 = 5
    · refine mz_tsi (tgt := 102) rfl (mz_rg l_a2 u_a2) (by omega) (by omega) (by rw [c20_5]; rfl) rfl ?_
      refine mm_g 2 (pc1 := 104) (lo1 := [some (.ref 137), some (.int (Int32.ofInt a1)), some (.int (Int32.ofInt a2))]) (st1 := [.int (Int32.ofInt a1), .ref 137]) (H1 := mz_mk g1 x) rfl ?_
      refine mz_cv rfl mt_12_368 (by decide) (sc_137 _) rfl (Nat.le_of_ble_eq_true rfl) (by omega) (c_X12_blendSize (by omega) hx hIg1 (by omega) (by omega) (fun v10 l_v10 u_v10 => ⟨_, rfl, ?_⟩))
      show mm_W d mmX12_trunk 107 [some (.ref 137), some (.int (Int32.ofInt a1)), some (.int (Int32.ofInt a2))] [.int (Int32.ofInt v10)] (mz_mk g1 x) Q
      exact mm_rt rfl rfl (hQ _ _ hIg1 (fun k j hk => (hug1.2 k j (fun h => hk (Or.inl h)))) (by omega) (by omega) (by have h9 := (show g1 137 30 = (g 137 30) from ((hug1.2 137 30 (fun h => absurd h.2 (by decide))).trans rfl)); omega))
    by_cases c20_6 : a2 = 6
    · refine mz_tsi (tgt := 108) rfl (mz_rg l_a2 u_a2) (by omega) (by omega) (by rw [c20_6]; rfl) rfl ?_
      refine mm_g 1 (pc1 := 109) (lo1 := [some (.ref 137), some (.int (Int32.ofInt a1)), some (.int (Int32.ofInt a2))]) (st1 := [.ref 137]) (H1 := mz_mk g1 x) rfl ?_
      refine mz_fgR (v := 144) rfl fd_12_49 (by decide) (sc_137 _) (rf_137_7 _ _ _) ?_
      refine mm_g 1 (pc1 := 113) (lo1 := [some (.ref 137), some (.int (Int32.ofInt a1)), some (.int (Int32.ofInt a2))]) (st1 := [.int (Int32.ofInt a1), .ref 144]) (H1 := mz_mk g1 x) rfl ?_
      refine mz_aI rfl (sh_144 _) (by omega) (by omega) (by decide) hIg1 (ba_144 _) (fun v11 e_v11 l_v11 u_v11 => ?_)
      exact mm_rt rfl rfl (hQ _ _ hIg1 (fun k j hk => (hug1.2 k j (fun h => hk (Or.inl h)))) (by omega) (by omega) (by have h9 := (show g1 137 30 = (g 137 30) from ((hug1.2 137 30 (fun h => absurd h.2 (by decide))).trans rfl)); omega))
    by_cases c20_7 : a2 = 7
    · refine mz_tsi (tgt := 115) rfl (mz_rg l_a2 u_a2) (by omega) (by omega) (by rw [c20_7]; rfl) rfl ?_
      refine mm_g 2 (pc1 := 117) (lo1 := [some (.ref 137), some (.int (Int32.ofInt a1)), some (.int (Int32.ofInt a2))]) (st1 := [.int (Int32.ofInt a1), .ref 137]) (H1 := mz_mk g1 x) rfl ?_
      refine mz_cv rfl mt_12_394 (by decide) (sc_137 _) rfl (Nat.le_of_ble_eq_true rfl) (by omega) (c_X12_coupleOf (by omega) hx hIg1 (by omega) (by omega) (fun v12 g13 hIg13 hfg13 l_v12 u_v12 => ⟨_, rfl, ?_⟩))
      show mm_W d mmX12_trunk 120 [some (.ref 137), some (.int (Int32.ofInt a1)), some (.int (Int32.ofInt a2))] [.int (Int32.ofInt v12)] (mz_mk g13 x) Q
      exact mm_rt rfl rfl (hQ _ _ hIg13 (fun k j hk => ((hfg13 k j (fun h => hk (Or.elim h (fun h => (Or.inr (Or.inl h))) (fun h => (Or.elim h (fun h => (Or.inr (Or.inr (Or.inl h)))) (fun h => (Or.elim h (fun h => (Or.inr (Or.inr (Or.inr (Or.inl h))))) (fun h => (Or.elim h (fun h => (Or.inr (Or.inr (Or.inr (Or.inr (Or.inl h)))))) (fun h => (Or.elim h (fun h => (Or.inr (Or.inr (Or.inr (Or.inr (Or.inr (Or.inl h))))))) (fun h => (Or.elim h (fun h => (Or.inr (Or.inr (Or.inr (Or.inr (Or.inr (Or.inr (Or.inl h)))))))) (fun h => (Or.inr (Or.inr (Or.inr (Or.inr (Or.inr (Or.inr (Or.inr h))))))))))))))))))))).trans (hug1.2 k j (fun h => hk (Or.inl h))))) (by omega) (by omega) (by have h9 := (show g13 137 30 = (g 137 30) from ((hfg13 137 30 (fun h => (Or.elim h (fun h => (absurd (show 137 = 157 from h) (by decide))) (fun h => (Or.elim h (fun h => (absurd (show (137 = 137 ∧ 30 = 36) from h) (by decide))) (fun h => (Or.elim h (fun h => (absurd (show 137 = 158 from h) (by decide))) (fun h => (Or.elim h (fun h => (absurd (show (137 = 137 ∧ 30 = 37) from h) (by decide))) (fun h => (Or.elim h (fun h => (absurd (show 137 = 159 from h) (by decide))) (fun h => (Or.elim h (fun h => (absurd (show 137 = 164 from h) (by decide))) (fun h => (absurd (show 137 = 165 from h) (by decide)))))))))))))))).trans ((hug1.2 137 30 (fun h => absurd h.2 (by decide))).trans rfl))); omega))
    refine mz_tso (tgt := 121) rfl (mz_rg l_a2 u_a2) (by omega) rfl ?_
    refine mm_g 2 (pc1 := 123) (lo1 := [some (.ref 137), some (.int (Int32.ofInt a1)), some (.int (Int32.ofInt a2))]) (st1 := [.int (Int32.ofInt 1), .ref 137]) (H1 := mz_mk g1 x) rfl ?_
    refine mz_cv rfl mt_12_294 (by decide) (sc_137 _) rfl (Nat.le_of_ble_eq_true rfl) (by omega) (c_X12_fail (by omega) hx hIg1 (by decide) (by decide) (fun v14 g15 hIg15 hfg15 l_v14 u_v14 => ⟨_, rfl, ?_⟩))
    show mm_W d mmX12_trunk 126 [some (.ref 137), some (.int (Int32.ofInt a1)), some (.int (Int32.ofInt a2))] [.int (Int32.ofInt v14)] (mz_mk g15 x) Q
    exact mm_rt rfl rfl (hQ _ _ hIg15 (fun k j hk => ((hfg15 k j (fun h => hk (Or.inl h))).trans (hug1.2 k j (fun h => hk (Or.inl h))))) (by omega) (by omega) (by have h9 := (show g15 137 30 = (g 137 30) from ((hfg15 137 30 (fun h => (absurd (show (137 = 137 ∧ 30 = 2) from h) (by decide)))).trans ((hug1.2 137 30 (fun h => absurd h.2 (by decide))).trans rfl))); omega))
  · skip
    refine mm_g 2 (pc1 := 15) (lo1 := [some (.ref 137), some (.int (Int32.ofInt a1)), some (.int (Int32.ofInt a2))]) (st1 := [.int (Int32.ofInt 1), .ref 137]) (H1 := mz_mk g1 x) rfl ?_
    refine mz_cv rfl mt_12_294 (by decide) (sc_137 _) rfl (Nat.le_of_ble_eq_true rfl) (by omega) (c_X12_fail (by omega) hx hIg1 (by decide) (by decide) (fun v16 g17 hIg17 hfg17 l_v16 u_v16 => ⟨_, rfl, ?_⟩))
    show mm_W d mmX12_trunk 18 [some (.ref 137), some (.int (Int32.ofInt a1)), some (.int (Int32.ofInt a2))] [.int (Int32.ofInt v16)] (mz_mk g17 x) Q
    exact mm_rt rfl rfl (hQ _ _ hIg17 (fun k j hk => ((hfg17 k j (fun h => hk (Or.inl h))).trans (hug1.2 k j (fun h => hk (Or.inl h))))) (by omega) (by omega) (by have h9 := (show g17 137 30 = (g 137 30) from ((hfg17 137 30 (fun h => (absurd (show (137 = 137 ∧ 30 = 2) from h) (by decide)))).trans ((hug1.2 137 30 (fun h => absurd h.2 (by decide))).trans rfl))); omega))
def fw_X12_refuse (x : mm_X) (a1 : Int) : Nat → Nat → Prop := fun k j => k = 150
theorem c_X12_refuse {d : Nat} (hd : 1 ≤ d) {x : mm_X} (hx : mk_x x) {g : mz_G} (hI : mz_inv g) {a1 : Int} (l_a1 : 0 ≤ a1) (u_a1 : a1 ≤ 2) {Q : (Option Value ⊕ Nat) → mm_H → Prop} (hQ : ∀ (r : Int) (g1 : mz_G), mz_inv g1 → mz_fr (fw_X12_refuse x a1) g g1 → (-1) ≤ r → r ≤ (-1) → Q (.inl (some (.int (Int32.ofInt r)))) (mz_mk g1 x)) : mm_C d 246 [.ref 137, .int (Int32.ofInt a1)] (mz_mk g x) Q := by
  refine ⟨mmX12_refuse, [some (.ref 137), some (.int (Int32.ofInt a1))], rfl, rfl, ?_⟩
  refine mm_g 1 (pc1 := 1) (lo1 := [some (.ref 137), some (.int (Int32.ofInt a1))]) (st1 := [.ref 137]) (H1 := mz_mk g x) rfl ?_
  refine mz_fgR (v := 150) rfl fd_12_66 (by decide) (sc_137 _) (rf_137_13 _ _ _) ?_
  refine mm_g 2 (pc1 := 6) (lo1 := [some (.ref 137), some (.int (Int32.ofInt a1))]) (st1 := [.int (Int32.ofInt a1), .ref 150, .int (Int32.ofInt a1), .ref 150]) (H1 := mz_mk g x) rfl ?_
  refine mz_aI rfl (sh_150 _) (by omega) (by omega) (by decide) hI (ba_150 _) (fun v1 e_v1 l_v1 u_v1 => ?_)
  refine mm_g 1 (pc1 := 8) (lo1 := [some (.ref 137), some (.int (Int32.ofInt a1))]) (st1 := [.int (Int32.ofInt 1), .int (Int32.ofInt v1), .int (Int32.ofInt a1), .ref 150]) (H1 := mz_mk g x) rfl ?_
  refine mz_iadd_w rfl (fun v2 _ hwv2 => ?_)
  have l_v2 := hwv2.1
  have u_v2 := hwv2.2
  refine mz_sI rfl (sh_150 _) (by omega) (by omega) (by decide) hI (ba_150 _) (by omega) (by omega) (fun g3 hIg3 hug3 => ?_)
  refine mm_g 1 (pc1 := 11) (lo1 := [some (.ref 137), some (.int (Int32.ofInt a1))]) (st1 := [.int (Int32.ofInt (-1))]) (H1 := mz_mk g3 x) rfl ?_
  exact mm_rt rfl rfl (hQ _ _ hIg3 (fun k j hk => (hug3.2 k j (fun h => hk h.1))) (by decide) (by decide))
def fl_X12_keep_12 (x : mm_X) : Nat → Nat → Prop := fun k j => k = 156
def fw_X12_keep (x : mm_X) : Nat → Nat → Prop := fun k j => k = 156 ∨ (k = 137 ∧ j = 31)
theorem c_X12_keep {d : Nat} (hd : 2 ≤ d) {x : mm_X} (hx : mk_x x) {g : mz_G} (hI : mz_inv g) (p1 : g 137 30 ≤ 999) {Q : (Option Value ⊕ Nat) → mm_H → Prop} (hQ : ∀ (g1 : mz_G), mz_inv g1 → mz_fr (fw_X12_keep x) g g1 → Q (.inl none) (mz_mk g1 x)) : mm_C d 247 [.ref 137] (mz_mk g x) Q := by
  refine ⟨mmX12_keep, [some (.ref 137), none], rfl, rfl, ?_⟩
  have bz0 := mz_rd hI bd_137_30
  refine mm_g 1 (pc1 := 1) (lo1 := [some (.ref 137), none]) (st1 := [.ref 137]) (H1 := mz_mk g x) rfl ?_
  refine mz_gI rfl fd_12_310 (by decide) (sc_137 _) hI bd_137_31 (fun v1 e_v1 l_v1 u_v1 => ?_)
  refine mz_bip rfl bip_40 ?_
  refine mz_ic_ne (tgt := 52) rfl rfl (mz_rg l_v1 u_v1) ⟨by decide, by decide⟩ (fun c6_1 => ?_) (fun c6_1 => ?_)
  · skip
    refine mm_g 2 (pc1 := 54) (lo1 := [some (.ref 137), none]) (st1 := [.ref 137, .ref 137]) (H1 := mz_mk g x) rfl ?_
    refine mz_fgR (v := 156) rfl fd_12_85 (by decide) (sc_137 _) (rf_137_29 _ _ _) ?_
    refine mz_bip rfl bip_25 ?_
    refine mm_g 1 (pc1 := 60) (lo1 := [some (.ref 137), none]) (st1 := [.ref 137, .int (Int32.ofInt 25), .ref 156, .ref 137]) (H1 := mz_mk g x) rfl ?_
    refine mz_fgI (v := v1) rfl fd_12_310 (by decide) (sc_137 _) e_v1 ?_
    refine mz_imul rfl ?_
    refine mz_cv rfl mt_12_397 (by decide) (sc_137 _) rfl (Nat.le_of_ble_eq_true rfl) (by omega) (c_X12_store (by omega) hx hI rwp_156 (by omega) (by omega) (by omega) (by omega) (by have h9 := (show g 137 30 = (g 137 30) from rfl); omega) (fun g2 hIg2 hfg2 => ⟨_, rfl, ?_⟩))
    show mm_W d mmX12_keep 67 [some (.ref 137), none] [] (mz_mk g2 x) Q
    refine mm_g 2 (pc1 := 69) (lo1 := [some (.ref 137), none]) (st1 := [.ref 137, .ref 137]) (H1 := mz_mk g2 x) rfl ?_
    refine mz_fgI (v := v1) rfl fd_12_310 (by decide) (sc_137 _) (show g2 137 31 = v1 from ((hfg2 137 31 (fun h => (absurd (show 137 = 156 from h) (by decide)))).trans e_v1)) ?_
    refine mm_g 1 (pc1 := 73) (lo1 := [some (.ref 137), none]) (st1 := [.int (Int32.ofInt 1), .int (Int32.ofInt v1), .ref 137]) (H1 := mz_mk g2 x) rfl ?_
    refine mz_iadd rfl ?_
    refine mz_pI rfl fd_12_310 (sc_137 _) hIg2 bd_137_31 (by omega) (by omega) (fun g3 hIg3 hug3 => ?_)
    exact mm_rt rfl rfl (hQ _ hIg3 (fun k j hk => ((hug3.2 k j (fun h => hk (Or.inr h))).trans (hfg2 k j (fun h => hk (Or.inl h))))))
  · skip
    refine mz_bip rfl bip_25 ?_
    refine mm_g 1 (pc1 := 12) (lo1 := [some (.ref 137), some (.int (Int32.ofInt 25))]) (st1 := []) (H1 := mz_mk g x) rfl ?_
    have L8 : ∀ n7 : Nat, ∀ (v4 : Int) (g5 : mz_G), (1000 - v4).toNat = n7 → 25 ≤ v4 → v4 ≤ 1000 → mz_inv g5 → mz_fr (fl_X12_keep_12 x) g g5 → mm_W d mmX12_keep 12 [some (.ref 137), some (.int (Int32.ofInt v4))] [] (mz_mk g5 x) Q := by
      intro n7
      induction n7 using Nat.strongRecOn with
      | ind n7 ih6 =>
      intro v4 g5 hmn7 l_v4 u_v4 hIg5 hfg5
      refine mm_g 2 (pc1 := 14) (lo1 := [some (.ref 137), some (.int (Int32.ofInt v4))]) (st1 := [.ref 137, .int (Int32.ofInt v4)]) (H1 := mz_mk g5 x) rfl ?_
      refine mz_fgR (v := 156) rfl fd_12_85 (by decide) (sc_137 _) (rf_137_29 _ _ _) ?_
      refine mz_al rfl (sh_156 _) (by decide) ?_
      refine mz_ic_ge (tgt := 42) rfl rfl (mz_rg l_v4 u_v4) ⟨by omega, by omega⟩ (fun c18_8 => ?_) (fun c18_8 => ?_)
      · skip
        refine mm_g 2 (pc1 := 44) (lo1 := [some (.ref 137), some (.int (Int32.ofInt v4))]) (st1 := [.ref 137, .ref 137]) (H1 := mz_mk g5 x) rfl ?_
        refine mz_fgI (v := v1) rfl fd_12_310 (by decide) (sc_137 _) (show g5 137 31 = v1 from ((hfg5 137 31 (fun h => (absurd (show 137 = 156 from h) (by decide)))).trans e_v1)) ?_
        refine mm_g 1 (pc1 := 48) (lo1 := [some (.ref 137), some (.int (Int32.ofInt v4))]) (st1 := [.int (Int32.ofInt 1), .int (Int32.ofInt v1), .ref 137]) (H1 := mz_mk g5 x) rfl ?_
        refine mz_isub rfl ?_
        refine mz_pI rfl fd_12_310 (sc_137 _) hIg5 bd_137_31 (by omega) (by omega) (fun g9 hIg9 hug9 => ?_)
        refine mm_g 2 (pc1 := 54) (lo1 := [some (.ref 137), some (.int (Int32.ofInt v4))]) (st1 := [.ref 137, .ref 137]) (H1 := mz_mk g9 x) rfl ?_
        refine mz_fgR (v := 156) rfl fd_12_85 (by decide) (sc_137 _) (rf_137_29 _ _ _) ?_
        refine mz_bip rfl bip_25 ?_
        refine mm_g 1 (pc1 := 60) (lo1 := [some (.ref 137), some (.int (Int32.ofInt v4))]) (st1 := [.ref 137, .int (Int32.ofInt 25), .ref 156, .ref 137]) (H1 := mz_mk g9 x) rfl ?_
        refine mz_fgI (v := (v1 - 1)) rfl fd_12_310 (by decide) (sc_137 _) (show g9 137 31 = (v1 - 1) from hug9.1) ?_
        refine mz_imul rfl ?_
        refine mz_cv rfl mt_12_397 (by decide) (sc_137 _) rfl (Nat.le_of_ble_eq_true rfl) (by omega) (c_X12_store (by omega) hx hIg9 rwp_156 (by omega) (by omega) (by omega) (by omega) (by have h9 := (show g9 137 30 = (g 137 30) from ((hug9.2 137 30 (fun h => absurd h.2 (by decide))).trans ((hfg5 137 30 (fun h => (absurd (show 137 = 156 from h) (by decide)))).trans rfl))); omega) (fun g10 hIg10 hfg10 => ⟨_, rfl, ?_⟩))
        show mm_W d mmX12_keep 67 [some (.ref 137), some (.int (Int32.ofInt v4))] [] (mz_mk g10 x) Q
        refine mm_g 2 (pc1 := 69) (lo1 := [some (.ref 137), some (.int (Int32.ofInt v4))]) (st1 := [.ref 137, .ref 137]) (H1 := mz_mk g10 x) rfl ?_
        refine mz_fgI (v := (v1 - 1)) rfl fd_12_310 (by decide) (sc_137 _) (show g10 137 31 = (v1 - 1) from ((hfg10 137 31 (fun h => (absurd (show 137 = 156 from h) (by decide)))).trans hug9.1)) ?_
        refine mm_g 1 (pc1 := 73) (lo1 := [some (.ref 137), some (.int (Int32.ofInt v4))]) (st1 := [.int (Int32.ofInt 1), .int (Int32.ofInt (v1 - 1)), .ref 137]) (H1 := mz_mk g10 x) rfl ?_
        refine mz_iadd rfl ?_
        refine mz_pI rfl fd_12_310 (sc_137 _) hIg10 bd_137_31 (by omega) (by omega) (fun g11 hIg11 hug11 => ?_)
        exact mm_rt rfl rfl (hQ _ hIg11 (fun k j hk => ((hug11.2 k j (fun h => hk (Or.inr h))).trans ((hfg10 k j (fun h => hk (Or.inl h))).trans ((hug9.2 k j (fun h => hk (Or.inr h))).trans (hfg5 k j (fun h => hk (Or.inl h))))))))
      · skip
        refine mm_g 1 (pc1 := 22) (lo1 := [some (.ref 137), some (.int (Int32.ofInt v4))]) (st1 := [.ref 137]) (H1 := mz_mk g5 x) rfl ?_
        refine mz_fgR (v := 156) rfl fd_12_85 (by decide) (sc_137 _) (rf_137_29 _ _ _) ?_
        refine mm_g 1 (pc1 := 26) (lo1 := [some (.ref 137), some (.int (Int32.ofInt v4))]) (st1 := [.int (Int32.ofInt v4), .ref 156]) (H1 := mz_mk g5 x) rfl ?_
        refine mz_bip rfl bip_25 ?_
        refine mz_isub rfl ?_
        refine mm_g 1 (pc1 := 30) (lo1 := [some (.ref 137), some (.int (Int32.ofInt v4))]) (st1 := [.ref 137, .int (Int32.ofInt (v4 - 25)), .ref 156]) (H1 := mz_mk g5 x) rfl ?_
        refine mz_fgR (v := 156) rfl fd_12_85 (by decide) (sc_137 _) (rf_137_29 _ _ _) ?_
        refine mm_g 1 (pc1 := 34) (lo1 := [some (.ref 137), some (.int (Int32.ofInt v4))]) (st1 := [.int (Int32.ofInt v4), .ref 156, .int (Int32.ofInt (v4 - 25)), .ref 156]) (H1 := mz_mk g5 x) rfl ?_
        refine mz_aI rfl (sh_156 _) (by omega) (by omega) (by decide) hIg5 (Prod.eta _).symm (fun v12 e_v12 l_v12 u_v12 => ?_)
        refine mz_sI rfl (sh_156 _) (by omega) (by omega) (by decide) hIg5 ((rwk (by omega)).trans (Prod.eta _).symm) (by omega) (by omega) (fun g13 hIg13 hug13 => ?_)
        refine mz_iincR (v := v4) (lo2 := [some (.ref 137), some (.int (Int32.ofInt (v4 + 1)))]) rfl rfl rfl (Nat.le_of_ble_eq_true rfl) rfl ?_
        refine mz_gt (tgt := 12) rfl rfl ?_
        exact ih6 ((1000 - (v4 + 1)).toNat) (by omega) (v4 + 1) g13 rfl (by omega) (by omega) hIg13 (fun k j hk => ((hug13.2 k j (fun h => hk h.1)).trans (hfg5 k j (fun h => hk h))))
    exact L8 _ 25 g rfl (by decide) (by decide) hI (fun _ _ _ => rfl)
def fw_X12_days (x : mm_X) (a1 : Int) : Nat → Nat → Prop := fun k j => (k = 137 ∧ j = 2) ∨ k = 150 ∨ k = 156 ∨ (k = 137 ∧ j = 31) ∨ (k = 160 ∧ j = 0) ∨ (k = 160 ∧ j = 1) ∨ (k = 160 ∧ j = 2) ∨ (k = 160 ∧ j = 3) ∨ (k = 160 ∧ j = 4) ∨ (k = 160 ∧ j = 5) ∨ (k = 160 ∧ j = 6) ∨ k = 161 ∨ k = 152 ∨ (k = 137 ∧ j = 30)
theorem c_X12_days {d : Nat} (hd : 16 ≤ d) {x : mm_X} (hx : mk_x x) {g : mz_G} (hI : mz_inv g) {a1 : Int} (l_a1 : (-2147483648) ≤ a1) (u_a1 : a1 ≤ 2147483647) (p1 : mz_pv g) (p2 : g 137 30 ≤ 999) {Q : (Option Value ⊕ Nat) → mm_H → Prop} (hQ : ∀ (r : Int) (g1 : mz_G), mz_inv g1 → mz_fr (fw_X12_days x a1) g g1 → (-1) ≤ r → r ≤ 1018 → (g1 137 30 ≤ 999) → Q (.inl (some (.int (Int32.ofInt r)))) (mz_mk g1 x)) : mm_C d 248 [.ref 137, .int (Int32.ofInt a1)] (mz_mk g x) Q := by
  refine ⟨mmX12_days, [some (.ref 137), some (.int (Int32.ofInt a1))], rfl, rfl, ?_⟩
  have bz0 := mz_rd hI bd_137_30
  have hpv := p1
  refine mm_g 2 (pc1 := 2) (lo1 := [some (.ref 137), some (.int (Int32.ofInt a1))]) (st1 := [.int (Int32.ofInt 0), .ref 137]) (H1 := mz_mk g x) rfl ?_
  refine mz_pI rfl fd_12_154 (sc_137 _) hI bd_137_2 (by omega) (by omega) (fun g1 hIg1 hug1 => ?_)
  refine mm_g 1 (pc1 := 6) (lo1 := [some (.ref 137), some (.int (Int32.ofInt a1))]) (st1 := [.int (Int32.ofInt a1)]) (H1 := mz_mk g1 x) rfl ?_
  refine mz_i2l rfl (mz_rg l_a1 u_a1) ?_
  refine mz_lcst (c := 1) rfl rfl ?_
  refine mz_l2w (c := 20) rfl rfl rfl ?_
  refine mz_cs rfl mt_12_157 (by decide) rfl (Nat.le_of_ble_eq_true rfl) (by omega) (c_X12_isIn (by omega) hx hIg1 (by omega) (by omega) (by omega) (by omega) (by omega) (by omega) (fun v2 l_v2 u_v2 hp3 => ⟨_, rfl, ?_⟩))
  show mm_W d mmX12_days 14 [some (.ref 137), some (.int (Int32.ofInt a1))] [.int (Int32.ofInt v2)] (mz_mk g1 x) Q
  refine mz_if_eq (tgt := 29) rfl rfl (mz_rg l_v2 u_v2) (fun c14_3 => ?_) (fun c14_3 => ?_)
  · skip
    refine mm_g 2 (pc1 := 31) (lo1 := [some (.ref 137), some (.int (Int32.ofInt a1))]) (st1 := [.int (Int32.ofInt 1), .ref 137]) (H1 := mz_mk g1 x) rfl ?_
    refine mz_cv rfl mt_12_403 (by decide) (sc_137 _) rfl (Nat.le_of_ble_eq_true rfl) (by omega) (c_X12_refuse (by omega) hx hIg1 (by decide) (by decide) (fun v4 g5 hIg5 hfg5 l_v4 u_v4 => ⟨_, rfl, ?_⟩))
    show mm_W d mmX12_days 34 [some (.ref 137), some (.int (Int32.ofInt a1))] [.int (Int32.ofInt v4)] (mz_mk g5 x) Q
    exact mm_rt rfl rfl (hQ _ _ hIg5 (fun k j hk => ((hfg5 k j (fun h => hk (Or.inr (Or.inl h)))).trans (hug1.2 k j (fun h => hk (Or.inl h))))) (by omega) (by omega) (by have h9 := (show g5 137 30 = (g 137 30) from ((hfg5 137 30 (fun h => (absurd (show 137 = 150 from h) (by decide)))).trans ((hug1.2 137 30 (fun h => absurd h.2 (by decide))).trans rfl))); omega))
  · skip
    refine mm_g 1 (pc1 := 18) (lo1 := [some (.ref 137), some (.int (Int32.ofInt a1))]) (st1 := [.ref 137]) (H1 := mz_mk g1 x) rfl ?_
    refine mz_fgI (v := (g 137 30)) rfl fd_12_307 (by decide) (sc_137 _) (show g1 137 30 = (g 137 30) from ((hug1.2 137 30 (fun h => absurd h.2 (by decide))).trans rfl)) ?_
    refine mm_g 1 (pc1 := 22) (lo1 := [some (.ref 137), some (.int (Int32.ofInt a1))]) (st1 := [.int (Int32.ofInt a1), .int (Int32.ofInt (g 137 30))]) (H1 := mz_mk g1 x) rfl ?_
    refine mz_iadd rfl ?_
    refine mz_sip rfl sip_999 ?_
    refine mz_ic_le (tgt := 35) rfl rfl ⟨by omega, by omega⟩ ⟨by decide, by decide⟩ (fun c26_5 => ?_) (fun c26_5 => ?_)
    · skip
      refine mm_g 1 (pc1 := 36) (lo1 := [some (.ref 137), some (.int (Int32.ofInt a1))]) (st1 := [.ref 137]) (H1 := mz_mk g1 x) rfl ?_
      refine mz_cv rfl mt_12_406 (by decide) (sc_137 _) rfl (Nat.le_of_ble_eq_true rfl) (by omega) (c_X12_keep (by omega) hx hIg1 (by have h9 := (show g1 137 30 = (g 137 30) from ((hug1.2 137 30 (fun h => absurd h.2 (by decide))).trans rfl)); omega) (fun g6 hIg6 hfg6 => ⟨_, rfl, ?_⟩))
      show mm_W d mmX12_days 39 [some (.ref 137), some (.int (Int32.ofInt a1))] [] (mz_mk g6 x) Q
      refine mm_g 2 (pc1 := 41) (lo1 := [some (.ref 137), some (.int (Int32.ofInt a1))]) (st1 := [.int (Int32.ofInt a1), .ref 137]) (H1 := mz_mk g6 x) rfl ?_
      have hq7 : g6 137 30 = (g 137 30) := (show g6 137 30 = (g 137 30) from ((hfg6 137 30 (fun h => (Or.elim h (fun h => (absurd (show 137 = 156 from h) (by decide))) (fun h => (absurd (show (137 = 137 ∧ 30 = 31) from h) (by decide)))))).trans ((hug1.2 137 30 (fun h => absurd h.2 (by decide))).trans rfl)))
      refine mz_cv rfl mt_12_409 (by decide) (sc_137 _) rfl (Nat.le_of_ble_eq_true rfl) (by omega) (c_X12_goOn (by omega) hx hIg6 (by omega) (by omega) (mz_pv_fr hpv (fun _j => ((hfg6 149 _j (fun h => (Or.elim h (fun h => (absurd (show 149 = 156 from h) (by decide))) (fun h => (absurd (show 149 = 137 from (h).1) (by decide)))))).trans ((hug1.2 149 _j (fun h => absurd h.1 (by decide))).trans rfl))) ((hfg6 140 3 (fun h => (Or.elim h (fun h => (absurd (show 140 = 156 from h) (by decide))) (fun h => (absurd (show 140 = 137 from (h).1) (by decide)))))).trans ((hug1.2 140 3 (fun h => absurd h.1 (by decide))).trans rfl))) (by have h9 := (show g6 137 30 = (g 137 30) from ((hfg6 137 30 (fun h => (Or.elim h (fun h => (absurd (show 137 = 156 from h) (by decide))) (fun h => (absurd (show (137 = 137 ∧ 30 = 31) from h) (by decide)))))).trans ((hug1.2 137 30 (fun h => absurd h.2 (by decide))).trans rfl))); omega) (fun g8 hIg8 hfg8 hp9 => ⟨_, rfl, ?_⟩))
      show mm_W d mmX12_days 44 [some (.ref 137), some (.int (Int32.ofInt a1))] [] (mz_mk g8 x) Q
      refine mm_g 1 (pc1 := 45) (lo1 := [some (.ref 137), some (.int (Int32.ofInt a1))]) (st1 := [.ref 137]) (H1 := mz_mk g8 x) rfl ?_
      refine mz_fgI (v := (g8 137 30)) rfl fd_12_307 (by decide) (sc_137 _) (show g8 137 30 = (g8 137 30) from rfl) ?_
      exact mm_rt rfl rfl (hQ _ _ hIg8 (fun k j hk => ((hfg8 k j (fun h => hk (Or.elim h (fun h => (Or.inr (Or.inr (Or.inr (Or.inr (Or.inl h)))))) (fun h => (Or.elim h (fun h => (Or.inr (Or.inr (Or.inr (Or.inr (Or.inr (Or.inl h))))))) (fun h => (Or.elim h (fun h => (Or.inr (Or.inr (Or.inr (Or.inr (Or.inr (Or.inr (Or.inl h)))))))) (fun h => (Or.elim h (fun h => (Or.inr (Or.inr (Or.inr (Or.inr (Or.inr (Or.inr (Or.inr (Or.inl h))))))))) (fun h => (Or.elim h (fun h => (Or.inr (Or.inr (Or.inr (Or.inr (Or.inr (Or.inr (Or.inr (Or.inr (Or.inl h)))))))))) (fun h => (Or.elim h (fun h => (Or.inr (Or.inr (Or.inr (Or.inr (Or.inr (Or.inr (Or.inr (Or.inr (Or.inr (Or.inl h))))))))))) (fun h => (Or.elim h (fun h => (Or.inr (Or.inr (Or.inr (Or.inr (Or.inr (Or.inr (Or.inr (Or.inr (Or.inr (Or.inr (Or.inl h)))))))))))) (fun h => (Or.elim h (fun h => (Or.inr (Or.inr (Or.inr (Or.inr (Or.inr (Or.inr (Or.inr (Or.inr (Or.inr (Or.inr (Or.inr (Or.inl h))))))))))))) (fun h => (Or.elim h (fun h => (Or.inr (Or.inr (Or.inr (Or.inr (Or.inr (Or.inr (Or.inr (Or.inr (Or.inr (Or.inr (Or.inr (Or.inr (Or.inl h)))))))))))))) (fun h => (Or.inr (Or.inr (Or.inr (Or.inr (Or.inr (Or.inr (Or.inr (Or.inr (Or.inr (Or.inr (Or.inr (Or.inr (Or.inr h))))))))))))))))))))))))))))))))).trans ((hfg6 k j (fun h => hk (Or.elim h (fun h => (Or.inr (Or.inr (Or.inl h)))) (fun h => (Or.inr (Or.inr (Or.inr (Or.inl h)))))))).trans (hug1.2 k j (fun h => hk (Or.inl h)))))) (by omega) (by omega) (by have h9 := (show g8 137 30 = (g8 137 30) from rfl); omega))
    · skip
      refine mm_g 2 (pc1 := 31) (lo1 := [some (.ref 137), some (.int (Int32.ofInt a1))]) (st1 := [.int (Int32.ofInt 1), .ref 137]) (H1 := mz_mk g1 x) rfl ?_
      refine mz_cv rfl mt_12_403 (by decide) (sc_137 _) rfl (Nat.le_of_ble_eq_true rfl) (by omega) (c_X12_refuse (by omega) hx hIg1 (by decide) (by decide) (fun v10 g11 hIg11 hfg11 l_v10 u_v10 => ⟨_, rfl, ?_⟩))
      show mm_W d mmX12_days 34 [some (.ref 137), some (.int (Int32.ofInt a1))] [.int (Int32.ofInt v10)] (mz_mk g11 x) Q
      exact mm_rt rfl rfl (hQ _ _ hIg11 (fun k j hk => ((hfg11 k j (fun h => hk (Or.inr (Or.inl h)))).trans (hug1.2 k j (fun h => hk (Or.inl h))))) (by omega) (by omega) (by have h9 := (show g11 137 30 = (g 137 30) from ((hfg11 137 30 (fun h => (absurd (show 137 = 150 from h) (by decide)))).trans ((hug1.2 137 30 (fun h => absurd h.2 (by decide))).trans rfl))); omega))
def fw_X12_draw (x : mm_X) (a1 : Int) (a2 : Int) : Nat → Nat → Prop := fun k j => (k = 137 ∧ j = 2) ∨ k = 150 ∨ k = 156 ∨ (k = 137 ∧ j = 31) ∨ k = 155
theorem c_X12_draw {d : Nat} (hd : 3 ≤ d) {x : mm_X} (hx : mk_x x) {g : mz_G} (hI : mz_inv g) {a1 : Int} (l_a1 : (-2147483648) ≤ a1) (u_a1 : a1 ≤ 2147483647) {a2 : Int} (l_a2 : (-2147483648) ≤ a2) (u_a2 : a2 ≤ 2147483647) (p1 : mz_pv g) (p2 : g 137 30 ≤ 999) {Q : (Option Value ⊕ Nat) → mm_H → Prop} (hQ : ∀ (r : Int) (g1 : mz_G), mz_inv g1 → mz_fr (fw_X12_draw x a1 a2) g g1 → (-2147483648) ≤ r → r ≤ 2147483647 → (g1 137 30 ≤ 999) → Q (.inl (some (.int (Int32.ofInt r)))) (mz_mk g1 x)) : mm_C d 249 [.ref 137, .int (Int32.ofInt a1), .int (Int32.ofInt a2)] (mz_mk g x) Q := by
  refine ⟨mmX12_draw, [some (.ref 137), some (.int (Int32.ofInt a1)), some (.int (Int32.ofInt a2)), none], rfl, rfl, ?_⟩
  have bz0 := mz_rd hI bd_137_30
  have hpv := p1
  refine mm_g 2 (pc1 := 2) (lo1 := [some (.ref 137), some (.int (Int32.ofInt a1)), some (.int (Int32.ofInt a2)), none]) (st1 := [.int (Int32.ofInt 0), .ref 137]) (H1 := mz_mk g x) rfl ?_
  refine mz_pI rfl fd_12_154 (sc_137 _) hI bd_137_2 (by omega) (by omega) (fun g1 hIg1 hug1 => ?_)
  refine mm_g 2 (pc1 := 7) (lo1 := [some (.ref 137), some (.int (Int32.ofInt a1)), some (.int (Int32.ofInt a2)), none]) (st1 := [.int (Int32.ofInt a1), .ref 137]) (H1 := mz_mk g1 x) rfl ?_
  refine mz_cv rfl mt_12_391 (by decide) (sc_137 _) rfl (Nat.le_of_ble_eq_true rfl) (by omega) (c_X12_isTrunk (by omega) hx hIg1 l_a1 u_a1 (fun v2 l_v2 u_v2 hp3 hp4 => ⟨_, rfl, ?_⟩))
  show mm_W d mmX12_draw 10 [some (.ref 137), some (.int (Int32.ofInt a1)), some (.int (Int32.ofInt a2)), none] [.int (Int32.ofInt v2)] (mz_mk g1 x) Q
  refine mz_if_ne (tgt := 19) rfl rfl (mz_rg l_v2 u_v2) (fun c10_4 => ?_) (fun c10_4 => ?_)
  · skip
    refine mm_g 1 (pc1 := 20) (lo1 := [some (.ref 137), some (.int (Int32.ofInt a1)), some (.int (Int32.ofInt a2)), none]) (st1 := [.ref 137]) (H1 := mz_mk g1 x) rfl ?_
    refine mz_fgR (v := 155) rfl fd_12_82 (by decide) (sc_137 _) (rf_137_28 _ _ _) ?_
    refine mm_g 1 (pc1 := 24) (lo1 := [some (.ref 137), some (.int (Int32.ofInt a1)), some (.int (Int32.ofInt a2)), none]) (st1 := [.int (Int32.ofInt a1), .ref 155]) (H1 := mz_mk g1 x) rfl ?_
    refine mz_aI rfl (sh_155 _) (by omega) (by omega) (by decide) hIg1 (ba_155 _) (fun v5 e_v5 l_v5 u_v5 => ?_)
    refine mm_g 2 (pc1 := 27) (lo1 := [some (.ref 137), some (.int (Int32.ofInt a1)), some (.int (Int32.ofInt a2)), some (.int (Int32.ofInt v5))]) (st1 := [.int (Int32.ofInt a2)]) (H1 := mz_mk g1 x) rfl ?_
    refine mz_i2l rfl (mz_rg l_a2 u_a2) ?_
    refine mz_lcst (c := 0) rfl rfl ?_
    refine mz_l2w (c := 9) rfl rfl rfl ?_
    refine mz_cs rfl mt_12_157 (by decide) rfl (Nat.le_of_ble_eq_true rfl) (by omega) (c_X12_isIn (by omega) hx hIg1 (by omega) (by omega) (by omega) (by omega) (by omega) (by omega) (fun v6 l_v6 u_v6 hp7 => ⟨_, rfl, ?_⟩))
    show mm_W d mmX12_draw 35 [some (.ref 137), some (.int (Int32.ofInt a1)), some (.int (Int32.ofInt a2)), some (.int (Int32.ofInt v5))] [.int (Int32.ofInt v6)] (mz_mk g1 x) Q
    refine mz_if_eq (tgt := 43) rfl rfl (mz_rg l_v6 u_v6) (fun c35_7 => ?_) (fun c35_7 => ?_)
    · skip
      refine mm_g 2 (pc1 := 45) (lo1 := [some (.ref 137), some (.int (Int32.ofInt a1)), some (.int (Int32.ofInt a2)), some (.int (Int32.ofInt v5))]) (st1 := [.int (Int32.ofInt 1), .ref 137]) (H1 := mz_mk g1 x) rfl ?_
      refine mz_cv rfl mt_12_403 (by decide) (sc_137 _) rfl (Nat.le_of_ble_eq_true rfl) (by omega) (c_X12_refuse (by omega) hx hIg1 (by decide) (by decide) (fun v8 g9 hIg9 hfg9 l_v8 u_v8 => ⟨_, rfl, ?_⟩))
      show mm_W d mmX12_draw 48 [some (.ref 137), some (.int (Int32.ofInt a1)), some (.int (Int32.ofInt a2)), some (.int (Int32.ofInt v5))] [.int (Int32.ofInt v8)] (mz_mk g9 x) Q
      exact mm_rt rfl rfl (hQ _ _ hIg9 (fun k j hk => ((hfg9 k j (fun h => hk (Or.inr (Or.inl h)))).trans (hug1.2 k j (fun h => hk (Or.inl h))))) (by omega) (by omega) (by have h9 := (show g9 137 30 = (g 137 30) from ((hfg9 137 30 (fun h => (absurd (show 137 = 150 from h) (by decide)))).trans ((hug1.2 137 30 (fun h => absurd h.2 (by decide))).trans rfl))); omega))
    · skip
      refine mm_g 2 (pc1 := 40) (lo1 := [some (.ref 137), some (.int (Int32.ofInt a1)), some (.int (Int32.ofInt a2)), some (.int (Int32.ofInt v5))]) (st1 := [.int (Int32.ofInt v5), .int (Int32.ofInt a2)]) (H1 := mz_mk g1 x) rfl ?_
      refine mz_ic_ne (tgt := 49) rfl rfl (mz_rg l_a2 u_a2) (mz_rg l_v5 u_v5) (fun c40_9 => ?_) (fun c40_9 => ?_)
      · skip
        refine mm_g 1 (pc1 := 50) (lo1 := [some (.ref 137), some (.int (Int32.ofInt a1)), some (.int (Int32.ofInt a2)), some (.int (Int32.ofInt v5))]) (st1 := [.ref 137]) (H1 := mz_mk g1 x) rfl ?_
        refine mz_cv rfl mt_12_406 (by decide) (sc_137 _) rfl (Nat.le_of_ble_eq_true rfl) (by omega) (c_X12_keep (by omega) hx hIg1 (by have h9 := (show g1 137 30 = (g 137 30) from ((hug1.2 137 30 (fun h => absurd h.2 (by decide))).trans rfl)); omega) (fun g10 hIg10 hfg10 => ⟨_, rfl, ?_⟩))
        show mm_W d mmX12_draw 53 [some (.ref 137), some (.int (Int32.ofInt a1)), some (.int (Int32.ofInt a2)), some (.int (Int32.ofInt v5))] [] (mz_mk g10 x) Q
        refine mm_g 1 (pc1 := 54) (lo1 := [some (.ref 137), some (.int (Int32.ofInt a1)), some (.int (Int32.ofInt a2)), some (.int (Int32.ofInt v5))]) (st1 := [.ref 137]) (H1 := mz_mk g10 x) rfl ?_
        refine mz_fgR (v := 155) rfl fd_12_82 (by decide) (sc_137 _) (rf_137_28 _ _ _) ?_
        refine mm_g 2 (pc1 := 59) (lo1 := [some (.ref 137), some (.int (Int32.ofInt a1)), some (.int (Int32.ofInt a2)), some (.int (Int32.ofInt v5))]) (st1 := [.int (Int32.ofInt a2), .int (Int32.ofInt a1), .ref 155]) (H1 := mz_mk g10 x) rfl ?_
        refine mz_sI rfl (sh_155 _) (by omega) (by omega) (by decide) hIg10 (ba_155 _) (by omega) (by omega) (fun g11 hIg11 hug11 => ?_)
        refine mm_g 1 (pc1 := 61) (lo1 := [some (.ref 137), some (.int (Int32.ofInt a1)), some (.int (Int32.ofInt a2)), some (.int (Int32.ofInt v5))]) (st1 := [.int (Int32.ofInt v5)]) (H1 := mz_mk g11 x) rfl ?_
        exact mm_rt rfl rfl (hQ _ _ hIg11 (fun k j hk => ((hug11.2 k j (fun h => hk (Or.inr (Or.inr (Or.inr (Or.inr h.1)))))).trans ((hfg10 k j (fun h => hk (Or.elim h (fun h => (Or.inr (Or.inr (Or.inl h)))) (fun h => (Or.inr (Or.inr (Or.inr (Or.inl h)))))))).trans (hug1.2 k j (fun h => hk (Or.inl h)))))) (by omega) (by omega) (by have h9 := (show g11 137 30 = (g 137 30) from ((hug11.2 137 30 (fun h => absurd h.1 (by decide))).trans ((hfg10 137 30 (fun h => (Or.elim h (fun h => (absurd (show 137 = 156 from h) (by decide))) (fun h => (absurd (show (137 = 137 ∧ 30 = 31) from h) (by decide)))))).trans ((hug1.2 137 30 (fun h => absurd h.2 (by decide))).trans rfl)))); omega))
      · skip
        refine mm_g 2 (pc1 := 45) (lo1 := [some (.ref 137), some (.int (Int32.ofInt a1)), some (.int (Int32.ofInt a2)), some (.int (Int32.ofInt v5))]) (st1 := [.int (Int32.ofInt 1), .ref 137]) (H1 := mz_mk g1 x) rfl ?_
        refine mz_cv rfl mt_12_403 (by decide) (sc_137 _) rfl (Nat.le_of_ble_eq_true rfl) (by omega) (c_X12_refuse (by omega) hx hIg1 (by decide) (by decide) (fun v12 g13 hIg13 hfg13 l_v12 u_v12 => ⟨_, rfl, ?_⟩))
        show mm_W d mmX12_draw 48 [some (.ref 137), some (.int (Int32.ofInt a1)), some (.int (Int32.ofInt a2)), some (.int (Int32.ofInt v5))] [.int (Int32.ofInt v12)] (mz_mk g13 x) Q
        exact mm_rt rfl rfl (hQ _ _ hIg13 (fun k j hk => ((hfg13 k j (fun h => hk (Or.inr (Or.inl h)))).trans (hug1.2 k j (fun h => hk (Or.inl h))))) (by omega) (by omega) (by have h9 := (show g13 137 30 = (g 137 30) from ((hfg13 137 30 (fun h => (absurd (show 137 = 150 from h) (by decide)))).trans ((hug1.2 137 30 (fun h => absurd h.2 (by decide))).trans rfl))); omega))
  · skip
    refine mm_g 2 (pc1 := 15) (lo1 := [some (.ref 137), some (.int (Int32.ofInt a1)), some (.int (Int32.ofInt a2)), none]) (st1 := [.int (Int32.ofInt 1), .ref 137]) (H1 := mz_mk g1 x) rfl ?_
    refine mz_cv rfl mt_12_294 (by decide) (sc_137 _) rfl (Nat.le_of_ble_eq_true rfl) (by omega) (c_X12_fail (by omega) hx hIg1 (by decide) (by decide) (fun v14 g15 hIg15 hfg15 l_v14 u_v14 => ⟨_, rfl, ?_⟩))
    show mm_W d mmX12_draw 18 [some (.ref 137), some (.int (Int32.ofInt a1)), some (.int (Int32.ofInt a2)), none] [.int (Int32.ofInt v14)] (mz_mk g15 x) Q
    exact mm_rt rfl rfl (hQ _ _ hIg15 (fun k j hk => ((hfg15 k j (fun h => hk (Or.inl h))).trans (hug1.2 k j (fun h => hk (Or.inl h))))) (by omega) (by omega) (by have h9 := (show g15 137 30 = (g 137 30) from ((hfg15 137 30 (fun h => (absurd (show (137 = 137 ∧ 30 = 2) from h) (by decide)))).trans ((hug1.2 137 30 (fun h => absurd h.2 (by decide))).trans rfl))); omega))
def fw_X12_pull (x : mm_X) (a1 : Int) (a2 : Int) : Nat → Nat → Prop := fun k j => (k = 137 ∧ j = 2) ∨ k = 150 ∨ k = 156 ∨ (k = 137 ∧ j = 31) ∨ k = 152
theorem c_X12_pull {d : Nat} (hd : 14 ≤ d) {x : mm_X} (hx : mk_x x) {g : mz_G} (hI : mz_inv g) {a1 : Int} (l_a1 : (-2147483648) ≤ a1) (u_a1 : a1 ≤ 2147483647) {a2 : Int} (l_a2 : (-2147483648) ≤ a2) (u_a2 : a2 ≤ 2147483647) (p1 : mz_pv g) (p2 : g 137 30 ≤ 999) {Q : (Option Value ⊕ Nat) → mm_H → Prop} (hQ : ∀ (r : Int) (g1 : mz_G), mz_inv g1 → mz_fr (fw_X12_pull x a1 a2) g g1 → (-1) ≤ r → r ≤ 7 → (g1 137 30 ≤ 999) → Q (.inl (some (.int (Int32.ofInt r)))) (mz_mk g1 x)) : mm_C d 250 [.ref 137, .int (Int32.ofInt a1), .int (Int32.ofInt a2)] (mz_mk g x) Q := by
  refine ⟨mmX12_pull, [some (.ref 137), some (.int (Int32.ofInt a1)), some (.int (Int32.ofInt a2))], rfl, rfl, ?_⟩
  have bz0 := mz_rd hI bd_137_30
  have hpv := p1
  refine mm_g 2 (pc1 := 2) (lo1 := [some (.ref 137), some (.int (Int32.ofInt a1)), some (.int (Int32.ofInt a2))]) (st1 := [.int (Int32.ofInt 0), .ref 137]) (H1 := mz_mk g x) rfl ?_
  refine mz_pI rfl fd_12_154 (sc_137 _) hI bd_137_2 (by omega) (by omega) (fun g1 hIg1 hug1 => ?_)
  refine mm_g 2 (pc1 := 7) (lo1 := [some (.ref 137), some (.int (Int32.ofInt a1)), some (.int (Int32.ofInt a2))]) (st1 := [.int (Int32.ofInt a1), .ref 137]) (H1 := mz_mk g1 x) rfl ?_
  refine mz_cv rfl mt_12_391 (by decide) (sc_137 _) rfl (Nat.le_of_ble_eq_true rfl) (by omega) (c_X12_isTrunk (by omega) hx hIg1 l_a1 u_a1 (fun v2 l_v2 u_v2 hp3 hp4 => ⟨_, rfl, ?_⟩))
  show mm_W d mmX12_pull 10 [some (.ref 137), some (.int (Int32.ofInt a1)), some (.int (Int32.ofInt a2))] [.int (Int32.ofInt v2)] (mz_mk g1 x) Q
  refine mz_if_ne (tgt := 19) rfl rfl (mz_rg l_v2 u_v2) (fun c10_4 => ?_) (fun c10_4 => ?_)
  · skip
    refine mm_g 1 (pc1 := 20) (lo1 := [some (.ref 137), some (.int (Int32.ofInt a1)), some (.int (Int32.ofInt a2))]) (st1 := [.int (Int32.ofInt a2)]) (H1 := mz_mk g1 x) rfl ?_
    refine mz_i2l rfl (mz_rg l_a2 u_a2) ?_
    refine mz_lcst (c := 1) rfl rfl ?_
    refine mz_l2w (c := 9) rfl rfl rfl ?_
    refine mz_cs rfl mt_12_157 (by decide) rfl (Nat.le_of_ble_eq_true rfl) (by omega) (c_X12_isIn (by omega) hx hIg1 (by omega) (by omega) (by omega) (by omega) (by omega) (by omega) (fun v5 l_v5 u_v5 hp6 => ⟨_, rfl, ?_⟩))
    show mm_W d mmX12_pull 28 [some (.ref 137), some (.int (Int32.ofInt a1)), some (.int (Int32.ofInt a2))] [.int (Int32.ofInt v5)] (mz_mk g1 x) Q
    refine mz_if_eq (tgt := 58) rfl rfl (mz_rg l_v5 u_v5) (fun c28_6 => ?_) (fun c28_6 => ?_)
    · skip
      refine mm_g 2 (pc1 := 60) (lo1 := [some (.ref 137), some (.int (Int32.ofInt a1)), some (.int (Int32.ofInt a2))]) (st1 := [.int (Int32.ofInt 1), .ref 137]) (H1 := mz_mk g1 x) rfl ?_
      refine mz_cv rfl mt_12_403 (by decide) (sc_137 _) rfl (Nat.le_of_ble_eq_true rfl) (by omega) (c_X12_refuse (by omega) hx hIg1 (by decide) (by decide) (fun v7 g8 hIg8 hfg8 l_v7 u_v7 => ⟨_, rfl, ?_⟩))
      show mm_W d mmX12_pull 63 [some (.ref 137), some (.int (Int32.ofInt a1)), some (.int (Int32.ofInt a2))] [.int (Int32.ofInt v7)] (mz_mk g8 x) Q
      exact mm_rt rfl rfl (hQ _ _ hIg8 (fun k j hk => ((hfg8 k j (fun h => hk (Or.inr (Or.inl h)))).trans (hug1.2 k j (fun h => hk (Or.inl h))))) (by omega) (by omega) (by have h9 := (show g8 137 30 = (g 137 30) from ((hfg8 137 30 (fun h => (absurd (show 137 = 150 from h) (by decide)))).trans ((hug1.2 137 30 (fun h => absurd h.2 (by decide))).trans rfl))); omega))
    · skip
      refine mm_g 1 (pc1 := 32) (lo1 := [some (.ref 137), some (.int (Int32.ofInt a1)), some (.int (Int32.ofInt a2))]) (st1 := [.ref 137]) (H1 := mz_mk g1 x) rfl ?_
      refine mz_fgR (v := 152) rfl fd_12_76 (by decide) (sc_137 _) (rf_137_25 _ _ _) ?_
      refine mm_g 1 (pc1 := 36) (lo1 := [some (.ref 137), some (.int (Int32.ofInt a1)), some (.int (Int32.ofInt a2))]) (st1 := [.int (Int32.ofInt a1), .ref 152]) (H1 := mz_mk g1 x) rfl ?_
      refine mz_aI rfl (sh_152 _) (by omega) (by omega) (by decide) hIg1 (ba_152 _) (fun v9 e_v9 l_v9 u_v9 => ?_)
      refine mz_if_eq (tgt := 58) rfl rfl (mz_rg l_v9 u_v9) (fun c37_9 => ?_) (fun c37_9 => ?_)
      · skip
        refine mm_g 2 (pc1 := 60) (lo1 := [some (.ref 137), some (.int (Int32.ofInt a1)), some (.int (Int32.ofInt a2))]) (st1 := [.int (Int32.ofInt 1), .ref 137]) (H1 := mz_mk g1 x) rfl ?_
        refine mz_cv rfl mt_12_403 (by decide) (sc_137 _) rfl (Nat.le_of_ble_eq_true rfl) (by omega) (c_X12_refuse (by omega) hx hIg1 (by decide) (by decide) (fun v10 g11 hIg11 hfg11 l_v10 u_v10 => ⟨_, rfl, ?_⟩))
        show mm_W d mmX12_pull 63 [some (.ref 137), some (.int (Int32.ofInt a1)), some (.int (Int32.ofInt a2))] [.int (Int32.ofInt v10)] (mz_mk g11 x) Q
        exact mm_rt rfl rfl (hQ _ _ hIg11 (fun k j hk => ((hfg11 k j (fun h => hk (Or.inr (Or.inl h)))).trans (hug1.2 k j (fun h => hk (Or.inl h))))) (by omega) (by omega) (by have h9 := (show g11 137 30 = (g 137 30) from ((hfg11 137 30 (fun h => (absurd (show 137 = 150 from h) (by decide)))).trans ((hug1.2 137 30 (fun h => absurd h.2 (by decide))).trans rfl))); omega))
      · skip
        refine mm_g 2 (pc1 := 42) (lo1 := [some (.ref 137), some (.int (Int32.ofInt a1)), some (.int (Int32.ofInt a2))]) (st1 := [.int (Int32.ofInt a1), .ref 137]) (H1 := mz_mk g1 x) rfl ?_
        refine mz_cv rfl mt_12_365 (by decide) (sc_137 _) rfl (Nat.le_of_ble_eq_true rfl) (by omega) (c_X12_isFull (by omega) hx hIg1 (by omega) (by omega) (fun v12 l_v12 u_v12 => ⟨_, rfl, ?_⟩))
        show mm_W d mmX12_pull 45 [some (.ref 137), some (.int (Int32.ofInt a1)), some (.int (Int32.ofInt a2))] [.int (Int32.ofInt v12)] (mz_mk g1 x) Q
        refine mz_if_ne (tgt := 58) rfl rfl (mz_rg l_v12 u_v12) (fun c45_12 => ?_) (fun c45_12 => ?_)
        · skip
          refine mm_g 2 (pc1 := 60) (lo1 := [some (.ref 137), some (.int (Int32.ofInt a1)), some (.int (Int32.ofInt a2))]) (st1 := [.int (Int32.ofInt 1), .ref 137]) (H1 := mz_mk g1 x) rfl ?_
          refine mz_cv rfl mt_12_403 (by decide) (sc_137 _) rfl (Nat.le_of_ble_eq_true rfl) (by omega) (c_X12_refuse (by omega) hx hIg1 (by decide) (by decide) (fun v13 g14 hIg14 hfg14 l_v13 u_v13 => ⟨_, rfl, ?_⟩))
          show mm_W d mmX12_pull 63 [some (.ref 137), some (.int (Int32.ofInt a1)), some (.int (Int32.ofInt a2))] [.int (Int32.ofInt v13)] (mz_mk g14 x) Q
          exact mm_rt rfl rfl (hQ _ _ hIg14 (fun k j hk => ((hfg14 k j (fun h => hk (Or.inr (Or.inl h)))).trans (hug1.2 k j (fun h => hk (Or.inl h))))) (by omega) (by omega) (by have h9 := (show g14 137 30 = (g 137 30) from ((hfg14 137 30 (fun h => (absurd (show 137 = 150 from h) (by decide)))).trans ((hug1.2 137 30 (fun h => absurd h.2 (by decide))).trans rfl))); omega))
        · skip
          refine mm_g 1 (pc1 := 49) (lo1 := [some (.ref 137), some (.int (Int32.ofInt a1)), some (.int (Int32.ofInt a2))]) (st1 := [.ref 137]) (H1 := mz_mk g1 x) rfl ?_
          refine mz_fgR (v := 144) rfl fd_12_49 (by decide) (sc_137 _) (rf_137_7 _ _ _) ?_
          refine mm_g 1 (pc1 := 53) (lo1 := [some (.ref 137), some (.int (Int32.ofInt a1)), some (.int (Int32.ofInt a2))]) (st1 := [.int (Int32.ofInt a1), .ref 144]) (H1 := mz_mk g1 x) rfl ?_
          refine mz_aI rfl (sh_144 _) (by omega) (by omega) (by decide) hIg1 (ba_144 _) (fun v15 e_v15 l_v15 u_v15 => ?_)
          refine mm_g 1 (pc1 := 55) (lo1 := [some (.ref 137), some (.int (Int32.ofInt a1)), some (.int (Int32.ofInt a2))]) (st1 := [.int (Int32.ofInt 1), .int (Int32.ofInt v15)]) (H1 := mz_mk g1 x) rfl ?_
          refine mz_ic_ne (tgt := 64) rfl rfl (mz_rg l_v15 u_v15) ⟨by decide, by decide⟩ (fun c55_15 => ?_) (fun c55_15 => ?_)
          · skip
            refine mm_g 1 (pc1 := 65) (lo1 := [some (.ref 137), some (.int (Int32.ofInt a1)), some (.int (Int32.ofInt a2))]) (st1 := [.ref 137]) (H1 := mz_mk g1 x) rfl ?_
            refine mz_cv rfl mt_12_406 (by decide) (sc_137 _) rfl (Nat.le_of_ble_eq_true rfl) (by omega) (c_X12_keep (by omega) hx hIg1 (by have h9 := (show g1 137 30 = (g 137 30) from ((hug1.2 137 30 (fun h => absurd h.2 (by decide))).trans rfl)); omega) (fun g16 hIg16 hfg16 => ⟨_, rfl, ?_⟩))
            show mm_W d mmX12_pull 68 [some (.ref 137), some (.int (Int32.ofInt a1)), some (.int (Int32.ofInt a2))] [] (mz_mk g16 x) Q
            refine mm_g 1 (pc1 := 69) (lo1 := [some (.ref 137), some (.int (Int32.ofInt a1)), some (.int (Int32.ofInt a2))]) (st1 := [.ref 137]) (H1 := mz_mk g16 x) rfl ?_
            refine mz_fgR (v := 152) rfl fd_12_76 (by decide) (sc_137 _) (rf_137_25 _ _ _) ?_
            refine mm_g 3 (pc1 := 75) (lo1 := [some (.ref 137), some (.int (Int32.ofInt a1)), some (.int (Int32.ofInt a2))]) (st1 := [.ref 137, .int (Int32.ofInt 0), .int (Int32.ofInt a1), .ref 152]) (H1 := mz_mk g16 x) rfl ?_
            refine mz_fgR (v := 152) rfl fd_12_76 (by decide) (sc_137 _) (rf_137_25 _ _ _) ?_
            refine mm_g 1 (pc1 := 79) (lo1 := [some (.ref 137), some (.int (Int32.ofInt a1)), some (.int (Int32.ofInt a2))]) (st1 := [.int (Int32.ofInt a1), .ref 152, .int (Int32.ofInt 0), .int (Int32.ofInt a1), .ref 152]) (H1 := mz_mk g16 x) rfl ?_
            refine mz_ia (v := v9) rfl (sh_152 _) (by omega) (by omega) (by decide) (show g16 152 (a1 : Int).toNat = v9 from ((hfg16 152 (a1 : Int).toNat (fun h => (Or.elim h (fun h => (absurd (show 152 = 156 from h) (by decide))) (fun h => (absurd (show 152 = 137 from (h).1) (by decide)))))).trans e_v9)) ?_
            refine mm_g 1 (pc1 := 81) (lo1 := [some (.ref 137), some (.int (Int32.ofInt a1)), some (.int (Int32.ofInt a2))]) (st1 := [.int (Int32.ofInt a2), .int (Int32.ofInt v9), .int (Int32.ofInt 0), .int (Int32.ofInt a1), .ref 152]) (H1 := mz_mk g16 x) rfl ?_
            refine mz_isub rfl ?_
            refine mz_mx rfl mt_12_329 (Nat.le_of_ble_eq_true rfl) (by omega) ⟨by decide, by decide⟩ ⟨by omega, by omega⟩ (fun v17 e_v17 => ?_)
            have l_v17 : 0 ≤ v17 := by omega
            have u_v17 : v17 ≤ 7 := by omega
            refine mz_sI rfl (sh_152 _) (by omega) (by omega) (by decide) hIg16 (ba_152 _) (by omega) (by omega) (fun g18 hIg18 hug18 => ?_)
            refine mm_g 1 (pc1 := 87) (lo1 := [some (.ref 137), some (.int (Int32.ofInt a1)), some (.int (Int32.ofInt a2))]) (st1 := [.ref 137]) (H1 := mz_mk g18 x) rfl ?_
            refine mz_fgR (v := 152) rfl fd_12_76 (by decide) (sc_137 _) (rf_137_25 _ _ _) ?_
            refine mm_g 1 (pc1 := 91) (lo1 := [some (.ref 137), some (.int (Int32.ofInt a1)), some (.int (Int32.ofInt a2))]) (st1 := [.int (Int32.ofInt a1), .ref 152]) (H1 := mz_mk g18 x) rfl ?_
            refine mz_ia (v := v17) rfl (sh_152 _) (by omega) (by omega) (by decide) (show g18 152 (a1 : Int).toNat = v17 from hug18.1) ?_
            exact mm_rt rfl rfl (hQ _ _ hIg18 (fun k j hk => ((hug18.2 k j (fun h => hk (Or.inr (Or.inr (Or.inr (Or.inr h.1)))))).trans ((hfg16 k j (fun h => hk (Or.elim h (fun h => (Or.inr (Or.inr (Or.inl h)))) (fun h => (Or.inr (Or.inr (Or.inr (Or.inl h)))))))).trans (hug1.2 k j (fun h => hk (Or.inl h)))))) (by omega) (by omega) (by have h9 := (show g18 137 30 = (g 137 30) from ((hug18.2 137 30 (fun h => absurd h.1 (by decide))).trans ((hfg16 137 30 (fun h => (Or.elim h (fun h => (absurd (show 137 = 156 from h) (by decide))) (fun h => (absurd (show (137 = 137 ∧ 30 = 31) from h) (by decide)))))).trans ((hug1.2 137 30 (fun h => absurd h.2 (by decide))).trans rfl)))); omega))
          · skip
            refine mm_g 2 (pc1 := 60) (lo1 := [some (.ref 137), some (.int (Int32.ofInt a1)), some (.int (Int32.ofInt a2))]) (st1 := [.int (Int32.ofInt 1), .ref 137]) (H1 := mz_mk g1 x) rfl ?_
            refine mz_cv rfl mt_12_403 (by decide) (sc_137 _) rfl (Nat.le_of_ble_eq_true rfl) (by omega) (c_X12_refuse (by omega) hx hIg1 (by decide) (by decide) (fun v19 g20 hIg20 hfg20 l_v19 u_v19 => ⟨_, rfl, ?_⟩))
            show mm_W d mmX12_pull 63 [some (.ref 137), some (.int (Int32.ofInt a1)), some (.int (Int32.ofInt a2))] [.int (Int32.ofInt v19)] (mz_mk g20 x) Q
            exact mm_rt rfl rfl (hQ _ _ hIg20 (fun k j hk => ((hfg20 k j (fun h => hk (Or.inr (Or.inl h)))).trans (hug1.2 k j (fun h => hk (Or.inl h))))) (by omega) (by omega) (by have h9 := (show g20 137 30 = (g 137 30) from ((hfg20 137 30 (fun h => (absurd (show 137 = 150 from h) (by decide)))).trans ((hug1.2 137 30 (fun h => absurd h.2 (by decide))).trans rfl))); omega))
  · skip
    refine mm_g 2 (pc1 := 15) (lo1 := [some (.ref 137), some (.int (Int32.ofInt a1)), some (.int (Int32.ofInt a2))]) (st1 := [.int (Int32.ofInt 1), .ref 137]) (H1 := mz_mk g1 x) rfl ?_
    refine mz_cv rfl mt_12_294 (by decide) (sc_137 _) rfl (Nat.le_of_ble_eq_true rfl) (by omega) (c_X12_fail (by omega) hx hIg1 (by decide) (by decide) (fun v21 g22 hIg22 hfg22 l_v21 u_v21 => ⟨_, rfl, ?_⟩))
    show mm_W d mmX12_pull 18 [some (.ref 137), some (.int (Int32.ofInt a1)), some (.int (Int32.ofInt a2))] [.int (Int32.ofInt v21)] (mz_mk g22 x) Q
    exact mm_rt rfl rfl (hQ _ _ hIg22 (fun k j hk => ((hfg22 k j (fun h => hk (Or.inl h))).trans (hug1.2 k j (fun h => hk (Or.inl h))))) (by omega) (by omega) (by have h9 := (show g22 137 30 = (g 137 30) from ((hfg22 137 30 (fun h => (absurd (show (137 = 137 ∧ 30 = 2) from h) (by decide)))).trans ((hug1.2 137 30 (fun h => absurd h.2 (by decide))).trans rfl))); omega))
