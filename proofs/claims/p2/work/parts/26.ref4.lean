/-! CONTRACTS OF THE REFERENCE, by program (wip/p2/tools/gen25.py) -/
def fw_X12_image (x : mm_X) : Nat → Nat → Prop := fun k j => (k = 137 ∧ j = 2) ∨ (k = 137 ∧ j = 53) ∨ (k = 137 ∧ j = 54) ∨ (k = 137 ∧ j = 55) ∨ k = 173 ∨ k = 174 ∨ k = 175 ∨ k = 176 ∨ k = 177 ∨ k = 178
theorem c_X12_image {d : Nat} (hd : 2 ≤ d) {x : mm_X} (hx : mk_x x) {g : mz_G} (hI : mz_inv g) (p1 : mz_pv g) (p2 : g 137 30 ≤ 999) {Q : (Option Value ⊕ Nat) → mm_H → Prop} (hQ : ∀ (g1 : mz_G), mz_inv g1 → mz_fr (fw_X12_image x) g g1 → (g1 137 30 ≤ 999) → Q (.inl none) (mz_mk g1 x)) : mm_C d 290 [.ref 137] (mz_mk g x) Q := by
  refine ⟨mmX12_image, [some (.ref 137)], rfl, rfl, ?_⟩
  have bz0 := mz_rd hI bd_137_30
  have hpv := p1
  refine mm_g 2 (pc1 := 2) (lo1 := [some (.ref 137)]) (st1 := [.int (Int32.ofInt 0), .ref 137]) (H1 := mz_mk g x) rfl ?_
  refine mz_pI rfl fd_12_154 (sc_137 _) hI bd_137_2 (by omega) (by omega) (fun g1 hIg1 hug1 => ?_)
  refine mm_g 2 (pc1 := 7) (lo1 := [some (.ref 137)]) (st1 := [.int (Int32.ofInt 1), .ref 137]) (H1 := mz_mk g1 x) rfl ?_
  refine mz_pZ rfl fd_12_316 (sc_137 _) (by decide) hIg1 bd_137_53 (by omega) (by omega) (fun g2 hIg2 hug2 => ?_)
  refine mm_g 2 (pc1 := 12) (lo1 := [some (.ref 137)]) (st1 := [.ref 137, .ref 137]) (H1 := mz_mk g2 x) rfl ?_
  refine mz_gI rfl fd_12_310 (by decide) (sc_137 _) hIg2 bd_137_31 (fun v3 e_v3 l_v3 u_v3 => ?_)
  refine mz_pI rfl fd_12_505 (sc_137 _) hIg2 bd_137_54 (by omega) (by omega) (fun g4 hIg4 hug4 => ?_)
  refine mm_g 2 (pc1 := 20) (lo1 := [some (.ref 137)]) (st1 := [.ref 137, .ref 137]) (H1 := mz_mk g4 x) rfl ?_
  refine mz_gI rfl fd_12_313 (by decide) (sc_137 _) hIg4 bd_137_32 (fun v5 e_v5 l_v5 u_v5 => ?_)
  refine mz_pI rfl fd_12_508 (sc_137 _) hIg4 bd_137_55 (by omega) (by omega) (fun g6 hIg6 hug6 => ?_)
  refine mm_g 2 (pc1 := 28) (lo1 := [some (.ref 137)]) (st1 := [.ref 137, .ref 137]) (H1 := mz_mk g6 x) rfl ?_
  refine mz_fgR (v := 173) rfl fd_12_136 (by decide) (sc_137 _) (rf_137_56 _ _ _) ?_
  refine mm_g 1 (pc1 := 32) (lo1 := [some (.ref 137)]) (st1 := [.int (Int32.ofInt 0), .ref 173, .ref 137]) (H1 := mz_mk g6 x) rfl ?_
  refine mz_cv rfl mt_12_397 (by decide) (sc_137 _) rfl (Nat.le_of_ble_eq_true rfl) (by omega) (c_X12_store (by omega) hx hIg6 rwp_173 (by decide) (by decide) (by omega) (by omega) (by have h9 := (show g6 137 30 = (g 137 30) from ((hug6.2 137 30 (fun h => absurd h.2 (by decide))).trans ((hug4.2 137 30 (fun h => absurd h.2 (by decide))).trans ((hug2.2 137 30 (fun h => absurd h.2 (by decide))).trans ((hug1.2 137 30 (fun h => absurd h.2 (by decide))).trans rfl))))); omega) (fun g7 hIg7 hfg7 => ⟨_, rfl, ?_⟩))
  show mm_W d mmX12_image 35 [some (.ref 137)] [] (mz_mk g7 x) Q
  refine mm_g 1 (pc1 := 36) (lo1 := [some (.ref 137)]) (st1 := [.ref 137]) (H1 := mz_mk g7 x) rfl ?_
  refine mz_fgR (v := 174) rfl fd_12_139 (by decide) (sc_137 _) (rf_137_57 _ _ _) ?_
  refine mm_g 1 (pc1 := 40) (lo1 := [some (.ref 137)]) (st1 := [.ref 137, .ref 174]) (H1 := mz_mk g7 x) rfl ?_
  refine mz_fgR (v := 156) rfl fd_12_85 (by decide) (sc_137 _) (rf_137_29 _ _ _) ?_
  refine mz_cs rfl mt_12_511 (by decide) rfl (Nat.le_of_ble_eq_true rfl) (by omega) (c_X12_copyTo (by omega) hx hIg7 (sh_174 _) (by decide) (sh_156 _) (by decide) (fun _ => rfl) (by omega) (fun g8 hIg8 hfg8 => ⟨_, rfl, ?_⟩))
  show mm_W d mmX12_image 46 [some (.ref 137)] [] (mz_mk g8 x) Q
  refine mm_g 1 (pc1 := 47) (lo1 := [some (.ref 137)]) (st1 := [.ref 137]) (H1 := mz_mk g8 x) rfl ?_
  refine mz_fgR (v := 175) rfl fd_12_142 (by decide) (sc_137 _) (rf_137_58 _ _ _) ?_
  refine mm_g 1 (pc1 := 51) (lo1 := [some (.ref 137)]) (st1 := [.ref 137, .ref 175]) (H1 := mz_mk g8 x) rfl ?_
  refine mz_fgR (v := 166) rfl fd_12_115 (by decide) (sc_137 _) (rf_137_44 _ _ _) ?_
  refine mz_cs rfl mt_12_511 (by decide) rfl (Nat.le_of_ble_eq_true rfl) (by omega) (c_X12_copyTo (by omega) hx hIg8 (sh_175 _) (by decide) (sh_166 _) (by decide) (fun _ => rfl) (by omega) (fun g9 hIg9 hfg9 => ⟨_, rfl, ?_⟩))
  show mm_W d mmX12_image 57 [some (.ref 137)] [] (mz_mk g9 x) Q
  refine mm_g 1 (pc1 := 58) (lo1 := [some (.ref 137)]) (st1 := [.ref 137]) (H1 := mz_mk g9 x) rfl ?_
  refine mz_fgR (v := 176) rfl fd_12_145 (by decide) (sc_137 _) (rf_137_59 _ _ _) ?_
  refine mm_g 1 (pc1 := 62) (lo1 := [some (.ref 137)]) (st1 := [.ref 137, .ref 176]) (H1 := mz_mk g9 x) rfl ?_
  refine mz_fgR (v := 167) rfl fd_12_118 (by decide) (sc_137 _) (rf_137_45 _ _ _) ?_
  refine mz_cs rfl mt_12_511 (by decide) rfl (Nat.le_of_ble_eq_true rfl) (by omega) (c_X12_copyTo (by omega) hx hIg9 (sh_176 _) (by decide) (sh_167 _) (by decide) (fun _ => rfl) (by omega) (fun g10 hIg10 hfg10 => ⟨_, rfl, ?_⟩))
  show mm_W d mmX12_image 68 [some (.ref 137)] [] (mz_mk g10 x) Q
  refine mm_g 1 (pc1 := 69) (lo1 := [some (.ref 137)]) (st1 := [.ref 137]) (H1 := mz_mk g10 x) rfl ?_
  refine mz_fgR (v := 177) rfl fd_12_148 (by decide) (sc_137 _) (rf_137_60 _ _ _) ?_
  refine mm_g 1 (pc1 := 73) (lo1 := [some (.ref 137)]) (st1 := [.ref 137, .ref 177]) (H1 := mz_mk g10 x) rfl ?_
  refine mz_fgR (v := 168) rfl fd_12_121 (by decide) (sc_137 _) (rf_137_46 _ _ _) ?_
  refine mz_cs rfl mt_12_511 (by decide) rfl (Nat.le_of_ble_eq_true rfl) (by omega) (c_X12_copyTo (by omega) hx hIg10 (sh_177 _) (by decide) (sh_168 _) (by decide) (fun _ => rfl) (by omega) (fun g11 hIg11 hfg11 => ⟨_, rfl, ?_⟩))
  show mm_W d mmX12_image 79 [some (.ref 137)] [] (mz_mk g11 x) Q
  refine mm_g 1 (pc1 := 80) (lo1 := [some (.ref 137)]) (st1 := [.ref 137]) (H1 := mz_mk g11 x) rfl ?_
  refine mz_fgR (v := 178) rfl fd_12_151 (by decide) (sc_137 _) (rf_137_61 _ _ _) ?_
  refine mm_g 1 (pc1 := 84) (lo1 := [some (.ref 137)]) (st1 := [.ref 137, .ref 178]) (H1 := mz_mk g11 x) rfl ?_
  refine mz_fgR (v := 150) rfl fd_12_66 (by decide) (sc_137 _) (rf_137_13 _ _ _) ?_
  refine mz_cs rfl mt_12_511 (by decide) rfl (Nat.le_of_ble_eq_true rfl) (by omega) (c_X12_copyTo (by omega) hx hIg11 (sh_178 _) (by decide) (sh_150 _) (by decide) (fun _ => rfl) (by omega) (fun g12 hIg12 hfg12 => ⟨_, rfl, ?_⟩))
  show mm_W d mmX12_image 90 [some (.ref 137)] [] (mz_mk g12 x) Q
  exact mm_rt rfl rfl (hQ _ hIg12 (fun k j hk => ((hfg12 k j (fun h => hk (Or.inr (Or.inr (Or.inr (Or.inr (Or.inr (Or.inr (Or.inr (Or.inr (Or.inr h))))))))))).trans ((hfg11 k j (fun h => hk (Or.inr (Or.inr (Or.inr (Or.inr (Or.inr (Or.inr (Or.inr (Or.inr (Or.inl h))))))))))).trans ((hfg10 k j (fun h => hk (Or.inr (Or.inr (Or.inr (Or.inr (Or.inr (Or.inr (Or.inr (Or.inl h)))))))))).trans ((hfg9 k j (fun h => hk (Or.inr (Or.inr (Or.inr (Or.inr (Or.inr (Or.inr (Or.inl h))))))))).trans ((hfg8 k j (fun h => hk (Or.inr (Or.inr (Or.inr (Or.inr (Or.inr (Or.inl h)))))))).trans ((hfg7 k j (fun h => hk (Or.inr (Or.inr (Or.inr (Or.inr (Or.inl h))))))).trans ((hug6.2 k j (fun h => hk (Or.inr (Or.inr (Or.inr (Or.inl h)))))).trans ((hug4.2 k j (fun h => hk (Or.inr (Or.inr (Or.inl h))))).trans ((hug2.2 k j (fun h => hk (Or.inr (Or.inl h)))).trans (hug1.2 k j (fun h => hk (Or.inl h))))))))))))) (by have h9 := (show g12 137 30 = (g 137 30) from ((hfg12 137 30 (fun h => (absurd (show 137 = 178 from h) (by decide)))).trans ((hfg11 137 30 (fun h => (absurd (show 137 = 177 from h) (by decide)))).trans ((hfg10 137 30 (fun h => (absurd (show 137 = 176 from h) (by decide)))).trans ((hfg9 137 30 (fun h => (absurd (show 137 = 175 from h) (by decide)))).trans ((hfg8 137 30 (fun h => (absurd (show 137 = 174 from h) (by decide)))).trans ((hfg7 137 30 (fun h => (absurd (show 137 = 173 from h) (by decide)))).trans ((hug6.2 137 30 (fun h => absurd h.2 (by decide))).trans ((hug4.2 137 30 (fun h => absurd h.2 (by decide))).trans ((hug2.2 137 30 (fun h => absurd h.2 (by decide))).trans ((hug1.2 137 30 (fun h => absurd h.2 (by decide))).trans rfl))))))))))); omega))
def fw_X12_restore (x : mm_X) : Nat → Nat → Prop := fun k j => (k = 137 ∧ j = 2) ∨ (k = 137 ∧ j = 31) ∨ (k = 137 ∧ j = 32) ∨ (k = 137 ∧ j = 30) ∨ k = 152 ∨ k = 153 ∨ k = 154 ∨ k = 155 ∨ k = 156 ∨ k = 166 ∨ k = 167 ∨ k = 168 ∨ k = 150
theorem c_X12_restore {d : Nat} (hd : 2 ≤ d) {x : mm_X} (hx : mk_x x) {g : mz_G} (hI : mz_inv g) (p1 : mz_pv g) (p2 : g 137 30 ≤ 999) {Q : (Option Value ⊕ Nat) → mm_H → Prop} (hQ : ∀ (r : Int) (g1 : mz_G), mz_inv g1 → mz_fr (fw_X12_restore x) g g1 → 0 ≤ r → r ≤ 1 → (g1 137 30 ≤ 999) → Q (.inl (some (.int (Int32.ofInt r)))) (mz_mk g1 x)) : mm_C d 291 [.ref 137] (mz_mk g x) Q := by
  refine ⟨mmX12_restore, [some (.ref 137)], rfl, rfl, ?_⟩
  have bz0 := mz_rd hI bd_137_30
  have hpv := p1
  refine mm_g 2 (pc1 := 2) (lo1 := [some (.ref 137)]) (st1 := [.int (Int32.ofInt 0), .ref 137]) (H1 := mz_mk g x) rfl ?_
  refine mz_pI rfl fd_12_154 (sc_137 _) hI bd_137_2 (by omega) (by omega) (fun g1 hIg1 hug1 => ?_)
  refine mm_g 1 (pc1 := 6) (lo1 := [some (.ref 137)]) (st1 := [.ref 137]) (H1 := mz_mk g1 x) rfl ?_
  refine mz_gI rfl fd_12_316 (by decide) (sc_137 _) hIg1 bd_137_53 (fun v2 e_v2 l_v2 u_v2 => ?_)
  refine mz_if_ne (tgt := 14) rfl rfl (mz_rg l_v2 u_v2) (fun c9_2 => ?_) (fun c9_2 => ?_)
  · skip
    refine mm_g 2 (pc1 := 16) (lo1 := [some (.ref 137)]) (st1 := [.ref 137, .ref 137]) (H1 := mz_mk g1 x) rfl ?_
    refine mz_gI rfl fd_12_505 (by decide) (sc_137 _) hIg1 bd_137_54 (fun v3 e_v3 l_v3 u_v3 => ?_)
    refine mz_pI rfl fd_12_310 (sc_137 _) hIg1 bd_137_31 (by omega) (by omega) (fun g4 hIg4 hug4 => ?_)
    refine mm_g 2 (pc1 := 24) (lo1 := [some (.ref 137)]) (st1 := [.ref 137, .ref 137]) (H1 := mz_mk g4 x) rfl ?_
    refine mz_gI rfl fd_12_508 (by decide) (sc_137 _) hIg4 bd_137_55 (fun v5 e_v5 l_v5 u_v5 => ?_)
    refine mz_pI rfl fd_12_313 (sc_137 _) hIg4 bd_137_32 (by omega) (by omega) (fun g6 hIg6 hug6 => ?_)
    refine mm_g 2 (pc1 := 32) (lo1 := [some (.ref 137)]) (st1 := [.ref 137, .ref 137]) (H1 := mz_mk g6 x) rfl ?_
    refine mz_fgR (v := 173) rfl fd_12_136 (by decide) (sc_137 _) (rf_137_56 _ _ _) ?_
    refine mm_g 1 (pc1 := 36) (lo1 := [some (.ref 137)]) (st1 := [.int (Int32.ofInt 0), .ref 173, .ref 137]) (H1 := mz_mk g6 x) rfl ?_
    refine mz_cv rfl mt_12_421 (by decide) (sc_137 _) rfl (Nat.le_of_ble_eq_true rfl) (by omega) (c_X12_recall (by omega) hx hIg6 rwp_173 (by decide) (by decide) (by omega) (by omega) (fun g7 hIg7 hfg7 hp8 => ⟨_, rfl, ?_⟩))
    show mm_W d mmX12_restore 39 [some (.ref 137)] [] (mz_mk g7 x) Q
    refine mm_g 1 (pc1 := 40) (lo1 := [some (.ref 137)]) (st1 := [.ref 137]) (H1 := mz_mk g7 x) rfl ?_
    refine mz_fgR (v := 156) rfl fd_12_85 (by decide) (sc_137 _) (rf_137_29 _ _ _) ?_
    refine mm_g 1 (pc1 := 44) (lo1 := [some (.ref 137)]) (st1 := [.ref 137, .ref 156]) (H1 := mz_mk g7 x) rfl ?_
    refine mz_fgR (v := 174) rfl fd_12_139 (by decide) (sc_137 _) (rf_137_57 _ _ _) ?_
    refine mz_cs rfl mt_12_511 (by decide) rfl (Nat.le_of_ble_eq_true rfl) (by omega) (c_X12_copyTo (by omega) hx hIg7 (sh_156 _) (by decide) (sh_174 _) (by decide) (fun _ => rfl) (by omega) (fun g9 hIg9 hfg9 => ⟨_, rfl, ?_⟩))
    show mm_W d mmX12_restore 50 [some (.ref 137)] [] (mz_mk g9 x) Q
    refine mm_g 1 (pc1 := 51) (lo1 := [some (.ref 137)]) (st1 := [.ref 137]) (H1 := mz_mk g9 x) rfl ?_
    refine mz_fgR (v := 166) rfl fd_12_115 (by decide) (sc_137 _) (rf_137_44 _ _ _) ?_
    refine mm_g 1 (pc1 := 55) (lo1 := [some (.ref 137)]) (st1 := [.ref 137, .ref 166]) (H1 := mz_mk g9 x) rfl ?_
    refine mz_fgR (v := 175) rfl fd_12_142 (by decide) (sc_137 _) (rf_137_58 _ _ _) ?_
    refine mz_cs rfl mt_12_511 (by decide) rfl (Nat.le_of_ble_eq_true rfl) (by omega) (c_X12_copyTo (by omega) hx hIg9 (sh_166 _) (by decide) (sh_175 _) (by decide) (fun _ => rfl) (by omega) (fun g10 hIg10 hfg10 => ⟨_, rfl, ?_⟩))
    show mm_W d mmX12_restore 61 [some (.ref 137)] [] (mz_mk g10 x) Q
    refine mm_g 1 (pc1 := 62) (lo1 := [some (.ref 137)]) (st1 := [.ref 137]) (H1 := mz_mk g10 x) rfl ?_
    refine mz_fgR (v := 167) rfl fd_12_118 (by decide) (sc_137 _) (rf_137_45 _ _ _) ?_
    refine mm_g 1 (pc1 := 66) (lo1 := [some (.ref 137)]) (st1 := [.ref 137, .ref 167]) (H1 := mz_mk g10 x) rfl ?_
    refine mz_fgR (v := 176) rfl fd_12_145 (by decide) (sc_137 _) (rf_137_59 _ _ _) ?_
    refine mz_cs rfl mt_12_511 (by decide) rfl (Nat.le_of_ble_eq_true rfl) (by omega) (c_X12_copyTo (by omega) hx hIg10 (sh_167 _) (by decide) (sh_176 _) (by decide) (fun _ => rfl) (by omega) (fun g11 hIg11 hfg11 => ⟨_, rfl, ?_⟩))
    show mm_W d mmX12_restore 72 [some (.ref 137)] [] (mz_mk g11 x) Q
    refine mm_g 1 (pc1 := 73) (lo1 := [some (.ref 137)]) (st1 := [.ref 137]) (H1 := mz_mk g11 x) rfl ?_
    refine mz_fgR (v := 168) rfl fd_12_121 (by decide) (sc_137 _) (rf_137_46 _ _ _) ?_
    refine mm_g 1 (pc1 := 77) (lo1 := [some (.ref 137)]) (st1 := [.ref 137, .ref 168]) (H1 := mz_mk g11 x) rfl ?_
    refine mz_fgR (v := 177) rfl fd_12_148 (by decide) (sc_137 _) (rf_137_60 _ _ _) ?_
    refine mz_cs rfl mt_12_511 (by decide) rfl (Nat.le_of_ble_eq_true rfl) (by omega) (c_X12_copyTo (by omega) hx hIg11 (sh_168 _) (by decide) (sh_177 _) (by decide) (fun _ => rfl) (by omega) (fun g12 hIg12 hfg12 => ⟨_, rfl, ?_⟩))
    show mm_W d mmX12_restore 83 [some (.ref 137)] [] (mz_mk g12 x) Q
    refine mm_g 1 (pc1 := 84) (lo1 := [some (.ref 137)]) (st1 := [.ref 137]) (H1 := mz_mk g12 x) rfl ?_
    refine mz_fgR (v := 150) rfl fd_12_66 (by decide) (sc_137 _) (rf_137_13 _ _ _) ?_
    refine mm_g 1 (pc1 := 88) (lo1 := [some (.ref 137)]) (st1 := [.ref 137, .ref 150]) (H1 := mz_mk g12 x) rfl ?_
    refine mz_fgR (v := 178) rfl fd_12_151 (by decide) (sc_137 _) (rf_137_61 _ _ _) ?_
    refine mz_cs rfl mt_12_511 (by decide) rfl (Nat.le_of_ble_eq_true rfl) (by omega) (c_X12_copyTo (by omega) hx hIg12 (sh_150 _) (by decide) (sh_178 _) (by decide) (fun _ => rfl) (by omega) (fun g13 hIg13 hfg13 => ⟨_, rfl, ?_⟩))
    show mm_W d mmX12_restore 94 [some (.ref 137)] [] (mz_mk g13 x) Q
    refine mm_g 1 (pc1 := 95) (lo1 := [some (.ref 137)]) (st1 := [.int (Int32.ofInt 1)]) (H1 := mz_mk g13 x) rfl ?_
    exact mz_rtZ rfl (by decide) (by omega) (hQ _ _ hIg13 (fun k j hk => ((hfg13 k j (fun h => hk (Or.inr (Or.inr (Or.inr (Or.inr (Or.inr (Or.inr (Or.inr (Or.inr (Or.inr (Or.inr (Or.inr (Or.inr h)))))))))))))).trans ((hfg12 k j (fun h => hk (Or.inr (Or.inr (Or.inr (Or.inr (Or.inr (Or.inr (Or.inr (Or.inr (Or.inr (Or.inr (Or.inr (Or.inl h)))))))))))))).trans ((hfg11 k j (fun h => hk (Or.inr (Or.inr (Or.inr (Or.inr (Or.inr (Or.inr (Or.inr (Or.inr (Or.inr (Or.inr (Or.inl h))))))))))))).trans ((hfg10 k j (fun h => hk (Or.inr (Or.inr (Or.inr (Or.inr (Or.inr (Or.inr (Or.inr (Or.inr (Or.inr (Or.inl h)))))))))))).trans ((hfg9 k j (fun h => hk (Or.inr (Or.inr (Or.inr (Or.inr (Or.inr (Or.inr (Or.inr (Or.inr (Or.inl h))))))))))).trans ((hfg7 k j (fun h => hk (Or.elim h (fun h => (Or.inr (Or.inr (Or.inr (Or.inl h))))) (fun h => (Or.elim h (fun h => (Or.inr (Or.inr (Or.inr (Or.inr (Or.inl h)))))) (fun h => (Or.elim h (fun h => (Or.inr (Or.inr (Or.inr (Or.inr (Or.inr (Or.inl h))))))) (fun h => (Or.elim h (fun h => (Or.inr (Or.inr (Or.inr (Or.inr (Or.inr (Or.inr (Or.inl h)))))))) (fun h => (Or.inr (Or.inr (Or.inr (Or.inr (Or.inr (Or.inr (Or.inr (Or.inl h)))))))))))))))))).trans ((hug6.2 k j (fun h => hk (Or.inr (Or.inr (Or.inl h))))).trans ((hug4.2 k j (fun h => hk (Or.inr (Or.inl h)))).trans (hug1.2 k j (fun h => hk (Or.inl h)))))))))))) (by decide) (by decide) (by have h9 := (show g13 137 30 = (g7 137 30) from ((hfg13 137 30 (fun h => (absurd (show 137 = 150 from h) (by decide)))).trans ((hfg12 137 30 (fun h => (absurd (show 137 = 168 from h) (by decide)))).trans ((hfg11 137 30 (fun h => (absurd (show 137 = 167 from h) (by decide)))).trans ((hfg10 137 30 (fun h => (absurd (show 137 = 166 from h) (by decide)))).trans ((hfg9 137 30 (fun h => (absurd (show 137 = 156 from h) (by decide)))).trans rfl)))))); omega))
  · skip
    refine mm_g 1 (pc1 := 13) (lo1 := [some (.ref 137)]) (st1 := [.int (Int32.ofInt 0)]) (H1 := mz_mk g1 x) rfl ?_
    exact mz_rtZ rfl (by decide) (by omega) (hQ _ _ hIg1 (fun k j hk => (hug1.2 k j (fun h => hk (Or.inl h)))) (by decide) (by decide) (by have h9 := (show g1 137 30 = (g 137 30) from ((hug1.2 137 30 (fun h => absurd h.2 (by decide))).trans rfl)); omega))
