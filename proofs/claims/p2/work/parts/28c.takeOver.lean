theorem mt_12_303 : mm_tab mm_mthT 12 303 = some (0, 215, 1, 0, 12) := rfl
/-! CONTRACTS OF THE REFERENCE, by program (wip/p2/tools/gen25.py) -/
def fl_X12_takeOver_77 (x : mm_X) : Nat → Nat → Prop := fun k j => k = 152 ∨ k = 153 ∨ k = 154 ∨ k = 155
def fw_X12_takeOver (x : mm_X) : Nat → Nat → Prop := fun k j => k = 140 ∨ k = 141 ∨ k = 142 ∨ k = 143 ∨ k = 144 ∨ k = 145 ∨ k = 146 ∨ k = 147 ∨ k = 148 ∨ k = 149 ∨ (k = 137 ∧ j = 30) ∨ k = 152 ∨ k = 153 ∨ k = 154 ∨ k = 155 ∨ (k = 137 ∧ j = 31) ∨ (k = 137 ∧ j = 32) ∨ (k = 137 ∧ j = 53)
set_option maxHeartbeats 20000000 in
theorem c_X12_takeOver {d : Nat} (hd : 2 ≤ d) {x : mm_X} (hx : mk_x x) {g : mz_G} (hI : mz_inv g) (p1 : mz_L1 g) (p2 : mz_L2 g) (p3 : 0 < g 140 5 → 0 < g 140 4) (p4 : mz_SG g 0 (g 140 7) 31 ∨ g 140 7 = 0) {Q : (Option Value ⊕ Nat) → mm_H → Prop} (hQ : ∀ (g1 : mz_G), mz_inv g1 → mz_fr (fw_X12_takeOver x) g g1 → (mz_pv g1) → (g1 137 30 = 0) → (0 < g1 140 1 → 0 < g1 140 0) → (∀ j : Nat, (j : Int) < g1 140 0 → 1 ≤ g1 142 j) → Q (.inl none) (mz_mk g1 x)) : mm_C d 216 [.ref 137] (mz_mk g x) Q := by
  refine ⟨mmX12_takeOver, [some (.ref 137), none, none], rfl, rfl, ?_⟩
  have bz0 := mz_rd hI bt_140_4
  have bz1 := mz_rd hI bt_140_5
  have bz2 := mz_rd hI bt_140_6
  have bz3 := mz_rd hI bt_140_7
  refine mm_g 1 (pc1 := 1) (lo1 := [some (.ref 137), none, none]) (st1 := [.ref 137]) (H1 := mz_mk g x) rfl ?_
  refine mz_fgR (v := 140) rfl fd_12_36 (by decide) (sc_137 _) (rf_137_3 _ _ _) ?_
  refine mz_cs rfl mt_12_303 (by decide) rfl (Nat.le_of_ble_eq_true rfl) (by omega) (c_X12_takeHalf (by omega) hx hI (sh_140 _) (by decide) tkb_140 (fun g1 hIg1 hfg1 hp2 => ⟨_, rfl, ?_⟩))
  show mm_W d mmX12_takeOver 7 [some (.ref 137), none, none] [] (mz_mk g1 x) Q
  refine mm_g 1 (pc1 := 8) (lo1 := [some (.ref 137), none, none]) (st1 := [.ref 137]) (H1 := mz_mk g1 x) rfl ?_
  refine mz_fgR (v := 141) rfl fd_12_40 (by decide) (sc_137 _) (rf_137_4 _ _ _) ?_
  refine mz_cs rfl mt_12_303 (by decide) rfl (Nat.le_of_ble_eq_true rfl) (by omega) (c_X12_takeHalf (by omega) hx hIg1 (sh_141 _) (by decide) tkb_141 (fun g3 hIg3 hfg3 hp4 => ⟨_, rfl, ?_⟩))
  show mm_W d mmX12_takeOver 14 [some (.ref 137), none, none] [] (mz_mk g3 x) Q
  refine mm_g 1 (pc1 := 15) (lo1 := [some (.ref 137), none, none]) (st1 := [.ref 137]) (H1 := mz_mk g3 x) rfl ?_
  refine mz_fgR (v := 142) rfl fd_12_43 (by decide) (sc_137 _) (rf_137_5 _ _ _) ?_
  refine mz_cs rfl mt_12_303 (by decide) rfl (Nat.le_of_ble_eq_true rfl) (by omega) (c_X12_takeHalf (by omega) hx hIg3 (sh_142 _) (by decide) tkb_142 (fun g5 hIg5 hfg5 hp6 => ⟨_, rfl, ?_⟩))
  show mm_W d mmX12_takeOver 21 [some (.ref 137), none, none] [] (mz_mk g5 x) Q
  refine mm_g 1 (pc1 := 22) (lo1 := [some (.ref 137), none, none]) (st1 := [.ref 137]) (H1 := mz_mk g5 x) rfl ?_
  refine mz_fgR (v := 143) rfl fd_12_46 (by decide) (sc_137 _) (rf_137_6 _ _ _) ?_
  refine mz_cs rfl mt_12_303 (by decide) rfl (Nat.le_of_ble_eq_true rfl) (by omega) (c_X12_takeHalf (by omega) hx hIg5 (sh_143 _) (by decide) tkb_143 (fun g7 hIg7 hfg7 hp8 => ⟨_, rfl, ?_⟩))
  show mm_W d mmX12_takeOver 28 [some (.ref 137), none, none] [] (mz_mk g7 x) Q
  refine mm_g 1 (pc1 := 29) (lo1 := [some (.ref 137), none, none]) (st1 := [.ref 137]) (H1 := mz_mk g7 x) rfl ?_
  refine mz_fgR (v := 144) rfl fd_12_49 (by decide) (sc_137 _) (rf_137_7 _ _ _) ?_
  refine mz_cs rfl mt_12_303 (by decide) rfl (Nat.le_of_ble_eq_true rfl) (by omega) (c_X12_takeHalf (by omega) hx hIg7 (sh_144 _) (by decide) tkb_144 (fun g9 hIg9 hfg9 hp10 => ⟨_, rfl, ?_⟩))
  show mm_W d mmX12_takeOver 35 [some (.ref 137), none, none] [] (mz_mk g9 x) Q
  refine mm_g 1 (pc1 := 36) (lo1 := [some (.ref 137), none, none]) (st1 := [.ref 137]) (H1 := mz_mk g9 x) rfl ?_
  refine mz_fgR (v := 145) rfl fd_12_51 (by decide) (sc_137 _) (rf_137_8 _ _ _) ?_
  refine mz_cs rfl mt_12_303 (by decide) rfl (Nat.le_of_ble_eq_true rfl) (by omega) (c_X12_takeHalf (by omega) hx hIg9 (sh_145 _) (by decide) tkb_145 (fun g11 hIg11 hfg11 hp12 => ⟨_, rfl, ?_⟩))
  show mm_W d mmX12_takeOver 42 [some (.ref 137), none, none] [] (mz_mk g11 x) Q
  refine mm_g 1 (pc1 := 43) (lo1 := [some (.ref 137), none, none]) (st1 := [.ref 137]) (H1 := mz_mk g11 x) rfl ?_
  refine mz_fgR (v := 146) rfl fd_12_54 (by decide) (sc_137 _) (rf_137_9 _ _ _) ?_
  refine mz_cs rfl mt_12_303 (by decide) rfl (Nat.le_of_ble_eq_true rfl) (by omega) (c_X12_takeHalf (by omega) hx hIg11 (sh_146 _) (by decide) tkb_146 (fun g13 hIg13 hfg13 hp14 => ⟨_, rfl, ?_⟩))
  show mm_W d mmX12_takeOver 49 [some (.ref 137), none, none] [] (mz_mk g13 x) Q
  refine mm_g 1 (pc1 := 50) (lo1 := [some (.ref 137), none, none]) (st1 := [.ref 137]) (H1 := mz_mk g13 x) rfl ?_
  refine mz_fgR (v := 147) rfl fd_12_57 (by decide) (sc_137 _) (rf_137_10 _ _ _) ?_
  refine mz_cs rfl mt_12_303 (by decide) rfl (Nat.le_of_ble_eq_true rfl) (by omega) (c_X12_takeHalf (by omega) hx hIg13 (sh_147 _) (by decide) tkb_147 (fun g15 hIg15 hfg15 hp16 => ⟨_, rfl, ?_⟩))
  show mm_W d mmX12_takeOver 56 [some (.ref 137), none, none] [] (mz_mk g15 x) Q
  refine mm_g 1 (pc1 := 57) (lo1 := [some (.ref 137), none, none]) (st1 := [.ref 137]) (H1 := mz_mk g15 x) rfl ?_
  refine mz_fgR (v := 148) rfl fd_12_60 (by decide) (sc_137 _) (rf_137_11 _ _ _) ?_
  refine mz_cs rfl mt_12_303 (by decide) rfl (Nat.le_of_ble_eq_true rfl) (by omega) (c_X12_takeHalf (by omega) hx hIg15 (sh_148 _) (by decide) tkb_148 (fun g17 hIg17 hfg17 hp18 => ⟨_, rfl, ?_⟩))
  show mm_W d mmX12_takeOver 63 [some (.ref 137), none, none] [] (mz_mk g17 x) Q
  refine mm_g 1 (pc1 := 64) (lo1 := [some (.ref 137), none, none]) (st1 := [.ref 137]) (H1 := mz_mk g17 x) rfl ?_
  refine mz_fgR (v := 149) rfl fd_12_63 (by decide) (sc_137 _) (rf_137_12 _ _ _) ?_
  refine mz_cs rfl mt_12_303 (by decide) rfl (Nat.le_of_ble_eq_true rfl) (by omega) (c_X12_takeHalf (by omega) hx hIg17 (sh_149 _) (by decide) tkb_149 (fun g19 hIg19 hfg19 hp20 => ⟨_, rfl, ?_⟩))
  show mm_W d mmX12_takeOver 70 [some (.ref 137), none, none] [] (mz_mk g19 x) Q
  have tk_140 : ∀ j : Nat, j < 4 → g19 140 j = g 140 (4 + j) := fun j hj => (((hfg19 140 j (fun h => (absurd (show 140 = 149 from h) (by decide)))).trans ((hfg17 140 j (fun h => (absurd (show 140 = 148 from h) (by decide)))).trans ((hfg15 140 j (fun h => (absurd (show 140 = 147 from h) (by decide)))).trans ((hfg13 140 j (fun h => (absurd (show 140 = 146 from h) (by decide)))).trans ((hfg11 140 j (fun h => (absurd (show 140 = 145 from h) (by decide)))).trans ((hfg9 140 j (fun h => (absurd (show 140 = 144 from h) (by decide)))).trans ((hfg7 140 j (fun h => (absurd (show 140 = 143 from h) (by decide)))).trans ((hfg5 140 j (fun h => (absurd (show 140 = 142 from h) (by decide)))).trans (hfg3 140 j (fun h => (absurd (show 140 = 141 from h) (by decide)))))))))))).trans (hp2 j hj))
  have tk_142 : ∀ j : Nat, j < 8 → g19 142 j = g 142 (8 + j) := fun j hj => ((((hfg19 142 j (fun h => (absurd (show 142 = 149 from h) (by decide)))).trans ((hfg17 142 j (fun h => (absurd (show 142 = 148 from h) (by decide)))).trans ((hfg15 142 j (fun h => (absurd (show 142 = 147 from h) (by decide)))).trans ((hfg13 142 j (fun h => (absurd (show 142 = 146 from h) (by decide)))).trans ((hfg11 142 j (fun h => (absurd (show 142 = 145 from h) (by decide)))).trans ((hfg9 142 j (fun h => (absurd (show 142 = 144 from h) (by decide)))).trans (hfg7 142 j (fun h => (absurd (show 142 = 143 from h) (by decide)))))))))).trans (hp6 j hj)).trans ((hfg3 142 (8 + j) (fun h => (absurd (show 142 = 141 from h) (by decide)))).trans (hfg1 142 (8 + j) (fun h => (absurd (show 142 = 140 from h) (by decide))))))
  have tk_145 : ∀ j : Nat, j < 6 → g19 145 j = g 145 (6 + j) := fun j hj => ((((hfg19 145 j (fun h => (absurd (show 145 = 149 from h) (by decide)))).trans ((hfg17 145 j (fun h => (absurd (show 145 = 148 from h) (by decide)))).trans ((hfg15 145 j (fun h => (absurd (show 145 = 147 from h) (by decide)))).trans (hfg13 145 j (fun h => (absurd (show 145 = 146 from h) (by decide))))))).trans (hp12 j hj)).trans ((hfg9 145 (6 + j) (fun h => (absurd (show 145 = 144 from h) (by decide)))).trans ((hfg7 145 (6 + j) (fun h => (absurd (show 145 = 143 from h) (by decide)))).trans ((hfg5 145 (6 + j) (fun h => (absurd (show 145 = 142 from h) (by decide)))).trans ((hfg3 145 (6 + j) (fun h => (absurd (show 145 = 141 from h) (by decide)))).trans (hfg1 145 (6 + j) (fun h => (absurd (show 145 = 140 from h) (by decide)))))))))
  have tk_146 : ∀ j : Nat, j < 6 → g19 146 j = g 146 (6 + j) := fun j hj => ((((hfg19 146 j (fun h => (absurd (show 146 = 149 from h) (by decide)))).trans ((hfg17 146 j (fun h => (absurd (show 146 = 148 from h) (by decide)))).trans (hfg15 146 j (fun h => (absurd (show 146 = 147 from h) (by decide)))))).trans (hp14 j hj)).trans ((hfg11 146 (6 + j) (fun h => (absurd (show 146 = 145 from h) (by decide)))).trans ((hfg9 146 (6 + j) (fun h => (absurd (show 146 = 144 from h) (by decide)))).trans ((hfg7 146 (6 + j) (fun h => (absurd (show 146 = 143 from h) (by decide)))).trans ((hfg5 146 (6 + j) (fun h => (absurd (show 146 = 142 from h) (by decide)))).trans ((hfg3 146 (6 + j) (fun h => (absurd (show 146 = 141 from h) (by decide)))).trans (hfg1 146 (6 + j) (fun h => (absurd (show 146 = 140 from h) (by decide))))))))))
  have tk_149 : ∀ j : Nat, j < 700 → g19 149 j = g 149 (700 + j) := fun j hj => ((hp20 j hj).trans ((hfg17 149 (700 + j) (fun h => (absurd (show 149 = 148 from h) (by decide)))).trans ((hfg15 149 (700 + j) (fun h => (absurd (show 149 = 147 from h) (by decide)))).trans ((hfg13 149 (700 + j) (fun h => (absurd (show 149 = 146 from h) (by decide)))).trans ((hfg11 149 (700 + j) (fun h => (absurd (show 149 = 145 from h) (by decide)))).trans ((hfg9 149 (700 + j) (fun h => (absurd (show 149 = 144 from h) (by decide)))).trans ((hfg7 149 (700 + j) (fun h => (absurd (show 149 = 143 from h) (by decide)))).trans ((hfg5 149 (700 + j) (fun h => (absurd (show 149 = 142 from h) (by decide)))).trans ((hfg3 149 (700 + j) (fun h => (absurd (show 149 = 141 from h) (by decide)))).trans (hfg1 149 (700 + j) (fun h => (absurd (show 149 = 140 from h) (by decide)))))))))))))
  refine mm_g 2 (pc1 := 72) (lo1 := [some (.ref 137), none, none]) (st1 := [.int (Int32.ofInt 0), .ref 137]) (H1 := mz_mk g19 x) rfl ?_
  refine mz_pI rfl fd_12_307 (sc_137 _) hIg19 bd_137_30 (by omega) (by omega) (fun g21 hIg21 hug21 => ?_)
  refine mm_g 2 (pc1 := 77) (lo1 := [some (.ref 137), some (.int (Int32.ofInt 0)), none]) (st1 := []) (H1 := mz_mk g21 x) rfl ?_
  have L27 : ∀ n26 : Nat, ∀ (v22 : Int) (o23 : Option Value) (g24 : mz_G), (6 - v22).toNat = n26 → 0 ≤ v22 → v22 ≤ 6 → mz_nl o23 → mz_inv g24 → mz_fr (fl_X12_takeOver_77 x) g21 g24 → mm_W d mmX12_takeOver 77 [some (.ref 137), some (.int (Int32.ofInt v22)), o23] [] (mz_mk g24 x) Q := by
    intro n26
    induction n26 using Nat.strongRecOn with
    | ind n26 ih25 =>
    intro v22 o23 g24 hmn26 l_v22 u_v22 h_o23 hIg24 hfg24
    refine mm_g 1 (pc1 := 78) (lo1 := [some (.ref 137), some (.int (Int32.ofInt v22)), o23]) (st1 := [.int (Int32.ofInt v22)]) (H1 := mz_mk g24 x) rfl ?_
    refine mz_bip rfl bip_6 ?_
    refine mz_ic_ge (tgt := 172) rfl rfl (mz_rg l_v22 u_v22) ⟨by decide, by decide⟩ (fun c80_27 => ?_) (fun c80_27 => ?_)
    · skip
      refine mm_g 2 (pc1 := 174) (lo1 := [some (.ref 137), some (.int (Int32.ofInt v22)), o23]) (st1 := [.int (Int32.ofInt 0), .ref 137]) (H1 := mz_mk g24 x) rfl ?_
      refine mz_pI rfl fd_12_310 (sc_137 _) hIg24 bd_137_31 (by omega) (by omega) (fun g28 hIg28 hug28 => ?_)
      refine mm_g 2 (pc1 := 179) (lo1 := [some (.ref 137), some (.int (Int32.ofInt v22)), o23]) (st1 := [.int (Int32.ofInt 0), .ref 137]) (H1 := mz_mk g28 x) rfl ?_
      refine mz_pI rfl fd_12_313 (sc_137 _) hIg28 bd_137_32 (by omega) (by omega) (fun g29 hIg29 hug29 => ?_)
      refine mm_g 2 (pc1 := 184) (lo1 := [some (.ref 137), some (.int (Int32.ofInt v22)), o23]) (st1 := [.int (Int32.ofInt 0), .ref 137]) (H1 := mz_mk g29 x) rfl ?_
      refine mz_pZ rfl fd_12_316 (sc_137 _) (by decide) hIg29 bd_137_53 (by omega) (by omega) (fun g30 hIg30 hug30 => ?_)
      exact mm_rt rfl rfl (hQ _ hIg30 (fun k j hk => ((hug30.2 k j (fun h => hk (Or.inr (Or.inr (Or.inr (Or.inr (Or.inr (Or.inr (Or.inr (Or.inr (Or.inr (Or.inr (Or.inr (Or.inr (Or.inr (Or.inr (Or.inr (Or.inr (Or.inr h))))))))))))))))))).trans ((hug29.2 k j (fun h => hk (Or.inr (Or.inr (Or.inr (Or.inr (Or.inr (Or.inr (Or.inr (Or.inr (Or.inr (Or.inr (Or.inr (Or.inr (Or.inr (Or.inr (Or.inr (Or.inr (Or.inl h))))))))))))))))))).trans ((hug28.2 k j (fun h => hk (Or.inr (Or.inr (Or.inr (Or.inr (Or.inr (Or.inr (Or.inr (Or.inr (Or.inr (Or.inr (Or.inr (Or.inr (Or.inr (Or.inr (Or.inr (Or.inl h)))))))))))))))))).trans ((hfg24 k j (fun h => hk (Or.elim h (fun h => (Or.inr (Or.inr (Or.inr (Or.inr (Or.inr (Or.inr (Or.inr (Or.inr (Or.inr (Or.inr (Or.inr (Or.inl h))))))))))))) (fun h => (Or.elim h (fun h => (Or.inr (Or.inr (Or.inr (Or.inr (Or.inr (Or.inr (Or.inr (Or.inr (Or.inr (Or.inr (Or.inr (Or.inr (Or.inl h)))))))))))))) (fun h => (Or.elim h (fun h => (Or.inr (Or.inr (Or.inr (Or.inr (Or.inr (Or.inr (Or.inr (Or.inr (Or.inr (Or.inr (Or.inr (Or.inr (Or.inr (Or.inl h))))))))))))))) (fun h => (Or.inr (Or.inr (Or.inr (Or.inr (Or.inr (Or.inr (Or.inr (Or.inr (Or.inr (Or.inr (Or.inr (Or.inr (Or.inr (Or.inr (Or.inl h))))))))))))))))))))))).trans ((hug21.2 k j (fun h => hk (Or.inr (Or.inr (Or.inr (Or.inr (Or.inr (Or.inr (Or.inr (Or.inr (Or.inr (Or.inr (Or.inl h))))))))))))).trans ((hfg19 k j (fun h => hk (Or.inr (Or.inr (Or.inr (Or.inr (Or.inr (Or.inr (Or.inr (Or.inr (Or.inr (Or.inl h)))))))))))).trans ((hfg17 k j (fun h => hk (Or.inr (Or.inr (Or.inr (Or.inr (Or.inr (Or.inr (Or.inr (Or.inr (Or.inl h))))))))))).trans ((hfg15 k j (fun h => hk (Or.inr (Or.inr (Or.inr (Or.inr (Or.inr (Or.inr (Or.inr (Or.inl h)))))))))).trans ((hfg13 k j (fun h => hk (Or.inr (Or.inr (Or.inr (Or.inr (Or.inr (Or.inr (Or.inl h))))))))).trans ((hfg11 k j (fun h => hk (Or.inr (Or.inr (Or.inr (Or.inr (Or.inr (Or.inl h)))))))).trans ((hfg9 k j (fun h => hk (Or.inr (Or.inr (Or.inr (Or.inr (Or.inl h))))))).trans ((hfg7 k j (fun h => hk (Or.inr (Or.inr (Or.inr (Or.inl h)))))).trans ((hfg5 k j (fun h => hk (Or.inr (Or.inr (Or.inl h))))).trans ((hfg3 k j (fun h => hk (Or.inr (Or.inl h)))).trans (hfg1 k j (fun h => hk (Or.inl h)))))))))))))))))) (mz_pv_seg (g0 := g) (((hug30.2 140 3 (fun h => absurd h.1 (by decide))).trans ((hug29.2 140 3 (fun h => absurd h.1 (by decide))).trans ((hug28.2 140 3 (fun h => absurd h.1 (by decide))).trans ((hfg24 140 3 (fun h => (Or.elim h (fun h => (absurd (show 140 = 152 from h) (by decide))) (fun h => (Or.elim h (fun h => (absurd (show 140 = 153 from h) (by decide))) (fun h => (Or.elim h (fun h => (absurd (show 140 = 154 from h) (by decide))) (fun h => (absurd (show 140 = 155 from h) (by decide)))))))))).trans (hug21.2 140 3 (fun h => absurd h.1 (by decide))))))).trans (tk_140 3 (by decide))) (fun j hj => (((hug30.2 149 j (fun h => absurd h.1 (by decide))).trans ((hug29.2 149 j (fun h => absurd h.1 (by decide))).trans ((hug28.2 149 j (fun h => absurd h.1 (by decide))).trans ((hfg24 149 j (fun h => (Or.elim h (fun h => (absurd (show 149 = 152 from h) (by decide))) (fun h => (Or.elim h (fun h => (absurd (show 149 = 153 from h) (by decide))) (fun h => (Or.elim h (fun h => (absurd (show 149 = 154 from h) (by decide))) (fun h => (absurd (show 149 = 155 from h) (by decide)))))))))).trans (hug21.2 149 j (fun h => absurd h.1 (by decide))))))).trans (tk_149 j hj))) (by omega) p4) (show g30 137 30 = 0 from ((hug30.2 137 30 (fun h => absurd h.2 (by decide))).trans ((hug29.2 137 30 (fun h => absurd h.2 (by decide))).trans ((hug28.2 137 30 (fun h => absurd h.2 (by decide))).trans ((hfg24 137 30 (fun h => (Or.elim h (fun h => (absurd (show 137 = 152 from h) (by decide))) (fun h => (Or.elim h (fun h => (absurd (show 137 = 153 from h) (by decide))) (fun h => (Or.elim h (fun h => (absurd (show 137 = 154 from h) (by decide))) (fun h => (absurd (show 137 = 155 from h) (by decide)))))))))).trans hug21.1))))) (by rw [(((hug30.2 140 1 (fun h => absurd h.1 (by decide))).trans ((hug29.2 140 1 (fun h => absurd h.1 (by decide))).trans ((hug28.2 140 1 (fun h => absurd h.1 (by decide))).trans ((hfg24 140 1 (fun h => (Or.elim h (fun h => (absurd (show 140 = 152 from h) (by decide))) (fun h => (Or.elim h (fun h => (absurd (show 140 = 153 from h) (by decide))) (fun h => (Or.elim h (fun h => (absurd (show 140 = 154 from h) (by decide))) (fun h => (absurd (show 140 = 155 from h) (by decide)))))))))).trans (hug21.2 140 1 (fun h => absurd h.1 (by decide))))))).trans (tk_140 1 (by decide))), (((hug30.2 140 0 (fun h => absurd h.1 (by decide))).trans ((hug29.2 140 0 (fun h => absurd h.1 (by decide))).trans ((hug28.2 140 0 (fun h => absurd h.1 (by decide))).trans ((hfg24 140 0 (fun h => (Or.elim h (fun h => (absurd (show 140 = 152 from h) (by decide))) (fun h => (Or.elim h (fun h => (absurd (show 140 = 153 from h) (by decide))) (fun h => (Or.elim h (fun h => (absurd (show 140 = 154 from h) (by decide))) (fun h => (absurd (show 140 = 155 from h) (by decide)))))))))).trans (hug21.2 140 0 (fun h => absurd h.1 (by decide))))))).trans (tk_140 0 (by decide)))]; exact p3) (by intro j hj; rw [(((hug30.2 140 0 (fun h => absurd h.1 (by decide))).trans ((hug29.2 140 0 (fun h => absurd h.1 (by decide))).trans ((hug28.2 140 0 (fun h => absurd h.1 (by decide))).trans ((hfg24 140 0 (fun h => (Or.elim h (fun h => (absurd (show 140 = 152 from h) (by decide))) (fun h => (Or.elim h (fun h => (absurd (show 140 = 153 from h) (by decide))) (fun h => (Or.elim h (fun h => (absurd (show 140 = 154 from h) (by decide))) (fun h => (absurd (show 140 = 155 from h) (by decide)))))))))).trans (hug21.2 140 0 (fun h => absurd h.1 (by decide))))))).trans (tk_140 0 (by decide)))] at hj; have hj : (j : Int) < g 140 4 := hj; rw [((hug30.2 142 j (fun h => absurd h.1 (by decide))).trans ((hug29.2 142 j (fun h => absurd h.1 (by decide))).trans ((hug28.2 142 j (fun h => absurd h.1 (by decide))).trans ((hfg24 142 j (fun h => (Or.elim h (fun h => (absurd (show 142 = 152 from h) (by decide))) (fun h => (Or.elim h (fun h => (absurd (show 142 = 153 from h) (by decide))) (fun h => (Or.elim h (fun h => (absurd (show 142 = 154 from h) (by decide))) (fun h => (absurd (show 142 = 155 from h) (by decide)))))))))).trans (hug21.2 142 j (fun h => absurd h.1 (by decide))))))).trans (tk_142 j (by omega))]; exact p1 j hj))
    · skip
      refine mm_g 2 (pc1 := 85) (lo1 := [some (.ref 137), some (.int (Int32.ofInt v22)), o23]) (st1 := [.ref 137, .int (Int32.ofInt v22)]) (H1 := mz_mk g24 x) rfl ?_
      refine mz_fgR (v := 140) rfl fd_12_36 (by decide) (sc_137 _) (rf_137_3 _ _ _) ?_
      refine mm_g 1 (pc1 := 89) (lo1 := [some (.ref 137), some (.int (Int32.ofInt v22)), o23]) (st1 := [.int (Int32.ofInt 1), .ref 140, .int (Int32.ofInt v22)]) (H1 := mz_mk g24 x) rfl ?_
      refine mz_aI rfl (sh_140 _) (by omega) (by omega) (by decide) hIg24 bt_140_1 (fun v31 e_v31 l_v31 u_v31 => ?_)
      have e_v31 : g24 140 1 = v31 := e_v31
      refine mz_ic_ge (tgt := 97) rfl rfl (mz_rg l_v22 u_v22) (mz_rg l_v31 u_v31) (fun c90_31 => ?_) (fun c90_31 => ?_)
      · skip
        refine mm_g 3 (pc1 := 100) (lo1 := [some (.ref 137), some (.int (Int32.ofInt v22)), some (.int (Int32.ofInt 0))]) (st1 := [.ref 137]) (H1 := mz_mk g24 x) rfl ?_
        refine mz_fgR (v := 152) rfl fd_12_76 (by decide) (sc_137 _) (rf_137_25 _ _ _) ?_
        refine mm_g 2 (pc1 := 105) (lo1 := [some (.ref 137), some (.int (Int32.ofInt v22)), some (.int (Int32.ofInt 0))]) (st1 := [.int (Int32.ofInt 0), .int (Int32.ofInt v22), .ref 152]) (H1 := mz_mk g24 x) rfl ?_
        refine mz_sI rfl (sh_152 _) (by omega) (by omega) (by decide) hIg24 (ba_152 _) (by omega) (by omega) (fun g32 hIg32 hug32 => ?_)
        refine mm_g 1 (pc1 := 107) (lo1 := [some (.ref 137), some (.int (Int32.ofInt v22)), some (.int (Int32.ofInt 0))]) (st1 := [.ref 137]) (H1 := mz_mk g32 x) rfl ?_
        refine mz_fgR (v := 153) rfl fd_12_78 (by decide) (sc_137 _) (rf_137_26 _ _ _) ?_
        refine mm_g 2 (pc1 := 112) (lo1 := [some (.ref 137), some (.int (Int32.ofInt v22)), some (.int (Int32.ofInt 0))]) (st1 := [.int (Int32.ofInt 0), .int (Int32.ofInt v22), .ref 153]) (H1 := mz_mk g32 x) rfl ?_
        refine mz_if_eq (tgt := 124) rfl rfl ⟨by decide, by decide⟩ (fun c112_32 => ?_) (fun c112_32 => ?_)
        · skip
          refine mm_g 1 (pc1 := 125) (lo1 := [some (.ref 137), some (.int (Int32.ofInt v22)), some (.int (Int32.ofInt 0))]) (st1 := [.int (Int32.ofInt 0), .int (Int32.ofInt v22), .ref 153]) (H1 := mz_mk g32 x) rfl ?_
          refine mz_sI rfl (sh_153 _) (by omega) (by omega) (by decide) hIg32 (ba_153 _) (by omega) (by omega) (fun g33 hIg33 hug33 => ?_)
          refine mm_g 1 (pc1 := 127) (lo1 := [some (.ref 137), some (.int (Int32.ofInt v22)), some (.int (Int32.ofInt 0))]) (st1 := [.ref 137]) (H1 := mz_mk g33 x) rfl ?_
          refine mz_fgR (v := 154) rfl fd_12_80 (by decide) (sc_137 _) (rf_137_27 _ _ _) ?_
          refine mm_g 2 (pc1 := 132) (lo1 := [some (.ref 137), some (.int (Int32.ofInt v22)), some (.int (Int32.ofInt 0))]) (st1 := [.int (Int32.ofInt 0), .int (Int32.ofInt v22), .ref 154]) (H1 := mz_mk g33 x) rfl ?_
          refine mz_if_eq (tgt := 144) rfl rfl ⟨by decide, by decide⟩ (fun c132_33 => ?_) (fun c132_33 => ?_)
          · skip
            refine mm_g 1 (pc1 := 145) (lo1 := [some (.ref 137), some (.int (Int32.ofInt v22)), some (.int (Int32.ofInt 0))]) (st1 := [.int (Int32.ofInt 0), .int (Int32.ofInt v22), .ref 154]) (H1 := mz_mk g33 x) rfl ?_
            refine mz_sI rfl (sh_154 _) (by omega) (by omega) (by decide) hIg33 (ba_154 _) (by omega) (by omega) (fun g34 hIg34 hug34 => ?_)
            refine mm_g 1 (pc1 := 147) (lo1 := [some (.ref 137), some (.int (Int32.ofInt v22)), some (.int (Int32.ofInt 0))]) (st1 := [.ref 137]) (H1 := mz_mk g34 x) rfl ?_
            refine mz_fgR (v := 155) rfl fd_12_82 (by decide) (sc_137 _) (rf_137_28 _ _ _) ?_
            refine mm_g 2 (pc1 := 152) (lo1 := [some (.ref 137), some (.int (Int32.ofInt v22)), some (.int (Int32.ofInt 0))]) (st1 := [.int (Int32.ofInt 0), .int (Int32.ofInt v22), .ref 155]) (H1 := mz_mk g34 x) rfl ?_
            refine mz_if_eq (tgt := 164) rfl rfl ⟨by decide, by decide⟩ (fun c152_34 => ?_) (fun c152_34 => ?_)
            · skip
              refine mm_g 1 (pc1 := 165) (lo1 := [some (.ref 137), some (.int (Int32.ofInt v22)), some (.int (Int32.ofInt 0))]) (st1 := [.int (Int32.ofInt 0), .int (Int32.ofInt v22), .ref 155]) (H1 := mz_mk g34 x) rfl ?_
              refine mz_sI rfl (sh_155 _) (by omega) (by omega) (by decide) hIg34 (ba_155 _) (by omega) (by omega) (fun g35 hIg35 hug35 => ?_)
              refine mz_iincR (v := v22) (lo2 := [some (.ref 137), some (.int (Int32.ofInt (v22 + 1))), some (.int (Int32.ofInt 0))]) rfl rfl rfl (Nat.le_of_ble_eq_true rfl) rfl ?_
              refine mz_gt (tgt := 77) rfl rfl ?_
              exact ih25 ((6 - (v22 + 1)).toNat) (by omega) (v22 + 1) (some (.int (Int32.ofInt 0))) g35 rfl (by omega) (by omega) (mz_nl_i _) hIg35 (fun k j hk => ((hug35.2 k j (fun h => hk (Or.inr (Or.inr (Or.inr h.1))))).trans ((hug34.2 k j (fun h => hk (Or.inr (Or.inr (Or.inl h.1))))).trans ((hug33.2 k j (fun h => hk (Or.inr (Or.inl h.1)))).trans ((hug32.2 k j (fun h => hk (Or.inl h.1))).trans (hfg24 k j (fun h => hk (Or.elim h (fun h => (Or.inl h)) (fun h => (Or.elim h (fun h => (Or.inr (Or.inl h))) (fun h => (Or.elim h (fun h => (Or.inr (Or.inr (Or.inl h)))) (fun h => (Or.inr (Or.inr (Or.inr h))))))))))))))))
            · exfalso; omega
          · exfalso; omega
        · exfalso; omega
      · skip
        refine mm_g 1 (pc1 := 94) (lo1 := [some (.ref 137), some (.int (Int32.ofInt v22)), o23]) (st1 := [.int (Int32.ofInt 1)]) (H1 := mz_mk g24 x) rfl ?_
        refine mz_gt (tgt := 98) rfl rfl ?_
        refine mm_g 2 (pc1 := 100) (lo1 := [some (.ref 137), some (.int (Int32.ofInt v22)), some (.int (Int32.ofInt 1))]) (st1 := [.ref 137]) (H1 := mz_mk g24 x) rfl ?_
        refine mz_fgR (v := 152) rfl fd_12_76 (by decide) (sc_137 _) (rf_137_25 _ _ _) ?_
        refine mm_g 2 (pc1 := 105) (lo1 := [some (.ref 137), some (.int (Int32.ofInt v22)), some (.int (Int32.ofInt 1))]) (st1 := [.int (Int32.ofInt 0), .int (Int32.ofInt v22), .ref 152]) (H1 := mz_mk g24 x) rfl ?_
        refine mz_sI rfl (sh_152 _) (by omega) (by omega) (by decide) hIg24 (ba_152 _) (by omega) (by omega) (fun g36 hIg36 hug36 => ?_)
        refine mm_g 1 (pc1 := 107) (lo1 := [some (.ref 137), some (.int (Int32.ofInt v22)), some (.int (Int32.ofInt 1))]) (st1 := [.ref 137]) (H1 := mz_mk g36 x) rfl ?_
        refine mz_fgR (v := 153) rfl fd_12_78 (by decide) (sc_137 _) (rf_137_26 _ _ _) ?_
        refine mm_g 2 (pc1 := 112) (lo1 := [some (.ref 137), some (.int (Int32.ofInt v22)), some (.int (Int32.ofInt 1))]) (st1 := [.int (Int32.ofInt 1), .int (Int32.ofInt v22), .ref 153]) (H1 := mz_mk g36 x) rfl ?_
        refine mz_if_eq (tgt := 124) rfl rfl ⟨by decide, by decide⟩ (fun c112_36 => ?_) (fun c112_36 => ?_)
        · exfalso; omega
        · skip
          refine mm_g 1 (pc1 := 116) (lo1 := [some (.ref 137), some (.int (Int32.ofInt v22)), some (.int (Int32.ofInt 1))]) (st1 := [.ref 137, .int (Int32.ofInt v22), .ref 153]) (H1 := mz_mk g36 x) rfl ?_
          refine mz_fgR (v := 145) rfl fd_12_51 (by decide) (sc_137 _) (rf_137_8 _ _ _) ?_
          refine mm_g 1 (pc1 := 120) (lo1 := [some (.ref 137), some (.int (Int32.ofInt v22)), some (.int (Int32.ofInt 1))]) (st1 := [.int (Int32.ofInt v22), .ref 145, .int (Int32.ofInt v22), .ref 153]) (H1 := mz_mk g36 x) rfl ?_
          refine mz_aI rfl (sh_145 _) (by omega) (by omega) (by decide) hIg36 (ba_145 _) (fun v37 e_v37 l_v37 u_v37 => ?_)
          have y1_v37 : v31 = g 140 5 := (show g36 140 1 = v31 from ((hug36.2 140 1 (fun h => absurd h.1 (by decide))).trans e_v31)).symm.trans (((hug36.2 140 1 (fun h => absurd h.1 (by decide))).trans ((hfg24 140 1 (fun h => (Or.elim h (fun h => (absurd (show 140 = 152 from h) (by decide))) (fun h => (Or.elim h (fun h => (absurd (show 140 = 153 from h) (by decide))) (fun h => (Or.elim h (fun h => (absurd (show 140 = 154 from h) (by decide))) (fun h => (absurd (show 140 = 155 from h) (by decide)))))))))).trans (hug21.2 140 1 (fun h => absurd h.1 (by decide))))).trans (tk_140 1 (by decide)))
          have y2_v37 := p2 (v22 : Int).toNat (by omega)
          have y3_v37 : v37 = g 145 (6 + (v22 : Int).toNat) := e_v37.symm.trans (((hug36.2 145 (v22 : Int).toNat (fun h => absurd h.1 (by decide))).trans ((hfg24 145 (v22 : Int).toNat (fun h => (Or.elim h (fun h => (absurd (show 145 = 152 from h) (by decide))) (fun h => (Or.elim h (fun h => (absurd (show 145 = 153 from h) (by decide))) (fun h => (Or.elim h (fun h => (absurd (show 145 = 154 from h) (by decide))) (fun h => (absurd (show 145 = 155 from h) (by decide)))))))))).trans (hug21.2 145 (v22 : Int).toNat (fun h => absurd h.1 (by decide))))).trans (tk_145 _ (by omega)))
          refine mz_gt (tgt := 125) rfl rfl ?_
          refine mz_sI rfl (sh_153 _) (by omega) (by omega) (by decide) hIg36 (ba_153 _) (by omega) (by omega) (fun g38 hIg38 hug38 => ?_)
          refine mm_g 1 (pc1 := 127) (lo1 := [some (.ref 137), some (.int (Int32.ofInt v22)), some (.int (Int32.ofInt 1))]) (st1 := [.ref 137]) (H1 := mz_mk g38 x) rfl ?_
          refine mz_fgR (v := 154) rfl fd_12_80 (by decide) (sc_137 _) (rf_137_27 _ _ _) ?_
          refine mm_g 2 (pc1 := 132) (lo1 := [some (.ref 137), some (.int (Int32.ofInt v22)), some (.int (Int32.ofInt 1))]) (st1 := [.int (Int32.ofInt 1), .int (Int32.ofInt v22), .ref 154]) (H1 := mz_mk g38 x) rfl ?_
          refine mz_if_eq (tgt := 144) rfl rfl ⟨by decide, by decide⟩ (fun c132_38 => ?_) (fun c132_38 => ?_)
          · exfalso; omega
          · skip
            refine mm_g 1 (pc1 := 136) (lo1 := [some (.ref 137), some (.int (Int32.ofInt v22)), some (.int (Int32.ofInt 1))]) (st1 := [.ref 137, .int (Int32.ofInt v22), .ref 154]) (H1 := mz_mk g38 x) rfl ?_
            refine mz_fgR (v := 146) rfl fd_12_54 (by decide) (sc_137 _) (rf_137_9 _ _ _) ?_
            refine mm_g 1 (pc1 := 140) (lo1 := [some (.ref 137), some (.int (Int32.ofInt v22)), some (.int (Int32.ofInt 1))]) (st1 := [.int (Int32.ofInt v22), .ref 146, .int (Int32.ofInt v22), .ref 154]) (H1 := mz_mk g38 x) rfl ?_
            refine mz_aI rfl (sh_146 _) (by omega) (by omega) (by decide) hIg38 (ba_146 _) (fun v39 e_v39 l_v39 u_v39 => ?_)
            have y1_v39 : v31 = g 140 5 := (show g38 140 1 = v31 from ((hug38.2 140 1 (fun h => absurd h.1 (by decide))).trans ((hug36.2 140 1 (fun h => absurd h.1 (by decide))).trans e_v31))).symm.trans (((hug38.2 140 1 (fun h => absurd h.1 (by decide))).trans ((hug36.2 140 1 (fun h => absurd h.1 (by decide))).trans ((hfg24 140 1 (fun h => (Or.elim h (fun h => (absurd (show 140 = 152 from h) (by decide))) (fun h => (Or.elim h (fun h => (absurd (show 140 = 153 from h) (by decide))) (fun h => (Or.elim h (fun h => (absurd (show 140 = 154 from h) (by decide))) (fun h => (absurd (show 140 = 155 from h) (by decide)))))))))).trans (hug21.2 140 1 (fun h => absurd h.1 (by decide)))))).trans (tk_140 1 (by decide)))
            have y2_v39 := p2 (v22 : Int).toNat (by omega)
            have y3_v39 : v39 = g 146 (6 + (v22 : Int).toNat) := e_v39.symm.trans (((hug38.2 146 (v22 : Int).toNat (fun h => absurd h.1 (by decide))).trans ((hug36.2 146 (v22 : Int).toNat (fun h => absurd h.1 (by decide))).trans ((hfg24 146 (v22 : Int).toNat (fun h => (Or.elim h (fun h => (absurd (show 146 = 152 from h) (by decide))) (fun h => (Or.elim h (fun h => (absurd (show 146 = 153 from h) (by decide))) (fun h => (Or.elim h (fun h => (absurd (show 146 = 154 from h) (by decide))) (fun h => (absurd (show 146 = 155 from h) (by decide)))))))))).trans (hug21.2 146 (v22 : Int).toNat (fun h => absurd h.1 (by decide)))))).trans (tk_146 _ (by omega)))
            refine mz_gt (tgt := 145) rfl rfl ?_
            refine mz_sI rfl (sh_154 _) (by omega) (by omega) (by decide) hIg38 (ba_154 _) (by omega) (by omega) (fun g40 hIg40 hug40 => ?_)
            refine mm_g 1 (pc1 := 147) (lo1 := [some (.ref 137), some (.int (Int32.ofInt v22)), some (.int (Int32.ofInt 1))]) (st1 := [.ref 137]) (H1 := mz_mk g40 x) rfl ?_
            refine mz_fgR (v := 155) rfl fd_12_82 (by decide) (sc_137 _) (rf_137_28 _ _ _) ?_
            refine mm_g 2 (pc1 := 152) (lo1 := [some (.ref 137), some (.int (Int32.ofInt v22)), some (.int (Int32.ofInt 1))]) (st1 := [.int (Int32.ofInt 1), .int (Int32.ofInt v22), .ref 155]) (H1 := mz_mk g40 x) rfl ?_
            refine mz_if_eq (tgt := 164) rfl rfl ⟨by decide, by decide⟩ (fun c152_40 => ?_) (fun c152_40 => ?_)
            · exfalso; omega
            · skip
              refine mm_g 1 (pc1 := 156) (lo1 := [some (.ref 137), some (.int (Int32.ofInt v22)), some (.int (Int32.ofInt 1))]) (st1 := [.ref 137, .int (Int32.ofInt v22), .ref 155]) (H1 := mz_mk g40 x) rfl ?_
              refine mz_fgR (v := 147) rfl fd_12_57 (by decide) (sc_137 _) (rf_137_10 _ _ _) ?_
              refine mm_g 1 (pc1 := 160) (lo1 := [some (.ref 137), some (.int (Int32.ofInt v22)), some (.int (Int32.ofInt 1))]) (st1 := [.int (Int32.ofInt v22), .ref 147, .int (Int32.ofInt v22), .ref 155]) (H1 := mz_mk g40 x) rfl ?_
              refine mz_aI rfl (sh_147 _) (by omega) (by omega) (by decide) hIg40 (ba_147 _) (fun v41 e_v41 l_v41 u_v41 => ?_)
              refine mz_gt (tgt := 165) rfl rfl ?_
              refine mz_sI rfl (sh_155 _) (by omega) (by omega) (by decide) hIg40 (ba_155 _) (by omega) (by omega) (fun g42 hIg42 hug42 => ?_)
              refine mz_iincR (v := v22) (lo2 := [some (.ref 137), some (.int (Int32.ofInt (v22 + 1))), some (.int (Int32.ofInt 1))]) rfl rfl rfl (Nat.le_of_ble_eq_true rfl) rfl ?_
              refine mz_gt (tgt := 77) rfl rfl ?_
              exact ih25 ((6 - (v22 + 1)).toNat) (by omega) (v22 + 1) (some (.int (Int32.ofInt 1))) g42 rfl (by omega) (by omega) (mz_nl_i _) hIg42 (fun k j hk => ((hug42.2 k j (fun h => hk (Or.inr (Or.inr (Or.inr h.1))))).trans ((hug40.2 k j (fun h => hk (Or.inr (Or.inr (Or.inl h.1))))).trans ((hug38.2 k j (fun h => hk (Or.inr (Or.inl h.1)))).trans ((hug36.2 k j (fun h => hk (Or.inl h.1))).trans (hfg24 k j (fun h => hk (Or.elim h (fun h => (Or.inl h)) (fun h => (Or.elim h (fun h => (Or.inr (Or.inl h))) (fun h => (Or.elim h (fun h => (Or.inr (Or.inr (Or.inl h)))) (fun h => (Or.inr (Or.inr (Or.inr h))))))))))))))))
  exact L27 _ 0 none g21 rfl (by decide) (by decide) mz_nl_n hIg21 (fun _ _ _ => rfl)
