/-! EXACT: the reference (wip/p2/tools/gen50.py) -/
theorem nj_100 : ¬ ((140 : Nat) = 152 ∨ (140 : Nat) = 153 ∨ (140 : Nat) = 154 ∨ (140 : Nat) = 155) := (fun h => (Or.elim h (fun h => (absurd (show 140 = 152 from h) (by decide))) (fun h => (Or.elim h (fun h => (absurd (show 140 = 153 from h) (by decide))) (fun h => (Or.elim h (fun h => (absurd (show 140 = 154 from h) (by decide))) (fun h => (absurd (show 140 = 155 from h) (by decide)))))))))
theorem nj_101 : ¬ ((149 : Nat) = 152 ∨ (149 : Nat) = 153 ∨ (149 : Nat) = 154 ∨ (149 : Nat) = 155) := (fun h => (Or.elim h (fun h => (absurd (show 149 = 152 from h) (by decide))) (fun h => (Or.elim h (fun h => (absurd (show 149 = 153 from h) (by decide))) (fun h => (Or.elim h (fun h => (absurd (show 149 = 154 from h) (by decide))) (fun h => (absurd (show 149 = 155 from h) (by decide)))))))))
theorem nj_102 : ¬ ((142 : Nat) = 152 ∨ (142 : Nat) = 153 ∨ (142 : Nat) = 154 ∨ (142 : Nat) = 155) := (fun h => (Or.elim h (fun h => (absurd (show 142 = 152 from h) (by decide))) (fun h => (Or.elim h (fun h => (absurd (show 142 = 153 from h) (by decide))) (fun h => (Or.elim h (fun h => (absurd (show 142 = 154 from h) (by decide))) (fun h => (absurd (show 142 = 155 from h) (by decide)))))))))
theorem nj_103 : ¬ ((145 : Nat) = 152 ∨ (145 : Nat) = 153 ∨ (145 : Nat) = 154 ∨ (145 : Nat) = 155) := (fun h => (Or.elim h (fun h => (absurd (show 145 = 152 from h) (by decide))) (fun h => (Or.elim h (fun h => (absurd (show 145 = 153 from h) (by decide))) (fun h => (Or.elim h (fun h => (absurd (show 145 = 154 from h) (by decide))) (fun h => (absurd (show 145 = 155 from h) (by decide)))))))))
theorem nj_104 : ¬ ((146 : Nat) = 152 ∨ (146 : Nat) = 153 ∨ (146 : Nat) = 154 ∨ (146 : Nat) = 155) := (fun h => (Or.elim h (fun h => (absurd (show 146 = 152 from h) (by decide))) (fun h => (Or.elim h (fun h => (absurd (show 146 = 153 from h) (by decide))) (fun h => (Or.elim h (fun h => (absurd (show 146 = 154 from h) (by decide))) (fun h => (absurd (show 146 = 155 from h) (by decide)))))))))
theorem mt_12_303 : mm_tab mm_mthT 12 303 = some (0, 216, 1, 0, 12) := rfl
def fl_X12_takeOver_77 (x : mm_X) : Nat → Nat → Prop := fun k j => k = 152 ∨ k = 153 ∨ k = 154 ∨ k = 155
def fw_X12_takeOver (x : mm_X) : Nat → Nat → Prop := fun k j => k = 140 ∨ k = 141 ∨ k = 142 ∨ k = 143 ∨ k = 144 ∨ k = 145 ∨ k = 146 ∨ k = 147 ∨ k = 148 ∨ k = 149 ∨ (k = 137 ∧ j = 30) ∨ k = 152 ∨ k = 153 ∨ k = 154 ∨ k = 155 ∨ (k = 137 ∧ j = 31) ∨ (k = 137 ∧ j = 32) ∨ (k = 137 ∧ j = 53)
set_option maxHeartbeats 20000000 in
theorem f_X12_takeOver {d : Nat} (hd : 2 ≤ d) {x : mm_X} (hx : mk_x x) {g : mz_G} (hI : mz_inv g) (p1 : mz_L1 g) (p2 : mz_L2 g) (p3 : 0 < g 140 5 → 0 < g 140 4) (p4 : mz_SG g 0 (g 140 7) 31 ∨ g 140 7 = 0) {Q : (Option Value ⊕ Nat) → mm_H → Prop} (hQ : ∀ (g1 : mz_G), mz_inv g1 → mz_fr (fw_X12_takeOver x) g g1 → (mz_pv g1) → (g1 137 30 = 0) → (0 < g1 140 1 → 0 < g1 140 0) → (∀ j : Nat, (j : Int) < g1 140 0 → 1 ≤ g1 142 j) → zf_E (zF_X12_takeOver g) (g1) → Q (.inl none) (mz_mk g1 x)) : mm_C d 217 [.ref 137] (mz_mk g x) Q := by
  refine ⟨mmX12_takeOver, [some (.ref 137), none, none], rfl, rfl, ?_⟩
  have bz0 := mz_rd hI bt_140_4
  have bz1 := mz_rd hI bt_140_5
  have bz2 := mz_rd hI bt_140_6
  have bz3 := mz_rd hI bt_140_7
  have hE : zf_E (zF_X12_takeOver g) (zF_X12_takeOver g) := zf_rf
  refine mm_g 1 (pc1 := 1) (lo1 := [some (.ref 137), none, none]) (st1 := [.ref 137]) (H1 := mz_mk g x) rfl ?_
  refine mz_fgR (v := 140) rfl fd_12_36 (by decide) (sc_137 _) (rf_137_3 _ _ _) ?_
  refine mz_cs rfl mt_12_303 (by decide) rfl (Nat.le_of_ble_eq_true rfl) (by omega) (f_X12_takeHalf (by omega) hx hI (sh_140 _) (by decide) tkb_140 (fun g1 hIg1 hfg1 hp2 hc3 => ⟨_, rfl, ?_⟩))
  show mm_W d mmX12_takeOver 7 [some (.ref 137), none, none] [] (mz_mk g1 x) Q
  replace hE := zf_t1 hE hc3
  refine mm_g 1 (pc1 := 8) (lo1 := [some (.ref 137), none, none]) (st1 := [.ref 137]) (H1 := mz_mk g1 x) rfl ?_
  refine mz_fgR (v := 141) rfl fd_12_40 (by decide) (sc_137 _) (rf_137_4 _ _ _) ?_
  refine mz_cs rfl mt_12_303 (by decide) rfl (Nat.le_of_ble_eq_true rfl) (by omega) (f_X12_takeHalf (by omega) hx hIg1 (sh_141 _) (by decide) tkb_141 (fun g4 hIg4 hfg4 hp5 hc6 => ⟨_, rfl, ?_⟩))
  show mm_W d mmX12_takeOver 14 [some (.ref 137), none, none] [] (mz_mk g4 x) Q
  replace hE := zf_t1 hE hc6
  refine mm_g 1 (pc1 := 15) (lo1 := [some (.ref 137), none, none]) (st1 := [.ref 137]) (H1 := mz_mk g4 x) rfl ?_
  refine mz_fgR (v := 142) rfl fd_12_43 (by decide) (sc_137 _) (rf_137_5 _ _ _) ?_
  refine mz_cs rfl mt_12_303 (by decide) rfl (Nat.le_of_ble_eq_true rfl) (by omega) (f_X12_takeHalf (by omega) hx hIg4 (sh_142 _) (by decide) tkb_142 (fun g7 hIg7 hfg7 hp8 hc9 => ⟨_, rfl, ?_⟩))
  show mm_W d mmX12_takeOver 21 [some (.ref 137), none, none] [] (mz_mk g7 x) Q
  replace hE := zf_t1 hE hc9
  refine mm_g 1 (pc1 := 22) (lo1 := [some (.ref 137), none, none]) (st1 := [.ref 137]) (H1 := mz_mk g7 x) rfl ?_
  refine mz_fgR (v := 143) rfl fd_12_46 (by decide) (sc_137 _) (rf_137_6 _ _ _) ?_
  refine mz_cs rfl mt_12_303 (by decide) rfl (Nat.le_of_ble_eq_true rfl) (by omega) (f_X12_takeHalf (by omega) hx hIg7 (sh_143 _) (by decide) tkb_143 (fun g10 hIg10 hfg10 hp11 hc12 => ⟨_, rfl, ?_⟩))
  show mm_W d mmX12_takeOver 28 [some (.ref 137), none, none] [] (mz_mk g10 x) Q
  replace hE := zf_t1 hE hc12
  refine mm_g 1 (pc1 := 29) (lo1 := [some (.ref 137), none, none]) (st1 := [.ref 137]) (H1 := mz_mk g10 x) rfl ?_
  refine mz_fgR (v := 144) rfl fd_12_49 (by decide) (sc_137 _) (rf_137_7 _ _ _) ?_
  refine mz_cs rfl mt_12_303 (by decide) rfl (Nat.le_of_ble_eq_true rfl) (by omega) (f_X12_takeHalf (by omega) hx hIg10 (sh_144 _) (by decide) tkb_144 (fun g13 hIg13 hfg13 hp14 hc15 => ⟨_, rfl, ?_⟩))
  show mm_W d mmX12_takeOver 35 [some (.ref 137), none, none] [] (mz_mk g13 x) Q
  replace hE := zf_t1 hE hc15
  refine mm_g 1 (pc1 := 36) (lo1 := [some (.ref 137), none, none]) (st1 := [.ref 137]) (H1 := mz_mk g13 x) rfl ?_
  refine mz_fgR (v := 145) rfl fd_12_51 (by decide) (sc_137 _) (rf_137_8 _ _ _) ?_
  refine mz_cs rfl mt_12_303 (by decide) rfl (Nat.le_of_ble_eq_true rfl) (by omega) (f_X12_takeHalf (by omega) hx hIg13 (sh_145 _) (by decide) tkb_145 (fun g16 hIg16 hfg16 hp17 hc18 => ⟨_, rfl, ?_⟩))
  show mm_W d mmX12_takeOver 42 [some (.ref 137), none, none] [] (mz_mk g16 x) Q
  replace hE := zf_t1 hE hc18
  refine mm_g 1 (pc1 := 43) (lo1 := [some (.ref 137), none, none]) (st1 := [.ref 137]) (H1 := mz_mk g16 x) rfl ?_
  refine mz_fgR (v := 146) rfl fd_12_54 (by decide) (sc_137 _) (rf_137_9 _ _ _) ?_
  refine mz_cs rfl mt_12_303 (by decide) rfl (Nat.le_of_ble_eq_true rfl) (by omega) (f_X12_takeHalf (by omega) hx hIg16 (sh_146 _) (by decide) tkb_146 (fun g19 hIg19 hfg19 hp20 hc21 => ⟨_, rfl, ?_⟩))
  show mm_W d mmX12_takeOver 49 [some (.ref 137), none, none] [] (mz_mk g19 x) Q
  replace hE := zf_t1 hE hc21
  refine mm_g 1 (pc1 := 50) (lo1 := [some (.ref 137), none, none]) (st1 := [.ref 137]) (H1 := mz_mk g19 x) rfl ?_
  refine mz_fgR (v := 147) rfl fd_12_57 (by decide) (sc_137 _) (rf_137_10 _ _ _) ?_
  refine mz_cs rfl mt_12_303 (by decide) rfl (Nat.le_of_ble_eq_true rfl) (by omega) (f_X12_takeHalf (by omega) hx hIg19 (sh_147 _) (by decide) tkb_147 (fun g22 hIg22 hfg22 hp23 hc24 => ⟨_, rfl, ?_⟩))
  show mm_W d mmX12_takeOver 56 [some (.ref 137), none, none] [] (mz_mk g22 x) Q
  replace hE := zf_t1 hE hc24
  refine mm_g 1 (pc1 := 57) (lo1 := [some (.ref 137), none, none]) (st1 := [.ref 137]) (H1 := mz_mk g22 x) rfl ?_
  refine mz_fgR (v := 148) rfl fd_12_60 (by decide) (sc_137 _) (rf_137_11 _ _ _) ?_
  refine mz_cs rfl mt_12_303 (by decide) rfl (Nat.le_of_ble_eq_true rfl) (by omega) (f_X12_takeHalf (by omega) hx hIg22 (sh_148 _) (by decide) tkb_148 (fun g25 hIg25 hfg25 hp26 hc27 => ⟨_, rfl, ?_⟩))
  show mm_W d mmX12_takeOver 63 [some (.ref 137), none, none] [] (mz_mk g25 x) Q
  replace hE := zf_t1 hE hc27
  refine mm_g 1 (pc1 := 64) (lo1 := [some (.ref 137), none, none]) (st1 := [.ref 137]) (H1 := mz_mk g25 x) rfl ?_
  refine mz_fgR (v := 149) rfl fd_12_63 (by decide) (sc_137 _) (rf_137_12 _ _ _) ?_
  refine mz_cs rfl mt_12_303 (by decide) rfl (Nat.le_of_ble_eq_true rfl) (by omega) (f_X12_takeHalf (by omega) hx hIg25 (sh_149 _) (by decide) tkb_149 (fun g28 hIg28 hfg28 hp29 hc30 => ⟨_, rfl, ?_⟩))
  show mm_W d mmX12_takeOver 70 [some (.ref 137), none, none] [] (mz_mk g28 x) Q
  replace hE := zf_t1 hE hc30
  have tk_140 : ∀ j : Nat, j < 4 → g28 140 j = g 140 (4 + j) := fun j hj => (((hfg28 140 j (fun h => (absurd (show 140 = 149 from h) (by decide)))).trans ((hfg25 140 j (fun h => (absurd (show 140 = 148 from h) (by decide)))).trans ((hfg22 140 j (fun h => (absurd (show 140 = 147 from h) (by decide)))).trans ((hfg19 140 j (fun h => (absurd (show 140 = 146 from h) (by decide)))).trans ((hfg16 140 j (fun h => (absurd (show 140 = 145 from h) (by decide)))).trans ((hfg13 140 j (fun h => (absurd (show 140 = 144 from h) (by decide)))).trans ((hfg10 140 j (fun h => (absurd (show 140 = 143 from h) (by decide)))).trans ((hfg7 140 j (fun h => (absurd (show 140 = 142 from h) (by decide)))).trans (hfg4 140 j (fun h => (absurd (show 140 = 141 from h) (by decide)))))))))))).trans (hp2 j hj))
  have tk_142 : ∀ j : Nat, j < 8 → g28 142 j = g 142 (8 + j) := fun j hj => ((((hfg28 142 j (fun h => (absurd (show 142 = 149 from h) (by decide)))).trans ((hfg25 142 j (fun h => (absurd (show 142 = 148 from h) (by decide)))).trans ((hfg22 142 j (fun h => (absurd (show 142 = 147 from h) (by decide)))).trans ((hfg19 142 j (fun h => (absurd (show 142 = 146 from h) (by decide)))).trans ((hfg16 142 j (fun h => (absurd (show 142 = 145 from h) (by decide)))).trans ((hfg13 142 j (fun h => (absurd (show 142 = 144 from h) (by decide)))).trans (hfg10 142 j (fun h => (absurd (show 142 = 143 from h) (by decide)))))))))).trans (hp8 j hj)).trans ((hfg4 142 (8 + j) (fun h => (absurd (show 142 = 141 from h) (by decide)))).trans (hfg1 142 (8 + j) (fun h => (absurd (show 142 = 140 from h) (by decide))))))
  have tk_145 : ∀ j : Nat, j < 6 → g28 145 j = g 145 (6 + j) := fun j hj => ((((hfg28 145 j (fun h => (absurd (show 145 = 149 from h) (by decide)))).trans ((hfg25 145 j (fun h => (absurd (show 145 = 148 from h) (by decide)))).trans ((hfg22 145 j (fun h => (absurd (show 145 = 147 from h) (by decide)))).trans (hfg19 145 j (fun h => (absurd (show 145 = 146 from h) (by decide))))))).trans (hp17 j hj)).trans ((hfg13 145 (6 + j) (fun h => (absurd (show 145 = 144 from h) (by decide)))).trans ((hfg10 145 (6 + j) (fun h => (absurd (show 145 = 143 from h) (by decide)))).trans ((hfg7 145 (6 + j) (fun h => (absurd (show 145 = 142 from h) (by decide)))).trans ((hfg4 145 (6 + j) (fun h => (absurd (show 145 = 141 from h) (by decide)))).trans (hfg1 145 (6 + j) (fun h => (absurd (show 145 = 140 from h) (by decide)))))))))
  have tk_146 : ∀ j : Nat, j < 6 → g28 146 j = g 146 (6 + j) := fun j hj => ((((hfg28 146 j (fun h => (absurd (show 146 = 149 from h) (by decide)))).trans ((hfg25 146 j (fun h => (absurd (show 146 = 148 from h) (by decide)))).trans (hfg22 146 j (fun h => (absurd (show 146 = 147 from h) (by decide)))))).trans (hp20 j hj)).trans ((hfg16 146 (6 + j) (fun h => (absurd (show 146 = 145 from h) (by decide)))).trans ((hfg13 146 (6 + j) (fun h => (absurd (show 146 = 144 from h) (by decide)))).trans ((hfg10 146 (6 + j) (fun h => (absurd (show 146 = 143 from h) (by decide)))).trans ((hfg7 146 (6 + j) (fun h => (absurd (show 146 = 142 from h) (by decide)))).trans ((hfg4 146 (6 + j) (fun h => (absurd (show 146 = 141 from h) (by decide)))).trans (hfg1 146 (6 + j) (fun h => (absurd (show 146 = 140 from h) (by decide))))))))))
  have tk_149 : ∀ j : Nat, j < 700 → g28 149 j = g 149 (700 + j) := fun j hj => ((hp29 j hj).trans ((hfg25 149 (700 + j) (fun h => (absurd (show 149 = 148 from h) (by decide)))).trans ((hfg22 149 (700 + j) (fun h => (absurd (show 149 = 147 from h) (by decide)))).trans ((hfg19 149 (700 + j) (fun h => (absurd (show 149 = 146 from h) (by decide)))).trans ((hfg16 149 (700 + j) (fun h => (absurd (show 149 = 145 from h) (by decide)))).trans ((hfg13 149 (700 + j) (fun h => (absurd (show 149 = 144 from h) (by decide)))).trans ((hfg10 149 (700 + j) (fun h => (absurd (show 149 = 143 from h) (by decide)))).trans ((hfg7 149 (700 + j) (fun h => (absurd (show 149 = 142 from h) (by decide)))).trans ((hfg4 149 (700 + j) (fun h => (absurd (show 149 = 141 from h) (by decide)))).trans (hfg1 149 (700 + j) (fun h => (absurd (show 149 = 140 from h) (by decide)))))))))))))
  refine mm_g 2 (pc1 := 72) (lo1 := [some (.ref 137), none, none]) (st1 := [.int (Int32.ofInt 0), .ref 137]) (H1 := mz_mk g28 x) rfl ?_
  refine mz_pI rfl fd_12_307 (sc_137 _) hIg28 bd_137_30 (by omega) (by omega) (fun g31 hIg31 hug31 => ?_)
  replace hE := zf_tr hE (zf_lg hug31)
  refine mm_g 2 (pc1 := 77) (lo1 := [some (.ref 137), some (.int (Int32.ofInt 0)), none]) (st1 := []) (H1 := mz_mk g31 x) rfl ?_
  have L37 : ∀ n36 : Nat, ∀ (v32 : Int) (o33 : Option Value) (g34 : mz_G), (6 - v32).toNat = n36 → 0 ≤ v32 → v32 ≤ 6 → mz_nl o33 → mz_inv g34 → mz_fr (fl_X12_takeOver_77 x) g31 g34 → (∃ fk : Nat, (6 - v32).toNat < fk ∧ zf_E (zF_X12_takeOver g) (zL_X12_takeOver_77 fk v32 g34)) → mm_W d mmX12_takeOver 77 [some (.ref 137), some (.int (Int32.ofInt v32)), o33] [] (mz_mk g34 x) Q := by
    intro n36
    induction n36 using Nat.strongRecOn with
    | ind n36 ih35 =>
    intro v32 o33 g34 hmn36 l_v32 u_v32 h_o33 hIg34 hfg34 hF
    obtain ⟨fk, fl, hE⟩ := hF
    obtain ⟨fj38, rfl⟩ : ∃ fj, fk = fj + 1 := ⟨fk - 1, by omega⟩
    have fn39 : n36 ≤ fj38 := by omega
    replace hE := zf_tr hE zL_X12_takeOver_77_s
    refine mm_g 1 (pc1 := 78) (lo1 := [some (.ref 137), some (.int (Int32.ofInt v32)), o33]) (st1 := [.int (Int32.ofInt v32)]) (H1 := mz_mk g34 x) rfl ?_
    refine mz_bip rfl bip_6 ?_
    refine mz_ic_ge (tgt := 172) rfl rfl (mz_rg l_v32 u_v32) ⟨by decide, by decide⟩ (fun c80_39 => ?_) (fun c80_39 => ?_)
    · skip
      replace hE := zf_nl hE c80_39
      refine mm_g 2 (pc1 := 174) (lo1 := [some (.ref 137), some (.int (Int32.ofInt v32)), o33]) (st1 := [.int (Int32.ofInt 0), .ref 137]) (H1 := mz_mk g34 x) rfl ?_
      refine mz_pI rfl fd_12_310 (sc_137 _) hIg34 bd_137_31 (by omega) (by omega) (fun g40 hIg40 hug40 => ?_)
      replace hE := zf_tr hE (zf_lg hug40)
      refine mm_g 2 (pc1 := 179) (lo1 := [some (.ref 137), some (.int (Int32.ofInt v32)), o33]) (st1 := [.int (Int32.ofInt 0), .ref 137]) (H1 := mz_mk g40 x) rfl ?_
      refine mz_pI rfl fd_12_313 (sc_137 _) hIg40 bd_137_32 (by omega) (by omega) (fun g41 hIg41 hug41 => ?_)
      replace hE := zf_tr hE (zf_lg hug41)
      refine mm_g 2 (pc1 := 184) (lo1 := [some (.ref 137), some (.int (Int32.ofInt v32)), o33]) (st1 := [.int (Int32.ofInt 0), .ref 137]) (H1 := mz_mk g41 x) rfl ?_
      refine mz_pZ rfl fd_12_316 (sc_137 _) (by decide) hIg41 bd_137_53 (by omega) (by omega) (fun g42 hIg42 hug42 => ?_)
      replace hE := zf_tr hE (zf_lg hug42)
      exact mm_rt rfl rfl (hQ _ hIg42 (fun k j hk => ((hug42.2 k j (fun h => hk (Or.inr (Or.inr (Or.inr (Or.inr (Or.inr (Or.inr (Or.inr (Or.inr (Or.inr (Or.inr (Or.inr (Or.inr (Or.inr (Or.inr (Or.inr (Or.inr (Or.inr h))))))))))))))))))).trans ((hug41.2 k j (fun h => hk (Or.inr (Or.inr (Or.inr (Or.inr (Or.inr (Or.inr (Or.inr (Or.inr (Or.inr (Or.inr (Or.inr (Or.inr (Or.inr (Or.inr (Or.inr (Or.inr (Or.inl h))))))))))))))))))).trans ((hug40.2 k j (fun h => hk (Or.inr (Or.inr (Or.inr (Or.inr (Or.inr (Or.inr (Or.inr (Or.inr (Or.inr (Or.inr (Or.inr (Or.inr (Or.inr (Or.inr (Or.inr (Or.inl h)))))))))))))))))).trans ((hfg34 k j (fun h => hk (Or.elim h (fun h => (Or.inr (Or.inr (Or.inr (Or.inr (Or.inr (Or.inr (Or.inr (Or.inr (Or.inr (Or.inr (Or.inr (Or.inl h))))))))))))) (fun h => (Or.elim h (fun h => (Or.inr (Or.inr (Or.inr (Or.inr (Or.inr (Or.inr (Or.inr (Or.inr (Or.inr (Or.inr (Or.inr (Or.inr (Or.inl h)))))))))))))) (fun h => (Or.elim h (fun h => (Or.inr (Or.inr (Or.inr (Or.inr (Or.inr (Or.inr (Or.inr (Or.inr (Or.inr (Or.inr (Or.inr (Or.inr (Or.inr (Or.inl h))))))))))))))) (fun h => (Or.inr (Or.inr (Or.inr (Or.inr (Or.inr (Or.inr (Or.inr (Or.inr (Or.inr (Or.inr (Or.inr (Or.inr (Or.inr (Or.inr (Or.inl h))))))))))))))))))))))).trans ((hug31.2 k j (fun h => hk (Or.inr (Or.inr (Or.inr (Or.inr (Or.inr (Or.inr (Or.inr (Or.inr (Or.inr (Or.inr (Or.inl h))))))))))))).trans ((hfg28 k j (fun h => hk (Or.inr (Or.inr (Or.inr (Or.inr (Or.inr (Or.inr (Or.inr (Or.inr (Or.inr (Or.inl h)))))))))))).trans ((hfg25 k j (fun h => hk (Or.inr (Or.inr (Or.inr (Or.inr (Or.inr (Or.inr (Or.inr (Or.inr (Or.inl h))))))))))).trans ((hfg22 k j (fun h => hk (Or.inr (Or.inr (Or.inr (Or.inr (Or.inr (Or.inr (Or.inr (Or.inl h)))))))))).trans ((hfg19 k j (fun h => hk (Or.inr (Or.inr (Or.inr (Or.inr (Or.inr (Or.inr (Or.inl h))))))))).trans ((hfg16 k j (fun h => hk (Or.inr (Or.inr (Or.inr (Or.inr (Or.inr (Or.inl h)))))))).trans ((hfg13 k j (fun h => hk (Or.inr (Or.inr (Or.inr (Or.inr (Or.inl h))))))).trans ((hfg10 k j (fun h => hk (Or.inr (Or.inr (Or.inr (Or.inl h)))))).trans ((hfg7 k j (fun h => hk (Or.inr (Or.inr (Or.inl h))))).trans ((hfg4 k j (fun h => hk (Or.inr (Or.inl h)))).trans (hfg1 k j (fun h => hk (Or.inl h)))))))))))))))))) (mz_pv_seg (g0 := g) (((hug42.2 140 3 (fun h => absurd h.1 (by decide))).trans ((hug41.2 140 3 (fun h => absurd h.1 (by decide))).trans ((hug40.2 140 3 (fun h => absurd h.1 (by decide))).trans ((hfg34 140 3 nj_100).trans (hug31.2 140 3 (fun h => absurd h.1 (by decide))))))).trans (tk_140 3 (by decide))) (fun j hj => (((hug42.2 149 j (fun h => absurd h.1 (by decide))).trans ((hug41.2 149 j (fun h => absurd h.1 (by decide))).trans ((hug40.2 149 j (fun h => absurd h.1 (by decide))).trans ((hfg34 149 j nj_101).trans (hug31.2 149 j (fun h => absurd h.1 (by decide))))))).trans (tk_149 j hj))) (by omega) p4) (show g42 137 30 = 0 from ((hug42.2 137 30 (fun h => absurd h.2 (by decide))).trans ((hug41.2 137 30 (fun h => absurd h.2 (by decide))).trans ((hug40.2 137 30 (fun h => absurd h.2 (by decide))).trans ((hfg34 137 30 nj_19).trans hug31.1))))) (by rw [(((hug42.2 140 1 (fun h => absurd h.1 (by decide))).trans ((hug41.2 140 1 (fun h => absurd h.1 (by decide))).trans ((hug40.2 140 1 (fun h => absurd h.1 (by decide))).trans ((hfg34 140 1 nj_100).trans (hug31.2 140 1 (fun h => absurd h.1 (by decide))))))).trans (tk_140 1 (by decide))), (((hug42.2 140 0 (fun h => absurd h.1 (by decide))).trans ((hug41.2 140 0 (fun h => absurd h.1 (by decide))).trans ((hug40.2 140 0 (fun h => absurd h.1 (by decide))).trans ((hfg34 140 0 nj_100).trans (hug31.2 140 0 (fun h => absurd h.1 (by decide))))))).trans (tk_140 0 (by decide)))]; exact p3) (by intro j hj; rw [(((hug42.2 140 0 (fun h => absurd h.1 (by decide))).trans ((hug41.2 140 0 (fun h => absurd h.1 (by decide))).trans ((hug40.2 140 0 (fun h => absurd h.1 (by decide))).trans ((hfg34 140 0 nj_100).trans (hug31.2 140 0 (fun h => absurd h.1 (by decide))))))).trans (tk_140 0 (by decide)))] at hj; have hj : (j : Int) < g 140 4 := hj; rw [((hug42.2 142 j (fun h => absurd h.1 (by decide))).trans ((hug41.2 142 j (fun h => absurd h.1 (by decide))).trans ((hug40.2 142 j (fun h => absurd h.1 (by decide))).trans ((hfg34 142 j nj_102).trans (hug31.2 142 j (fun h => absurd h.1 (by decide))))))).trans (tk_142 j (by omega))]; exact p1 j hj) hE)
    · skip
      replace hE := zf_ip hE c80_39
      refine mm_g 2 (pc1 := 85) (lo1 := [some (.ref 137), some (.int (Int32.ofInt v32)), o33]) (st1 := [.ref 137, .int (Int32.ofInt v32)]) (H1 := mz_mk g34 x) rfl ?_
      refine mz_fgR (v := 140) rfl fd_12_36 (by decide) (sc_137 _) (rf_137_3 _ _ _) ?_
      refine mm_g 1 (pc1 := 89) (lo1 := [some (.ref 137), some (.int (Int32.ofInt v32)), o33]) (st1 := [.int (Int32.ofInt 1), .ref 140, .int (Int32.ofInt v32)]) (H1 := mz_mk g34 x) rfl ?_
      refine mz_aI rfl (sh_140 _) (by omega) (by omega) (by decide) hIg34 bt_140_1 (fun v43 e_v43 l_v43 u_v43 => ?_)
      have e_v43 : g34 140 1 = v43 := e_v43
      replace hE := zf_tr hE (zf_le e_v43)
      refine mz_ic_ge (tgt := 97) rfl rfl (mz_rg l_v32 u_v32) (mz_rg l_v43 u_v43) (fun c90_43 => ?_) (fun c90_43 => ?_)
      · skip
        replace hE := zf_nl hE c90_43
        refine mm_g 3 (pc1 := 100) (lo1 := [some (.ref 137), some (.int (Int32.ofInt v32)), some (.int (Int32.ofInt 0))]) (st1 := [.ref 137]) (H1 := mz_mk g34 x) rfl ?_
        refine mz_fgR (v := 152) rfl fd_12_76 (by decide) (sc_137 _) (rf_137_25 _ _ _) ?_
        refine mm_g 2 (pc1 := 105) (lo1 := [some (.ref 137), some (.int (Int32.ofInt v32)), some (.int (Int32.ofInt 0))]) (st1 := [.int (Int32.ofInt 0), .int (Int32.ofInt v32), .ref 152]) (H1 := mz_mk g34 x) rfl ?_
        refine mz_sI rfl (sh_152 _) (by omega) (by omega) (by decide) hIg34 (ba_152 _) (by omega) (by omega) (fun g44 hIg44 hug44 => ?_)
        replace hE := zf_tr hE (zf_lg hug44)
        refine mm_g 1 (pc1 := 107) (lo1 := [some (.ref 137), some (.int (Int32.ofInt v32)), some (.int (Int32.ofInt 0))]) (st1 := [.ref 137]) (H1 := mz_mk g44 x) rfl ?_
        refine mz_fgR (v := 153) rfl fd_12_78 (by decide) (sc_137 _) (rf_137_26 _ _ _) ?_
        refine mm_g 2 (pc1 := 112) (lo1 := [some (.ref 137), some (.int (Int32.ofInt v32)), some (.int (Int32.ofInt 0))]) (st1 := [.int (Int32.ofInt 0), .int (Int32.ofInt v32), .ref 153]) (H1 := mz_mk g44 x) rfl ?_
        refine mz_if_eq (tgt := 124) rfl rfl ⟨by decide, by decide⟩ (fun c112_44 => ?_) (fun c112_44 => ?_)
        · skip
          (try unfold zJ_X12_takeOver_98 at hE)
          (try unfold zJ_X12_takeOver_125 at hE)
          (try unfold zJ_X12_takeOver_145 at hE)
          (try unfold zJ_X12_takeOver_165 at hE)
          (try unfold zJ_X12_takeOver_98 at hE)
          (try unfold zJ_X12_takeOver_125 at hE)
          (try unfold zJ_X12_takeOver_145 at hE)
          (try unfold zJ_X12_takeOver_165 at hE)
          replace hE := zf_ip hE c112_44
          refine mm_g 1 (pc1 := 125) (lo1 := [some (.ref 137), some (.int (Int32.ofInt v32)), some (.int (Int32.ofInt 0))]) (st1 := [.int (Int32.ofInt 0), .int (Int32.ofInt v32), .ref 153]) (H1 := mz_mk g44 x) rfl ?_
          refine mz_sI rfl (sh_153 _) (by omega) (by omega) (by decide) hIg44 (ba_153 _) (by omega) (by omega) (fun g45 hIg45 hug45 => ?_)
          replace hE := zf_tr hE (zf_lg hug45)
          refine mm_g 1 (pc1 := 127) (lo1 := [some (.ref 137), some (.int (Int32.ofInt v32)), some (.int (Int32.ofInt 0))]) (st1 := [.ref 137]) (H1 := mz_mk g45 x) rfl ?_
          refine mz_fgR (v := 154) rfl fd_12_80 (by decide) (sc_137 _) (rf_137_27 _ _ _) ?_
          refine mm_g 2 (pc1 := 132) (lo1 := [some (.ref 137), some (.int (Int32.ofInt v32)), some (.int (Int32.ofInt 0))]) (st1 := [.int (Int32.ofInt 0), .int (Int32.ofInt v32), .ref 154]) (H1 := mz_mk g45 x) rfl ?_
          refine mz_if_eq (tgt := 144) rfl rfl ⟨by decide, by decide⟩ (fun c132_45 => ?_) (fun c132_45 => ?_)
          · skip
            (try unfold zJ_X12_takeOver_98 at hE)
            (try unfold zJ_X12_takeOver_125 at hE)
            (try unfold zJ_X12_takeOver_145 at hE)
            (try unfold zJ_X12_takeOver_165 at hE)
            (try unfold zJ_X12_takeOver_98 at hE)
            (try unfold zJ_X12_takeOver_125 at hE)
            (try unfold zJ_X12_takeOver_145 at hE)
            (try unfold zJ_X12_takeOver_165 at hE)
            replace hE := zf_ip hE c132_45
            refine mm_g 1 (pc1 := 145) (lo1 := [some (.ref 137), some (.int (Int32.ofInt v32)), some (.int (Int32.ofInt 0))]) (st1 := [.int (Int32.ofInt 0), .int (Int32.ofInt v32), .ref 154]) (H1 := mz_mk g45 x) rfl ?_
            refine mz_sI rfl (sh_154 _) (by omega) (by omega) (by decide) hIg45 (ba_154 _) (by omega) (by omega) (fun g46 hIg46 hug46 => ?_)
            replace hE := zf_tr hE (zf_lg hug46)
            refine mm_g 1 (pc1 := 147) (lo1 := [some (.ref 137), some (.int (Int32.ofInt v32)), some (.int (Int32.ofInt 0))]) (st1 := [.ref 137]) (H1 := mz_mk g46 x) rfl ?_
            refine mz_fgR (v := 155) rfl fd_12_82 (by decide) (sc_137 _) (rf_137_28 _ _ _) ?_
            refine mm_g 2 (pc1 := 152) (lo1 := [some (.ref 137), some (.int (Int32.ofInt v32)), some (.int (Int32.ofInt 0))]) (st1 := [.int (Int32.ofInt 0), .int (Int32.ofInt v32), .ref 155]) (H1 := mz_mk g46 x) rfl ?_
            refine mz_if_eq (tgt := 164) rfl rfl ⟨by decide, by decide⟩ (fun c152_46 => ?_) (fun c152_46 => ?_)
            · skip
              (try unfold zJ_X12_takeOver_98 at hE)
              (try unfold zJ_X12_takeOver_125 at hE)
              (try unfold zJ_X12_takeOver_145 at hE)
              (try unfold zJ_X12_takeOver_165 at hE)
              (try unfold zJ_X12_takeOver_98 at hE)
              (try unfold zJ_X12_takeOver_125 at hE)
              (try unfold zJ_X12_takeOver_145 at hE)
              (try unfold zJ_X12_takeOver_165 at hE)
              replace hE := zf_ip hE c152_46
              refine mm_g 1 (pc1 := 165) (lo1 := [some (.ref 137), some (.int (Int32.ofInt v32)), some (.int (Int32.ofInt 0))]) (st1 := [.int (Int32.ofInt 0), .int (Int32.ofInt v32), .ref 155]) (H1 := mz_mk g46 x) rfl ?_
              refine mz_sI rfl (sh_155 _) (by omega) (by omega) (by decide) hIg46 (ba_155 _) (by omega) (by omega) (fun g47 hIg47 hug47 => ?_)
              replace hE := zf_tr hE (zf_lg hug47)
              refine mz_iincR (v := v32) (lo2 := [some (.ref 137), some (.int (Int32.ofInt (v32 + 1))), some (.int (Int32.ofInt 0))]) rfl rfl rfl (Nat.le_of_ble_eq_true rfl) rfl ?_
              refine mz_gt (tgt := 77) rfl rfl ?_
              exact ih35 ((6 - (v32 + 1)).toNat) (by omega) (v32 + 1) (some (.int (Int32.ofInt 0))) g47 rfl (by omega) (by omega) (mz_nl_i _) hIg47 (fun k j hk => ((hug47.2 k j (fun h => hk (Or.inr (Or.inr (Or.inr h.1))))).trans ((hug46.2 k j (fun h => hk (Or.inr (Or.inr (Or.inl h.1))))).trans ((hug45.2 k j (fun h => hk (Or.inr (Or.inl h.1)))).trans ((hug44.2 k j (fun h => hk (Or.inl h.1))).trans (hfg34 k j (fun h => hk (Or.elim h (fun h => (Or.inl h)) (fun h => (Or.elim h (fun h => (Or.inr (Or.inl h))) (fun h => (Or.elim h (fun h => (Or.inr (Or.inr (Or.inl h)))) (fun h => (Or.inr (Or.inr (Or.inr h)))))))))))))))) ⟨fj38, Nat.lt_of_lt_of_le (show ((6 - (v32 + 1)).toNat) < n36 from (by omega)) fn39, hE⟩
            · exfalso; omega
          · exfalso; omega
        · exfalso; omega
      · skip
        replace hE := zf_ip hE c90_43
        refine mm_g 1 (pc1 := 94) (lo1 := [some (.ref 137), some (.int (Int32.ofInt v32)), o33]) (st1 := [.int (Int32.ofInt 1)]) (H1 := mz_mk g34 x) rfl ?_
        refine mz_gt (tgt := 98) rfl rfl ?_
        refine mm_g 2 (pc1 := 100) (lo1 := [some (.ref 137), some (.int (Int32.ofInt v32)), some (.int (Int32.ofInt 1))]) (st1 := [.ref 137]) (H1 := mz_mk g34 x) rfl ?_
        refine mz_fgR (v := 152) rfl fd_12_76 (by decide) (sc_137 _) (rf_137_25 _ _ _) ?_
        refine mm_g 2 (pc1 := 105) (lo1 := [some (.ref 137), some (.int (Int32.ofInt v32)), some (.int (Int32.ofInt 1))]) (st1 := [.int (Int32.ofInt 0), .int (Int32.ofInt v32), .ref 152]) (H1 := mz_mk g34 x) rfl ?_
        refine mz_sI rfl (sh_152 _) (by omega) (by omega) (by decide) hIg34 (ba_152 _) (by omega) (by omega) (fun g48 hIg48 hug48 => ?_)
        replace hE := zf_tr hE (zf_lg hug48)
        refine mm_g 1 (pc1 := 107) (lo1 := [some (.ref 137), some (.int (Int32.ofInt v32)), some (.int (Int32.ofInt 1))]) (st1 := [.ref 137]) (H1 := mz_mk g48 x) rfl ?_
        refine mz_fgR (v := 153) rfl fd_12_78 (by decide) (sc_137 _) (rf_137_26 _ _ _) ?_
        refine mm_g 2 (pc1 := 112) (lo1 := [some (.ref 137), some (.int (Int32.ofInt v32)), some (.int (Int32.ofInt 1))]) (st1 := [.int (Int32.ofInt 1), .int (Int32.ofInt v32), .ref 153]) (H1 := mz_mk g48 x) rfl ?_
        refine mz_if_eq (tgt := 124) rfl rfl ⟨by decide, by decide⟩ (fun c112_48 => ?_) (fun c112_48 => ?_)
        · exfalso; omega
        · skip
          (try unfold zJ_X12_takeOver_98 at hE)
          (try unfold zJ_X12_takeOver_125 at hE)
          (try unfold zJ_X12_takeOver_145 at hE)
          (try unfold zJ_X12_takeOver_165 at hE)
          (try unfold zJ_X12_takeOver_98 at hE)
          (try unfold zJ_X12_takeOver_125 at hE)
          (try unfold zJ_X12_takeOver_145 at hE)
          (try unfold zJ_X12_takeOver_165 at hE)
          replace hE := zf_in hE c112_48
          refine mm_g 1 (pc1 := 116) (lo1 := [some (.ref 137), some (.int (Int32.ofInt v32)), some (.int (Int32.ofInt 1))]) (st1 := [.ref 137, .int (Int32.ofInt v32), .ref 153]) (H1 := mz_mk g48 x) rfl ?_
          refine mz_fgR (v := 145) rfl fd_12_51 (by decide) (sc_137 _) (rf_137_8 _ _ _) ?_
          refine mm_g 1 (pc1 := 120) (lo1 := [some (.ref 137), some (.int (Int32.ofInt v32)), some (.int (Int32.ofInt 1))]) (st1 := [.int (Int32.ofInt v32), .ref 145, .int (Int32.ofInt v32), .ref 153]) (H1 := mz_mk g48 x) rfl ?_
          refine mz_aI rfl (sh_145 _) (by omega) (by omega) (by decide) hIg48 (ba_145 _) (fun v49 e_v49 l_v49 u_v49 => ?_)
          replace hE := zf_tr hE (zf_le e_v49)
          have y1_v49 : v43 = g 140 5 := (show g48 140 1 = v43 from ((hug48.2 140 1 (fun h => absurd h.1 (by decide))).trans e_v43)).symm.trans (((hug48.2 140 1 (fun h => absurd h.1 (by decide))).trans ((hfg34 140 1 nj_100).trans (hug31.2 140 1 (fun h => absurd h.1 (by decide))))).trans (tk_140 1 (by decide)))
          have y2_v49 := p2 (v32 : Int).toNat (by omega)
          have y3_v49 : v49 = g 145 (6 + (v32 : Int).toNat) := e_v49.symm.trans (((hug48.2 145 (v32 : Int).toNat (fun h => absurd h.1 (by decide))).trans ((hfg34 145 (v32 : Int).toNat nj_103).trans (hug31.2 145 (v32 : Int).toNat (fun h => absurd h.1 (by decide))))).trans (tk_145 _ (by omega)))
          refine mz_gt (tgt := 125) rfl rfl ?_
          refine mz_sI rfl (sh_153 _) (by omega) (by omega) (by decide) hIg48 (ba_153 _) (by omega) (by omega) (fun g50 hIg50 hug50 => ?_)
          replace hE := zf_tr hE (zf_lg hug50)
          refine mm_g 1 (pc1 := 127) (lo1 := [some (.ref 137), some (.int (Int32.ofInt v32)), some (.int (Int32.ofInt 1))]) (st1 := [.ref 137]) (H1 := mz_mk g50 x) rfl ?_
          refine mz_fgR (v := 154) rfl fd_12_80 (by decide) (sc_137 _) (rf_137_27 _ _ _) ?_
          refine mm_g 2 (pc1 := 132) (lo1 := [some (.ref 137), some (.int (Int32.ofInt v32)), some (.int (Int32.ofInt 1))]) (st1 := [.int (Int32.ofInt 1), .int (Int32.ofInt v32), .ref 154]) (H1 := mz_mk g50 x) rfl ?_
          refine mz_if_eq (tgt := 144) rfl rfl ⟨by decide, by decide⟩ (fun c132_50 => ?_) (fun c132_50 => ?_)
          · exfalso; omega
          · skip
            (try unfold zJ_X12_takeOver_98 at hE)
            (try unfold zJ_X12_takeOver_125 at hE)
            (try unfold zJ_X12_takeOver_145 at hE)
            (try unfold zJ_X12_takeOver_165 at hE)
            (try unfold zJ_X12_takeOver_98 at hE)
            (try unfold zJ_X12_takeOver_125 at hE)
            (try unfold zJ_X12_takeOver_145 at hE)
            (try unfold zJ_X12_takeOver_165 at hE)
            replace hE := zf_in hE c132_50
            refine mm_g 1 (pc1 := 136) (lo1 := [some (.ref 137), some (.int (Int32.ofInt v32)), some (.int (Int32.ofInt 1))]) (st1 := [.ref 137, .int (Int32.ofInt v32), .ref 154]) (H1 := mz_mk g50 x) rfl ?_
            refine mz_fgR (v := 146) rfl fd_12_54 (by decide) (sc_137 _) (rf_137_9 _ _ _) ?_
            refine mm_g 1 (pc1 := 140) (lo1 := [some (.ref 137), some (.int (Int32.ofInt v32)), some (.int (Int32.ofInt 1))]) (st1 := [.int (Int32.ofInt v32), .ref 146, .int (Int32.ofInt v32), .ref 154]) (H1 := mz_mk g50 x) rfl ?_
            refine mz_aI rfl (sh_146 _) (by omega) (by omega) (by decide) hIg50 (ba_146 _) (fun v51 e_v51 l_v51 u_v51 => ?_)
            replace hE := zf_tr hE (zf_le e_v51)
            have y1_v51 : v43 = g 140 5 := (show g50 140 1 = v43 from ((hug50.2 140 1 (fun h => absurd h.1 (by decide))).trans ((hug48.2 140 1 (fun h => absurd h.1 (by decide))).trans e_v43))).symm.trans (((hug50.2 140 1 (fun h => absurd h.1 (by decide))).trans ((hug48.2 140 1 (fun h => absurd h.1 (by decide))).trans ((hfg34 140 1 nj_100).trans (hug31.2 140 1 (fun h => absurd h.1 (by decide)))))).trans (tk_140 1 (by decide)))
            have y2_v51 := p2 (v32 : Int).toNat (by omega)
            have y3_v51 : v51 = g 146 (6 + (v32 : Int).toNat) := e_v51.symm.trans (((hug50.2 146 (v32 : Int).toNat (fun h => absurd h.1 (by decide))).trans ((hug48.2 146 (v32 : Int).toNat (fun h => absurd h.1 (by decide))).trans ((hfg34 146 (v32 : Int).toNat nj_104).trans (hug31.2 146 (v32 : Int).toNat (fun h => absurd h.1 (by decide)))))).trans (tk_146 _ (by omega)))
            refine mz_gt (tgt := 145) rfl rfl ?_
            refine mz_sI rfl (sh_154 _) (by omega) (by omega) (by decide) hIg50 (ba_154 _) (by omega) (by omega) (fun g52 hIg52 hug52 => ?_)
            replace hE := zf_tr hE (zf_lg hug52)
            refine mm_g 1 (pc1 := 147) (lo1 := [some (.ref 137), some (.int (Int32.ofInt v32)), some (.int (Int32.ofInt 1))]) (st1 := [.ref 137]) (H1 := mz_mk g52 x) rfl ?_
            refine mz_fgR (v := 155) rfl fd_12_82 (by decide) (sc_137 _) (rf_137_28 _ _ _) ?_
            refine mm_g 2 (pc1 := 152) (lo1 := [some (.ref 137), some (.int (Int32.ofInt v32)), some (.int (Int32.ofInt 1))]) (st1 := [.int (Int32.ofInt 1), .int (Int32.ofInt v32), .ref 155]) (H1 := mz_mk g52 x) rfl ?_
            refine mz_if_eq (tgt := 164) rfl rfl ⟨by decide, by decide⟩ (fun c152_52 => ?_) (fun c152_52 => ?_)
            · exfalso; omega
            · skip
              (try unfold zJ_X12_takeOver_98 at hE)
              (try unfold zJ_X12_takeOver_125 at hE)
              (try unfold zJ_X12_takeOver_145 at hE)
              (try unfold zJ_X12_takeOver_165 at hE)
              (try unfold zJ_X12_takeOver_98 at hE)
              (try unfold zJ_X12_takeOver_125 at hE)
              (try unfold zJ_X12_takeOver_145 at hE)
              (try unfold zJ_X12_takeOver_165 at hE)
              replace hE := zf_in hE c152_52
              refine mm_g 1 (pc1 := 156) (lo1 := [some (.ref 137), some (.int (Int32.ofInt v32)), some (.int (Int32.ofInt 1))]) (st1 := [.ref 137, .int (Int32.ofInt v32), .ref 155]) (H1 := mz_mk g52 x) rfl ?_
              refine mz_fgR (v := 147) rfl fd_12_57 (by decide) (sc_137 _) (rf_137_10 _ _ _) ?_
              refine mm_g 1 (pc1 := 160) (lo1 := [some (.ref 137), some (.int (Int32.ofInt v32)), some (.int (Int32.ofInt 1))]) (st1 := [.int (Int32.ofInt v32), .ref 147, .int (Int32.ofInt v32), .ref 155]) (H1 := mz_mk g52 x) rfl ?_
              refine mz_aI rfl (sh_147 _) (by omega) (by omega) (by decide) hIg52 (ba_147 _) (fun v53 e_v53 l_v53 u_v53 => ?_)
              replace hE := zf_tr hE (zf_le e_v53)
              refine mz_gt (tgt := 165) rfl rfl ?_
              refine mz_sI rfl (sh_155 _) (by omega) (by omega) (by decide) hIg52 (ba_155 _) (by omega) (by omega) (fun g54 hIg54 hug54 => ?_)
              replace hE := zf_tr hE (zf_lg hug54)
              refine mz_iincR (v := v32) (lo2 := [some (.ref 137), some (.int (Int32.ofInt (v32 + 1))), some (.int (Int32.ofInt 1))]) rfl rfl rfl (Nat.le_of_ble_eq_true rfl) rfl ?_
              refine mz_gt (tgt := 77) rfl rfl ?_
              exact ih35 ((6 - (v32 + 1)).toNat) (by omega) (v32 + 1) (some (.int (Int32.ofInt 1))) g54 rfl (by omega) (by omega) (mz_nl_i _) hIg54 (fun k j hk => ((hug54.2 k j (fun h => hk (Or.inr (Or.inr (Or.inr h.1))))).trans ((hug52.2 k j (fun h => hk (Or.inr (Or.inr (Or.inl h.1))))).trans ((hug50.2 k j (fun h => hk (Or.inr (Or.inl h.1)))).trans ((hug48.2 k j (fun h => hk (Or.inl h.1))).trans (hfg34 k j (fun h => hk (Or.elim h (fun h => (Or.inl h)) (fun h => (Or.elim h (fun h => (Or.inr (Or.inl h))) (fun h => (Or.elim h (fun h => (Or.inr (Or.inr (Or.inl h)))) (fun h => (Or.inr (Or.inr (Or.inr h)))))))))))))))) ⟨fj38, Nat.lt_of_lt_of_le (show ((6 - (v32 + 1)).toNat) < n36 from (by omega)) fn39, hE⟩
  exact L37 _ 0 none g31 rfl (by decide) (by decide) mz_nl_n hIg31 (fun _ _ _ => rfl) ⟨3000000000, by omega, hE⟩
