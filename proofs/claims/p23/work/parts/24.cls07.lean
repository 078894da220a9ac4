/-! EXACT: the class (wip/p2/tools/gen50.py) -/
theorem bip_7 : (Int8.ofInt 7).toInt32 = Int32.ofInt 7 := by decide
theorem bip_25 : (Int8.ofInt 25).toInt32 = Int32.ofInt 25 := by decide
theorem sip_999 : (Int16.ofInt 999).toInt32 = Int32.ofInt 999 := by decide
theorem fd_1_110 : mm_tab mm_fldT 1 110 = some (9, 3, 1) ∧ mm_tab mm_ftT 9 3 = some 0 := ⟨rfl, rfl⟩
theorem fd_1_120 : mm_tab mm_fldT 1 120 = some (8, 2, 1) ∧ mm_tab mm_ftT 8 2 = some 0 := ⟨rfl, rfl⟩
theorem fd_1_146 : mm_tab mm_fldT 1 146 = some (8, 4, 1) ∧ mm_tab mm_ftT 8 4 = some 1 := ⟨rfl, rfl⟩
theorem fd_5_19 : mm_tab mm_fldT 5 19 = some (5, 2, 0) ∧ mm_tab mm_ftT 5 2 = some 6 := ⟨rfl, rfl⟩
theorem fd_5_22 : mm_tab mm_fldT 5 22 = some (5, 3, 0) ∧ mm_tab mm_ftT 5 3 = some 6 := ⟨rfl, rfl⟩
theorem fd_5_29 : mm_tab mm_fldT 5 29 = some (8, 2, 1) ∧ mm_tab mm_ftT 8 2 = some 0 := ⟨rfl, rfl⟩
theorem fd_5_34 : mm_tab mm_fldT 5 34 = some (8, 3, 1) ∧ mm_tab mm_ftT 8 3 = some 0 := ⟨rfl, rfl⟩
theorem fd_6_18 : mm_tab mm_fldT 6 18 = some (6, 1, 0) ∧ mm_tab mm_ftT 6 1 = some 6 := ⟨rfl, rfl⟩
theorem fd_11_51 : mm_tab mm_fldT 11 51 = some (11, 8, 0) ∧ mm_tab mm_ftT 11 8 = some 6 := ⟨rfl, rfl⟩
theorem fd_11_58 : mm_tab mm_fldT 11 58 = some (11, 9, 0) ∧ mm_tab mm_ftT 11 9 = some 6 := ⟨rfl, rfl⟩
theorem fd_11_84 : mm_tab mm_fldT 11 84 = some (11, 13, 0) ∧ mm_tab mm_ftT 11 13 = some 6 := ⟨rfl, rfl⟩
theorem fd_11_88 : mm_tab mm_fldT 11 88 = some (11, 14, 0) ∧ mm_tab mm_ftT 11 14 = some 6 := ⟨rfl, rfl⟩
theorem fd_11_234 : mm_tab mm_fldT 11 234 = some (8, 2, 1) ∧ mm_tab mm_ftT 8 2 = some 0 := ⟨rfl, rfl⟩
theorem fd_11_237 : mm_tab mm_fldT 11 237 = some (8, 3, 1) ∧ mm_tab mm_ftT 8 3 = some 0 := ⟨rfl, rfl⟩
theorem mt_1_113 : mm_tab mm_mthT 1 113 = some (1, 15, 1, 0, 1) := rfl
theorem mt_1_116 : mm_tab mm_mthT 1 116 = some (1, 23, 3, 0, 1) := rfl
theorem mt_1_123 : mm_tab mm_mthT 1 123 = some (1, 59, 0, 0, 5) := rfl
theorem mt_1_127 : mm_tab mm_mthT 1 127 = some (1, 61, 3, 0, 5) := rfl
theorem mt_1_130 : mm_tab mm_mthT 1 130 = some (1, 110, 1, 0, 10) := rfl
theorem mt_1_133 : mm_tab mm_mthT 1 133 = some (1, 111, 2, 0, 10) := rfl
theorem mt_1_136 : mm_tab mm_mthT 1 136 = some (1, 62, 3, 0, 5) := rfl
theorem mt_1_140 : mm_tab mm_mthT 1 140 = some (1, 63, 0, 0, 5) := rfl
theorem mt_1_143 : mm_tab mm_mthT 1 143 = some (4, 0, 2, 0, 0) := rfl
theorem mt_5_37 : mm_tab mm_mthT 5 37 = some (0, 176, 2, 1, 11) := rfl
theorem mt_5_41 : mm_tab mm_mthT 5 41 = some (0, 64, 3, 0, 5) := rfl
theorem mt_6_60 : mm_tab mm_mthT 6 60 = some (1, 102, 2, 0, 9) := rfl
theorem mt_9_53 : mm_tab mm_mthT 9 53 = some (0, 177, 3, 1, 11) := rfl
theorem mt_11_231 : mm_tab mm_mthT 11 231 = some (1, 172, 1, 0, 11) := rfl
theorem mt_11_240 : mm_tab mm_mthT 11 240 = some (1, 16, 1, 0, 1) := rfl
theorem mt_11_244 : mm_tab mm_mthT 11 244 = some (1, 18, 1, 0, 1) := rfl
theorem mt_11_247 : mm_tab mm_mthT 11 247 = some (1, 153, 0, 0, 11) := rfl
theorem mt_11_250 : mm_tab mm_mthT 11 250 = some (1, 30, 1, 0, 3) := rfl
theorem mt_11_253 : mm_tab mm_mthT 11 253 = some (1, 71, 0, 0, 6) := rfl
theorem mt_11_256 : mm_tab mm_mthT 11 256 = some (1, 22, 1, 0, 1) := rfl
theorem mt_11_259 : mm_tab mm_mthT 11 259 = some (1, 17, 1, 0, 1) := rfl
theorem mt_11_263 : mm_tab mm_mthT 11 263 = some (4, 0, 2, 0, 0) := rfl
theorem mt_11_269 : mm_tab mm_mthT 11 269 = some (1, 96, 0, 0, 8) := rfl
theorem mt_11_286 : mm_tab mm_mthT 11 286 = some (1, 19, 2, 0, 1) := rfl
theorem mt_11_293 : mm_tab mm_mthT 11 293 = some (1, 25, 2, 0, 2) := rfl
theorem mt_11_337 : mm_tab mm_mthT 11 337 = some (1, 28, 3, 0, 3) := rfl
theorem mt_11_340 : mm_tab mm_mthT 11 340 = some (1, 31, 1, 0, 3) := rfl
theorem rf_0_8 (a b : Nat) (c : Option Nat) : mm_HR a b c 0 8 = some 116 := rfl
theorem rf_0_9 (a b : Nat) (c : Option Nat) : mm_HR a b c 0 9 = some 118 := rfl
theorem rf_0_13 (a b : Nat) (c : Option Nat) : mm_HR a b c 0 13 = some 133 := rfl
theorem rf_0_14 (a b : Nat) (c : Option Nat) : mm_HR a b c 0 14 = some 135 := rfl
theorem kr_rule_2 {q : Nat} (h : kd_rule q) (a b : Nat) (c : Option Nat) : mm_HR a b c q 2 = some (q + 2) := by unfold kd_rule at h; rcases h with rfl | rfl <;> rfl
theorem kr_rule_3 {q : Nat} (h : kd_rule q) (a b : Nat) (c : Option Nat) : mm_HR a b c q 3 = some (q + 3) := by unfold kd_rule at h; rcases h with rfl | rfl <;> rfl
theorem kr_story_1 {q : Nat} (h : kd_story q) (a b : Nat) (c : Option Nat) : mm_HR a b c q 1 = some (q + 10) := by unfold kd_story at h; rcases h with rfl | rfl <;> rfl
theorem ka_rule_2 {q : Nat} (h : kd_rule q) (L : Nat) : mm_SH L (q + 2) = (100, 7) := by unfold kd_rule at h; rcases h with rfl | rfl <;> rfl
theorem kba_rule_2 {q : Nat} (h : kd_rule q) (j : Nat) : mz_bd (q + 2) j = ((-2147483648), 2147483647) := by unfold kd_rule at h; rcases h with rfl | rfl <;> rfl
theorem ka_rule_3 {q : Nat} (h : kd_rule q) (L : Nat) : mm_SH L (q + 3) = (100, 40) := by unfold kd_rule at h; rcases h with rfl | rfl <;> rfl
theorem kba_rule_3 {q : Nat} (h : kd_rule q) (j : Nat) : mz_bd (q + 3) j = ((-2147483648), 2147483647) := by unfold kd_rule at h; rcases h with rfl | rfl <;> rfl
theorem ka_story_1 {q : Nat} (h : kd_story q) (L : Nat) : mm_SH L (q + 10) = (100, 1000) := by unfold kd_story at h; rcases h with rfl | rfl <;> rfl
theorem kba_story_1 {q : Nat} (h : kd_story q) (j : Nat) : mz_bd (q + 10) j = ((-2147483648), 2147483647) := by unfold kd_story at h; rcases h with rfl | rfl <;> rfl
theorem kp_let_133 : kd_let 133 := by unfold kd_let; decide
theorem kp_let_135 : kd_let 135 := by unfold kd_let; decide
def fl_X11_findCouples_7 (x : mm_X) : Nat → Nat → Prop := fun k j => k = 133 ∨ k = 134 ∨ k = 135 ∨ k = 136 ∨ k = 117 ∨ k = 119
def fl_X11_findCouples_38 (x : mm_X) : Nat → Nat → Prop := fun k j => k = 135 ∨ k = 136 ∨ k = 117 ∨ k = 119
def fw_X11_findCouples (x : mm_X) : Nat → Nat → Prop := fun k j => k = 133 ∨ k = 134 ∨ k = 135 ∨ k = 136 ∨ k = 117 ∨ k = 119 ∨ k = 120 ∨ (k = 118 ∧ j = 3) ∨ k = 121
theorem f_X11_findCouples {d : Nat} (hd : 14 ≤ d) {x : mm_X} (hx : mk_x x) {g : mz_G} (hI : mz_inv g) {Q : (Option Value ⊕ Nat) → mm_H → Prop} (hQ : ∀ (g1 : mz_G), mz_inv g1 → mz_fr (fw_X11_findCouples x) g g1 → zf_E (zF_X11_findCouples x g) (g1) → Q (.inl none) (mz_mk g1 x)) : mm_C d 153 [.ref 0] (mz_mk g x) Q := by
  have kx := kn_x hx
  refine ⟨mmX11_findCouples, [some (.ref 0), none, none, none], rfl, rfl, ?_⟩
  have hE : zf_E (zF_X11_findCouples x g) (zF_X11_findCouples x g) := zf_rf
  refine mm_g 1 (pc1 := 1) (lo1 := [some (.ref 0), none, none, none]) (st1 := [.ref 0]) (H1 := mz_mk g x) rfl ?_
  refine mz_cv rfl mt_11_155 (by decide) (sc_0 _) rfl (Nat.le_of_ble_eq_true rfl) (by omega) (f_X11_trunkCount (by omega) hx hI (fun v1 l_v1 u_v1 hc2 => ⟨_, rfl, ?_⟩))
  show mm_W d mmX11_findCouples 4 [some (.ref 0), none, none, none] [.int (Int32.ofInt v1)] (mz_mk g x) Q
  replace hE := zf_t1 hE hc2
  refine mm_g 3 (pc1 := 7) (lo1 := [some (.ref 0), some (.int (Int32.ofInt v1)), some (.int (Int32.ofInt 0)), none]) (st1 := []) (H1 := mz_mk g x) rfl ?_
  have L8 : ∀ n7 : Nat, ∀ (v3 : Int) (o4 : Option Value) (g5 : mz_G), (6 - v3).toNat = n7 → 0 ≤ v3 → v3 ≤ 6 → mz_nl o4 → mz_inv g5 → mz_fr (fl_X11_findCouples_7 x) g g5 → (∃ fk : Nat, (6 - v3).toNat < fk ∧ zf_E (zF_X11_findCouples x g) (zL_X11_findCouples_7 x fk v1 v3 g5)) → mm_W d mmX11_findCouples 7 [some (.ref 0), some (.int (Int32.ofInt v1)), some (.int (Int32.ofInt v3)), o4] [] (mz_mk g5 x) Q := by
    intro n7
    induction n7 using Nat.strongRecOn with
    | ind n7 ih6 =>
    intro v3 o4 g5 hmn7 l_v3 u_v3 h_o4 hIg5 hfg5 hF
    obtain ⟨fk, fl, hE⟩ := hF
    obtain ⟨fj9, rfl⟩ : ∃ fj, fk = fj + 1 := ⟨fk - 1, by omega⟩
    have fn10 : n7 ≤ fj9 := by omega
    replace hE := zf_tr hE zL_X11_findCouples_7_s
    refine mm_g 2 (pc1 := 9) (lo1 := [some (.ref 0), some (.int (Int32.ofInt v1)), some (.int (Int32.ofInt v3)), o4]) (st1 := [.int (Int32.ofInt v1), .int (Int32.ofInt v3)]) (H1 := mz_mk g5 x) rfl ?_
    refine mz_ic_ge (tgt := 101) rfl rfl (mz_rg l_v3 u_v3) (mz_rg l_v1 u_v1) (fun c9_10 => ?_) (fun c9_10 => ?_)
    · skip
      replace hE := zf_nl hE c9_10
      refine mm_g 1 (pc1 := 102) (lo1 := [some (.ref 0), some (.int (Int32.ofInt v1)), some (.int (Int32.ofInt v3)), o4]) (st1 := [.ref 0]) (H1 := mz_mk g5 x) rfl ?_
      refine mz_fgR (v := 118) rfl fd_11_58 (by decide) (sc_0 _) (rf_0_9 _ _ _) ?_
      refine mm_g 1 (pc1 := 106) (lo1 := [some (.ref 0), some (.int (Int32.ofInt v1)), some (.int (Int32.ofInt v3)), o4]) (st1 := [.int (Int32.ofInt v1), .ref 118]) (H1 := mz_mk g5 x) rfl ?_
      refine mz_cv rfl mt_11_340 (by decide) (sc_118 _) rfl (Nat.le_of_ble_eq_true rfl) (by omega) (f_X3_find (by omega) hx hIg5 l_v1 u_v1 (fun g11 hIg11 hfg11 hc12 => ⟨_, rfl, ?_⟩))
      show mm_W d mmX11_findCouples 109 [some (.ref 0), some (.int (Int32.ofInt v1)), some (.int (Int32.ofInt v3)), o4] [] (mz_mk g11 x) Q
      replace hE := zf_t1 hE hc12
      exact mm_rt rfl rfl (hQ _ hIg11 (fun k j hk => ((hfg11 k j (fun h => hk (Or.elim h (fun h => (Or.inr (Or.inr (Or.inr (Or.inr (Or.inr (Or.inr (Or.inl h)))))))) (fun h => (Or.elim h (fun h => (Or.inr (Or.inr (Or.inr (Or.inr (Or.inr (Or.inr (Or.inr (Or.inl h))))))))) (fun h => (Or.inr (Or.inr (Or.inr (Or.inr (Or.inr (Or.inr (Or.inr (Or.inr h)))))))))))))).trans (hfg5 k j (fun h => hk (Or.elim h (fun h => (Or.inl h)) (fun h => (Or.elim h (fun h => (Or.inr (Or.inl h))) (fun h => (Or.elim h (fun h => (Or.inr (Or.inr (Or.inl h)))) (fun h => (Or.elim h (fun h => (Or.inr (Or.inr (Or.inr (Or.inl h))))) (fun h => (Or.elim h (fun h => (Or.inr (Or.inr (Or.inr (Or.inr (Or.inl h)))))) (fun h => (Or.inr (Or.inr (Or.inr (Or.inr (Or.inr (Or.inl h)))))))))))))))))))) hE)
    · skip
      replace hE := zf_ip hE c9_10
      refine mm_g 1 (pc1 := 13) (lo1 := [some (.ref 0), some (.int (Int32.ofInt v1)), some (.int (Int32.ofInt v3)), o4]) (st1 := [.ref 0]) (H1 := mz_mk g5 x) rfl ?_
      refine mz_fgR (v := x.1) rfl fd_11_16 (by decide) (sc_0 _) rfl ?_
      refine mm_g 1 (pc1 := 17) (lo1 := [some (.ref 0), some (.int (Int32.ofInt v1)), some (.int (Int32.ofInt v3)), o4]) (st1 := [.ref 0, .ref x.1]) (H1 := mz_mk g5 x) rfl ?_
      refine mz_fgR (v := 86) rfl fd_11_37 (by decide) (sc_0 _) (rf_0_5 _ _ _) ?_
      refine mz_fgR (v := 87) rfl fd_11_158 (by decide) (sc_86 _) (rf_86_0 _ _ _) ?_
      refine mm_g 1 (pc1 := 24) (lo1 := [some (.ref 0), some (.int (Int32.ofInt v1)), some (.int (Int32.ofInt v3)), o4]) (st1 := [.int (Int32.ofInt v3), .ref 87, .ref x.1]) (H1 := mz_mk g5 x) rfl ?_
      refine mz_cv rfl mt_11_192 (by decide) (sc_87 _) rfl (Nat.le_of_ble_eq_true rfl) (by omega) (f_X9_get (by omega) hx hIg5 kp_tks_87 (by omega) (by omega) (fun u13 k_u13 hp14 hc15 => ⟨_, rfl, ?_⟩))
      show mm_W d mmX11_findCouples 27 [some (.ref 0), some (.int (Int32.ofInt v1)), some (.int (Int32.ofInt v3)), o4] [.ref u13, .ref x.1] (mz_mk g5 x) Q
      replace hE := zf_t1 hE hc15
      refine mm_g 1 (pc1 := 28) (lo1 := [some (.ref 0), some (.int (Int32.ofInt v1)), some (.int (Int32.ofInt v3)), o4]) (st1 := [.ref 0, .ref u13, .ref x.1]) (H1 := mz_mk g5 x) rfl ?_
      refine mz_fgR (v := 133) rfl fd_11_84 (by decide) (sc_0 _) (rf_0_13 _ _ _) ?_
      refine mz_cv rfl mt_11_286 (by decide) (kc_load (kx_1 hx) _) rfl (Nat.le_of_ble_eq_true rfl) (by omega) (f_X1_blendInto (by omega) hx hIg5 (kx_1 hx) k_u13 kp_let_133 (fun g16 hIg16 hfg16 hc17 => ⟨_, rfl, ?_⟩))
      show mm_W d mmX11_findCouples 34 [some (.ref 0), some (.int (Int32.ofInt v1)), some (.int (Int32.ofInt v3)), o4] [] (mz_mk g16 x) Q
      replace hE := zf_t1 hE hc17
      refine mm_g 2 (pc1 := 36) (lo1 := [some (.ref 0), some (.int (Int32.ofInt v1)), some (.int (Int32.ofInt v3)), o4]) (st1 := [.int (Int32.ofInt 1), .int (Int32.ofInt v3)]) (H1 := mz_mk g16 x) rfl ?_
      refine mz_iadd rfl ?_
      refine mm_g 1 (pc1 := 38) (lo1 := [some (.ref 0), some (.int (Int32.ofInt v1)), some (.int (Int32.ofInt v3)), some (.int (Int32.ofInt (v3 + 1)))]) (st1 := []) (H1 := mz_mk g16 x) rfl ?_
      have hO22 := hE
      have L23 : ∀ n21 : Nat, ∀ (v18 : Int) (g19 : mz_G), (6 - v18).toNat = n21 → 1 ≤ v18 → v18 ≤ 6 → mz_inv g19 → mz_fr (fl_X11_findCouples_38 x) g16 g19 → (∃ fk : Nat, (6 - v18).toNat < fk ∧ zf_E (zL_X11_findCouples_38 x 3000000000 v1 v3 (v3 + 1) g16) (zL_X11_findCouples_38 x fk v1 v3 v18 g19)) → mm_W d mmX11_findCouples 38 [some (.ref 0), some (.int (Int32.ofInt v1)), some (.int (Int32.ofInt v3)), some (.int (Int32.ofInt v18))] [] (mz_mk g19 x) Q := by
        intro n21
        induction n21 using Nat.strongRecOn with
        | ind n21 ih20 =>
        intro v18 g19 hmn21 l_v18 u_v18 hIg19 hfg19 hF
        obtain ⟨fk, fl, hE⟩ := hF
        obtain ⟨fj24, rfl⟩ : ∃ fj, fk = fj + 1 := ⟨fk - 1, by omega⟩
        have fn25 : n21 ≤ fj24 := by omega
        replace hE := zf_tr hE zL_X11_findCouples_38_s
        refine mm_g 2 (pc1 := 40) (lo1 := [some (.ref 0), some (.int (Int32.ofInt v1)), some (.int (Int32.ofInt v3)), some (.int (Int32.ofInt v18))]) (st1 := [.int (Int32.ofInt v1), .int (Int32.ofInt v18)]) (H1 := mz_mk g19 x) rfl ?_
        refine mz_ic_ge (tgt := 95) rfl rfl (mz_rg l_v18 u_v18) (mz_rg l_v1 u_v1) (fun c40_25 => ?_) (fun c40_25 => ?_)
        · skip
          replace hE := zf_nl hE c40_25
          replace hE := zf_t1 hO22 hE
          refine mz_iincR (v := v3) (lo2 := [some (.ref 0), some (.int (Int32.ofInt v1)), some (.int (Int32.ofInt (v3 + 1))), some (.int (Int32.ofInt v18))]) rfl rfl rfl (Nat.le_of_ble_eq_true rfl) rfl ?_
          refine mz_gt (tgt := 7) rfl rfl ?_
          exact ih6 ((6 - (v3 + 1)).toNat) (by omega) (v3 + 1) (some (.int (Int32.ofInt v18))) g19 rfl (by omega) (by omega) (mz_nl_i _) hIg19 (fun k j hk => ((hfg19 k j (fun h => hk (Or.elim h (fun h => (Or.inr (Or.inr (Or.inl h)))) (fun h => (Or.elim h (fun h => (Or.inr (Or.inr (Or.inr (Or.inl h))))) (fun h => (Or.elim h (fun h => (Or.inr (Or.inr (Or.inr (Or.inr (Or.inl h)))))) (fun h => (Or.inr (Or.inr (Or.inr (Or.inr (Or.inr h))))))))))))).trans ((hfg16 k j (fun h => hk (Or.elim h (fun h => (Or.inl h)) (fun h => (Or.inr (Or.inl h)))))).trans (hfg5 k j (fun h => hk (Or.elim h (fun h => (Or.inl h)) (fun h => (Or.elim h (fun h => (Or.inr (Or.inl h))) (fun h => (Or.elim h (fun h => (Or.inr (Or.inr (Or.inl h)))) (fun h => (Or.elim h (fun h => (Or.inr (Or.inr (Or.inr (Or.inl h))))) (fun h => (Or.elim h (fun h => (Or.inr (Or.inr (Or.inr (Or.inr (Or.inl h)))))) (fun h => (Or.inr (Or.inr (Or.inr (Or.inr (Or.inr h)))))))))))))))))))) ⟨fj9, Nat.lt_of_lt_of_le (show ((6 - (v3 + 1)).toNat) < n7 from (by omega)) fn10, hE⟩
        · skip
          replace hE := zf_ip hE c40_25
          refine mm_g 1 (pc1 := 44) (lo1 := [some (.ref 0), some (.int (Int32.ofInt v1)), some (.int (Int32.ofInt v3)), some (.int (Int32.ofInt v18))]) (st1 := [.ref 0]) (H1 := mz_mk g19 x) rfl ?_
          refine mz_fgR (v := x.1) rfl fd_11_16 (by decide) (sc_0 _) rfl ?_
          refine mm_g 1 (pc1 := 48) (lo1 := [some (.ref 0), some (.int (Int32.ofInt v1)), some (.int (Int32.ofInt v3)), some (.int (Int32.ofInt v18))]) (st1 := [.ref 0, .ref x.1]) (H1 := mz_mk g19 x) rfl ?_
          refine mz_fgR (v := 86) rfl fd_11_37 (by decide) (sc_0 _) (rf_0_5 _ _ _) ?_
          refine mz_fgR (v := 87) rfl fd_11_158 (by decide) (sc_86 _) (rf_86_0 _ _ _) ?_
          refine mm_g 1 (pc1 := 55) (lo1 := [some (.ref 0), some (.int (Int32.ofInt v1)), some (.int (Int32.ofInt v3)), some (.int (Int32.ofInt v18))]) (st1 := [.int (Int32.ofInt v18), .ref 87, .ref x.1]) (H1 := mz_mk g19 x) rfl ?_
          refine mz_cv rfl mt_11_192 (by decide) (sc_87 _) rfl (Nat.le_of_ble_eq_true rfl) (by omega) (f_X9_get (by omega) hx hIg19 kp_tks_87 (by omega) (by omega) (fun u26 k_u26 hp27 hc28 => ⟨_, rfl, ?_⟩))
          show mm_W d mmX11_findCouples 58 [some (.ref 0), some (.int (Int32.ofInt v1)), some (.int (Int32.ofInt v3)), some (.int (Int32.ofInt v18))] [.ref u26, .ref x.1] (mz_mk g19 x) Q
          replace hE := zf_t1 hE hc28
          refine mm_g 1 (pc1 := 59) (lo1 := [some (.ref 0), some (.int (Int32.ofInt v1)), some (.int (Int32.ofInt v3)), some (.int (Int32.ofInt v18))]) (st1 := [.ref 0, .ref u26, .ref x.1]) (H1 := mz_mk g19 x) rfl ?_
          refine mz_fgR (v := 135) rfl fd_11_88 (by decide) (sc_0 _) (rf_0_14 _ _ _) ?_
          refine mz_cv rfl mt_11_286 (by decide) (kc_load (kx_1 hx) _) rfl (Nat.le_of_ble_eq_true rfl) (by omega) (f_X1_blendInto (by omega) hx hIg19 (kx_1 hx) k_u26 kp_let_135 (fun g29 hIg29 hfg29 hc30 => ⟨_, rfl, ?_⟩))
          show mm_W d mmX11_findCouples 65 [some (.ref 0), some (.int (Int32.ofInt v1)), some (.int (Int32.ofInt v3)), some (.int (Int32.ofInt v18))] [] (mz_mk g29 x) Q
          replace hE := zf_t1 hE hc30
          refine mm_g 1 (pc1 := 66) (lo1 := [some (.ref 0), some (.int (Int32.ofInt v1)), some (.int (Int32.ofInt v3)), some (.int (Int32.ofInt v18))]) (st1 := [.ref 0]) (H1 := mz_mk g29 x) rfl ?_
          refine mz_fgR (v := 118) rfl fd_11_58 (by decide) (sc_0 _) (rf_0_9 _ _ _) ?_
          refine mm_g 3 (pc1 := 72) (lo1 := [some (.ref 0), some (.int (Int32.ofInt v1)), some (.int (Int32.ofInt v3)), some (.int (Int32.ofInt v18))]) (st1 := [.ref 0, .int (Int32.ofInt v18), .int (Int32.ofInt v3), .ref 118]) (H1 := mz_mk g29 x) rfl ?_
          refine mz_fgR (v := 116) rfl fd_11_51 (by decide) (sc_0 _) (rf_0_8 _ _ _) ?_
          refine mm_g 1 (pc1 := 76) (lo1 := [some (.ref 0), some (.int (Int32.ofInt v1)), some (.int (Int32.ofInt v3)), some (.int (Int32.ofInt v18))]) (st1 := [.ref 0, .ref 116, .int (Int32.ofInt v18), .int (Int32.ofInt v3), .ref 118]) (H1 := mz_mk g29 x) rfl ?_
          refine mz_fgR (v := 133) rfl fd_11_84 (by decide) (sc_0 _) (rf_0_13 _ _ _) ?_
          refine mm_g 1 (pc1 := 80) (lo1 := [some (.ref 0), some (.int (Int32.ofInt v1)), some (.int (Int32.ofInt v3)), some (.int (Int32.ofInt v18))]) (st1 := [.ref 0, .ref 133, .ref 116, .int (Int32.ofInt v18), .int (Int32.ofInt v3), .ref 118]) (H1 := mz_mk g29 x) rfl ?_
          refine mz_fgR (v := 135) rfl fd_11_88 (by decide) (sc_0 _) (rf_0_14 _ _ _) ?_
          refine mz_cv rfl mt_11_293 (by decide) (sc_116 _) rfl (Nat.le_of_ble_eq_true rfl) (by omega) (f_X2_changes (by omega) hx hIg29 kp_let_133 kp_let_135 (fun v31 g32 hIg32 hfg32 l_v31 u_v31 hc33 => ⟨_, rfl, ?_⟩))
          show mm_W d mmX11_findCouples 86 [some (.ref 0), some (.int (Int32.ofInt v1)), some (.int (Int32.ofInt v3)), some (.int (Int32.ofInt v18))] [.int (Int32.ofInt v31), .int (Int32.ofInt v18), .int (Int32.ofInt v3), .ref 118] (mz_mk g32 x) Q
          replace hE := zf_t2 hE hc33
          refine mz_cv rfl mt_11_337 (by decide) (sc_118 _) rfl (Nat.le_of_ble_eq_true rfl) (by omega) (f_X3_setCost (by omega) hx hIg32 (by omega) (by omega) (by omega) (by omega) l_v31 u_v31 (fun g34 hIg34 hfg34 hc35 => ⟨_, rfl, ?_⟩))
          show mm_W d mmX11_findCouples 89 [some (.ref 0), some (.int (Int32.ofInt v1)), some (.int (Int32.ofInt v3)), some (.int (Int32.ofInt v18))] [] (mz_mk g34 x) Q
          replace hE := zf_t1 hE hc35
          refine mz_iincR (v := v18) (lo2 := [some (.ref 0), some (.int (Int32.ofInt v1)), some (.int (Int32.ofInt v3)), some (.int (Int32.ofInt (v18 + 1)))]) rfl rfl rfl (Nat.le_of_ble_eq_true rfl) rfl ?_
          refine mz_gt (tgt := 38) rfl rfl ?_
          exact ih20 ((6 - (v18 + 1)).toNat) (by omega) (v18 + 1) g34 rfl (by omega) (by omega) hIg34 (fun k j hk => ((hfg34 k j (fun h => hk (Or.inr (Or.inr (Or.inr h))))).trans ((hfg32 k j (fun h => hk (Or.inr (Or.inr (Or.inl h))))).trans ((hfg29 k j (fun h => hk (Or.elim h (fun h => (Or.inl h)) (fun h => (Or.inr (Or.inl h)))))).trans (hfg19 k j (fun h => hk (Or.elim h (fun h => (Or.inl h)) (fun h => (Or.elim h (fun h => (Or.inr (Or.inl h))) (fun h => (Or.elim h (fun h => (Or.inr (Or.inr (Or.inl h)))) (fun h => (Or.inr (Or.inr (Or.inr h))))))))))))))) ⟨fj24, Nat.lt_of_lt_of_le (show ((6 - (v18 + 1)).toNat) < n21 from (by omega)) fn25, hE⟩
      exact L23 _ (v3 + 1) g16 rfl (by omega) (by omega) hIg16 (fun _ _ _ => rfl) ⟨3000000000, by omega, zf_rf⟩
  exact L8 _ 0 none g rfl (by decide) (by decide) mz_nl_n hI (fun _ _ _ => rfl) ⟨3000000000, by omega, hE⟩
theorem f_X3_partnerOf {d : Nat} (hd : 2 ≤ d) {x : mm_X} (hx : mk_x x) {g : mz_G} (hI : mz_inv g) {a1 : Int} (l_a1 : (-2147483648) ≤ a1) (u_a1 : a1 ≤ 2147483647) {Q : (Option Value ⊕ Nat) → mm_H → Prop} (hQ : ∀ (r : Int), (-2147483648) ≤ r → r ≤ 2147483647 → zf_E (zF_X3_partnerOf a1 g) (r) → Q (.inl (some (.int (Int32.ofInt r)))) (mz_mk g x)) : mm_C d 30 [.ref 118, .int (Int32.ofInt a1)] (mz_mk g x) Q := by
  refine ⟨mmX3_partnerOf, [some (.ref 118), some (.int (Int32.ofInt a1))], rfl, rfl, ?_⟩
  have hE : zf_E (zF_X3_partnerOf a1 g) (zF_X3_partnerOf a1 g) := zf_rf
  refine mm_g 1 (pc1 := 1) (lo1 := [some (.ref 118), some (.int (Int32.ofInt a1))]) (st1 := [.ref 118]) (H1 := mz_mk g x) rfl ?_
  refine mz_fgR (v := 121) rfl fd_3_18 (by decide) (sc_118 _) (rf_118_2 _ _ _) ?_
  refine mm_g 1 (pc1 := 5) (lo1 := [some (.ref 118), some (.int (Int32.ofInt a1))]) (st1 := [.int (Int32.ofInt a1), .ref 121]) (H1 := mz_mk g x) rfl ?_
  refine mz_cs rfl mt_3_29 (by decide) rfl (Nat.le_of_ble_eq_true rfl) (by omega) (f_X11_at (by omega) hx hI (sh_121 _) (by decide) ba_121 (by omega) (by omega) l_a1 u_a1 (fun v1 l_v1 u_v1 hc2 => ⟨_, rfl, ?_⟩))
  show mm_W d mmX3_partnerOf 8 [some (.ref 118), some (.int (Int32.ofInt a1))] [.int (Int32.ofInt v1)] (mz_mk g x) Q
  replace hE := zf_t1 hE hc2
  exact mm_rt rfl rfl (hQ _ (by omega) (by omega) hE)
def fw_X11_trunk (x : mm_X) (a1 : Int) (a2 : Int) : Nat → Nat → Prop := fun k j => k = 133 ∨ k = 134 ∨ k = 135 ∨ k = 136 ∨ k = 117 ∨ k = 119 ∨ k = 120 ∨ (k = 118 ∧ j = 3) ∨ k = 121
theorem f_X11_trunk {d : Nat} (hd : 15 ≤ d) {x : mm_X} (hx : mk_x x) {g : mz_G} (hI : mz_inv g) {a1 : Int} (l_a1 : (-2147483648) ≤ a1) (u_a1 : a1 ≤ 2147483647) {a2 : Int} (l_a2 : (-2147483648) ≤ a2) (u_a2 : a2 ≤ 2147483647) {Q : (Option Value ⊕ Nat) → mm_H → Prop} (hQ : ∀ (r : Int) (g1 : mz_G), mz_inv g1 → mz_fr (fw_X11_trunk x a1 a2) g g1 → (-2147483648) ≤ r → r ≤ 2147483647 → zf_E (zF_X11_trunk x a1 a2 g) ((0, r, g1)) → Q (.inl (some (.int (Int32.ofInt r)))) (mz_mk g1 x)) (hX0 : (zf_E (zF_X11_trunk x a1 a2 g) ((1, 0, g))) → Q (.inr 0) (mz_mk g (mz_tx x))) : mm_C d 132 [.ref 0, .int (Int32.ofInt a1), .int (Int32.ofInt a2)] (mz_mk g x) Q := by
  have kx := kn_x hx
  refine ⟨mmX11_trunk, [some (.ref 0), some (.int (Int32.ofInt a1)), some (.int (Int32.ofInt a2)), none], rfl, rfl, ?_⟩
  have hE : zf_E (zF_X11_trunk x a1 a2 g) (zF_X11_trunk x a1 a2 g) := zf_rf
  refine mm_g 2 (pc1 := 2) (lo1 := [some (.ref 0), some (.int (Int32.ofInt a1)), some (.int (Int32.ofInt a2)), none]) (st1 := [.int (Int32.ofInt a1), .ref 0]) (H1 := mz_mk g x) rfl ?_
  refine mz_cv rfl mt_11_231 (by decide) (sc_0 _) rfl (Nat.le_of_ble_eq_true rfl) (by omega) (f_X11_isTrunk (by omega) hx hI l_a1 u_a1 (fun v1 l_v1 u_v1 hc2 => ⟨_, rfl, ?_⟩))
  show mm_W d mmX11_trunk 5 [some (.ref 0), some (.int (Int32.ofInt a1)), some (.int (Int32.ofInt a2)), none] [.int (Int32.ofInt v1)] (mz_mk g x) Q
  replace hE := zf_t1 hE hc2
  refine mz_if_eq (tgt := 22) rfl rfl (mz_rg l_v1 u_v1) (fun c5_2 => ?_) (fun c5_2 => ?_)
  · skip
    replace hE := zf_ip hE c5_2
    refine mm_g 1 (pc1 := 23) (lo1 := [some (.ref 0), some (.int (Int32.ofInt a1)), some (.int (Int32.ofInt a2)), none]) (st1 := [.int (Int32.ofInt 0)]) (H1 := mz_mk g x) rfl ?_
    (try unfold zJ_X11_trunk_22 at hE)
    (try unfold zJ_X11_trunk_23 at hE)
    (try unfold zJ_X11_trunk_22 at hE)
    (try unfold zJ_X11_trunk_23 at hE)
    refine mz_csx rfl mt_11_183 rfl (Nat.le_of_ble_eq_true rfl) (by omega) rfl nh_X11_mustBe (f_X11_mustBe (by omega) hx hI (by decide) (by decide) (fun hp3 hc4 => ?_) (fun hc => hX0 (zf_x2 hE hc (by decide))))
    show mm_W d mmX11_trunk 26 [some (.ref 0), some (.int (Int32.ofInt a1)), some (.int (Int32.ofInt a2)), none] [] (mz_mk g x) Q
    replace hE := zf_x1 hE hc4
    exfalso; omega
  · skip
    replace hE := zf_in hE c5_2
    refine mm_g 1 (pc1 := 9) (lo1 := [some (.ref 0), some (.int (Int32.ofInt a1)), some (.int (Int32.ofInt a2)), none]) (st1 := [.int (Int32.ofInt a2)]) (H1 := mz_mk g x) rfl ?_
    refine mz_if_lt (tgt := 22) rfl rfl (mz_rg l_a2 u_a2) (fun c9_4 => ?_) (fun c9_4 => ?_)
    · skip
      replace hE := zf_ip hE c9_4
      refine mm_g 1 (pc1 := 23) (lo1 := [some (.ref 0), some (.int (Int32.ofInt a1)), some (.int (Int32.ofInt a2)), none]) (st1 := [.int (Int32.ofInt 0)]) (H1 := mz_mk g x) rfl ?_
      (try unfold zJ_X11_trunk_22 at hE)
      (try unfold zJ_X11_trunk_23 at hE)
      (try unfold zJ_X11_trunk_22 at hE)
      (try unfold zJ_X11_trunk_23 at hE)
      refine mz_csx rfl mt_11_183 rfl (Nat.le_of_ble_eq_true rfl) (by omega) rfl nh_X11_mustBe (f_X11_mustBe (by omega) hx hI (by decide) (by decide) (fun hp5 hc6 => ?_) (fun hc => hX0 (zf_x2 hE hc (by decide))))
      show mm_W d mmX11_trunk 26 [some (.ref 0), some (.int (Int32.ofInt a1)), some (.int (Int32.ofInt a2)), none] [] (mz_mk g x) Q
      replace hE := zf_x1 hE hc6
      exfalso; omega
    · skip
      replace hE := zf_nl hE c9_4
      refine mm_g 1 (pc1 := 13) (lo1 := [some (.ref 0), some (.int (Int32.ofInt a1)), some (.int (Int32.ofInt a2)), none]) (st1 := [.int (Int32.ofInt a2)]) (H1 := mz_mk g x) rfl ?_
      refine mz_bip rfl bip_7 ?_
      refine mz_ic_gt (tgt := 22) rfl rfl (mz_rg l_a2 u_a2) ⟨by decide, by decide⟩ (fun c15_6 => ?_) (fun c15_6 => ?_)
      · skip
        replace hE := zf_ip hE c15_6
        refine mm_g 1 (pc1 := 23) (lo1 := [some (.ref 0), some (.int (Int32.ofInt a1)), some (.int (Int32.ofInt a2)), none]) (st1 := [.int (Int32.ofInt 0)]) (H1 := mz_mk g x) rfl ?_
        (try unfold zJ_X11_trunk_22 at hE)
        (try unfold zJ_X11_trunk_23 at hE)
        (try unfold zJ_X11_trunk_22 at hE)
        (try unfold zJ_X11_trunk_23 at hE)
        refine mz_csx rfl mt_11_183 rfl (Nat.le_of_ble_eq_true rfl) (by omega) rfl nh_X11_mustBe (f_X11_mustBe (by omega) hx hI (by decide) (by decide) (fun hp7 hc8 => ?_) (fun hc => hX0 (zf_x2 hE hc (by decide))))
        show mm_W d mmX11_trunk 26 [some (.ref 0), some (.int (Int32.ofInt a1)), some (.int (Int32.ofInt a2)), none] [] (mz_mk g x) Q
        replace hE := zf_x1 hE hc8
        exfalso; omega
      · skip
        replace hE := zf_nl hE c15_6
        refine mm_g 1 (pc1 := 19) (lo1 := [some (.ref 0), some (.int (Int32.ofInt a1)), some (.int (Int32.ofInt a2)), none]) (st1 := [.int (Int32.ofInt 1)]) (H1 := mz_mk g x) rfl ?_
        refine mz_gt (tgt := 23) rfl rfl ?_
        (try unfold zJ_X11_trunk_22 at hE)
        (try unfold zJ_X11_trunk_23 at hE)
        (try unfold zJ_X11_trunk_22 at hE)
        (try unfold zJ_X11_trunk_23 at hE)
        refine mz_csx rfl mt_11_183 rfl (Nat.le_of_ble_eq_true rfl) (by omega) rfl nh_X11_mustBe (f_X11_mustBe (by omega) hx hI (by decide) (by decide) (fun hp9 hc10 => ?_) (fun hc => hX0 (zf_x2 hE hc (by decide))))
        show mm_W d mmX11_trunk 26 [some (.ref 0), some (.int (Int32.ofInt a1)), some (.int (Int32.ofInt a2)), none] [] (mz_mk g x) Q
        replace hE := zf_x1 hE hc10
        refine mm_g 1 (pc1 := 27) (lo1 := [some (.ref 0), some (.int (Int32.ofInt a1)), some (.int (Int32.ofInt a2)), none]) (st1 := [.ref 0]) (H1 := mz_mk g x) rfl ?_
        refine mz_fgR (v := 86) rfl fd_11_37 (by decide) (sc_0 _) (rf_0_5 _ _ _) ?_
        refine mz_fgR (v := 87) rfl fd_11_158 (by decide) (sc_86 _) (rf_86_0 _ _ _) ?_
        refine mm_g 1 (pc1 := 34) (lo1 := [some (.ref 0), some (.int (Int32.ofInt a1)), some (.int (Int32.ofInt a2)), none]) (st1 := [.int (Int32.ofInt a1), .ref 87]) (H1 := mz_mk g x) rfl ?_
        refine mz_cv rfl mt_11_192 (by decide) (sc_87 _) rfl (Nat.le_of_ble_eq_true rfl) (by omega) (f_X9_get (by omega) hx hI kp_tks_87 l_a1 u_a1 (fun u11 k_u11 hp12 hc13 => ⟨_, rfl, ?_⟩))
        show mm_W d mmX11_trunk 37 [some (.ref 0), some (.int (Int32.ofInt a1)), some (.int (Int32.ofInt a2)), none] [.ref u11] (mz_mk g x) Q
        replace hE := zf_t1 hE hc13
        refine mm_g 2 (pc1 := 39) (lo1 := [some (.ref 0), some (.int (Int32.ofInt a1)), some (.int (Int32.ofInt a2)), some (.ref u11)]) (st1 := [.int (Int32.ofInt a2)]) (H1 := mz_mk g x) rfl ?_
        by_cases c39_0 : a2 = 0
        · refine mz_tsi (tgt := 80) rfl (mz_rg l_a2 u_a2) (by omega) (by omega) (by rw [c39_0]; rfl) rfl ?_
          replace hE := zf_ip hE c39_0
          refine mm_g 1 (pc1 := 81) (lo1 := [some (.ref 0), some (.int (Int32.ofInt a1)), some (.int (Int32.ofInt a2)), some (.ref u11)]) (st1 := [.ref u11]) (H1 := mz_mk g x) rfl ?_
          refine mz_gI rfl fd_11_222 (by decide) (kc_trunk k_u11 _) hI (kb_trunk_0 k_u11) (fun v14 e_v14 l_v14 u_v14 => ?_)
          replace hE := zf_tr hE (zf_le e_v14)
          exact mm_rt rfl rfl (hQ _ _ hI (fun _ _ _ => rfl) (by omega) (by omega) hE)
        replace hE := zf_in hE c39_0
        by_cases c39_1 : a2 = 1
        · refine mz_tsi (tgt := 85) rfl (mz_rg l_a2 u_a2) (by omega) (by omega) (by rw [c39_1]; rfl) rfl ?_
          replace hE := zf_ip hE c39_1
          refine mm_g 1 (pc1 := 86) (lo1 := [some (.ref 0), some (.int (Int32.ofInt a1)), some (.int (Int32.ofInt a2)), some (.ref u11)]) (st1 := [.ref u11]) (H1 := mz_mk g x) rfl ?_
          refine mz_gI rfl fd_11_225 (by decide) (kc_trunk k_u11 _) hI (kb_trunk_1 k_u11) (fun v15 e_v15 l_v15 u_v15 => ?_)
          replace hE := zf_tr hE (zf_le e_v15)
          exact mm_rt rfl rfl (hQ _ _ hI (fun _ _ _ => rfl) (by omega) (by omega) hE)
        replace hE := zf_in hE c39_1
        by_cases c39_2 : a2 = 2
        · refine mz_tsi (tgt := 90) rfl (mz_rg l_a2 u_a2) (by omega) (by omega) (by rw [c39_2]; rfl) rfl ?_
          replace hE := zf_ip hE c39_2
          refine mm_g 1 (pc1 := 91) (lo1 := [some (.ref 0), some (.int (Int32.ofInt a1)), some (.int (Int32.ofInt a2)), some (.ref u11)]) (st1 := [.ref u11]) (H1 := mz_mk g x) rfl ?_
          refine mz_gI rfl fd_11_234 (by decide) (kc_trunk k_u11 _) hI (kb_trunk_2 k_u11) (fun v16 e_v16 l_v16 u_v16 => ?_)
          replace hE := zf_tr hE (zf_le e_v16)
          exact mm_rt rfl rfl (hQ _ _ hI (fun _ _ _ => rfl) (by omega) (by omega) hE)
        replace hE := zf_in hE c39_2
        by_cases c39_3 : a2 = 3
        · refine mz_tsi (tgt := 95) rfl (mz_rg l_a2 u_a2) (by omega) (by omega) (by rw [c39_3]; rfl) rfl ?_
          replace hE := zf_ip hE c39_3
          refine mm_g 1 (pc1 := 96) (lo1 := [some (.ref 0), some (.int (Int32.ofInt a1)), some (.int (Int32.ofInt a2)), some (.ref u11)]) (st1 := [.ref u11]) (H1 := mz_mk g x) rfl ?_
          refine mz_gI rfl fd_11_237 (by decide) (kc_trunk k_u11 _) hI (kb_trunk_3 k_u11) (fun v17 e_v17 l_v17 u_v17 => ?_)
          replace hE := zf_tr hE (zf_le e_v17)
          exact mm_rt rfl rfl (hQ _ _ hI (fun _ _ _ => rfl) (by omega) (by omega) hE)
        replace hE := zf_in hE c39_3
        by_cases c39_4 : a2 = 4
        · refine mz_tsi (tgt := 100) rfl (mz_rg l_a2 u_a2) (by omega) (by omega) (by rw [c39_4]; rfl) rfl ?_
          replace hE := zf_ip hE c39_4
          refine mm_g 1 (pc1 := 101) (lo1 := [some (.ref 0), some (.int (Int32.ofInt a1)), some (.int (Int32.ofInt a2)), some (.ref u11)]) (st1 := [.ref 0]) (H1 := mz_mk g x) rfl ?_
          refine mz_fgR (v := x.1) rfl fd_11_16 (by decide) (sc_0 _) rfl ?_
          refine mm_g 1 (pc1 := 105) (lo1 := [some (.ref 0), some (.int (Int32.ofInt a1)), some (.int (Int32.ofInt a2)), some (.ref u11)]) (st1 := [.ref u11, .ref x.1]) (H1 := mz_mk g x) rfl ?_
          refine mz_cv rfl mt_11_240 (by decide) (kc_load (kx_1 hx) _) rfl (Nat.le_of_ble_eq_true rfl) (by omega) (f_X1_fullOf (by omega) hx hI (kx_1 hx) k_u11 (fun v18 l_v18 u_v18 hc19 => ⟨_, rfl, ?_⟩))
          show mm_W d mmX11_trunk 108 [some (.ref 0), some (.int (Int32.ofInt a1)), some (.int (Int32.ofInt a2)), some (.ref u11)] [.int (Int32.ofInt v18)] (mz_mk g x) Q
          replace hE := zf_t1 hE hc19
          exact mm_rt rfl rfl (hQ _ _ hI (fun _ _ _ => rfl) (by omega) (by omega) hE)
        replace hE := zf_in hE c39_4
        by_cases c39_5 : a2 = 5
        · refine mz_tsi (tgt := 109) rfl (mz_rg l_a2 u_a2) (by omega) (by omega) (by rw [c39_5]; rfl) rfl ?_
          replace hE := zf_ip hE c39_5
          refine mm_g 1 (pc1 := 110) (lo1 := [some (.ref 0), some (.int (Int32.ofInt a1)), some (.int (Int32.ofInt a2)), some (.ref u11)]) (st1 := [.ref 0]) (H1 := mz_mk g x) rfl ?_
          refine mz_fgR (v := x.1) rfl fd_11_16 (by decide) (sc_0 _) rfl ?_
          refine mm_g 1 (pc1 := 114) (lo1 := [some (.ref 0), some (.int (Int32.ofInt a1)), some (.int (Int32.ofInt a2)), some (.ref u11)]) (st1 := [.ref u11, .ref x.1]) (H1 := mz_mk g x) rfl ?_
          refine mz_cv rfl mt_11_244 (by decide) (kc_load (kx_1 hx) _) rfl (Nat.le_of_ble_eq_true rfl) (by omega) (f_X1_blendSize (by omega) hx hI (kx_1 hx) k_u11 (fun v20 l_v20 u_v20 hc21 => ⟨_, rfl, ?_⟩))
          show mm_W d mmX11_trunk 117 [some (.ref 0), some (.int (Int32.ofInt a1)), some (.int (Int32.ofInt a2)), some (.ref u11)] [.int (Int32.ofInt v20)] (mz_mk g x) Q
          replace hE := zf_t1 hE hc21
          exact mm_rt rfl rfl (hQ _ _ hI (fun _ _ _ => rfl) (by omega) (by omega) hE)
        replace hE := zf_in hE c39_5
        by_cases c39_6 : a2 = 6
        · refine mz_tsi (tgt := 118) rfl (mz_rg l_a2 u_a2) (by omega) (by omega) (by rw [c39_6]; rfl) rfl ?_
          replace hE := zf_ip hE c39_6
          refine mm_g 1 (pc1 := 119) (lo1 := [some (.ref 0), some (.int (Int32.ofInt a1)), some (.int (Int32.ofInt a2)), some (.ref u11)]) (st1 := [.ref u11]) (H1 := mz_mk g x) rfl ?_
          refine mz_gI rfl fd_11_196 (by decide) (kc_trunk k_u11 _) hI (kb_trunk_4 k_u11) (fun v22 e_v22 l_v22 u_v22 => ?_)
          replace hE := zf_tr hE (zf_le e_v22)
          refine mz_if_eq (tgt := 129) rfl rfl (mz_rg l_v22 u_v22) (fun c122_22 => ?_) (fun c122_22 => ?_)
          · skip
            replace hE := zf_ip hE c122_22
            refine mm_g 1 (pc1 := 130) (lo1 := [some (.ref 0), some (.int (Int32.ofInt a1)), some (.int (Int32.ofInt a2)), some (.ref u11)]) (st1 := [.int (Int32.ofInt 0)]) (H1 := mz_mk g x) rfl ?_
            exact mm_rt rfl rfl (hQ _ _ hI (fun _ _ _ => rfl) (by decide) (by decide) hE)
          · skip
            replace hE := zf_in hE c122_22
            refine mm_g 1 (pc1 := 126) (lo1 := [some (.ref 0), some (.int (Int32.ofInt a1)), some (.int (Int32.ofInt a2)), some (.ref u11)]) (st1 := [.int (Int32.ofInt 1)]) (H1 := mz_mk g x) rfl ?_
            refine mz_gt (tgt := 130) rfl rfl ?_
            exact mm_rt rfl rfl (hQ _ _ hI (fun _ _ _ => rfl) (by decide) (by decide) hE)
        replace hE := zf_in hE c39_6
        refine mz_tso (tgt := 131) rfl (mz_rg l_a2 u_a2) (by omega) rfl ?_
        refine mm_g 1 (pc1 := 132) (lo1 := [some (.ref 0), some (.int (Int32.ofInt a1)), some (.int (Int32.ofInt a2)), some (.ref u11)]) (st1 := [.ref 0]) (H1 := mz_mk g x) rfl ?_
        refine mz_cv rfl mt_11_247 (by decide) (sc_0 _) rfl (Nat.le_of_ble_eq_true rfl) (by omega) (f_X11_findCouples (by omega) hx hI (fun g23 hIg23 hfg23 hc24 => ⟨_, rfl, ?_⟩))
        show mm_W d mmX11_trunk 135 [some (.ref 0), some (.int (Int32.ofInt a1)), some (.int (Int32.ofInt a2)), some (.ref u11)] [] (mz_mk g23 x) Q
        replace hE := zf_t1 hE hc24
        refine mm_g 1 (pc1 := 136) (lo1 := [some (.ref 0), some (.int (Int32.ofInt a1)), some (.int (Int32.ofInt a2)), some (.ref u11)]) (st1 := [.ref 0]) (H1 := mz_mk g23 x) rfl ?_
        refine mz_fgR (v := 118) rfl fd_11_58 (by decide) (sc_0 _) (rf_0_9 _ _ _) ?_
        refine mm_g 1 (pc1 := 140) (lo1 := [some (.ref 0), some (.int (Int32.ofInt a1)), some (.int (Int32.ofInt a2)), some (.ref u11)]) (st1 := [.int (Int32.ofInt a1), .ref 118]) (H1 := mz_mk g23 x) rfl ?_
        refine mz_cv rfl mt_11_250 (by decide) (sc_118 _) rfl (Nat.le_of_ble_eq_true rfl) (by omega) (f_X3_partnerOf (by omega) hx hIg23 l_a1 u_a1 (fun v25 l_v25 u_v25 hc26 => ⟨_, rfl, ?_⟩))
        show mm_W d mmX11_trunk 143 [some (.ref 0), some (.int (Int32.ofInt a1)), some (.int (Int32.ofInt a2)), some (.ref u11)] [.int (Int32.ofInt v25)] (mz_mk g23 x) Q
        replace hE := zf_t1 hE hc26
        exact mm_rt rfl rfl (hQ _ _ hIg23 (fun k j hk => (hfg23 k j (fun h => hk (Or.elim h (fun h => (Or.inl h)) (fun h => (Or.elim h (fun h => (Or.inr (Or.inl h))) (fun h => (Or.elim h (fun h => (Or.inr (Or.inr (Or.inl h)))) (fun h => (Or.elim h (fun h => (Or.inr (Or.inr (Or.inr (Or.inl h))))) (fun h => (Or.elim h (fun h => (Or.inr (Or.inr (Or.inr (Or.inr (Or.inl h)))))) (fun h => (Or.elim h (fun h => (Or.inr (Or.inr (Or.inr (Or.inr (Or.inr (Or.inl h))))))) (fun h => (Or.elim h (fun h => (Or.inr (Or.inr (Or.inr (Or.inr (Or.inr (Or.inr (Or.inl h)))))))) (fun h => (Or.elim h (fun h => (Or.inr (Or.inr (Or.inr (Or.inr (Or.inr (Or.inr (Or.inr (Or.inl h))))))))) (fun h => (Or.inr (Or.inr (Or.inr (Or.inr (Or.inr (Or.inr (Or.inr (Or.inr h))))))))))))))))))))))))))) (by omega) (by omega) hE)
def fl_X9_saveIn_11 (x : mm_X) (q0 : Nat) (q1 : Nat) (a2 : Int) : Nat → Nat → Prop := fun k j => k = q1
def fw_X9_saveIn (x : mm_X) (q0 : Nat) (q1 : Nat) (a2 : Int) : Nat → Nat → Prop := fun k j => k = q1
theorem f_X9_saveIn {d : Nat} (hd : 2 ≤ d) {x : mm_X} (hx : mk_x x) {g : mz_G} (hI : mz_inv g) {q0 : Nat} (h_q0 : kd_tks q0) {q1 n_q1 : Nat} (h_q1 : mm_SH x.2.2.2.1 q1 = (100, n_q1)) (m_q1 : n_q1 ≤ 2048) (b_q1 : ∀ j, mz_bd q1 j = (-2147483648, 2147483647)) {a2 : Int} (l_a2 : (-2147483648) ≤ a2) (u_a2 : a2 ≤ 2147483647) {Q : (Option Value ⊕ Nat) → mm_H → Prop} (hQ : ∀ (g1 : mz_G), mz_inv g1 → mz_fr (fw_X9_saveIn x q0 q1 a2) g g1 → zf_E (zF_X9_saveIn q0 q1 n_q1 a2 g) (g1) → Q (.inl none) (mz_mk g1 x)) : mm_C d 102 [.ref q0, .ref q1, .int (Int32.ofInt a2)] (mz_mk g x) Q := by
  have kn_q0 := kn_tks h_q0
  refine ⟨mmX9_saveIn, [some (.ref q0), some (.ref q1), some (.int (Int32.ofInt a2)), none, none, none], rfl, rfl, ?_⟩
  have hE : zf_E (zF_X9_saveIn q0 q1 n_q1 a2 g) (zF_X9_saveIn q0 q1 n_q1 a2 g) := zf_rf
  refine mm_g 3 (pc1 := 3) (lo1 := [some (.ref q0), some (.ref q1), some (.int (Int32.ofInt a2)), none, none, none]) (st1 := [.ref q0, .int (Int32.ofInt a2), .ref q1]) (H1 := mz_mk g x) rfl ?_
  refine mz_gI rfl fd_9_26 (by decide) (kc_tks h_q0 _) hI (kb_tks_3 h_q0) (fun v1 e_v1 l_v1 u_v1 => ?_)
  replace hE := zf_tr hE (zf_le e_v1)
  refine mz_cs rfl mt_9_53 (by decide) rfl (Nat.le_of_ble_eq_true rfl) (by omega) (f_X11_put (by omega) hx hI h_q1 (by omega) b_q1 (by omega) (by omega) l_a2 u_a2 l_v1 u_v1 (by omega) (by omega) (fun g2 hIg2 hfg2 hc3 => ⟨_, rfl, ?_⟩))
  show mm_W d mmX9_saveIn 9 [some (.ref q0), some (.ref q1), some (.int (Int32.ofInt a2)), none, none, none] [] (mz_mk g2 x) Q
  replace hE := zf_t1 hE hc3
  refine mm_g 2 (pc1 := 11) (lo1 := [some (.ref q0), some (.ref q1), some (.int (Int32.ofInt a2)), some (.int (Int32.ofInt 0)), none, none]) (st1 := []) (H1 := mz_mk g2 x) rfl ?_
  have L10 : ∀ n9 : Nat, ∀ (v4 : Int) (o5 : Option Value) (o6 : Option Value) (g7 : mz_G), (6 - v4).toNat = n9 → 0 ≤ v4 → v4 ≤ 6 → mz_nl o5 → mz_nl o6 → mz_inv g7 → mz_fr (fl_X9_saveIn_11 x q0 q1 a2) g2 g7 → (∃ fk : Nat, (6 - v4).toNat < fk ∧ zf_E (zF_X9_saveIn q0 q1 n_q1 a2 g) (zL_X9_saveIn_11 q0 q1 n_q1 a2 fk v4 g7)) → mm_W d mmX9_saveIn 11 [some (.ref q0), some (.ref q1), some (.int (Int32.ofInt a2)), some (.int (Int32.ofInt v4)), o5, o6] [] (mz_mk g7 x) Q := by
    intro n9
    induction n9 using Nat.strongRecOn with
    | ind n9 ih8 =>
    intro v4 o5 o6 g7 hmn9 l_v4 u_v4 h_o5 h_o6 hIg7 hfg7 hF
    obtain ⟨fk, fl, hE⟩ := hF
    obtain ⟨fj11, rfl⟩ : ∃ fj, fk = fj + 1 := ⟨fk - 1, by omega⟩
    have fn12 : n9 ≤ fj11 := by omega
    replace hE := zf_tr hE zL_X9_saveIn_11_s
    refine mm_g 2 (pc1 := 13) (lo1 := [some (.ref q0), some (.ref q1), some (.int (Int32.ofInt a2)), some (.int (Int32.ofInt v4)), o5, o6]) (st1 := [.ref q0, .int (Int32.ofInt v4)]) (H1 := mz_mk g7 x) rfl ?_
    refine mz_gI rfl fd_9_22 (by decide) (kc_tks h_q0 _) hIg7 (kb_tks_2 h_q0) (fun v13 e_v13 l_v13 u_v13 => ?_)
    replace hE := zf_tr hE (zf_le e_v13)
    refine mz_ic_ge (tgt := 91) rfl rfl (mz_rg l_v4 u_v4) (mz_rg l_v13 u_v13) (fun c16_13 => ?_) (fun c16_13 => ?_)
    · skip
      replace hE := zf_nl hE c16_13
      exact mm_rt rfl rfl (hQ _ hIg7 (fun k j hk => ((hfg7 k j (fun h => hk h)).trans (hfg2 k j (fun h => hk h)))) hE)
    · skip
      replace hE := zf_ip hE c16_13
      refine mm_g 2 (pc1 := 21) (lo1 := [some (.ref q0), some (.ref q1), some (.int (Int32.ofInt a2)), some (.int (Int32.ofInt v4)), o5, o6]) (st1 := [.int (Int32.ofInt v4), .ref q0]) (H1 := mz_mk g7 x) rfl ?_
      refine mz_cv rfl mt_9_29 (by decide) (kc_tks h_q0 _) rfl (Nat.le_of_ble_eq_true rfl) (by omega) (f_X9_get (by omega) hx hIg7 h_q0 (by omega) (by omega) (fun u14 k_u14 hp15 hc16 => ⟨_, rfl, ?_⟩))
      show mm_W d mmX9_saveIn 24 [some (.ref q0), some (.ref q1), some (.int (Int32.ofInt a2)), some (.int (Int32.ofInt v4)), o5, o6] [.ref u14] (mz_mk g7 x) Q
      replace hE := zf_t1 hE hc16
      refine mm_g 3 (pc1 := 28) (lo1 := [some (.ref q0), some (.ref q1), some (.int (Int32.ofInt a2)), some (.int (Int32.ofInt v4)), some (.ref u14), o6]) (st1 := [.int (Int32.ofInt 1), .int (Int32.ofInt a2)]) (H1 := mz_mk g7 x) rfl ?_
      refine mz_iadd_w rfl (fun v17 e_v17 hwv17 => ?_)
      have l_v17 := hwv17.1
      have u_v17 := hwv17.2
      replace hE := zf_tr hE (zf_le e_v17.symm)
      refine mm_g 2 (pc1 := 31) (lo1 := [some (.ref q0), some (.ref q1), some (.int (Int32.ofInt a2)), some (.int (Int32.ofInt v4)), some (.ref u14), o6]) (st1 := [.int (Int32.ofInt v4), .int (Int32.ofInt 4), .int (Int32.ofInt v17)]) (H1 := mz_mk g7 x) rfl ?_
      refine mz_imul rfl ?_
      refine mz_iadd_w rfl (fun v18 e_v18 hwv18 => ?_)
      have l_v18 := hwv18.1
      have u_v18 := hwv18.2
      replace hE := zf_tr hE (zf_le e_v18.symm)
      refine mm_g 4 (pc1 := 40) (lo1 := [some (.ref q0), some (.ref q1), some (.int (Int32.ofInt a2)), some (.int (Int32.ofInt v4)), some (.ref u14), some (.int (Int32.ofInt v18))]) (st1 := [.ref u14, .int (Int32.ofInt v18), .ref q1]) (H1 := mz_mk g7 x) rfl ?_
      refine mz_gI rfl fd_9_33 (by decide) (kc_trunk k_u14 _) hIg7 (kb_trunk_0 k_u14) (fun v19 e_v19 l_v19 u_v19 => ?_)
      replace hE := zf_tr hE (zf_le e_v19)
      refine mz_cs rfl mt_9_53 (by decide) rfl (Nat.le_of_ble_eq_true rfl) (by omega) (f_X11_put (by omega) hx hIg7 h_q1 (by omega) b_q1 (by omega) (by omega) l_v18 u_v18 l_v19 u_v19 (by omega) (by omega) (fun g20 hIg20 hfg20 hc21 => ⟨_, rfl, ?_⟩))
      show mm_W d mmX9_saveIn 46 [some (.ref q0), some (.ref q1), some (.int (Int32.ofInt a2)), some (.int (Int32.ofInt v4)), some (.ref u14), some (.int (Int32.ofInt v18))] [] (mz_mk g20 x) Q
      replace hE := zf_t1 hE hc21
      refine mm_g 3 (pc1 := 50) (lo1 := [some (.ref q0), some (.ref q1), some (.int (Int32.ofInt a2)), some (.int (Int32.ofInt v4)), some (.ref u14), some (.int (Int32.ofInt v18))]) (st1 := [.int (Int32.ofInt 1), .int (Int32.ofInt v18), .ref q1]) (H1 := mz_mk g20 x) rfl ?_
      refine mz_iadd_w rfl (fun v22 e_v22 hwv22 => ?_)
      have l_v22 := hwv22.1
      have u_v22 := hwv22.2
      replace hE := zf_tr hE (zf_le e_v22.symm)
      refine mm_g 1 (pc1 := 53) (lo1 := [some (.ref q0), some (.ref q1), some (.int (Int32.ofInt a2)), some (.int (Int32.ofInt v4)), some (.ref u14), some (.int (Int32.ofInt v18))]) (st1 := [.ref u14, .int (Int32.ofInt v22), .ref q1]) (H1 := mz_mk g20 x) rfl ?_
      refine mz_gI rfl fd_9_36 (by decide) (kc_trunk k_u14 _) hIg20 (kb_trunk_1 k_u14) (fun v23 e_v23 l_v23 u_v23 => ?_)
      replace hE := zf_tr hE (zf_le e_v23)
      refine mz_cs rfl mt_9_53 (by decide) rfl (Nat.le_of_ble_eq_true rfl) (by omega) (f_X11_put (by omega) hx hIg20 h_q1 (by omega) b_q1 (by omega) (by omega) l_v22 u_v22 l_v23 u_v23 (by omega) (by omega) (fun g24 hIg24 hfg24 hc25 => ⟨_, rfl, ?_⟩))
      show mm_W d mmX9_saveIn 59 [some (.ref q0), some (.ref q1), some (.int (Int32.ofInt a2)), some (.int (Int32.ofInt v4)), some (.ref u14), some (.int (Int32.ofInt v18))] [] (mz_mk g24 x) Q
      replace hE := zf_t1 hE hc25
      refine mm_g 3 (pc1 := 63) (lo1 := [some (.ref q0), some (.ref q1), some (.int (Int32.ofInt a2)), some (.int (Int32.ofInt v4)), some (.ref u14), some (.int (Int32.ofInt v18))]) (st1 := [.int (Int32.ofInt 2), .int (Int32.ofInt v18), .ref q1]) (H1 := mz_mk g24 x) rfl ?_
      refine mz_iadd_w rfl (fun v26 e_v26 hwv26 => ?_)
      have l_v26 := hwv26.1
      have u_v26 := hwv26.2
      replace hE := zf_tr hE (zf_le e_v26.symm)
      refine mm_g 1 (pc1 := 66) (lo1 := [some (.ref q0), some (.ref q1), some (.int (Int32.ofInt a2)), some (.int (Int32.ofInt v4)), some (.ref u14), some (.int (Int32.ofInt v18))]) (st1 := [.ref u14, .int (Int32.ofInt v26), .ref q1]) (H1 := mz_mk g24 x) rfl ?_
      refine mz_gI rfl fd_9_39 (by decide) (kc_trunk k_u14 _) hIg24 (kb_trunk_2 k_u14) (fun v27 e_v27 l_v27 u_v27 => ?_)
      replace hE := zf_tr hE (zf_le e_v27)
      refine mz_cs rfl mt_9_53 (by decide) rfl (Nat.le_of_ble_eq_true rfl) (by omega) (f_X11_put (by omega) hx hIg24 h_q1 (by omega) b_q1 (by omega) (by omega) l_v26 u_v26 l_v27 u_v27 (by omega) (by omega) (fun g28 hIg28 hfg28 hc29 => ⟨_, rfl, ?_⟩))
      show mm_W d mmX9_saveIn 72 [some (.ref q0), some (.ref q1), some (.int (Int32.ofInt a2)), some (.int (Int32.ofInt v4)), some (.ref u14), some (.int (Int32.ofInt v18))] [] (mz_mk g28 x) Q
      replace hE := zf_t1 hE hc29
      refine mm_g 3 (pc1 := 76) (lo1 := [some (.ref q0), some (.ref q1), some (.int (Int32.ofInt a2)), some (.int (Int32.ofInt v4)), some (.ref u14), some (.int (Int32.ofInt v18))]) (st1 := [.int (Int32.ofInt 3), .int (Int32.ofInt v18), .ref q1]) (H1 := mz_mk g28 x) rfl ?_
      refine mz_iadd_w rfl (fun v30 e_v30 hwv30 => ?_)
      have l_v30 := hwv30.1
      have u_v30 := hwv30.2
      replace hE := zf_tr hE (zf_le e_v30.symm)
      refine mm_g 1 (pc1 := 79) (lo1 := [some (.ref q0), some (.ref q1), some (.int (Int32.ofInt a2)), some (.int (Int32.ofInt v4)), some (.ref u14), some (.int (Int32.ofInt v18))]) (st1 := [.ref u14, .int (Int32.ofInt v30), .ref q1]) (H1 := mz_mk g28 x) rfl ?_
      refine mz_gI rfl fd_9_42 (by decide) (kc_trunk k_u14 _) hIg28 (kb_trunk_3 k_u14) (fun v31 e_v31 l_v31 u_v31 => ?_)
      replace hE := zf_tr hE (zf_le e_v31)
      refine mz_cs rfl mt_9_53 (by decide) rfl (Nat.le_of_ble_eq_true rfl) (by omega) (f_X11_put (by omega) hx hIg28 h_q1 (by omega) b_q1 (by omega) (by omega) l_v30 u_v30 l_v31 u_v31 (by omega) (by omega) (fun g32 hIg32 hfg32 hc33 => ⟨_, rfl, ?_⟩))
      show mm_W d mmX9_saveIn 85 [some (.ref q0), some (.ref q1), some (.int (Int32.ofInt a2)), some (.int (Int32.ofInt v4)), some (.ref u14), some (.int (Int32.ofInt v18))] [] (mz_mk g32 x) Q
      replace hE := zf_t1 hE hc33
      refine mz_iincR (v := v4) (lo2 := [some (.ref q0), some (.ref q1), some (.int (Int32.ofInt a2)), some (.int (Int32.ofInt (v4 + 1))), some (.ref u14), some (.int (Int32.ofInt v18))]) rfl rfl rfl (Nat.le_of_ble_eq_true rfl) rfl ?_
      refine mz_gt (tgt := 11) rfl rfl ?_
      exact ih8 ((6 - (v4 + 1)).toNat) (by omega) (v4 + 1) (some (.ref u14)) (some (.int (Int32.ofInt v18))) g32 rfl (by omega) (by omega) (mz_nl_r _) (mz_nl_i _) hIg32 (fun k j hk => ((hfg32 k j (fun h => hk h)).trans ((hfg28 k j (fun h => hk h)).trans ((hfg24 k j (fun h => hk h)).trans ((hfg20 k j (fun h => hk h)).trans (hfg7 k j (fun h => hk h))))))) ⟨fj11, Nat.lt_of_lt_of_le (show ((6 - (v4 + 1)).toNat) < n9 from (by omega)) fn12, hE⟩
  exact L10 _ 0 none none g2 rfl (by decide) (by decide) mz_nl_n mz_nl_n hIg2 (fun _ _ _ => rfl) ⟨3000000000, by omega, hE⟩
def fw_X6_keepAct (x : mm_X) (q0 : Nat) : Nat → Nat → Prop := fun k j => k = (q0 + 10) ∨ k = q0
theorem f_X6_keepAct {d : Nat} (hd : 3 ≤ d) {x : mm_X} (hx : mk_x x) {g : mz_G} (hI : mz_inv g) {q0 : Nat} (h_q0 : kd_story q0) {Q : (Option Value ⊕ Nat) → mm_H → Prop} (hQ : ∀ (g1 : mz_G), mz_inv g1 → mz_fr (fw_X6_keepAct x q0) g g1 → zf_E (zF_X6_keepAct q0 g) (g1) → Q (.inl none) (mz_mk g1 x)) : mm_C d 71 [.ref q0] (mz_mk g x) Q := by
  have kn_q0 := kn_story h_q0
  refine ⟨mmX6_keepAct, [some (.ref q0)], rfl, rfl, ?_⟩
  have hE : zf_E (zF_X6_keepAct q0 g) (zF_X6_keepAct q0 g) := zf_rf
  refine mm_g 1 (pc1 := 1) (lo1 := [some (.ref q0)]) (st1 := [.ref q0]) (H1 := mz_mk g x) rfl ?_
  refine mz_fgR (v := (q0 + 1)) rfl fd_6_12 (by decide) (kc_story h_q0 _) (kr_story_0 h_q0 _ _ _) ?_
  refine mm_g 1 (pc1 := 5) (lo1 := [some (.ref q0)]) (st1 := [.ref q0, .ref (q0 + 1)]) (H1 := mz_mk g x) rfl ?_
  refine mz_fgR (v := (q0 + 10)) rfl fd_6_18 (by decide) (kc_story h_q0 _) (kr_story_1 h_q0 _ _ _) ?_
  refine mm_g 1 (pc1 := 9) (lo1 := [some (.ref q0)]) (st1 := [.ref q0, .ref (q0 + 10), .ref (q0 + 1)]) (H1 := mz_mk g x) rfl ?_
  refine mz_gI rfl fd_6_22 (by decide) (kc_story h_q0 _) hI (kb_story_2 h_q0) (fun v1 e_v1 l_v1 u_v1 => ?_)
  replace hE := zf_tr hE (zf_le e_v1)
  refine mm_g 1 (pc1 := 13) (lo1 := [some (.ref q0)]) (st1 := [.ref q0, .int (Int32.ofInt v1), .ref (q0 + 10), .ref (q0 + 1)]) (H1 := mz_mk g x) rfl ?_
  refine mz_gI rfl fd_6_26 (by decide) (kc_story h_q0 _) hI (kb_story_3 h_q0) (fun v2 e_v2 l_v2 u_v2 => ?_)
  replace hE := zf_tr hE (zf_le e_v2)
  refine mz_iadd rfl ?_
  refine mz_bip rfl bip_40 ?_
  refine mz_iremq rfl ⟨by omega, by omega⟩ ⟨by decide, by decide⟩ (by omega) (by omega) (fun v3 e_v3 l_v3 w_v3 z_v3 => ?_)
  have u_v3 : v3 ≤ 39 := by omega
  replace hE := zf_tr hE (zf_le e_v3.symm)
  refine mz_bip rfl bip_25 ?_
  refine mz_imul rfl ?_
  refine mz_cv rfl mt_6_60 (by decide) (kc_tks (ks_story_0 h_q0) _) rfl (Nat.le_of_ble_eq_true rfl) (by omega) (f_X9_saveIn (by omega) hx hI (ks_story_0 h_q0) (ka_story_1 h_q0 _) (by decide) (kba_story_1 h_q0) (by omega) (by omega) (fun g4 hIg4 hfg4 hc5 => ⟨_, rfl, ?_⟩))
  show mm_W d mmX6_keepAct 26 [some (.ref q0)] [] (mz_mk g4 x) Q
  replace hE := zf_t1 hE hc5
  refine mm_g 1 (pc1 := 27) (lo1 := [some (.ref q0)]) (st1 := [.ref q0]) (H1 := mz_mk g4 x) rfl ?_
  refine mz_fgI (v := v2) rfl fd_6_26 (by decide) (kc_story h_q0 _) (show g4 q0 3 = v2 from ((hfg4 q0 3 (fun h => (by have h9 : q0 = (q0 + 10) := h; omega))).trans e_v2)) ?_
  replace hE := zf_tr hE (zf_le (show g4 q0 3 = v2 from ((hfg4 q0 3 (fun h => (by have h9 : q0 = (q0 + 10) := h; omega))).trans e_v2)))
  refine mz_bip rfl bip_40 ?_
  refine mz_ic_ge (tgt := 48) rfl rfl (mz_rg l_v2 u_v2) ⟨by decide, by decide⟩ (fun c32_5 => ?_) (fun c32_5 => ?_)
  · skip
    replace hE := zf_nl hE c32_5
    refine mm_g 2 (pc1 := 50) (lo1 := [some (.ref q0)]) (st1 := [.ref q0, .ref q0]) (H1 := mz_mk g4 x) rfl ?_
    refine mz_fgI (v := v1) rfl fd_6_22 (by decide) (kc_story h_q0 _) (show g4 q0 2 = v1 from ((hfg4 q0 2 (fun h => (by have h9 : q0 = (q0 + 10) := h; omega))).trans e_v1)) ?_
    replace hE := zf_tr hE (zf_le (show g4 q0 2 = v1 from ((hfg4 q0 2 (fun h => (by have h9 : q0 = (q0 + 10) := h; omega))).trans e_v1)))
    refine mm_g 1 (pc1 := 54) (lo1 := [some (.ref q0)]) (st1 := [.int (Int32.ofInt 1), .int (Int32.ofInt v1), .ref q0]) (H1 := mz_mk g4 x) rfl ?_
    refine mz_iadd rfl ?_
    refine mz_bip rfl bip_40 ?_
    refine mz_iremq rfl ⟨by omega, by omega⟩ ⟨by decide, by decide⟩ (by omega) (by omega) (fun v6 e_v6 l_v6 w_v6 z_v6 => ?_)
    have u_v6 : v6 ≤ 39 := by omega
    replace hE := zf_tr hE (zf_le e_v6.symm)
    refine mz_pI rfl fd_6_22 (kc_story h_q0 _) hIg4 (kb_story_2 h_q0) (by omega) (by omega) (fun g7 hIg7 hug7 => ?_)
    replace hE := zf_tr hE (zf_lg hug7)
    exact mm_rt rfl rfl (hQ _ hIg7 (fun k j hk => ((hug7.2 k j (fun h => hk (Or.inr h.1))).trans (hfg4 k j (fun h => hk (Or.inl h))))) hE)
  · skip
    replace hE := zf_ip hE c32_5
    refine mm_g 2 (pc1 := 37) (lo1 := [some (.ref q0)]) (st1 := [.ref q0, .ref q0]) (H1 := mz_mk g4 x) rfl ?_
    refine mz_fgI (v := v2) rfl fd_6_26 (by decide) (kc_story h_q0 _) (show g4 q0 3 = v2 from ((hfg4 q0 3 (fun h => (by have h9 : q0 = (q0 + 10) := h; omega))).trans e_v2)) ?_
    replace hE := zf_tr hE (zf_le (show g4 q0 3 = v2 from ((hfg4 q0 3 (fun h => (by have h9 : q0 = (q0 + 10) := h; omega))).trans e_v2)))
    refine mm_g 1 (pc1 := 41) (lo1 := [some (.ref q0)]) (st1 := [.int (Int32.ofInt 1), .int (Int32.ofInt v2), .ref q0]) (H1 := mz_mk g4 x) rfl ?_
    refine mz_iadd rfl ?_
    refine mz_pI rfl fd_6_26 (kc_story h_q0 _) hIg4 (kb_story_3 h_q0) (by omega) (by omega) (fun g8 hIg8 hug8 => ?_)
    replace hE := zf_tr hE (zf_lg hug8)
    refine mz_gt (tgt := 61) rfl rfl ?_
    exact mm_rt rfl rfl (hQ _ hIg8 (fun k j hk => ((hug8.2 k j (fun h => hk (Or.inr h.1))).trans (hfg4 k j (fun h => hk (Or.inl h))))) hE)
def fw_X5_setTrunk (x : mm_X) (q0 : Nat) (q1 : Nat) (a2 : Int) (a3 : Int) : Nat → Nat → Prop := fun k j => k = (q0 + 2)
theorem f_X5_setTrunk {d : Nat} (hd : 2 ≤ d) {x : mm_X} (hx : mk_x x) {g : mz_G} (hI : mz_inv g) {q0 : Nat} (h_q0 : kd_rule q0) {q1 : Nat} (h_q1 : kd_trunk q1) {a2 : Int} (l_a2 : (-2147483648) ≤ a2) (u_a2 : a2 ≤ 2147483647) {a3 : Int} (l_a3 : (-2147483648) ≤ a3) (u_a3 : a3 ≤ 2147483647) {Q : (Option Value ⊕ Nat) → mm_H → Prop} (hQ : ∀ (g1 : mz_G), mz_inv g1 → mz_fr (fw_X5_setTrunk x q0 q1 a2 a3) g g1 → zf_E (zF_X5_setTrunk q0 q1 a2 a3 g) (g1) → Q (.inl none) (mz_mk g1 x)) : mm_C d 61 [.ref q0, .ref q1, .int (Int32.ofInt a2), .int (Int32.ofInt a3)] (mz_mk g x) Q := by
  have kn_q0 := kn_rule h_q0
  have kn_q1 := kn_trunk h_q1
  refine ⟨mmX5_setTrunk, [some (.ref q0), some (.ref q1), some (.int (Int32.ofInt a2)), some (.int (Int32.ofInt a3))], rfl, rfl, ?_⟩
  have hE : zf_E (zF_X5_setTrunk q0 q1 a2 a3 g) (zF_X5_setTrunk q0 q1 a2 a3 g) := zf_rf
  refine mm_g 1 (pc1 := 1) (lo1 := [some (.ref q0), some (.ref q1), some (.int (Int32.ofInt a2)), some (.int (Int32.ofInt a3))]) (st1 := [.ref q0]) (H1 := mz_mk g x) rfl ?_
  refine mz_fgR (v := (q0 + 2)) rfl fd_5_19 (by decide) (kc_rule h_q0 _) (kr_rule_2 h_q0 _ _ _) ?_
  refine mm_g 2 (pc1 := 6) (lo1 := [some (.ref q0), some (.ref q1), some (.int (Int32.ofInt a2)), some (.int (Int32.ofInt a3))]) (st1 := [.ref q1, .int (Int32.ofInt 0), .ref (q0 + 2)]) (H1 := mz_mk g x) rfl ?_
  refine mz_gI rfl fd_5_29 (by decide) (kc_trunk h_q1 _) hI (kb_trunk_2 h_q1) (fun v1 e_v1 l_v1 u_v1 => ?_)
  replace hE := zf_tr hE (zf_le e_v1)
  refine mz_cs rfl mt_5_25 (by decide) rfl (Nat.le_of_ble_eq_true rfl) (by omega) (f_X11_put (by omega) hx hI (ka_rule_2 h_q0 _) (by decide) (kba_rule_2 h_q0) (by omega) (by omega) (by decide) (by decide) l_v1 u_v1 (by omega) (by omega) (fun g2 hIg2 hfg2 hc3 => ⟨_, rfl, ?_⟩))
  show mm_W d mmX5_setTrunk 12 [some (.ref q0), some (.ref q1), some (.int (Int32.ofInt a2)), some (.int (Int32.ofInt a3))] [] (mz_mk g2 x) Q
  replace hE := zf_t1 hE hc3
  refine mm_g 1 (pc1 := 13) (lo1 := [some (.ref q0), some (.ref q1), some (.int (Int32.ofInt a2)), some (.int (Int32.ofInt a3))]) (st1 := [.ref q0]) (H1 := mz_mk g2 x) rfl ?_
  refine mz_fgR (v := (q0 + 2)) rfl fd_5_19 (by decide) (kc_rule h_q0 _) (kr_rule_2 h_q0 _ _ _) ?_
  refine mm_g 2 (pc1 := 18) (lo1 := [some (.ref q0), some (.ref q1), some (.int (Int32.ofInt a2)), some (.int (Int32.ofInt a3))]) (st1 := [.ref q1, .int (Int32.ofInt 2), .ref (q0 + 2)]) (H1 := mz_mk g2 x) rfl ?_
  refine mz_gI rfl fd_5_34 (by decide) (kc_trunk h_q1 _) hIg2 (kb_trunk_3 h_q1) (fun v4 e_v4 l_v4 u_v4 => ?_)
  replace hE := zf_tr hE (zf_le e_v4)
  refine mz_cs rfl mt_5_25 (by decide) rfl (Nat.le_of_ble_eq_true rfl) (by omega) (f_X11_put (by omega) hx hIg2 (ka_rule_2 h_q0 _) (by decide) (kba_rule_2 h_q0) (by omega) (by omega) (by decide) (by decide) l_v4 u_v4 (by omega) (by omega) (fun g5 hIg5 hfg5 hc6 => ⟨_, rfl, ?_⟩))
  show mm_W d mmX5_setTrunk 24 [some (.ref q0), some (.ref q1), some (.int (Int32.ofInt a2)), some (.int (Int32.ofInt a3))] [] (mz_mk g5 x) Q
  replace hE := zf_t1 hE hc6
  refine mm_g 1 (pc1 := 25) (lo1 := [some (.ref q0), some (.ref q1), some (.int (Int32.ofInt a2)), some (.int (Int32.ofInt a3))]) (st1 := [.ref q0]) (H1 := mz_mk g5 x) rfl ?_
  refine mz_fgR (v := (q0 + 2)) rfl fd_5_19 (by decide) (kc_rule h_q0 _) (kr_rule_2 h_q0 _ _ _) ?_
  refine mz_bip rfl bip_6 ?_
  refine mm_g 1 (pc1 := 31) (lo1 := [some (.ref q0), some (.ref q1), some (.int (Int32.ofInt a2)), some (.int (Int32.ofInt a3))]) (st1 := [.int (Int32.ofInt a2), .int (Int32.ofInt 6), .ref (q0 + 2)]) (H1 := mz_mk g5 x) rfl ?_
  refine mz_cs rfl mt_5_25 (by decide) rfl (Nat.le_of_ble_eq_true rfl) (by omega) (f_X11_put (by omega) hx hIg5 (ka_rule_2 h_q0 _) (by decide) (kba_rule_2 h_q0) (by omega) (by omega) (by decide) (by decide) l_a2 u_a2 (by omega) (by omega) (fun g7 hIg7 hfg7 hc8 => ⟨_, rfl, ?_⟩))
  show mm_W d mmX5_setTrunk 34 [some (.ref q0), some (.ref q1), some (.int (Int32.ofInt a2)), some (.int (Int32.ofInt a3))] [] (mz_mk g7 x) Q
  replace hE := zf_t1 hE hc8
  refine mm_g 1 (pc1 := 35) (lo1 := [some (.ref q0), some (.ref q1), some (.int (Int32.ofInt a2)), some (.int (Int32.ofInt a3))]) (st1 := [.ref q0]) (H1 := mz_mk g7 x) rfl ?_
  refine mz_fgR (v := (q0 + 2)) rfl fd_5_19 (by decide) (kc_rule h_q0 _) (kr_rule_2 h_q0 _ _ _) ?_
  refine mm_g 2 (pc1 := 40) (lo1 := [some (.ref q0), some (.ref q1), some (.int (Int32.ofInt a2)), some (.int (Int32.ofInt a3))]) (st1 := [.int (Int32.ofInt a3), .int (Int32.ofInt 1), .ref (q0 + 2)]) (H1 := mz_mk g7 x) rfl ?_
  refine mz_cs rfl mt_5_25 (by decide) rfl (Nat.le_of_ble_eq_true rfl) (by omega) (f_X11_put (by omega) hx hIg7 (ka_rule_2 h_q0 _) (by decide) (kba_rule_2 h_q0) (by omega) (by omega) (by decide) (by decide) l_a3 u_a3 (by omega) (by omega) (fun g9 hIg9 hfg9 hc10 => ⟨_, rfl, ?_⟩))
  show mm_W d mmX5_setTrunk 43 [some (.ref q0), some (.ref q1), some (.int (Int32.ofInt a2)), some (.int (Int32.ofInt a3))] [] (mz_mk g9 x) Q
  replace hE := zf_t1 hE hc10
  exact mm_rt rfl rfl (hQ _ hIg9 (fun k j hk => ((hfg9 k j (fun h => hk h)).trans ((hfg7 k j (fun h => hk h)).trans ((hfg5 k j (fun h => hk h)).trans (hfg2 k j (fun h => hk h)))))) hE)
def fw_X5_setWords (x : mm_X) (q0 : Nat) (a1 : Int) (a2 : Int) (a3 : Int) : Nat → Nat → Prop := fun k j => k = (q0 + 2)
theorem f_X5_setWords {d : Nat} (hd : 2 ≤ d) {x : mm_X} (hx : mk_x x) {g : mz_G} (hI : mz_inv g) {q0 : Nat} (h_q0 : kd_rule q0) {a1 : Int} (l_a1 : (-2147483648) ≤ a1) (u_a1 : a1 ≤ 2147483647) {a2 : Int} (l_a2 : (-2147483648) ≤ a2) (u_a2 : a2 ≤ 2147483647) {a3 : Int} (l_a3 : (-2147483648) ≤ a3) (u_a3 : a3 ≤ 2147483647) {Q : (Option Value ⊕ Nat) → mm_H → Prop} (hQ : ∀ (g1 : mz_G), mz_inv g1 → mz_fr (fw_X5_setWords x q0 a1 a2 a3) g g1 → zf_E (zF_X5_setWords q0 a1 a2 a3 g) (g1) → Q (.inl none) (mz_mk g1 x)) : mm_C d 62 [.ref q0, .int (Int32.ofInt a1), .int (Int32.ofInt a2), .int (Int32.ofInt a3)] (mz_mk g x) Q := by
  have kn_q0 := kn_rule h_q0
  refine ⟨mmX5_setWords, [some (.ref q0), some (.int (Int32.ofInt a1)), some (.int (Int32.ofInt a2)), some (.int (Int32.ofInt a3))], rfl, rfl, ?_⟩
  have hE : zf_E (zF_X5_setWords q0 a1 a2 a3 g) (zF_X5_setWords q0 a1 a2 a3 g) := zf_rf
  refine mm_g 1 (pc1 := 1) (lo1 := [some (.ref q0), some (.int (Int32.ofInt a1)), some (.int (Int32.ofInt a2)), some (.int (Int32.ofInt a3))]) (st1 := [.ref q0]) (H1 := mz_mk g x) rfl ?_
  refine mz_fgR (v := (q0 + 2)) rfl fd_5_19 (by decide) (kc_rule h_q0 _) (kr_rule_2 h_q0 _ _ _) ?_
  refine mm_g 2 (pc1 := 6) (lo1 := [some (.ref q0), some (.int (Int32.ofInt a1)), some (.int (Int32.ofInt a2)), some (.int (Int32.ofInt a3))]) (st1 := [.int (Int32.ofInt a1), .int (Int32.ofInt 3), .ref (q0 + 2)]) (H1 := mz_mk g x) rfl ?_
  refine mz_cs rfl mt_5_25 (by decide) rfl (Nat.le_of_ble_eq_true rfl) (by omega) (f_X11_put (by omega) hx hI (ka_rule_2 h_q0 _) (by decide) (kba_rule_2 h_q0) (by omega) (by omega) (by decide) (by decide) l_a1 u_a1 (by omega) (by omega) (fun g1 hIg1 hfg1 hc2 => ⟨_, rfl, ?_⟩))
  show mm_W d mmX5_setWords 9 [some (.ref q0), some (.int (Int32.ofInt a1)), some (.int (Int32.ofInt a2)), some (.int (Int32.ofInt a3))] [] (mz_mk g1 x) Q
  replace hE := zf_t1 hE hc2
  refine mm_g 1 (pc1 := 10) (lo1 := [some (.ref q0), some (.int (Int32.ofInt a1)), some (.int (Int32.ofInt a2)), some (.int (Int32.ofInt a3))]) (st1 := [.ref q0]) (H1 := mz_mk g1 x) rfl ?_
  refine mz_fgR (v := (q0 + 2)) rfl fd_5_19 (by decide) (kc_rule h_q0 _) (kr_rule_2 h_q0 _ _ _) ?_
  refine mm_g 2 (pc1 := 15) (lo1 := [some (.ref q0), some (.int (Int32.ofInt a1)), some (.int (Int32.ofInt a2)), some (.int (Int32.ofInt a3))]) (st1 := [.int (Int32.ofInt a2), .int (Int32.ofInt 4), .ref (q0 + 2)]) (H1 := mz_mk g1 x) rfl ?_
  refine mz_cs rfl mt_5_25 (by decide) rfl (Nat.le_of_ble_eq_true rfl) (by omega) (f_X11_put (by omega) hx hIg1 (ka_rule_2 h_q0 _) (by decide) (kba_rule_2 h_q0) (by omega) (by omega) (by decide) (by decide) l_a2 u_a2 (by omega) (by omega) (fun g3 hIg3 hfg3 hc4 => ⟨_, rfl, ?_⟩))
  show mm_W d mmX5_setWords 18 [some (.ref q0), some (.int (Int32.ofInt a1)), some (.int (Int32.ofInt a2)), some (.int (Int32.ofInt a3))] [] (mz_mk g3 x) Q
  replace hE := zf_t1 hE hc4
  refine mm_g 1 (pc1 := 19) (lo1 := [some (.ref q0), some (.int (Int32.ofInt a1)), some (.int (Int32.ofInt a2)), some (.int (Int32.ofInt a3))]) (st1 := [.ref q0]) (H1 := mz_mk g3 x) rfl ?_
  refine mz_fgR (v := (q0 + 2)) rfl fd_5_19 (by decide) (kc_rule h_q0 _) (kr_rule_2 h_q0 _ _ _) ?_
  refine mm_g 2 (pc1 := 24) (lo1 := [some (.ref q0), some (.int (Int32.ofInt a1)), some (.int (Int32.ofInt a2)), some (.int (Int32.ofInt a3))]) (st1 := [.int (Int32.ofInt a3), .int (Int32.ofInt 5), .ref (q0 + 2)]) (H1 := mz_mk g3 x) rfl ?_
  refine mz_cs rfl mt_5_25 (by decide) rfl (Nat.le_of_ble_eq_true rfl) (by omega) (f_X11_put (by omega) hx hIg3 (ka_rule_2 h_q0 _) (by decide) (kba_rule_2 h_q0) (by omega) (by omega) (by decide) (by decide) l_a3 u_a3 (by omega) (by omega) (fun g5 hIg5 hfg5 hc6 => ⟨_, rfl, ?_⟩))
  show mm_W d mmX5_setWords 27 [some (.ref q0), some (.int (Int32.ofInt a1)), some (.int (Int32.ofInt a2)), some (.int (Int32.ofInt a3))] [] (mz_mk g5 x) Q
  replace hE := zf_t1 hE hc6
  exact mm_rt rfl rfl (hQ _ hIg5 (fun k j hk => ((hfg5 k j (fun h => hk h)).trans ((hfg3 k j (fun h => hk h)).trans (hfg1 k j (fun h => hk h))))) hE)
theorem f_X5_joined {d : Nat} (hd : 1 ≤ d) {x : mm_X} (hx : mk_x x) {g : mz_G} (hI : mz_inv g) {a1 : Int} (l_a1 : (-2147483648) ≤ a1) (u_a1 : a1 ≤ 2147483647) {a2 : Int} (l_a2 : (-2147483648) ≤ a2) (u_a2 : a2 ≤ 2147483647) {a3 : Int} (l_a3 : (-2147483648) ≤ a3) (u_a3 : a3 ≤ 2147483647) {Q : (Option Value ⊕ Nat) → mm_H → Prop} (hQ : ∀ (r : Int), (-2147483648) ≤ r → r ≤ 2147483647 → zf_E (zF_X5_joined a1 a2 a3 g) (r) → Q (.inl (some (.int (Int32.ofInt r)))) (mz_mk g x)) : mm_C d 64 [.int (Int32.ofInt a1), .int (Int32.ofInt a2), .int (Int32.ofInt a3)] (mz_mk g x) Q := by
  refine ⟨mmX5_joined, [some (.int (Int32.ofInt a1)), some (.int (Int32.ofInt a2)), some (.int (Int32.ofInt a3))], rfl, rfl, ?_⟩
  have hE : zf_E (zF_X5_joined a1 a2 a3 g) (zF_X5_joined a1 a2 a3 g) := zf_rf
  refine mm_g 1 (pc1 := 1) (lo1 := [some (.int (Int32.ofInt a1)), some (.int (Int32.ofInt a2)), some (.int (Int32.ofInt a3))]) (st1 := [.int (Int32.ofInt a1)]) (H1 := mz_mk g x) rfl ?_
  by_cases c1_0 : a1 = (-18)
  · refine mz_tsi (tgt := 106) rfl (mz_rg l_a1 u_a1) (by omega) (by omega) (by rw [c1_0]; rfl) rfl ?_
    replace hE := zf_ip hE c1_0
    refine mm_g 2 (pc1 := 108) (lo1 := [some (.int (Int32.ofInt a1)), some (.int (Int32.ofInt a2)), some (.int (Int32.ofInt a3))]) (st1 := [.int (Int32.ofInt a3), .int (Int32.ofInt a2)]) (H1 := mz_mk g x) rfl ?_
    refine mz_imul_w rfl (fun v1 e_v1 hwv1 => ?_)
    have l_v1 := hwv1.1
    have u_v1 := hwv1.2
    replace hE := zf_tr hE (zf_le e_v1.symm)
    exact mm_rt rfl rfl (hQ _ (by omega) (by omega) hE)
  replace hE := zf_in hE c1_0
  by_cases c1_1 : a1 = (-17)
  · refine mz_tsi (tgt := 102) rfl (mz_rg l_a1 u_a1) (by omega) (by omega) (by rw [c1_1]; rfl) rfl ?_
    replace hE := zf_ip hE c1_1
    refine mm_g 2 (pc1 := 104) (lo1 := [some (.int (Int32.ofInt a1)), some (.int (Int32.ofInt a2)), some (.int (Int32.ofInt a3))]) (st1 := [.int (Int32.ofInt a3), .int (Int32.ofInt a2)]) (H1 := mz_mk g x) rfl ?_
    refine mz_isub_w rfl (fun v2 e_v2 hwv2 => ?_)
    have l_v2 := hwv2.1
    have u_v2 := hwv2.2
    replace hE := zf_tr hE (zf_le e_v2.symm)
    exact mm_rt rfl rfl (hQ _ (by omega) (by omega) hE)
  replace hE := zf_in hE c1_1
  by_cases c1_2 : a1 = (-16)
  · refine mz_tsi (tgt := 98) rfl (mz_rg l_a1 u_a1) (by omega) (by omega) (by rw [c1_2]; rfl) rfl ?_
    replace hE := zf_ip hE c1_2
    refine mm_g 2 (pc1 := 100) (lo1 := [some (.int (Int32.ofInt a1)), some (.int (Int32.ofInt a2)), some (.int (Int32.ofInt a3))]) (st1 := [.int (Int32.ofInt a3), .int (Int32.ofInt a2)]) (H1 := mz_mk g x) rfl ?_
    refine mz_iadd_w rfl (fun v3 e_v3 hwv3 => ?_)
    have l_v3 := hwv3.1
    have u_v3 := hwv3.2
    replace hE := zf_tr hE (zf_le e_v3.symm)
    exact mm_rt rfl rfl (hQ _ (by omega) (by omega) hE)
  replace hE := zf_in hE c1_2
  by_cases c1_3 : a1 = (-15)
  · refine mz_tsi (tgt := 87) rfl (mz_rg l_a1 u_a1) (by omega) (by omega) (by rw [c1_3]; rfl) rfl ?_
    replace hE := zf_ip hE c1_3
    refine mm_g 2 (pc1 := 89) (lo1 := [some (.int (Int32.ofInt a1)), some (.int (Int32.ofInt a2)), some (.int (Int32.ofInt a3))]) (st1 := [.int (Int32.ofInt a3), .int (Int32.ofInt a2)]) (H1 := mz_mk g x) rfl ?_
    refine mz_ic_ne (tgt := 96) rfl rfl (mz_rg l_a2 u_a2) (mz_rg l_a3 u_a3) (fun c89_3 => ?_) (fun c89_3 => ?_)
    · skip
      replace hE := zf_in hE c89_3
      refine mm_g 1 (pc1 := 97) (lo1 := [some (.int (Int32.ofInt a1)), some (.int (Int32.ofInt a2)), some (.int (Int32.ofInt a3))]) (st1 := [.int (Int32.ofInt 0)]) (H1 := mz_mk g x) rfl ?_
      exact mm_rt rfl rfl (hQ _ (by decide) (by decide) hE)
    · skip
      replace hE := zf_ip hE c89_3
      refine mm_g 1 (pc1 := 93) (lo1 := [some (.int (Int32.ofInt a1)), some (.int (Int32.ofInt a2)), some (.int (Int32.ofInt a3))]) (st1 := [.int (Int32.ofInt 1)]) (H1 := mz_mk g x) rfl ?_
      refine mz_gt (tgt := 97) rfl rfl ?_
      exact mm_rt rfl rfl (hQ _ (by decide) (by decide) hE)
  replace hE := zf_in hE c1_3
  by_cases c1_4 : a1 = (-14)
  · refine mz_tsi (tgt := 76) rfl (mz_rg l_a1 u_a1) (by omega) (by omega) (by rw [c1_4]; rfl) rfl ?_
    replace hE := zf_ip hE c1_4
    refine mm_g 2 (pc1 := 78) (lo1 := [some (.int (Int32.ofInt a1)), some (.int (Int32.ofInt a2)), some (.int (Int32.ofInt a3))]) (st1 := [.int (Int32.ofInt a3), .int (Int32.ofInt a2)]) (H1 := mz_mk g x) rfl ?_
    refine mz_ic_ge (tgt := 85) rfl rfl (mz_rg l_a2 u_a2) (mz_rg l_a3 u_a3) (fun c78_3 => ?_) (fun c78_3 => ?_)
    · skip
      replace hE := zf_nl hE c78_3
      refine mm_g 1 (pc1 := 86) (lo1 := [some (.int (Int32.ofInt a1)), some (.int (Int32.ofInt a2)), some (.int (Int32.ofInt a3))]) (st1 := [.int (Int32.ofInt 0)]) (H1 := mz_mk g x) rfl ?_
      exact mm_rt rfl rfl (hQ _ (by decide) (by decide) hE)
    · skip
      replace hE := zf_ip hE c78_3
      refine mm_g 1 (pc1 := 82) (lo1 := [some (.int (Int32.ofInt a1)), some (.int (Int32.ofInt a2)), some (.int (Int32.ofInt a3))]) (st1 := [.int (Int32.ofInt 1)]) (H1 := mz_mk g x) rfl ?_
      refine mz_gt (tgt := 86) rfl rfl ?_
      exact mm_rt rfl rfl (hQ _ (by decide) (by decide) hE)
  replace hE := zf_in hE c1_4
  by_cases c1_5 : a1 = (-13)
  · refine mz_tsi (tgt := 110) rfl (mz_rg l_a1 u_a1) (by omega) (by omega) (by rw [c1_5]; rfl) rfl ?_
    replace hE := zf_ip hE c1_5
    refine mm_g 1 (pc1 := 111) (lo1 := [some (.int (Int32.ofInt a1)), some (.int (Int32.ofInt a2)), some (.int (Int32.ofInt a3))]) (st1 := [.int (Int32.ofInt a3)]) (H1 := mz_mk g x) rfl ?_
    refine mz_if_ne (tgt := 118) rfl rfl (mz_rg l_a3 u_a3) (fun c111_3 => ?_) (fun c111_3 => ?_)
    · skip
      replace hE := zf_in hE c111_3
      refine mm_g 2 (pc1 := 120) (lo1 := [some (.int (Int32.ofInt a1)), some (.int (Int32.ofInt a2)), some (.int (Int32.ofInt a3))]) (st1 := [.int (Int32.ofInt a3), .int (Int32.ofInt a2)]) (H1 := mz_mk g x) rfl ?_
      refine mz_idiv rfl (mz_rg l_a3 u_a3) (by omega) (fun v4 e_v4 hwv4 => ?_)
      replace hE := zf_tr hE (zf_le e_v4.symm)
      have l_v4 := hwv4.1
      have u_v4 := hwv4.2
      exact mm_rt rfl rfl (hQ _ (by omega) (by omega) hE)
    · skip
      replace hE := zf_ip hE c111_3
      refine mm_g 1 (pc1 := 115) (lo1 := [some (.int (Int32.ofInt a1)), some (.int (Int32.ofInt a2)), some (.int (Int32.ofInt a3))]) (st1 := [.int (Int32.ofInt 0)]) (H1 := mz_mk g x) rfl ?_
      refine mz_gt (tgt := 121) rfl rfl ?_
      exact mm_rt rfl rfl (hQ _ (by decide) (by decide) hE)
  replace hE := zf_in hE c1_5
  by_cases c1_6 : a1 = (-12)
  · refine mz_tsi (tgt := 62) rfl (mz_rg l_a1 u_a1) (by omega) (by omega) (by rw [c1_6]; rfl) rfl ?_
    replace hE := zf_ip hE c1_6
    refine mm_g 1 (pc1 := 63) (lo1 := [some (.int (Int32.ofInt a1)), some (.int (Int32.ofInt a2)), some (.int (Int32.ofInt a3))]) (st1 := [.int (Int32.ofInt a2)]) (H1 := mz_mk g x) rfl ?_
    refine mz_if_eq (tgt := 74) rfl rfl (mz_rg l_a2 u_a2) (fun c63_4 => ?_) (fun c63_4 => ?_)
    · skip
      replace hE := zf_ip hE c63_4
      refine mm_g 1 (pc1 := 75) (lo1 := [some (.int (Int32.ofInt a1)), some (.int (Int32.ofInt a2)), some (.int (Int32.ofInt a3))]) (st1 := [.int (Int32.ofInt 0)]) (H1 := mz_mk g x) rfl ?_
      exact mm_rt rfl rfl (hQ _ (by decide) (by decide) hE)
    · skip
      replace hE := zf_in hE c63_4
      refine mm_g 1 (pc1 := 67) (lo1 := [some (.int (Int32.ofInt a1)), some (.int (Int32.ofInt a2)), some (.int (Int32.ofInt a3))]) (st1 := [.int (Int32.ofInt a3)]) (H1 := mz_mk g x) rfl ?_
      refine mz_if_eq (tgt := 74) rfl rfl (mz_rg l_a3 u_a3) (fun c67_4 => ?_) (fun c67_4 => ?_)
      · skip
        replace hE := zf_ip hE c67_4
        refine mm_g 1 (pc1 := 75) (lo1 := [some (.int (Int32.ofInt a1)), some (.int (Int32.ofInt a2)), some (.int (Int32.ofInt a3))]) (st1 := [.int (Int32.ofInt 0)]) (H1 := mz_mk g x) rfl ?_
        exact mm_rt rfl rfl (hQ _ (by decide) (by decide) hE)
      · skip
        replace hE := zf_in hE c67_4
        refine mm_g 1 (pc1 := 71) (lo1 := [some (.int (Int32.ofInt a1)), some (.int (Int32.ofInt a2)), some (.int (Int32.ofInt a3))]) (st1 := [.int (Int32.ofInt 1)]) (H1 := mz_mk g x) rfl ?_
        refine mz_gt (tgt := 75) rfl rfl ?_
        exact mm_rt rfl rfl (hQ _ (by decide) (by decide) hE)
  replace hE := zf_in hE c1_6
  by_cases c1_7 : a1 = (-11)
  · refine mz_tsi (tgt := 48) rfl (mz_rg l_a1 u_a1) (by omega) (by omega) (by rw [c1_7]; rfl) rfl ?_
    replace hE := zf_ip hE c1_7
    refine mm_g 1 (pc1 := 49) (lo1 := [some (.int (Int32.ofInt a1)), some (.int (Int32.ofInt a2)), some (.int (Int32.ofInt a3))]) (st1 := [.int (Int32.ofInt a2)]) (H1 := mz_mk g x) rfl ?_
    refine mz_if_ne (tgt := 56) rfl rfl (mz_rg l_a2 u_a2) (fun c49_4 => ?_) (fun c49_4 => ?_)
    · skip
      replace hE := zf_in hE c49_4
      refine mm_g 1 (pc1 := 57) (lo1 := [some (.int (Int32.ofInt a1)), some (.int (Int32.ofInt a2)), some (.int (Int32.ofInt a3))]) (st1 := [.int (Int32.ofInt 1)]) (H1 := mz_mk g x) rfl ?_
      refine mz_gt (tgt := 61) rfl rfl ?_
      exact mm_rt rfl rfl (hQ _ (by decide) (by decide) hE)
    · skip
      replace hE := zf_ip hE c49_4
      refine mm_g 1 (pc1 := 53) (lo1 := [some (.int (Int32.ofInt a1)), some (.int (Int32.ofInt a2)), some (.int (Int32.ofInt a3))]) (st1 := [.int (Int32.ofInt a3)]) (H1 := mz_mk g x) rfl ?_
      refine mz_if_eq (tgt := 60) rfl rfl (mz_rg l_a3 u_a3) (fun c53_4 => ?_) (fun c53_4 => ?_)
      · skip
        replace hE := zf_ip hE c53_4
        refine mm_g 1 (pc1 := 61) (lo1 := [some (.int (Int32.ofInt a1)), some (.int (Int32.ofInt a2)), some (.int (Int32.ofInt a3))]) (st1 := [.int (Int32.ofInt 0)]) (H1 := mz_mk g x) rfl ?_
        exact mm_rt rfl rfl (hQ _ (by decide) (by decide) hE)
      · skip
        replace hE := zf_in hE c53_4
        refine mm_g 1 (pc1 := 57) (lo1 := [some (.int (Int32.ofInt a1)), some (.int (Int32.ofInt a2)), some (.int (Int32.ofInt a3))]) (st1 := [.int (Int32.ofInt 1)]) (H1 := mz_mk g x) rfl ?_
        refine mz_gt (tgt := 61) rfl rfl ?_
        exact mm_rt rfl rfl (hQ _ (by decide) (by decide) hE)
  replace hE := zf_in hE c1_7
  refine mz_tso (tgt := 110) rfl (mz_rg l_a1 u_a1) (by omega) rfl ?_
  refine mm_g 1 (pc1 := 111) (lo1 := [some (.int (Int32.ofInt a1)), some (.int (Int32.ofInt a2)), some (.int (Int32.ofInt a3))]) (st1 := [.int (Int32.ofInt a3)]) (H1 := mz_mk g x) rfl ?_
  refine mz_if_ne (tgt := 118) rfl rfl (mz_rg l_a3 u_a3) (fun c111_4 => ?_) (fun c111_4 => ?_)
  · skip
    replace hE := zf_in hE c111_4
    refine mm_g 2 (pc1 := 120) (lo1 := [some (.int (Int32.ofInt a1)), some (.int (Int32.ofInt a2)), some (.int (Int32.ofInt a3))]) (st1 := [.int (Int32.ofInt a3), .int (Int32.ofInt a2)]) (H1 := mz_mk g x) rfl ?_
    refine mz_idiv rfl (mz_rg l_a3 u_a3) (by omega) (fun v5 e_v5 hwv5 => ?_)
    replace hE := zf_tr hE (zf_le e_v5.symm)
    have l_v5 := hwv5.1
    have u_v5 := hwv5.2
    exact mm_rt rfl rfl (hQ _ (by omega) (by omega) hE)
  · skip
    replace hE := zf_ip hE c111_4
    refine mm_g 1 (pc1 := 115) (lo1 := [some (.int (Int32.ofInt a1)), some (.int (Int32.ofInt a2)), some (.int (Int32.ofInt a3))]) (st1 := [.int (Int32.ofInt 0)]) (H1 := mz_mk g x) rfl ?_
    refine mz_gt (tgt := 121) rfl rfl ?_
    exact mm_rt rfl rfl (hQ _ (by decide) (by decide) hE)
def fl_X5_worth_4 (x : mm_X) (q0 : Nat) : Nat → Nat → Prop := fun k j => k = (q0 + 3)
def fw_X5_worth (x : mm_X) (q0 : Nat) : Nat → Nat → Prop := fun k j => k = (q0 + 3)
theorem f_X5_worth {d : Nat} (hd : 2 ≤ d) {x : mm_X} (hx : mk_x x) {g : mz_G} (hI : mz_inv g) {q0 : Nat} (h_q0 : kd_rule q0) {Q : (Option Value ⊕ Nat) → mm_H → Prop} (hQ : ∀ (r : Int) (g1 : mz_G), mz_inv g1 → mz_fr (fw_X5_worth x q0) g g1 → (-2147483648) ≤ r → r ≤ 2147483647 → zf_E (zF_X5_worth q0 g) ((r, g1)) → Q (.inl (some (.int (Int32.ofInt r)))) (mz_mk g1 x)) : mm_C d 63 [.ref q0] (mz_mk g x) Q := by
  have kn_q0 := kn_rule h_q0
  refine ⟨mmX5_worth, [some (.ref q0), none, none, none], rfl, rfl, ?_⟩
  have hE : zf_E (zF_X5_worth q0 g) (zF_X5_worth q0 g) := zf_rf
  refine mm_g 4 (pc1 := 4) (lo1 := [some (.ref q0), some (.int (Int32.ofInt (-1))), some (.int (Int32.ofInt 0)), none]) (st1 := []) (H1 := mz_mk g x) rfl ?_
  have L7 : ∀ n6 : Nat, ∀ (v1 : Int) (v2 : Int) (o3 : Option Value) (g4 : mz_G), (700 - v2).toNat = n6 → (-2147483648) ≤ v1 → v1 ≤ 2147483647 → 0 ≤ v2 → v2 ≤ 700 → mz_nl o3 → mz_inv g4 → mz_fr (fl_X5_worth_4 x q0) g g4 → (∃ fk : Nat, (700 - v2).toNat < fk ∧ zf_E (zF_X5_worth q0 g) (zL_X5_worth_4 q0 fk v1 v2 g4)) → mm_W d mmX5_worth 4 [some (.ref q0), some (.int (Int32.ofInt v1)), some (.int (Int32.ofInt v2)), o3] [] (mz_mk g4 x) Q := by
    intro n6
    induction n6 using Nat.strongRecOn with
    | ind n6 ih5 =>
    intro v1 v2 o3 g4 hmn6 l_v1 u_v1 l_v2 u_v2 h_o3 hIg4 hfg4 hF
    obtain ⟨fk, fl, hE⟩ := hF
    obtain ⟨fj8, rfl⟩ : ∃ fj, fk = fj + 1 := ⟨fk - 1, by omega⟩
    have fn9 : n6 ≤ fj8 := by omega
    replace hE := zf_tr hE zL_X5_worth_4_s
    refine mm_g 2 (pc1 := 6) (lo1 := [some (.ref q0), some (.int (Int32.ofInt v1)), some (.int (Int32.ofInt v2)), o3]) (st1 := [.ref q0, .int (Int32.ofInt v2)]) (H1 := mz_mk g4 x) rfl ?_
    refine mz_gI rfl fd_5_15 (by decide) (kc_rule h_q0 _) hIg4 (kb_rule_1 h_q0) (fun v10 e_v10 l_v10 u_v10 => ?_)
    replace hE := zf_tr hE (zf_le e_v10)
    refine mz_ic_ge (tgt := 131) rfl rfl (mz_rg l_v2 u_v2) (mz_rg l_v10 u_v10) (fun c9_10 => ?_) (fun c9_10 => ?_)
    · skip
      replace hE := zf_nl hE c9_10
      refine mm_g 1 (pc1 := 132) (lo1 := [some (.ref q0), some (.int (Int32.ofInt v1)), some (.int (Int32.ofInt v2)), o3]) (st1 := [.ref q0]) (H1 := mz_mk g4 x) rfl ?_
      refine mz_fgR (v := (q0 + 3)) rfl fd_5_22 (by decide) (kc_rule h_q0 _) (kr_rule_3 h_q0 _ _ _) ?_
      refine mm_g 1 (pc1 := 136) (lo1 := [some (.ref q0), some (.int (Int32.ofInt v1)), some (.int (Int32.ofInt v2)), o3]) (st1 := [.int (Int32.ofInt 0), .ref (q0 + 3)]) (H1 := mz_mk g4 x) rfl ?_
      refine mz_cs rfl mt_5_37 (by decide) rfl (Nat.le_of_ble_eq_true rfl) (by omega) (f_X11_at (by omega) hx hIg4 (ka_rule_3 h_q0 _) (by decide) (kba_rule_3 h_q0) (by omega) (by omega) (by decide) (by decide) (fun v11 l_v11 u_v11 hc12 => ⟨_, rfl, ?_⟩))
      show mm_W d mmX5_worth 139 [some (.ref q0), some (.int (Int32.ofInt v1)), some (.int (Int32.ofInt v2)), o3] [.int (Int32.ofInt v11)] (mz_mk g4 x) Q
      replace hE := zf_t1 hE hc12
      exact mm_rt rfl rfl (hQ _ _ hIg4 (fun k j hk => (hfg4 k j (fun h => hk h))) (by omega) (by omega) hE)
    · skip
      replace hE := zf_ip hE c9_10
      refine mm_g 1 (pc1 := 13) (lo1 := [some (.ref q0), some (.int (Int32.ofInt v1)), some (.int (Int32.ofInt v2)), o3]) (st1 := [.ref q0]) (H1 := mz_mk g4 x) rfl ?_
      refine mz_fgR (v := (q0 + 1)) rfl fd_5_9 (by decide) (kc_rule h_q0 _) (kr_rule_0 h_q0 _ _ _) ?_
      refine mm_g 1 (pc1 := 17) (lo1 := [some (.ref q0), some (.int (Int32.ofInt v1)), some (.int (Int32.ofInt v2)), o3]) (st1 := [.int (Int32.ofInt v2), .ref (q0 + 1)]) (H1 := mz_mk g4 x) rfl ?_
      refine mz_cs rfl mt_5_37 (by decide) rfl (Nat.le_of_ble_eq_true rfl) (by omega) (f_X11_at (by omega) hx hIg4 (ka_rule_0 h_q0 _) (by decide) (kba_rule_0 h_q0) (by omega) (by omega) (by omega) (by omega) (fun v13 l_v13 u_v13 hc14 => ⟨_, rfl, ?_⟩))
      show mm_W d mmX5_worth 20 [some (.ref q0), some (.int (Int32.ofInt v1)), some (.int (Int32.ofInt v2)), o3] [.int (Int32.ofInt v13)] (mz_mk g4 x) Q
      replace hE := zf_t1 hE hc14
      refine mm_g 2 (pc1 := 22) (lo1 := [some (.ref q0), some (.int (Int32.ofInt v1)), some (.int (Int32.ofInt v2)), some (.int (Int32.ofInt v13))]) (st1 := [.int (Int32.ofInt v13)]) (H1 := mz_mk g4 x) rfl ?_
      refine mz_bip rfl bip_m7 ?_
      refine mz_ic_lt (tgt := 59) rfl rfl (mz_rg l_v13 u_v13) ⟨by decide, by decide⟩ (fun c24_14 => ?_) (fun c24_14 => ?_)
      · skip
        replace hE := zf_ip hE c24_14
        refine mm_g 1 (pc1 := 60) (lo1 := [some (.ref q0), some (.int (Int32.ofInt v1)), some (.int (Int32.ofInt v2)), some (.int (Int32.ofInt v13))]) (st1 := [.int (Int32.ofInt v13)]) (H1 := mz_mk g4 x) rfl ?_
        refine mz_bip rfl bip_m13 ?_
        refine mz_ic_ne (tgt := 92) rfl rfl (mz_rg l_v13 u_v13) ⟨by decide, by decide⟩ (fun c62_14 => ?_) (fun c62_14 => ?_)
        · skip
          replace hE := zf_in hE c62_14
          refine mz_iincW (v := v1) (lo2 := fun v15 => [some (.ref q0), some (.int (Int32.ofInt v15)), some (.int (Int32.ofInt v2)), some (.int (Int32.ofInt v13))]) rfl rfl rfl (Nat.le_of_ble_eq_true rfl) (fun _ => rfl) (fun v15 e_v15 hwv15 => ?_)
          have l_v15 := hwv15.1
          have u_v15 := hwv15.2
          replace hE := zf_tr hE (zf_le e_v15.symm)
          refine mm_g 1 (pc1 := 96) (lo1 := [some (.ref q0), some (.int (Int32.ofInt v15)), some (.int (Int32.ofInt v2)), some (.int (Int32.ofInt v13))]) (st1 := [.ref q0]) (H1 := mz_mk g4 x) rfl ?_
          refine mz_fgR (v := (q0 + 3)) rfl fd_5_22 (by decide) (kc_rule h_q0 _) (kr_rule_3 h_q0 _ _ _) ?_
          refine mm_g 3 (pc1 := 102) (lo1 := [some (.ref q0), some (.int (Int32.ofInt v15)), some (.int (Int32.ofInt v2)), some (.int (Int32.ofInt v13))]) (st1 := [.ref q0, .int (Int32.ofInt v13), .int (Int32.ofInt v15), .ref (q0 + 3)]) (H1 := mz_mk g4 x) rfl ?_
          refine mz_fgR (v := (q0 + 3)) rfl fd_5_22 (by decide) (kc_rule h_q0 _) (kr_rule_3 h_q0 _ _ _) ?_
          refine mm_g 1 (pc1 := 106) (lo1 := [some (.ref q0), some (.int (Int32.ofInt v15)), some (.int (Int32.ofInt v2)), some (.int (Int32.ofInt v13))]) (st1 := [.int (Int32.ofInt v15), .ref (q0 + 3), .int (Int32.ofInt v13), .int (Int32.ofInt v15), .ref (q0 + 3)]) (H1 := mz_mk g4 x) rfl ?_
          refine mz_cs rfl mt_5_37 (by decide) rfl (Nat.le_of_ble_eq_true rfl) (by omega) (f_X11_at (by omega) hx hIg4 (ka_rule_3 h_q0 _) (by decide) (kba_rule_3 h_q0) (by omega) (by omega) l_v15 u_v15 (fun v16 l_v16 u_v16 hc17 => ⟨_, rfl, ?_⟩))
          show mm_W d mmX5_worth 109 [some (.ref q0), some (.int (Int32.ofInt v15)), some (.int (Int32.ofInt v2)), some (.int (Int32.ofInt v13))] [.int (Int32.ofInt v16), .int (Int32.ofInt v13), .int (Int32.ofInt v15), .ref (q0 + 3)] (mz_mk g4 x) Q
          replace hE := zf_t1 hE hc17
          refine mm_g 1 (pc1 := 110) (lo1 := [some (.ref q0), some (.int (Int32.ofInt v15)), some (.int (Int32.ofInt v2)), some (.int (Int32.ofInt v13))]) (st1 := [.ref q0, .int (Int32.ofInt v16), .int (Int32.ofInt v13), .int (Int32.ofInt v15), .ref (q0 + 3)]) (H1 := mz_mk g4 x) rfl ?_
          refine mz_fgR (v := (q0 + 3)) rfl fd_5_22 (by decide) (kc_rule h_q0 _) (kr_rule_3 h_q0 _ _ _) ?_
          refine mm_g 2 (pc1 := 115) (lo1 := [some (.ref q0), some (.int (Int32.ofInt v15)), some (.int (Int32.ofInt v2)), some (.int (Int32.ofInt v13))]) (st1 := [.int (Int32.ofInt 1), .int (Int32.ofInt v15), .ref (q0 + 3), .int (Int32.ofInt v16), .int (Int32.ofInt v13), .int (Int32.ofInt v15), .ref (q0 + 3)]) (H1 := mz_mk g4 x) rfl ?_
          refine mz_iadd_w rfl (fun v18 e_v18 hwv18 => ?_)
          have l_v18 := hwv18.1
          have u_v18 := hwv18.2
          replace hE := zf_tr hE (zf_le e_v18.symm)
          refine mz_cs rfl mt_5_37 (by decide) rfl (Nat.le_of_ble_eq_true rfl) (by omega) (f_X11_at (by omega) hx hIg4 (ka_rule_3 h_q0 _) (by decide) (kba_rule_3 h_q0) (by omega) (by omega) l_v18 u_v18 (fun v19 l_v19 u_v19 hc20 => ⟨_, rfl, ?_⟩))
          show mm_W d mmX5_worth 119 [some (.ref q0), some (.int (Int32.ofInt v15)), some (.int (Int32.ofInt v2)), some (.int (Int32.ofInt v13))] [.int (Int32.ofInt v19), .int (Int32.ofInt v16), .int (Int32.ofInt v13), .int (Int32.ofInt v15), .ref (q0 + 3)] (mz_mk g4 x) Q
          replace hE := zf_t1 hE hc20
          refine mz_cs rfl mt_5_41 (by decide) rfl (Nat.le_of_ble_eq_true rfl) (by omega) (f_X5_joined (by omega) hx hIg4 l_v13 u_v13 l_v16 u_v16 l_v19 u_v19 (fun v21 l_v21 u_v21 hc22 => ⟨_, rfl, ?_⟩))
          show mm_W d mmX5_worth 122 [some (.ref q0), some (.int (Int32.ofInt v15)), some (.int (Int32.ofInt v2)), some (.int (Int32.ofInt v13))] [.int (Int32.ofInt v21), .int (Int32.ofInt v15), .ref (q0 + 3)] (mz_mk g4 x) Q
          replace hE := zf_t1 hE hc22
          refine mz_cs rfl mt_5_25 (by decide) rfl (Nat.le_of_ble_eq_true rfl) (by omega) (f_X11_put (by omega) hx hIg4 (ka_rule_3 h_q0 _) (by decide) (kba_rule_3 h_q0) (by omega) (by omega) l_v15 u_v15 l_v21 u_v21 (by omega) (by omega) (fun g23 hIg23 hfg23 hc24 => ⟨_, rfl, ?_⟩))
          show mm_W d mmX5_worth 125 [some (.ref q0), some (.int (Int32.ofInt v15)), some (.int (Int32.ofInt v2)), some (.int (Int32.ofInt v13))] [] (mz_mk g23 x) Q
          replace hE := zf_t1 hE hc24
          refine mz_iincR (v := v2) (lo2 := [some (.ref q0), some (.int (Int32.ofInt v15)), some (.int (Int32.ofInt (v2 + 1))), some (.int (Int32.ofInt v13))]) rfl rfl rfl (Nat.le_of_ble_eq_true rfl) rfl ?_
          refine mz_gt (tgt := 4) rfl rfl ?_
          exact ih5 ((700 - (v2 + 1)).toNat) (by omega) v15 (v2 + 1) (some (.int (Int32.ofInt v13))) g23 rfl (by omega) (by omega) (by omega) (by omega) (mz_nl_i _) hIg23 (fun k j hk => ((hfg23 k j (fun h => hk h)).trans (hfg4 k j (fun h => hk h)))) ⟨fj8, Nat.lt_of_lt_of_le (show ((700 - (v2 + 1)).toNat) < n6 from (by omega)) fn9, hE⟩
        · skip
          replace hE := zf_ip hE c62_14
          refine mm_g 1 (pc1 := 66) (lo1 := [some (.ref q0), some (.int (Int32.ofInt v1)), some (.int (Int32.ofInt v2)), some (.int (Int32.ofInt v13))]) (st1 := [.ref q0]) (H1 := mz_mk g4 x) rfl ?_
          refine mz_fgR (v := (q0 + 3)) rfl fd_5_22 (by decide) (kc_rule h_q0 _) (kr_rule_3 h_q0 _ _ _) ?_
          refine mm_g 2 (pc1 := 71) (lo1 := [some (.ref q0), some (.int (Int32.ofInt v1)), some (.int (Int32.ofInt v2)), some (.int (Int32.ofInt v13))]) (st1 := [.ref q0, .int (Int32.ofInt v1), .ref (q0 + 3)]) (H1 := mz_mk g4 x) rfl ?_
          refine mz_fgR (v := (q0 + 3)) rfl fd_5_22 (by decide) (kc_rule h_q0 _) (kr_rule_3 h_q0 _ _ _) ?_
          refine mm_g 1 (pc1 := 75) (lo1 := [some (.ref q0), some (.int (Int32.ofInt v1)), some (.int (Int32.ofInt v2)), some (.int (Int32.ofInt v13))]) (st1 := [.int (Int32.ofInt v1), .ref (q0 + 3), .int (Int32.ofInt v1), .ref (q0 + 3)]) (H1 := mz_mk g4 x) rfl ?_
          refine mz_cs rfl mt_5_37 (by decide) rfl (Nat.le_of_ble_eq_true rfl) (by omega) (f_X11_at (by omega) hx hIg4 (ka_rule_3 h_q0 _) (by decide) (kba_rule_3 h_q0) (by omega) (by omega) l_v1 u_v1 (fun v25 l_v25 u_v25 hc26 => ⟨_, rfl, ?_⟩))
          show mm_W d mmX5_worth 78 [some (.ref q0), some (.int (Int32.ofInt v1)), some (.int (Int32.ofInt v2)), some (.int (Int32.ofInt v13))] [.int (Int32.ofInt v25), .int (Int32.ofInt v1), .ref (q0 + 3)] (mz_mk g4 x) Q
          replace hE := zf_t1 hE hc26
          refine mz_if_ne (tgt := 85) rfl rfl (mz_rg l_v25 u_v25) (fun c78_26 => ?_) (fun c78_26 => ?_)
          · skip
            replace hE := zf_in hE c78_26
            refine mm_g 1 (pc1 := 86) (lo1 := [some (.ref q0), some (.int (Int32.ofInt v1)), some (.int (Int32.ofInt v2)), some (.int (Int32.ofInt v13))]) (st1 := [.int (Int32.ofInt 0), .int (Int32.ofInt v1), .ref (q0 + 3)]) (H1 := mz_mk g4 x) rfl ?_
            refine mz_cs rfl mt_5_25 (by decide) rfl (Nat.le_of_ble_eq_true rfl) (by omega) (f_X11_put (by omega) hx hIg4 (ka_rule_3 h_q0 _) (by decide) (kba_rule_3 h_q0) (by omega) (by omega) l_v1 u_v1 (by decide) (by decide) (by omega) (by omega) (fun g27 hIg27 hfg27 hc28 => ⟨_, rfl, ?_⟩))
            show mm_W d mmX5_worth 89 [some (.ref q0), some (.int (Int32.ofInt v1)), some (.int (Int32.ofInt v2)), some (.int (Int32.ofInt v13))] [] (mz_mk g27 x) Q
            replace hE := zf_t1 hE hc28
            refine mz_gt (tgt := 125) rfl rfl ?_
            refine mz_iincR (v := v2) (lo2 := [some (.ref q0), some (.int (Int32.ofInt v1)), some (.int (Int32.ofInt (v2 + 1))), some (.int (Int32.ofInt v13))]) rfl rfl rfl (Nat.le_of_ble_eq_true rfl) rfl ?_
            refine mz_gt (tgt := 4) rfl rfl ?_
            exact ih5 ((700 - (v2 + 1)).toNat) (by omega) v1 (v2 + 1) (some (.int (Int32.ofInt v13))) g27 rfl (by omega) (by omega) (by omega) (by omega) (mz_nl_i _) hIg27 (fun k j hk => ((hfg27 k j (fun h => hk h)).trans (hfg4 k j (fun h => hk h)))) ⟨fj8, Nat.lt_of_lt_of_le (show ((700 - (v2 + 1)).toNat) < n6 from (by omega)) fn9, hE⟩
          · skip
            replace hE := zf_ip hE c78_26
            refine mm_g 1 (pc1 := 82) (lo1 := [some (.ref q0), some (.int (Int32.ofInt v1)), some (.int (Int32.ofInt v2)), some (.int (Int32.ofInt v13))]) (st1 := [.int (Int32.ofInt 1), .int (Int32.ofInt v1), .ref (q0 + 3)]) (H1 := mz_mk g4 x) rfl ?_
            refine mz_gt (tgt := 86) rfl rfl ?_
            refine mz_cs rfl mt_5_25 (by decide) rfl (Nat.le_of_ble_eq_true rfl) (by omega) (f_X11_put (by omega) hx hIg4 (ka_rule_3 h_q0 _) (by decide) (kba_rule_3 h_q0) (by omega) (by omega) l_v1 u_v1 (by decide) (by decide) (by omega) (by omega) (fun g29 hIg29 hfg29 hc30 => ⟨_, rfl, ?_⟩))
            show mm_W d mmX5_worth 89 [some (.ref q0), some (.int (Int32.ofInt v1)), some (.int (Int32.ofInt v2)), some (.int (Int32.ofInt v13))] [] (mz_mk g29 x) Q
            replace hE := zf_t1 hE hc30
            refine mz_gt (tgt := 125) rfl rfl ?_
            refine mz_iincR (v := v2) (lo2 := [some (.ref q0), some (.int (Int32.ofInt v1)), some (.int (Int32.ofInt (v2 + 1))), some (.int (Int32.ofInt v13))]) rfl rfl rfl (Nat.le_of_ble_eq_true rfl) rfl ?_
            refine mz_gt (tgt := 4) rfl rfl ?_
            exact ih5 ((700 - (v2 + 1)).toNat) (by omega) v1 (v2 + 1) (some (.int (Int32.ofInt v13))) g29 rfl (by omega) (by omega) (by omega) (by omega) (mz_nl_i _) hIg29 (fun k j hk => ((hfg29 k j (fun h => hk h)).trans (hfg4 k j (fun h => hk h)))) ⟨fj8, Nat.lt_of_lt_of_le (show ((700 - (v2 + 1)).toNat) < n6 from (by omega)) fn9, hE⟩
      · skip
        replace hE := zf_nl hE c24_14
        refine mz_iincW (v := v1) (lo2 := fun v31 => [some (.ref q0), some (.int (Int32.ofInt v31)), some (.int (Int32.ofInt v2)), some (.int (Int32.ofInt v13))]) rfl rfl rfl (Nat.le_of_ble_eq_true rfl) (fun _ => rfl) (fun v31 e_v31 hwv31 => ?_)
        have l_v31 := hwv31.1
        have u_v31 := hwv31.2
        replace hE := zf_tr hE (zf_le e_v31.symm)
        refine mm_g 1 (pc1 := 31) (lo1 := [some (.ref q0), some (.int (Int32.ofInt v31)), some (.int (Int32.ofInt v2)), some (.int (Int32.ofInt v13))]) (st1 := [.ref q0]) (H1 := mz_mk g4 x) rfl ?_
        refine mz_fgR (v := (q0 + 3)) rfl fd_5_22 (by decide) (kc_rule h_q0 _) (kr_rule_3 h_q0 _ _ _) ?_
        refine mm_g 2 (pc1 := 36) (lo1 := [some (.ref q0), some (.int (Int32.ofInt v31)), some (.int (Int32.ofInt v2)), some (.int (Int32.ofInt v13))]) (st1 := [.int (Int32.ofInt v13), .int (Int32.ofInt v31), .ref (q0 + 3)]) (H1 := mz_mk g4 x) rfl ?_
        refine mz_if_lt (tgt := 43) rfl rfl (mz_rg l_v13 u_v13) (fun c36_31 => ?_) (fun c36_31 => ?_)
        · skip
          replace hE := zf_ip hE c36_31
          refine mm_g 1 (pc1 := 44) (lo1 := [some (.ref q0), some (.int (Int32.ofInt v31)), some (.int (Int32.ofInt v2)), some (.int (Int32.ofInt v13))]) (st1 := [.ref q0, .int (Int32.ofInt v31), .ref (q0 + 3)]) (H1 := mz_mk g4 x) rfl ?_
          refine mz_fgR (v := (q0 + 2)) rfl fd_5_19 (by decide) (kc_rule h_q0 _) (kr_rule_2 h_q0 _ _ _) ?_
          refine mm_g 2 (pc1 := 49) (lo1 := [some (.ref q0), some (.int (Int32.ofInt v31)), some (.int (Int32.ofInt v2)), some (.int (Int32.ofInt v13))]) (st1 := [.int (Int32.ofInt v13), .int (Int32.ofInt (-1)), .ref (q0 + 2), .int (Int32.ofInt v31), .ref (q0 + 3)]) (H1 := mz_mk g4 x) rfl ?_
          refine mz_isub rfl ?_
          refine mz_cs rfl mt_5_37 (by decide) rfl (Nat.le_of_ble_eq_true rfl) (by omega) (f_X11_at (by omega) hx hIg4 (ka_rule_2 h_q0 _) (by decide) (kba_rule_2 h_q0) (by omega) (by omega) (by omega) (by omega) (fun v32 l_v32 u_v32 hc33 => ⟨_, rfl, ?_⟩))
          show mm_W d mmX5_worth 53 [some (.ref q0), some (.int (Int32.ofInt v31)), some (.int (Int32.ofInt v2)), some (.int (Int32.ofInt v13))] [.int (Int32.ofInt v32), .int (Int32.ofInt v31), .ref (q0 + 3)] (mz_mk g4 x) Q
          replace hE := zf_t1 hE hc33
          refine mz_cs rfl mt_5_25 (by decide) rfl (Nat.le_of_ble_eq_true rfl) (by omega) (f_X11_put (by omega) hx hIg4 (ka_rule_3 h_q0 _) (by decide) (kba_rule_3 h_q0) (by omega) (by omega) l_v31 u_v31 l_v32 u_v32 (by omega) (by omega) (fun g34 hIg34 hfg34 hc35 => ⟨_, rfl, ?_⟩))
          show mm_W d mmX5_worth 56 [some (.ref q0), some (.int (Int32.ofInt v31)), some (.int (Int32.ofInt v2)), some (.int (Int32.ofInt v13))] [] (mz_mk g34 x) Q
          replace hE := zf_t1 hE hc35
          refine mz_gt (tgt := 125) rfl rfl ?_
          refine mz_iincR (v := v2) (lo2 := [some (.ref q0), some (.int (Int32.ofInt v31)), some (.int (Int32.ofInt (v2 + 1))), some (.int (Int32.ofInt v13))]) rfl rfl rfl (Nat.le_of_ble_eq_true rfl) rfl ?_
          refine mz_gt (tgt := 4) rfl rfl ?_
          exact ih5 ((700 - (v2 + 1)).toNat) (by omega) v31 (v2 + 1) (some (.int (Int32.ofInt v13))) g34 rfl (by omega) (by omega) (by omega) (by omega) (mz_nl_i _) hIg34 (fun k j hk => ((hfg34 k j (fun h => hk h)).trans (hfg4 k j (fun h => hk h)))) ⟨fj8, Nat.lt_of_lt_of_le (show ((700 - (v2 + 1)).toNat) < n6 from (by omega)) fn9, hE⟩
        · skip
          replace hE := zf_nl hE c36_31
          refine mm_g 1 (pc1 := 40) (lo1 := [some (.ref q0), some (.int (Int32.ofInt v31)), some (.int (Int32.ofInt v2)), some (.int (Int32.ofInt v13))]) (st1 := [.int (Int32.ofInt v13), .int (Int32.ofInt v31), .ref (q0 + 3)]) (H1 := mz_mk g4 x) rfl ?_
          refine mz_gt (tgt := 53) rfl rfl ?_
          refine mz_cs rfl mt_5_25 (by decide) rfl (Nat.le_of_ble_eq_true rfl) (by omega) (f_X11_put (by omega) hx hIg4 (ka_rule_3 h_q0 _) (by decide) (kba_rule_3 h_q0) (by omega) (by omega) l_v31 u_v31 l_v13 u_v13 (by omega) (by omega) (fun g36 hIg36 hfg36 hc37 => ⟨_, rfl, ?_⟩))
          show mm_W d mmX5_worth 56 [some (.ref q0), some (.int (Int32.ofInt v31)), some (.int (Int32.ofInt v2)), some (.int (Int32.ofInt v13))] [] (mz_mk g36 x) Q
          replace hE := zf_t1 hE hc37
          refine mz_gt (tgt := 125) rfl rfl ?_
          refine mz_iincR (v := v2) (lo2 := [some (.ref q0), some (.int (Int32.ofInt v31)), some (.int (Int32.ofInt (v2 + 1))), some (.int (Int32.ofInt v13))]) rfl rfl rfl (Nat.le_of_ble_eq_true rfl) rfl ?_
          refine mz_gt (tgt := 4) rfl rfl ?_
          exact ih5 ((700 - (v2 + 1)).toNat) (by omega) v31 (v2 + 1) (some (.int (Int32.ofInt v13))) g36 rfl (by omega) (by omega) (by omega) (by omega) (mz_nl_i _) hIg36 (fun k j hk => ((hfg36 k j (fun h => hk h)).trans (hfg4 k j (fun h => hk h)))) ⟨fj8, Nat.lt_of_lt_of_le (show ((700 - (v2 + 1)).toNat) < n6 from (by omega)) fn9, hE⟩
  exact L7 _ (-1) 0 none g rfl (by decide) (by decide) (by decide) (by decide) mz_nl_n hI (fun _ _ _ => rfl) ⟨3000000000, by omega, hE⟩
def fw_X1_grow (x : mm_X) (q0 : Nat) (q1 : Nat) (a2 : Int) (a3 : Int) : Nat → Nat → Prop := fun k j => k = q1 ∨ k = ((q0 + 36) + 2) ∨ k = ((q0 + 36) + 3)
theorem f_X1_grow {d : Nat} (hd : 13 ≤ d) {x : mm_X} (hx : mk_x x) {g : mz_G} (hI : mz_inv g) {q0 : Nat} (h_q0 : kd_load q0) {q1 : Nat} (h_q1 : kd_trunk q1) {a2 : Int} (l_a2 : (-2147483648) ≤ a2) (u_a2 : a2 ≤ 2147483647) {a3 : Int} (l_a3 : (-2147483648) ≤ a3) (u_a3 : a3 ≤ 2147483647) {Q : (Option Value ⊕ Nat) → mm_H → Prop} (hQ : ∀ (g1 : mz_G), mz_inv g1 → mz_fr (fw_X1_grow x q0 q1 a2 a3) g g1 → zf_E (zF_X1_grow q0 q1 a2 a3 g) (g1) → Q (.inl none) (mz_mk g1 x)) : mm_C d 23 [.ref q0, .ref q1, .int (Int32.ofInt a2), .int (Int32.ofInt a3)] (mz_mk g x) Q := by
  have kn_q0 := kn_load h_q0
  have kn_q1 := kn_trunk h_q1
  refine ⟨mmX1_grow, [some (.ref q0), some (.ref q1), some (.int (Int32.ofInt a2)), some (.int (Int32.ofInt a3)), none, none], rfl, rfl, ?_⟩
  have hE : zf_E (zF_X1_grow q0 q1 a2 a3 g) (zF_X1_grow q0 q1 a2 a3 g) := zf_rf
  refine mm_g 2 (pc1 := 2) (lo1 := [some (.ref q0), some (.ref q1), some (.int (Int32.ofInt a2)), some (.int (Int32.ofInt a3)), none, none]) (st1 := [.ref q1, .int (Int32.ofInt a3)]) (H1 := mz_mk g x) rfl ?_
  refine mz_gI rfl fd_1_120 (by decide) (kc_trunk h_q1 _) hI (kb_trunk_2 h_q1) (fun v1 e_v1 l_v1 u_v1 => ?_)
  replace hE := zf_tr hE (zf_le e_v1)
  refine mz_ic_le (tgt := 12) rfl rfl (mz_rg l_a3 u_a3) (mz_rg l_v1 u_v1) (fun c5_1 => ?_) (fun c5_1 => ?_)
  · skip
    replace hE := zf_nl hE c5_1
    refine mm_g 3 (pc1 := 16) (lo1 := [some (.ref q0), some (.ref q1), some (.int (Int32.ofInt a2)), some (.int (Int32.ofInt a3)), some (.int (Int32.ofInt 0)), none]) (st1 := [.ref q0]) (H1 := mz_mk g x) rfl ?_
    refine mz_fgR (v := (q0 + 36)) rfl fd_1_36 (by decide) (kc_load h_q0 _) (kr_load_4 h_q0 _ _ _) ?_
    refine mz_cv rfl mt_1_123 (by decide) (kc_rule (ks_load_4 h_q0) _) rfl (Nat.le_of_ble_eq_true rfl) (by omega) (f_X5_isTold (by omega) hx hI (ks_load_4 h_q0) (fun v2 l_v2 u_v2 hc3 => ⟨_, rfl, ?_⟩))
    show mm_W d mmX1_grow 22 [some (.ref q0), some (.ref q1), some (.int (Int32.ofInt a2)), some (.int (Int32.ofInt a3)), some (.int (Int32.ofInt 0)), none] [.int (Int32.ofInt v2)] (mz_mk g x) Q
    replace hE := zf_t1 hE hc3
    refine mz_if_eq (tgt := 96) rfl rfl (mz_rg l_v2 u_v2) (fun c22_3 => ?_) (fun c22_3 => ?_)
    · skip
      replace hE := zf_ip hE c22_3
      refine mm_g 1 (pc1 := 97) (lo1 := [some (.ref q0), some (.ref q1), some (.int (Int32.ofInt a2)), some (.int (Int32.ofInt a3)), some (.int (Int32.ofInt 0)), none]) (st1 := [.ref q1]) (H1 := mz_mk g x) rfl ?_
      refine mz_gI rfl fd_1_81 (by decide) (kc_trunk h_q1 _) hI (kb_trunk_3 h_q1) (fun v4 e_v4 l_v4 u_v4 => ?_)
      replace hE := zf_tr hE (zf_le e_v4)
      refine mm_g 1 (pc1 := 101) (lo1 := [some (.ref q0), some (.ref q1), some (.int (Int32.ofInt a2)), some (.int (Int32.ofInt a3)), some (.int (Int32.ofInt 0)), none]) (st1 := [.ref q1, .int (Int32.ofInt v4)]) (H1 := mz_mk g x) rfl ?_
      refine mz_gI rfl fd_1_146 (by decide) (kc_trunk h_q1 _) hI (kb_trunk_4 h_q1) (fun v5 e_v5 l_v5 u_v5 => ?_)
      replace hE := zf_tr hE (zf_le e_v5)
      refine mz_if_eq (tgt := 114) rfl rfl (mz_rg l_v5 u_v5) (fun c104_5 => ?_) (fun c104_5 => ?_)
      · skip
        replace hE := zf_ip hE c104_5
        refine mm_g 1 (pc1 := 116) (lo1 := [some (.ref q0), some (.ref q1), some (.int (Int32.ofInt a2)), some (.int (Int32.ofInt a3)), some (.int (Int32.ofInt 0)), none]) (st1 := [.int (Int32.ofInt 0), .int (Int32.ofInt v4)]) (H1 := mz_mk g x) rfl ?_
        refine mz_iadd rfl ?_
        replace hE := zf_tr hE (zf_lw ⟨by omega, by omega⟩)
        refine mm_g 4 (pc1 := 122) (lo1 := [some (.ref q0), some (.ref q1), some (.int (Int32.ofInt a2)), some (.int (Int32.ofInt a3)), some (.int (Int32.ofInt 0)), some (.int (Int32.ofInt (v4 + 0)))]) (st1 := [.ref q1, .ref q0, .ref q1]) (H1 := mz_mk g x) rfl ?_
        refine mz_cv rfl mt_1_84 (by decide) (kc_load h_q0 _) rfl (Nat.le_of_ble_eq_true rfl) (by omega) (f_X1_fullOf (by omega) hx hI h_q0 h_q1 (fun v6 l_v6 u_v6 hc7 => ⟨_, rfl, ?_⟩))
        show mm_W d mmX1_grow 125 [some (.ref q0), some (.ref q1), some (.int (Int32.ofInt a2)), some (.int (Int32.ofInt a3)), some (.int (Int32.ofInt 0)), some (.int (Int32.ofInt (v4 + 0)))] [.int (Int32.ofInt v6), .ref q1] (mz_mk g x) Q
        replace hE := zf_t1 hE hc7
        refine mm_g 1 (pc1 := 127) (lo1 := [some (.ref q0), some (.ref q1), some (.int (Int32.ofInt a2)), some (.int (Int32.ofInt a3)), some (.int (Int32.ofInt 0)), some (.int (Int32.ofInt (v4 + 0)))]) (st1 := [.int (Int32.ofInt (v4 + 0)), .int (Int32.ofInt v6), .ref q1]) (H1 := mz_mk g x) rfl ?_
        refine mz_mn rfl mt_1_75 (Nat.le_of_ble_eq_true rfl) (by omega) (mz_rg l_v6 u_v6) ⟨by omega, by omega⟩ (fun v8 e_v8 => ?_)
        have l_v8 : (-2147483648) ≤ v8 := by omega
        have u_v8 : v8 ≤ 16 := by omega
        replace hE := zf_tr hE (zf_le e_v8.symm)
        refine mz_pI rfl fd_1_81 (kc_trunk h_q1 _) hI (kb_trunk_3 h_q1) (by omega) (by omega) (fun g9 hIg9 hug9 => ?_)
        replace hE := zf_tr hE (zf_lg hug9)
        exact mm_rt rfl rfl (hQ _ hIg9 (fun k j hk => (hug9.2 k j (fun h => hk (Or.inl h.1)))) hE)
      · skip
        replace hE := zf_in hE c104_5
        refine mm_g 2 (pc1 := 110) (lo1 := [some (.ref q0), some (.ref q1), some (.int (Int32.ofInt a2)), some (.int (Int32.ofInt a3)), some (.int (Int32.ofInt 0)), none]) (st1 := [.int (Int32.ofInt 0), .int (Int32.ofInt 2), .int (Int32.ofInt v4)]) (H1 := mz_mk g x) rfl ?_
        refine mz_imul rfl ?_
        refine mz_gt (tgt := 116) rfl rfl ?_
        refine mz_iadd rfl ?_
        replace hE := zf_tr hE (zf_lw ⟨by omega, by omega⟩)
        refine mm_g 4 (pc1 := 122) (lo1 := [some (.ref q0), some (.ref q1), some (.int (Int32.ofInt a2)), some (.int (Int32.ofInt a3)), some (.int (Int32.ofInt 0)), some (.int (Int32.ofInt (v4 + (2 * 0))))]) (st1 := [.ref q1, .ref q0, .ref q1]) (H1 := mz_mk g x) rfl ?_
        refine mz_cv rfl mt_1_84 (by decide) (kc_load h_q0 _) rfl (Nat.le_of_ble_eq_true rfl) (by omega) (f_X1_fullOf (by omega) hx hI h_q0 h_q1 (fun v10 l_v10 u_v10 hc11 => ⟨_, rfl, ?_⟩))
        show mm_W d mmX1_grow 125 [some (.ref q0), some (.ref q1), some (.int (Int32.ofInt a2)), some (.int (Int32.ofInt a3)), some (.int (Int32.ofInt 0)), some (.int (Int32.ofInt (v4 + (2 * 0))))] [.int (Int32.ofInt v10), .ref q1] (mz_mk g x) Q
        replace hE := zf_t1 hE hc11
        refine mm_g 1 (pc1 := 127) (lo1 := [some (.ref q0), some (.ref q1), some (.int (Int32.ofInt a2)), some (.int (Int32.ofInt a3)), some (.int (Int32.ofInt 0)), some (.int (Int32.ofInt (v4 + (2 * 0))))]) (st1 := [.int (Int32.ofInt (v4 + (2 * 0))), .int (Int32.ofInt v10), .ref q1]) (H1 := mz_mk g x) rfl ?_
        refine mz_mn rfl mt_1_75 (Nat.le_of_ble_eq_true rfl) (by omega) (mz_rg l_v10 u_v10) ⟨by omega, by omega⟩ (fun v12 e_v12 => ?_)
        have l_v12 : (-2147483648) ≤ v12 := by omega
        have u_v12 : v12 ≤ 16 := by omega
        replace hE := zf_tr hE (zf_le e_v12.symm)
        refine mz_pI rfl fd_1_81 (kc_trunk h_q1 _) hI (kb_trunk_3 h_q1) (by omega) (by omega) (fun g13 hIg13 hug13 => ?_)
        replace hE := zf_tr hE (zf_lg hug13)
        exact mm_rt rfl rfl (hQ _ hIg13 (fun k j hk => (hug13.2 k j (fun h => hk (Or.inl h.1)))) hE)
    · skip
      replace hE := zf_in hE c22_3
      refine mm_g 1 (pc1 := 26) (lo1 := [some (.ref q0), some (.ref q1), some (.int (Int32.ofInt a2)), some (.int (Int32.ofInt a3)), some (.int (Int32.ofInt 0)), none]) (st1 := [.ref q0]) (H1 := mz_mk g x) rfl ?_
      refine mz_fgR (v := (q0 + 36)) rfl fd_1_36 (by decide) (kc_load h_q0 _) (kr_load_4 h_q0 _ _ _) ?_
      refine mm_g 3 (pc1 := 32) (lo1 := [some (.ref q0), some (.ref q1), some (.int (Int32.ofInt a2)), some (.int (Int32.ofInt a3)), some (.int (Int32.ofInt 0)), none]) (st1 := [.int (Int32.ofInt a3), .int (Int32.ofInt a2), .ref q1, .ref (q0 + 36)]) (H1 := mz_mk g x) rfl ?_
      refine mz_cv rfl mt_1_127 (by decide) (kc_rule (ks_load_4 h_q0) _) rfl (Nat.le_of_ble_eq_true rfl) (by omega) (f_X5_setTrunk (by omega) hx hI (ks_load_4 h_q0) h_q1 l_a2 u_a2 l_a3 u_a3 (fun g14 hIg14 hfg14 hc15 => ⟨_, rfl, ?_⟩))
      show mm_W d mmX1_grow 35 [some (.ref q0), some (.ref q1), some (.int (Int32.ofInt a2)), some (.int (Int32.ofInt a3)), some (.int (Int32.ofInt 0)), none] [] (mz_mk g14 x) Q
      replace hE := zf_t1 hE hc15
      refine mm_g 1 (pc1 := 36) (lo1 := [some (.ref q0), some (.ref q1), some (.int (Int32.ofInt a2)), some (.int (Int32.ofInt a3)), some (.int (Int32.ofInt 0)), none]) (st1 := [.ref q0]) (H1 := mz_mk g14 x) rfl ?_
      refine mz_fgR (v := (q0 + 36)) rfl fd_1_36 (by decide) (kc_load h_q0 _) (kr_load_4 h_q0 _ _ _) ?_
      refine mm_g 1 (pc1 := 40) (lo1 := [some (.ref q0), some (.ref q1), some (.int (Int32.ofInt a2)), some (.int (Int32.ofInt a3)), some (.int (Int32.ofInt 0)), none]) (st1 := [.ref q0, .ref (q0 + 36)]) (H1 := mz_mk g14 x) rfl ?_
      refine mz_fgR (v := (q0 + 1)) rfl fd_1_12 (by decide) (kc_load h_q0 _) (kr_load_0 h_q0 _ _ _) ?_
      refine mm_g 1 (pc1 := 44) (lo1 := [some (.ref q0), some (.ref q1), some (.int (Int32.ofInt a2)), some (.int (Int32.ofInt a3)), some (.int (Int32.ofInt 0)), none]) (st1 := [.ref q1, .ref (q0 + 1), .ref (q0 + 36)]) (H1 := mz_mk g14 x) rfl ?_
      refine mz_gI rfl fd_1_57 (by decide) (kc_trunk h_q1 _) hIg14 (kb_trunk_0 h_q1) (fun v16 e_v16 l_v16 u_v16 => ?_)
      replace hE := zf_tr hE (zf_le e_v16)
      refine mz_cv rfl mt_1_130 (by decide) (kc_words (ks_load_0 h_q0) _) rfl (Nat.le_of_ble_eq_true rfl) (by omega) (f_X10_firmness (by omega) hx hIg14 (ks_load_0 h_q0) l_v16 u_v16 (fun v17 l_v17 u_v17 hc18 => ⟨_, rfl, ?_⟩))
      show mm_W d mmX1_grow 50 [some (.ref q0), some (.ref q1), some (.int (Int32.ofInt a2)), some (.int (Int32.ofInt a3)), some (.int (Int32.ofInt 0)), none] [.int (Int32.ofInt v17), .ref (q0 + 36)] (mz_mk g14 x) Q
      replace hE := zf_t1 hE hc18
      refine mm_g 1 (pc1 := 51) (lo1 := [some (.ref q0), some (.ref q1), some (.int (Int32.ofInt a2)), some (.int (Int32.ofInt a3)), some (.int (Int32.ofInt 0)), none]) (st1 := [.ref q0, .int (Int32.ofInt v17), .ref (q0 + 36)]) (H1 := mz_mk g14 x) rfl ?_
      refine mz_fgR (v := (q0 + 1)) rfl fd_1_12 (by decide) (kc_load h_q0 _) (kr_load_0 h_q0 _ _ _) ?_
      refine mm_g 1 (pc1 := 55) (lo1 := [some (.ref q0), some (.ref q1), some (.int (Int32.ofInt a2)), some (.int (Int32.ofInt a3)), some (.int (Int32.ofInt 0)), none]) (st1 := [.ref q1, .ref (q0 + 1), .int (Int32.ofInt v17), .ref (q0 + 36)]) (H1 := mz_mk g14 x) rfl ?_
      refine mz_gI rfl fd_1_72 (by decide) (kc_trunk h_q1 _) hIg14 (kb_trunk_1 h_q1) (fun v19 e_v19 l_v19 u_v19 => ?_)
      replace hE := zf_tr hE (zf_le e_v19)
      refine mz_cv rfl mt_1_130 (by decide) (kc_words (ks_load_0 h_q0) _) rfl (Nat.le_of_ble_eq_true rfl) (by omega) (f_X10_firmness (by omega) hx hIg14 (ks_load_0 h_q0) l_v19 u_v19 (fun v20 l_v20 u_v20 hc21 => ⟨_, rfl, ?_⟩))
      show mm_W d mmX1_grow 61 [some (.ref q0), some (.ref q1), some (.int (Int32.ofInt a2)), some (.int (Int32.ofInt a3)), some (.int (Int32.ofInt 0)), none] [.int (Int32.ofInt v20), .int (Int32.ofInt v17), .ref (q0 + 36)] (mz_mk g14 x) Q
      replace hE := zf_t1 hE hc21
      refine mm_g 1 (pc1 := 62) (lo1 := [some (.ref q0), some (.ref q1), some (.int (Int32.ofInt a2)), some (.int (Int32.ofInt a3)), some (.int (Int32.ofInt 0)), none]) (st1 := [.ref q0, .int (Int32.ofInt v20), .int (Int32.ofInt v17), .ref (q0 + 36)]) (H1 := mz_mk g14 x) rfl ?_
      refine mz_fgR (v := (q0 + 1)) rfl fd_1_12 (by decide) (kc_load h_q0 _) (kr_load_0 h_q0 _ _ _) ?_
      refine mm_g 1 (pc1 := 66) (lo1 := [some (.ref q0), some (.ref q1), some (.int (Int32.ofInt a2)), some (.int (Int32.ofInt a3)), some (.int (Int32.ofInt 0)), none]) (st1 := [.ref q1, .ref (q0 + 1), .int (Int32.ofInt v20), .int (Int32.ofInt v17), .ref (q0 + 36)]) (H1 := mz_mk g14 x) rfl ?_
      refine mz_fgI (v := v16) rfl fd_1_57 (by decide) (kc_trunk h_q1 _) e_v16 ?_
      replace hE := zf_tr hE (zf_le e_v16)
      refine mm_g 1 (pc1 := 70) (lo1 := [some (.ref q0), some (.ref q1), some (.int (Int32.ofInt a2)), some (.int (Int32.ofInt a3)), some (.int (Int32.ofInt 0)), none]) (st1 := [.ref q1, .int (Int32.ofInt v16), .ref (q0 + 1), .int (Int32.ofInt v20), .int (Int32.ofInt v17), .ref (q0 + 36)]) (H1 := mz_mk g14 x) rfl ?_
      refine mz_fgI (v := v19) rfl fd_1_72 (by decide) (kc_trunk h_q1 _) e_v19 ?_
      replace hE := zf_tr hE (zf_le e_v19)
      refine mz_cv rfl mt_1_133 (by decide) (kc_words (ks_load_0 h_q0) _) rfl (Nat.le_of_ble_eq_true rfl) (by omega) (f_X10_overlapOf (by omega) hx hIg14 (ks_load_0 h_q0) l_v16 u_v16 l_v19 u_v19 (fun v22 l_v22 u_v22 hc23 => ⟨_, rfl, ?_⟩))
      show mm_W d mmX1_grow 76 [some (.ref q0), some (.ref q1), some (.int (Int32.ofInt a2)), some (.int (Int32.ofInt a3)), some (.int (Int32.ofInt 0)), none] [.int (Int32.ofInt v22), .int (Int32.ofInt v20), .int (Int32.ofInt v17), .ref (q0 + 36)] (mz_mk g14 x) Q
      replace hE := zf_t1 hE hc23
      refine mz_cv rfl mt_1_136 (by decide) (kc_rule (ks_load_4 h_q0) _) rfl (Nat.le_of_ble_eq_true rfl) (by omega) (f_X5_setWords (by omega) hx hIg14 (ks_load_4 h_q0) l_v17 u_v17 l_v20 u_v20 l_v22 u_v22 (fun g24 hIg24 hfg24 hc25 => ⟨_, rfl, ?_⟩))
      show mm_W d mmX1_grow 79 [some (.ref q0), some (.ref q1), some (.int (Int32.ofInt a2)), some (.int (Int32.ofInt a3)), some (.int (Int32.ofInt 0)), none] [] (mz_mk g24 x) Q
      replace hE := zf_t1 hE hc25
      refine mm_g 3 (pc1 := 82) (lo1 := [some (.ref q0), some (.ref q1), some (.int (Int32.ofInt a2)), some (.int (Int32.ofInt a3)), some (.int (Int32.ofInt 0)), none]) (st1 := [.ref q0, .int (Int32.ofInt 3), .int (Int32.ofInt 0)]) (H1 := mz_mk g24 x) rfl ?_
      refine mz_fgR (v := (q0 + 36)) rfl fd_1_36 (by decide) (kc_load h_q0 _) (kr_load_4 h_q0 _ _ _) ?_
      refine mz_cv rfl mt_1_140 (by decide) (kc_rule (ks_load_4 h_q0) _) rfl (Nat.le_of_ble_eq_true rfl) (by omega) (f_X5_worth (by omega) hx hIg24 (ks_load_4 h_q0) (fun v26 g27 hIg27 hfg27 l_v26 u_v26 hc28 => ⟨_, rfl, ?_⟩))
      show mm_W d mmX1_grow 88 [some (.ref q0), some (.ref q1), some (.int (Int32.ofInt a2)), some (.int (Int32.ofInt a3)), some (.int (Int32.ofInt 0)), none] [.int (Int32.ofInt v26), .int (Int32.ofInt 3), .int (Int32.ofInt 0)] (mz_mk g27 x) Q
      replace hE := zf_t2 hE hc28
      refine mz_mn rfl mt_1_75 (Nat.le_of_ble_eq_true rfl) (by omega) ⟨by decide, by decide⟩ (mz_rg l_v26 u_v26) (fun v29 e_v29 => ?_)
      have l_v29 : (-2147483648) ≤ v29 := by omega
      have u_v29 : v29 ≤ 3 := by omega
      replace hE := zf_tr hE (zf_le e_v29.symm)
      refine mz_mx rfl mt_1_143 (Nat.le_of_ble_eq_true rfl) (by omega) ⟨by decide, by decide⟩ (mz_rg l_v29 u_v29) (fun v30 e_v30 => ?_)
      have l_v30 : 0 ≤ v30 := by omega
      have u_v30 : v30 ≤ 3 := by omega
      replace hE := zf_tr hE (zf_le e_v30.symm)
      refine mm_g 2 (pc1 := 97) (lo1 := [some (.ref q0), some (.ref q1), some (.int (Int32.ofInt a2)), some (.int (Int32.ofInt a3)), some (.int (Int32.ofInt v30)), none]) (st1 := [.ref q1]) (H1 := mz_mk g27 x) rfl ?_
      refine mz_gI rfl fd_1_81 (by decide) (kc_trunk h_q1 _) hIg27 (kb_trunk_3 h_q1) (fun v31 e_v31 l_v31 u_v31 => ?_)
      replace hE := zf_tr hE (zf_le e_v31)
      refine mm_g 1 (pc1 := 101) (lo1 := [some (.ref q0), some (.ref q1), some (.int (Int32.ofInt a2)), some (.int (Int32.ofInt a3)), some (.int (Int32.ofInt v30)), none]) (st1 := [.ref q1, .int (Int32.ofInt v31)]) (H1 := mz_mk g27 x) rfl ?_
      refine mz_gI rfl fd_1_146 (by decide) (kc_trunk h_q1 _) hIg27 (kb_trunk_4 h_q1) (fun v32 e_v32 l_v32 u_v32 => ?_)
      replace hE := zf_tr hE (zf_le e_v32)
      refine mz_if_eq (tgt := 114) rfl rfl (mz_rg l_v32 u_v32) (fun c104_32 => ?_) (fun c104_32 => ?_)
      · skip
        replace hE := zf_ip hE c104_32
        refine mm_g 1 (pc1 := 116) (lo1 := [some (.ref q0), some (.ref q1), some (.int (Int32.ofInt a2)), some (.int (Int32.ofInt a3)), some (.int (Int32.ofInt v30)), none]) (st1 := [.int (Int32.ofInt v30), .int (Int32.ofInt v31)]) (H1 := mz_mk g27 x) rfl ?_
        refine mz_iadd_w rfl (fun v33 e_v33 hwv33 => ?_)
        have l_v33 := hwv33.1
        have u_v33 := hwv33.2
        replace hE := zf_tr hE (zf_le e_v33.symm)
        refine mm_g 4 (pc1 := 122) (lo1 := [some (.ref q0), some (.ref q1), some (.int (Int32.ofInt a2)), some (.int (Int32.ofInt a3)), some (.int (Int32.ofInt v30)), some (.int (Int32.ofInt v33))]) (st1 := [.ref q1, .ref q0, .ref q1]) (H1 := mz_mk g27 x) rfl ?_
        refine mz_cv rfl mt_1_84 (by decide) (kc_load h_q0 _) rfl (Nat.le_of_ble_eq_true rfl) (by omega) (f_X1_fullOf (by omega) hx hIg27 h_q0 h_q1 (fun v34 l_v34 u_v34 hc35 => ⟨_, rfl, ?_⟩))
        show mm_W d mmX1_grow 125 [some (.ref q0), some (.ref q1), some (.int (Int32.ofInt a2)), some (.int (Int32.ofInt a3)), some (.int (Int32.ofInt v30)), some (.int (Int32.ofInt v33))] [.int (Int32.ofInt v34), .ref q1] (mz_mk g27 x) Q
        replace hE := zf_t1 hE hc35
        refine mm_g 1 (pc1 := 127) (lo1 := [some (.ref q0), some (.ref q1), some (.int (Int32.ofInt a2)), some (.int (Int32.ofInt a3)), some (.int (Int32.ofInt v30)), some (.int (Int32.ofInt v33))]) (st1 := [.int (Int32.ofInt v33), .int (Int32.ofInt v34), .ref q1]) (H1 := mz_mk g27 x) rfl ?_
        refine mz_mn rfl mt_1_75 (Nat.le_of_ble_eq_true rfl) (by omega) (mz_rg l_v34 u_v34) (mz_rg l_v33 u_v33) (fun v36 e_v36 => ?_)
        have l_v36 : (-2147483648) ≤ v36 := by omega
        have u_v36 : v36 ≤ 16 := by omega
        replace hE := zf_tr hE (zf_le e_v36.symm)
        refine mz_pI rfl fd_1_81 (kc_trunk h_q1 _) hIg27 (kb_trunk_3 h_q1) (by omega) (by omega) (fun g37 hIg37 hug37 => ?_)
        replace hE := zf_tr hE (zf_lg hug37)
        exact mm_rt rfl rfl (hQ _ hIg37 (fun k j hk => ((hug37.2 k j (fun h => hk (Or.inl h.1))).trans ((hfg27 k j (fun h => hk (Or.inr (Or.inr h)))).trans ((hfg24 k j (fun h => hk (Or.inr (Or.inl h)))).trans (hfg14 k j (fun h => hk (Or.inr (Or.inl h)))))))) hE)
      · skip
        replace hE := zf_in hE c104_32
        refine mm_g 2 (pc1 := 110) (lo1 := [some (.ref q0), some (.ref q1), some (.int (Int32.ofInt a2)), some (.int (Int32.ofInt a3)), some (.int (Int32.ofInt v30)), none]) (st1 := [.int (Int32.ofInt v30), .int (Int32.ofInt 2), .int (Int32.ofInt v31)]) (H1 := mz_mk g27 x) rfl ?_
        refine mz_imul rfl ?_
        refine mz_gt (tgt := 116) rfl rfl ?_
        refine mz_iadd_w rfl (fun v38 e_v38 hwv38 => ?_)
        have l_v38 := hwv38.1
        have u_v38 := hwv38.2
        replace hE := zf_tr hE (zf_le e_v38.symm)
        refine mm_g 4 (pc1 := 122) (lo1 := [some (.ref q0), some (.ref q1), some (.int (Int32.ofInt a2)), some (.int (Int32.ofInt a3)), some (.int (Int32.ofInt v30)), some (.int (Int32.ofInt v38))]) (st1 := [.ref q1, .ref q0, .ref q1]) (H1 := mz_mk g27 x) rfl ?_
        refine mz_cv rfl mt_1_84 (by decide) (kc_load h_q0 _) rfl (Nat.le_of_ble_eq_true rfl) (by omega) (f_X1_fullOf (by omega) hx hIg27 h_q0 h_q1 (fun v39 l_v39 u_v39 hc40 => ⟨_, rfl, ?_⟩))
        show mm_W d mmX1_grow 125 [some (.ref q0), some (.ref q1), some (.int (Int32.ofInt a2)), some (.int (Int32.ofInt a3)), some (.int (Int32.ofInt v30)), some (.int (Int32.ofInt v38))] [.int (Int32.ofInt v39), .ref q1] (mz_mk g27 x) Q
        replace hE := zf_t1 hE hc40
        refine mm_g 1 (pc1 := 127) (lo1 := [some (.ref q0), some (.ref q1), some (.int (Int32.ofInt a2)), some (.int (Int32.ofInt a3)), some (.int (Int32.ofInt v30)), some (.int (Int32.ofInt v38))]) (st1 := [.int (Int32.ofInt v38), .int (Int32.ofInt v39), .ref q1]) (H1 := mz_mk g27 x) rfl ?_
        refine mz_mn rfl mt_1_75 (Nat.le_of_ble_eq_true rfl) (by omega) (mz_rg l_v39 u_v39) (mz_rg l_v38 u_v38) (fun v41 e_v41 => ?_)
        have l_v41 : (-2147483648) ≤ v41 := by omega
        have u_v41 : v41 ≤ 16 := by omega
        replace hE := zf_tr hE (zf_le e_v41.symm)
        refine mz_pI rfl fd_1_81 (kc_trunk h_q1 _) hIg27 (kb_trunk_3 h_q1) (by omega) (by omega) (fun g42 hIg42 hug42 => ?_)
        replace hE := zf_tr hE (zf_lg hug42)
        exact mm_rt rfl rfl (hQ _ hIg42 (fun k j hk => ((hug42.2 k j (fun h => hk (Or.inl h.1))).trans ((hfg27 k j (fun h => hk (Or.inr (Or.inr h)))).trans ((hfg24 k j (fun h => hk (Or.inr (Or.inl h)))).trans (hfg14 k j (fun h => hk (Or.inr (Or.inl h)))))))) hE)
  · skip
    replace hE := zf_ip hE c5_1
    refine mm_g 1 (pc1 := 9) (lo1 := [some (.ref q0), some (.ref q1), some (.int (Int32.ofInt a2)), some (.int (Int32.ofInt a3)), none, none]) (st1 := [.int (Int32.ofInt 1)]) (H1 := mz_mk g x) rfl ?_
    refine mz_gt (tgt := 13) rfl rfl ?_
    refine mm_g 2 (pc1 := 16) (lo1 := [some (.ref q0), some (.ref q1), some (.int (Int32.ofInt a2)), some (.int (Int32.ofInt a3)), some (.int (Int32.ofInt 1)), none]) (st1 := [.ref q0]) (H1 := mz_mk g x) rfl ?_
    refine mz_fgR (v := (q0 + 36)) rfl fd_1_36 (by decide) (kc_load h_q0 _) (kr_load_4 h_q0 _ _ _) ?_
    refine mz_cv rfl mt_1_123 (by decide) (kc_rule (ks_load_4 h_q0) _) rfl (Nat.le_of_ble_eq_true rfl) (by omega) (f_X5_isTold (by omega) hx hI (ks_load_4 h_q0) (fun v43 l_v43 u_v43 hc44 => ⟨_, rfl, ?_⟩))
    show mm_W d mmX1_grow 22 [some (.ref q0), some (.ref q1), some (.int (Int32.ofInt a2)), some (.int (Int32.ofInt a3)), some (.int (Int32.ofInt 1)), none] [.int (Int32.ofInt v43)] (mz_mk g x) Q
    replace hE := zf_t1 hE hc44
    refine mz_if_eq (tgt := 96) rfl rfl (mz_rg l_v43 u_v43) (fun c22_44 => ?_) (fun c22_44 => ?_)
    · skip
      replace hE := zf_ip hE c22_44
      refine mm_g 1 (pc1 := 97) (lo1 := [some (.ref q0), some (.ref q1), some (.int (Int32.ofInt a2)), some (.int (Int32.ofInt a3)), some (.int (Int32.ofInt 1)), none]) (st1 := [.ref q1]) (H1 := mz_mk g x) rfl ?_
      refine mz_gI rfl fd_1_81 (by decide) (kc_trunk h_q1 _) hI (kb_trunk_3 h_q1) (fun v45 e_v45 l_v45 u_v45 => ?_)
      replace hE := zf_tr hE (zf_le e_v45)
      refine mm_g 1 (pc1 := 101) (lo1 := [some (.ref q0), some (.ref q1), some (.int (Int32.ofInt a2)), some (.int (Int32.ofInt a3)), some (.int (Int32.ofInt 1)), none]) (st1 := [.ref q1, .int (Int32.ofInt v45)]) (H1 := mz_mk g x) rfl ?_
      refine mz_gI rfl fd_1_146 (by decide) (kc_trunk h_q1 _) hI (kb_trunk_4 h_q1) (fun v46 e_v46 l_v46 u_v46 => ?_)
      replace hE := zf_tr hE (zf_le e_v46)
      refine mz_if_eq (tgt := 114) rfl rfl (mz_rg l_v46 u_v46) (fun c104_46 => ?_) (fun c104_46 => ?_)
      · skip
        replace hE := zf_ip hE c104_46
        refine mm_g 1 (pc1 := 116) (lo1 := [some (.ref q0), some (.ref q1), some (.int (Int32.ofInt a2)), some (.int (Int32.ofInt a3)), some (.int (Int32.ofInt 1)), none]) (st1 := [.int (Int32.ofInt 1), .int (Int32.ofInt v45)]) (H1 := mz_mk g x) rfl ?_
        refine mz_iadd_w rfl (fun v47 e_v47 hwv47 => ?_)
        have l_v47 := hwv47.1
        have u_v47 := hwv47.2
        replace hE := zf_tr hE (zf_le e_v47.symm)
        refine mm_g 4 (pc1 := 122) (lo1 := [some (.ref q0), some (.ref q1), some (.int (Int32.ofInt a2)), some (.int (Int32.ofInt a3)), some (.int (Int32.ofInt 1)), some (.int (Int32.ofInt v47))]) (st1 := [.ref q1, .ref q0, .ref q1]) (H1 := mz_mk g x) rfl ?_
        refine mz_cv rfl mt_1_84 (by decide) (kc_load h_q0 _) rfl (Nat.le_of_ble_eq_true rfl) (by omega) (f_X1_fullOf (by omega) hx hI h_q0 h_q1 (fun v48 l_v48 u_v48 hc49 => ⟨_, rfl, ?_⟩))
        show mm_W d mmX1_grow 125 [some (.ref q0), some (.ref q1), some (.int (Int32.ofInt a2)), some (.int (Int32.ofInt a3)), some (.int (Int32.ofInt 1)), some (.int (Int32.ofInt v47))] [.int (Int32.ofInt v48), .ref q1] (mz_mk g x) Q
        replace hE := zf_t1 hE hc49
        refine mm_g 1 (pc1 := 127) (lo1 := [some (.ref q0), some (.ref q1), some (.int (Int32.ofInt a2)), some (.int (Int32.ofInt a3)), some (.int (Int32.ofInt 1)), some (.int (Int32.ofInt v47))]) (st1 := [.int (Int32.ofInt v47), .int (Int32.ofInt v48), .ref q1]) (H1 := mz_mk g x) rfl ?_
        refine mz_mn rfl mt_1_75 (Nat.le_of_ble_eq_true rfl) (by omega) (mz_rg l_v48 u_v48) (mz_rg l_v47 u_v47) (fun v50 e_v50 => ?_)
        have l_v50 : (-2147483648) ≤ v50 := by omega
        have u_v50 : v50 ≤ 16 := by omega
        replace hE := zf_tr hE (zf_le e_v50.symm)
        refine mz_pI rfl fd_1_81 (kc_trunk h_q1 _) hI (kb_trunk_3 h_q1) (by omega) (by omega) (fun g51 hIg51 hug51 => ?_)
        replace hE := zf_tr hE (zf_lg hug51)
        exact mm_rt rfl rfl (hQ _ hIg51 (fun k j hk => (hug51.2 k j (fun h => hk (Or.inl h.1)))) hE)
      · skip
        replace hE := zf_in hE c104_46
        refine mm_g 2 (pc1 := 110) (lo1 := [some (.ref q0), some (.ref q1), some (.int (Int32.ofInt a2)), some (.int (Int32.ofInt a3)), some (.int (Int32.ofInt 1)), none]) (st1 := [.int (Int32.ofInt 1), .int (Int32.ofInt 2), .int (Int32.ofInt v45)]) (H1 := mz_mk g x) rfl ?_
        refine mz_imul rfl ?_
        refine mz_gt (tgt := 116) rfl rfl ?_
        refine mz_iadd_w rfl (fun v52 e_v52 hwv52 => ?_)
        have l_v52 := hwv52.1
        have u_v52 := hwv52.2
        replace hE := zf_tr hE (zf_le e_v52.symm)
        refine mm_g 4 (pc1 := 122) (lo1 := [some (.ref q0), some (.ref q1), some (.int (Int32.ofInt a2)), some (.int (Int32.ofInt a3)), some (.int (Int32.ofInt 1)), some (.int (Int32.ofInt v52))]) (st1 := [.ref q1, .ref q0, .ref q1]) (H1 := mz_mk g x) rfl ?_
        refine mz_cv rfl mt_1_84 (by decide) (kc_load h_q0 _) rfl (Nat.le_of_ble_eq_true rfl) (by omega) (f_X1_fullOf (by omega) hx hI h_q0 h_q1 (fun v53 l_v53 u_v53 hc54 => ⟨_, rfl, ?_⟩))
        show mm_W d mmX1_grow 125 [some (.ref q0), some (.ref q1), some (.int (Int32.ofInt a2)), some (.int (Int32.ofInt a3)), some (.int (Int32.ofInt 1)), some (.int (Int32.ofInt v52))] [.int (Int32.ofInt v53), .ref q1] (mz_mk g x) Q
        replace hE := zf_t1 hE hc54
        refine mm_g 1 (pc1 := 127) (lo1 := [some (.ref q0), some (.ref q1), some (.int (Int32.ofInt a2)), some (.int (Int32.ofInt a3)), some (.int (Int32.ofInt 1)), some (.int (Int32.ofInt v52))]) (st1 := [.int (Int32.ofInt v52), .int (Int32.ofInt v53), .ref q1]) (H1 := mz_mk g x) rfl ?_
        refine mz_mn rfl mt_1_75 (Nat.le_of_ble_eq_true rfl) (by omega) (mz_rg l_v53 u_v53) (mz_rg l_v52 u_v52) (fun v55 e_v55 => ?_)
        have l_v55 : (-2147483648) ≤ v55 := by omega
        have u_v55 : v55 ≤ 16 := by omega
        replace hE := zf_tr hE (zf_le e_v55.symm)
        refine mz_pI rfl fd_1_81 (kc_trunk h_q1 _) hI (kb_trunk_3 h_q1) (by omega) (by omega) (fun g56 hIg56 hug56 => ?_)
        replace hE := zf_tr hE (zf_lg hug56)
        exact mm_rt rfl rfl (hQ _ hIg56 (fun k j hk => (hug56.2 k j (fun h => hk (Or.inl h.1)))) hE)
    · skip
      replace hE := zf_in hE c22_44
      refine mm_g 1 (pc1 := 26) (lo1 := [some (.ref q0), some (.ref q1), some (.int (Int32.ofInt a2)), some (.int (Int32.ofInt a3)), some (.int (Int32.ofInt 1)), none]) (st1 := [.ref q0]) (H1 := mz_mk g x) rfl ?_
      refine mz_fgR (v := (q0 + 36)) rfl fd_1_36 (by decide) (kc_load h_q0 _) (kr_load_4 h_q0 _ _ _) ?_
      refine mm_g 3 (pc1 := 32) (lo1 := [some (.ref q0), some (.ref q1), some (.int (Int32.ofInt a2)), some (.int (Int32.ofInt a3)), some (.int (Int32.ofInt 1)), none]) (st1 := [.int (Int32.ofInt a3), .int (Int32.ofInt a2), .ref q1, .ref (q0 + 36)]) (H1 := mz_mk g x) rfl ?_
      refine mz_cv rfl mt_1_127 (by decide) (kc_rule (ks_load_4 h_q0) _) rfl (Nat.le_of_ble_eq_true rfl) (by omega) (f_X5_setTrunk (by omega) hx hI (ks_load_4 h_q0) h_q1 l_a2 u_a2 l_a3 u_a3 (fun g57 hIg57 hfg57 hc58 => ⟨_, rfl, ?_⟩))
      show mm_W d mmX1_grow 35 [some (.ref q0), some (.ref q1), some (.int (Int32.ofInt a2)), some (.int (Int32.ofInt a3)), some (.int (Int32.ofInt 1)), none] [] (mz_mk g57 x) Q
      replace hE := zf_t1 hE hc58
      refine mm_g 1 (pc1 := 36) (lo1 := [some (.ref q0), some (.ref q1), some (.int (Int32.ofInt a2)), some (.int (Int32.ofInt a3)), some (.int (Int32.ofInt 1)), none]) (st1 := [.ref q0]) (H1 := mz_mk g57 x) rfl ?_
      refine mz_fgR (v := (q0 + 36)) rfl fd_1_36 (by decide) (kc_load h_q0 _) (kr_load_4 h_q0 _ _ _) ?_
      refine mm_g 1 (pc1 := 40) (lo1 := [some (.ref q0), some (.ref q1), some (.int (Int32.ofInt a2)), some (.int (Int32.ofInt a3)), some (.int (Int32.ofInt 1)), none]) (st1 := [.ref q0, .ref (q0 + 36)]) (H1 := mz_mk g57 x) rfl ?_
      refine mz_fgR (v := (q0 + 1)) rfl fd_1_12 (by decide) (kc_load h_q0 _) (kr_load_0 h_q0 _ _ _) ?_
      refine mm_g 1 (pc1 := 44) (lo1 := [some (.ref q0), some (.ref q1), some (.int (Int32.ofInt a2)), some (.int (Int32.ofInt a3)), some (.int (Int32.ofInt 1)), none]) (st1 := [.ref q1, .ref (q0 + 1), .ref (q0 + 36)]) (H1 := mz_mk g57 x) rfl ?_
      refine mz_gI rfl fd_1_57 (by decide) (kc_trunk h_q1 _) hIg57 (kb_trunk_0 h_q1) (fun v59 e_v59 l_v59 u_v59 => ?_)
      replace hE := zf_tr hE (zf_le e_v59)
      refine mz_cv rfl mt_1_130 (by decide) (kc_words (ks_load_0 h_q0) _) rfl (Nat.le_of_ble_eq_true rfl) (by omega) (f_X10_firmness (by omega) hx hIg57 (ks_load_0 h_q0) l_v59 u_v59 (fun v60 l_v60 u_v60 hc61 => ⟨_, rfl, ?_⟩))
      show mm_W d mmX1_grow 50 [some (.ref q0), some (.ref q1), some (.int (Int32.ofInt a2)), some (.int (Int32.ofInt a3)), some (.int (Int32.ofInt 1)), none] [.int (Int32.ofInt v60), .ref (q0 + 36)] (mz_mk g57 x) Q
      replace hE := zf_t1 hE hc61
      refine mm_g 1 (pc1 := 51) (lo1 := [some (.ref q0), some (.ref q1), some (.int (Int32.ofInt a2)), some (.int (Int32.ofInt a3)), some (.int (Int32.ofInt 1)), none]) (st1 := [.ref q0, .int (Int32.ofInt v60), .ref (q0 + 36)]) (H1 := mz_mk g57 x) rfl ?_
      refine mz_fgR (v := (q0 + 1)) rfl fd_1_12 (by decide) (kc_load h_q0 _) (kr_load_0 h_q0 _ _ _) ?_
      refine mm_g 1 (pc1 := 55) (lo1 := [some (.ref q0), some (.ref q1), some (.int (Int32.ofInt a2)), some (.int (Int32.ofInt a3)), some (.int (Int32.ofInt 1)), none]) (st1 := [.ref q1, .ref (q0 + 1), .int (Int32.ofInt v60), .ref (q0 + 36)]) (H1 := mz_mk g57 x) rfl ?_
      refine mz_gI rfl fd_1_72 (by decide) (kc_trunk h_q1 _) hIg57 (kb_trunk_1 h_q1) (fun v62 e_v62 l_v62 u_v62 => ?_)
      replace hE := zf_tr hE (zf_le e_v62)
      refine mz_cv rfl mt_1_130 (by decide) (kc_words (ks_load_0 h_q0) _) rfl (Nat.le_of_ble_eq_true rfl) (by omega) (f_X10_firmness (by omega) hx hIg57 (ks_load_0 h_q0) l_v62 u_v62 (fun v63 l_v63 u_v63 hc64 => ⟨_, rfl, ?_⟩))
      show mm_W d mmX1_grow 61 [some (.ref q0), some (.ref q1), some (.int (Int32.ofInt a2)), some (.int (Int32.ofInt a3)), some (.int (Int32.ofInt 1)), none] [.int (Int32.ofInt v63), .int (Int32.ofInt v60), .ref (q0 + 36)] (mz_mk g57 x) Q
      replace hE := zf_t1 hE hc64
      refine mm_g 1 (pc1 := 62) (lo1 := [some (.ref q0), some (.ref q1), some (.int (Int32.ofInt a2)), some (.int (Int32.ofInt a3)), some (.int (Int32.ofInt 1)), none]) (st1 := [.ref q0, .int (Int32.ofInt v63), .int (Int32.ofInt v60), .ref (q0 + 36)]) (H1 := mz_mk g57 x) rfl ?_
      refine mz_fgR (v := (q0 + 1)) rfl fd_1_12 (by decide) (kc_load h_q0 _) (kr_load_0 h_q0 _ _ _) ?_
      refine mm_g 1 (pc1 := 66) (lo1 := [some (.ref q0), some (.ref q1), some (.int (Int32.ofInt a2)), some (.int (Int32.ofInt a3)), some (.int (Int32.ofInt 1)), none]) (st1 := [.ref q1, .ref (q0 + 1), .int (Int32.ofInt v63), .int (Int32.ofInt v60), .ref (q0 + 36)]) (H1 := mz_mk g57 x) rfl ?_
      refine mz_fgI (v := v59) rfl fd_1_57 (by decide) (kc_trunk h_q1 _) e_v59 ?_
      replace hE := zf_tr hE (zf_le e_v59)
      refine mm_g 1 (pc1 := 70) (lo1 := [some (.ref q0), some (.ref q1), some (.int (Int32.ofInt a2)), some (.int (Int32.ofInt a3)), some (.int (Int32.ofInt 1)), none]) (st1 := [.ref q1, .int (Int32.ofInt v59), .ref (q0 + 1), .int (Int32.ofInt v63), .int (Int32.ofInt v60), .ref (q0 + 36)]) (H1 := mz_mk g57 x) rfl ?_
      refine mz_fgI (v := v62) rfl fd_1_72 (by decide) (kc_trunk h_q1 _) e_v62 ?_
      replace hE := zf_tr hE (zf_le e_v62)
      refine mz_cv rfl mt_1_133 (by decide) (kc_words (ks_load_0 h_q0) _) rfl (Nat.le_of_ble_eq_true rfl) (by omega) (f_X10_overlapOf (by omega) hx hIg57 (ks_load_0 h_q0) l_v59 u_v59 l_v62 u_v62 (fun v65 l_v65 u_v65 hc66 => ⟨_, rfl, ?_⟩))
      show mm_W d mmX1_grow 76 [some (.ref q0), some (.ref q1), some (.int (Int32.ofInt a2)), some (.int (Int32.ofInt a3)), some (.int (Int32.ofInt 1)), none] [.int (Int32.ofInt v65), .int (Int32.ofInt v63), .int (Int32.ofInt v60), .ref (q0 + 36)] (mz_mk g57 x) Q
      replace hE := zf_t1 hE hc66
      refine mz_cv rfl mt_1_136 (by decide) (kc_rule (ks_load_4 h_q0) _) rfl (Nat.le_of_ble_eq_true rfl) (by omega) (f_X5_setWords (by omega) hx hIg57 (ks_load_4 h_q0) l_v60 u_v60 l_v63 u_v63 l_v65 u_v65 (fun g67 hIg67 hfg67 hc68 => ⟨_, rfl, ?_⟩))
      show mm_W d mmX1_grow 79 [some (.ref q0), some (.ref q1), some (.int (Int32.ofInt a2)), some (.int (Int32.ofInt a3)), some (.int (Int32.ofInt 1)), none] [] (mz_mk g67 x) Q
      replace hE := zf_t1 hE hc68
      refine mm_g 3 (pc1 := 82) (lo1 := [some (.ref q0), some (.ref q1), some (.int (Int32.ofInt a2)), some (.int (Int32.ofInt a3)), some (.int (Int32.ofInt 1)), none]) (st1 := [.ref q0, .int (Int32.ofInt 3), .int (Int32.ofInt 0)]) (H1 := mz_mk g67 x) rfl ?_
      refine mz_fgR (v := (q0 + 36)) rfl fd_1_36 (by decide) (kc_load h_q0 _) (kr_load_4 h_q0 _ _ _) ?_
      refine mz_cv rfl mt_1_140 (by decide) (kc_rule (ks_load_4 h_q0) _) rfl (Nat.le_of_ble_eq_true rfl) (by omega) (f_X5_worth (by omega) hx hIg67 (ks_load_4 h_q0) (fun v69 g70 hIg70 hfg70 l_v69 u_v69 hc71 => ⟨_, rfl, ?_⟩))
      show mm_W d mmX1_grow 88 [some (.ref q0), some (.ref q1), some (.int (Int32.ofInt a2)), some (.int (Int32.ofInt a3)), some (.int (Int32.ofInt 1)), none] [.int (Int32.ofInt v69), .int (Int32.ofInt 3), .int (Int32.ofInt 0)] (mz_mk g70 x) Q
      replace hE := zf_t2 hE hc71
      refine mz_mn rfl mt_1_75 (Nat.le_of_ble_eq_true rfl) (by omega) ⟨by decide, by decide⟩ (mz_rg l_v69 u_v69) (fun v72 e_v72 => ?_)
      have l_v72 : (-2147483648) ≤ v72 := by omega
      have u_v72 : v72 ≤ 3 := by omega
      replace hE := zf_tr hE (zf_le e_v72.symm)
      refine mz_mx rfl mt_1_143 (Nat.le_of_ble_eq_true rfl) (by omega) ⟨by decide, by decide⟩ (mz_rg l_v72 u_v72) (fun v73 e_v73 => ?_)
      have l_v73 : 0 ≤ v73 := by omega
      have u_v73 : v73 ≤ 3 := by omega
      replace hE := zf_tr hE (zf_le e_v73.symm)
      refine mm_g 2 (pc1 := 97) (lo1 := [some (.ref q0), some (.ref q1), some (.int (Int32.ofInt a2)), some (.int (Int32.ofInt a3)), some (.int (Int32.ofInt v73)), none]) (st1 := [.ref q1]) (H1 := mz_mk g70 x) rfl ?_
      refine mz_gI rfl fd_1_81 (by decide) (kc_trunk h_q1 _) hIg70 (kb_trunk_3 h_q1) (fun v74 e_v74 l_v74 u_v74 => ?_)
      replace hE := zf_tr hE (zf_le e_v74)
      refine mm_g 1 (pc1 := 101) (lo1 := [some (.ref q0), some (.ref q1), some (.int (Int32.ofInt a2)), some (.int (Int32.ofInt a3)), some (.int (Int32.ofInt v73)), none]) (st1 := [.ref q1, .int (Int32.ofInt v74)]) (H1 := mz_mk g70 x) rfl ?_
      refine mz_gI rfl fd_1_146 (by decide) (kc_trunk h_q1 _) hIg70 (kb_trunk_4 h_q1) (fun v75 e_v75 l_v75 u_v75 => ?_)
      replace hE := zf_tr hE (zf_le e_v75)
      refine mz_if_eq (tgt := 114) rfl rfl (mz_rg l_v75 u_v75) (fun c104_75 => ?_) (fun c104_75 => ?_)
      · skip
        replace hE := zf_ip hE c104_75
        refine mm_g 1 (pc1 := 116) (lo1 := [some (.ref q0), some (.ref q1), some (.int (Int32.ofInt a2)), some (.int (Int32.ofInt a3)), some (.int (Int32.ofInt v73)), none]) (st1 := [.int (Int32.ofInt v73), .int (Int32.ofInt v74)]) (H1 := mz_mk g70 x) rfl ?_
        refine mz_iadd_w rfl (fun v76 e_v76 hwv76 => ?_)
        have l_v76 := hwv76.1
        have u_v76 := hwv76.2
        replace hE := zf_tr hE (zf_le e_v76.symm)
        refine mm_g 4 (pc1 := 122) (lo1 := [some (.ref q0), some (.ref q1), some (.int (Int32.ofInt a2)), some (.int (Int32.ofInt a3)), some (.int (Int32.ofInt v73)), some (.int (Int32.ofInt v76))]) (st1 := [.ref q1, .ref q0, .ref q1]) (H1 := mz_mk g70 x) rfl ?_
        refine mz_cv rfl mt_1_84 (by decide) (kc_load h_q0 _) rfl (Nat.le_of_ble_eq_true rfl) (by omega) (f_X1_fullOf (by omega) hx hIg70 h_q0 h_q1 (fun v77 l_v77 u_v77 hc78 => ⟨_, rfl, ?_⟩))
        show mm_W d mmX1_grow 125 [some (.ref q0), some (.ref q1), some (.int (Int32.ofInt a2)), some (.int (Int32.ofInt a3)), some (.int (Int32.ofInt v73)), some (.int (Int32.ofInt v76))] [.int (Int32.ofInt v77), .ref q1] (mz_mk g70 x) Q
        replace hE := zf_t1 hE hc78
        refine mm_g 1 (pc1 := 127) (lo1 := [some (.ref q0), some (.ref q1), some (.int (Int32.ofInt a2)), some (.int (Int32.ofInt a3)), some (.int (Int32.ofInt v73)), some (.int (Int32.ofInt v76))]) (st1 := [.int (Int32.ofInt v76), .int (Int32.ofInt v77), .ref q1]) (H1 := mz_mk g70 x) rfl ?_
        refine mz_mn rfl mt_1_75 (Nat.le_of_ble_eq_true rfl) (by omega) (mz_rg l_v77 u_v77) (mz_rg l_v76 u_v76) (fun v79 e_v79 => ?_)
        have l_v79 : (-2147483648) ≤ v79 := by omega
        have u_v79 : v79 ≤ 16 := by omega
        replace hE := zf_tr hE (zf_le e_v79.symm)
        refine mz_pI rfl fd_1_81 (kc_trunk h_q1 _) hIg70 (kb_trunk_3 h_q1) (by omega) (by omega) (fun g80 hIg80 hug80 => ?_)
        replace hE := zf_tr hE (zf_lg hug80)
        exact mm_rt rfl rfl (hQ _ hIg80 (fun k j hk => ((hug80.2 k j (fun h => hk (Or.inl h.1))).trans ((hfg70 k j (fun h => hk (Or.inr (Or.inr h)))).trans ((hfg67 k j (fun h => hk (Or.inr (Or.inl h)))).trans (hfg57 k j (fun h => hk (Or.inr (Or.inl h)))))))) hE)
      · skip
        replace hE := zf_in hE c104_75
        refine mm_g 2 (pc1 := 110) (lo1 := [some (.ref q0), some (.ref q1), some (.int (Int32.ofInt a2)), some (.int (Int32.ofInt a3)), some (.int (Int32.ofInt v73)), none]) (st1 := [.int (Int32.ofInt v73), .int (Int32.ofInt 2), .int (Int32.ofInt v74)]) (H1 := mz_mk g70 x) rfl ?_
        refine mz_imul rfl ?_
        refine mz_gt (tgt := 116) rfl rfl ?_
        refine mz_iadd_w rfl (fun v81 e_v81 hwv81 => ?_)
        have l_v81 := hwv81.1
        have u_v81 := hwv81.2
        replace hE := zf_tr hE (zf_le e_v81.symm)
        refine mm_g 4 (pc1 := 122) (lo1 := [some (.ref q0), some (.ref q1), some (.int (Int32.ofInt a2)), some (.int (Int32.ofInt a3)), some (.int (Int32.ofInt v73)), some (.int (Int32.ofInt v81))]) (st1 := [.ref q1, .ref q0, .ref q1]) (H1 := mz_mk g70 x) rfl ?_
        refine mz_cv rfl mt_1_84 (by decide) (kc_load h_q0 _) rfl (Nat.le_of_ble_eq_true rfl) (by omega) (f_X1_fullOf (by omega) hx hIg70 h_q0 h_q1 (fun v82 l_v82 u_v82 hc83 => ⟨_, rfl, ?_⟩))
        show mm_W d mmX1_grow 125 [some (.ref q0), some (.ref q1), some (.int (Int32.ofInt a2)), some (.int (Int32.ofInt a3)), some (.int (Int32.ofInt v73)), some (.int (Int32.ofInt v81))] [.int (Int32.ofInt v82), .ref q1] (mz_mk g70 x) Q
        replace hE := zf_t1 hE hc83
        refine mm_g 1 (pc1 := 127) (lo1 := [some (.ref q0), some (.ref q1), some (.int (Int32.ofInt a2)), some (.int (Int32.ofInt a3)), some (.int (Int32.ofInt v73)), some (.int (Int32.ofInt v81))]) (st1 := [.int (Int32.ofInt v81), .int (Int32.ofInt v82), .ref q1]) (H1 := mz_mk g70 x) rfl ?_
        refine mz_mn rfl mt_1_75 (Nat.le_of_ble_eq_true rfl) (by omega) (mz_rg l_v82 u_v82) (mz_rg l_v81 u_v81) (fun v84 e_v84 => ?_)
        have l_v84 : (-2147483648) ≤ v84 := by omega
        have u_v84 : v84 ≤ 16 := by omega
        replace hE := zf_tr hE (zf_le e_v84.symm)
        refine mz_pI rfl fd_1_81 (kc_trunk h_q1 _) hIg70 (kb_trunk_3 h_q1) (by omega) (by omega) (fun g85 hIg85 hug85 => ?_)
        replace hE := zf_tr hE (zf_lg hug85)
        exact mm_rt rfl rfl (hQ _ hIg85 (fun k j hk => ((hug85.2 k j (fun h => hk (Or.inl h.1))).trans ((hfg70 k j (fun h => hk (Or.inr (Or.inr h)))).trans ((hfg67 k j (fun h => hk (Or.inr (Or.inl h)))).trans (hfg57 k j (fun h => hk (Or.inr (Or.inl h)))))))) hE)
def fl_X1_passDay_11 (x : mm_X) (q0 : Nat) (q1 : Nat) : Nat → Nat → Prop := fun k j => (q1 ≤ k ∧ k < q1 + 9) ∨ k = ((q0 + 36) + 2) ∨ k = ((q0 + 36) + 3)
def fw_X1_passDay (x : mm_X) (q0 : Nat) (q1 : Nat) : Nat → Nat → Prop := fun k j => (q1 ≤ k ∧ k < q1 + 9) ∨ k = ((q0 + 36) + 2) ∨ k = ((q0 + 36) + 3)
theorem f_X1_passDay {d : Nat} (hd : 14 ≤ d) {x : mm_X} (hx : mk_x x) {g : mz_G} (hI : mz_inv g) {q0 : Nat} (h_q0 : kd_load q0) {q1 : Nat} (h_q1 : kd_tks q1) {Q : (Option Value ⊕ Nat) → mm_H → Prop} (hQ : ∀ (g1 : mz_G), mz_inv g1 → mz_fr (fw_X1_passDay x q0 q1) g g1 → zf_E (zF_X1_passDay q0 q1 g) (g1) → Q (.inl none) (mz_mk g1 x)) : mm_C d 22 [.ref q0, .ref q1] (mz_mk g x) Q := by
  have kn_q0 := kn_load h_q0
  have kn_q1 := kn_tks h_q1
  refine ⟨mmX1_passDay, [some (.ref q0), some (.ref q1), none, none], rfl, rfl, ?_⟩
  have hE : zf_E (zF_X1_passDay q0 q1 g) (zF_X1_passDay q0 q1 g) := zf_rf
  refine mm_g 2 (pc1 := 2) (lo1 := [some (.ref q0), some (.ref q1), none, none]) (st1 := [.ref q1, .ref q0]) (H1 := mz_mk g x) rfl ?_
  refine mz_gI rfl fd_1_110 (by decide) (kc_tks h_q1 _) hI (kb_tks_3 h_q1) (fun v1 e_v1 l_v1 u_v1 => ?_)
  replace hE := zf_tr hE (zf_le e_v1)
  refine mz_cv rfl mt_1_113 (by decide) (kc_load h_q0 _) rfl (Nat.le_of_ble_eq_true rfl) (by omega) (f_X1_heatOf (by omega) hx hI h_q0 l_v1 u_v1 (fun v2 l_v2 u_v2 hc3 => ⟨_, rfl, ?_⟩))
  show mm_W d mmX1_passDay 8 [some (.ref q0), some (.ref q1), none, none] [.int (Int32.ofInt v2)] (mz_mk g x) Q
  replace hE := zf_t1 hE hc3
  refine mm_g 3 (pc1 := 11) (lo1 := [some (.ref q0), some (.ref q1), some (.int (Int32.ofInt v2)), some (.int (Int32.ofInt 0))]) (st1 := []) (H1 := mz_mk g x) rfl ?_
  have L8 : ∀ n7 : Nat, ∀ (v4 : Int) (g5 : mz_G), (6 - v4).toNat = n7 → 0 ≤ v4 → v4 ≤ 6 → mz_inv g5 → mz_fr (fl_X1_passDay_11 x q0 q1) g g5 → (∃ fk : Nat, (6 - v4).toNat < fk ∧ zf_E (zF_X1_passDay q0 q1 g) (zL_X1_passDay_11 q0 q1 fk v2 v4 g5)) → mm_W d mmX1_passDay 11 [some (.ref q0), some (.ref q1), some (.int (Int32.ofInt v2)), some (.int (Int32.ofInt v4))] [] (mz_mk g5 x) Q := by
    intro n7
    induction n7 using Nat.strongRecOn with
    | ind n7 ih6 =>
    intro v4 g5 hmn7 l_v4 u_v4 hIg5 hfg5 hF
    obtain ⟨fk, fl, hE⟩ := hF
    obtain ⟨fj9, rfl⟩ : ∃ fj, fk = fj + 1 := ⟨fk - 1, by omega⟩
    have fn10 : n7 ≤ fj9 := by omega
    replace hE := zf_tr hE zL_X1_passDay_11_s
    refine mm_g 2 (pc1 := 13) (lo1 := [some (.ref q0), some (.ref q1), some (.int (Int32.ofInt v2)), some (.int (Int32.ofInt v4))]) (st1 := [.ref q1, .int (Int32.ofInt v4)]) (H1 := mz_mk g5 x) rfl ?_
    refine mz_gI rfl fd_1_43 (by decide) (kc_tks h_q1 _) hIg5 (kb_tks_2 h_q1) (fun v11 e_v11 l_v11 u_v11 => ?_)
    replace hE := zf_tr hE (zf_le e_v11)
    refine mz_ic_ge (tgt := 39) rfl rfl (mz_rg l_v4 u_v4) (mz_rg l_v11 u_v11) (fun c16_11 => ?_) (fun c16_11 => ?_)
    · skip
      replace hE := zf_nl hE c16_11
      refine mm_g 2 (pc1 := 41) (lo1 := [some (.ref q0), some (.ref q1), some (.int (Int32.ofInt v2)), some (.int (Int32.ofInt v4))]) (st1 := [.ref q1, .ref q1]) (H1 := mz_mk g5 x) rfl ?_
      refine mz_gI rfl fd_1_110 (by decide) (kc_tks h_q1 _) hIg5 (kb_tks_3 h_q1) (fun v12 e_v12 l_v12 u_v12 => ?_)
      replace hE := zf_tr hE (zf_le e_v12)
      refine mm_g 1 (pc1 := 45) (lo1 := [some (.ref q0), some (.ref q1), some (.int (Int32.ofInt v2)), some (.int (Int32.ofInt v4))]) (st1 := [.int (Int32.ofInt 1), .int (Int32.ofInt v12), .ref q1]) (H1 := mz_mk g5 x) rfl ?_
      refine mz_iadd_w rfl (fun v13 e_v13 hwv13 => ?_)
      have l_v13 := hwv13.1
      have u_v13 := hwv13.2
      replace hE := zf_tr hE (zf_le e_v13.symm)
      refine mz_pI rfl fd_1_110 (kc_tks h_q1 _) hIg5 (kb_tks_3 h_q1) (by omega) (by omega) (fun g14 hIg14 hug14 => ?_)
      replace hE := zf_tr hE (zf_lg hug14)
      exact mm_rt rfl rfl (hQ _ hIg14 (fun k j hk => ((hug14.2 k j (fun h => hk (Or.inl (show (q1 ≤ k ∧ k < q1 + 9) by have h9 : k = q1 ∧ j = 3 := h; omega)))).trans (hfg5 k j (fun h => hk (Or.elim h (fun h => (Or.inl h)) (fun h => (Or.elim h (fun h => (Or.inr (Or.inl h))) (fun h => (Or.inr (Or.inr h)))))))))) hE)
    · skip
      replace hE := zf_ip hE c16_11
      refine mm_g 3 (pc1 := 22) (lo1 := [some (.ref q0), some (.ref q1), some (.int (Int32.ofInt v2)), some (.int (Int32.ofInt v4))]) (st1 := [.int (Int32.ofInt v4), .ref q1, .ref q0]) (H1 := mz_mk g5 x) rfl ?_
      refine mz_cv rfl mt_1_99 (by decide) (kc_tks h_q1 _) rfl (Nat.le_of_ble_eq_true rfl) (by omega) (f_X9_get (by omega) hx hIg5 h_q1 (by omega) (by omega) (fun u15 k_u15 hp16 hc17 => ⟨_, rfl, ?_⟩))
      show mm_W d mmX1_passDay 25 [some (.ref q0), some (.ref q1), some (.int (Int32.ofInt v2)), some (.int (Int32.ofInt v4))] [.ref u15, .ref q0] (mz_mk g5 x) Q
      replace hE := zf_t1 hE hc17
      refine mm_g 1 (pc1 := 26) (lo1 := [some (.ref q0), some (.ref q1), some (.int (Int32.ofInt v2)), some (.int (Int32.ofInt v4))]) (st1 := [.ref q1, .ref u15, .ref q0]) (H1 := mz_mk g5 x) rfl ?_
      refine mz_gI rfl fd_1_110 (by decide) (kc_tks h_q1 _) hIg5 (kb_tks_3 h_q1) (fun v18 e_v18 l_v18 u_v18 => ?_)
      replace hE := zf_tr hE (zf_le e_v18)
      refine mm_g 1 (pc1 := 30) (lo1 := [some (.ref q0), some (.ref q1), some (.int (Int32.ofInt v2)), some (.int (Int32.ofInt v4))]) (st1 := [.int (Int32.ofInt v2), .int (Int32.ofInt v18), .ref u15, .ref q0]) (H1 := mz_mk g5 x) rfl ?_
      refine mz_cv rfl mt_1_116 (by decide) (kc_load h_q0 _) rfl (Nat.le_of_ble_eq_true rfl) (by omega) (f_X1_grow (by omega) hx hIg5 h_q0 k_u15 l_v18 u_v18 l_v2 u_v2 (fun g19 hIg19 hfg19 hc20 => ⟨_, rfl, ?_⟩))
      show mm_W d mmX1_passDay 33 [some (.ref q0), some (.ref q1), some (.int (Int32.ofInt v2)), some (.int (Int32.ofInt v4))] [] (mz_mk g19 x) Q
      replace hE := zf_t1 hE hc20
      refine mz_iincR (v := v4) (lo2 := [some (.ref q0), some (.ref q1), some (.int (Int32.ofInt v2)), some (.int (Int32.ofInt (v4 + 1)))]) rfl rfl rfl (Nat.le_of_ble_eq_true rfl) rfl ?_
      refine mz_gt (tgt := 11) rfl rfl ?_
      exact ih6 ((6 - (v4 + 1)).toNat) (by omega) (v4 + 1) g19 rfl (by omega) (by omega) hIg19 (fun k j hk => ((hfg19 k j (fun h => hk (Or.elim h (fun h => (Or.inl (show (q1 ≤ k ∧ k < q1 + 9) by have h9 : k = u15 := h; omega))) (fun h => (Or.elim h (fun h => (Or.inr (Or.inl h))) (fun h => (Or.inr (Or.inr h)))))))).trans (hfg5 k j (fun h => hk (Or.elim h (fun h => (Or.inl h)) (fun h => (Or.elim h (fun h => (Or.inr (Or.inl h))) (fun h => (Or.inr (Or.inr h)))))))))) ⟨fj9, Nat.lt_of_lt_of_le (show ((6 - (v4 + 1)).toNat) < n7 from (by omega)) fn10, hE⟩
  exact L8 _ 0 g rfl (by decide) (by decide) hI (fun _ _ _ => rfl) ⟨3000000000, by omega, hE⟩
def fl_X11_days_47 (x : mm_X) (a1 : Int) : Nat → Nat → Prop := fun k j => (87 ≤ k ∧ k < 96) ∨ k = ((x.1 + 36) + 2) ∨ k = ((x.1 + 36) + 3)
def fw_X11_days (x : mm_X) (a1 : Int) : Nat → Nat → Prop := fun k j => k = 100 ∨ k = 96 ∨ k = 86 ∨ (87 ≤ k ∧ k < 96) ∨ k = ((x.1 + 36) + 2) ∨ k = ((x.1 + 36) + 3)
theorem f_X11_days {d : Nat} (hd : 15 ≤ d) {x : mm_X} (hx : mk_x x) {g : mz_G} (hI : mz_inv g) {a1 : Int} (l_a1 : (-2147483648) ≤ a1) (u_a1 : a1 ≤ 2147483647) {Q : (Option Value ⊕ Nat) → mm_H → Prop} (hQ : ∀ (r : Int) (g1 : mz_G), mz_inv g1 → mz_fr (fw_X11_days x a1) g g1 → (-2147483648) ≤ r → r ≤ 2147483647 → zf_E (zF_X11_days x a1 g) ((r, g1)) → Q (.inl (some (.int (Int32.ofInt r)))) (mz_mk g1 x)) : mm_C d 133 [.ref 0, .int (Int32.ofInt a1)] (mz_mk g x) Q := by
  have kx := kn_x hx
  refine ⟨mmX11_days, [some (.ref 0), some (.int (Int32.ofInt a1)), none], rfl, rfl, ?_⟩
  have hE : zf_E (zF_X11_days x a1 g) (zF_X11_days x a1 g) := zf_rf
  refine mm_g 2 (pc1 := 2) (lo1 := [some (.ref 0), some (.int (Int32.ofInt a1)), none]) (st1 := [.int (Int32.ofInt 1), .int (Int32.ofInt a1)]) (H1 := mz_mk g x) rfl ?_
  refine mz_ic_lt (tgt := 29) rfl rfl (mz_rg l_a1 u_a1) ⟨by decide, by decide⟩ (fun c2_0 => ?_) (fun c2_0 => ?_)
  · skip
    replace hE := zf_ip hE c2_0
    refine mm_g 1 (pc1 := 30) (lo1 := [some (.ref 0), some (.int (Int32.ofInt a1)), none]) (st1 := [.ref 0]) (H1 := mz_mk g x) rfl ?_
    refine mz_fgR (v := 86) rfl fd_11_37 (by decide) (sc_0 _) (rf_0_5 _ _ _) ?_
    refine mm_g 1 (pc1 := 34) (lo1 := [some (.ref 0), some (.int (Int32.ofInt a1)), none]) (st1 := [.int (Int32.ofInt 1), .ref 86]) (H1 := mz_mk g x) rfl ?_
    refine mz_cv rfl mt_11_131 (by decide) (sc_86 _) rfl (Nat.le_of_ble_eq_true rfl) (by omega) (f_X6_refuse (by omega) hx hI kp_story_86 (by decide) (by decide) (fun v1 g2 hIg2 hfg2 l_v1 u_v1 hc3 => ⟨_, rfl, ?_⟩))
    show mm_W d mmX11_days 37 [some (.ref 0), some (.int (Int32.ofInt a1)), none] [.int (Int32.ofInt v1)] (mz_mk g2 x) Q
    replace hE := zf_t2 hE hc3
    exact mm_rt rfl rfl (hQ _ _ hIg2 (fun k j hk => (hfg2 k j (fun h => hk (Or.inl h)))) (by omega) (by omega) hE)
  · skip
    replace hE := zf_nl hE c2_0
    refine mm_g 1 (pc1 := 6) (lo1 := [some (.ref 0), some (.int (Int32.ofInt a1)), none]) (st1 := [.int (Int32.ofInt a1)]) (H1 := mz_mk g x) rfl ?_
    refine mz_bip rfl bip_20 ?_
    refine mz_ic_gt (tgt := 29) rfl rfl (mz_rg l_a1 u_a1) ⟨by decide, by decide⟩ (fun c8_3 => ?_) (fun c8_3 => ?_)
    · skip
      replace hE := zf_ip hE c8_3
      refine mm_g 1 (pc1 := 30) (lo1 := [some (.ref 0), some (.int (Int32.ofInt a1)), none]) (st1 := [.ref 0]) (H1 := mz_mk g x) rfl ?_
      refine mz_fgR (v := 86) rfl fd_11_37 (by decide) (sc_0 _) (rf_0_5 _ _ _) ?_
      refine mm_g 1 (pc1 := 34) (lo1 := [some (.ref 0), some (.int (Int32.ofInt a1)), none]) (st1 := [.int (Int32.ofInt 1), .ref 86]) (H1 := mz_mk g x) rfl ?_
      refine mz_cv rfl mt_11_131 (by decide) (sc_86 _) rfl (Nat.le_of_ble_eq_true rfl) (by omega) (f_X6_refuse (by omega) hx hI kp_story_86 (by decide) (by decide) (fun v4 g5 hIg5 hfg5 l_v4 u_v4 hc6 => ⟨_, rfl, ?_⟩))
      show mm_W d mmX11_days 37 [some (.ref 0), some (.int (Int32.ofInt a1)), none] [.int (Int32.ofInt v4)] (mz_mk g5 x) Q
      replace hE := zf_t2 hE hc6
      exact mm_rt rfl rfl (hQ _ _ hIg5 (fun k j hk => (hfg5 k j (fun h => hk (Or.inl h)))) (by omega) (by omega) hE)
    · skip
      replace hE := zf_nl hE c8_3
      refine mm_g 1 (pc1 := 12) (lo1 := [some (.ref 0), some (.int (Int32.ofInt a1)), none]) (st1 := [.ref 0]) (H1 := mz_mk g x) rfl ?_
      refine mz_fgR (v := 86) rfl fd_11_37 (by decide) (sc_0 _) (rf_0_5 _ _ _) ?_
      refine mz_fgR (v := 87) rfl fd_11_158 (by decide) (sc_86 _) (rf_86_0 _ _ _) ?_
      refine mz_gI rfl fd_11_161 (by decide) (sc_87 _) hI bd_87_3 (fun v7 e_v7 l_v7 u_v7 => ?_)
      replace hE := zf_tr hE (zf_le e_v7)
      refine mm_g 1 (pc1 := 22) (lo1 := [some (.ref 0), some (.int (Int32.ofInt a1)), none]) (st1 := [.int (Int32.ofInt a1), .int (Int32.ofInt v7)]) (H1 := mz_mk g x) rfl ?_
      refine mz_iadd_w rfl (fun v8 e_v8 hwv8 => ?_)
      have l_v8 := hwv8.1
      have u_v8 := hwv8.2
      replace hE := zf_tr hE (zf_le e_v8.symm)
      refine mz_sip rfl sip_999 ?_
      refine mz_ic_le (tgt := 38) rfl rfl (mz_rg l_v8 u_v8) ⟨by decide, by decide⟩ (fun c26_8 => ?_) (fun c26_8 => ?_)
      · skip
        replace hE := zf_nl hE c26_8
        refine mm_g 1 (pc1 := 39) (lo1 := [some (.ref 0), some (.int (Int32.ofInt a1)), none]) (st1 := [.ref 0]) (H1 := mz_mk g x) rfl ?_
        refine mz_fgR (v := 86) rfl fd_11_37 (by decide) (sc_0 _) (rf_0_5 _ _ _) ?_
        refine mz_cv rfl mt_11_253 (by decide) (sc_86 _) rfl (Nat.le_of_ble_eq_true rfl) (by omega) (f_X6_keepAct (by omega) hx hI kp_story_86 (fun g9 hIg9 hfg9 hc10 => ⟨_, rfl, ?_⟩))
        show mm_W d mmX11_days 45 [some (.ref 0), some (.int (Int32.ofInt a1)), none] [] (mz_mk g9 x) Q
        replace hE := zf_t1 hE hc10
        refine mm_g 2 (pc1 := 47) (lo1 := [some (.ref 0), some (.int (Int32.ofInt a1)), some (.int (Int32.ofInt 0))]) (st1 := []) (H1 := mz_mk g9 x) rfl ?_
        have L15 : ∀ n14 : Nat, ∀ (v11 : Int) (g12 : mz_G), (20 - v11).toNat = n14 → 0 ≤ v11 → v11 ≤ 20 → mz_inv g12 → mz_fr (fl_X11_days_47 x a1) g9 g12 → (∃ fk : Nat, (20 - v11).toNat < fk ∧ zf_E (zF_X11_days x a1 g) (zL_X11_days_47 x a1 fk v11 g12)) → mm_W d mmX11_days 47 [some (.ref 0), some (.int (Int32.ofInt a1)), some (.int (Int32.ofInt v11))] [] (mz_mk g12 x) Q := by
          intro n14
          induction n14 using Nat.strongRecOn with
          | ind n14 ih13 =>
          intro v11 g12 hmn14 l_v11 u_v11 hIg12 hfg12 hF
          obtain ⟨fk, fl, hE⟩ := hF
          obtain ⟨fj16, rfl⟩ : ∃ fj, fk = fj + 1 := ⟨fk - 1, by omega⟩
          have fn17 : n14 ≤ fj16 := by omega
          replace hE := zf_tr hE zL_X11_days_47_s
          refine mm_g 2 (pc1 := 49) (lo1 := [some (.ref 0), some (.int (Int32.ofInt a1)), some (.int (Int32.ofInt v11))]) (st1 := [.int (Int32.ofInt a1), .int (Int32.ofInt v11)]) (H1 := mz_mk g12 x) rfl ?_
          refine mz_ic_ge (tgt := 72) rfl rfl (mz_rg l_v11 u_v11) (mz_rg l_a1 u_a1) (fun c49_17 => ?_) (fun c49_17 => ?_)
          · skip
            replace hE := zf_nl hE c49_17
            refine mm_g 1 (pc1 := 73) (lo1 := [some (.ref 0), some (.int (Int32.ofInt a1)), some (.int (Int32.ofInt v11))]) (st1 := [.ref 0]) (H1 := mz_mk g12 x) rfl ?_
            refine mz_fgR (v := 86) rfl fd_11_37 (by decide) (sc_0 _) (rf_0_5 _ _ _) ?_
            refine mz_fgR (v := 87) rfl fd_11_158 (by decide) (sc_86 _) (rf_86_0 _ _ _) ?_
            refine mz_gI rfl fd_11_161 (by decide) (sc_87 _) hIg12 bd_87_3 (fun v18 e_v18 l_v18 u_v18 => ?_)
            replace hE := zf_tr hE (zf_le e_v18)
            exact mm_rt rfl rfl (hQ _ _ hIg12 (fun k j hk => ((hfg12 k j (fun h => hk (Or.elim h (fun h => (Or.inr (Or.inr (Or.inr (Or.inl h))))) (fun h => (Or.elim h (fun h => (Or.inr (Or.inr (Or.inr (Or.inr (Or.inl h)))))) (fun h => (Or.inr (Or.inr (Or.inr (Or.inr (Or.inr h))))))))))).trans (hfg9 k j (fun h => hk (Or.elim h (fun h => (Or.inr (Or.inl h))) (fun h => (Or.inr (Or.inr (Or.inl h))))))))) (by omega) (by omega) hE)
          · skip
            replace hE := zf_ip hE c49_17
            refine mm_g 1 (pc1 := 53) (lo1 := [some (.ref 0), some (.int (Int32.ofInt a1)), some (.int (Int32.ofInt v11))]) (st1 := [.ref 0]) (H1 := mz_mk g12 x) rfl ?_
            refine mz_fgR (v := x.1) rfl fd_11_16 (by decide) (sc_0 _) rfl ?_
            refine mm_g 1 (pc1 := 57) (lo1 := [some (.ref 0), some (.int (Int32.ofInt a1)), some (.int (Int32.ofInt v11))]) (st1 := [.ref 0, .ref x.1]) (H1 := mz_mk g12 x) rfl ?_
            refine mz_fgR (v := 86) rfl fd_11_37 (by decide) (sc_0 _) (rf_0_5 _ _ _) ?_
            refine mz_fgR (v := 87) rfl fd_11_158 (by decide) (sc_86 _) (rf_86_0 _ _ _) ?_
            refine mz_cv rfl mt_11_256 (by decide) (kc_load (kx_1 hx) _) rfl (Nat.le_of_ble_eq_true rfl) (by omega) (f_X1_passDay (by omega) hx hIg12 (kx_1 hx) kp_tks_87 (fun g19 hIg19 hfg19 hc20 => ⟨_, rfl, ?_⟩))
            show mm_W d mmX11_days 66 [some (.ref 0), some (.int (Int32.ofInt a1)), some (.int (Int32.ofInt v11))] [] (mz_mk g19 x) Q
            replace hE := zf_t1 hE hc20
            refine mz_iincR (v := v11) (lo2 := [some (.ref 0), some (.int (Int32.ofInt a1)), some (.int (Int32.ofInt (v11 + 1)))]) rfl rfl rfl (Nat.le_of_ble_eq_true rfl) rfl ?_
            refine mz_gt (tgt := 47) rfl rfl ?_
            exact ih13 ((20 - (v11 + 1)).toNat) (by omega) (v11 + 1) g19 rfl (by omega) (by omega) hIg19 (fun k j hk => ((hfg19 k j (fun h => hk (Or.elim h (fun h => (Or.inl h)) (fun h => (Or.elim h (fun h => (Or.inr (Or.inl h))) (fun h => (Or.inr (Or.inr h)))))))).trans (hfg12 k j (fun h => hk (Or.elim h (fun h => (Or.inl h)) (fun h => (Or.elim h (fun h => (Or.inr (Or.inl h))) (fun h => (Or.inr (Or.inr h)))))))))) ⟨fj16, Nat.lt_of_lt_of_le (show ((20 - (v11 + 1)).toNat) < n14 from (by omega)) fn17, hE⟩
        exact L15 _ 0 g9 rfl (by decide) (by decide) hIg9 (fun _ _ _ => rfl) ⟨3000000000, by omega, hE⟩
      · skip
        replace hE := zf_ip hE c26_8
        refine mm_g 1 (pc1 := 30) (lo1 := [some (.ref 0), some (.int (Int32.ofInt a1)), none]) (st1 := [.ref 0]) (H1 := mz_mk g x) rfl ?_
        refine mz_fgR (v := 86) rfl fd_11_37 (by decide) (sc_0 _) (rf_0_5 _ _ _) ?_
        refine mm_g 1 (pc1 := 34) (lo1 := [some (.ref 0), some (.int (Int32.ofInt a1)), none]) (st1 := [.int (Int32.ofInt 1), .ref 86]) (H1 := mz_mk g x) rfl ?_
        refine mz_cv rfl mt_11_131 (by decide) (sc_86 _) rfl (Nat.le_of_ble_eq_true rfl) (by omega) (f_X6_refuse (by omega) hx hI kp_story_86 (by decide) (by decide) (fun v21 g22 hIg22 hfg22 l_v21 u_v21 hc23 => ⟨_, rfl, ?_⟩))
        show mm_W d mmX11_days 37 [some (.ref 0), some (.int (Int32.ofInt a1)), none] [.int (Int32.ofInt v21)] (mz_mk g22 x) Q
        replace hE := zf_t2 hE hc23
        exact mm_rt rfl rfl (hQ _ _ hIg22 (fun k j hk => (hfg22 k j (fun h => hk (Or.inl h)))) (by omega) (by omega) hE)
def fw_X11_draw (x : mm_X) (a1 : Int) (a2 : Int) : Nat → Nat → Prop := fun k j => k = 100 ∨ k = 96 ∨ k = 86 ∨ (87 ≤ k ∧ k < 96)
theorem f_X11_draw {d : Nat} (hd : 13 ≤ d) {x : mm_X} (hx : mk_x x) {g : mz_G} (hI : mz_inv g) {a1 : Int} (l_a1 : (-2147483648) ≤ a1) (u_a1 : a1 ≤ 2147483647) {a2 : Int} (l_a2 : (-2147483648) ≤ a2) (u_a2 : a2 ≤ 2147483647) {Q : (Option Value ⊕ Nat) → mm_H → Prop} (hQ : ∀ (r : Int) (g1 : mz_G), mz_inv g1 → mz_fr (fw_X11_draw x a1 a2) g g1 → (-2147483648) ≤ r → r ≤ 2147483647 → zf_E (zF_X11_draw x a1 a2 g) ((0, r, g1)) → Q (.inl (some (.int (Int32.ofInt r)))) (mz_mk g1 x)) (hX0 : (zf_E (zF_X11_draw x a1 a2 g) ((1, 0, g))) → Q (.inr 0) (mz_mk g (mz_tx x))) : mm_C d 134 [.ref 0, .int (Int32.ofInt a1), .int (Int32.ofInt a2)] (mz_mk g x) Q := by
  have kx := kn_x hx
  refine ⟨mmX11_draw, [some (.ref 0), some (.int (Int32.ofInt a1)), some (.int (Int32.ofInt a2)), none, none], rfl, rfl, ?_⟩
  have hE : zf_E (zF_X11_draw x a1 a2 g) (zF_X11_draw x a1 a2 g) := zf_rf
  refine mm_g 2 (pc1 := 2) (lo1 := [some (.ref 0), some (.int (Int32.ofInt a1)), some (.int (Int32.ofInt a2)), none, none]) (st1 := [.int (Int32.ofInt a1), .ref 0]) (H1 := mz_mk g x) rfl ?_
  refine mz_cv rfl mt_11_231 (by decide) (sc_0 _) rfl (Nat.le_of_ble_eq_true rfl) (by omega) (f_X11_isTrunk (by omega) hx hI l_a1 u_a1 (fun v1 l_v1 u_v1 hc2 => ⟨_, rfl, ?_⟩))
  show mm_W d mmX11_draw 5 [some (.ref 0), some (.int (Int32.ofInt a1)), some (.int (Int32.ofInt a2)), none, none] [.int (Int32.ofInt v1)] (mz_mk g x) Q
  replace hE := zf_t1 hE hc2
  (try unfold zJ_X11_draw_38 at hE)
  (try unfold zJ_X11_draw_38 at hE)
  refine mz_csx rfl mt_11_183 rfl (Nat.le_of_ble_eq_true rfl) (by omega) rfl nh_X11_mustBe (f_X11_mustBe (by omega) hx hI l_v1 u_v1 (fun hp3 hc4 => ?_) (fun hc => hX0 (zf_x2 hE hc (by decide))))
  show mm_W d mmX11_draw 8 [some (.ref 0), some (.int (Int32.ofInt a1)), some (.int (Int32.ofInt a2)), none, none] [] (mz_mk g x) Q
  replace hE := zf_x1 hE hc4
  refine mm_g 1 (pc1 := 9) (lo1 := [some (.ref 0), some (.int (Int32.ofInt a1)), some (.int (Int32.ofInt a2)), none, none]) (st1 := [.ref 0]) (H1 := mz_mk g x) rfl ?_
  refine mz_fgR (v := 86) rfl fd_11_37 (by decide) (sc_0 _) (rf_0_5 _ _ _) ?_
  refine mz_fgR (v := 87) rfl fd_11_158 (by decide) (sc_86 _) (rf_86_0 _ _ _) ?_
  refine mm_g 1 (pc1 := 16) (lo1 := [some (.ref 0), some (.int (Int32.ofInt a1)), some (.int (Int32.ofInt a2)), none, none]) (st1 := [.int (Int32.ofInt a1), .ref 87]) (H1 := mz_mk g x) rfl ?_
  refine mz_cv rfl mt_11_192 (by decide) (sc_87 _) rfl (Nat.le_of_ble_eq_true rfl) (by omega) (f_X9_get (by omega) hx hI kp_tks_87 l_a1 u_a1 (fun u5 k_u5 hp6 hc7 => ⟨_, rfl, ?_⟩))
  show mm_W d mmX11_draw 19 [some (.ref 0), some (.int (Int32.ofInt a1)), some (.int (Int32.ofInt a2)), none, none] [.ref u5] (mz_mk g x) Q
  replace hE := zf_t1 hE hc7
  refine mm_g 2 (pc1 := 21) (lo1 := [some (.ref 0), some (.int (Int32.ofInt a1)), some (.int (Int32.ofInt a2)), some (.ref u5), none]) (st1 := [.int (Int32.ofInt a2)]) (H1 := mz_mk g x) rfl ?_
  refine mz_if_lt (tgt := 38) rfl rfl (mz_rg l_a2 u_a2) (fun c21_7 => ?_) (fun c21_7 => ?_)
  · skip
    replace hE := zf_ip hE c21_7
    refine mm_g 1 (pc1 := 39) (lo1 := [some (.ref 0), some (.int (Int32.ofInt a1)), some (.int (Int32.ofInt a2)), some (.ref u5), none]) (st1 := [.ref 0]) (H1 := mz_mk g x) rfl ?_
    refine mz_fgR (v := 86) rfl fd_11_37 (by decide) (sc_0 _) (rf_0_5 _ _ _) ?_
    refine mm_g 1 (pc1 := 43) (lo1 := [some (.ref 0), some (.int (Int32.ofInt a1)), some (.int (Int32.ofInt a2)), some (.ref u5), none]) (st1 := [.int (Int32.ofInt 1), .ref 86]) (H1 := mz_mk g x) rfl ?_
    refine mz_cv rfl mt_11_131 (by decide) (sc_86 _) rfl (Nat.le_of_ble_eq_true rfl) (by omega) (f_X6_refuse (by omega) hx hI kp_story_86 (by decide) (by decide) (fun v8 g9 hIg9 hfg9 l_v8 u_v8 hc10 => ⟨_, rfl, ?_⟩))
    show mm_W d mmX11_draw 46 [some (.ref 0), some (.int (Int32.ofInt a1)), some (.int (Int32.ofInt a2)), some (.ref u5), none] [.int (Int32.ofInt v8)] (mz_mk g9 x) Q
    replace hE := zf_t2 hE hc10
    exact mm_rt rfl rfl (hQ _ _ hIg9 (fun k j hk => (hfg9 k j (fun h => hk (Or.inl h)))) (by omega) (by omega) hE)
  · skip
    replace hE := zf_nl hE c21_7
    refine mm_g 1 (pc1 := 25) (lo1 := [some (.ref 0), some (.int (Int32.ofInt a1)), some (.int (Int32.ofInt a2)), some (.ref u5), none]) (st1 := [.int (Int32.ofInt a2)]) (H1 := mz_mk g x) rfl ?_
    refine mz_bip rfl bip_9 ?_
    refine mz_ic_gt (tgt := 38) rfl rfl (mz_rg l_a2 u_a2) ⟨by decide, by decide⟩ (fun c27_10 => ?_) (fun c27_10 => ?_)
    · skip
      replace hE := zf_ip hE c27_10
      refine mm_g 1 (pc1 := 39) (lo1 := [some (.ref 0), some (.int (Int32.ofInt a1)), some (.int (Int32.ofInt a2)), some (.ref u5), none]) (st1 := [.ref 0]) (H1 := mz_mk g x) rfl ?_
      refine mz_fgR (v := 86) rfl fd_11_37 (by decide) (sc_0 _) (rf_0_5 _ _ _) ?_
      refine mm_g 1 (pc1 := 43) (lo1 := [some (.ref 0), some (.int (Int32.ofInt a1)), some (.int (Int32.ofInt a2)), some (.ref u5), none]) (st1 := [.int (Int32.ofInt 1), .ref 86]) (H1 := mz_mk g x) rfl ?_
      refine mz_cv rfl mt_11_131 (by decide) (sc_86 _) rfl (Nat.le_of_ble_eq_true rfl) (by omega) (f_X6_refuse (by omega) hx hI kp_story_86 (by decide) (by decide) (fun v11 g12 hIg12 hfg12 l_v11 u_v11 hc13 => ⟨_, rfl, ?_⟩))
      show mm_W d mmX11_draw 46 [some (.ref 0), some (.int (Int32.ofInt a1)), some (.int (Int32.ofInt a2)), some (.ref u5), none] [.int (Int32.ofInt v11)] (mz_mk g12 x) Q
      replace hE := zf_t2 hE hc13
      exact mm_rt rfl rfl (hQ _ _ hIg12 (fun k j hk => (hfg12 k j (fun h => hk (Or.inl h)))) (by omega) (by omega) hE)
    · skip
      replace hE := zf_nl hE c27_10
      refine mm_g 2 (pc1 := 32) (lo1 := [some (.ref 0), some (.int (Int32.ofInt a1)), some (.int (Int32.ofInt a2)), some (.ref u5), none]) (st1 := [.ref u5, .int (Int32.ofInt a2)]) (H1 := mz_mk g x) rfl ?_
      refine mz_gI rfl fd_11_234 (by decide) (kc_trunk k_u5 _) hI (kb_trunk_2 k_u5) (fun v14 e_v14 l_v14 u_v14 => ?_)
      replace hE := zf_tr hE (zf_le e_v14)
      refine mz_ic_ne (tgt := 47) rfl rfl (mz_rg l_a2 u_a2) (mz_rg l_v14 u_v14) (fun c35_14 => ?_) (fun c35_14 => ?_)
      · skip
        replace hE := zf_in hE c35_14
        refine mm_g 1 (pc1 := 48) (lo1 := [some (.ref 0), some (.int (Int32.ofInt a1)), some (.int (Int32.ofInt a2)), some (.ref u5), none]) (st1 := [.ref 0]) (H1 := mz_mk g x) rfl ?_
        refine mz_fgR (v := 86) rfl fd_11_37 (by decide) (sc_0 _) (rf_0_5 _ _ _) ?_
        refine mz_cv rfl mt_11_253 (by decide) (sc_86 _) rfl (Nat.le_of_ble_eq_true rfl) (by omega) (f_X6_keepAct (by omega) hx hI kp_story_86 (fun g15 hIg15 hfg15 hc16 => ⟨_, rfl, ?_⟩))
        show mm_W d mmX11_draw 54 [some (.ref 0), some (.int (Int32.ofInt a1)), some (.int (Int32.ofInt a2)), some (.ref u5), none] [] (mz_mk g15 x) Q
        replace hE := zf_t1 hE hc16
        refine mm_g 1 (pc1 := 55) (lo1 := [some (.ref 0), some (.int (Int32.ofInt a1)), some (.int (Int32.ofInt a2)), some (.ref u5), none]) (st1 := [.ref u5]) (H1 := mz_mk g15 x) rfl ?_
        refine mz_gI rfl fd_11_234 (by decide) (kc_trunk k_u5 _) hIg15 (kb_trunk_2 k_u5) (fun v17 e_v17 l_v17 u_v17 => ?_)
        replace hE := zf_tr hE (zf_le e_v17)
        refine mm_g 3 (pc1 := 62) (lo1 := [some (.ref 0), some (.int (Int32.ofInt a1)), some (.int (Int32.ofInt a2)), some (.ref u5), some (.int (Int32.ofInt v17))]) (st1 := [.int (Int32.ofInt a2), .ref u5]) (H1 := mz_mk g15 x) rfl ?_
        refine mz_pI rfl fd_11_234 (kc_trunk k_u5 _) hIg15 (kb_trunk_2 k_u5) (by omega) (by omega) (fun g18 hIg18 hug18 => ?_)
        replace hE := zf_tr hE (zf_lg hug18)
        refine mm_g 1 (pc1 := 67) (lo1 := [some (.ref 0), some (.int (Int32.ofInt a1)), some (.int (Int32.ofInt a2)), some (.ref u5), some (.int (Int32.ofInt v17))]) (st1 := [.int (Int32.ofInt v17)]) (H1 := mz_mk g18 x) rfl ?_
        exact mm_rt rfl rfl (hQ _ _ hIg18 (fun k j hk => ((hug18.2 k j (fun h => hk (Or.inr (Or.inr (Or.inr (show (87 ≤ k ∧ k < 96) by have h9 : k = u5 ∧ j = 2 := h; omega)))))).trans (hfg15 k j (fun h => hk (Or.elim h (fun h => (Or.inr (Or.inl h))) (fun h => (Or.inr (Or.inr (Or.inl h))))))))) (by omega) (by omega) hE)
      · skip
        replace hE := zf_ip hE c35_14
        refine mm_g 1 (pc1 := 39) (lo1 := [some (.ref 0), some (.int (Int32.ofInt a1)), some (.int (Int32.ofInt a2)), some (.ref u5), none]) (st1 := [.ref 0]) (H1 := mz_mk g x) rfl ?_
        refine mz_fgR (v := 86) rfl fd_11_37 (by decide) (sc_0 _) (rf_0_5 _ _ _) ?_
        refine mm_g 1 (pc1 := 43) (lo1 := [some (.ref 0), some (.int (Int32.ofInt a1)), some (.int (Int32.ofInt a2)), some (.ref u5), none]) (st1 := [.int (Int32.ofInt 1), .ref 86]) (H1 := mz_mk g x) rfl ?_
        refine mz_cv rfl mt_11_131 (by decide) (sc_86 _) rfl (Nat.le_of_ble_eq_true rfl) (by omega) (f_X6_refuse (by omega) hx hI kp_story_86 (by decide) (by decide) (fun v19 g20 hIg20 hfg20 l_v19 u_v19 hc21 => ⟨_, rfl, ?_⟩))
        show mm_W d mmX11_draw 46 [some (.ref 0), some (.int (Int32.ofInt a1)), some (.int (Int32.ofInt a2)), some (.ref u5), none] [.int (Int32.ofInt v19)] (mz_mk g20 x) Q
        replace hE := zf_t2 hE hc21
        exact mm_rt rfl rfl (hQ _ _ hIg20 (fun k j hk => (hfg20 k j (fun h => hk (Or.inl h)))) (by omega) (by omega) hE)
def fw_X11_pull (x : mm_X) (a1 : Int) (a2 : Int) : Nat → Nat → Prop := fun k j => k = 100 ∨ k = 96 ∨ k = 86 ∨ (87 ≤ k ∧ k < 96)
theorem f_X11_pull {d : Nat} (hd : 14 ≤ d) {x : mm_X} (hx : mk_x x) {g : mz_G} (hI : mz_inv g) {a1 : Int} (l_a1 : (-2147483648) ≤ a1) (u_a1 : a1 ≤ 2147483647) {a2 : Int} (l_a2 : (-2147483648) ≤ a2) (u_a2 : a2 ≤ 2147483647) {Q : (Option Value ⊕ Nat) → mm_H → Prop} (hQ : ∀ (r : Int) (g1 : mz_G), mz_inv g1 → mz_fr (fw_X11_pull x a1 a2) g g1 → (-1) ≤ r → r ≤ 2147483647 → zf_E (zF_X11_pull x a1 a2 g) ((0, r, g1)) → Q (.inl (some (.int (Int32.ofInt r)))) (mz_mk g1 x)) (hX0 : (zf_E (zF_X11_pull x a1 a2 g) ((1, 0, g))) → Q (.inr 0) (mz_mk g (mz_tx x))) : mm_C d 135 [.ref 0, .int (Int32.ofInt a1), .int (Int32.ofInt a2)] (mz_mk g x) Q := by
  have kx := kn_x hx
  refine ⟨mmX11_pull, [some (.ref 0), some (.int (Int32.ofInt a1)), some (.int (Int32.ofInt a2)), none], rfl, rfl, ?_⟩
  have hE : zf_E (zF_X11_pull x a1 a2 g) (zF_X11_pull x a1 a2 g) := zf_rf
  refine mm_g 2 (pc1 := 2) (lo1 := [some (.ref 0), some (.int (Int32.ofInt a1)), some (.int (Int32.ofInt a2)), none]) (st1 := [.int (Int32.ofInt a1), .ref 0]) (H1 := mz_mk g x) rfl ?_
  refine mz_cv rfl mt_11_231 (by decide) (sc_0 _) rfl (Nat.le_of_ble_eq_true rfl) (by omega) (f_X11_isTrunk (by omega) hx hI l_a1 u_a1 (fun v1 l_v1 u_v1 hc2 => ⟨_, rfl, ?_⟩))
  show mm_W d mmX11_pull 5 [some (.ref 0), some (.int (Int32.ofInt a1)), some (.int (Int32.ofInt a2)), none] [.int (Int32.ofInt v1)] (mz_mk g x) Q
  replace hE := zf_t1 hE hc2
  (try unfold zJ_X11_pull_56 at hE)
  (try unfold zJ_X11_pull_56 at hE)
  refine mz_csx rfl mt_11_183 rfl (Nat.le_of_ble_eq_true rfl) (by omega) rfl nh_X11_mustBe (f_X11_mustBe (by omega) hx hI l_v1 u_v1 (fun hp3 hc4 => ?_) (fun hc => hX0 (zf_x2 hE hc (by decide))))
  show mm_W d mmX11_pull 8 [some (.ref 0), some (.int (Int32.ofInt a1)), some (.int (Int32.ofInt a2)), none] [] (mz_mk g x) Q
  replace hE := zf_x1 hE hc4
  refine mm_g 1 (pc1 := 9) (lo1 := [some (.ref 0), some (.int (Int32.ofInt a1)), some (.int (Int32.ofInt a2)), none]) (st1 := [.ref 0]) (H1 := mz_mk g x) rfl ?_
  refine mz_fgR (v := 86) rfl fd_11_37 (by decide) (sc_0 _) (rf_0_5 _ _ _) ?_
  refine mz_fgR (v := 87) rfl fd_11_158 (by decide) (sc_86 _) (rf_86_0 _ _ _) ?_
  refine mm_g 1 (pc1 := 16) (lo1 := [some (.ref 0), some (.int (Int32.ofInt a1)), some (.int (Int32.ofInt a2)), none]) (st1 := [.int (Int32.ofInt a1), .ref 87]) (H1 := mz_mk g x) rfl ?_
  refine mz_cv rfl mt_11_192 (by decide) (sc_87 _) rfl (Nat.le_of_ble_eq_true rfl) (by omega) (f_X9_get (by omega) hx hI kp_tks_87 l_a1 u_a1 (fun u5 k_u5 hp6 hc7 => ⟨_, rfl, ?_⟩))
  show mm_W d mmX11_pull 19 [some (.ref 0), some (.int (Int32.ofInt a1)), some (.int (Int32.ofInt a2)), none] [.ref u5] (mz_mk g x) Q
  replace hE := zf_t1 hE hc7
  refine mm_g 3 (pc1 := 22) (lo1 := [some (.ref 0), some (.int (Int32.ofInt a1)), some (.int (Int32.ofInt a2)), some (.ref u5)]) (st1 := [.int (Int32.ofInt 1), .int (Int32.ofInt a2)]) (H1 := mz_mk g x) rfl ?_
  refine mz_ic_lt (tgt := 56) rfl rfl (mz_rg l_a2 u_a2) ⟨by decide, by decide⟩ (fun c22_7 => ?_) (fun c22_7 => ?_)
  · skip
    replace hE := zf_ip hE c22_7
    refine mm_g 1 (pc1 := 57) (lo1 := [some (.ref 0), some (.int (Int32.ofInt a1)), some (.int (Int32.ofInt a2)), some (.ref u5)]) (st1 := [.ref 0]) (H1 := mz_mk g x) rfl ?_
    refine mz_fgR (v := 86) rfl fd_11_37 (by decide) (sc_0 _) (rf_0_5 _ _ _) ?_
    refine mm_g 1 (pc1 := 61) (lo1 := [some (.ref 0), some (.int (Int32.ofInt a1)), some (.int (Int32.ofInt a2)), some (.ref u5)]) (st1 := [.int (Int32.ofInt 1), .ref 86]) (H1 := mz_mk g x) rfl ?_
    refine mz_cv rfl mt_11_131 (by decide) (sc_86 _) rfl (Nat.le_of_ble_eq_true rfl) (by omega) (f_X6_refuse (by omega) hx hI kp_story_86 (by decide) (by decide) (fun v8 g9 hIg9 hfg9 l_v8 u_v8 hc10 => ⟨_, rfl, ?_⟩))
    show mm_W d mmX11_pull 64 [some (.ref 0), some (.int (Int32.ofInt a1)), some (.int (Int32.ofInt a2)), some (.ref u5)] [.int (Int32.ofInt v8)] (mz_mk g9 x) Q
    replace hE := zf_t2 hE hc10
    exact mm_rt rfl rfl (hQ _ _ hIg9 (fun k j hk => (hfg9 k j (fun h => hk (Or.inl h)))) (by omega) (by omega) hE)
  · skip
    replace hE := zf_nl hE c22_7
    refine mm_g 1 (pc1 := 26) (lo1 := [some (.ref 0), some (.int (Int32.ofInt a1)), some (.int (Int32.ofInt a2)), some (.ref u5)]) (st1 := [.int (Int32.ofInt a2)]) (H1 := mz_mk g x) rfl ?_
    refine mz_bip rfl bip_9 ?_
    refine mz_ic_gt (tgt := 56) rfl rfl (mz_rg l_a2 u_a2) ⟨by decide, by decide⟩ (fun c28_10 => ?_) (fun c28_10 => ?_)
    · skip
      replace hE := zf_ip hE c28_10
      refine mm_g 1 (pc1 := 57) (lo1 := [some (.ref 0), some (.int (Int32.ofInt a1)), some (.int (Int32.ofInt a2)), some (.ref u5)]) (st1 := [.ref 0]) (H1 := mz_mk g x) rfl ?_
      refine mz_fgR (v := 86) rfl fd_11_37 (by decide) (sc_0 _) (rf_0_5 _ _ _) ?_
      refine mm_g 1 (pc1 := 61) (lo1 := [some (.ref 0), some (.int (Int32.ofInt a1)), some (.int (Int32.ofInt a2)), some (.ref u5)]) (st1 := [.int (Int32.ofInt 1), .ref 86]) (H1 := mz_mk g x) rfl ?_
      refine mz_cv rfl mt_11_131 (by decide) (sc_86 _) rfl (Nat.le_of_ble_eq_true rfl) (by omega) (f_X6_refuse (by omega) hx hI kp_story_86 (by decide) (by decide) (fun v11 g12 hIg12 hfg12 l_v11 u_v11 hc13 => ⟨_, rfl, ?_⟩))
      show mm_W d mmX11_pull 64 [some (.ref 0), some (.int (Int32.ofInt a1)), some (.int (Int32.ofInt a2)), some (.ref u5)] [.int (Int32.ofInt v11)] (mz_mk g12 x) Q
      replace hE := zf_t2 hE hc13
      exact mm_rt rfl rfl (hQ _ _ hIg12 (fun k j hk => (hfg12 k j (fun h => hk (Or.inl h)))) (by omega) (by omega) hE)
    · skip
      replace hE := zf_nl hE c28_10
      refine mm_g 1 (pc1 := 32) (lo1 := [some (.ref 0), some (.int (Int32.ofInt a1)), some (.int (Int32.ofInt a2)), some (.ref u5)]) (st1 := [.ref u5]) (H1 := mz_mk g x) rfl ?_
      refine mz_gI rfl fd_11_237 (by decide) (kc_trunk k_u5 _) hI (kb_trunk_3 k_u5) (fun v14 e_v14 l_v14 u_v14 => ?_)
      replace hE := zf_tr hE (zf_le e_v14)
      refine mz_if_eq (tgt := 56) rfl rfl (mz_rg l_v14 u_v14) (fun c35_14 => ?_) (fun c35_14 => ?_)
      · skip
        replace hE := zf_ip hE c35_14
        refine mm_g 1 (pc1 := 57) (lo1 := [some (.ref 0), some (.int (Int32.ofInt a1)), some (.int (Int32.ofInt a2)), some (.ref u5)]) (st1 := [.ref 0]) (H1 := mz_mk g x) rfl ?_
        refine mz_fgR (v := 86) rfl fd_11_37 (by decide) (sc_0 _) (rf_0_5 _ _ _) ?_
        refine mm_g 1 (pc1 := 61) (lo1 := [some (.ref 0), some (.int (Int32.ofInt a1)), some (.int (Int32.ofInt a2)), some (.ref u5)]) (st1 := [.int (Int32.ofInt 1), .ref 86]) (H1 := mz_mk g x) rfl ?_
        refine mz_cv rfl mt_11_131 (by decide) (sc_86 _) rfl (Nat.le_of_ble_eq_true rfl) (by omega) (f_X6_refuse (by omega) hx hI kp_story_86 (by decide) (by decide) (fun v15 g16 hIg16 hfg16 l_v15 u_v15 hc17 => ⟨_, rfl, ?_⟩))
        show mm_W d mmX11_pull 64 [some (.ref 0), some (.int (Int32.ofInt a1)), some (.int (Int32.ofInt a2)), some (.ref u5)] [.int (Int32.ofInt v15)] (mz_mk g16 x) Q
        replace hE := zf_t2 hE hc17
        exact mm_rt rfl rfl (hQ _ _ hIg16 (fun k j hk => (hfg16 k j (fun h => hk (Or.inl h)))) (by omega) (by omega) hE)
      · skip
        replace hE := zf_in hE c35_14
        refine mm_g 1 (pc1 := 39) (lo1 := [some (.ref 0), some (.int (Int32.ofInt a1)), some (.int (Int32.ofInt a2)), some (.ref u5)]) (st1 := [.ref 0]) (H1 := mz_mk g x) rfl ?_
        refine mz_fgR (v := x.1) rfl fd_11_16 (by decide) (sc_0 _) rfl ?_
        refine mm_g 1 (pc1 := 43) (lo1 := [some (.ref 0), some (.int (Int32.ofInt a1)), some (.int (Int32.ofInt a2)), some (.ref u5)]) (st1 := [.ref u5, .ref x.1]) (H1 := mz_mk g x) rfl ?_
        refine mz_cv rfl mt_11_259 (by decide) (kc_load (kx_1 hx) _) rfl (Nat.le_of_ble_eq_true rfl) (by omega) (f_X1_isFull (by omega) hx hI (kx_1 hx) k_u5 (fun v18 l_v18 u_v18 hc19 => ⟨_, rfl, ?_⟩))
        show mm_W d mmX11_pull 46 [some (.ref 0), some (.int (Int32.ofInt a1)), some (.int (Int32.ofInt a2)), some (.ref u5)] [.int (Int32.ofInt v18)] (mz_mk g x) Q
        replace hE := zf_t1 hE hc19
        refine mz_if_ne (tgt := 56) rfl rfl (mz_rg l_v18 u_v18) (fun c46_19 => ?_) (fun c46_19 => ?_)
        · skip
          replace hE := zf_in hE c46_19
          refine mm_g 1 (pc1 := 57) (lo1 := [some (.ref 0), some (.int (Int32.ofInt a1)), some (.int (Int32.ofInt a2)), some (.ref u5)]) (st1 := [.ref 0]) (H1 := mz_mk g x) rfl ?_
          refine mz_fgR (v := 86) rfl fd_11_37 (by decide) (sc_0 _) (rf_0_5 _ _ _) ?_
          refine mm_g 1 (pc1 := 61) (lo1 := [some (.ref 0), some (.int (Int32.ofInt a1)), some (.int (Int32.ofInt a2)), some (.ref u5)]) (st1 := [.int (Int32.ofInt 1), .ref 86]) (H1 := mz_mk g x) rfl ?_
          refine mz_cv rfl mt_11_131 (by decide) (sc_86 _) rfl (Nat.le_of_ble_eq_true rfl) (by omega) (f_X6_refuse (by omega) hx hI kp_story_86 (by decide) (by decide) (fun v20 g21 hIg21 hfg21 l_v20 u_v20 hc22 => ⟨_, rfl, ?_⟩))
          show mm_W d mmX11_pull 64 [some (.ref 0), some (.int (Int32.ofInt a1)), some (.int (Int32.ofInt a2)), some (.ref u5)] [.int (Int32.ofInt v20)] (mz_mk g21 x) Q
          replace hE := zf_t2 hE hc22
          exact mm_rt rfl rfl (hQ _ _ hIg21 (fun k j hk => (hfg21 k j (fun h => hk (Or.inl h)))) (by omega) (by omega) hE)
        · skip
          replace hE := zf_ip hE c46_19
          refine mm_g 1 (pc1 := 50) (lo1 := [some (.ref 0), some (.int (Int32.ofInt a1)), some (.int (Int32.ofInt a2)), some (.ref u5)]) (st1 := [.ref u5]) (H1 := mz_mk g x) rfl ?_
          refine mz_gI rfl fd_11_196 (by decide) (kc_trunk k_u5 _) hI (kb_trunk_4 k_u5) (fun v23 e_v23 l_v23 u_v23 => ?_)
          replace hE := zf_tr hE (zf_le e_v23)
          refine mz_if_eq (tgt := 65) rfl rfl (mz_rg l_v23 u_v23) (fun c53_23 => ?_) (fun c53_23 => ?_)
          · skip
            replace hE := zf_ip hE c53_23
            refine mm_g 1 (pc1 := 66) (lo1 := [some (.ref 0), some (.int (Int32.ofInt a1)), some (.int (Int32.ofInt a2)), some (.ref u5)]) (st1 := [.ref 0]) (H1 := mz_mk g x) rfl ?_
            refine mz_fgR (v := 86) rfl fd_11_37 (by decide) (sc_0 _) (rf_0_5 _ _ _) ?_
            refine mz_cv rfl mt_11_253 (by decide) (sc_86 _) rfl (Nat.le_of_ble_eq_true rfl) (by omega) (f_X6_keepAct (by omega) hx hI kp_story_86 (fun g24 hIg24 hfg24 hc25 => ⟨_, rfl, ?_⟩))
            show mm_W d mmX11_pull 72 [some (.ref 0), some (.int (Int32.ofInt a1)), some (.int (Int32.ofInt a2)), some (.ref u5)] [] (mz_mk g24 x) Q
            replace hE := zf_t1 hE hc25
            refine mm_g 3 (pc1 := 75) (lo1 := [some (.ref 0), some (.int (Int32.ofInt a1)), some (.int (Int32.ofInt a2)), some (.ref u5)]) (st1 := [.ref u5, .int (Int32.ofInt 0), .ref u5]) (H1 := mz_mk g24 x) rfl ?_
            refine mz_gI rfl fd_11_237 (by decide) (kc_trunk k_u5 _) hIg24 (kb_trunk_3 k_u5) (fun v26 e_v26 l_v26 u_v26 => ?_)
            replace hE := zf_tr hE (zf_le e_v26)
            refine mm_g 1 (pc1 := 79) (lo1 := [some (.ref 0), some (.int (Int32.ofInt a1)), some (.int (Int32.ofInt a2)), some (.ref u5)]) (st1 := [.int (Int32.ofInt a2), .int (Int32.ofInt v26), .int (Int32.ofInt 0), .ref u5]) (H1 := mz_mk g24 x) rfl ?_
            refine mz_isub_w rfl (fun v27 e_v27 hwv27 => ?_)
            have l_v27 := hwv27.1
            have u_v27 := hwv27.2
            replace hE := zf_tr hE (zf_le e_v27.symm)
            refine mz_mx rfl mt_11_263 (Nat.le_of_ble_eq_true rfl) (by omega) ⟨by decide, by decide⟩ (mz_rg l_v27 u_v27) (fun v28 e_v28 => ?_)
            have l_v28 : 0 ≤ v28 := by omega
            have u_v28 : v28 ≤ 2147483647 := by omega
            replace hE := zf_tr hE (zf_le e_v28.symm)
            refine mz_pI rfl fd_11_237 (kc_trunk k_u5 _) hIg24 (kb_trunk_3 k_u5) (by omega) (by omega) (fun g29 hIg29 hug29 => ?_)
            replace hE := zf_tr hE (zf_lg hug29)
            refine mm_g 1 (pc1 := 87) (lo1 := [some (.ref 0), some (.int (Int32.ofInt a1)), some (.int (Int32.ofInt a2)), some (.ref u5)]) (st1 := [.ref u5]) (H1 := mz_mk g29 x) rfl ?_
            refine mz_fgI (v := v28) rfl fd_11_237 (by decide) (kc_trunk k_u5 _) (show g29 u5 3 = v28 from hug29.1) ?_
            replace hE := zf_tr hE (zf_le (show g29 u5 3 = v28 from hug29.1))
            exact mm_rt rfl rfl (hQ _ _ hIg29 (fun k j hk => ((hug29.2 k j (fun h => hk (Or.inr (Or.inr (Or.inr (show (87 ≤ k ∧ k < 96) by have h9 : k = u5 ∧ j = 3 := h; omega)))))).trans (hfg24 k j (fun h => hk (Or.elim h (fun h => (Or.inr (Or.inl h))) (fun h => (Or.inr (Or.inr (Or.inl h))))))))) (by omega) (by omega) hE)
          · skip
            replace hE := zf_in hE c53_23
            refine mm_g 1 (pc1 := 57) (lo1 := [some (.ref 0), some (.int (Int32.ofInt a1)), some (.int (Int32.ofInt a2)), some (.ref u5)]) (st1 := [.ref 0]) (H1 := mz_mk g x) rfl ?_
            refine mz_fgR (v := 86) rfl fd_11_37 (by decide) (sc_0 _) (rf_0_5 _ _ _) ?_
            refine mm_g 1 (pc1 := 61) (lo1 := [some (.ref 0), some (.int (Int32.ofInt a1)), some (.int (Int32.ofInt a2)), some (.ref u5)]) (st1 := [.int (Int32.ofInt 1), .ref 86]) (H1 := mz_mk g x) rfl ?_
            refine mz_cv rfl mt_11_131 (by decide) (sc_86 _) rfl (Nat.le_of_ble_eq_true rfl) (by omega) (f_X6_refuse (by omega) hx hI kp_story_86 (by decide) (by decide) (fun v30 g31 hIg31 hfg31 l_v30 u_v30 hc32 => ⟨_, rfl, ?_⟩))
            show mm_W d mmX11_pull 64 [some (.ref 0), some (.int (Int32.ofInt a1)), some (.int (Int32.ofInt a2)), some (.ref u5)] [.int (Int32.ofInt v30)] (mz_mk g31 x) Q
            replace hE := zf_t2 hE hc32
            exact mm_rt rfl rfl (hQ _ _ hIg31 (fun k j hk => (hfg31 k j (fun h => hk (Or.inl h)))) (by omega) (by omega) hE)
def fw_X8_turnRound (x : mm_X) (q0 : Nat) : Nat → Nat → Prop := fun k j => k = q0
theorem f_X8_turnRound {d : Nat} (hd : 1 ≤ d) {x : mm_X} (hx : mk_x x) {g : mz_G} (hI : mz_inv g) {q0 : Nat} (h_q0 : kd_trunk q0) {Q : (Option Value ⊕ Nat) → mm_H → Prop} (hQ : ∀ (g1 : mz_G), mz_inv g1 → mz_fr (fw_X8_turnRound x q0) g g1 → zf_E (zF_X8_turnRound q0 g) (g1) → Q (.inl none) (mz_mk g1 x)) : mm_C d 96 [.ref q0] (mz_mk g x) Q := by
  have kn_q0 := kn_trunk h_q0
  refine ⟨mmX8_turnRound, [some (.ref q0), none], rfl, rfl, ?_⟩
  have hE : zf_E (zF_X8_turnRound q0 g) (zF_X8_turnRound q0 g) := zf_rf
  refine mm_g 1 (pc1 := 1) (lo1 := [some (.ref q0), none]) (st1 := [.ref q0]) (H1 := mz_mk g x) rfl ?_
  refine mz_gI rfl fd_8_7 (by decide) (kc_trunk h_q0 _) hI (kb_trunk_0 h_q0) (fun v1 e_v1 l_v1 u_v1 => ?_)
  replace hE := zf_tr hE (zf_le e_v1)
  refine mm_g 3 (pc1 := 7) (lo1 := [some (.ref q0), some (.int (Int32.ofInt v1))]) (st1 := [.ref q0, .ref q0]) (H1 := mz_mk g x) rfl ?_
  refine mz_gI rfl fd_8_13 (by decide) (kc_trunk h_q0 _) hI (kb_trunk_1 h_q0) (fun v2 e_v2 l_v2 u_v2 => ?_)
  replace hE := zf_tr hE (zf_le e_v2)
  refine mz_pI rfl fd_8_7 (kc_trunk h_q0 _) hI (kb_trunk_0 h_q0) (by omega) (by omega) (fun g3 hIg3 hug3 => ?_)
  replace hE := zf_tr hE (zf_lg hug3)
  refine mm_g 2 (pc1 := 15) (lo1 := [some (.ref q0), some (.int (Int32.ofInt v1))]) (st1 := [.int (Int32.ofInt v1), .ref q0]) (H1 := mz_mk g3 x) rfl ?_
  refine mz_pI rfl fd_8_13 (kc_trunk h_q0 _) hIg3 (kb_trunk_1 h_q0) (by omega) (by omega) (fun g4 hIg4 hug4 => ?_)
  replace hE := zf_tr hE (zf_lg hug4)
  refine mm_g 2 (pc1 := 20) (lo1 := [some (.ref q0), some (.int (Int32.ofInt v1))]) (st1 := [.int (Int32.ofInt 0), .ref q0]) (H1 := mz_mk g4 x) rfl ?_
  refine mz_pI rfl fd_8_19 (kc_trunk h_q0 _) hIg4 (kb_trunk_3 h_q0) (by omega) (by omega) (fun g5 hIg5 hug5 => ?_)
  replace hE := zf_tr hE (zf_lg hug5)
  exact mm_rt rfl rfl (hQ _ hIg5 (fun k j hk => ((hug5.2 k j (fun h => hk h.1)).trans ((hug4.2 k j (fun h => hk h.1)).trans (hug3.2 k j (fun h => hk h.1))))) hE)
def fw_X11_turn (x : mm_X) (a1 : Int) : Nat → Nat → Prop := fun k j => k = 96 ∨ k = 86 ∨ (87 ≤ k ∧ k < 96)
theorem f_X11_turn {d : Nat} (hd : 13 ≤ d) {x : mm_X} (hx : mk_x x) {g : mz_G} (hI : mz_inv g) {a1 : Int} (l_a1 : (-2147483648) ≤ a1) (u_a1 : a1 ≤ 2147483647) {Q : (Option Value ⊕ Nat) → mm_H → Prop} (hQ : ∀ (r : Int) (g1 : mz_G), mz_inv g1 → mz_fr (fw_X11_turn x a1) g g1 → (-2147483648) ≤ r → r ≤ 2147483647 → zf_E (zF_X11_turn x a1 g) ((0, r, g1)) → Q (.inl (some (.int (Int32.ofInt r)))) (mz_mk g1 x)) (hX0 : (zf_E (zF_X11_turn x a1 g) ((1, 0, g))) → Q (.inr 0) (mz_mk g (mz_tx x))) : mm_C d 136 [.ref 0, .int (Int32.ofInt a1)] (mz_mk g x) Q := by
  have kx := kn_x hx
  refine ⟨mmX11_turn, [some (.ref 0), some (.int (Int32.ofInt a1)), none, none], rfl, rfl, ?_⟩
  have hE : zf_E (zF_X11_turn x a1 g) (zF_X11_turn x a1 g) := zf_rf
  refine mm_g 2 (pc1 := 2) (lo1 := [some (.ref 0), some (.int (Int32.ofInt a1)), none, none]) (st1 := [.int (Int32.ofInt a1), .ref 0]) (H1 := mz_mk g x) rfl ?_
  refine mz_cv rfl mt_11_231 (by decide) (sc_0 _) rfl (Nat.le_of_ble_eq_true rfl) (by omega) (f_X11_isTrunk (by omega) hx hI l_a1 u_a1 (fun v1 l_v1 u_v1 hc2 => ⟨_, rfl, ?_⟩))
  show mm_W d mmX11_turn 5 [some (.ref 0), some (.int (Int32.ofInt a1)), none, none] [.int (Int32.ofInt v1)] (mz_mk g x) Q
  replace hE := zf_t1 hE hc2
  refine mz_csx rfl mt_11_183 rfl (Nat.le_of_ble_eq_true rfl) (by omega) rfl nh_X11_mustBe (f_X11_mustBe (by omega) hx hI l_v1 u_v1 (fun hp3 hc4 => ?_) (fun hc => hX0 (zf_x2 hE hc (by decide))))
  show mm_W d mmX11_turn 8 [some (.ref 0), some (.int (Int32.ofInt a1)), none, none] [] (mz_mk g x) Q
  replace hE := zf_x1 hE hc4
  refine mm_g 1 (pc1 := 9) (lo1 := [some (.ref 0), some (.int (Int32.ofInt a1)), none, none]) (st1 := [.ref 0]) (H1 := mz_mk g x) rfl ?_
  refine mz_fgR (v := 86) rfl fd_11_37 (by decide) (sc_0 _) (rf_0_5 _ _ _) ?_
  refine mz_fgR (v := 87) rfl fd_11_158 (by decide) (sc_86 _) (rf_86_0 _ _ _) ?_
  refine mm_g 1 (pc1 := 16) (lo1 := [some (.ref 0), some (.int (Int32.ofInt a1)), none, none]) (st1 := [.int (Int32.ofInt a1), .ref 87]) (H1 := mz_mk g x) rfl ?_
  refine mz_cv rfl mt_11_192 (by decide) (sc_87 _) rfl (Nat.le_of_ble_eq_true rfl) (by omega) (f_X9_get (by omega) hx hI kp_tks_87 l_a1 u_a1 (fun u5 k_u5 hp6 hc7 => ⟨_, rfl, ?_⟩))
  show mm_W d mmX11_turn 19 [some (.ref 0), some (.int (Int32.ofInt a1)), none, none] [.ref u5] (mz_mk g x) Q
  replace hE := zf_t1 hE hc7
  refine mm_g 2 (pc1 := 21) (lo1 := [some (.ref 0), some (.int (Int32.ofInt a1)), some (.ref u5), none]) (st1 := [.ref 0]) (H1 := mz_mk g x) rfl ?_
  refine mz_fgR (v := 86) rfl fd_11_37 (by decide) (sc_0 _) (rf_0_5 _ _ _) ?_
  refine mz_cv rfl mt_11_253 (by decide) (sc_86 _) rfl (Nat.le_of_ble_eq_true rfl) (by omega) (f_X6_keepAct (by omega) hx hI kp_story_86 (fun g8 hIg8 hfg8 hc9 => ⟨_, rfl, ?_⟩))
  show mm_W d mmX11_turn 27 [some (.ref 0), some (.int (Int32.ofInt a1)), some (.ref u5), none] [] (mz_mk g8 x) Q
  replace hE := zf_t1 hE hc9
  refine mm_g 1 (pc1 := 28) (lo1 := [some (.ref 0), some (.int (Int32.ofInt a1)), some (.ref u5), none]) (st1 := [.ref u5]) (H1 := mz_mk g8 x) rfl ?_
  refine mz_gI rfl fd_11_237 (by decide) (kc_trunk k_u5 _) hIg8 (kb_trunk_3 k_u5) (fun v10 e_v10 l_v10 u_v10 => ?_)
  replace hE := zf_tr hE (zf_le e_v10)
  refine mm_g 2 (pc1 := 33) (lo1 := [some (.ref 0), some (.int (Int32.ofInt a1)), some (.ref u5), some (.int (Int32.ofInt v10))]) (st1 := [.ref u5]) (H1 := mz_mk g8 x) rfl ?_
  refine mz_cv rfl mt_11_269 (by decide) (kc_trunk k_u5 _) rfl (Nat.le_of_ble_eq_true rfl) (by omega) (f_X8_turnRound (by omega) hx hIg8 k_u5 (fun g11 hIg11 hfg11 hc12 => ⟨_, rfl, ?_⟩))
  show mm_W d mmX11_turn 36 [some (.ref 0), some (.int (Int32.ofInt a1)), some (.ref u5), some (.int (Int32.ofInt v10))] [] (mz_mk g11 x) Q
  replace hE := zf_t1 hE hc12
  refine mm_g 1 (pc1 := 37) (lo1 := [some (.ref 0), some (.int (Int32.ofInt a1)), some (.ref u5), some (.int (Int32.ofInt v10))]) (st1 := [.int (Int32.ofInt v10)]) (H1 := mz_mk g11 x) rfl ?_
  exact mm_rt rfl rfl (hQ _ _ hIg11 (fun k j hk => ((hfg11 k j (fun h => hk (Or.inr (Or.inr (show (87 ≤ k ∧ k < 96) by have h9 : k = u5 := h; omega))))).trans (hfg8 k j (fun h => hk (Or.elim h (fun h => (Or.inl h)) (fun h => (Or.inr (Or.inl h)))))))) (by omega) (by omega) hE)
