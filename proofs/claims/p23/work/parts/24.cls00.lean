/-! EXACT: the class (wip/p2/tools/gen50.py) -/
theorem nj_1 : ¬ (((82 : Nat) = 82 ∧ (1 : Nat) = 3) ∨ ((82 : Nat) = 82 ∧ (1 : Nat) = 5) ∨ ((82 : Nat) = 82 ∧ (1 : Nat) = 6) ∨ ((82 : Nat) = 82 ∧ (1 : Nat) = 4)) := (fun h => (Or.elim h (fun h => (absurd (show (82 = 82 ∧ 1 = 3) from h) (by decide))) (fun h => (Or.elim h (fun h => (absurd (show (82 = 82 ∧ 1 = 5) from h) (by decide))) (fun h => (Or.elim h (fun h => (absurd (show (82 = 82 ∧ 1 = 6) from h) (by decide))) (fun h => (absurd (show (82 = 82 ∧ 1 = 4) from h) (by decide)))))))))
theorem bip_10 : (Int8.ofInt 10).toInt32 = Int32.ofInt 10 := by decide
theorem bip_20 : (Int8.ofInt 20).toInt32 = Int32.ofInt 20 := by decide
theorem bip_24 : (Int8.ofInt 24).toInt32 = Int32.ofInt 24 := by decide
theorem bip_32 : (Int8.ofInt 32).toInt32 = Int32.ofInt 32 := by decide
theorem bip_40 : (Int8.ofInt 40).toInt32 = Int32.ofInt 40 := by decide
theorem bip_41 : (Int8.ofInt 41).toInt32 = Int32.ofInt 41 := by decide
theorem bip_42 : (Int8.ofInt 42).toInt32 = Int32.ofInt 42 := by decide
theorem bip_43 : (Int8.ofInt 43).toInt32 = Int32.ofInt 43 := by decide
theorem bip_45 : (Int8.ofInt 45).toInt32 = Int32.ofInt 45 := by decide
theorem bip_47 : (Int8.ofInt 47).toInt32 = Int32.ofInt 47 := by decide
theorem bip_48 : (Int8.ofInt 48).toInt32 = Int32.ofInt 48 := by decide
theorem bip_57 : (Int8.ofInt 57).toInt32 = Int32.ofInt 57 := by decide
theorem bip_59 : (Int8.ofInt 59).toInt32 = Int32.ofInt 59 := by decide
theorem bip_60 : (Int8.ofInt 60).toInt32 = Int32.ofInt 60 := by decide
theorem bip_61 : (Int8.ofInt 61).toInt32 = Int32.ofInt 61 := by decide
theorem bip_97 : (Int8.ofInt 97).toInt32 = Int32.ofInt 97 := by decide
theorem bip_122 : (Int8.ofInt 122).toInt32 = Int32.ofInt 122 := by decide
theorem sip_255 : (Int16.ofInt 255).toInt32 = Int32.ofInt 255 := by decide
theorem sip_700 : (Int16.ofInt 700).toInt32 = Int32.ofInt 700 := by decide
theorem fd_1_12 : mm_tab mm_fldT 1 12 = some (1, 0, 0) ∧ mm_tab mm_ftT 1 0 = some 6 := ⟨rfl, rfl⟩
theorem fd_1_21 : mm_tab mm_fldT 1 21 = some (1, 1, 0) ∧ mm_tab mm_ftT 1 1 = some 6 := ⟨rfl, rfl⟩
theorem fd_1_29 : mm_tab mm_fldT 1 29 = some (1, 3, 0) ∧ mm_tab mm_ftT 1 3 = some 0 := ⟨rfl, rfl⟩
theorem fd_1_36 : mm_tab mm_fldT 1 36 = some (1, 4, 0) ∧ mm_tab mm_ftT 1 4 = some 6 := ⟨rfl, rfl⟩
theorem fd_1_43 : mm_tab mm_fldT 1 43 = some (9, 2, 1) ∧ mm_tab mm_ftT 9 2 = some 0 := ⟨rfl, rfl⟩
theorem fd_4_12 : mm_tab mm_fldT 4 12 = some (4, 0, 0) ∧ mm_tab mm_ftT 4 0 = some 6 := ⟨rfl, rfl⟩
theorem fd_4_18 : mm_tab mm_fldT 4 18 = some (4, 1, 0) ∧ mm_tab mm_ftT 4 1 = some 0 := ⟨rfl, rfl⟩
theorem fd_4_22 : mm_tab mm_fldT 4 22 = some (4, 2, 0) ∧ mm_tab mm_ftT 4 2 = some 0 := ⟨rfl, rfl⟩
theorem fd_5_15 : mm_tab mm_fldT 5 15 = some (5, 1, 0) ∧ mm_tab mm_ftT 5 1 = some 0 := ⟨rfl, rfl⟩
theorem fd_7_9 : mm_tab mm_fldT 7 9 = some (7, 0, 0) ∧ mm_tab mm_ftT 7 0 = some 6 := ⟨rfl, rfl⟩
theorem fd_7_15 : mm_tab mm_fldT 7 15 = some (7, 1, 0) ∧ mm_tab mm_ftT 7 1 = some 0 := ⟨rfl, rfl⟩
theorem fd_7_19 : mm_tab mm_fldT 7 19 = some (7, 2, 0) ∧ mm_tab mm_ftT 7 2 = some 0 := ⟨rfl, rfl⟩
theorem fd_7_22 : mm_tab mm_fldT 7 22 = some (7, 3, 0) ∧ mm_tab mm_ftT 7 3 = some 0 := ⟨rfl, rfl⟩
theorem fd_7_25 : mm_tab mm_fldT 7 25 = some (7, 4, 0) ∧ mm_tab mm_ftT 7 4 = some 0 := ⟨rfl, rfl⟩
theorem fd_7_28 : mm_tab mm_fldT 7 28 = some (7, 5, 0) ∧ mm_tab mm_ftT 7 5 = some 0 := ⟨rfl, rfl⟩
theorem fd_7_31 : mm_tab mm_fldT 7 31 = some (7, 6, 0) ∧ mm_tab mm_ftT 7 6 = some 0 := ⟨rfl, rfl⟩
theorem fd_10_28 : mm_tab mm_fldT 10 28 = some (10, 3, 0) ∧ mm_tab mm_ftT 10 3 = some 0 := ⟨rfl, rfl⟩
theorem fd_11_26 : mm_tab mm_fldT 11 26 = some (11, 3, 0) ∧ mm_tab mm_ftT 11 3 = some 6 := ⟨rfl, rfl⟩
theorem fd_11_94 : mm_tab mm_fldT 11 94 = some (4, 0, 1) ∧ mm_tab mm_ftT 4 0 = some 6 := ⟨rfl, rfl⟩
theorem fd_11_98 : mm_tab mm_fldT 11 98 = some (7, 1, 1) ∧ mm_tab mm_ftT 7 1 = some 0 := ⟨rfl, rfl⟩
theorem mt_1_40 : mm_tab mm_mthT 1 40 = some (1, 105, 0, 0, 10) := rfl
theorem mt_1_46 : mm_tab mm_mthT 1 46 = some (1, 58, 0, 0, 5) := rfl
theorem mt_4_45 : mm_tab mm_mthT 4 45 = some (1, 80, 1, 0, 7) := rfl
theorem mt_7_34 : mm_tab mm_mthT 7 34 = some (1, 81, 0, 0, 7) := rfl
theorem mt_7_37 : mm_tab mm_mthT 7 37 = some (1, 84, 1, 0, 7) := rfl
theorem mt_7_41 : mm_tab mm_mthT 7 41 = some (0, 85, 1, 0, 7) := rfl
theorem mt_7_45 : mm_tab mm_mthT 7 45 = some (1, 82, 0, 0, 7) := rfl
theorem mt_7_48 : mm_tab mm_mthT 7 48 = some (0, 86, 1, 0, 7) := rfl
theorem mt_7_51 : mm_tab mm_mthT 7 51 = some (1, 83, 0, 0, 7) := rfl
theorem mt_7_54 : mm_tab mm_mthT 7 54 = some (0, 87, 1, 0, 7) := rfl
theorem mt_11_103 : mm_tab mm_mthT 11 103 = some (1, 79, 1, 0, 7) := rfl
theorem sc_0 (L : Nat) : (mm_SH L 0).1 = 11 := rfl
theorem sc_81 (L : Nat) : (mm_SH L 81).1 = 4 := rfl
theorem sc_82 (L : Nat) : (mm_SH L 82).1 = 7 := rfl
theorem sh_83 (L : Nat) : mm_SH L 83 = (101, 700) := rfl
theorem bd_81_1 : mz_bd 81 1 = ((-2147483648), 2147483647) := rfl
theorem bd_81_2 : mz_bd 81 2 = ((-2147483648), 2147483647) := rfl
theorem bd_82_1 : mz_bd 82 1 = (0, 700) := rfl
theorem bd_82_2 : mz_bd 82 2 = (0, 700) := rfl
theorem bd_82_3 : mz_bd 82 3 = (0, 700) := rfl
theorem bd_82_4 : mz_bd 82 4 = ((-2147483648), 2147483647) := rfl
theorem bd_82_5 : mz_bd 82 5 = (0, 700) := rfl
theorem bd_82_6 : mz_bd 82 6 = ((-2147483648), 2147483647) := rfl
theorem ba_83 (j : Nat) : mz_bd 83 j = ((-2147483648), 2147483647) := rfl
theorem rf_0_3 (a b : Nat) (c : Option Nat) : mm_HR a b c 0 3 = some 81 := rfl
theorem rf_81_0 (a b : Nat) (c : Option Nat) : mm_HR a b c 81 0 = some 82 := rfl
theorem rf_82_0 (a b : Nat) (c : Option Nat) : mm_HR a b c 82 0 = some 83 := rfl
theorem kb_load_3 {q : Nat} (h : kd_load q) : mz_bd q 3 = (0, 8) := by unfold kd_load at h; rcases h with rfl | rfl <;> rfl
theorem kb_rule_1 {q : Nat} (h : kd_rule q) : mz_bd q 1 = (0, 700) := by unfold kd_rule at h; rcases h with rfl | rfl <;> rfl
theorem kb_tks_2 {q : Nat} (h : kd_tks q) : mz_bd q 2 = (0, 6) := by unfold kd_tks at h; rcases h with rfl | rfl | rfl | rfl | rfl <;> rfl
theorem kb_words_3 {q : Nat} (h : kd_words q) : mz_bd q 3 = (0, 8) := by unfold kd_words at h; rcases h with rfl | rfl <;> rfl
theorem kr_load_0 {q : Nat} (h : kd_load q) (a b : Nat) (c : Option Nat) : mm_HR a b c q 0 = some (q + 1) := by unfold kd_load at h; rcases h with rfl | rfl <;> rfl
theorem kr_load_1 {q : Nat} (h : kd_load q) (a b : Nat) (c : Option Nat) : mm_HR a b c q 1 = some (q + 26) := by unfold kd_load at h; rcases h with rfl | rfl <;> rfl
theorem kr_load_4 {q : Nat} (h : kd_load q) (a b : Nat) (c : Option Nat) : mm_HR a b c q 4 = some (q + 36) := by unfold kd_load at h; rcases h with rfl | rfl <;> rfl
theorem ks_load_0 {q : Nat} (h : kd_load q) : kd_words (q + 1) := by unfold kd_words; unfold kd_load at h; rcases h with rfl | rfl <;> decide
theorem ks_load_1 {q : Nat} (h : kd_load q) : kd_tks (q + 26) := by unfold kd_tks; unfold kd_load at h; rcases h with rfl | rfl <;> decide
theorem ks_load_4 {q : Nat} (h : kd_load q) : kd_rule (q + 36) := by unfold kd_rule; unfold kd_load at h; rcases h with rfl | rfl <;> decide
def fl_X7_takeBytes_3 (x : mm_X) (a1 : Int) : Nat → Nat → Prop := fun k j => k = 83 ∨ (k = 82 ∧ j = 1)
def fw_X7_takeBytes (x : mm_X) (a1 : Int) : Nat → Nat → Prop := fun k j => k = 83 ∨ (k = 82 ∧ j = 1)
theorem f_X7_takeBytes {d : Nat} (hd : 1 ≤ d) {x : mm_X} (hx : mk_x x) {g : mz_G} (hI : mz_inv g) {a1 : Int} (l_a1 : (-2147483648) ≤ a1) (u_a1 : a1 ≤ 2147483647) {Q : (Option Value ⊕ Nat) → mm_H → Prop} (hQ : ∀ (g1 : mz_G), mz_inv g1 → mz_fr (fw_X7_takeBytes x a1) g g1 → (g 82 1 + 4 ≤ 700 → g1 82 1 = g 82 1 + 4) → zf_E (zF_X7_takeBytes a1 g) (g1) → Q (.inl none) (mz_mk g1 x)) : mm_C d 79 [.ref 82, .int (Int32.ofInt a1)] (mz_mk g x) Q := by
  refine ⟨mmX7_takeBytes, [some (.ref 82), some (.int (Int32.ofInt a1)), none], rfl, rfl, ?_⟩
  have bz0 := mz_rd hI bd_82_1
  have hE : zf_E (zF_X7_takeBytes a1 g) (zF_X7_takeBytes a1 g) := zf_rf
  refine mz_bip rfl bip_24 ?_
  refine mm_g 1 (pc1 := 3) (lo1 := [some (.ref 82), some (.int (Int32.ofInt a1)), some (.int (Int32.ofInt 24))]) (st1 := []) (H1 := mz_mk g x) rfl ?_
  have L5 : ∀ n4 : Nat, ∀ (v1 : Int) (g2 : mz_G), (v1 - (-8)).toNat = n4 → (-8) ≤ v1 → v1 ≤ 24 → mz_inv g2 → mz_fr (fl_X7_takeBytes_3 x a1) g g2 → (g 82 1 + 4 ≤ 700 → 8 * (g2 82 1 - g 82 1) + v1 = 24) → (∃ fk : Nat, (v1 - (-8)).toNat < fk ∧ zf_E (zF_X7_takeBytes a1 g) (zL_X7_takeBytes_3 a1 fk v1 g2)) → mm_W d mmX7_takeBytes 3 [some (.ref 82), some (.int (Int32.ofInt a1)), some (.int (Int32.ofInt v1))] [] (mz_mk g2 x) Q := by
    intro n4
    induction n4 using Nat.strongRecOn with
    | ind n4 ih3 =>
    intro v1 g2 hmn4 l_v1 u_v1 hIg2 hfg2 hv6 hF
    obtain ⟨fk, fl, hE⟩ := hF
    obtain ⟨fj7, rfl⟩ : ∃ fj, fk = fj + 1 := ⟨fk - 1, by omega⟩
    have fn8 : n4 ≤ fj7 := by omega
    replace hE := zf_tr hE zL_X7_takeBytes_3_s
    have bz_g2_1 := mz_rd hIg2 bd_82_1
    refine mm_g 1 (pc1 := 4) (lo1 := [some (.ref 82), some (.int (Int32.ofInt a1)), some (.int (Int32.ofInt v1))]) (st1 := [.int (Int32.ofInt v1)]) (H1 := mz_mk g2 x) rfl ?_
    refine mz_if_lt (tgt := 55) rfl rfl (mz_rg l_v1 u_v1) (fun c4_8 => ?_) (fun c4_8 => ?_)
    · skip
      replace hE := zf_ip hE c4_8
      exact mm_rt rfl rfl (hQ _ hIg2 (fun k j hk => (hfg2 k j (fun h => hk (Or.elim h (fun h => (Or.inl h)) (fun h => (Or.inr h)))))) (by omega) hE)
    · skip
      replace hE := zf_nl hE c4_8
      refine mm_g 1 (pc1 := 8) (lo1 := [some (.ref 82), some (.int (Int32.ofInt a1)), some (.int (Int32.ofInt v1))]) (st1 := [.ref 82]) (H1 := mz_mk g2 x) rfl ?_
      refine mz_fgI (v := (g2 82 1)) rfl fd_7_15 (by decide) (sc_82 _) (show g2 82 1 = (g2 82 1) from rfl) ?_
      replace hE := zf_tr hE (zf_le (show g2 82 1 = (g2 82 1) from rfl))
      refine mz_if_lt (tgt := 49) rfl rfl ⟨by omega, by omega⟩ (fun c11_8 => ?_) (fun c11_8 => ?_)
      · exfalso; omega
      · skip
        replace hE := zf_nl hE c11_8
        refine mm_g 1 (pc1 := 15) (lo1 := [some (.ref 82), some (.int (Int32.ofInt a1)), some (.int (Int32.ofInt v1))]) (st1 := [.ref 82]) (H1 := mz_mk g2 x) rfl ?_
        refine mz_fgI (v := (g2 82 1)) rfl fd_7_15 (by decide) (sc_82 _) (show g2 82 1 = (g2 82 1) from rfl) ?_
        replace hE := zf_tr hE (zf_le (show g2 82 1 = (g2 82 1) from rfl))
        refine mm_g 1 (pc1 := 19) (lo1 := [some (.ref 82), some (.int (Int32.ofInt a1)), some (.int (Int32.ofInt v1))]) (st1 := [.ref 82, .int (Int32.ofInt (g2 82 1))]) (H1 := mz_mk g2 x) rfl ?_
        refine mz_fgR (v := 83) rfl fd_7_9 (by decide) (sc_82 _) (rf_82_0 _ _ _) ?_
        refine mz_al rfl (sh_83 _) (by decide) ?_
        refine mz_ic_ge (tgt := 49) rfl rfl ⟨by omega, by omega⟩ ⟨by omega, by omega⟩ (fun c23_8 => ?_) (fun c23_8 => ?_)
        · skip
          replace hE := zf_nl hE c23_8
          refine mz_iincR (v := v1) (lo2 := [some (.ref 82), some (.int (Int32.ofInt a1)), some (.int (Int32.ofInt (v1 + (-8))))]) rfl rfl rfl (Nat.le_of_ble_eq_true rfl) rfl ?_
          refine mz_gt (tgt := 3) rfl rfl ?_
          exact ih3 (((v1 + (-8)) - (-8)).toNat) (by omega) (v1 + (-8)) g2 rfl (by omega) (by omega) hIg2 (fun k j hk => (hfg2 k j (fun h => hk (Or.elim h (fun h => (Or.inl h)) (fun h => (Or.inr h)))))) (by omega) ⟨fj7, Nat.lt_of_lt_of_le (show (((v1 + (-8)) - (-8)).toNat) < n4 from (by omega)) fn8, hE⟩
        · skip
          replace hE := zf_ip hE c23_8
          refine mm_g 1 (pc1 := 27) (lo1 := [some (.ref 82), some (.int (Int32.ofInt a1)), some (.int (Int32.ofInt v1))]) (st1 := [.ref 82]) (H1 := mz_mk g2 x) rfl ?_
          refine mz_fgR (v := 83) rfl fd_7_9 (by decide) (sc_82 _) (rf_82_0 _ _ _) ?_
          refine mm_g 1 (pc1 := 31) (lo1 := [some (.ref 82), some (.int (Int32.ofInt a1)), some (.int (Int32.ofInt v1))]) (st1 := [.ref 82, .ref 83]) (H1 := mz_mk g2 x) rfl ?_
          refine mz_fgI (v := (g2 82 1)) rfl fd_7_15 (by decide) (sc_82 _) (show g2 82 1 = (g2 82 1) from rfl) ?_
          replace hE := zf_tr hE (zf_le (show g2 82 1 = (g2 82 1) from rfl))
          refine mm_g 2 (pc1 := 36) (lo1 := [some (.ref 82), some (.int (Int32.ofInt a1)), some (.int (Int32.ofInt v1))]) (st1 := [.int (Int32.ofInt v1), .int (Int32.ofInt a1), .int (Int32.ofInt (g2 82 1)), .ref 83]) (H1 := mz_mk g2 x) rfl ?_
          refine mz_ishr rfl (fun v9 e_v9 hwv9 => ?_)
          have l_v9 := hwv9.1
          have u_v9 := hwv9.2
          replace hE := zf_tr hE (zf_le e_v9.symm)
          refine mz_i2b rfl (fun v10 e_v10 hwv10 => ?_)
          have l_v10 := hwv10.1
          have u_v10 := hwv10.2
          replace hE := zf_tr hE (zf_le e_v10.symm)
          refine mz_sB rfl (sh_83 _) (by omega) (by omega) (by decide) hIg2 (ba_83 _) (by omega) (by omega) (fun g11 hIg11 hug11 => ?_)
          replace hE := zf_tr hE (zf_lg hug11)
          refine mm_g 2 (pc1 := 41) (lo1 := [some (.ref 82), some (.int (Int32.ofInt a1)), some (.int (Int32.ofInt v1))]) (st1 := [.ref 82, .ref 82]) (H1 := mz_mk g11 x) rfl ?_
          refine mz_fgI (v := (g2 82 1)) rfl fd_7_15 (by decide) (sc_82 _) (show g11 82 1 = (g2 82 1) from ((hug11.2 82 1 (fun h => absurd h.1 (by decide))).trans rfl)) ?_
          replace hE := zf_tr hE (zf_le (show g11 82 1 = (g2 82 1) from ((hug11.2 82 1 (fun h => absurd h.1 (by decide))).trans rfl)))
          refine mm_g 1 (pc1 := 45) (lo1 := [some (.ref 82), some (.int (Int32.ofInt a1)), some (.int (Int32.ofInt v1))]) (st1 := [.int (Int32.ofInt 1), .int (Int32.ofInt (g2 82 1)), .ref 82]) (H1 := mz_mk g11 x) rfl ?_
          refine mz_iadd rfl ?_
          refine mz_pI rfl fd_7_15 (sc_82 _) hIg11 bd_82_1 (by omega) (by omega) (fun g12 hIg12 hug12 => ?_)
          replace hE := zf_tr hE (zf_lg hug12)
          refine mz_iincR (v := v1) (lo2 := [some (.ref 82), some (.int (Int32.ofInt a1)), some (.int (Int32.ofInt (v1 + (-8))))]) rfl rfl rfl (Nat.le_of_ble_eq_true rfl) rfl ?_
          refine mz_gt (tgt := 3) rfl rfl ?_
          exact ih3 (((v1 + (-8)) - (-8)).toNat) (by omega) (v1 + (-8)) g12 rfl (by omega) (by omega) hIg12 (fun k j hk => ((hug12.2 k j (fun h => hk (Or.inr h))).trans ((hug11.2 k j (fun h => hk (Or.inl h.1))).trans (hfg2 k j (fun h => hk (Or.elim h (fun h => (Or.inl h)) (fun h => (Or.inr h)))))))) (by have h9 := (show g12 82 1 = ((g2 82 1) + 1) from hug12.1); omega) ⟨fj7, Nat.lt_of_lt_of_le (show (((v1 + (-8)) - (-8)).toNat) < n4 from (by omega)) fn8, hE⟩
  exact L5 _ 24 g rfl (by decide) (by decide) hI (fun _ _ _ => rfl) (by omega) ⟨3000000000, by omega, hE⟩
def fw_X11_feed (x : mm_X) (a1 : Int) (a2 : Int) (a3 : Int) (a4 : Int) (a5 : Int) : Nat → Nat → Prop := fun k j => k = 83 ∨ (k = 82 ∧ j = 1)
theorem f_X11_feed {d : Nat} (hd : 2 ≤ d) {x : mm_X} (hx : mk_x x) {g : mz_G} (hI : mz_inv g) {a1 : Int} (l_a1 : (-2147483648) ≤ a1) (u_a1 : a1 ≤ 2147483647) {a2 : Int} (l_a2 : (-2147483648) ≤ a2) (u_a2 : a2 ≤ 2147483647) {a3 : Int} (l_a3 : (-2147483648) ≤ a3) (u_a3 : a3 ≤ 2147483647) {a4 : Int} (l_a4 : (-2147483648) ≤ a4) (u_a4 : a4 ≤ 2147483647) {a5 : Int} (l_a5 : (-2147483648) ≤ a5) (u_a5 : a5 ≤ 2147483647) {Q : (Option Value ⊕ Nat) → mm_H → Prop} (hQ : ∀ (r : Int) (g1 : mz_G), mz_inv g1 → mz_fr (fw_X11_feed x a1 a2 a3 a4 a5) g g1 → (-1) ≤ r → r ≤ 700 → ((g 82 1 + 20 ≤ 700 → r = g 82 1 + 20 ∧ g1 82 1 = r) ∧ (700 < g 82 1 + 20 → r = -1 ∧ g1 82 1 = g 82 1)) → zf_E (zF_X11_feed x a1 a2 a3 a4 a5 g) ((r, g1)) → Q (.inl (some (.int (Int32.ofInt r)))) (mz_mk g1 x)) : mm_C d 123 [.ref 0, .int (Int32.ofInt a1), .int (Int32.ofInt a2), .int (Int32.ofInt a3), .int (Int32.ofInt a4), .int (Int32.ofInt a5)] (mz_mk g x) Q := by
  have kx := kn_x hx
  refine ⟨mmX11_feed, [some (.ref 0), some (.int (Int32.ofInt a1)), some (.int (Int32.ofInt a2)), some (.int (Int32.ofInt a3)), some (.int (Int32.ofInt a4)), some (.int (Int32.ofInt a5))], rfl, rfl, ?_⟩
  have bz0 := mz_rd hI bd_82_1
  have hE : zf_E (zF_X11_feed x a1 a2 a3 a4 a5 g) (zF_X11_feed x a1 a2 a3 a4 a5 g) := zf_rf
  refine mm_g 1 (pc1 := 1) (lo1 := [some (.ref 0), some (.int (Int32.ofInt a1)), some (.int (Int32.ofInt a2)), some (.int (Int32.ofInt a3)), some (.int (Int32.ofInt a4)), some (.int (Int32.ofInt a5))]) (st1 := [.ref 0]) (H1 := mz_mk g x) rfl ?_
  refine mz_fgR (v := 81) rfl fd_11_26 (by decide) (sc_0 _) (rf_0_3 _ _ _) ?_
  refine mz_fgR (v := 82) rfl fd_11_94 (by decide) (sc_81 _) (rf_81_0 _ _ _) ?_
  refine mz_fgI (v := (g 82 1)) rfl fd_11_98 (by decide) (sc_82 _) (show g 82 1 = (g 82 1) from rfl) ?_
  replace hE := zf_tr hE (zf_le (show g 82 1 = (g 82 1) from rfl))
  refine mz_bip rfl bip_20 ?_
  refine mz_iadd rfl ?_
  refine mz_sip rfl sip_700 ?_
  refine mz_ic_le (tgt := 21) rfl rfl ⟨by omega, by omega⟩ ⟨by decide, by decide⟩ (fun c16_0 => ?_) (fun c16_0 => ?_)
  · skip
    replace hE := zf_nl hE c16_0
    refine mm_g 1 (pc1 := 22) (lo1 := [some (.ref 0), some (.int (Int32.ofInt a1)), some (.int (Int32.ofInt a2)), some (.int (Int32.ofInt a3)), some (.int (Int32.ofInt a4)), some (.int (Int32.ofInt a5))]) (st1 := [.ref 0]) (H1 := mz_mk g x) rfl ?_
    refine mz_fgR (v := 81) rfl fd_11_26 (by decide) (sc_0 _) (rf_0_3 _ _ _) ?_
    refine mz_fgR (v := 82) rfl fd_11_94 (by decide) (sc_81 _) (rf_81_0 _ _ _) ?_
    refine mm_g 1 (pc1 := 29) (lo1 := [some (.ref 0), some (.int (Int32.ofInt a1)), some (.int (Int32.ofInt a2)), some (.int (Int32.ofInt a3)), some (.int (Int32.ofInt a4)), some (.int (Int32.ofInt a5))]) (st1 := [.int (Int32.ofInt a1), .ref 82]) (H1 := mz_mk g x) rfl ?_
    refine mz_cv rfl mt_11_103 (by decide) (sc_82 _) rfl (Nat.le_of_ble_eq_true rfl) (by omega) (f_X7_takeBytes (by omega) hx hI l_a1 u_a1 (fun g2 hIg2 hfg2 hp3 hc4 => ⟨_, rfl, ?_⟩))
    show mm_W d mmX11_feed 32 [some (.ref 0), some (.int (Int32.ofInt a1)), some (.int (Int32.ofInt a2)), some (.int (Int32.ofInt a3)), some (.int (Int32.ofInt a4)), some (.int (Int32.ofInt a5))] [] (mz_mk g2 x) Q
    replace hE := zf_t1 hE hc4
    have bz_g2_1 := mz_rd hIg2 bd_82_1
    refine mm_g 1 (pc1 := 33) (lo1 := [some (.ref 0), some (.int (Int32.ofInt a1)), some (.int (Int32.ofInt a2)), some (.int (Int32.ofInt a3)), some (.int (Int32.ofInt a4)), some (.int (Int32.ofInt a5))]) (st1 := [.ref 0]) (H1 := mz_mk g2 x) rfl ?_
    refine mz_fgR (v := 81) rfl fd_11_26 (by decide) (sc_0 _) (rf_0_3 _ _ _) ?_
    refine mz_fgR (v := 82) rfl fd_11_94 (by decide) (sc_81 _) (rf_81_0 _ _ _) ?_
    refine mm_g 1 (pc1 := 40) (lo1 := [some (.ref 0), some (.int (Int32.ofInt a1)), some (.int (Int32.ofInt a2)), some (.int (Int32.ofInt a3)), some (.int (Int32.ofInt a4)), some (.int (Int32.ofInt a5))]) (st1 := [.int (Int32.ofInt a2), .ref 82]) (H1 := mz_mk g2 x) rfl ?_
    refine mz_cv rfl mt_11_103 (by decide) (sc_82 _) rfl (Nat.le_of_ble_eq_true rfl) (by omega) (f_X7_takeBytes (by omega) hx hIg2 l_a2 u_a2 (fun g6 hIg6 hfg6 hp7 hc8 => ⟨_, rfl, ?_⟩))
    show mm_W d mmX11_feed 43 [some (.ref 0), some (.int (Int32.ofInt a1)), some (.int (Int32.ofInt a2)), some (.int (Int32.ofInt a3)), some (.int (Int32.ofInt a4)), some (.int (Int32.ofInt a5))] [] (mz_mk g6 x) Q
    replace hE := zf_t1 hE hc8
    have bz_g6_1 := mz_rd hIg6 bd_82_1
    refine mm_g 1 (pc1 := 44) (lo1 := [some (.ref 0), some (.int (Int32.ofInt a1)), some (.int (Int32.ofInt a2)), some (.int (Int32.ofInt a3)), some (.int (Int32.ofInt a4)), some (.int (Int32.ofInt a5))]) (st1 := [.ref 0]) (H1 := mz_mk g6 x) rfl ?_
    refine mz_fgR (v := 81) rfl fd_11_26 (by decide) (sc_0 _) (rf_0_3 _ _ _) ?_
    refine mz_fgR (v := 82) rfl fd_11_94 (by decide) (sc_81 _) (rf_81_0 _ _ _) ?_
    refine mm_g 1 (pc1 := 51) (lo1 := [some (.ref 0), some (.int (Int32.ofInt a1)), some (.int (Int32.ofInt a2)), some (.int (Int32.ofInt a3)), some (.int (Int32.ofInt a4)), some (.int (Int32.ofInt a5))]) (st1 := [.int (Int32.ofInt a3), .ref 82]) (H1 := mz_mk g6 x) rfl ?_
    refine mz_cv rfl mt_11_103 (by decide) (sc_82 _) rfl (Nat.le_of_ble_eq_true rfl) (by omega) (f_X7_takeBytes (by omega) hx hIg6 l_a3 u_a3 (fun g10 hIg10 hfg10 hp11 hc12 => ⟨_, rfl, ?_⟩))
    show mm_W d mmX11_feed 54 [some (.ref 0), some (.int (Int32.ofInt a1)), some (.int (Int32.ofInt a2)), some (.int (Int32.ofInt a3)), some (.int (Int32.ofInt a4)), some (.int (Int32.ofInt a5))] [] (mz_mk g10 x) Q
    replace hE := zf_t1 hE hc12
    have bz_g10_1 := mz_rd hIg10 bd_82_1
    refine mm_g 1 (pc1 := 55) (lo1 := [some (.ref 0), some (.int (Int32.ofInt a1)), some (.int (Int32.ofInt a2)), some (.int (Int32.ofInt a3)), some (.int (Int32.ofInt a4)), some (.int (Int32.ofInt a5))]) (st1 := [.ref 0]) (H1 := mz_mk g10 x) rfl ?_
    refine mz_fgR (v := 81) rfl fd_11_26 (by decide) (sc_0 _) (rf_0_3 _ _ _) ?_
    refine mz_fgR (v := 82) rfl fd_11_94 (by decide) (sc_81 _) (rf_81_0 _ _ _) ?_
    refine mm_g 1 (pc1 := 63) (lo1 := [some (.ref 0), some (.int (Int32.ofInt a1)), some (.int (Int32.ofInt a2)), some (.int (Int32.ofInt a3)), some (.int (Int32.ofInt a4)), some (.int (Int32.ofInt a5))]) (st1 := [.int (Int32.ofInt a4), .ref 82]) (H1 := mz_mk g10 x) rfl ?_
    refine mz_cv rfl mt_11_103 (by decide) (sc_82 _) rfl (Nat.le_of_ble_eq_true rfl) (by omega) (f_X7_takeBytes (by omega) hx hIg10 l_a4 u_a4 (fun g14 hIg14 hfg14 hp15 hc16 => ⟨_, rfl, ?_⟩))
    show mm_W d mmX11_feed 66 [some (.ref 0), some (.int (Int32.ofInt a1)), some (.int (Int32.ofInt a2)), some (.int (Int32.ofInt a3)), some (.int (Int32.ofInt a4)), some (.int (Int32.ofInt a5))] [] (mz_mk g14 x) Q
    replace hE := zf_t1 hE hc16
    have bz_g14_1 := mz_rd hIg14 bd_82_1
    refine mm_g 1 (pc1 := 67) (lo1 := [some (.ref 0), some (.int (Int32.ofInt a1)), some (.int (Int32.ofInt a2)), some (.int (Int32.ofInt a3)), some (.int (Int32.ofInt a4)), some (.int (Int32.ofInt a5))]) (st1 := [.ref 0]) (H1 := mz_mk g14 x) rfl ?_
    refine mz_fgR (v := 81) rfl fd_11_26 (by decide) (sc_0 _) (rf_0_3 _ _ _) ?_
    refine mz_fgR (v := 82) rfl fd_11_94 (by decide) (sc_81 _) (rf_81_0 _ _ _) ?_
    refine mm_g 1 (pc1 := 75) (lo1 := [some (.ref 0), some (.int (Int32.ofInt a1)), some (.int (Int32.ofInt a2)), some (.int (Int32.ofInt a3)), some (.int (Int32.ofInt a4)), some (.int (Int32.ofInt a5))]) (st1 := [.int (Int32.ofInt a5), .ref 82]) (H1 := mz_mk g14 x) rfl ?_
    refine mz_cv rfl mt_11_103 (by decide) (sc_82 _) rfl (Nat.le_of_ble_eq_true rfl) (by omega) (f_X7_takeBytes (by omega) hx hIg14 l_a5 u_a5 (fun g18 hIg18 hfg18 hp19 hc20 => ⟨_, rfl, ?_⟩))
    show mm_W d mmX11_feed 78 [some (.ref 0), some (.int (Int32.ofInt a1)), some (.int (Int32.ofInt a2)), some (.int (Int32.ofInt a3)), some (.int (Int32.ofInt a4)), some (.int (Int32.ofInt a5))] [] (mz_mk g18 x) Q
    replace hE := zf_t1 hE hc20
    have bz_g18_1 := mz_rd hIg18 bd_82_1
    refine mm_g 1 (pc1 := 79) (lo1 := [some (.ref 0), some (.int (Int32.ofInt a1)), some (.int (Int32.ofInt a2)), some (.int (Int32.ofInt a3)), some (.int (Int32.ofInt a4)), some (.int (Int32.ofInt a5))]) (st1 := [.ref 0]) (H1 := mz_mk g18 x) rfl ?_
    refine mz_fgR (v := 81) rfl fd_11_26 (by decide) (sc_0 _) (rf_0_3 _ _ _) ?_
    refine mz_fgR (v := 82) rfl fd_11_94 (by decide) (sc_81 _) (rf_81_0 _ _ _) ?_
    refine mz_fgI (v := (g18 82 1)) rfl fd_11_98 (by decide) (sc_82 _) (show g18 82 1 = (g18 82 1) from rfl) ?_
    replace hE := zf_tr hE (zf_le (show g18 82 1 = (g18 82 1) from rfl))
    exact mm_rt rfl rfl (hQ _ _ hIg18 (fun k j hk => ((hfg18 k j (fun h => hk (Or.elim h (fun h => (Or.inl h)) (fun h => (Or.inr h))))).trans ((hfg14 k j (fun h => hk (Or.elim h (fun h => (Or.inl h)) (fun h => (Or.inr h))))).trans ((hfg10 k j (fun h => hk (Or.elim h (fun h => (Or.inl h)) (fun h => (Or.inr h))))).trans ((hfg6 k j (fun h => hk (Or.elim h (fun h => (Or.inl h)) (fun h => (Or.inr h))))).trans (hfg2 k j (fun h => hk (Or.elim h (fun h => (Or.inl h)) (fun h => (Or.inr h)))))))))) (by omega) (by omega) (by omega) hE)
  · skip
    replace hE := zf_ip hE c16_0
    refine mm_g 1 (pc1 := 20) (lo1 := [some (.ref 0), some (.int (Int32.ofInt a1)), some (.int (Int32.ofInt a2)), some (.int (Int32.ofInt a3)), some (.int (Int32.ofInt a4)), some (.int (Int32.ofInt a5))]) (st1 := [.int (Int32.ofInt (-1))]) (H1 := mz_mk g x) rfl ?_
    exact mm_rt rfl rfl (hQ _ _ hI (fun _ _ _ => rfl) (by decide) (by decide) (by omega) hE)
theorem f_X11_mustFit {d : Nat} (hd : 12 ≤ d) {x : mm_X} (hx : mk_x x) {g : mz_G} (hI : mz_inv g) {a1 : Int} (l_a1 : 0 ≤ a1) (u_a1 : a1 ≤ 1) {Q : (Option Value ⊕ Nat) → mm_H → Prop} (hQ : (a1 = 1) → zf_E (zF_X11_mustFit a1 g) ((0, 0, g)) → Q (.inl none) (mz_mk g x)) (hX1 : (zf_E (zF_X11_mustFit a1 g) ((2, 0, g))) → Q (.inr 1) (mz_mk g (mz_tx x))) : mm_C d 175 [.int (Int32.ofInt a1)] (mz_mk g x) Q := by
  have kx := kn_x hx
  refine ⟨mmX11_mustFit, [some (.int (Int32.ofInt a1))], rfl, rfl, ?_⟩
  have hE : zf_E (zF_X11_mustFit a1 g) (zF_X11_mustFit a1 g) := zf_rf
  refine mm_g 1 (pc1 := 1) (lo1 := [some (.int (Int32.ofInt a1))]) (st1 := [.int (Int32.ofInt a1)]) (H1 := mz_mk g x) rfl ?_
  refine mz_if_ne (tgt := 12) rfl rfl (mz_rg l_a1 u_a1) (fun c1_0 => ?_) (fun c1_0 => ?_)
  · skip
    replace hE := zf_in hE c1_0
    exact mm_rt rfl rfl (hQ (by omega) hE)
  · skip
    replace hE := zf_ip hE c1_0
    exact mz_throw rfl rfl rfl rfl rfl rfl rfl (Nat.le_of_ble_eq_true rfl) (by omega) (hX1 hE)
def fw_X10_startAnew (x : mm_X) (q0 : Nat) : Nat → Nat → Prop := fun k j => k = q0
theorem f_X10_startAnew {d : Nat} (hd : 1 ≤ d) {x : mm_X} (hx : mk_x x) {g : mz_G} (hI : mz_inv g) {q0 : Nat} (h_q0 : kd_words q0) {Q : (Option Value ⊕ Nat) → mm_H → Prop} (hQ : ∀ (g1 : mz_G), mz_inv g1 → mz_fr (fw_X10_startAnew x q0) g g1 → zf_E (zF_X10_startAnew q0 g) (g1) → Q (.inl none) (mz_mk g1 x)) : mm_C d 105 [.ref q0] (mz_mk g x) Q := by
  have kn_q0 := kn_words h_q0
  refine ⟨mmX10_startAnew, [some (.ref q0)], rfl, rfl, ?_⟩
  have hE : zf_E (zF_X10_startAnew q0 g) (zF_X10_startAnew q0 g) := zf_rf
  refine mm_g 2 (pc1 := 2) (lo1 := [some (.ref q0)]) (st1 := [.int (Int32.ofInt 0), .ref q0]) (H1 := mz_mk g x) rfl ?_
  refine mz_pI rfl fd_10_28 (kc_words h_q0 _) hI (kb_words_3 h_q0) (by omega) (by omega) (fun g1 hIg1 hug1 => ?_)
  replace hE := zf_tr hE (zf_lg hug1)
  exact mm_rt rfl rfl (hQ _ hIg1 (fun k j hk => (hug1.2 k j (fun h => hk h.1))) hE)
def fw_X5_clear (x : mm_X) (q0 : Nat) : Nat → Nat → Prop := fun k j => k = q0
theorem f_X5_clear {d : Nat} (hd : 1 ≤ d) {x : mm_X} (hx : mk_x x) {g : mz_G} (hI : mz_inv g) {q0 : Nat} (h_q0 : kd_rule q0) {Q : (Option Value ⊕ Nat) → mm_H → Prop} (hQ : ∀ (g1 : mz_G), mz_inv g1 → mz_fr (fw_X5_clear x q0) g g1 → zf_E (zF_X5_clear q0 g) (g1) → Q (.inl none) (mz_mk g1 x)) : mm_C d 58 [.ref q0] (mz_mk g x) Q := by
  have kn_q0 := kn_rule h_q0
  refine ⟨mmX5_clear, [some (.ref q0)], rfl, rfl, ?_⟩
  have hE : zf_E (zF_X5_clear q0 g) (zF_X5_clear q0 g) := zf_rf
  refine mm_g 2 (pc1 := 2) (lo1 := [some (.ref q0)]) (st1 := [.int (Int32.ofInt 0), .ref q0]) (H1 := mz_mk g x) rfl ?_
  refine mz_pI rfl fd_5_15 (kc_rule h_q0 _) hI (kb_rule_1 h_q0) (by omega) (by omega) (fun g1 hIg1 hug1 => ?_)
  replace hE := zf_tr hE (zf_lg hug1)
  exact mm_rt rfl rfl (hQ _ hIg1 (fun k j hk => (hug1.2 k j (fun h => hk h.1))) hE)
def fw_X1_forgetAll (x : mm_X) (q0 : Nat) : Nat → Nat → Prop := fun k j => k = (q0 + 1) ∨ k = (q0 + 26) ∨ k = q0 ∨ k = (q0 + 36)
theorem f_X1_forgetAll {d : Nat} (hd : 2 ≤ d) {x : mm_X} (hx : mk_x x) {g : mz_G} (hI : mz_inv g) {q0 : Nat} (h_q0 : kd_load q0) {Q : (Option Value ⊕ Nat) → mm_H → Prop} (hQ : ∀ (g1 : mz_G), mz_inv g1 → mz_fr (fw_X1_forgetAll x q0) g g1 → zf_E (zF_X1_forgetAll q0 g) (g1) → Q (.inl none) (mz_mk g1 x)) : mm_C d 13 [.ref q0] (mz_mk g x) Q := by
  have kn_q0 := kn_load h_q0
  refine ⟨mmX1_forgetAll, [some (.ref q0)], rfl, rfl, ?_⟩
  have hE : zf_E (zF_X1_forgetAll q0 g) (zF_X1_forgetAll q0 g) := zf_rf
  refine mm_g 1 (pc1 := 1) (lo1 := [some (.ref q0)]) (st1 := [.ref q0]) (H1 := mz_mk g x) rfl ?_
  refine mz_fgR (v := (q0 + 1)) rfl fd_1_12 (by decide) (kc_load h_q0 _) (kr_load_0 h_q0 _ _ _) ?_
  refine mz_cv rfl mt_1_40 (by decide) (kc_words (ks_load_0 h_q0) _) rfl (Nat.le_of_ble_eq_true rfl) (by omega) (f_X10_startAnew (by omega) hx hI (ks_load_0 h_q0) (fun g1 hIg1 hfg1 hc2 => ⟨_, rfl, ?_⟩))
  show mm_W d mmX1_forgetAll 7 [some (.ref q0)] [] (mz_mk g1 x) Q
  replace hE := zf_t1 hE hc2
  refine mm_g 1 (pc1 := 8) (lo1 := [some (.ref q0)]) (st1 := [.ref q0]) (H1 := mz_mk g1 x) rfl ?_
  refine mz_fgR (v := (q0 + 26)) rfl fd_1_21 (by decide) (kc_load h_q0 _) (kr_load_1 h_q0 _ _ _) ?_
  refine mm_g 1 (pc1 := 12) (lo1 := [some (.ref q0)]) (st1 := [.int (Int32.ofInt 0), .ref (q0 + 26)]) (H1 := mz_mk g1 x) rfl ?_
  refine mz_pI rfl fd_1_43 (kc_tks (ks_load_1 h_q0) _) hIg1 (kb_tks_2 (ks_load_1 h_q0)) (by omega) (by omega) (fun g3 hIg3 hug3 => ?_)
  replace hE := zf_tr hE (zf_lg hug3)
  refine mm_g 2 (pc1 := 17) (lo1 := [some (.ref q0)]) (st1 := [.int (Int32.ofInt 0), .ref q0]) (H1 := mz_mk g3 x) rfl ?_
  refine mz_pI rfl fd_1_29 (kc_load h_q0 _) hIg3 (kb_load_3 h_q0) (by omega) (by omega) (fun g4 hIg4 hug4 => ?_)
  replace hE := zf_tr hE (zf_lg hug4)
  refine mm_g 1 (pc1 := 21) (lo1 := [some (.ref q0)]) (st1 := [.ref q0]) (H1 := mz_mk g4 x) rfl ?_
  refine mz_fgR (v := (q0 + 36)) rfl fd_1_36 (by decide) (kc_load h_q0 _) (kr_load_4 h_q0 _ _ _) ?_
  refine mz_cv rfl mt_1_46 (by decide) (kc_rule (ks_load_4 h_q0) _) rfl (Nat.le_of_ble_eq_true rfl) (by omega) (f_X5_clear (by omega) hx hIg4 (ks_load_4 h_q0) (fun g5 hIg5 hfg5 hc6 => ⟨_, rfl, ?_⟩))
  show mm_W d mmX1_forgetAll 27 [some (.ref q0)] [] (mz_mk g5 x) Q
  replace hE := zf_t1 hE hc6
  exact mm_rt rfl rfl (hQ _ hIg5 (fun k j hk => ((hfg5 k j (fun h => hk (Or.inr (Or.inr (Or.inr h))))).trans ((hug4.2 k j (fun h => hk (Or.inr (Or.inr (Or.inl h.1))))).trans ((hug3.2 k j (fun h => hk (Or.inr (Or.inl h.1)))).trans (hfg1 k j (fun h => hk (Or.inl h))))))) hE)
theorem f_X7_byteAt {d : Nat} (hd : 1 ≤ d) {x : mm_X} (hx : mk_x x) {g : mz_G} (hI : mz_inv g) {a1 : Int} (l_a1 : (-2147483648) ≤ a1) (u_a1 : a1 ≤ 2147483647) {Q : (Option Value ⊕ Nat) → mm_H → Prop} (hQ : ∀ (r : Int), 0 ≤ r → r ≤ 255 → zf_E (zF_X7_byteAt a1 g) (r) → Q (.inl (some (.int (Int32.ofInt r)))) (mz_mk g x)) : mm_C d 84 [.ref 82, .int (Int32.ofInt a1)] (mz_mk g x) Q := by
  refine ⟨mmX7_byteAt, [some (.ref 82), some (.int (Int32.ofInt a1))], rfl, rfl, ?_⟩
  have hE : zf_E (zF_X7_byteAt a1 g) (zF_X7_byteAt a1 g) := zf_rf
  refine mm_g 1 (pc1 := 1) (lo1 := [some (.ref 82), some (.int (Int32.ofInt a1))]) (st1 := [.int (Int32.ofInt a1)]) (H1 := mz_mk g x) rfl ?_
  refine mz_if_lt (tgt := 26) rfl rfl (mz_rg l_a1 u_a1) (fun c1_0 => ?_) (fun c1_0 => ?_)
  · skip
    replace hE := zf_ip hE c1_0
    refine mm_g 1 (pc1 := 27) (lo1 := [some (.ref 82), some (.int (Int32.ofInt a1))]) (st1 := [.int (Int32.ofInt 0)]) (H1 := mz_mk g x) rfl ?_
    exact mm_rt rfl rfl (hQ _ (by decide) (by decide) hE)
  · skip
    replace hE := zf_nl hE c1_0
    refine mm_g 2 (pc1 := 6) (lo1 := [some (.ref 82), some (.int (Int32.ofInt a1))]) (st1 := [.ref 82, .int (Int32.ofInt a1)]) (H1 := mz_mk g x) rfl ?_
    refine mz_fgR (v := 83) rfl fd_7_9 (by decide) (sc_82 _) (rf_82_0 _ _ _) ?_
    refine mz_al rfl (sh_83 _) (by decide) ?_
    refine mz_ic_ge (tgt := 26) rfl rfl (mz_rg l_a1 u_a1) ⟨by omega, by omega⟩ (fun c10_0 => ?_) (fun c10_0 => ?_)
    · skip
      replace hE := zf_nl hE c10_0
      refine mm_g 1 (pc1 := 27) (lo1 := [some (.ref 82), some (.int (Int32.ofInt a1))]) (st1 := [.int (Int32.ofInt 0)]) (H1 := mz_mk g x) rfl ?_
      exact mm_rt rfl rfl (hQ _ (by decide) (by decide) hE)
    · skip
      replace hE := zf_ip hE c10_0
      refine mm_g 1 (pc1 := 14) (lo1 := [some (.ref 82), some (.int (Int32.ofInt a1))]) (st1 := [.ref 82]) (H1 := mz_mk g x) rfl ?_
      refine mz_fgR (v := 83) rfl fd_7_9 (by decide) (sc_82 _) (rf_82_0 _ _ _) ?_
      refine mm_g 1 (pc1 := 18) (lo1 := [some (.ref 82), some (.int (Int32.ofInt a1))]) (st1 := [.int (Int32.ofInt a1), .ref 83]) (H1 := mz_mk g x) rfl ?_
      refine mz_bI rfl (sh_83 _) (Or.inl rfl) (by omega) (by omega) (by decide) hI (ba_83 _) (fun v1 e_v1 l_v1 u_v1 => ?_)
      replace hE := zf_tr hE (zf_le e_v1)
      refine mz_sip rfl sip_255 ?_
      refine mz_iand rfl (fun v2 e_v2 hwv2 => ?_)
      have b_v2 : 0 ≤ v2 ∧ v2 ≤ 255 := by rw [e_v2]; exact mz_and_r (by omega) (by omega) (mz_rg l_v1 u_v1)
      have l_v2 := b_v2.1
      have u_v2 := b_v2.2
      replace hE := zf_tr hE (zf_le e_v2.symm)
      refine mz_gt (tgt := 27) rfl rfl ?_
      exact mm_rt rfl rfl (hQ _ (by omega) (by omega) hE)
theorem f_X7_isLetter {d : Nat} (hd : 1 ≤ d) {x : mm_X} (hx : mk_x x) {g : mz_G} (hI : mz_inv g) {a1 : Int} (l_a1 : (-2147483648) ≤ a1) (u_a1 : a1 ≤ 2147483647) {Q : (Option Value ⊕ Nat) → mm_H → Prop} (hQ : ∀ (r : Int), 0 ≤ r → r ≤ 1 → zf_E (zF_X7_isLetter a1 g) (r) → Q (.inl (some (.int (Int32.ofInt r)))) (mz_mk g x)) : mm_C d 85 [.int (Int32.ofInt a1)] (mz_mk g x) Q := by
  refine ⟨mmX7_isLetter, [some (.int (Int32.ofInt a1))], rfl, rfl, ?_⟩
  have hE : zf_E (zF_X7_isLetter a1 g) (zF_X7_isLetter a1 g) := zf_rf
  refine mm_g 1 (pc1 := 1) (lo1 := [some (.int (Int32.ofInt a1))]) (st1 := [.int (Int32.ofInt a1)]) (H1 := mz_mk g x) rfl ?_
  refine mz_bip rfl bip_97 ?_
  refine mz_ic_lt (tgt := 16) rfl rfl (mz_rg l_a1 u_a1) ⟨by decide, by decide⟩ (fun c3_0 => ?_) (fun c3_0 => ?_)
  · skip
    replace hE := zf_ip hE c3_0
    refine mm_g 1 (pc1 := 17) (lo1 := [some (.int (Int32.ofInt a1))]) (st1 := [.int (Int32.ofInt 0)]) (H1 := mz_mk g x) rfl ?_
    exact mz_rtZ rfl (by decide) (by omega) (hQ _ (by decide) (by decide) hE)
  · skip
    replace hE := zf_nl hE c3_0
    refine mm_g 1 (pc1 := 7) (lo1 := [some (.int (Int32.ofInt a1))]) (st1 := [.int (Int32.ofInt a1)]) (H1 := mz_mk g x) rfl ?_
    refine mz_bip rfl bip_122 ?_
    refine mz_ic_gt (tgt := 16) rfl rfl (mz_rg l_a1 u_a1) ⟨by decide, by decide⟩ (fun c9_0 => ?_) (fun c9_0 => ?_)
    · skip
      replace hE := zf_ip hE c9_0
      refine mm_g 1 (pc1 := 17) (lo1 := [some (.int (Int32.ofInt a1))]) (st1 := [.int (Int32.ofInt 0)]) (H1 := mz_mk g x) rfl ?_
      exact mz_rtZ rfl (by decide) (by omega) (hQ _ (by decide) (by decide) hE)
    · skip
      replace hE := zf_nl hE c9_0
      refine mm_g 1 (pc1 := 13) (lo1 := [some (.int (Int32.ofInt a1))]) (st1 := [.int (Int32.ofInt 1)]) (H1 := mz_mk g x) rfl ?_
      refine mz_gt (tgt := 17) rfl rfl ?_
      exact mz_rtZ rfl (by decide) (by omega) (hQ _ (by decide) (by decide) hE)
def fl_X7_stepWord_5 (x : mm_X) : Nat → Nat → Prop := fun k j => (k = 82 ∧ j = 3)
def fw_X7_stepWord (x : mm_X) : Nat → Nat → Prop := fun k j => (k = 82 ∧ j = 4) ∨ (k = 82 ∧ j = 3)
theorem f_X7_stepWord {d : Nat} (hd : 2 ≤ d) {x : mm_X} (hx : mk_x x) {g : mz_G} (hI : mz_inv g) {Q : (Option Value ⊕ Nat) → mm_H → Prop} (hQ : ∀ (g1 : mz_G), mz_inv g1 → mz_fr (fw_X7_stepWord x) g g1 → zf_E (zF_X7_stepWord g) (g1) → Q (.inl none) (mz_mk g1 x)) : mm_C d 82 [.ref 82] (mz_mk g x) Q := by
  refine ⟨mmX7_stepWord, [some (.ref 82)], rfl, rfl, ?_⟩
  have hE : zf_E (zF_X7_stepWord g) (zF_X7_stepWord g) := zf_rf
  refine mm_g 2 (pc1 := 2) (lo1 := [some (.ref 82)]) (st1 := [.int (Int32.ofInt 1), .ref 82]) (H1 := mz_mk g x) rfl ?_
  refine mz_pI rfl fd_7_25 (sc_82 _) hI bd_82_4 (by omega) (by omega) (fun g1 hIg1 hug1 => ?_)
  replace hE := zf_tr hE (zf_lg hug1)
  have L5 : ∀ n4 : Nat, ∀ (g2 : mz_G), (700 - g2 82 3).toNat = n4 → mz_inv g2 → mz_fr (fl_X7_stepWord_5 x) g1 g2 → (∃ fk : Nat, (700 - g2 82 3).toNat < fk ∧ zf_E (zF_X7_stepWord g) (zL_X7_stepWord_5 fk g2)) → mm_W d mmX7_stepWord 5 [some (.ref 82)] [] (mz_mk g2 x) Q := by
    intro n4
    induction n4 using Nat.strongRecOn with
    | ind n4 ih3 =>
    intro g2 hmn4 hIg2 hfg2 hF
    obtain ⟨fk, fl, hE⟩ := hF
    obtain ⟨fj6, rfl⟩ : ∃ fj, fk = fj + 1 := ⟨fk - 1, by omega⟩
    have fn7 : n4 ≤ fj6 := by omega
    replace hE := zf_tr hE zL_X7_stepWord_5_s
    refine mm_g 1 (pc1 := 6) (lo1 := [some (.ref 82)]) (st1 := [.ref 82]) (H1 := mz_mk g2 x) rfl ?_
    refine mz_gI rfl fd_7_22 (by decide) (sc_82 _) hIg2 bd_82_3 (fun v8 e_v8 l_v8 u_v8 => ?_)
    replace hE := zf_tr hE (zf_le e_v8)
    refine mm_g 1 (pc1 := 10) (lo1 := [some (.ref 82)]) (st1 := [.ref 82, .int (Int32.ofInt v8)]) (H1 := mz_mk g2 x) rfl ?_
    refine mz_gI rfl fd_7_19 (by decide) (sc_82 _) hIg2 bd_82_2 (fun v9 e_v9 l_v9 u_v9 => ?_)
    replace hE := zf_tr hE (zf_le e_v9)
    refine mz_ic_ge (tgt := 43) rfl rfl (mz_rg l_v8 u_v8) (mz_rg l_v9 u_v9) (fun c13_9 => ?_) (fun c13_9 => ?_)
    · skip
      replace hE := zf_nl hE c13_9
      exact mm_rt rfl rfl (hQ _ hIg2 (fun k j hk => ((hfg2 k j (fun h => hk (Or.inr h))).trans (hug1.2 k j (fun h => hk (Or.inl h))))) hE)
    · skip
      replace hE := zf_ip hE c13_9
      refine mm_g 2 (pc1 := 18) (lo1 := [some (.ref 82)]) (st1 := [.ref 82, .ref 82]) (H1 := mz_mk g2 x) rfl ?_
      refine mz_fgI (v := v8) rfl fd_7_22 (by decide) (sc_82 _) e_v8 ?_
      replace hE := zf_tr hE (zf_le e_v8)
      refine mz_cv rfl mt_7_37 (by decide) (sc_82 _) rfl (Nat.le_of_ble_eq_true rfl) (by omega) (f_X7_byteAt (by omega) hx hIg2 (by omega) (by omega) (fun v10 l_v10 u_v10 hc11 => ⟨_, rfl, ?_⟩))
      show mm_W d mmX7_stepWord 24 [some (.ref 82)] [.int (Int32.ofInt v10)] (mz_mk g2 x) Q
      replace hE := zf_t1 hE hc11
      refine mz_cs rfl mt_7_41 (by decide) rfl (Nat.le_of_ble_eq_true rfl) (by omega) (f_X7_isLetter (by omega) hx hIg2 (by omega) (by omega) (fun v12 l_v12 u_v12 hc13 => ⟨_, rfl, ?_⟩))
      show mm_W d mmX7_stepWord 27 [some (.ref 82)] [.int (Int32.ofInt v12)] (mz_mk g2 x) Q
      replace hE := zf_t1 hE hc13
      refine mz_if_eq (tgt := 43) rfl rfl (mz_rg l_v12 u_v12) (fun c27_13 => ?_) (fun c27_13 => ?_)
      · skip
        replace hE := zf_ip hE c27_13
        exact mm_rt rfl rfl (hQ _ hIg2 (fun k j hk => ((hfg2 k j (fun h => hk (Or.inr h))).trans (hug1.2 k j (fun h => hk (Or.inl h))))) hE)
      · skip
        replace hE := zf_in hE c27_13
        refine mm_g 2 (pc1 := 32) (lo1 := [some (.ref 82)]) (st1 := [.ref 82, .ref 82]) (H1 := mz_mk g2 x) rfl ?_
        refine mz_fgI (v := v8) rfl fd_7_22 (by decide) (sc_82 _) e_v8 ?_
        replace hE := zf_tr hE (zf_le e_v8)
        refine mm_g 1 (pc1 := 36) (lo1 := [some (.ref 82)]) (st1 := [.int (Int32.ofInt 1), .int (Int32.ofInt v8), .ref 82]) (H1 := mz_mk g2 x) rfl ?_
        refine mz_iadd rfl ?_
        refine mz_pI rfl fd_7_22 (sc_82 _) hIg2 bd_82_3 (by omega) (by omega) (fun g14 hIg14 hug14 => ?_)
        replace hE := zf_tr hE (zf_lg hug14)
        refine mz_gt (tgt := 5) rfl rfl ?_
        exact ih3 ((700 - g14 82 3).toNat) (by have hz := (show g14 82 3 = (v8 + 1) from hug14.1); omega) g14 rfl hIg14 (fun k j hk => ((hug14.2 k j (fun h => hk h)).trans (hfg2 k j (fun h => hk h)))) ⟨fj6, Nat.lt_of_lt_of_le (show ((700 - g14 82 3).toNat) < n4 from (by have hz := (show g14 82 3 = (v8 + 1) from hug14.1); omega)) fn7, hE⟩
  exact L5 _ g1 rfl hIg1 (fun _ _ _ => rfl) ⟨3000000000, by have bq0 := mz_rd hIg1 bd_82_3; omega, hE⟩
theorem f_X7_isDigit {d : Nat} (hd : 1 ≤ d) {x : mm_X} (hx : mk_x x) {g : mz_G} (hI : mz_inv g) {a1 : Int} (l_a1 : (-2147483648) ≤ a1) (u_a1 : a1 ≤ 2147483647) {Q : (Option Value ⊕ Nat) → mm_H → Prop} (hQ : ∀ (r : Int), 0 ≤ r → r ≤ 1 → zf_E (zF_X7_isDigit a1 g) (r) → Q (.inl (some (.int (Int32.ofInt r)))) (mz_mk g x)) : mm_C d 86 [.int (Int32.ofInt a1)] (mz_mk g x) Q := by
  refine ⟨mmX7_isDigit, [some (.int (Int32.ofInt a1))], rfl, rfl, ?_⟩
  have hE : zf_E (zF_X7_isDigit a1 g) (zF_X7_isDigit a1 g) := zf_rf
  refine mm_g 1 (pc1 := 1) (lo1 := [some (.int (Int32.ofInt a1))]) (st1 := [.int (Int32.ofInt a1)]) (H1 := mz_mk g x) rfl ?_
  refine mz_bip rfl bip_48 ?_
  refine mz_ic_lt (tgt := 16) rfl rfl (mz_rg l_a1 u_a1) ⟨by decide, by decide⟩ (fun c3_0 => ?_) (fun c3_0 => ?_)
  · skip
    replace hE := zf_ip hE c3_0
    refine mm_g 1 (pc1 := 17) (lo1 := [some (.int (Int32.ofInt a1))]) (st1 := [.int (Int32.ofInt 0)]) (H1 := mz_mk g x) rfl ?_
    exact mz_rtZ rfl (by decide) (by omega) (hQ _ (by decide) (by decide) hE)
  · skip
    replace hE := zf_nl hE c3_0
    refine mm_g 1 (pc1 := 7) (lo1 := [some (.int (Int32.ofInt a1))]) (st1 := [.int (Int32.ofInt a1)]) (H1 := mz_mk g x) rfl ?_
    refine mz_bip rfl bip_57 ?_
    refine mz_ic_gt (tgt := 16) rfl rfl (mz_rg l_a1 u_a1) ⟨by decide, by decide⟩ (fun c9_0 => ?_) (fun c9_0 => ?_)
    · skip
      replace hE := zf_ip hE c9_0
      refine mm_g 1 (pc1 := 17) (lo1 := [some (.int (Int32.ofInt a1))]) (st1 := [.int (Int32.ofInt 0)]) (H1 := mz_mk g x) rfl ?_
      exact mz_rtZ rfl (by decide) (by omega) (hQ _ (by decide) (by decide) hE)
    · skip
      replace hE := zf_nl hE c9_0
      refine mm_g 1 (pc1 := 13) (lo1 := [some (.int (Int32.ofInt a1))]) (st1 := [.int (Int32.ofInt 1)]) (H1 := mz_mk g x) rfl ?_
      refine mz_gt (tgt := 17) rfl rfl ?_
      exact mz_rtZ rfl (by decide) (by omega) (hQ _ (by decide) (by decide) hE)
def fl_X7_stepNumber_5 (x : mm_X) : Nat → Nat → Prop := fun k j => (k = 82 ∧ j = 6) ∨ (k = 82 ∧ j = 3)
def fw_X7_stepNumber (x : mm_X) : Nat → Nat → Prop := fun k j => (k = 82 ∧ j = 4) ∨ (k = 82 ∧ j = 6) ∨ (k = 82 ∧ j = 3)
theorem f_X7_stepNumber {d : Nat} (hd : 2 ≤ d) {x : mm_X} (hx : mk_x x) {g : mz_G} (hI : mz_inv g) {Q : (Option Value ⊕ Nat) → mm_H → Prop} (hQ : ∀ (g1 : mz_G), mz_inv g1 → mz_fr (fw_X7_stepNumber x) g g1 → zf_E (zF_X7_stepNumber g) (g1) → Q (.inl none) (mz_mk g1 x)) : mm_C d 83 [.ref 82] (mz_mk g x) Q := by
  refine ⟨mmX7_stepNumber, [some (.ref 82)], rfl, rfl, ?_⟩
  have hE : zf_E (zF_X7_stepNumber g) (zF_X7_stepNumber g) := zf_rf
  refine mm_g 2 (pc1 := 2) (lo1 := [some (.ref 82)]) (st1 := [.int (Int32.ofInt 2), .ref 82]) (H1 := mz_mk g x) rfl ?_
  refine mz_pI rfl fd_7_25 (sc_82 _) hI bd_82_4 (by omega) (by omega) (fun g1 hIg1 hug1 => ?_)
  replace hE := zf_tr hE (zf_lg hug1)
  have L5 : ∀ n4 : Nat, ∀ (g2 : mz_G), (700 - g2 82 3).toNat = n4 → mz_inv g2 → mz_fr (fl_X7_stepNumber_5 x) g1 g2 → (∃ fk : Nat, (700 - g2 82 3).toNat < fk ∧ zf_E (zF_X7_stepNumber g) (zL_X7_stepNumber_5 fk g2)) → mm_W d mmX7_stepNumber 5 [some (.ref 82)] [] (mz_mk g2 x) Q := by
    intro n4
    induction n4 using Nat.strongRecOn with
    | ind n4 ih3 =>
    intro g2 hmn4 hIg2 hfg2 hF
    obtain ⟨fk, fl, hE⟩ := hF
    obtain ⟨fj6, rfl⟩ : ∃ fj, fk = fj + 1 := ⟨fk - 1, by omega⟩
    have fn7 : n4 ≤ fj6 := by omega
    replace hE := zf_tr hE zL_X7_stepNumber_5_s
    refine mm_g 1 (pc1 := 6) (lo1 := [some (.ref 82)]) (st1 := [.ref 82]) (H1 := mz_mk g2 x) rfl ?_
    refine mz_gI rfl fd_7_22 (by decide) (sc_82 _) hIg2 bd_82_3 (fun v8 e_v8 l_v8 u_v8 => ?_)
    replace hE := zf_tr hE (zf_le e_v8)
    refine mm_g 1 (pc1 := 10) (lo1 := [some (.ref 82)]) (st1 := [.ref 82, .int (Int32.ofInt v8)]) (H1 := mz_mk g2 x) rfl ?_
    refine mz_gI rfl fd_7_19 (by decide) (sc_82 _) hIg2 bd_82_2 (fun v9 e_v9 l_v9 u_v9 => ?_)
    replace hE := zf_tr hE (zf_le e_v9)
    refine mz_ic_ge (tgt := 86) rfl rfl (mz_rg l_v8 u_v8) (mz_rg l_v9 u_v9) (fun c13_9 => ?_) (fun c13_9 => ?_)
    · skip
      replace hE := zf_nl hE c13_9
      exact mm_rt rfl rfl (hQ _ hIg2 (fun k j hk => ((hfg2 k j (fun h => hk (Or.elim h (fun h => (Or.inr (Or.inl h))) (fun h => (Or.inr (Or.inr h)))))).trans (hug1.2 k j (fun h => hk (Or.inl h))))) hE)
    · skip
      replace hE := zf_ip hE c13_9
      refine mm_g 2 (pc1 := 18) (lo1 := [some (.ref 82)]) (st1 := [.ref 82, .ref 82]) (H1 := mz_mk g2 x) rfl ?_
      refine mz_fgI (v := v8) rfl fd_7_22 (by decide) (sc_82 _) e_v8 ?_
      replace hE := zf_tr hE (zf_le e_v8)
      refine mz_cv rfl mt_7_37 (by decide) (sc_82 _) rfl (Nat.le_of_ble_eq_true rfl) (by omega) (f_X7_byteAt (by omega) hx hIg2 (by omega) (by omega) (fun v10 l_v10 u_v10 hc11 => ⟨_, rfl, ?_⟩))
      show mm_W d mmX7_stepNumber 24 [some (.ref 82)] [.int (Int32.ofInt v10)] (mz_mk g2 x) Q
      replace hE := zf_t1 hE hc11
      refine mz_cs rfl mt_7_48 (by decide) rfl (Nat.le_of_ble_eq_true rfl) (by omega) (f_X7_isDigit (by omega) hx hIg2 (by omega) (by omega) (fun v12 l_v12 u_v12 hc13 => ⟨_, rfl, ?_⟩))
      show mm_W d mmX7_stepNumber 27 [some (.ref 82)] [.int (Int32.ofInt v12)] (mz_mk g2 x) Q
      replace hE := zf_t1 hE hc13
      refine mz_if_eq (tgt := 86) rfl rfl (mz_rg l_v12 u_v12) (fun c27_13 => ?_) (fun c27_13 => ?_)
      · skip
        replace hE := zf_ip hE c27_13
        exact mm_rt rfl rfl (hQ _ hIg2 (fun k j hk => ((hfg2 k j (fun h => hk (Or.elim h (fun h => (Or.inr (Or.inl h))) (fun h => (Or.inr (Or.inr h)))))).trans (hug1.2 k j (fun h => hk (Or.inl h))))) hE)
      · skip
        replace hE := zf_in hE c27_13
        refine mm_g 2 (pc1 := 32) (lo1 := [some (.ref 82)]) (st1 := [.ref 82, .ref 82]) (H1 := mz_mk g2 x) rfl ?_
        refine mz_fgI (v := v8) rfl fd_7_22 (by decide) (sc_82 _) e_v8 ?_
        replace hE := zf_tr hE (zf_le e_v8)
        refine mm_g 1 (pc1 := 36) (lo1 := [some (.ref 82)]) (st1 := [.ref 82, .int (Int32.ofInt v8), .ref 82]) (H1 := mz_mk g2 x) rfl ?_
        refine mz_gI rfl fd_7_28 (by decide) (sc_82 _) hIg2 bd_82_5 (fun v14 e_v14 l_v14 u_v14 => ?_)
        replace hE := zf_tr hE (zf_le e_v14)
        refine mz_isub rfl ?_
        refine mm_g 1 (pc1 := 41) (lo1 := [some (.ref 82)]) (st1 := [.int (Int32.ofInt 4), .int (Int32.ofInt (v8 - v14)), .ref 82]) (H1 := mz_mk g2 x) rfl ?_
        refine mz_ic_ge (tgt := 66) rfl rfl ⟨by omega, by omega⟩ ⟨by decide, by decide⟩ (fun c41_14 => ?_) (fun c41_14 => ?_)
        · skip
          replace hE := zf_nl hE c41_14
          refine mm_g 1 (pc1 := 67) (lo1 := [some (.ref 82)]) (st1 := [.ref 82, .ref 82]) (H1 := mz_mk g2 x) rfl ?_
          refine mz_gI rfl fd_7_31 (by decide) (sc_82 _) hIg2 bd_82_6 (fun v15 e_v15 l_v15 u_v15 => ?_)
          replace hE := zf_tr hE (zf_le e_v15)
          refine mz_pI rfl fd_7_31 (sc_82 _) hIg2 bd_82_6 (by omega) (by omega) (fun g16 hIg16 hug16 => ?_)
          replace hE := zf_tr hE (zf_lg hug16)
          refine mm_g 2 (pc1 := 75) (lo1 := [some (.ref 82)]) (st1 := [.ref 82, .ref 82]) (H1 := mz_mk g16 x) rfl ?_
          refine mz_fgI (v := v8) rfl fd_7_22 (by decide) (sc_82 _) (show g16 82 3 = v8 from ((hug16.2 82 3 (fun h => absurd h.2 (by decide))).trans e_v8)) ?_
          replace hE := zf_tr hE (zf_le (show g16 82 3 = v8 from ((hug16.2 82 3 (fun h => absurd h.2 (by decide))).trans e_v8)))
          refine mm_g 1 (pc1 := 79) (lo1 := [some (.ref 82)]) (st1 := [.int (Int32.ofInt 1), .int (Int32.ofInt v8), .ref 82]) (H1 := mz_mk g16 x) rfl ?_
          refine mz_iadd rfl ?_
          refine mz_pI rfl fd_7_22 (sc_82 _) hIg16 bd_82_3 (by omega) (by omega) (fun g17 hIg17 hug17 => ?_)
          replace hE := zf_tr hE (zf_lg hug17)
          refine mz_gt (tgt := 5) rfl rfl ?_
          exact ih3 ((700 - g17 82 3).toNat) (by have hz := (show g17 82 3 = (v8 + 1) from hug17.1); omega) g17 rfl hIg17 (fun k j hk => ((hug17.2 k j (fun h => hk (Or.inr h))).trans ((hug16.2 k j (fun h => hk (Or.inl h))).trans (hfg2 k j (fun h => hk (Or.elim h (fun h => (Or.inl h)) (fun h => (Or.inr h)))))))) ⟨fj6, Nat.lt_of_lt_of_le (show ((700 - g17 82 3).toNat) < n4 from (by have hz := (show g17 82 3 = (v8 + 1) from hug17.1); omega)) fn7, hE⟩
        · skip
          replace hE := zf_ip hE c41_14
          refine mz_bip rfl bip_10 ?_
          refine mm_g 1 (pc1 := 47) (lo1 := [some (.ref 82)]) (st1 := [.ref 82, .int (Int32.ofInt 10), .ref 82]) (H1 := mz_mk g2 x) rfl ?_
          refine mz_gI rfl fd_7_31 (by decide) (sc_82 _) hIg2 bd_82_6 (fun v18 e_v18 l_v18 u_v18 => ?_)
          replace hE := zf_tr hE (zf_le e_v18)
          refine mz_imul_w rfl (fun v19 e_v19 hwv19 => ?_)
          have l_v19 := hwv19.1
          have u_v19 := hwv19.2
          replace hE := zf_tr hE (zf_le e_v19.symm)
          refine mm_g 2 (pc1 := 53) (lo1 := [some (.ref 82)]) (st1 := [.ref 82, .ref 82, .int (Int32.ofInt v19), .ref 82]) (H1 := mz_mk g2 x) rfl ?_
          refine mz_fgI (v := v8) rfl fd_7_22 (by decide) (sc_82 _) e_v8 ?_
          replace hE := zf_tr hE (zf_le e_v8)
          refine mz_cv rfl mt_7_37 (by decide) (sc_82 _) rfl (Nat.le_of_ble_eq_true rfl) (by omega) (f_X7_byteAt (by omega) hx hIg2 (by omega) (by omega) (fun v20 l_v20 u_v20 hc21 => ⟨_, rfl, ?_⟩))
          show mm_W d mmX7_stepNumber 59 [some (.ref 82)] [.int (Int32.ofInt v20), .int (Int32.ofInt v19), .ref 82] (mz_mk g2 x) Q
          replace hE := zf_t1 hE hc21
          refine mz_iadd_w rfl (fun v22 e_v22 hwv22 => ?_)
          have l_v22 := hwv22.1
          have u_v22 := hwv22.2
          replace hE := zf_tr hE (zf_le e_v22.symm)
          refine mz_bip rfl bip_48 ?_
          refine mz_isub_w rfl (fun v23 e_v23 hwv23 => ?_)
          have l_v23 := hwv23.1
          have u_v23 := hwv23.2
          replace hE := zf_tr hE (zf_le e_v23.symm)
          refine mz_gt (tgt := 70) rfl rfl ?_
          refine mz_pI rfl fd_7_31 (sc_82 _) hIg2 bd_82_6 (by omega) (by omega) (fun g24 hIg24 hug24 => ?_)
          replace hE := zf_tr hE (zf_lg hug24)
          refine mm_g 2 (pc1 := 75) (lo1 := [some (.ref 82)]) (st1 := [.ref 82, .ref 82]) (H1 := mz_mk g24 x) rfl ?_
          refine mz_fgI (v := v8) rfl fd_7_22 (by decide) (sc_82 _) (show g24 82 3 = v8 from ((hug24.2 82 3 (fun h => absurd h.2 (by decide))).trans e_v8)) ?_
          replace hE := zf_tr hE (zf_le (show g24 82 3 = v8 from ((hug24.2 82 3 (fun h => absurd h.2 (by decide))).trans e_v8)))
          refine mm_g 1 (pc1 := 79) (lo1 := [some (.ref 82)]) (st1 := [.int (Int32.ofInt 1), .int (Int32.ofInt v8), .ref 82]) (H1 := mz_mk g24 x) rfl ?_
          refine mz_iadd rfl ?_
          refine mz_pI rfl fd_7_22 (sc_82 _) hIg24 bd_82_3 (by omega) (by omega) (fun g25 hIg25 hug25 => ?_)
          replace hE := zf_tr hE (zf_lg hug25)
          refine mz_gt (tgt := 5) rfl rfl ?_
          exact ih3 ((700 - g25 82 3).toNat) (by have hz := (show g25 82 3 = (v8 + 1) from hug25.1); omega) g25 rfl hIg25 (fun k j hk => ((hug25.2 k j (fun h => hk (Or.inr h))).trans ((hug24.2 k j (fun h => hk (Or.inl h))).trans (hfg2 k j (fun h => hk (Or.elim h (fun h => (Or.inl h)) (fun h => (Or.inr h)))))))) ⟨fj6, Nat.lt_of_lt_of_le (show ((700 - g25 82 3).toNat) < n4 from (by have hz := (show g25 82 3 = (v8 + 1) from hug25.1); omega)) fn7, hE⟩
  exact L5 _ g1 rfl hIg1 (fun _ _ _ => rfl) ⟨3000000000, by have bq0 := mz_rd hIg1 bd_82_3; omega, hE⟩
theorem f_X7_isSign {d : Nat} (hd : 1 ≤ d) {x : mm_X} (hx : mk_x x) {g : mz_G} (hI : mz_inv g) {a1 : Int} (l_a1 : (-2147483648) ≤ a1) (u_a1 : a1 ≤ 2147483647) {Q : (Option Value ⊕ Nat) → mm_H → Prop} (hQ : ∀ (r : Int), 0 ≤ r → r ≤ 1 → zf_E (zF_X7_isSign a1 g) (r) → Q (.inl (some (.int (Int32.ofInt r)))) (mz_mk g x)) : mm_C d 87 [.int (Int32.ofInt a1)] (mz_mk g x) Q := by
  refine ⟨mmX7_isSign, [some (.int (Int32.ofInt a1)), none], rfl, rfl, ?_⟩
  have hE : zf_E (zF_X7_isSign a1 g) (zF_X7_isSign a1 g) := zf_rf
  refine mm_g 1 (pc1 := 1) (lo1 := [some (.int (Int32.ofInt a1)), none]) (st1 := [.int (Int32.ofInt a1)]) (H1 := mz_mk g x) rfl ?_
  refine mz_bip rfl bip_59 ?_
  refine mz_ic_eq (tgt := 30) rfl rfl (mz_rg l_a1 u_a1) ⟨by decide, by decide⟩ (fun c3_0 => ?_) (fun c3_0 => ?_)
  · skip
    replace hE := zf_ip hE c3_0
    refine mm_g 1 (pc1 := 31) (lo1 := [some (.int (Int32.ofInt a1)), none]) (st1 := [.int (Int32.ofInt 1)]) (H1 := mz_mk g x) rfl ?_
    refine mz_gt (tgt := 35) rfl rfl ?_
    refine mm_g 2 (pc1 := 37) (lo1 := [some (.int (Int32.ofInt a1)), some (.int (Int32.ofInt 1))]) (st1 := [.int (Int32.ofInt 1)]) (H1 := mz_mk g x) rfl ?_
    refine mz_if_ne (tgt := 64) rfl rfl ⟨by decide, by decide⟩ (fun c37_0 => ?_) (fun c37_0 => ?_)
    · skip
      (try unfold zJ_X7_isSign_30 at hE)
      (try unfold zJ_X7_isSign_35 at hE)
      (try unfold zJ_X7_isSign_64 at hE)
      (try unfold zJ_X7_isSign_30 at hE)
      (try unfold zJ_X7_isSign_35 at hE)
      (try unfold zJ_X7_isSign_64 at hE)
      replace hE := zf_in hE c37_0
      refine mm_g 1 (pc1 := 65) (lo1 := [some (.int (Int32.ofInt a1)), some (.int (Int32.ofInt 1))]) (st1 := [.int (Int32.ofInt 1)]) (H1 := mz_mk g x) rfl ?_
      refine mz_gt (tgt := 69) rfl rfl ?_
      exact mz_rtZ rfl (by decide) (by omega) (hQ _ (by decide) (by decide) hE)
    · exfalso; omega
  · skip
    replace hE := zf_in hE c3_0
    refine mm_g 1 (pc1 := 7) (lo1 := [some (.int (Int32.ofInt a1)), none]) (st1 := [.int (Int32.ofInt a1)]) (H1 := mz_mk g x) rfl ?_
    refine mz_bip rfl bip_40 ?_
    refine mz_ic_eq (tgt := 30) rfl rfl (mz_rg l_a1 u_a1) ⟨by decide, by decide⟩ (fun c9_0 => ?_) (fun c9_0 => ?_)
    · skip
      replace hE := zf_ip hE c9_0
      refine mm_g 1 (pc1 := 31) (lo1 := [some (.int (Int32.ofInt a1)), none]) (st1 := [.int (Int32.ofInt 1)]) (H1 := mz_mk g x) rfl ?_
      refine mz_gt (tgt := 35) rfl rfl ?_
      refine mm_g 2 (pc1 := 37) (lo1 := [some (.int (Int32.ofInt a1)), some (.int (Int32.ofInt 1))]) (st1 := [.int (Int32.ofInt 1)]) (H1 := mz_mk g x) rfl ?_
      refine mz_if_ne (tgt := 64) rfl rfl ⟨by decide, by decide⟩ (fun c37_0 => ?_) (fun c37_0 => ?_)
      · skip
        (try unfold zJ_X7_isSign_30 at hE)
        (try unfold zJ_X7_isSign_35 at hE)
        (try unfold zJ_X7_isSign_64 at hE)
        (try unfold zJ_X7_isSign_30 at hE)
        (try unfold zJ_X7_isSign_35 at hE)
        (try unfold zJ_X7_isSign_64 at hE)
        replace hE := zf_in hE c37_0
        refine mm_g 1 (pc1 := 65) (lo1 := [some (.int (Int32.ofInt a1)), some (.int (Int32.ofInt 1))]) (st1 := [.int (Int32.ofInt 1)]) (H1 := mz_mk g x) rfl ?_
        refine mz_gt (tgt := 69) rfl rfl ?_
        exact mz_rtZ rfl (by decide) (by omega) (hQ _ (by decide) (by decide) hE)
      · exfalso; omega
    · skip
      replace hE := zf_in hE c9_0
      refine mm_g 1 (pc1 := 13) (lo1 := [some (.int (Int32.ofInt a1)), none]) (st1 := [.int (Int32.ofInt a1)]) (H1 := mz_mk g x) rfl ?_
      refine mz_bip rfl bip_41 ?_
      refine mz_ic_eq (tgt := 30) rfl rfl (mz_rg l_a1 u_a1) ⟨by decide, by decide⟩ (fun c15_0 => ?_) (fun c15_0 => ?_)
      · skip
        replace hE := zf_ip hE c15_0
        refine mm_g 1 (pc1 := 31) (lo1 := [some (.int (Int32.ofInt a1)), none]) (st1 := [.int (Int32.ofInt 1)]) (H1 := mz_mk g x) rfl ?_
        refine mz_gt (tgt := 35) rfl rfl ?_
        refine mm_g 2 (pc1 := 37) (lo1 := [some (.int (Int32.ofInt a1)), some (.int (Int32.ofInt 1))]) (st1 := [.int (Int32.ofInt 1)]) (H1 := mz_mk g x) rfl ?_
        refine mz_if_ne (tgt := 64) rfl rfl ⟨by decide, by decide⟩ (fun c37_0 => ?_) (fun c37_0 => ?_)
        · skip
          (try unfold zJ_X7_isSign_30 at hE)
          (try unfold zJ_X7_isSign_35 at hE)
          (try unfold zJ_X7_isSign_64 at hE)
          (try unfold zJ_X7_isSign_30 at hE)
          (try unfold zJ_X7_isSign_35 at hE)
          (try unfold zJ_X7_isSign_64 at hE)
          replace hE := zf_in hE c37_0
          refine mm_g 1 (pc1 := 65) (lo1 := [some (.int (Int32.ofInt a1)), some (.int (Int32.ofInt 1))]) (st1 := [.int (Int32.ofInt 1)]) (H1 := mz_mk g x) rfl ?_
          refine mz_gt (tgt := 69) rfl rfl ?_
          exact mz_rtZ rfl (by decide) (by omega) (hQ _ (by decide) (by decide) hE)
        · exfalso; omega
      · skip
        replace hE := zf_in hE c15_0
        refine mm_g 1 (pc1 := 19) (lo1 := [some (.int (Int32.ofInt a1)), none]) (st1 := [.int (Int32.ofInt a1)]) (H1 := mz_mk g x) rfl ?_
        refine mz_bip rfl bip_60 ?_
        refine mz_ic_eq (tgt := 30) rfl rfl (mz_rg l_a1 u_a1) ⟨by decide, by decide⟩ (fun c21_0 => ?_) (fun c21_0 => ?_)
        · skip
          replace hE := zf_ip hE c21_0
          refine mm_g 1 (pc1 := 31) (lo1 := [some (.int (Int32.ofInt a1)), none]) (st1 := [.int (Int32.ofInt 1)]) (H1 := mz_mk g x) rfl ?_
          refine mz_gt (tgt := 35) rfl rfl ?_
          refine mm_g 2 (pc1 := 37) (lo1 := [some (.int (Int32.ofInt a1)), some (.int (Int32.ofInt 1))]) (st1 := [.int (Int32.ofInt 1)]) (H1 := mz_mk g x) rfl ?_
          refine mz_if_ne (tgt := 64) rfl rfl ⟨by decide, by decide⟩ (fun c37_0 => ?_) (fun c37_0 => ?_)
          · skip
            (try unfold zJ_X7_isSign_30 at hE)
            (try unfold zJ_X7_isSign_35 at hE)
            (try unfold zJ_X7_isSign_64 at hE)
            (try unfold zJ_X7_isSign_30 at hE)
            (try unfold zJ_X7_isSign_35 at hE)
            (try unfold zJ_X7_isSign_64 at hE)
            replace hE := zf_in hE c37_0
            refine mm_g 1 (pc1 := 65) (lo1 := [some (.int (Int32.ofInt a1)), some (.int (Int32.ofInt 1))]) (st1 := [.int (Int32.ofInt 1)]) (H1 := mz_mk g x) rfl ?_
            refine mz_gt (tgt := 69) rfl rfl ?_
            exact mz_rtZ rfl (by decide) (by omega) (hQ _ (by decide) (by decide) hE)
          · exfalso; omega
        · skip
          replace hE := zf_in hE c21_0
          refine mm_g 1 (pc1 := 25) (lo1 := [some (.int (Int32.ofInt a1)), none]) (st1 := [.int (Int32.ofInt a1)]) (H1 := mz_mk g x) rfl ?_
          refine mz_bip rfl bip_61 ?_
          refine mz_ic_ne (tgt := 34) rfl rfl (mz_rg l_a1 u_a1) ⟨by decide, by decide⟩ (fun c27_0 => ?_) (fun c27_0 => ?_)
          · skip
            replace hE := zf_in hE c27_0
            refine mm_g 3 (pc1 := 37) (lo1 := [some (.int (Int32.ofInt a1)), some (.int (Int32.ofInt 0))]) (st1 := [.int (Int32.ofInt 0)]) (H1 := mz_mk g x) rfl ?_
            refine mz_if_ne (tgt := 64) rfl rfl ⟨by decide, by decide⟩ (fun c37_0 => ?_) (fun c37_0 => ?_)
            · exfalso; omega
            · skip
              (try unfold zJ_X7_isSign_30 at hE)
              (try unfold zJ_X7_isSign_35 at hE)
              (try unfold zJ_X7_isSign_64 at hE)
              (try unfold zJ_X7_isSign_30 at hE)
              (try unfold zJ_X7_isSign_35 at hE)
              (try unfold zJ_X7_isSign_64 at hE)
              replace hE := zf_ip hE c37_0
              refine mm_g 1 (pc1 := 41) (lo1 := [some (.int (Int32.ofInt a1)), some (.int (Int32.ofInt 0))]) (st1 := [.int (Int32.ofInt a1)]) (H1 := mz_mk g x) rfl ?_
              refine mz_bip rfl bip_43 ?_
              refine mz_ic_eq (tgt := 64) rfl rfl (mz_rg l_a1 u_a1) ⟨by decide, by decide⟩ (fun c43_0 => ?_) (fun c43_0 => ?_)
              · skip
                replace hE := zf_ip hE c43_0
                refine mm_g 1 (pc1 := 65) (lo1 := [some (.int (Int32.ofInt a1)), some (.int (Int32.ofInt 0))]) (st1 := [.int (Int32.ofInt 1)]) (H1 := mz_mk g x) rfl ?_
                refine mz_gt (tgt := 69) rfl rfl ?_
                exact mz_rtZ rfl (by decide) (by omega) (hQ _ (by decide) (by decide) hE)
              · skip
                replace hE := zf_in hE c43_0
                refine mm_g 1 (pc1 := 47) (lo1 := [some (.int (Int32.ofInt a1)), some (.int (Int32.ofInt 0))]) (st1 := [.int (Int32.ofInt a1)]) (H1 := mz_mk g x) rfl ?_
                refine mz_bip rfl bip_45 ?_
                refine mz_ic_eq (tgt := 64) rfl rfl (mz_rg l_a1 u_a1) ⟨by decide, by decide⟩ (fun c49_0 => ?_) (fun c49_0 => ?_)
                · skip
                  replace hE := zf_ip hE c49_0
                  refine mm_g 1 (pc1 := 65) (lo1 := [some (.int (Int32.ofInt a1)), some (.int (Int32.ofInt 0))]) (st1 := [.int (Int32.ofInt 1)]) (H1 := mz_mk g x) rfl ?_
                  refine mz_gt (tgt := 69) rfl rfl ?_
                  exact mz_rtZ rfl (by decide) (by omega) (hQ _ (by decide) (by decide) hE)
                · skip
                  replace hE := zf_in hE c49_0
                  refine mm_g 1 (pc1 := 53) (lo1 := [some (.int (Int32.ofInt a1)), some (.int (Int32.ofInt 0))]) (st1 := [.int (Int32.ofInt a1)]) (H1 := mz_mk g x) rfl ?_
                  refine mz_bip rfl bip_42 ?_
                  refine mz_ic_eq (tgt := 64) rfl rfl (mz_rg l_a1 u_a1) ⟨by decide, by decide⟩ (fun c55_0 => ?_) (fun c55_0 => ?_)
                  · skip
                    replace hE := zf_ip hE c55_0
                    refine mm_g 1 (pc1 := 65) (lo1 := [some (.int (Int32.ofInt a1)), some (.int (Int32.ofInt 0))]) (st1 := [.int (Int32.ofInt 1)]) (H1 := mz_mk g x) rfl ?_
                    refine mz_gt (tgt := 69) rfl rfl ?_
                    exact mz_rtZ rfl (by decide) (by omega) (hQ _ (by decide) (by decide) hE)
                  · skip
                    replace hE := zf_in hE c55_0
                    refine mm_g 1 (pc1 := 59) (lo1 := [some (.int (Int32.ofInt a1)), some (.int (Int32.ofInt 0))]) (st1 := [.int (Int32.ofInt a1)]) (H1 := mz_mk g x) rfl ?_
                    refine mz_bip rfl bip_47 ?_
                    refine mz_ic_ne (tgt := 68) rfl rfl (mz_rg l_a1 u_a1) ⟨by decide, by decide⟩ (fun c61_0 => ?_) (fun c61_0 => ?_)
                    · skip
                      replace hE := zf_in hE c61_0
                      refine mm_g 1 (pc1 := 69) (lo1 := [some (.int (Int32.ofInt a1)), some (.int (Int32.ofInt 0))]) (st1 := [.int (Int32.ofInt 0)]) (H1 := mz_mk g x) rfl ?_
                      exact mz_rtZ rfl (by decide) (by omega) (hQ _ (by decide) (by decide) hE)
                    · skip
                      replace hE := zf_ip hE c61_0
                      refine mm_g 1 (pc1 := 65) (lo1 := [some (.int (Int32.ofInt a1)), some (.int (Int32.ofInt 0))]) (st1 := [.int (Int32.ofInt 1)]) (H1 := mz_mk g x) rfl ?_
                      refine mz_gt (tgt := 69) rfl rfl ?_
                      exact mz_rtZ rfl (by decide) (by omega) (hQ _ (by decide) (by decide) hE)
          · skip
            replace hE := zf_ip hE c27_0
            refine mm_g 1 (pc1 := 31) (lo1 := [some (.int (Int32.ofInt a1)), none]) (st1 := [.int (Int32.ofInt 1)]) (H1 := mz_mk g x) rfl ?_
            refine mz_gt (tgt := 35) rfl rfl ?_
            refine mm_g 2 (pc1 := 37) (lo1 := [some (.int (Int32.ofInt a1)), some (.int (Int32.ofInt 1))]) (st1 := [.int (Int32.ofInt 1)]) (H1 := mz_mk g x) rfl ?_
            refine mz_if_ne (tgt := 64) rfl rfl ⟨by decide, by decide⟩ (fun c37_0 => ?_) (fun c37_0 => ?_)
            · skip
              (try unfold zJ_X7_isSign_30 at hE)
              (try unfold zJ_X7_isSign_35 at hE)
              (try unfold zJ_X7_isSign_64 at hE)
              (try unfold zJ_X7_isSign_30 at hE)
              (try unfold zJ_X7_isSign_35 at hE)
              (try unfold zJ_X7_isSign_64 at hE)
              replace hE := zf_in hE c37_0
              refine mm_g 1 (pc1 := 65) (lo1 := [some (.int (Int32.ofInt a1)), some (.int (Int32.ofInt 1))]) (st1 := [.int (Int32.ofInt 1)]) (H1 := mz_mk g x) rfl ?_
              refine mz_gt (tgt := 69) rfl rfl ?_
              exact mz_rtZ rfl (by decide) (by omega) (hQ _ (by decide) (by decide) hE)
            · exfalso; omega
def fl_X7_step_0 (x : mm_X) : Nat → Nat → Prop := fun k j => (k = 82 ∧ j = 3)
def fw_X7_step (x : mm_X) : Nat → Nat → Prop := fun k j => (k = 82 ∧ j = 3) ∨ (k = 82 ∧ j = 5) ∨ (k = 82 ∧ j = 6) ∨ (k = 82 ∧ j = 4)
theorem f_X7_step {d : Nat} (hd : 3 ≤ d) {x : mm_X} (hx : mk_x x) {g : mz_G} (hI : mz_inv g) {Q : (Option Value ⊕ Nat) → mm_H → Prop} (hQ : ∀ (g1 : mz_G), mz_inv g1 → mz_fr (fw_X7_step x) g g1 → zf_E (zF_X7_step g) (g1) → Q (.inl none) (mz_mk g1 x)) : mm_C d 81 [.ref 82] (mz_mk g x) Q := by
  refine ⟨mmX7_step, [some (.ref 82), none], rfl, rfl, ?_⟩
  have hE : zf_E (zF_X7_step g) (zF_X7_step g) := zf_rf
  have L4 : ∀ n3 : Nat, ∀ (g1 : mz_G), (700 - g1 82 3).toNat = n3 → mz_inv g1 → mz_fr (fl_X7_step_0 x) g g1 → (∃ fk : Nat, (700 - g1 82 3).toNat < fk ∧ zf_E (zF_X7_step g) (zL_X7_step_0 fk g1)) → mm_W d mmX7_step 0 [some (.ref 82), none] [] (mz_mk g1 x) Q := by
    intro n3
    induction n3 using Nat.strongRecOn with
    | ind n3 ih2 =>
    intro g1 hmn3 hIg1 hfg1 hF
    obtain ⟨fk, fl, hE⟩ := hF
    obtain ⟨fj5, rfl⟩ : ∃ fj, fk = fj + 1 := ⟨fk - 1, by omega⟩
    have fn6 : n3 ≤ fj5 := by omega
    replace hE := zf_tr hE zL_X7_step_0_s
    refine mm_g 1 (pc1 := 1) (lo1 := [some (.ref 82), none]) (st1 := [.ref 82]) (H1 := mz_mk g1 x) rfl ?_
    refine mz_gI rfl fd_7_22 (by decide) (sc_82 _) hIg1 bd_82_3 (fun v7 e_v7 l_v7 u_v7 => ?_)
    replace hE := zf_tr hE (zf_le e_v7)
    refine mm_g 1 (pc1 := 5) (lo1 := [some (.ref 82), none]) (st1 := [.ref 82, .int (Int32.ofInt v7)]) (H1 := mz_mk g1 x) rfl ?_
    refine mz_gI rfl fd_7_19 (by decide) (sc_82 _) hIg1 bd_82_2 (fun v8 e_v8 l_v8 u_v8 => ?_)
    replace hE := zf_tr hE (zf_le e_v8)
    refine mz_ic_ge (tgt := 50) rfl rfl (mz_rg l_v7 u_v7) (mz_rg l_v8 u_v8) (fun c8_8 => ?_) (fun c8_8 => ?_)
    · skip
      replace hE := zf_nl hE c8_8
      refine mm_g 2 (pc1 := 52) (lo1 := [some (.ref 82), none]) (st1 := [.ref 82, .ref 82]) (H1 := mz_mk g1 x) rfl ?_
      refine mz_fgI (v := v7) rfl fd_7_22 (by decide) (sc_82 _) e_v7 ?_
      replace hE := zf_tr hE (zf_le e_v7)
      refine mz_pI rfl fd_7_28 (sc_82 _) hIg1 bd_82_5 (by omega) (by omega) (fun g9 hIg9 hug9 => ?_)
      replace hE := zf_tr hE (zf_lg hug9)
      refine mm_g 2 (pc1 := 60) (lo1 := [some (.ref 82), none]) (st1 := [.int (Int32.ofInt 0), .ref 82]) (H1 := mz_mk g9 x) rfl ?_
      refine mz_pI rfl fd_7_31 (sc_82 _) hIg9 bd_82_6 (by omega) (by omega) (fun g10 hIg10 hug10 => ?_)
      replace hE := zf_tr hE (zf_lg hug10)
      refine mm_g 1 (pc1 := 64) (lo1 := [some (.ref 82), none]) (st1 := [.ref 82]) (H1 := mz_mk g10 x) rfl ?_
      refine mz_fgI (v := v7) rfl fd_7_22 (by decide) (sc_82 _) (show g10 82 3 = v7 from ((hug10.2 82 3 (fun h => absurd h.2 (by decide))).trans ((hug9.2 82 3 (fun h => absurd h.2 (by decide))).trans e_v7))) ?_
      replace hE := zf_tr hE (zf_le (show g10 82 3 = v7 from ((hug10.2 82 3 (fun h => absurd h.2 (by decide))).trans ((hug9.2 82 3 (fun h => absurd h.2 (by decide))).trans e_v7))))
      refine mm_g 1 (pc1 := 68) (lo1 := [some (.ref 82), none]) (st1 := [.ref 82, .int (Int32.ofInt v7)]) (H1 := mz_mk g10 x) rfl ?_
      refine mz_fgI (v := v8) rfl fd_7_19 (by decide) (sc_82 _) (show g10 82 2 = v8 from ((hug10.2 82 2 (fun h => absurd h.2 (by decide))).trans ((hug9.2 82 2 (fun h => absurd h.2 (by decide))).trans e_v8))) ?_
      replace hE := zf_tr hE (zf_le (show g10 82 2 = v8 from ((hug10.2 82 2 (fun h => absurd h.2 (by decide))).trans ((hug9.2 82 2 (fun h => absurd h.2 (by decide))).trans e_v8))))
      refine mz_ic_lt (tgt := 82) rfl rfl (mz_rg l_v7 u_v7) (mz_rg l_v8 u_v8) (fun c71_10 => ?_) (fun c71_10 => ?_)
      · exfalso; omega
      · skip
        replace hE := zf_nl hE c71_10
        refine mm_g 2 (pc1 := 76) (lo1 := [some (.ref 82), none]) (st1 := [.int (Int32.ofInt 0), .ref 82]) (H1 := mz_mk g10 x) rfl ?_
        refine mz_pI rfl fd_7_25 (sc_82 _) hIg10 bd_82_4 (by omega) (by omega) (fun g11 hIg11 hug11 => ?_)
        replace hE := zf_tr hE (zf_lg hug11)
        refine mz_gt (tgt := 159) rfl rfl ?_
        exact mm_rt rfl rfl (hQ _ hIg11 (fun k j hk => ((hug11.2 k j (fun h => hk (Or.inr (Or.inr (Or.inr h))))).trans ((hug10.2 k j (fun h => hk (Or.inr (Or.inr (Or.inl h))))).trans ((hug9.2 k j (fun h => hk (Or.inr (Or.inl h)))).trans (hfg1 k j (fun h => hk (Or.inl h))))))) hE)
    · skip
      replace hE := zf_ip hE c8_8
      refine mm_g 2 (pc1 := 13) (lo1 := [some (.ref 82), none]) (st1 := [.ref 82, .ref 82]) (H1 := mz_mk g1 x) rfl ?_
      refine mz_fgI (v := v7) rfl fd_7_22 (by decide) (sc_82 _) e_v7 ?_
      replace hE := zf_tr hE (zf_le e_v7)
      refine mz_cv rfl mt_7_37 (by decide) (sc_82 _) rfl (Nat.le_of_ble_eq_true rfl) (by omega) (f_X7_byteAt (by omega) hx hIg1 (by omega) (by omega) (fun v12 l_v12 u_v12 hc13 => ⟨_, rfl, ?_⟩))
      show mm_W d mmX7_step 19 [some (.ref 82), none] [.int (Int32.ofInt v12)] (mz_mk g1 x) Q
      replace hE := zf_t1 hE hc13
      refine mz_bip rfl bip_32 ?_
      refine mz_ic_eq (tgt := 37) rfl rfl (mz_rg l_v12 u_v12) ⟨by decide, by decide⟩ (fun c21_13 => ?_) (fun c21_13 => ?_)
      · skip
        replace hE := zf_ip hE c21_13
        refine mm_g 2 (pc1 := 39) (lo1 := [some (.ref 82), none]) (st1 := [.ref 82, .ref 82]) (H1 := mz_mk g1 x) rfl ?_
        refine mz_fgI (v := v7) rfl fd_7_22 (by decide) (sc_82 _) e_v7 ?_
        replace hE := zf_tr hE (zf_le e_v7)
        refine mm_g 1 (pc1 := 43) (lo1 := [some (.ref 82), none]) (st1 := [.int (Int32.ofInt 1), .int (Int32.ofInt v7), .ref 82]) (H1 := mz_mk g1 x) rfl ?_
        refine mz_iadd rfl ?_
        refine mz_pI rfl fd_7_22 (sc_82 _) hIg1 bd_82_3 (by omega) (by omega) (fun g14 hIg14 hug14 => ?_)
        replace hE := zf_tr hE (zf_lg hug14)
        refine mz_gt (tgt := 0) rfl rfl ?_
        exact ih2 ((700 - g14 82 3).toNat) (by have hz := (show g14 82 3 = (v7 + 1) from hug14.1); omega) g14 rfl hIg14 (fun k j hk => ((hug14.2 k j (fun h => hk h)).trans (hfg1 k j (fun h => hk h)))) ⟨fj5, Nat.lt_of_lt_of_le (show ((700 - g14 82 3).toNat) < n3 from (by have hz := (show g14 82 3 = (v7 + 1) from hug14.1); omega)) fn6, hE⟩
      · skip
        replace hE := zf_in hE c21_13
        refine mm_g 2 (pc1 := 26) (lo1 := [some (.ref 82), none]) (st1 := [.ref 82, .ref 82]) (H1 := mz_mk g1 x) rfl ?_
        refine mz_fgI (v := v7) rfl fd_7_22 (by decide) (sc_82 _) e_v7 ?_
        replace hE := zf_tr hE (zf_le e_v7)
        refine mz_cv rfl mt_7_37 (by decide) (sc_82 _) rfl (Nat.le_of_ble_eq_true rfl) (by omega) (f_X7_byteAt (by omega) hx hIg1 (by omega) (by omega) (fun v15 l_v15 u_v15 hc16 => ⟨_, rfl, ?_⟩))
        show mm_W d mmX7_step 32 [some (.ref 82), none] [.int (Int32.ofInt v15)] (mz_mk g1 x) Q
        replace hE := zf_t1 hE hc16
        refine mz_bip rfl bip_10 ?_
        refine mz_ic_ne (tgt := 50) rfl rfl (mz_rg l_v15 u_v15) ⟨by decide, by decide⟩ (fun c34_16 => ?_) (fun c34_16 => ?_)
        · skip
          replace hE := zf_in hE c34_16
          refine mm_g 2 (pc1 := 52) (lo1 := [some (.ref 82), none]) (st1 := [.ref 82, .ref 82]) (H1 := mz_mk g1 x) rfl ?_
          refine mz_fgI (v := v7) rfl fd_7_22 (by decide) (sc_82 _) e_v7 ?_
          replace hE := zf_tr hE (zf_le e_v7)
          refine mz_pI rfl fd_7_28 (sc_82 _) hIg1 bd_82_5 (by omega) (by omega) (fun g17 hIg17 hug17 => ?_)
          replace hE := zf_tr hE (zf_lg hug17)
          refine mm_g 2 (pc1 := 60) (lo1 := [some (.ref 82), none]) (st1 := [.int (Int32.ofInt 0), .ref 82]) (H1 := mz_mk g17 x) rfl ?_
          refine mz_pI rfl fd_7_31 (sc_82 _) hIg17 bd_82_6 (by omega) (by omega) (fun g18 hIg18 hug18 => ?_)
          replace hE := zf_tr hE (zf_lg hug18)
          refine mm_g 1 (pc1 := 64) (lo1 := [some (.ref 82), none]) (st1 := [.ref 82]) (H1 := mz_mk g18 x) rfl ?_
          refine mz_fgI (v := v7) rfl fd_7_22 (by decide) (sc_82 _) (show g18 82 3 = v7 from ((hug18.2 82 3 (fun h => absurd h.2 (by decide))).trans ((hug17.2 82 3 (fun h => absurd h.2 (by decide))).trans e_v7))) ?_
          replace hE := zf_tr hE (zf_le (show g18 82 3 = v7 from ((hug18.2 82 3 (fun h => absurd h.2 (by decide))).trans ((hug17.2 82 3 (fun h => absurd h.2 (by decide))).trans e_v7))))
          refine mm_g 1 (pc1 := 68) (lo1 := [some (.ref 82), none]) (st1 := [.ref 82, .int (Int32.ofInt v7)]) (H1 := mz_mk g18 x) rfl ?_
          refine mz_fgI (v := v8) rfl fd_7_19 (by decide) (sc_82 _) (show g18 82 2 = v8 from ((hug18.2 82 2 (fun h => absurd h.2 (by decide))).trans ((hug17.2 82 2 (fun h => absurd h.2 (by decide))).trans e_v8))) ?_
          replace hE := zf_tr hE (zf_le (show g18 82 2 = v8 from ((hug18.2 82 2 (fun h => absurd h.2 (by decide))).trans ((hug17.2 82 2 (fun h => absurd h.2 (by decide))).trans e_v8))))
          refine mz_ic_lt (tgt := 82) rfl rfl (mz_rg l_v7 u_v7) (mz_rg l_v8 u_v8) (fun c71_18 => ?_) (fun c71_18 => ?_)
          · skip
            replace hE := zf_ip hE c71_18
            refine mm_g 2 (pc1 := 84) (lo1 := [some (.ref 82), none]) (st1 := [.ref 82, .ref 82]) (H1 := mz_mk g18 x) rfl ?_
            refine mz_fgI (v := v7) rfl fd_7_22 (by decide) (sc_82 _) (show g18 82 3 = v7 from ((hug18.2 82 3 (fun h => absurd h.2 (by decide))).trans ((hug17.2 82 3 (fun h => absurd h.2 (by decide))).trans e_v7))) ?_
            replace hE := zf_tr hE (zf_le (show g18 82 3 = v7 from ((hug18.2 82 3 (fun h => absurd h.2 (by decide))).trans ((hug17.2 82 3 (fun h => absurd h.2 (by decide))).trans e_v7))))
            refine mz_cv rfl mt_7_37 (by decide) (sc_82 _) rfl (Nat.le_of_ble_eq_true rfl) (by omega) (f_X7_byteAt (by omega) hx hIg18 (by omega) (by omega) (fun v19 l_v19 u_v19 hc20 => ⟨_, rfl, ?_⟩))
            show mm_W d mmX7_step 90 [some (.ref 82), none] [.int (Int32.ofInt v19)] (mz_mk g18 x) Q
            replace hE := zf_t1 hE hc20
            refine mz_cs rfl mt_7_41 (by decide) rfl (Nat.le_of_ble_eq_true rfl) (by omega) (f_X7_isLetter (by omega) hx hIg18 (by omega) (by omega) (fun v21 l_v21 u_v21 hc22 => ⟨_, rfl, ?_⟩))
            show mm_W d mmX7_step 93 [some (.ref 82), none] [.int (Int32.ofInt v21)] (mz_mk g18 x) Q
            replace hE := zf_t1 hE hc22
            refine mz_if_eq (tgt := 103) rfl rfl (mz_rg l_v21 u_v21) (fun c93_22 => ?_) (fun c93_22 => ?_)
            · skip
              replace hE := zf_ip hE c93_22
              refine mm_g 2 (pc1 := 105) (lo1 := [some (.ref 82), none]) (st1 := [.ref 82, .ref 82]) (H1 := mz_mk g18 x) rfl ?_
              refine mz_fgI (v := v7) rfl fd_7_22 (by decide) (sc_82 _) (show g18 82 3 = v7 from ((hug18.2 82 3 (fun h => absurd h.2 (by decide))).trans ((hug17.2 82 3 (fun h => absurd h.2 (by decide))).trans e_v7))) ?_
              replace hE := zf_tr hE (zf_le (show g18 82 3 = v7 from ((hug18.2 82 3 (fun h => absurd h.2 (by decide))).trans ((hug17.2 82 3 (fun h => absurd h.2 (by decide))).trans e_v7))))
              refine mz_cv rfl mt_7_37 (by decide) (sc_82 _) rfl (Nat.le_of_ble_eq_true rfl) (by omega) (f_X7_byteAt (by omega) hx hIg18 (by omega) (by omega) (fun v23 l_v23 u_v23 hc24 => ⟨_, rfl, ?_⟩))
              show mm_W d mmX7_step 111 [some (.ref 82), none] [.int (Int32.ofInt v23)] (mz_mk g18 x) Q
              replace hE := zf_t1 hE hc24
              refine mz_cs rfl mt_7_48 (by decide) rfl (Nat.le_of_ble_eq_true rfl) (by omega) (f_X7_isDigit (by omega) hx hIg18 (by omega) (by omega) (fun v25 l_v25 u_v25 hc26 => ⟨_, rfl, ?_⟩))
              show mm_W d mmX7_step 114 [some (.ref 82), none] [.int (Int32.ofInt v25)] (mz_mk g18 x) Q
              replace hE := zf_t1 hE hc26
              refine mz_if_eq (tgt := 124) rfl rfl (mz_rg l_v25 u_v25) (fun c114_26 => ?_) (fun c114_26 => ?_)
              · skip
                replace hE := zf_ip hE c114_26
                refine mm_g 2 (pc1 := 126) (lo1 := [some (.ref 82), none]) (st1 := [.ref 82, .ref 82]) (H1 := mz_mk g18 x) rfl ?_
                refine mz_fgI (v := v7) rfl fd_7_22 (by decide) (sc_82 _) (show g18 82 3 = v7 from ((hug18.2 82 3 (fun h => absurd h.2 (by decide))).trans ((hug17.2 82 3 (fun h => absurd h.2 (by decide))).trans e_v7))) ?_
                replace hE := zf_tr hE (zf_le (show g18 82 3 = v7 from ((hug18.2 82 3 (fun h => absurd h.2 (by decide))).trans ((hug17.2 82 3 (fun h => absurd h.2 (by decide))).trans e_v7))))
                refine mz_cv rfl mt_7_37 (by decide) (sc_82 _) rfl (Nat.le_of_ble_eq_true rfl) (by omega) (f_X7_byteAt (by omega) hx hIg18 (by omega) (by omega) (fun v27 l_v27 u_v27 hc28 => ⟨_, rfl, ?_⟩))
                show mm_W d mmX7_step 132 [some (.ref 82), none] [.int (Int32.ofInt v27)] (mz_mk g18 x) Q
                replace hE := zf_t1 hE hc28
                refine mm_g 3 (pc1 := 135) (lo1 := [some (.ref 82), some (.int (Int32.ofInt v27))]) (st1 := [.int (Int32.ofInt v27), .ref 82]) (H1 := mz_mk g18 x) rfl ?_
                refine mz_cs rfl mt_7_54 (by decide) rfl (Nat.le_of_ble_eq_true rfl) (by omega) (f_X7_isSign (by omega) hx hIg18 (by omega) (by omega) (fun v29 l_v29 u_v29 hc30 => ⟨_, rfl, ?_⟩))
                show mm_W d mmX7_step 138 [some (.ref 82), some (.int (Int32.ofInt v27))] [.int (Int32.ofInt v29), .ref 82] (mz_mk g18 x) Q
                replace hE := zf_t1 hE hc30
                refine mz_if_eq (tgt := 145) rfl rfl (mz_rg l_v29 u_v29) (fun c138_30 => ?_) (fun c138_30 => ?_)
                · skip
                  replace hE := zf_ip hE c138_30
                  refine mm_g 1 (pc1 := 146) (lo1 := [some (.ref 82), some (.int (Int32.ofInt v27))]) (st1 := [.int (Int32.ofInt 3), .ref 82]) (H1 := mz_mk g18 x) rfl ?_
                  refine mz_pI rfl fd_7_25 (sc_82 _) hIg18 bd_82_4 (by omega) (by omega) (fun g31 hIg31 hug31 => ?_)
                  replace hE := zf_tr hE (zf_lg hug31)
                  refine mm_g 2 (pc1 := 151) (lo1 := [some (.ref 82), some (.int (Int32.ofInt v27))]) (st1 := [.ref 82, .ref 82]) (H1 := mz_mk g31 x) rfl ?_
                  refine mz_fgI (v := v7) rfl fd_7_22 (by decide) (sc_82 _) (show g31 82 3 = v7 from ((hug31.2 82 3 (fun h => absurd h.2 (by decide))).trans ((hug18.2 82 3 (fun h => absurd h.2 (by decide))).trans ((hug17.2 82 3 (fun h => absurd h.2 (by decide))).trans e_v7)))) ?_
                  replace hE := zf_tr hE (zf_le (show g31 82 3 = v7 from ((hug31.2 82 3 (fun h => absurd h.2 (by decide))).trans ((hug18.2 82 3 (fun h => absurd h.2 (by decide))).trans ((hug17.2 82 3 (fun h => absurd h.2 (by decide))).trans e_v7)))))
                  refine mm_g 1 (pc1 := 155) (lo1 := [some (.ref 82), some (.int (Int32.ofInt v27))]) (st1 := [.int (Int32.ofInt 1), .int (Int32.ofInt v7), .ref 82]) (H1 := mz_mk g31 x) rfl ?_
                  refine mz_iadd rfl ?_
                  refine mz_pI rfl fd_7_22 (sc_82 _) hIg31 bd_82_3 (by omega) (by omega) (fun g32 hIg32 hug32 => ?_)
                  replace hE := zf_tr hE (zf_lg hug32)
                  exact mm_rt rfl rfl (hQ _ hIg32 (fun k j hk => ((hug32.2 k j (fun h => hk (Or.inl h))).trans ((hug31.2 k j (fun h => hk (Or.inr (Or.inr (Or.inr h))))).trans ((hug18.2 k j (fun h => hk (Or.inr (Or.inr (Or.inl h))))).trans ((hug17.2 k j (fun h => hk (Or.inr (Or.inl h)))).trans (hfg1 k j (fun h => hk (Or.inl h)))))))) hE)
                · skip
                  replace hE := zf_in hE c138_30
                  refine mm_g 1 (pc1 := 142) (lo1 := [some (.ref 82), some (.int (Int32.ofInt v27))]) (st1 := [.int (Int32.ofInt v27), .ref 82]) (H1 := mz_mk g18 x) rfl ?_
                  refine mz_gt (tgt := 146) rfl rfl ?_
                  refine mz_pI rfl fd_7_25 (sc_82 _) hIg18 bd_82_4 (by omega) (by omega) (fun g33 hIg33 hug33 => ?_)
                  replace hE := zf_tr hE (zf_lg hug33)
                  refine mm_g 2 (pc1 := 151) (lo1 := [some (.ref 82), some (.int (Int32.ofInt v27))]) (st1 := [.ref 82, .ref 82]) (H1 := mz_mk g33 x) rfl ?_
                  refine mz_fgI (v := v7) rfl fd_7_22 (by decide) (sc_82 _) (show g33 82 3 = v7 from ((hug33.2 82 3 (fun h => absurd h.2 (by decide))).trans ((hug18.2 82 3 (fun h => absurd h.2 (by decide))).trans ((hug17.2 82 3 (fun h => absurd h.2 (by decide))).trans e_v7)))) ?_
                  replace hE := zf_tr hE (zf_le (show g33 82 3 = v7 from ((hug33.2 82 3 (fun h => absurd h.2 (by decide))).trans ((hug18.2 82 3 (fun h => absurd h.2 (by decide))).trans ((hug17.2 82 3 (fun h => absurd h.2 (by decide))).trans e_v7)))))
                  refine mm_g 1 (pc1 := 155) (lo1 := [some (.ref 82), some (.int (Int32.ofInt v27))]) (st1 := [.int (Int32.ofInt 1), .int (Int32.ofInt v7), .ref 82]) (H1 := mz_mk g33 x) rfl ?_
                  refine mz_iadd rfl ?_
                  refine mz_pI rfl fd_7_22 (sc_82 _) hIg33 bd_82_3 (by omega) (by omega) (fun g34 hIg34 hug34 => ?_)
                  replace hE := zf_tr hE (zf_lg hug34)
                  exact mm_rt rfl rfl (hQ _ hIg34 (fun k j hk => ((hug34.2 k j (fun h => hk (Or.inl h))).trans ((hug33.2 k j (fun h => hk (Or.inr (Or.inr (Or.inr h))))).trans ((hug18.2 k j (fun h => hk (Or.inr (Or.inr (Or.inl h))))).trans ((hug17.2 k j (fun h => hk (Or.inr (Or.inl h)))).trans (hfg1 k j (fun h => hk (Or.inl h)))))))) hE)
              · skip
                replace hE := zf_in hE c114_26
                refine mm_g 1 (pc1 := 118) (lo1 := [some (.ref 82), none]) (st1 := [.ref 82]) (H1 := mz_mk g18 x) rfl ?_
                refine mz_cv rfl mt_7_51 (by decide) (sc_82 _) rfl (Nat.le_of_ble_eq_true rfl) (by omega) (f_X7_stepNumber (by omega) hx hIg18 (fun g35 hIg35 hfg35 hc36 => ⟨_, rfl, ?_⟩))
                show mm_W d mmX7_step 121 [some (.ref 82), none] [] (mz_mk g35 x) Q
                replace hE := zf_t1 hE hc36
                refine mz_gt (tgt := 159) rfl rfl ?_
                exact mm_rt rfl rfl (hQ _ hIg35 (fun k j hk => ((hfg35 k j (fun h => hk (Or.elim h (fun h => (Or.inr (Or.inr (Or.inr h)))) (fun h => (Or.elim h (fun h => (Or.inr (Or.inr (Or.inl h)))) (fun h => (Or.inl h))))))).trans ((hug18.2 k j (fun h => hk (Or.inr (Or.inr (Or.inl h))))).trans ((hug17.2 k j (fun h => hk (Or.inr (Or.inl h)))).trans (hfg1 k j (fun h => hk (Or.inl h))))))) hE)
            · skip
              replace hE := zf_in hE c93_22
              refine mm_g 1 (pc1 := 97) (lo1 := [some (.ref 82), none]) (st1 := [.ref 82]) (H1 := mz_mk g18 x) rfl ?_
              refine mz_cv rfl mt_7_45 (by decide) (sc_82 _) rfl (Nat.le_of_ble_eq_true rfl) (by omega) (f_X7_stepWord (by omega) hx hIg18 (fun g37 hIg37 hfg37 hc38 => ⟨_, rfl, ?_⟩))
              show mm_W d mmX7_step 100 [some (.ref 82), none] [] (mz_mk g37 x) Q
              replace hE := zf_t1 hE hc38
              refine mz_gt (tgt := 159) rfl rfl ?_
              exact mm_rt rfl rfl (hQ _ hIg37 (fun k j hk => ((hfg37 k j (fun h => hk (Or.elim h (fun h => (Or.inr (Or.inr (Or.inr h)))) (fun h => (Or.inl h))))).trans ((hug18.2 k j (fun h => hk (Or.inr (Or.inr (Or.inl h))))).trans ((hug17.2 k j (fun h => hk (Or.inr (Or.inl h)))).trans (hfg1 k j (fun h => hk (Or.inl h))))))) hE)
          · exfalso; omega
        · skip
          replace hE := zf_ip hE c34_16
          refine mm_g 2 (pc1 := 39) (lo1 := [some (.ref 82), none]) (st1 := [.ref 82, .ref 82]) (H1 := mz_mk g1 x) rfl ?_
          refine mz_fgI (v := v7) rfl fd_7_22 (by decide) (sc_82 _) e_v7 ?_
          replace hE := zf_tr hE (zf_le e_v7)
          refine mm_g 1 (pc1 := 43) (lo1 := [some (.ref 82), none]) (st1 := [.int (Int32.ofInt 1), .int (Int32.ofInt v7), .ref 82]) (H1 := mz_mk g1 x) rfl ?_
          refine mz_iadd rfl ?_
          refine mz_pI rfl fd_7_22 (sc_82 _) hIg1 bd_82_3 (by omega) (by omega) (fun g39 hIg39 hug39 => ?_)
          replace hE := zf_tr hE (zf_lg hug39)
          refine mz_gt (tgt := 0) rfl rfl ?_
          exact ih2 ((700 - g39 82 3).toNat) (by have hz := (show g39 82 3 = (v7 + 1) from hug39.1); omega) g39 rfl hIg39 (fun k j hk => ((hug39.2 k j (fun h => hk h)).trans (hfg1 k j (fun h => hk h)))) ⟨fj5, Nat.lt_of_lt_of_le (show ((700 - g39 82 3).toNat) < n3 from (by have hz := (show g39 82 3 = (v7 + 1) from hug39.1); omega)) fn6, hE⟩
  exact L4 _ g rfl hI (fun _ _ _ => rfl) ⟨3000000000, by have bq0 := mz_rd hI bd_82_3; omega, hE⟩
def fw_X7_open (x : mm_X) (a1 : Int) : Nat → Nat → Prop := fun k j => (k = 82 ∧ j = 1) ∨ (k = 82 ∧ j = 2) ∨ (k = 82 ∧ j = 3) ∨ (k = 82 ∧ j = 5) ∨ (k = 82 ∧ j = 6) ∨ (k = 82 ∧ j = 4)
theorem f_X7_open {d : Nat} (hd : 4 ≤ d) {x : mm_X} (hx : mk_x x) {g : mz_G} (hI : mz_inv g) {a1 : Int} (l_a1 : 0 ≤ a1) (u_a1 : a1 ≤ 700) {Q : (Option Value ⊕ Nat) → mm_H → Prop} (hQ : ∀ (g1 : mz_G), mz_inv g1 → mz_fr (fw_X7_open x a1) g g1 → (g1 82 1 = 0) → zf_E (zF_X7_open a1 g) (g1) → Q (.inl none) (mz_mk g1 x)) : mm_C d 80 [.ref 82, .int (Int32.ofInt a1)] (mz_mk g x) Q := by
  refine ⟨mmX7_open, [some (.ref 82), some (.int (Int32.ofInt a1))], rfl, rfl, ?_⟩
  have bz0 := mz_rd hI bd_82_1
  have hE : zf_E (zF_X7_open a1 g) (zF_X7_open a1 g) := zf_rf
  refine mm_g 2 (pc1 := 2) (lo1 := [some (.ref 82), some (.int (Int32.ofInt a1))]) (st1 := [.int (Int32.ofInt 0), .ref 82]) (H1 := mz_mk g x) rfl ?_
  refine mz_pI rfl fd_7_15 (sc_82 _) hI bd_82_1 (by omega) (by omega) (fun g1 hIg1 hug1 => ?_)
  replace hE := zf_tr hE (zf_lg hug1)
  refine mm_g 2 (pc1 := 7) (lo1 := [some (.ref 82), some (.int (Int32.ofInt a1))]) (st1 := [.int (Int32.ofInt a1), .ref 82]) (H1 := mz_mk g1 x) rfl ?_
  refine mz_pI rfl fd_7_19 (sc_82 _) hIg1 bd_82_2 (by omega) (by omega) (fun g2 hIg2 hug2 => ?_)
  replace hE := zf_tr hE (zf_lg hug2)
  refine mm_g 2 (pc1 := 12) (lo1 := [some (.ref 82), some (.int (Int32.ofInt a1))]) (st1 := [.int (Int32.ofInt 0), .ref 82]) (H1 := mz_mk g2 x) rfl ?_
  refine mz_pI rfl fd_7_22 (sc_82 _) hIg2 bd_82_3 (by omega) (by omega) (fun g3 hIg3 hug3 => ?_)
  replace hE := zf_tr hE (zf_lg hug3)
  refine mm_g 1 (pc1 := 16) (lo1 := [some (.ref 82), some (.int (Int32.ofInt a1))]) (st1 := [.ref 82]) (H1 := mz_mk g3 x) rfl ?_
  refine mz_cv rfl mt_7_34 (by decide) (sc_82 _) rfl (Nat.le_of_ble_eq_true rfl) (by omega) (f_X7_step (by omega) hx hIg3 (fun g4 hIg4 hfg4 hc5 => ⟨_, rfl, ?_⟩))
  show mm_W d mmX7_open 19 [some (.ref 82), some (.int (Int32.ofInt a1))] [] (mz_mk g4 x) Q
  replace hE := zf_t1 hE hc5
  exact mm_rt rfl rfl (hQ _ hIg4 (fun k j hk => ((hfg4 k j (fun h => hk (Or.elim h (fun h => (Or.inr (Or.inr (Or.inl h)))) (fun h => (Or.elim h (fun h => (Or.inr (Or.inr (Or.inr (Or.inl h))))) (fun h => (Or.elim h (fun h => (Or.inr (Or.inr (Or.inr (Or.inr (Or.inl h)))))) (fun h => (Or.inr (Or.inr (Or.inr (Or.inr (Or.inr h))))))))))))).trans ((hug3.2 k j (fun h => hk (Or.inr (Or.inr (Or.inl h))))).trans ((hug2.2 k j (fun h => hk (Or.inr (Or.inl h)))).trans (hug1.2 k j (fun h => hk (Or.inl h))))))) (by have h9 := (show g4 82 1 = 0 from ((hfg4 82 1 nj_1).trans ((hug3.2 82 1 (fun h => absurd h.2 (by decide))).trans ((hug2.2 82 1 (fun h => absurd h.2 (by decide))).trans hug1.1)))); omega) hE)
def fw_X4_begin (x : mm_X) (a1 : Int) : Nat → Nat → Prop := fun k j => (k = 81 ∧ j = 1) ∨ (k = 81 ∧ j = 2) ∨ (k = 82 ∧ j = 1) ∨ (k = 82 ∧ j = 2) ∨ (k = 82 ∧ j = 3) ∨ (k = 82 ∧ j = 5) ∨ (k = 82 ∧ j = 6) ∨ (k = 82 ∧ j = 4)
theorem f_X4_begin {d : Nat} (hd : 5 ≤ d) {x : mm_X} (hx : mk_x x) {g : mz_G} (hI : mz_inv g) {a1 : Int} (l_a1 : 0 ≤ a1) (u_a1 : a1 ≤ 700) {Q : (Option Value ⊕ Nat) → mm_H → Prop} (hQ : ∀ (g1 : mz_G), mz_inv g1 → mz_fr (fw_X4_begin x a1) g g1 → (g1 82 1 = 0) → zf_E (zF_X4_begin a1 g) (g1) → Q (.inl none) (mz_mk g1 x)) : mm_C d 38 [.ref 81, .int (Int32.ofInt a1)] (mz_mk g x) Q := by
  refine ⟨mmX4_begin, [some (.ref 81), some (.int (Int32.ofInt a1))], rfl, rfl, ?_⟩
  have bz0 := mz_rd hI bd_82_1
  have hE : zf_E (zF_X4_begin a1 g) (zF_X4_begin a1 g) := zf_rf
  refine mm_g 2 (pc1 := 2) (lo1 := [some (.ref 81), some (.int (Int32.ofInt a1))]) (st1 := [.int (Int32.ofInt 0), .ref 81]) (H1 := mz_mk g x) rfl ?_
  refine mz_pI rfl fd_4_18 (sc_81 _) hI bd_81_1 (by omega) (by omega) (fun g1 hIg1 hug1 => ?_)
  replace hE := zf_tr hE (zf_lg hug1)
  refine mm_g 2 (pc1 := 7) (lo1 := [some (.ref 81), some (.int (Int32.ofInt a1))]) (st1 := [.int (Int32.ofInt (-1)), .ref 81]) (H1 := mz_mk g1 x) rfl ?_
  refine mz_pI rfl fd_4_22 (sc_81 _) hIg1 bd_81_2 (by omega) (by omega) (fun g2 hIg2 hug2 => ?_)
  replace hE := zf_tr hE (zf_lg hug2)
  refine mm_g 1 (pc1 := 11) (lo1 := [some (.ref 81), some (.int (Int32.ofInt a1))]) (st1 := [.ref 81]) (H1 := mz_mk g2 x) rfl ?_
  refine mz_fgR (v := 82) rfl fd_4_12 (by decide) (sc_81 _) (rf_81_0 _ _ _) ?_
  refine mm_g 1 (pc1 := 15) (lo1 := [some (.ref 81), some (.int (Int32.ofInt a1))]) (st1 := [.int (Int32.ofInt a1), .ref 82]) (H1 := mz_mk g2 x) rfl ?_
  have hq3 : g2 82 1 = (g 82 1) := (show g2 82 1 = (g 82 1) from ((hug2.2 82 1 (fun h => absurd h.1 (by decide))).trans ((hug1.2 82 1 (fun h => absurd h.1 (by decide))).trans rfl)))
  refine mz_cv rfl mt_4_45 (by decide) (sc_82 _) rfl (Nat.le_of_ble_eq_true rfl) (by omega) (f_X7_open (by omega) hx hIg2 l_a1 u_a1 (fun g4 hIg4 hfg4 hp5 hc6 => ⟨_, rfl, ?_⟩))
  show mm_W d mmX4_begin 18 [some (.ref 81), some (.int (Int32.ofInt a1))] [] (mz_mk g4 x) Q
  replace hE := zf_t1 hE hc6
  have bz_g4_1 := mz_rd hIg4 bd_82_1
  exact mm_rt rfl rfl (hQ _ hIg4 (fun k j hk => ((hfg4 k j (fun h => hk (Or.elim h (fun h => (Or.inr (Or.inr (Or.inl h)))) (fun h => (Or.elim h (fun h => (Or.inr (Or.inr (Or.inr (Or.inl h))))) (fun h => (Or.elim h (fun h => (Or.inr (Or.inr (Or.inr (Or.inr (Or.inl h)))))) (fun h => (Or.elim h (fun h => (Or.inr (Or.inr (Or.inr (Or.inr (Or.inr (Or.inl h))))))) (fun h => (Or.elim h (fun h => (Or.inr (Or.inr (Or.inr (Or.inr (Or.inr (Or.inr (Or.inl h)))))))) (fun h => (Or.inr (Or.inr (Or.inr (Or.inr (Or.inr (Or.inr (Or.inr h))))))))))))))))))).trans ((hug2.2 k j (fun h => hk (Or.inr (Or.inl h)))).trans (hug1.2 k j (fun h => hk (Or.inl h)))))) (by omega) hE)
theorem f_X7_kind {d : Nat} (hd : 1 ≤ d) {x : mm_X} (hx : mk_x x) {g : mz_G} (hI : mz_inv g) {Q : (Option Value ⊕ Nat) → mm_H → Prop} (hQ : ∀ (r : Int), (-2147483648) ≤ r → r ≤ 2147483647 → zf_E (zF_X7_kind g) (r) → Q (.inl (some (.int (Int32.ofInt r)))) (mz_mk g x)) : mm_C d 88 [.ref 82] (mz_mk g x) Q := by
  refine ⟨mmX7_kind, [some (.ref 82)], rfl, rfl, ?_⟩
  have hE : zf_E (zF_X7_kind g) (zF_X7_kind g) := zf_rf
  refine mm_g 1 (pc1 := 1) (lo1 := [some (.ref 82)]) (st1 := [.ref 82]) (H1 := mz_mk g x) rfl ?_
  refine mz_gI rfl fd_7_25 (by decide) (sc_82 _) hI bd_82_4 (fun v1 e_v1 l_v1 u_v1 => ?_)
  replace hE := zf_tr hE (zf_le e_v1)
  exact mm_rt rfl rfl (hQ _ (by omega) (by omega) hE)
