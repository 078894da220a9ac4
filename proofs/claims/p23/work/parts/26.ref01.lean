/-! EXACT: the reference (wip/p2/tools/gen50.py) -/
theorem nj_10 : ¬ (((137 : Nat) = 137 ∧ (17 : Nat) = 16) ∨ ((137 : Nat) = 137 ∧ (17 : Nat) = 20) ∨ ((137 : Nat) = 137 ∧ (17 : Nat) = 18) ∨ ((137 : Nat) = 137 ∧ (17 : Nat) = 21) ∨ ((137 : Nat) = 137 ∧ (17 : Nat) = 19)) := (fun h => (Or.elim h (fun h => (absurd (show (137 = 137 ∧ 17 = 16) from h) (by decide))) (fun h => (Or.elim h (fun h => (absurd (show (137 = 137 ∧ 17 = 20) from h) (by decide))) (fun h => (Or.elim h (fun h => (absurd (show (137 = 137 ∧ 17 = 18) from h) (by decide))) (fun h => (Or.elim h (fun h => (absurd (show (137 = 137 ∧ 17 = 21) from h) (by decide))) (fun h => (absurd (show (137 = 137 ∧ 17 = 19) from h) (by decide)))))))))))
theorem nj_11 : ¬ (((137 : Nat) = 137 ∧ (22 : Nat) = 16) ∨ ((137 : Nat) = 137 ∧ (22 : Nat) = 20) ∨ ((137 : Nat) = 137 ∧ (22 : Nat) = 18) ∨ ((137 : Nat) = 137 ∧ (22 : Nat) = 21) ∨ ((137 : Nat) = 137 ∧ (22 : Nat) = 19)) := (fun h => (Or.elim h (fun h => (absurd (show (137 = 137 ∧ 22 = 16) from h) (by decide))) (fun h => (Or.elim h (fun h => (absurd (show (137 = 137 ∧ 22 = 20) from h) (by decide))) (fun h => (Or.elim h (fun h => (absurd (show (137 = 137 ∧ 22 = 18) from h) (by decide))) (fun h => (Or.elim h (fun h => (absurd (show (137 = 137 ∧ 22 = 21) from h) (by decide))) (fun h => (absurd (show (137 = 137 ∧ 22 = 19) from h) (by decide)))))))))))
theorem nj_12 : ¬ (((137 : Nat) = 137 ∧ (16 : Nat) = 22) ∨ ((137 : Nat) = 137 ∧ (16 : Nat) = 23)) := (fun h => (Or.elim h (fun h => (absurd (show (137 = 137 ∧ 16 = 22) from h) (by decide))) (fun h => (absurd (show (137 = 137 ∧ 16 = 23) from h) (by decide)))))
theorem nj_13 : ¬ (((137 : Nat) = 137 ∧ (17 : Nat) = 22) ∨ ((137 : Nat) = 137 ∧ (17 : Nat) = 23)) := (fun h => (Or.elim h (fun h => (absurd (show (137 = 137 ∧ 17 = 22) from h) (by decide))) (fun h => (absurd (show (137 = 137 ∧ 17 = 23) from h) (by decide)))))
theorem nj_14 : ¬ (((137 : Nat) = 137 ∧ (18 : Nat) = 22) ∨ ((137 : Nat) = 137 ∧ (18 : Nat) = 23)) := (fun h => (Or.elim h (fun h => (absurd (show (137 = 137 ∧ 18 = 22) from h) (by decide))) (fun h => (absurd (show (137 = 137 ∧ 18 = 23) from h) (by decide)))))
theorem nj_15 : ¬ (((137 : Nat) = 137 ∧ (20 : Nat) = 22) ∨ ((137 : Nat) = 137 ∧ (20 : Nat) = 23)) := (fun h => (Or.elim h (fun h => (absurd (show (137 = 137 ∧ 20 = 22) from h) (by decide))) (fun h => (absurd (show (137 = 137 ∧ 20 = 23) from h) (by decide)))))
theorem nj_16 : ¬ (((137 : Nat) = 137 ∧ (21 : Nat) = 22) ∨ ((137 : Nat) = 137 ∧ (21 : Nat) = 23)) := (fun h => (Or.elim h (fun h => (absurd (show (137 = 137 ∧ 21 = 22) from h) (by decide))) (fun h => (absurd (show (137 = 137 ∧ 21 = 23) from h) (by decide)))))
theorem nj_17 : ¬ (((137 : Nat) = 137 ∧ (19 : Nat) = 22) ∨ ((137 : Nat) = 137 ∧ (19 : Nat) = 23)) := (fun h => (Or.elim h (fun h => (absurd (show (137 = 137 ∧ 19 = 22) from h) (by decide))) (fun h => (absurd (show (137 = 137 ∧ 19 = 23) from h) (by decide)))))
theorem nj_18 {p1 p2 : Prop} : ¬ (((140 : Nat) = 137 ∧ p1) ∨ ((140 : Nat) = 137 ∧ p2)) := (fun h => (Or.elim h (fun h => (absurd (show 140 = 137 from (h).1) (by decide))) (fun h => (absurd (show 140 = 137 from (h).1) (by decide)))))
theorem nj_19 : ¬ ((137 : Nat) = 152 ∨ (137 : Nat) = 153 ∨ (137 : Nat) = 154 ∨ (137 : Nat) = 155) := (fun h => (Or.elim h (fun h => (absurd (show 137 = 152 from h) (by decide))) (fun h => (Or.elim h (fun h => (absurd (show 137 = 153 from h) (by decide))) (fun h => (Or.elim h (fun h => (absurd (show 137 = 154 from h) (by decide))) (fun h => (absurd (show 137 = 155 from h) (by decide)))))))))
theorem bip_18 : (Int8.ofInt 18).toInt32 = Int32.ofInt 18 := by decide
theorem sip_9999 : (Int16.ofInt 9999).toInt32 = Int32.ofInt 9999 := by decide
theorem fd_12_40 : mm_tab mm_fldT 12 40 = some (12, 4, 0) ∧ mm_tab mm_ftT 12 4 = some 6 := ⟨rfl, rfl⟩
theorem fd_12_43 : mm_tab mm_fldT 12 43 = some (12, 5, 0) ∧ mm_tab mm_ftT 12 5 = some 6 := ⟨rfl, rfl⟩
theorem fd_12_63 : mm_tab mm_fldT 12 63 = some (12, 12, 0) ∧ mm_tab mm_ftT 12 12 = some 6 := ⟨rfl, rfl⟩
theorem fd_12_72 : mm_tab mm_fldT 12 72 = some (12, 24, 0) ∧ mm_tab mm_ftT 12 24 = some 0 := ⟨rfl, rfl⟩
theorem fd_12_76 : mm_tab mm_fldT 12 76 = some (12, 25, 0) ∧ mm_tab mm_ftT 12 25 = some 6 := ⟨rfl, rfl⟩
theorem fd_12_78 : mm_tab mm_fldT 12 78 = some (12, 26, 0) ∧ mm_tab mm_ftT 12 26 = some 6 := ⟨rfl, rfl⟩
theorem fd_12_80 : mm_tab mm_fldT 12 80 = some (12, 27, 0) ∧ mm_tab mm_ftT 12 27 = some 6 := ⟨rfl, rfl⟩
theorem fd_12_82 : mm_tab mm_fldT 12 82 = some (12, 28, 0) ∧ mm_tab mm_ftT 12 28 = some 6 := ⟨rfl, rfl⟩
theorem fd_12_307 : mm_tab mm_fldT 12 307 = some (12, 30, 0) ∧ mm_tab mm_ftT 12 30 = some 0 := ⟨rfl, rfl⟩
theorem mt_12_221 : mm_tab mm_mthT 12 221 = some (1, 197, 1, 0, 12) := rfl
theorem mt_12_224 : mm_tab mm_mthT 12 224 = some (1, 194, 1, 0, 12) := rfl
theorem mt_12_228 : mm_tab mm_mthT 12 228 = some (1, 193, 0, 0, 12) := rfl
theorem mt_12_231 : mm_tab mm_mthT 12 231 = some (1, 199, 2, 0, 12) := rfl
theorem mt_12_320 : mm_tab mm_mthT 12 320 = some (1, 221, 2, 0, 12) := rfl
theorem sh_141 (L : Nat) : mm_SH L 141 = (100, 128) := rfl
theorem sh_142 (L : Nat) : mm_SH L 142 = (100, 16) := rfl
theorem sh_149 (L : Nat) : mm_SH L 149 = (100, 1400) := rfl
theorem sh_152 (L : Nat) : mm_SH L 152 = (100, 6) := rfl
theorem sh_153 (L : Nat) : mm_SH L 153 = (100, 6) := rfl
theorem sh_154 (L : Nat) : mm_SH L 154 = (100, 6) := rfl
theorem sh_155 (L : Nat) : mm_SH L 155 = (100, 6) := rfl
theorem bd_137_24 : mz_bd 137 24 = ((-2147483648), 2147483647) := rfl
theorem ba_141 (j : Nat) : mz_bd 141 j = ((-2147483648), 2147483647) := rfl
theorem ba_142 (j : Nat) : mz_bd 142 j = (0, 8) := rfl
theorem ba_149 (j : Nat) : mz_bd 149 j = ((-2147483648), 2147483647) := rfl
theorem ba_152 (j : Nat) : mz_bd 152 j = (0, 8) := rfl
theorem ba_153 (j : Nat) : mz_bd 153 j = (0, 7) := rfl
theorem ba_154 (j : Nat) : mz_bd 154 j = (0, 7) := rfl
theorem ba_155 (j : Nat) : mz_bd 155 j = ((-2147483648), 2147483647) := rfl
theorem rf_137_4 (a b : Nat) (c : Option Nat) : mm_HR a b c 137 4 = some 141 := rfl
theorem rf_137_5 (a b : Nat) (c : Option Nat) : mm_HR a b c 137 5 = some 142 := rfl
theorem rf_137_12 (a b : Nat) (c : Option Nat) : mm_HR a b c 137 12 = some 149 := rfl
theorem rf_137_25 (a b : Nat) (c : Option Nat) : mm_HR a b c 137 25 = some 152 := rfl
theorem rf_137_26 (a b : Nat) (c : Option Nat) : mm_HR a b c 137 26 = some 153 := rfl
theorem rf_137_27 (a b : Nat) (c : Option Nat) : mm_HR a b c 137 27 = some 154 := rfl
theorem rf_137_28 (a b : Nat) (c : Option Nat) : mm_HR a b c 137 28 = some 155 := rfl
theorem bt_140_4 : mz_bd 140 4 = (0, 8) := rfl
theorem bt_140_5 : mz_bd 140 5 = (0, 6) := rfl
theorem bt_140_6 : mz_bd 140 6 = (0, 8) := rfl
theorem bt_140_7 : mz_bd 140 7 = (0, 700) := rfl
theorem f_X12_isMarked {d : Nat} (hd : 1 ≤ d) {x : mm_X} (hx : mk_x x) {g : mz_G} (hI : mz_inv g) {a1 : Int} (l_a1 : (-2147483648) ≤ a1) (u_a1 : a1 ≤ 2147483647) (p1 : g 137 20 ≤ g 137 16 ∧ g 137 21 = g 137 16 ∧ g 137 16 ≤ g 137 17 ∧ (g 137 18 ≠ 0 → g 137 20 < g 137 16)) {Q : (Option Value ⊕ Nat) → mm_H → Prop} (hQ : ∀ (r : Int), 0 ≤ r → r ≤ 1 → (r = 1 → g 137 22 = 0 ∧ g 137 18 = 3) → zf_E (zF_X12_isMarked a1 g) (r) → Q (.inl (some (.int (Int32.ofInt r)))) (mz_mk g x)) : mm_C d 197 [.ref 137, .int (Int32.ofInt a1)] (mz_mk g x) Q := by
  refine ⟨mmX12_isMarked, [some (.ref 137), some (.int (Int32.ofInt a1))], rfl, rfl, ?_⟩
  have bz0 := mz_rd hI bd_137_16
  have bz1 := mz_rd hI bd_137_17
  have bz2 := mz_rd hI bd_137_18
  have bz3 := mz_rd hI bd_137_20
  have bz4 := mz_rd hI bd_137_21
  have bz5 := mz_rd hI bd_137_22
  have hE : zf_E (zF_X12_isMarked a1 g) (zF_X12_isMarked a1 g) := zf_rf
  refine mm_g 1 (pc1 := 1) (lo1 := [some (.ref 137), some (.int (Int32.ofInt a1))]) (st1 := [.ref 137]) (H1 := mz_mk g x) rfl ?_
  refine mz_fgI (v := (g 137 22)) rfl fd_12_203 (by decide) (sc_137 _) (show g 137 22 = (g 137 22) from rfl) ?_
  replace hE := zf_tr hE (zf_le (show g 137 22 = (g 137 22) from rfl))
  refine mz_if_ne (tgt := 32) rfl rfl ⟨by omega, by omega⟩ (fun c4_0 => ?_) (fun c4_0 => ?_)
  · skip
    replace hE := zf_in hE c4_0
    refine mm_g 1 (pc1 := 33) (lo1 := [some (.ref 137), some (.int (Int32.ofInt a1))]) (st1 := [.int (Int32.ofInt 0)]) (H1 := mz_mk g x) rfl ?_
    exact mz_rtZ rfl (by decide) (by omega) (hQ _ (by decide) (by decide) (by omega) hE)
  · skip
    replace hE := zf_ip hE c4_0
    refine mm_g 1 (pc1 := 8) (lo1 := [some (.ref 137), some (.int (Int32.ofInt a1))]) (st1 := [.ref 137]) (H1 := mz_mk g x) rfl ?_
    refine mz_fgI (v := (g 137 18)) rfl fd_12_177 (by decide) (sc_137 _) (show g 137 18 = (g 137 18) from rfl) ?_
    replace hE := zf_tr hE (zf_le (show g 137 18 = (g 137 18) from rfl))
    refine mm_g 1 (pc1 := 12) (lo1 := [some (.ref 137), some (.int (Int32.ofInt a1))]) (st1 := [.int (Int32.ofInt 3), .int (Int32.ofInt (g 137 18))]) (H1 := mz_mk g x) rfl ?_
    refine mz_ic_ne (tgt := 32) rfl rfl ⟨by omega, by omega⟩ ⟨by decide, by decide⟩ (fun c12_0 => ?_) (fun c12_0 => ?_)
    · skip
      replace hE := zf_in hE c12_0
      refine mm_g 1 (pc1 := 33) (lo1 := [some (.ref 137), some (.int (Int32.ofInt a1))]) (st1 := [.int (Int32.ofInt 0)]) (H1 := mz_mk g x) rfl ?_
      exact mz_rtZ rfl (by decide) (by omega) (hQ _ (by decide) (by decide) (by omega) hE)
    · skip
      replace hE := zf_ip hE c12_0
      refine mm_g 1 (pc1 := 16) (lo1 := [some (.ref 137), some (.int (Int32.ofInt a1))]) (st1 := [.ref 137]) (H1 := mz_mk g x) rfl ?_
      refine mz_fgR (v := 151) rfl fd_12_69 (by decide) (sc_137 _) (rf_137_14 _ _ _) ?_
      refine mm_g 1 (pc1 := 20) (lo1 := [some (.ref 137), some (.int (Int32.ofInt a1))]) (st1 := [.ref 137, .ref 151]) (H1 := mz_mk g x) rfl ?_
      refine mz_fgI (v := (g 137 20)) rfl fd_12_174 (by decide) (sc_137 _) (show g 137 20 = (g 137 20) from rfl) ?_
      replace hE := zf_tr hE (zf_le (show g 137 20 = (g 137 20) from rfl))
      refine mz_aI rfl (sh_151 _) (by omega) (by omega) (by decide) hI (ba_151 _) (fun v1 e_v1 l_v1 u_v1 => ?_)
      replace hE := zf_tr hE (zf_le e_v1)
      refine mm_g 1 (pc1 := 25) (lo1 := [some (.ref 137), some (.int (Int32.ofInt a1))]) (st1 := [.int (Int32.ofInt a1), .int (Int32.ofInt v1)]) (H1 := mz_mk g x) rfl ?_
      refine mz_ic_ne (tgt := 32) rfl rfl (mz_rg l_v1 u_v1) (mz_rg l_a1 u_a1) (fun c25_1 => ?_) (fun c25_1 => ?_)
      · skip
        replace hE := zf_in hE c25_1
        refine mm_g 1 (pc1 := 33) (lo1 := [some (.ref 137), some (.int (Int32.ofInt a1))]) (st1 := [.int (Int32.ofInt 0)]) (H1 := mz_mk g x) rfl ?_
        exact mz_rtZ rfl (by decide) (by omega) (hQ _ (by decide) (by decide) (by omega) hE)
      · skip
        replace hE := zf_ip hE c25_1
        refine mm_g 1 (pc1 := 29) (lo1 := [some (.ref 137), some (.int (Int32.ofInt a1))]) (st1 := [.int (Int32.ofInt 1)]) (H1 := mz_mk g x) rfl ?_
        refine mz_gt (tgt := 33) rfl rfl ?_
        exact mz_rtZ rfl (by decide) (by omega) (hQ _ (by decide) (by decide) (by omega) hE)
def fw_X12_mark (x : mm_X) (a1 : Int) : Nat → Nat → Prop := fun k j => (k = 137 ∧ j = 16) ∨ (k = 137 ∧ j = 20) ∨ (k = 137 ∧ j = 18) ∨ (k = 137 ∧ j = 21) ∨ (k = 137 ∧ j = 19) ∨ (k = 137 ∧ j = 22) ∨ (k = 137 ∧ j = 23)
theorem f_X12_mark {d : Nat} (hd : 13 ≤ d) {x : mm_X} (hx : mk_x x) {g : mz_G} (hI : mz_inv g) {a1 : Int} (l_a1 : (-2147483648) ≤ a1) (u_a1 : a1 ≤ 2147483647) (p1 : g 137 20 ≤ g 137 16 ∧ g 137 21 = g 137 16 ∧ g 137 16 ≤ g 137 17 ∧ (g 137 18 ≠ 0 → g 137 20 < g 137 16)) {Q : (Option Value ⊕ Nat) → mm_H → Prop} (hQ : ∀ (g1 : mz_G), mz_inv g1 → mz_fr (fw_X12_mark x a1) g g1 → (g1 137 20 ≤ g1 137 16 ∧ g1 137 21 = g1 137 16 ∧ g1 137 16 ≤ g1 137 17 ∧ (g1 137 18 ≠ 0 → g1 137 20 < g1 137 16)) → (g 137 20 ≤ g1 137 20) → (g1 137 22 = 0 → g 137 22 = 0) → (g1 137 22 = 0 → g 137 20 < g1 137 20) → zf_E (zF_X12_mark a1 g) (g1) → Q (.inl none) (mz_mk g1 x)) : mm_C d 198 [.ref 137, .int (Int32.ofInt a1)] (mz_mk g x) Q := by
  refine ⟨mmX12_mark, [some (.ref 137), some (.int (Int32.ofInt a1))], rfl, rfl, ?_⟩
  have bz0 := mz_rd hI bd_137_16
  have bz1 := mz_rd hI bd_137_17
  have bz2 := mz_rd hI bd_137_18
  have bz3 := mz_rd hI bd_137_20
  have bz4 := mz_rd hI bd_137_21
  have bz5 := mz_rd hI bd_137_22
  have hE : zf_E (zF_X12_mark a1 g) (zF_X12_mark a1 g) := zf_rf
  refine mm_g 1 (pc1 := 1) (lo1 := [some (.ref 137), some (.int (Int32.ofInt a1))]) (st1 := [.ref 137]) (H1 := mz_mk g x) rfl ?_
  refine mz_fgI (v := (g 137 22)) rfl fd_12_203 (by decide) (sc_137 _) (show g 137 22 = (g 137 22) from rfl) ?_
  replace hE := zf_tr hE (zf_le (show g 137 22 = (g 137 22) from rfl))
  refine mz_if_ne (tgt := 20) rfl rfl ⟨by omega, by omega⟩ (fun c4_0 => ?_) (fun c4_0 => ?_)
  · skip
    replace hE := zf_in hE c4_0
    refine mm_g 1 (pc1 := 21) (lo1 := [some (.ref 137), some (.int (Int32.ofInt a1))]) (st1 := [.ref 137]) (H1 := mz_mk g x) rfl ?_
    refine mz_fgI (v := (g 137 22)) rfl fd_12_203 (by decide) (sc_137 _) (show g 137 22 = (g 137 22) from rfl) ?_
    replace hE := zf_tr hE (zf_le (show g 137 22 = (g 137 22) from rfl))
    refine mz_if_ne (tgt := 31) rfl rfl ⟨by omega, by omega⟩ (fun c24_0 => ?_) (fun c24_0 => ?_)
    · skip
      replace hE := zf_in hE c24_0
      exact mm_rt rfl rfl (hQ _ hI (fun _ _ _ => rfl) (by omega) (by omega) (by omega) (by omega) hE)
    · skip
      replace hE := zf_ip hE c24_0
      refine mm_g 1 (pc1 := 28) (lo1 := [some (.ref 137), some (.int (Int32.ofInt a1))]) (st1 := [.ref 137]) (H1 := mz_mk g x) rfl ?_
      refine mz_cv rfl mt_12_228 (by decide) (sc_137 _) rfl (Nat.le_of_ble_eq_true rfl) (by omega) (f_X12_stepOn (by omega) hx hI (by omega) (fun g7 hIg7 hfg7 hp8 hp9 hc10 => ⟨_, rfl, ?_⟩))
      show mm_W d mmX12_mark 31 [some (.ref 137), some (.int (Int32.ofInt a1))] [] (mz_mk g7 x) Q
      replace hE := zf_t1 hE hc10
      have bz_g7_16 := mz_rd hIg7 bd_137_16
      have bz_g7_18 := mz_rd hIg7 bd_137_18
      have bz_g7_20 := mz_rd hIg7 bd_137_20
      have bz_g7_21 := mz_rd hIg7 bd_137_21
      exact mm_rt rfl rfl (hQ _ hIg7 (fun k j hk => (hfg7 k j (fun h => hk (Or.elim h (fun h => (Or.inl h)) (fun h => (Or.elim h (fun h => (Or.inr (Or.inl h))) (fun h => (Or.elim h (fun h => (Or.inr (Or.inr (Or.inl h)))) (fun h => (Or.elim h (fun h => (Or.inr (Or.inr (Or.inr (Or.inl h))))) (fun h => (Or.inr (Or.inr (Or.inr (Or.inr (Or.inl h)))))))))))))))) (by have h91 := (show g7 137 17 = (g 137 17) from ((hfg7 137 17 nj_10).trans rfl)); have h95 := (show g7 137 22 = (g 137 22) from ((hfg7 137 22 nj_11).trans rfl)); omega) (by have h91 := (show g7 137 17 = (g 137 17) from ((hfg7 137 17 nj_10).trans rfl)); have h95 := (show g7 137 22 = (g 137 22) from ((hfg7 137 22 nj_11).trans rfl)); omega) (by have h91 := (show g7 137 17 = (g 137 17) from ((hfg7 137 17 nj_10).trans rfl)); have h95 := (show g7 137 22 = (g 137 22) from ((hfg7 137 22 nj_11).trans rfl)); omega) (by have h91 := (show g7 137 17 = (g 137 17) from ((hfg7 137 17 nj_10).trans rfl)); have h95 := (show g7 137 22 = (g 137 22) from ((hfg7 137 22 nj_11).trans rfl)); omega) hE)
  · skip
    replace hE := zf_ip hE c4_0
    refine mm_g 2 (pc1 := 9) (lo1 := [some (.ref 137), some (.int (Int32.ofInt a1))]) (st1 := [.int (Int32.ofInt a1), .ref 137]) (H1 := mz_mk g x) rfl ?_
    refine mz_cv rfl mt_12_221 (by decide) (sc_137 _) rfl (Nat.le_of_ble_eq_true rfl) (by omega) (f_X12_isMarked (by omega) hx hI l_a1 u_a1 (by omega) (fun v17 l_v17 u_v17 hp18 hc19 => ⟨_, rfl, ?_⟩))
    show mm_W d mmX12_mark 12 [some (.ref 137), some (.int (Int32.ofInt a1))] [.int (Int32.ofInt v17)] (mz_mk g x) Q
    replace hE := zf_t1 hE hc19
    refine mz_if_ne (tgt := 20) rfl rfl (mz_rg l_v17 u_v17) (fun c12_19 => ?_) (fun c12_19 => ?_)
    · skip
      replace hE := zf_in hE c12_19
      refine mm_g 1 (pc1 := 21) (lo1 := [some (.ref 137), some (.int (Int32.ofInt a1))]) (st1 := [.ref 137]) (H1 := mz_mk g x) rfl ?_
      refine mz_fgI (v := (g 137 22)) rfl fd_12_203 (by decide) (sc_137 _) (show g 137 22 = (g 137 22) from rfl) ?_
      replace hE := zf_tr hE (zf_le (show g 137 22 = (g 137 22) from rfl))
      refine mz_if_ne (tgt := 31) rfl rfl ⟨by omega, by omega⟩ (fun c24_19 => ?_) (fun c24_19 => ?_)
      · exfalso; omega
      · skip
        replace hE := zf_ip hE c24_19
        refine mm_g 1 (pc1 := 28) (lo1 := [some (.ref 137), some (.int (Int32.ofInt a1))]) (st1 := [.ref 137]) (H1 := mz_mk g x) rfl ?_
        refine mz_cv rfl mt_12_228 (by decide) (sc_137 _) rfl (Nat.le_of_ble_eq_true rfl) (by omega) (f_X12_stepOn (by omega) hx hI (by omega) (fun g26 hIg26 hfg26 hp27 hp28 hc29 => ⟨_, rfl, ?_⟩))
        show mm_W d mmX12_mark 31 [some (.ref 137), some (.int (Int32.ofInt a1))] [] (mz_mk g26 x) Q
        replace hE := zf_t1 hE hc29
        have bz_g26_16 := mz_rd hIg26 bd_137_16
        have bz_g26_18 := mz_rd hIg26 bd_137_18
        have bz_g26_20 := mz_rd hIg26 bd_137_20
        have bz_g26_21 := mz_rd hIg26 bd_137_21
        exact mm_rt rfl rfl (hQ _ hIg26 (fun k j hk => (hfg26 k j (fun h => hk (Or.elim h (fun h => (Or.inl h)) (fun h => (Or.elim h (fun h => (Or.inr (Or.inl h))) (fun h => (Or.elim h (fun h => (Or.inr (Or.inr (Or.inl h)))) (fun h => (Or.elim h (fun h => (Or.inr (Or.inr (Or.inr (Or.inl h))))) (fun h => (Or.inr (Or.inr (Or.inr (Or.inr (Or.inl h)))))))))))))))) (by have h91 := (show g26 137 17 = (g 137 17) from ((hfg26 137 17 nj_10).trans rfl)); have h95 := (show g26 137 22 = (g 137 22) from ((hfg26 137 22 nj_11).trans rfl)); omega) (by have h91 := (show g26 137 17 = (g 137 17) from ((hfg26 137 17 nj_10).trans rfl)); have h95 := (show g26 137 22 = (g 137 22) from ((hfg26 137 22 nj_11).trans rfl)); omega) (by have h91 := (show g26 137 17 = (g 137 17) from ((hfg26 137 17 nj_10).trans rfl)); have h95 := (show g26 137 22 = (g 137 22) from ((hfg26 137 22 nj_11).trans rfl)); omega) (by have h91 := (show g26 137 17 = (g 137 17) from ((hfg26 137 17 nj_10).trans rfl)); have h95 := (show g26 137 22 = (g 137 22) from ((hfg26 137 22 nj_11).trans rfl)); omega) hE)
    · skip
      replace hE := zf_ip hE c12_19
      refine mm_g 2 (pc1 := 17) (lo1 := [some (.ref 137), some (.int (Int32.ofInt a1))]) (st1 := [.int (Int32.ofInt 1), .ref 137]) (H1 := mz_mk g x) rfl ?_
      refine mz_cv rfl mt_12_224 (by decide) (sc_137 _) rfl (Nat.le_of_ble_eq_true rfl) (by omega) (f_X12_wrong (by omega) hx hI (by decide) (by decide) (fun g31 hIg31 hfg31 hp32 hp33 hc34 => ⟨_, rfl, ?_⟩))
      show mm_W d mmX12_mark 20 [some (.ref 137), some (.int (Int32.ofInt a1))] [] (mz_mk g31 x) Q
      replace hE := zf_t1 hE hc34
      have bz_g31_22 := mz_rd hIg31 bd_137_22
      refine mm_g 1 (pc1 := 21) (lo1 := [some (.ref 137), some (.int (Int32.ofInt a1))]) (st1 := [.ref 137]) (H1 := mz_mk g31 x) rfl ?_
      refine mz_fgI (v := (g31 137 22)) rfl fd_12_203 (by decide) (sc_137 _) (show g31 137 22 = (g31 137 22) from rfl) ?_
      replace hE := zf_tr hE (zf_le (show g31 137 22 = (g31 137 22) from rfl))
      refine mz_if_ne (tgt := 31) rfl rfl ⟨by omega, by omega⟩ (fun c24_34 => ?_) (fun c24_34 => ?_)
      · skip
        replace hE := zf_in hE c24_34
        exact mm_rt rfl rfl (hQ _ hIg31 (fun k j hk => (hfg31 k j (fun h => hk (Or.elim h (fun h => (Or.inr (Or.inr (Or.inr (Or.inr (Or.inr (Or.inl h))))))) (fun h => (Or.inr (Or.inr (Or.inr (Or.inr (Or.inr (Or.inr h))))))))))) (by have h90 := (show g31 137 16 = (g 137 16) from ((hfg31 137 16 nj_12).trans rfl)); have h91 := (show g31 137 17 = (g 137 17) from ((hfg31 137 17 nj_13).trans rfl)); have h92 := (show g31 137 18 = (g 137 18) from ((hfg31 137 18 nj_14).trans rfl)); have h93 := (show g31 137 20 = (g 137 20) from ((hfg31 137 20 nj_15).trans rfl)); have h94 := (show g31 137 21 = (g 137 21) from ((hfg31 137 21 nj_16).trans rfl)); omega) (by have h90 := (show g31 137 16 = (g 137 16) from ((hfg31 137 16 nj_12).trans rfl)); have h91 := (show g31 137 17 = (g 137 17) from ((hfg31 137 17 nj_13).trans rfl)); have h92 := (show g31 137 18 = (g 137 18) from ((hfg31 137 18 nj_14).trans rfl)); have h93 := (show g31 137 20 = (g 137 20) from ((hfg31 137 20 nj_15).trans rfl)); have h94 := (show g31 137 21 = (g 137 21) from ((hfg31 137 21 nj_16).trans rfl)); omega) (by have h90 := (show g31 137 16 = (g 137 16) from ((hfg31 137 16 nj_12).trans rfl)); have h91 := (show g31 137 17 = (g 137 17) from ((hfg31 137 17 nj_13).trans rfl)); have h92 := (show g31 137 18 = (g 137 18) from ((hfg31 137 18 nj_14).trans rfl)); have h93 := (show g31 137 20 = (g 137 20) from ((hfg31 137 20 nj_15).trans rfl)); have h94 := (show g31 137 21 = (g 137 21) from ((hfg31 137 21 nj_16).trans rfl)); omega) (by have h90 := (show g31 137 16 = (g 137 16) from ((hfg31 137 16 nj_12).trans rfl)); have h91 := (show g31 137 17 = (g 137 17) from ((hfg31 137 17 nj_13).trans rfl)); have h92 := (show g31 137 18 = (g 137 18) from ((hfg31 137 18 nj_14).trans rfl)); have h93 := (show g31 137 20 = (g 137 20) from ((hfg31 137 20 nj_15).trans rfl)); have h94 := (show g31 137 21 = (g 137 21) from ((hfg31 137 21 nj_16).trans rfl)); omega) hE)
      · skip
        replace hE := zf_ip hE c24_34
        refine mm_g 1 (pc1 := 28) (lo1 := [some (.ref 137), some (.int (Int32.ofInt a1))]) (st1 := [.ref 137]) (H1 := mz_mk g31 x) rfl ?_
        have hq35 : g31 137 16 = (g 137 16) := (show g31 137 16 = (g 137 16) from ((hfg31 137 16 nj_12).trans rfl))
        have hq36 : g31 137 17 = (g 137 17) := (show g31 137 17 = (g 137 17) from ((hfg31 137 17 nj_13).trans rfl))
        have hq37 : g31 137 18 = (g 137 18) := (show g31 137 18 = (g 137 18) from ((hfg31 137 18 nj_14).trans rfl))
        have hq38 : g31 137 20 = (g 137 20) := (show g31 137 20 = (g 137 20) from ((hfg31 137 20 nj_15).trans rfl))
        have hq39 : g31 137 21 = (g 137 21) := (show g31 137 21 = (g 137 21) from ((hfg31 137 21 nj_16).trans rfl))
        refine mz_cv rfl mt_12_228 (by decide) (sc_137 _) rfl (Nat.le_of_ble_eq_true rfl) (by omega) (f_X12_stepOn (by omega) hx hIg31 (by have h90 := (show g31 137 16 = (g 137 16) from ((hfg31 137 16 nj_12).trans rfl)); have h91 := (show g31 137 17 = (g 137 17) from ((hfg31 137 17 nj_13).trans rfl)); omega) (fun g41 hIg41 hfg41 hp42 hp43 hc44 => ⟨_, rfl, ?_⟩))
        show mm_W d mmX12_mark 31 [some (.ref 137), some (.int (Int32.ofInt a1))] [] (mz_mk g41 x) Q
        replace hE := zf_t1 hE hc44
        have bz_g41_16 := mz_rd hIg41 bd_137_16
        have bz_g41_18 := mz_rd hIg41 bd_137_18
        have bz_g41_20 := mz_rd hIg41 bd_137_20
        have bz_g41_21 := mz_rd hIg41 bd_137_21
        exact mm_rt rfl rfl (hQ _ hIg41 (fun k j hk => ((hfg41 k j (fun h => hk (Or.elim h (fun h => (Or.inl h)) (fun h => (Or.elim h (fun h => (Or.inr (Or.inl h))) (fun h => (Or.elim h (fun h => (Or.inr (Or.inr (Or.inl h)))) (fun h => (Or.elim h (fun h => (Or.inr (Or.inr (Or.inr (Or.inl h))))) (fun h => (Or.inr (Or.inr (Or.inr (Or.inr (Or.inl h))))))))))))))).trans (hfg31 k j (fun h => hk (Or.elim h (fun h => (Or.inr (Or.inr (Or.inr (Or.inr (Or.inr (Or.inl h))))))) (fun h => (Or.inr (Or.inr (Or.inr (Or.inr (Or.inr (Or.inr h)))))))))))) (by have h91 := (show g41 137 17 = (g 137 17) from ((hfg41 137 17 nj_10).trans ((hfg31 137 17 nj_13).trans rfl))); have h95 := (show g41 137 22 = (g31 137 22) from ((hfg41 137 22 nj_11).trans rfl)); omega) (by have h91 := (show g41 137 17 = (g 137 17) from ((hfg41 137 17 nj_10).trans ((hfg31 137 17 nj_13).trans rfl))); have h95 := (show g41 137 22 = (g31 137 22) from ((hfg41 137 22 nj_11).trans rfl)); omega) (by have h91 := (show g41 137 17 = (g 137 17) from ((hfg41 137 17 nj_10).trans ((hfg31 137 17 nj_13).trans rfl))); have h95 := (show g41 137 22 = (g31 137 22) from ((hfg41 137 22 nj_11).trans rfl)); omega) (by have h91 := (show g41 137 17 = (g 137 17) from ((hfg41 137 17 nj_10).trans ((hfg31 137 17 nj_13).trans rfl))); have h95 := (show g41 137 22 = (g31 137 22) from ((hfg41 137 22 nj_11).trans rfl)); omega) hE)
def fw_X12_numberNow (x : mm_X) (a1 : Int) (a2 : Int) : Nat → Nat → Prop := fun k j => (k = 137 ∧ j = 22) ∨ (k = 137 ∧ j = 23)
theorem f_X12_numberNow {d : Nat} (hd : 2 ≤ d) {x : mm_X} (hx : mk_x x) {g : mz_G} (hI : mz_inv g) {a1 : Int} (l_a1 : 0 ≤ a1) (u_a1 : a1 ≤ 9999) {a2 : Int} (l_a2 : 0 ≤ a2) (u_a2 : a2 ≤ 9999) (p1 : g 137 20 ≤ g 137 16 ∧ g 137 21 = g 137 16 ∧ g 137 16 ≤ g 137 17 ∧ (g 137 18 ≠ 0 → g 137 20 < g 137 16)) {Q : (Option Value ⊕ Nat) → mm_H → Prop} (hQ : ∀ (r : Int) (g1 : mz_G), mz_inv g1 → mz_fr (fw_X12_numberNow x a1 a2) g g1 → (-2147483648) ≤ r → r ≤ 2147483647 → (g1 137 22 = 0 → g 137 22 = 0 ∧ g 137 18 = 2 ∧ a1 ≤ r ∧ r ≤ a2) → (g1 137 22 ≠ 0 → r = 0) → zf_E (zF_X12_numberNow a1 a2 g) ((r, g1)) → Q (.inl (some (.int (Int32.ofInt r)))) (mz_mk g1 x)) : mm_C d 199 [.ref 137, .int (Int32.ofInt a1), .int (Int32.ofInt a2)] (mz_mk g x) Q := by
  refine ⟨mmX12_numberNow, [some (.ref 137), some (.int (Int32.ofInt a1)), some (.int (Int32.ofInt a2))], rfl, rfl, ?_⟩
  have bz0 := mz_rd hI bd_137_16
  have bz1 := mz_rd hI bd_137_17
  have bz2 := mz_rd hI bd_137_18
  have bz3 := mz_rd hI bd_137_20
  have bz4 := mz_rd hI bd_137_21
  have bz5 := mz_rd hI bd_137_22
  have hE : zf_E (zF_X12_numberNow a1 a2 g) (zF_X12_numberNow a1 a2 g) := zf_rf
  refine mm_g 1 (pc1 := 1) (lo1 := [some (.ref 137), some (.int (Int32.ofInt a1)), some (.int (Int32.ofInt a2))]) (st1 := [.ref 137]) (H1 := mz_mk g x) rfl ?_
  refine mz_fgI (v := (g 137 22)) rfl fd_12_203 (by decide) (sc_137 _) (show g 137 22 = (g 137 22) from rfl) ?_
  replace hE := zf_tr hE (zf_le (show g 137 22 = (g 137 22) from rfl))
  refine mz_if_eq (tgt := 9) rfl rfl ⟨by omega, by omega⟩ (fun c4_0 => ?_) (fun c4_0 => ?_)
  · skip
    replace hE := zf_ip hE c4_0
    refine mm_g 1 (pc1 := 10) (lo1 := [some (.ref 137), some (.int (Int32.ofInt a1)), some (.int (Int32.ofInt a2))]) (st1 := [.ref 137]) (H1 := mz_mk g x) rfl ?_
    refine mz_fgI (v := (g 137 18)) rfl fd_12_177 (by decide) (sc_137 _) (show g 137 18 = (g 137 18) from rfl) ?_
    replace hE := zf_tr hE (zf_le (show g 137 18 = (g 137 18) from rfl))
    refine mm_g 1 (pc1 := 14) (lo1 := [some (.ref 137), some (.int (Int32.ofInt a1)), some (.int (Int32.ofInt a2))]) (st1 := [.int (Int32.ofInt 2), .int (Int32.ofInt (g 137 18))]) (H1 := mz_mk g x) rfl ?_
    refine mz_ic_eq (tgt := 25) rfl rfl ⟨by omega, by omega⟩ ⟨by decide, by decide⟩ (fun c14_0 => ?_) (fun c14_0 => ?_)
    · skip
      replace hE := zf_ip hE c14_0
      refine mm_g 1 (pc1 := 26) (lo1 := [some (.ref 137), some (.int (Int32.ofInt a1)), some (.int (Int32.ofInt a2))]) (st1 := [.ref 137]) (H1 := mz_mk g x) rfl ?_
      refine mz_fgI (v := (g 137 21)) rfl fd_12_200 (by decide) (sc_137 _) (show g 137 21 = (g 137 21) from rfl) ?_
      replace hE := zf_tr hE (zf_le (show g 137 21 = (g 137 21) from rfl))
      refine mm_g 1 (pc1 := 30) (lo1 := [some (.ref 137), some (.int (Int32.ofInt a1)), some (.int (Int32.ofInt a2))]) (st1 := [.ref 137, .int (Int32.ofInt (g 137 21))]) (H1 := mz_mk g x) rfl ?_
      refine mz_fgI (v := (g 137 20)) rfl fd_12_174 (by decide) (sc_137 _) (show g 137 20 = (g 137 20) from rfl) ?_
      replace hE := zf_tr hE (zf_le (show g 137 20 = (g 137 20) from rfl))
      refine mz_isub rfl ?_
      refine mm_g 1 (pc1 := 35) (lo1 := [some (.ref 137), some (.int (Int32.ofInt a1)), some (.int (Int32.ofInt a2))]) (st1 := [.int (Int32.ofInt 4), .int (Int32.ofInt ((g 137 21) - (g 137 20)))]) (H1 := mz_mk g x) rfl ?_
      refine mz_ic_gt (tgt := 54) rfl rfl ⟨by omega, by omega⟩ ⟨by decide, by decide⟩ (fun c35_0 => ?_) (fun c35_0 => ?_)
      · skip
        replace hE := zf_ip hE c35_0
        refine mm_g 2 (pc1 := 56) (lo1 := [some (.ref 137), some (.int (Int32.ofInt a1)), some (.int (Int32.ofInt a2))]) (st1 := [.int (Int32.ofInt 2), .ref 137]) (H1 := mz_mk g x) rfl ?_
        refine mz_cv rfl mt_12_224 (by decide) (sc_137 _) rfl (Nat.le_of_ble_eq_true rfl) (by omega) (f_X12_wrong (by omega) hx hI (by decide) (by decide) (fun g2 hIg2 hfg2 hp3 hp4 hc5 => ⟨_, rfl, ?_⟩))
        show mm_W d mmX12_numberNow 59 [some (.ref 137), some (.int (Int32.ofInt a1)), some (.int (Int32.ofInt a2))] [] (mz_mk g2 x) Q
        replace hE := zf_t1 hE hc5
        have bz_g2_22 := mz_rd hIg2 bd_137_22
        refine mm_g 1 (pc1 := 60) (lo1 := [some (.ref 137), some (.int (Int32.ofInt a1)), some (.int (Int32.ofInt a2))]) (st1 := [.ref 137]) (H1 := mz_mk g2 x) rfl ?_
        refine mz_fgI (v := (g2 137 22)) rfl fd_12_203 (by decide) (sc_137 _) (show g2 137 22 = (g2 137 22) from rfl) ?_
        replace hE := zf_tr hE (zf_le (show g2 137 22 = (g2 137 22) from rfl))
        refine mz_if_ne (tgt := 73) rfl rfl ⟨by omega, by omega⟩ (fun c63_5 => ?_) (fun c63_5 => ?_)
        · skip
          replace hE := zf_in hE c63_5
          refine mm_g 1 (pc1 := 74) (lo1 := [some (.ref 137), some (.int (Int32.ofInt a1)), some (.int (Int32.ofInt a2))]) (st1 := [.int (Int32.ofInt 0)]) (H1 := mz_mk g2 x) rfl ?_
          exact mm_rt rfl rfl (hQ _ _ hIg2 (fun k j hk => (hfg2 k j (fun h => hk (Or.elim h (fun h => (Or.inl h)) (fun h => (Or.inr h)))))) (by decide) (by decide) (by have h90 := (show g2 137 16 = (g 137 16) from ((hfg2 137 16 nj_12).trans rfl)); have h91 := (show g2 137 17 = (g 137 17) from ((hfg2 137 17 nj_13).trans rfl)); have h92 := (show g2 137 18 = (g 137 18) from ((hfg2 137 18 nj_14).trans rfl)); have h93 := (show g2 137 20 = (g 137 20) from ((hfg2 137 20 nj_15).trans rfl)); have h94 := (show g2 137 21 = (g 137 21) from ((hfg2 137 21 nj_16).trans rfl)); omega) (by have h90 := (show g2 137 16 = (g 137 16) from ((hfg2 137 16 nj_12).trans rfl)); have h91 := (show g2 137 17 = (g 137 17) from ((hfg2 137 17 nj_13).trans rfl)); have h92 := (show g2 137 18 = (g 137 18) from ((hfg2 137 18 nj_14).trans rfl)); have h93 := (show g2 137 20 = (g 137 20) from ((hfg2 137 20 nj_15).trans rfl)); have h94 := (show g2 137 21 = (g 137 21) from ((hfg2 137 21 nj_16).trans rfl)); omega) hE)
        · skip
          replace hE := zf_ip hE c63_5
          refine mm_g 1 (pc1 := 67) (lo1 := [some (.ref 137), some (.int (Int32.ofInt a1)), some (.int (Int32.ofInt a2))]) (st1 := [.ref 137]) (H1 := mz_mk g2 x) rfl ?_
          refine mz_gI rfl fd_12_187 (by decide) (sc_137 _) hIg2 bd_137_19 (fun v6 e_v6 l_v6 u_v6 => ?_)
          replace hE := zf_tr hE (zf_le e_v6)
          refine mz_gt (tgt := 74) rfl rfl ?_
          exact mm_rt rfl rfl (hQ _ _ hIg2 (fun k j hk => (hfg2 k j (fun h => hk (Or.elim h (fun h => (Or.inl h)) (fun h => (Or.inr h)))))) (by omega) (by omega) (by have h90 := (show g2 137 16 = (g 137 16) from ((hfg2 137 16 nj_12).trans rfl)); have h91 := (show g2 137 17 = (g 137 17) from ((hfg2 137 17 nj_13).trans rfl)); have h92 := (show g2 137 18 = (g 137 18) from ((hfg2 137 18 nj_14).trans rfl)); have h93 := (show g2 137 20 = (g 137 20) from ((hfg2 137 20 nj_15).trans rfl)); have h94 := (show g2 137 21 = (g 137 21) from ((hfg2 137 21 nj_16).trans rfl)); omega) (by have h90 := (show g2 137 16 = (g 137 16) from ((hfg2 137 16 nj_12).trans rfl)); have h91 := (show g2 137 17 = (g 137 17) from ((hfg2 137 17 nj_13).trans rfl)); have h92 := (show g2 137 18 = (g 137 18) from ((hfg2 137 18 nj_14).trans rfl)); have h93 := (show g2 137 20 = (g 137 20) from ((hfg2 137 20 nj_15).trans rfl)); have h94 := (show g2 137 21 = (g 137 21) from ((hfg2 137 21 nj_16).trans rfl)); omega) hE)
      · skip
        replace hE := zf_nl hE c35_0
        refine mm_g 1 (pc1 := 39) (lo1 := [some (.ref 137), some (.int (Int32.ofInt a1)), some (.int (Int32.ofInt a2))]) (st1 := [.ref 137]) (H1 := mz_mk g x) rfl ?_
        refine mz_gI rfl fd_12_187 (by decide) (sc_137 _) hI bd_137_19 (fun v7 e_v7 l_v7 u_v7 => ?_)
        replace hE := zf_tr hE (zf_le e_v7)
        refine mm_g 1 (pc1 := 43) (lo1 := [some (.ref 137), some (.int (Int32.ofInt a1)), some (.int (Int32.ofInt a2))]) (st1 := [.int (Int32.ofInt a1), .int (Int32.ofInt v7)]) (H1 := mz_mk g x) rfl ?_
        refine mz_ic_lt (tgt := 54) rfl rfl (mz_rg l_v7 u_v7) (mz_rg l_a1 u_a1) (fun c43_7 => ?_) (fun c43_7 => ?_)
        · skip
          replace hE := zf_ip hE c43_7
          refine mm_g 2 (pc1 := 56) (lo1 := [some (.ref 137), some (.int (Int32.ofInt a1)), some (.int (Int32.ofInt a2))]) (st1 := [.int (Int32.ofInt 2), .ref 137]) (H1 := mz_mk g x) rfl ?_
          refine mz_cv rfl mt_12_224 (by decide) (sc_137 _) rfl (Nat.le_of_ble_eq_true rfl) (by omega) (f_X12_wrong (by omega) hx hI (by decide) (by decide) (fun g9 hIg9 hfg9 hp10 hp11 hc12 => ⟨_, rfl, ?_⟩))
          show mm_W d mmX12_numberNow 59 [some (.ref 137), some (.int (Int32.ofInt a1)), some (.int (Int32.ofInt a2))] [] (mz_mk g9 x) Q
          replace hE := zf_t1 hE hc12
          have bz_g9_22 := mz_rd hIg9 bd_137_22
          refine mm_g 1 (pc1 := 60) (lo1 := [some (.ref 137), some (.int (Int32.ofInt a1)), some (.int (Int32.ofInt a2))]) (st1 := [.ref 137]) (H1 := mz_mk g9 x) rfl ?_
          refine mz_fgI (v := (g9 137 22)) rfl fd_12_203 (by decide) (sc_137 _) (show g9 137 22 = (g9 137 22) from rfl) ?_
          replace hE := zf_tr hE (zf_le (show g9 137 22 = (g9 137 22) from rfl))
          refine mz_if_ne (tgt := 73) rfl rfl ⟨by omega, by omega⟩ (fun c63_12 => ?_) (fun c63_12 => ?_)
          · skip
            replace hE := zf_in hE c63_12
            refine mm_g 1 (pc1 := 74) (lo1 := [some (.ref 137), some (.int (Int32.ofInt a1)), some (.int (Int32.ofInt a2))]) (st1 := [.int (Int32.ofInt 0)]) (H1 := mz_mk g9 x) rfl ?_
            exact mm_rt rfl rfl (hQ _ _ hIg9 (fun k j hk => (hfg9 k j (fun h => hk (Or.elim h (fun h => (Or.inl h)) (fun h => (Or.inr h)))))) (by decide) (by decide) (by have h90 := (show g9 137 16 = (g 137 16) from ((hfg9 137 16 nj_12).trans rfl)); have h91 := (show g9 137 17 = (g 137 17) from ((hfg9 137 17 nj_13).trans rfl)); have h92 := (show g9 137 18 = (g 137 18) from ((hfg9 137 18 nj_14).trans rfl)); have h93 := (show g9 137 20 = (g 137 20) from ((hfg9 137 20 nj_15).trans rfl)); have h94 := (show g9 137 21 = (g 137 21) from ((hfg9 137 21 nj_16).trans rfl)); omega) (by have h90 := (show g9 137 16 = (g 137 16) from ((hfg9 137 16 nj_12).trans rfl)); have h91 := (show g9 137 17 = (g 137 17) from ((hfg9 137 17 nj_13).trans rfl)); have h92 := (show g9 137 18 = (g 137 18) from ((hfg9 137 18 nj_14).trans rfl)); have h93 := (show g9 137 20 = (g 137 20) from ((hfg9 137 20 nj_15).trans rfl)); have h94 := (show g9 137 21 = (g 137 21) from ((hfg9 137 21 nj_16).trans rfl)); omega) hE)
          · skip
            replace hE := zf_ip hE c63_12
            refine mm_g 1 (pc1 := 67) (lo1 := [some (.ref 137), some (.int (Int32.ofInt a1)), some (.int (Int32.ofInt a2))]) (st1 := [.ref 137]) (H1 := mz_mk g9 x) rfl ?_
            refine mz_fgI (v := v7) rfl fd_12_187 (by decide) (sc_137 _) (show g9 137 19 = v7 from ((hfg9 137 19 nj_17).trans e_v7)) ?_
            replace hE := zf_tr hE (zf_le (show g9 137 19 = v7 from ((hfg9 137 19 nj_17).trans e_v7)))
            refine mz_gt (tgt := 74) rfl rfl ?_
            exact mm_rt rfl rfl (hQ _ _ hIg9 (fun k j hk => (hfg9 k j (fun h => hk (Or.elim h (fun h => (Or.inl h)) (fun h => (Or.inr h)))))) (by omega) (by omega) (by have h90 := (show g9 137 16 = (g 137 16) from ((hfg9 137 16 nj_12).trans rfl)); have h91 := (show g9 137 17 = (g 137 17) from ((hfg9 137 17 nj_13).trans rfl)); have h92 := (show g9 137 18 = (g 137 18) from ((hfg9 137 18 nj_14).trans rfl)); have h93 := (show g9 137 20 = (g 137 20) from ((hfg9 137 20 nj_15).trans rfl)); have h94 := (show g9 137 21 = (g 137 21) from ((hfg9 137 21 nj_16).trans rfl)); omega) (by have h90 := (show g9 137 16 = (g 137 16) from ((hfg9 137 16 nj_12).trans rfl)); have h91 := (show g9 137 17 = (g 137 17) from ((hfg9 137 17 nj_13).trans rfl)); have h92 := (show g9 137 18 = (g 137 18) from ((hfg9 137 18 nj_14).trans rfl)); have h93 := (show g9 137 20 = (g 137 20) from ((hfg9 137 20 nj_15).trans rfl)); have h94 := (show g9 137 21 = (g 137 21) from ((hfg9 137 21 nj_16).trans rfl)); omega) hE)
        · skip
          replace hE := zf_nl hE c43_7
          refine mm_g 1 (pc1 := 47) (lo1 := [some (.ref 137), some (.int (Int32.ofInt a1)), some (.int (Int32.ofInt a2))]) (st1 := [.ref 137]) (H1 := mz_mk g x) rfl ?_
          refine mz_fgI (v := v7) rfl fd_12_187 (by decide) (sc_137 _) e_v7 ?_
          replace hE := zf_tr hE (zf_le e_v7)
          refine mm_g 1 (pc1 := 51) (lo1 := [some (.ref 137), some (.int (Int32.ofInt a1)), some (.int (Int32.ofInt a2))]) (st1 := [.int (Int32.ofInt a2), .int (Int32.ofInt v7)]) (H1 := mz_mk g x) rfl ?_
          refine mz_ic_le (tgt := 59) rfl rfl (mz_rg l_v7 u_v7) (mz_rg l_a2 u_a2) (fun c51_12 => ?_) (fun c51_12 => ?_)
          · skip
            replace hE := zf_nl hE c51_12
            refine mm_g 1 (pc1 := 60) (lo1 := [some (.ref 137), some (.int (Int32.ofInt a1)), some (.int (Int32.ofInt a2))]) (st1 := [.ref 137]) (H1 := mz_mk g x) rfl ?_
            refine mz_fgI (v := (g 137 22)) rfl fd_12_203 (by decide) (sc_137 _) (show g 137 22 = (g 137 22) from rfl) ?_
            replace hE := zf_tr hE (zf_le (show g 137 22 = (g 137 22) from rfl))
            refine mz_if_ne (tgt := 73) rfl rfl ⟨by omega, by omega⟩ (fun c63_12 => ?_) (fun c63_12 => ?_)
            · exfalso; omega
            · skip
              replace hE := zf_ip hE c63_12
              refine mm_g 1 (pc1 := 67) (lo1 := [some (.ref 137), some (.int (Int32.ofInt a1)), some (.int (Int32.ofInt a2))]) (st1 := [.ref 137]) (H1 := mz_mk g x) rfl ?_
              refine mz_fgI (v := v7) rfl fd_12_187 (by decide) (sc_137 _) e_v7 ?_
              replace hE := zf_tr hE (zf_le e_v7)
              refine mz_gt (tgt := 74) rfl rfl ?_
              exact mm_rt rfl rfl (hQ _ _ hI (fun _ _ _ => rfl) (by omega) (by omega) (by omega) (by omega) hE)
          · skip
            replace hE := zf_ip hE c51_12
            refine mm_g 2 (pc1 := 56) (lo1 := [some (.ref 137), some (.int (Int32.ofInt a1)), some (.int (Int32.ofInt a2))]) (st1 := [.int (Int32.ofInt 2), .ref 137]) (H1 := mz_mk g x) rfl ?_
            refine mz_cv rfl mt_12_224 (by decide) (sc_137 _) rfl (Nat.le_of_ble_eq_true rfl) (by omega) (f_X12_wrong (by omega) hx hI (by decide) (by decide) (fun g14 hIg14 hfg14 hp15 hp16 hc17 => ⟨_, rfl, ?_⟩))
            show mm_W d mmX12_numberNow 59 [some (.ref 137), some (.int (Int32.ofInt a1)), some (.int (Int32.ofInt a2))] [] (mz_mk g14 x) Q
            replace hE := zf_t1 hE hc17
            have bz_g14_22 := mz_rd hIg14 bd_137_22
            refine mm_g 1 (pc1 := 60) (lo1 := [some (.ref 137), some (.int (Int32.ofInt a1)), some (.int (Int32.ofInt a2))]) (st1 := [.ref 137]) (H1 := mz_mk g14 x) rfl ?_
            refine mz_fgI (v := (g14 137 22)) rfl fd_12_203 (by decide) (sc_137 _) (show g14 137 22 = (g14 137 22) from rfl) ?_
            replace hE := zf_tr hE (zf_le (show g14 137 22 = (g14 137 22) from rfl))
            refine mz_if_ne (tgt := 73) rfl rfl ⟨by omega, by omega⟩ (fun c63_17 => ?_) (fun c63_17 => ?_)
            · skip
              replace hE := zf_in hE c63_17
              refine mm_g 1 (pc1 := 74) (lo1 := [some (.ref 137), some (.int (Int32.ofInt a1)), some (.int (Int32.ofInt a2))]) (st1 := [.int (Int32.ofInt 0)]) (H1 := mz_mk g14 x) rfl ?_
              exact mm_rt rfl rfl (hQ _ _ hIg14 (fun k j hk => (hfg14 k j (fun h => hk (Or.elim h (fun h => (Or.inl h)) (fun h => (Or.inr h)))))) (by decide) (by decide) (by have h90 := (show g14 137 16 = (g 137 16) from ((hfg14 137 16 nj_12).trans rfl)); have h91 := (show g14 137 17 = (g 137 17) from ((hfg14 137 17 nj_13).trans rfl)); have h92 := (show g14 137 18 = (g 137 18) from ((hfg14 137 18 nj_14).trans rfl)); have h93 := (show g14 137 20 = (g 137 20) from ((hfg14 137 20 nj_15).trans rfl)); have h94 := (show g14 137 21 = (g 137 21) from ((hfg14 137 21 nj_16).trans rfl)); omega) (by have h90 := (show g14 137 16 = (g 137 16) from ((hfg14 137 16 nj_12).trans rfl)); have h91 := (show g14 137 17 = (g 137 17) from ((hfg14 137 17 nj_13).trans rfl)); have h92 := (show g14 137 18 = (g 137 18) from ((hfg14 137 18 nj_14).trans rfl)); have h93 := (show g14 137 20 = (g 137 20) from ((hfg14 137 20 nj_15).trans rfl)); have h94 := (show g14 137 21 = (g 137 21) from ((hfg14 137 21 nj_16).trans rfl)); omega) hE)
            · skip
              replace hE := zf_ip hE c63_17
              refine mm_g 1 (pc1 := 67) (lo1 := [some (.ref 137), some (.int (Int32.ofInt a1)), some (.int (Int32.ofInt a2))]) (st1 := [.ref 137]) (H1 := mz_mk g14 x) rfl ?_
              refine mz_fgI (v := v7) rfl fd_12_187 (by decide) (sc_137 _) (show g14 137 19 = v7 from ((hfg14 137 19 nj_17).trans e_v7)) ?_
              replace hE := zf_tr hE (zf_le (show g14 137 19 = v7 from ((hfg14 137 19 nj_17).trans e_v7)))
              refine mz_gt (tgt := 74) rfl rfl ?_
              exact mm_rt rfl rfl (hQ _ _ hIg14 (fun k j hk => (hfg14 k j (fun h => hk (Or.elim h (fun h => (Or.inl h)) (fun h => (Or.inr h)))))) (by omega) (by omega) (by have h90 := (show g14 137 16 = (g 137 16) from ((hfg14 137 16 nj_12).trans rfl)); have h91 := (show g14 137 17 = (g 137 17) from ((hfg14 137 17 nj_13).trans rfl)); have h92 := (show g14 137 18 = (g 137 18) from ((hfg14 137 18 nj_14).trans rfl)); have h93 := (show g14 137 20 = (g 137 20) from ((hfg14 137 20 nj_15).trans rfl)); have h94 := (show g14 137 21 = (g 137 21) from ((hfg14 137 21 nj_16).trans rfl)); omega) (by have h90 := (show g14 137 16 = (g 137 16) from ((hfg14 137 16 nj_12).trans rfl)); have h91 := (show g14 137 17 = (g 137 17) from ((hfg14 137 17 nj_13).trans rfl)); have h92 := (show g14 137 18 = (g 137 18) from ((hfg14 137 18 nj_14).trans rfl)); have h93 := (show g14 137 20 = (g 137 20) from ((hfg14 137 20 nj_15).trans rfl)); have h94 := (show g14 137 21 = (g 137 21) from ((hfg14 137 21 nj_16).trans rfl)); omega) hE)
    · skip
      replace hE := zf_in hE c14_0
      refine mm_g 2 (pc1 := 19) (lo1 := [some (.ref 137), some (.int (Int32.ofInt a1)), some (.int (Int32.ofInt a2))]) (st1 := [.int (Int32.ofInt 1), .ref 137]) (H1 := mz_mk g x) rfl ?_
      refine mz_cv rfl mt_12_224 (by decide) (sc_137 _) rfl (Nat.le_of_ble_eq_true rfl) (by omega) (f_X12_wrong (by omega) hx hI (by decide) (by decide) (fun g19 hIg19 hfg19 hp20 hp21 hc22 => ⟨_, rfl, ?_⟩))
      show mm_W d mmX12_numberNow 22 [some (.ref 137), some (.int (Int32.ofInt a1)), some (.int (Int32.ofInt a2))] [] (mz_mk g19 x) Q
      replace hE := zf_t1 hE hc22
      have bz_g19_22 := mz_rd hIg19 bd_137_22
      refine mz_gt (tgt := 59) rfl rfl ?_
      refine mm_g 1 (pc1 := 60) (lo1 := [some (.ref 137), some (.int (Int32.ofInt a1)), some (.int (Int32.ofInt a2))]) (st1 := [.ref 137]) (H1 := mz_mk g19 x) rfl ?_
      refine mz_fgI (v := (g19 137 22)) rfl fd_12_203 (by decide) (sc_137 _) (show g19 137 22 = (g19 137 22) from rfl) ?_
      replace hE := zf_tr hE (zf_le (show g19 137 22 = (g19 137 22) from rfl))
      refine mz_if_ne (tgt := 73) rfl rfl ⟨by omega, by omega⟩ (fun c63_22 => ?_) (fun c63_22 => ?_)
      · skip
        replace hE := zf_in hE c63_22
        refine mm_g 1 (pc1 := 74) (lo1 := [some (.ref 137), some (.int (Int32.ofInt a1)), some (.int (Int32.ofInt a2))]) (st1 := [.int (Int32.ofInt 0)]) (H1 := mz_mk g19 x) rfl ?_
        exact mm_rt rfl rfl (hQ _ _ hIg19 (fun k j hk => (hfg19 k j (fun h => hk (Or.elim h (fun h => (Or.inl h)) (fun h => (Or.inr h)))))) (by decide) (by decide) (by have h90 := (show g19 137 16 = (g 137 16) from ((hfg19 137 16 nj_12).trans rfl)); have h91 := (show g19 137 17 = (g 137 17) from ((hfg19 137 17 nj_13).trans rfl)); have h92 := (show g19 137 18 = (g 137 18) from ((hfg19 137 18 nj_14).trans rfl)); have h93 := (show g19 137 20 = (g 137 20) from ((hfg19 137 20 nj_15).trans rfl)); have h94 := (show g19 137 21 = (g 137 21) from ((hfg19 137 21 nj_16).trans rfl)); omega) (by have h90 := (show g19 137 16 = (g 137 16) from ((hfg19 137 16 nj_12).trans rfl)); have h91 := (show g19 137 17 = (g 137 17) from ((hfg19 137 17 nj_13).trans rfl)); have h92 := (show g19 137 18 = (g 137 18) from ((hfg19 137 18 nj_14).trans rfl)); have h93 := (show g19 137 20 = (g 137 20) from ((hfg19 137 20 nj_15).trans rfl)); have h94 := (show g19 137 21 = (g 137 21) from ((hfg19 137 21 nj_16).trans rfl)); omega) hE)
      · skip
        replace hE := zf_ip hE c63_22
        refine mm_g 1 (pc1 := 67) (lo1 := [some (.ref 137), some (.int (Int32.ofInt a1)), some (.int (Int32.ofInt a2))]) (st1 := [.ref 137]) (H1 := mz_mk g19 x) rfl ?_
        refine mz_gI rfl fd_12_187 (by decide) (sc_137 _) hIg19 bd_137_19 (fun v23 e_v23 l_v23 u_v23 => ?_)
        replace hE := zf_tr hE (zf_le e_v23)
        refine mz_gt (tgt := 74) rfl rfl ?_
        exact mm_rt rfl rfl (hQ _ _ hIg19 (fun k j hk => (hfg19 k j (fun h => hk (Or.elim h (fun h => (Or.inl h)) (fun h => (Or.inr h)))))) (by omega) (by omega) (by have h90 := (show g19 137 16 = (g 137 16) from ((hfg19 137 16 nj_12).trans rfl)); have h91 := (show g19 137 17 = (g 137 17) from ((hfg19 137 17 nj_13).trans rfl)); have h92 := (show g19 137 18 = (g 137 18) from ((hfg19 137 18 nj_14).trans rfl)); have h93 := (show g19 137 20 = (g 137 20) from ((hfg19 137 20 nj_15).trans rfl)); have h94 := (show g19 137 21 = (g 137 21) from ((hfg19 137 21 nj_16).trans rfl)); omega) (by have h90 := (show g19 137 16 = (g 137 16) from ((hfg19 137 16 nj_12).trans rfl)); have h91 := (show g19 137 17 = (g 137 17) from ((hfg19 137 17 nj_13).trans rfl)); have h92 := (show g19 137 18 = (g 137 18) from ((hfg19 137 18 nj_14).trans rfl)); have h93 := (show g19 137 20 = (g 137 20) from ((hfg19 137 20 nj_15).trans rfl)); have h94 := (show g19 137 21 = (g 137 21) from ((hfg19 137 21 nj_16).trans rfl)); omega) hE)
  · skip
    replace hE := zf_in hE c4_0
    refine mm_g 1 (pc1 := 8) (lo1 := [some (.ref 137), some (.int (Int32.ofInt a1)), some (.int (Int32.ofInt a2))]) (st1 := [.int (Int32.ofInt 0)]) (H1 := mz_mk g x) rfl ?_
    exact mm_rt rfl rfl (hQ _ _ hI (fun _ _ _ => rfl) (by decide) (by decide) (by omega) (by omega) hE)
def fw_X12_readNumber (x : mm_X) (a1 : Int) (a2 : Int) : Nat → Nat → Prop := fun k j => (k = 137 ∧ j = 22) ∨ (k = 137 ∧ j = 23) ∨ (k = 137 ∧ j = 16) ∨ (k = 137 ∧ j = 20) ∨ (k = 137 ∧ j = 18) ∨ (k = 137 ∧ j = 21) ∨ (k = 137 ∧ j = 19)
theorem f_X12_readNumber {d : Nat} (hd : 13 ≤ d) {x : mm_X} (hx : mk_x x) {g : mz_G} (hI : mz_inv g) {a1 : Int} (l_a1 : 0 ≤ a1) (u_a1 : a1 ≤ 9999) {a2 : Int} (l_a2 : 0 ≤ a2) (u_a2 : a2 ≤ 9999) (p1 : g 137 20 ≤ g 137 16 ∧ g 137 21 = g 137 16 ∧ g 137 16 ≤ g 137 17 ∧ (g 137 18 ≠ 0 → g 137 20 < g 137 16)) {Q : (Option Value ⊕ Nat) → mm_H → Prop} (hQ : ∀ (r : Int) (g1 : mz_G), mz_inv g1 → mz_fr (fw_X12_readNumber x a1 a2) g g1 → (-2147483648) ≤ r → r ≤ 2147483647 → (g1 137 20 ≤ g1 137 16 ∧ g1 137 21 = g1 137 16 ∧ g1 137 16 ≤ g1 137 17 ∧ (g1 137 18 ≠ 0 → g1 137 20 < g1 137 16)) → (g 137 20 ≤ g1 137 20) → (g1 137 22 = 0 → g 137 22 = 0) → (g1 137 22 = 0 → g 137 20 < g1 137 20) → (g1 137 22 = 0 → a1 ≤ r ∧ r ≤ a2) → (g1 137 22 ≠ 0 → r = 0) → zf_E (zF_X12_readNumber a1 a2 g) ((r, g1)) → Q (.inl (some (.int (Int32.ofInt r)))) (mz_mk g1 x)) : mm_C d 200 [.ref 137, .int (Int32.ofInt a1), .int (Int32.ofInt a2)] (mz_mk g x) Q := by
  refine ⟨mmX12_readNumber, [some (.ref 137), some (.int (Int32.ofInt a1)), some (.int (Int32.ofInt a2)), none], rfl, rfl, ?_⟩
  have bz0 := mz_rd hI bd_137_16
  have bz1 := mz_rd hI bd_137_17
  have bz2 := mz_rd hI bd_137_18
  have bz3 := mz_rd hI bd_137_20
  have bz4 := mz_rd hI bd_137_21
  have bz5 := mz_rd hI bd_137_22
  have hE : zf_E (zF_X12_readNumber a1 a2 g) (zF_X12_readNumber a1 a2 g) := zf_rf
  refine mm_g 3 (pc1 := 3) (lo1 := [some (.ref 137), some (.int (Int32.ofInt a1)), some (.int (Int32.ofInt a2)), none]) (st1 := [.int (Int32.ofInt a2), .int (Int32.ofInt a1), .ref 137]) (H1 := mz_mk g x) rfl ?_
  refine mz_cv rfl mt_12_231 (by decide) (sc_137 _) rfl (Nat.le_of_ble_eq_true rfl) (by omega) (f_X12_numberNow (by omega) hx hI l_a1 u_a1 l_a2 u_a2 (by omega) (fun v7 g8 hIg8 hfg8 l_v7 u_v7 hp9 hp10 hc11 => ⟨_, rfl, ?_⟩))
  show mm_W d mmX12_readNumber 6 [some (.ref 137), some (.int (Int32.ofInt a1)), some (.int (Int32.ofInt a2)), none] [.int (Int32.ofInt v7)] (mz_mk g8 x) Q
  replace hE := zf_t2 hE hc11
  have bz_g8_22 := mz_rd hIg8 bd_137_22
  refine mm_g 2 (pc1 := 8) (lo1 := [some (.ref 137), some (.int (Int32.ofInt a1)), some (.int (Int32.ofInt a2)), some (.int (Int32.ofInt v7))]) (st1 := [.ref 137]) (H1 := mz_mk g8 x) rfl ?_
  refine mz_fgI (v := (g8 137 22)) rfl fd_12_203 (by decide) (sc_137 _) (show g8 137 22 = (g8 137 22) from rfl) ?_
  replace hE := zf_tr hE (zf_le (show g8 137 22 = (g8 137 22) from rfl))
  refine mz_if_ne (tgt := 18) rfl rfl ⟨by omega, by omega⟩ (fun c11_11 => ?_) (fun c11_11 => ?_)
  · skip
    replace hE := zf_in hE c11_11
    refine mm_g 1 (pc1 := 19) (lo1 := [some (.ref 137), some (.int (Int32.ofInt a1)), some (.int (Int32.ofInt a2)), some (.int (Int32.ofInt v7))]) (st1 := [.int (Int32.ofInt v7)]) (H1 := mz_mk g8 x) rfl ?_
    exact mm_rt rfl rfl (hQ _ _ hIg8 (fun k j hk => (hfg8 k j (fun h => hk (Or.elim h (fun h => (Or.inl h)) (fun h => (Or.inr (Or.inl h))))))) (by omega) (by omega) (by have h90 := (show g8 137 16 = (g 137 16) from ((hfg8 137 16 nj_12).trans rfl)); have h91 := (show g8 137 17 = (g 137 17) from ((hfg8 137 17 nj_13).trans rfl)); have h92 := (show g8 137 18 = (g 137 18) from ((hfg8 137 18 nj_14).trans rfl)); have h93 := (show g8 137 20 = (g 137 20) from ((hfg8 137 20 nj_15).trans rfl)); have h94 := (show g8 137 21 = (g 137 21) from ((hfg8 137 21 nj_16).trans rfl)); omega) (by have h90 := (show g8 137 16 = (g 137 16) from ((hfg8 137 16 nj_12).trans rfl)); have h91 := (show g8 137 17 = (g 137 17) from ((hfg8 137 17 nj_13).trans rfl)); have h92 := (show g8 137 18 = (g 137 18) from ((hfg8 137 18 nj_14).trans rfl)); have h93 := (show g8 137 20 = (g 137 20) from ((hfg8 137 20 nj_15).trans rfl)); have h94 := (show g8 137 21 = (g 137 21) from ((hfg8 137 21 nj_16).trans rfl)); omega) (by have h90 := (show g8 137 16 = (g 137 16) from ((hfg8 137 16 nj_12).trans rfl)); have h91 := (show g8 137 17 = (g 137 17) from ((hfg8 137 17 nj_13).trans rfl)); have h92 := (show g8 137 18 = (g 137 18) from ((hfg8 137 18 nj_14).trans rfl)); have h93 := (show g8 137 20 = (g 137 20) from ((hfg8 137 20 nj_15).trans rfl)); have h94 := (show g8 137 21 = (g 137 21) from ((hfg8 137 21 nj_16).trans rfl)); omega) (by have h90 := (show g8 137 16 = (g 137 16) from ((hfg8 137 16 nj_12).trans rfl)); have h91 := (show g8 137 17 = (g 137 17) from ((hfg8 137 17 nj_13).trans rfl)); have h92 := (show g8 137 18 = (g 137 18) from ((hfg8 137 18 nj_14).trans rfl)); have h93 := (show g8 137 20 = (g 137 20) from ((hfg8 137 20 nj_15).trans rfl)); have h94 := (show g8 137 21 = (g 137 21) from ((hfg8 137 21 nj_16).trans rfl)); omega) (by have h90 := (show g8 137 16 = (g 137 16) from ((hfg8 137 16 nj_12).trans rfl)); have h91 := (show g8 137 17 = (g 137 17) from ((hfg8 137 17 nj_13).trans rfl)); have h92 := (show g8 137 18 = (g 137 18) from ((hfg8 137 18 nj_14).trans rfl)); have h93 := (show g8 137 20 = (g 137 20) from ((hfg8 137 20 nj_15).trans rfl)); have h94 := (show g8 137 21 = (g 137 21) from ((hfg8 137 21 nj_16).trans rfl)); omega) (by have h90 := (show g8 137 16 = (g 137 16) from ((hfg8 137 16 nj_12).trans rfl)); have h91 := (show g8 137 17 = (g 137 17) from ((hfg8 137 17 nj_13).trans rfl)); have h92 := (show g8 137 18 = (g 137 18) from ((hfg8 137 18 nj_14).trans rfl)); have h93 := (show g8 137 20 = (g 137 20) from ((hfg8 137 20 nj_15).trans rfl)); have h94 := (show g8 137 21 = (g 137 21) from ((hfg8 137 21 nj_16).trans rfl)); omega) hE)
  · skip
    replace hE := zf_ip hE c11_11
    refine mm_g 1 (pc1 := 15) (lo1 := [some (.ref 137), some (.int (Int32.ofInt a1)), some (.int (Int32.ofInt a2)), some (.int (Int32.ofInt v7))]) (st1 := [.ref 137]) (H1 := mz_mk g8 x) rfl ?_
    have hq12 : g8 137 16 = (g 137 16) := (show g8 137 16 = (g 137 16) from ((hfg8 137 16 nj_12).trans rfl))
    have hq13 : g8 137 17 = (g 137 17) := (show g8 137 17 = (g 137 17) from ((hfg8 137 17 nj_13).trans rfl))
    have hq14 : g8 137 18 = (g 137 18) := (show g8 137 18 = (g 137 18) from ((hfg8 137 18 nj_14).trans rfl))
    have hq15 : g8 137 20 = (g 137 20) := (show g8 137 20 = (g 137 20) from ((hfg8 137 20 nj_15).trans rfl))
    have hq16 : g8 137 21 = (g 137 21) := (show g8 137 21 = (g 137 21) from ((hfg8 137 21 nj_16).trans rfl))
    refine mz_cv rfl mt_12_228 (by decide) (sc_137 _) rfl (Nat.le_of_ble_eq_true rfl) (by omega) (f_X12_stepOn (by omega) hx hIg8 (by have h90 := (show g8 137 16 = (g 137 16) from ((hfg8 137 16 nj_12).trans rfl)); have h91 := (show g8 137 17 = (g 137 17) from ((hfg8 137 17 nj_13).trans rfl)); omega) (fun g18 hIg18 hfg18 hp19 hp20 hc21 => ⟨_, rfl, ?_⟩))
    show mm_W d mmX12_readNumber 18 [some (.ref 137), some (.int (Int32.ofInt a1)), some (.int (Int32.ofInt a2)), some (.int (Int32.ofInt v7))] [] (mz_mk g18 x) Q
    replace hE := zf_t1 hE hc21
    have bz_g18_16 := mz_rd hIg18 bd_137_16
    have bz_g18_18 := mz_rd hIg18 bd_137_18
    have bz_g18_20 := mz_rd hIg18 bd_137_20
    have bz_g18_21 := mz_rd hIg18 bd_137_21
    refine mm_g 1 (pc1 := 19) (lo1 := [some (.ref 137), some (.int (Int32.ofInt a1)), some (.int (Int32.ofInt a2)), some (.int (Int32.ofInt v7))]) (st1 := [.int (Int32.ofInt v7)]) (H1 := mz_mk g18 x) rfl ?_
    exact mm_rt rfl rfl (hQ _ _ hIg18 (fun k j hk => ((hfg18 k j (fun h => hk (Or.elim h (fun h => (Or.inr (Or.inr (Or.inl h)))) (fun h => (Or.elim h (fun h => (Or.inr (Or.inr (Or.inr (Or.inl h))))) (fun h => (Or.elim h (fun h => (Or.inr (Or.inr (Or.inr (Or.inr (Or.inl h)))))) (fun h => (Or.elim h (fun h => (Or.inr (Or.inr (Or.inr (Or.inr (Or.inr (Or.inl h))))))) (fun h => (Or.inr (Or.inr (Or.inr (Or.inr (Or.inr (Or.inr h)))))))))))))))).trans (hfg8 k j (fun h => hk (Or.elim h (fun h => (Or.inl h)) (fun h => (Or.inr (Or.inl h)))))))) (by omega) (by omega) (by have h91 := (show g18 137 17 = (g 137 17) from ((hfg18 137 17 nj_10).trans ((hfg8 137 17 nj_13).trans rfl))); have h95 := (show g18 137 22 = (g8 137 22) from ((hfg18 137 22 nj_11).trans rfl)); omega) (by have h91 := (show g18 137 17 = (g 137 17) from ((hfg18 137 17 nj_10).trans ((hfg8 137 17 nj_13).trans rfl))); have h95 := (show g18 137 22 = (g8 137 22) from ((hfg18 137 22 nj_11).trans rfl)); omega) (by have h91 := (show g18 137 17 = (g 137 17) from ((hfg18 137 17 nj_10).trans ((hfg8 137 17 nj_13).trans rfl))); have h95 := (show g18 137 22 = (g8 137 22) from ((hfg18 137 22 nj_11).trans rfl)); omega) (by have h91 := (show g18 137 17 = (g 137 17) from ((hfg18 137 17 nj_10).trans ((hfg8 137 17 nj_13).trans rfl))); have h95 := (show g18 137 22 = (g8 137 22) from ((hfg18 137 22 nj_11).trans rfl)); omega) (by have h91 := (show g18 137 17 = (g 137 17) from ((hfg18 137 17 nj_10).trans ((hfg8 137 17 nj_13).trans rfl))); have h95 := (show g18 137 22 = (g8 137 22) from ((hfg18 137 22 nj_11).trans rfl)); omega) (by have h91 := (show g18 137 17 = (g 137 17) from ((hfg18 137 17 nj_10).trans ((hfg8 137 17 nj_13).trans rfl))); have h95 := (show g18 137 22 = (g8 137 22) from ((hfg18 137 22 nj_11).trans rfl)); omega) hE)
def fw_X12_lay (x : mm_X) (a1 : Int) : Nat → Nat → Prop := fun k j => k = 149 ∨ (k = 140 ∧ j = 7)
theorem f_X12_lay {d : Nat} (hd : 1 ≤ d) {x : mm_X} (hx : mk_x x) {g : mz_G} (hI : mz_inv g) {a1 : Int} (l_a1 : (-2147483648) ≤ a1) (u_a1 : a1 ≤ 2147483647) (p1 : g 137 22 = 0 → g 140 7 < 700) {Q : (Option Value ⊕ Nat) → mm_H → Prop} (hQ : ∀ (g1 : mz_G), mz_inv g1 → mz_fr (fw_X12_lay x a1) g g1 → (g 137 22 = 0 → g1 140 7 = g 140 7 + 1 ∧ g1 149 (700 + g 140 7).toNat = a1) → (g 137 22 ≠ 0 → g1 140 7 = g 140 7) → (∀ j : Nat, (j : Int) ≠ 700 + g 140 7 → g1 149 j = g 149 j) → zf_E (zF_X12_lay a1 g) (g1) → Q (.inl none) (mz_mk g1 x)) : mm_C d 201 [.ref 137, .int (Int32.ofInt a1)] (mz_mk g x) Q := by
  refine ⟨mmX12_lay, [some (.ref 137), some (.int (Int32.ofInt a1))], rfl, rfl, ?_⟩
  have bz0 := mz_rd hI bd_137_22
  have bz1 := mz_rd hI bt_140_4
  have bz2 := mz_rd hI bt_140_5
  have bz3 := mz_rd hI bt_140_6
  have bz4 := mz_rd hI bt_140_7
  have hE : zf_E (zF_X12_lay a1 g) (zF_X12_lay a1 g) := zf_rf
  refine mm_g 1 (pc1 := 1) (lo1 := [some (.ref 137), some (.int (Int32.ofInt a1))]) (st1 := [.ref 137]) (H1 := mz_mk g x) rfl ?_
  refine mz_fgI (v := (g 137 22)) rfl fd_12_203 (by decide) (sc_137 _) (show g 137 22 = (g 137 22) from rfl) ?_
  replace hE := zf_tr hE (zf_le (show g 137 22 = (g 137 22) from rfl))
  refine mz_if_eq (tgt := 8) rfl rfl ⟨by omega, by omega⟩ (fun c4_0 => ?_) (fun c4_0 => ?_)
  · skip
    replace hE := zf_ip hE c4_0
    refine mm_g 1 (pc1 := 9) (lo1 := [some (.ref 137), some (.int (Int32.ofInt a1))]) (st1 := [.ref 137]) (H1 := mz_mk g x) rfl ?_
    refine mz_fgR (v := 149) rfl fd_12_63 (by decide) (sc_137 _) (rf_137_12 _ _ _) ?_
    refine mz_sip rfl sip_700 ?_
    refine mm_g 1 (pc1 := 16) (lo1 := [some (.ref 137), some (.int (Int32.ofInt a1))]) (st1 := [.ref 137, .int (Int32.ofInt 700), .ref 149]) (H1 := mz_mk g x) rfl ?_
    refine mz_fgR (v := 140) rfl fd_12_36 (by decide) (sc_137 _) (rf_137_3 _ _ _) ?_
    refine mz_bip rfl bip_7 ?_
    refine mz_ia (v := (g 140 7)) rfl (sh_140 _) (by decide) (by decide) (by decide) (show g 140 7 = (g 140 7) from rfl) ?_
    replace hE := zf_tr hE (zf_le (show g 140 7 = (g 140 7) from rfl))
    refine mz_iadd rfl ?_
    refine mm_g 1 (pc1 := 24) (lo1 := [some (.ref 137), some (.int (Int32.ofInt a1))]) (st1 := [.int (Int32.ofInt a1), .int (Int32.ofInt (700 + (g 140 7))), .ref 149]) (H1 := mz_mk g x) rfl ?_
    refine mz_sI rfl (sh_149 _) (by omega) (by omega) (by decide) hI (ba_149 _) (by omega) (by omega) (fun g1 hIg1 hug1 => ?_)
    replace hE := zf_tr hE (zf_lg hug1)
    refine mm_g 1 (pc1 := 26) (lo1 := [some (.ref 137), some (.int (Int32.ofInt a1))]) (st1 := [.ref 137]) (H1 := mz_mk g1 x) rfl ?_
    refine mz_fgR (v := 140) rfl fd_12_36 (by decide) (sc_137 _) (rf_137_3 _ _ _) ?_
    refine mz_bip rfl bip_7 ?_
    refine mm_g 1 (pc1 := 32) (lo1 := [some (.ref 137), some (.int (Int32.ofInt a1))]) (st1 := [.int (Int32.ofInt 7), .ref 140, .int (Int32.ofInt 7), .ref 140]) (H1 := mz_mk g1 x) rfl ?_
    refine mz_ia (v := (g 140 7)) rfl (sh_140 _) (by decide) (by decide) (by decide) (show g1 140 7 = (g 140 7) from ((hug1.2 140 7 (fun h => absurd h.1 (by decide))).trans rfl)) ?_
    replace hE := zf_tr hE (zf_le (show g1 140 7 = (g 140 7) from ((hug1.2 140 7 (fun h => absurd h.1 (by decide))).trans rfl)))
    refine mm_g 1 (pc1 := 34) (lo1 := [some (.ref 137), some (.int (Int32.ofInt a1))]) (st1 := [.int (Int32.ofInt 1), .int (Int32.ofInt (g 140 7)), .int (Int32.ofInt 7), .ref 140]) (H1 := mz_mk g1 x) rfl ?_
    refine mz_iadd rfl ?_
    refine mz_sI rfl (sh_140 _) (by omega) (by omega) (by decide) hIg1 bt_140_7 (by omega) (by omega) (fun g2 hIg2 hug2 => ?_)
    replace hE := zf_tr hE (zf_lg hug2)
    exact mm_rt rfl rfl (hQ _ hIg2 (fun k j hk => ((hug2.2 k j (fun h => hk (Or.inr h))).trans (hug1.2 k j (fun h => hk (Or.inl h.1))))) (by intro _; have h90 := (show g2 140 7 = ((g 140 7) + 1) from hug2.1); have h8 := (show g2 149 ((700 + (g 140 7)) : Int).toNat = a1 from ((hug2.2 149 ((700 + (g 140 7)) : Int).toNat (fun h => absurd h.1 (by decide))).trans hug1.1)); exact ⟨by omega, h8⟩) (by intro _; have h90 := (show g2 140 7 = ((g 140 7) + 1) from hug2.1); omega) (fun j hj => ((hug2.2 149 j (fun h => absurd h.1 (by decide))).trans (hug1.2 149 j (by omega)))) hE)
  · skip
    replace hE := zf_in hE c4_0
    exact mm_rt rfl rfl (hQ _ hI (fun _ _ _ => rfl) (by intro _; exfalso; omega) (by intro _; omega) (fun j hj => rfl) hE)
def fw_X12_another (x : mm_X) (a1 : Int) (a2 : Int) : Nat → Nat → Prop := fun k j => (k = 137 ∧ j = 16) ∨ (k = 137 ∧ j = 20) ∨ (k = 137 ∧ j = 18) ∨ (k = 137 ∧ j = 21) ∨ (k = 137 ∧ j = 19) ∨ (k = 137 ∧ j = 22) ∨ (k = 137 ∧ j = 23)
theorem f_X12_another {d : Nat} (hd : 13 ≤ d) {x : mm_X} (hx : mk_x x) {g : mz_G} (hI : mz_inv g) {a1 : Int} (l_a1 : 0 ≤ a1) (u_a1 : a1 ≤ 1) {a2 : Int} (l_a2 : 6 ≤ a2) (u_a2 : a2 ≤ 8) (p1 : g 137 20 ≤ g 137 16 ∧ g 137 21 = g 137 16 ∧ g 137 16 ≤ g 137 17 ∧ (g 137 18 ≠ 0 → g 137 20 < g 137 16)) {Q : (Option Value ⊕ Nat) → mm_H → Prop} (hQ : ∀ (r : Int) (g1 : mz_G), mz_inv g1 → mz_fr (fw_X12_another x a1 a2) g g1 → 0 ≤ r → r ≤ 1 → (g1 137 20 ≤ g1 137 16 ∧ g1 137 21 = g1 137 16 ∧ g1 137 16 ≤ g1 137 17 ∧ (g1 137 18 ≠ 0 → g1 137 20 < g1 137 16)) → (g 137 20 ≤ g1 137 20) → (g1 137 22 = 0 → g 137 22 = 0) → (r = 1 → g 137 22 = 0 ∧ g1 137 22 = 0 ∧ g 137 16 ≤ g1 137 20) → (a1 = 0 → r = 1 → g 140 4 ≠ a2) → (a1 = 1 → r = 1 → g 140 5 ≠ a2) → (r = 0 → g1 137 22 ≠ 0) → zf_E (zF_X12_another a1 a2 g) ((r, g1)) → Q (.inl (some (.int (Int32.ofInt r)))) (mz_mk g1 x)) : mm_C d 208 [.ref 137, .int (Int32.ofInt a1), .int (Int32.ofInt a2)] (mz_mk g x) Q := by
  refine ⟨mmX12_another, [some (.ref 137), some (.int (Int32.ofInt a1)), some (.int (Int32.ofInt a2))], rfl, rfl, ?_⟩
  have bz0 := mz_rd hI bd_137_16
  have bz1 := mz_rd hI bd_137_17
  have bz2 := mz_rd hI bd_137_18
  have bz3 := mz_rd hI bd_137_20
  have bz4 := mz_rd hI bd_137_21
  have bz5 := mz_rd hI bd_137_22
  have bz6 := mz_rd hI bt_140_4
  have bz7 := mz_rd hI bt_140_5
  have hE : zf_E (zF_X12_another a1 a2 g) (zF_X12_another a1 a2 g) := zf_rf
  refine mm_g 1 (pc1 := 1) (lo1 := [some (.ref 137), some (.int (Int32.ofInt a1)), some (.int (Int32.ofInt a2))]) (st1 := [.ref 137]) (H1 := mz_mk g x) rfl ?_
  refine mz_fgR (v := 140) rfl fd_12_36 (by decide) (sc_137 _) (rf_137_3 _ _ _) ?_
  refine mm_g 2 (pc1 := 6) (lo1 := [some (.ref 137), some (.int (Int32.ofInt a1)), some (.int (Int32.ofInt a2))]) (st1 := [.int (Int32.ofInt a1), .int (Int32.ofInt 4), .ref 140]) (H1 := mz_mk g x) rfl ?_
  refine mz_iadd rfl ?_
  refine mz_aI rfl (sh_140 _) (by omega) (by omega) (by decide) hI (Prod.eta (mz_bd 140 ((4 + a1) : Int).toNat)).symm (fun v1 e_v1 l_v1 u_v1 => ?_)
  have t_v1 := told_le ((4 + a1) : Int).toNat
  have l0_v1 := l_v1
  have u0_v1 := u_v1
  have l_v1 : 0 ≤ v1 := by omega
  have u_v1 : v1 ≤ 700 := by omega
  replace hE := zf_tr hE (zf_le e_v1)
  refine mm_g 1 (pc1 := 9) (lo1 := [some (.ref 137), some (.int (Int32.ofInt a1)), some (.int (Int32.ofInt a2))]) (st1 := [.int (Int32.ofInt a2), .int (Int32.ofInt v1)]) (H1 := mz_mk g x) rfl ?_
  refine mz_ic_ne (tgt := 17) rfl rfl (mz_rg l_v1 u_v1) (mz_rg l_a2 u_a2) (fun c9_1 => ?_) (fun c9_1 => ?_)
  · skip
    replace hE := zf_in hE c9_1
    refine mm_g 1 (pc1 := 18) (lo1 := [some (.ref 137), some (.int (Int32.ofInt a1)), some (.int (Int32.ofInt a2))]) (st1 := [.ref 137]) (H1 := mz_mk g x) rfl ?_
    refine mz_fgI (v := (g 137 22)) rfl fd_12_203 (by decide) (sc_137 _) (show g 137 22 = (g 137 22) from rfl) ?_
    replace hE := zf_tr hE (zf_le (show g 137 22 = (g 137 22) from rfl))
    refine mz_if_eq (tgt := 26) rfl rfl ⟨by omega, by omega⟩ (fun c21_1 => ?_) (fun c21_1 => ?_)
    · skip
      replace hE := zf_ip hE c21_1
      refine mm_g 1 (pc1 := 27) (lo1 := [some (.ref 137), some (.int (Int32.ofInt a1)), some (.int (Int32.ofInt a2))]) (st1 := [.ref 137]) (H1 := mz_mk g x) rfl ?_
      refine mz_cv rfl mt_12_228 (by decide) (sc_137 _) rfl (Nat.le_of_ble_eq_true rfl) (by omega) (f_X12_stepOn (by omega) hx hI (by omega) (fun g8 hIg8 hfg8 hp9 hp10 hc11 => ⟨_, rfl, ?_⟩))
      show mm_W d mmX12_another 30 [some (.ref 137), some (.int (Int32.ofInt a1)), some (.int (Int32.ofInt a2))] [] (mz_mk g8 x) Q
      replace hE := zf_t1 hE hc11
      have bz_g8_16 := mz_rd hIg8 bd_137_16
      have bz_g8_18 := mz_rd hIg8 bd_137_18
      have bz_g8_20 := mz_rd hIg8 bd_137_20
      have bz_g8_21 := mz_rd hIg8 bd_137_21
      refine mm_g 1 (pc1 := 31) (lo1 := [some (.ref 137), some (.int (Int32.ofInt a1)), some (.int (Int32.ofInt a2))]) (st1 := [.int (Int32.ofInt 1)]) (H1 := mz_mk g8 x) rfl ?_
      exact mz_rtZ rfl (by decide) (by omega) (hQ _ _ hIg8 (fun k j hk => (hfg8 k j (fun h => hk (Or.elim h (fun h => (Or.inl h)) (fun h => (Or.elim h (fun h => (Or.inr (Or.inl h))) (fun h => (Or.elim h (fun h => (Or.inr (Or.inr (Or.inl h)))) (fun h => (Or.elim h (fun h => (Or.inr (Or.inr (Or.inr (Or.inl h))))) (fun h => (Or.inr (Or.inr (Or.inr (Or.inr (Or.inl h)))))))))))))))) (by decide) (by decide) (by have h91 := (show g8 137 17 = (g 137 17) from ((hfg8 137 17 nj_10).trans rfl)); have h95 := (show g8 137 22 = (g 137 22) from ((hfg8 137 22 nj_11).trans rfl)); omega) (by have h91 := (show g8 137 17 = (g 137 17) from ((hfg8 137 17 nj_10).trans rfl)); have h95 := (show g8 137 22 = (g 137 22) from ((hfg8 137 22 nj_11).trans rfl)); omega) (by have h91 := (show g8 137 17 = (g 137 17) from ((hfg8 137 17 nj_10).trans rfl)); have h95 := (show g8 137 22 = (g 137 22) from ((hfg8 137 22 nj_11).trans rfl)); omega) (by have h91 := (show g8 137 17 = (g 137 17) from ((hfg8 137 17 nj_10).trans rfl)); have h95 := (show g8 137 22 = (g 137 22) from ((hfg8 137 22 nj_11).trans rfl)); omega) (by intro h0 h1; have e9 : g 140 4 = v1 := (by rw [← e_v1, h0]; rfl); have h91 := (show g8 137 17 = (g 137 17) from ((hfg8 137 17 nj_10).trans rfl)); have h95 := (show g8 137 22 = (g 137 22) from ((hfg8 137 22 nj_11).trans rfl)); omega) (by intro h0 h1; have e9 : g 140 5 = v1 := (by rw [← e_v1, h0]; rfl); have h91 := (show g8 137 17 = (g 137 17) from ((hfg8 137 17 nj_10).trans rfl)); have h95 := (show g8 137 22 = (g 137 22) from ((hfg8 137 22 nj_11).trans rfl)); omega) (by have h91 := (show g8 137 17 = (g 137 17) from ((hfg8 137 17 nj_10).trans rfl)); have h95 := (show g8 137 22 = (g 137 22) from ((hfg8 137 22 nj_11).trans rfl)); omega) hE)
    · skip
      replace hE := zf_in hE c21_1
      refine mm_g 1 (pc1 := 25) (lo1 := [some (.ref 137), some (.int (Int32.ofInt a1)), some (.int (Int32.ofInt a2))]) (st1 := [.int (Int32.ofInt 0)]) (H1 := mz_mk g x) rfl ?_
      exact mz_rtZ rfl (by decide) (by omega) (hQ _ _ hI (fun _ _ _ => rfl) (by decide) (by decide) (by omega) (by omega) (by omega) (by omega) (by intro h0 h1; have e9 : g 140 4 = v1 := (by rw [← e_v1, h0]; rfl); omega) (by intro h0 h1; have e9 : g 140 5 = v1 := (by rw [← e_v1, h0]; rfl); omega) (by omega) hE)
  · skip
    replace hE := zf_ip hE c9_1
    refine mm_g 2 (pc1 := 14) (lo1 := [some (.ref 137), some (.int (Int32.ofInt a1)), some (.int (Int32.ofInt a2))]) (st1 := [.int (Int32.ofInt 2), .ref 137]) (H1 := mz_mk g x) rfl ?_
    refine mz_cv rfl mt_12_224 (by decide) (sc_137 _) rfl (Nat.le_of_ble_eq_true rfl) (by omega) (f_X12_wrong (by omega) hx hI (by decide) (by decide) (fun g13 hIg13 hfg13 hp14 hp15 hc16 => ⟨_, rfl, ?_⟩))
    show mm_W d mmX12_another 17 [some (.ref 137), some (.int (Int32.ofInt a1)), some (.int (Int32.ofInt a2))] [] (mz_mk g13 x) Q
    replace hE := zf_t1 hE hc16
    have bz_g13_22 := mz_rd hIg13 bd_137_22
    refine mm_g 1 (pc1 := 18) (lo1 := [some (.ref 137), some (.int (Int32.ofInt a1)), some (.int (Int32.ofInt a2))]) (st1 := [.ref 137]) (H1 := mz_mk g13 x) rfl ?_
    refine mz_fgI (v := (g13 137 22)) rfl fd_12_203 (by decide) (sc_137 _) (show g13 137 22 = (g13 137 22) from rfl) ?_
    replace hE := zf_tr hE (zf_le (show g13 137 22 = (g13 137 22) from rfl))
    refine mz_if_eq (tgt := 26) rfl rfl ⟨by omega, by omega⟩ (fun c21_16 => ?_) (fun c21_16 => ?_)
    · skip
      replace hE := zf_ip hE c21_16
      refine mm_g 1 (pc1 := 27) (lo1 := [some (.ref 137), some (.int (Int32.ofInt a1)), some (.int (Int32.ofInt a2))]) (st1 := [.ref 137]) (H1 := mz_mk g13 x) rfl ?_
      have hq17 : g13 137 16 = (g 137 16) := (show g13 137 16 = (g 137 16) from ((hfg13 137 16 nj_12).trans rfl))
      have hq18 : g13 137 17 = (g 137 17) := (show g13 137 17 = (g 137 17) from ((hfg13 137 17 nj_13).trans rfl))
      have hq19 : g13 137 18 = (g 137 18) := (show g13 137 18 = (g 137 18) from ((hfg13 137 18 nj_14).trans rfl))
      have hq20 : g13 137 20 = (g 137 20) := (show g13 137 20 = (g 137 20) from ((hfg13 137 20 nj_15).trans rfl))
      have hq21 : g13 137 21 = (g 137 21) := (show g13 137 21 = (g 137 21) from ((hfg13 137 21 nj_16).trans rfl))
      refine mz_cv rfl mt_12_228 (by decide) (sc_137 _) rfl (Nat.le_of_ble_eq_true rfl) (by omega) (f_X12_stepOn (by omega) hx hIg13 (by have h90 := (show g13 137 16 = (g 137 16) from ((hfg13 137 16 nj_12).trans rfl)); have h91 := (show g13 137 17 = (g 137 17) from ((hfg13 137 17 nj_13).trans rfl)); omega) (fun g23 hIg23 hfg23 hp24 hp25 hc26 => ⟨_, rfl, ?_⟩))
      show mm_W d mmX12_another 30 [some (.ref 137), some (.int (Int32.ofInt a1)), some (.int (Int32.ofInt a2))] [] (mz_mk g23 x) Q
      replace hE := zf_t1 hE hc26
      have bz_g23_16 := mz_rd hIg23 bd_137_16
      have bz_g23_18 := mz_rd hIg23 bd_137_18
      have bz_g23_20 := mz_rd hIg23 bd_137_20
      have bz_g23_21 := mz_rd hIg23 bd_137_21
      refine mm_g 1 (pc1 := 31) (lo1 := [some (.ref 137), some (.int (Int32.ofInt a1)), some (.int (Int32.ofInt a2))]) (st1 := [.int (Int32.ofInt 1)]) (H1 := mz_mk g23 x) rfl ?_
      exact mz_rtZ rfl (by decide) (by omega) (hQ _ _ hIg23 (fun k j hk => ((hfg23 k j (fun h => hk (Or.elim h (fun h => (Or.inl h)) (fun h => (Or.elim h (fun h => (Or.inr (Or.inl h))) (fun h => (Or.elim h (fun h => (Or.inr (Or.inr (Or.inl h)))) (fun h => (Or.elim h (fun h => (Or.inr (Or.inr (Or.inr (Or.inl h))))) (fun h => (Or.inr (Or.inr (Or.inr (Or.inr (Or.inl h))))))))))))))).trans (hfg13 k j (fun h => hk (Or.elim h (fun h => (Or.inr (Or.inr (Or.inr (Or.inr (Or.inr (Or.inl h))))))) (fun h => (Or.inr (Or.inr (Or.inr (Or.inr (Or.inr (Or.inr h)))))))))))) (by decide) (by decide) (by have h91 := (show g23 137 17 = (g 137 17) from ((hfg23 137 17 nj_10).trans ((hfg13 137 17 nj_13).trans rfl))); have h95 := (show g23 137 22 = (g13 137 22) from ((hfg23 137 22 nj_11).trans rfl)); omega) (by have h91 := (show g23 137 17 = (g 137 17) from ((hfg23 137 17 nj_10).trans ((hfg13 137 17 nj_13).trans rfl))); have h95 := (show g23 137 22 = (g13 137 22) from ((hfg23 137 22 nj_11).trans rfl)); omega) (by have h91 := (show g23 137 17 = (g 137 17) from ((hfg23 137 17 nj_10).trans ((hfg13 137 17 nj_13).trans rfl))); have h95 := (show g23 137 22 = (g13 137 22) from ((hfg23 137 22 nj_11).trans rfl)); omega) (by have h91 := (show g23 137 17 = (g 137 17) from ((hfg23 137 17 nj_10).trans ((hfg13 137 17 nj_13).trans rfl))); have h95 := (show g23 137 22 = (g13 137 22) from ((hfg23 137 22 nj_11).trans rfl)); omega) (by intro h0 h1; have e9 : g 140 4 = v1 := (by rw [← e_v1, h0]; rfl); have h91 := (show g23 137 17 = (g 137 17) from ((hfg23 137 17 nj_10).trans ((hfg13 137 17 nj_13).trans rfl))); have h95 := (show g23 137 22 = (g13 137 22) from ((hfg23 137 22 nj_11).trans rfl)); omega) (by intro h0 h1; have e9 : g 140 5 = v1 := (by rw [← e_v1, h0]; rfl); have h91 := (show g23 137 17 = (g 137 17) from ((hfg23 137 17 nj_10).trans ((hfg13 137 17 nj_13).trans rfl))); have h95 := (show g23 137 22 = (g13 137 22) from ((hfg23 137 22 nj_11).trans rfl)); omega) (by have h91 := (show g23 137 17 = (g 137 17) from ((hfg23 137 17 nj_10).trans ((hfg13 137 17 nj_13).trans rfl))); have h95 := (show g23 137 22 = (g13 137 22) from ((hfg23 137 22 nj_11).trans rfl)); omega) hE)
    · skip
      replace hE := zf_in hE c21_16
      refine mm_g 1 (pc1 := 25) (lo1 := [some (.ref 137), some (.int (Int32.ofInt a1)), some (.int (Int32.ofInt a2))]) (st1 := [.int (Int32.ofInt 0)]) (H1 := mz_mk g13 x) rfl ?_
      exact mz_rtZ rfl (by decide) (by omega) (hQ _ _ hIg13 (fun k j hk => (hfg13 k j (fun h => hk (Or.elim h (fun h => (Or.inr (Or.inr (Or.inr (Or.inr (Or.inr (Or.inl h))))))) (fun h => (Or.inr (Or.inr (Or.inr (Or.inr (Or.inr (Or.inr h))))))))))) (by decide) (by decide) (by have h90 := (show g13 137 16 = (g 137 16) from ((hfg13 137 16 nj_12).trans rfl)); have h91 := (show g13 137 17 = (g 137 17) from ((hfg13 137 17 nj_13).trans rfl)); have h92 := (show g13 137 18 = (g 137 18) from ((hfg13 137 18 nj_14).trans rfl)); have h93 := (show g13 137 20 = (g 137 20) from ((hfg13 137 20 nj_15).trans rfl)); have h94 := (show g13 137 21 = (g 137 21) from ((hfg13 137 21 nj_16).trans rfl)); omega) (by have h90 := (show g13 137 16 = (g 137 16) from ((hfg13 137 16 nj_12).trans rfl)); have h91 := (show g13 137 17 = (g 137 17) from ((hfg13 137 17 nj_13).trans rfl)); have h92 := (show g13 137 18 = (g 137 18) from ((hfg13 137 18 nj_14).trans rfl)); have h93 := (show g13 137 20 = (g 137 20) from ((hfg13 137 20 nj_15).trans rfl)); have h94 := (show g13 137 21 = (g 137 21) from ((hfg13 137 21 nj_16).trans rfl)); omega) (by have h90 := (show g13 137 16 = (g 137 16) from ((hfg13 137 16 nj_12).trans rfl)); have h91 := (show g13 137 17 = (g 137 17) from ((hfg13 137 17 nj_13).trans rfl)); have h92 := (show g13 137 18 = (g 137 18) from ((hfg13 137 18 nj_14).trans rfl)); have h93 := (show g13 137 20 = (g 137 20) from ((hfg13 137 20 nj_15).trans rfl)); have h94 := (show g13 137 21 = (g 137 21) from ((hfg13 137 21 nj_16).trans rfl)); omega) (by have h90 := (show g13 137 16 = (g 137 16) from ((hfg13 137 16 nj_12).trans rfl)); have h91 := (show g13 137 17 = (g 137 17) from ((hfg13 137 17 nj_13).trans rfl)); have h92 := (show g13 137 18 = (g 137 18) from ((hfg13 137 18 nj_14).trans rfl)); have h93 := (show g13 137 20 = (g 137 20) from ((hfg13 137 20 nj_15).trans rfl)); have h94 := (show g13 137 21 = (g 137 21) from ((hfg13 137 21 nj_16).trans rfl)); omega) (by intro h0 h1; have e9 : g 140 4 = v1 := (by rw [← e_v1, h0]; rfl); have h90 := (show g13 137 16 = (g 137 16) from ((hfg13 137 16 nj_12).trans rfl)); have h91 := (show g13 137 17 = (g 137 17) from ((hfg13 137 17 nj_13).trans rfl)); have h92 := (show g13 137 18 = (g 137 18) from ((hfg13 137 18 nj_14).trans rfl)); have h93 := (show g13 137 20 = (g 137 20) from ((hfg13 137 20 nj_15).trans rfl)); have h94 := (show g13 137 21 = (g 137 21) from ((hfg13 137 21 nj_16).trans rfl)); omega) (by intro h0 h1; have e9 : g 140 5 = v1 := (by rw [← e_v1, h0]; rfl); have h90 := (show g13 137 16 = (g 137 16) from ((hfg13 137 16 nj_12).trans rfl)); have h91 := (show g13 137 17 = (g 137 17) from ((hfg13 137 17 nj_13).trans rfl)); have h92 := (show g13 137 18 = (g 137 18) from ((hfg13 137 18 nj_14).trans rfl)); have h93 := (show g13 137 20 = (g 137 20) from ((hfg13 137 20 nj_15).trans rfl)); have h94 := (show g13 137 21 = (g 137 21) from ((hfg13 137 21 nj_16).trans rfl)); omega) (by have h90 := (show g13 137 16 = (g 137 16) from ((hfg13 137 16 nj_12).trans rfl)); have h91 := (show g13 137 17 = (g 137 17) from ((hfg13 137 17 nj_13).trans rfl)); have h92 := (show g13 137 18 = (g 137 18) from ((hfg13 137 18 nj_14).trans rfl)); have h93 := (show g13 137 20 = (g 137 20) from ((hfg13 137 20 nj_15).trans rfl)); have h94 := (show g13 137 21 = (g 137 21) from ((hfg13 137 21 nj_16).trans rfl)); omega) hE)
theorem f_X12_isToldAhead {d : Nat} (hd : 1 ≤ d) {x : mm_X} (hx : mk_x x) {g : mz_G} (hI : mz_inv g) {a1 : Int} (l_a1 : 0 ≤ a1) (u_a1 : a1 ≤ 8) (p1 : g 137 20 ≤ g 137 16 ∧ g 137 21 = g 137 16 ∧ g 137 16 ≤ g 137 17 ∧ (g 137 18 ≠ 0 → g 137 20 < g 137 16)) (p2 : g 137 20 + a1 ≤ g 137 16) {Q : (Option Value ⊕ Nat) → mm_H → Prop} (hQ : ∀ (r : Int), 0 ≤ r → r ≤ 1 → zf_E (zF_X12_isToldAhead a1 g) (r) → Q (.inl (some (.int (Int32.ofInt r)))) (mz_mk g x)) : mm_C d 209 [.ref 137, .int (Int32.ofInt a1)] (mz_mk g x) Q := by
  refine ⟨mmX12_isToldAhead, [some (.ref 137), some (.int (Int32.ofInt a1)), none, none, none], rfl, rfl, ?_⟩
  have bz0 := mz_rd hI bd_137_16
  have bz1 := mz_rd hI bd_137_17
  have bz2 := mz_rd hI bd_137_18
  have bz3 := mz_rd hI bd_137_20
  have bz4 := mz_rd hI bd_137_21
  have bz5 := mz_rd hI bd_137_22
  have bz6 := mz_rd hI bt_140_4
  have hE : zf_E (zF_X12_isToldAhead a1 g) (zF_X12_isToldAhead a1 g) := zf_rf
  refine mm_g 2 (pc1 := 2) (lo1 := [some (.ref 137), some (.int (Int32.ofInt a1)), some (.int (Int32.ofInt 0)), none, none]) (st1 := []) (H1 := mz_mk g x) rfl ?_
  have L7 : ∀ n6 : Nat, ∀ (v1 : Int) (o2 : Option Value) (o3 : Option Value), (8 - v1).toNat = n6 → 0 ≤ v1 → v1 ≤ 8 → mz_nl o2 → mz_nl o3 → (∃ fk : Nat, (8 - v1).toNat < fk ∧ zf_E (zF_X12_isToldAhead a1 g) (zL_X12_isToldAhead_2 a1 g fk v1)) → mm_W d mmX12_isToldAhead 2 [some (.ref 137), some (.int (Int32.ofInt a1)), some (.int (Int32.ofInt v1)), o2, o3] [] (mz_mk g x) Q := by
    intro n6
    induction n6 using Nat.strongRecOn with
    | ind n6 ih5 =>
    intro v1 o2 o3 hmn6 l_v1 u_v1 h_o2 h_o3 hF
    obtain ⟨fk, fl, hE⟩ := hF
    obtain ⟨fj8, rfl⟩ : ∃ fj, fk = fj + 1 := ⟨fk - 1, by omega⟩
    have fn9 : n6 ≤ fj8 := by omega
    replace hE := zf_tr hE zL_X12_isToldAhead_2_s
    refine mm_g 2 (pc1 := 4) (lo1 := [some (.ref 137), some (.int (Int32.ofInt a1)), some (.int (Int32.ofInt v1)), o2, o3]) (st1 := [.ref 137, .int (Int32.ofInt v1)]) (H1 := mz_mk g x) rfl ?_
    refine mz_fgR (v := 140) rfl fd_12_36 (by decide) (sc_137 _) (rf_137_3 _ _ _) ?_
    refine mm_g 1 (pc1 := 8) (lo1 := [some (.ref 137), some (.int (Int32.ofInt a1)), some (.int (Int32.ofInt v1)), o2, o3]) (st1 := [.int (Int32.ofInt 4), .ref 140, .int (Int32.ofInt v1)]) (H1 := mz_mk g x) rfl ?_
    refine mz_ia (v := (g 140 4)) rfl (sh_140 _) (by decide) (by decide) (by decide) (show g 140 4 = (g 140 4) from rfl) ?_
    replace hE := zf_tr hE (zf_le (show g 140 4 = (g 140 4) from rfl))
    refine mz_ic_ge (tgt := 103) rfl rfl (mz_rg l_v1 u_v1) ⟨by omega, by omega⟩ (fun c9_9 => ?_) (fun c9_9 => ?_)
    · skip
      replace hE := zf_nl hE c9_9
      refine mm_g 1 (pc1 := 104) (lo1 := [some (.ref 137), some (.int (Int32.ofInt a1)), some (.int (Int32.ofInt v1)), o2, o3]) (st1 := [.int (Int32.ofInt 0)]) (H1 := mz_mk g x) rfl ?_
      exact mz_rtZ rfl (by decide) (by omega) (hQ _ (by decide) (by decide) hE)
    · skip
      replace hE := zf_ip hE c9_9
      refine mm_g 1 (pc1 := 13) (lo1 := [some (.ref 137), some (.int (Int32.ofInt a1)), some (.int (Int32.ofInt v1)), o2, o3]) (st1 := [.ref 137]) (H1 := mz_mk g x) rfl ?_
      refine mz_fgR (v := 142) rfl fd_12_43 (by decide) (sc_137 _) (rf_137_5 _ _ _) ?_
      refine mz_bip rfl bip_8 ?_
      refine mm_g 1 (pc1 := 19) (lo1 := [some (.ref 137), some (.int (Int32.ofInt a1)), some (.int (Int32.ofInt v1)), o2, o3]) (st1 := [.int (Int32.ofInt v1), .int (Int32.ofInt 8), .ref 142]) (H1 := mz_mk g x) rfl ?_
      refine mz_iadd rfl ?_
      refine mz_aI rfl (sh_142 _) (by omega) (by omega) (by decide) hI (ba_142 _) (fun v10 e_v10 l_v10 u_v10 => ?_)
      replace hE := zf_tr hE (zf_le e_v10)
      refine mm_g 1 (pc1 := 22) (lo1 := [some (.ref 137), some (.int (Int32.ofInt a1)), some (.int (Int32.ofInt v1)), o2, o3]) (st1 := [.int (Int32.ofInt a1), .int (Int32.ofInt v10)]) (H1 := mz_mk g x) rfl ?_
      refine mz_ic_ne (tgt := 29) rfl rfl (mz_rg l_v10 u_v10) (mz_rg l_a1 u_a1) (fun c22_10 => ?_) (fun c22_10 => ?_)
      · skip
        replace hE := zf_in hE c22_10
        refine mm_g 4 (pc1 := 34) (lo1 := [some (.ref 137), some (.int (Int32.ofInt a1)), some (.int (Int32.ofInt v1)), some (.int (Int32.ofInt 0)), some (.int (Int32.ofInt 0))]) (st1 := []) (H1 := mz_mk g x) rfl ?_
        have hO16 := hE
        have L17 : ∀ n15 : Nat, ∀ (v11 : Int) (v12 : Int), (0 : Nat) = n15 → 0 ≤ v11 → v11 ≤ 0 → 0 ≤ v12 → v12 ≤ 0 → (∃ fk : Nat, (0 : Nat) < fk ∧ zf_E (zL_X12_isToldAhead_34 a1 g 3000000000 v1 0 0) (zL_X12_isToldAhead_34 a1 g fk v1 v11 v12)) → mm_W d mmX12_isToldAhead 34 [some (.ref 137), some (.int (Int32.ofInt a1)), some (.int (Int32.ofInt v1)), some (.int (Int32.ofInt v11)), some (.int (Int32.ofInt v12))] [] (mz_mk g x) Q := by
          intro n15
          induction n15 using Nat.strongRecOn with
          | ind n15 ih14 =>
          intro v11 v12 hmn15 l_v11 u_v11 l_v12 u_v12 hF
          obtain ⟨fk, fl, hE⟩ := hF
          obtain ⟨fj18, rfl⟩ : ∃ fj, fk = fj + 1 := ⟨fk - 1, by omega⟩
          have fn19 : n15 ≤ fj18 := by omega
          replace hE := zf_tr hE zL_X12_isToldAhead_34_s
          refine mm_g 2 (pc1 := 37) (lo1 := [some (.ref 137), some (.int (Int32.ofInt a1)), some (.int (Int32.ofInt v1)), some (.int (Int32.ofInt v11)), some (.int (Int32.ofInt v12))]) (st1 := [.int (Int32.ofInt a1), .int (Int32.ofInt v12)]) (H1 := mz_mk g x) rfl ?_
          refine mz_ic_ge (tgt := 91) rfl rfl (mz_rg l_v12 u_v12) (mz_rg l_a1 u_a1) (fun c37_19 => ?_) (fun c37_19 => ?_)
          · skip
            replace hE := zf_nl hE c37_19
            replace hE := zf_t1 hO16 hE
            refine mm_g 1 (pc1 := 92) (lo1 := [some (.ref 137), some (.int (Int32.ofInt a1)), some (.int (Int32.ofInt v1)), some (.int (Int32.ofInt v11)), some (.int (Int32.ofInt v12))]) (st1 := [.int (Int32.ofInt v11)]) (H1 := mz_mk g x) rfl ?_
            refine mz_if_eq (tgt := 97) rfl rfl (mz_rg l_v11 u_v11) (fun c92_19 => ?_) (fun c92_19 => ?_)
            · skip
              replace hE := zf_ip hE c92_19
              refine mz_iincR (v := v1) (lo2 := [some (.ref 137), some (.int (Int32.ofInt a1)), some (.int (Int32.ofInt (v1 + 1))), some (.int (Int32.ofInt v11)), some (.int (Int32.ofInt v12))]) rfl rfl rfl (Nat.le_of_ble_eq_true rfl) rfl ?_
              refine mz_gt (tgt := 2) rfl rfl ?_
              exact ih5 ((8 - (v1 + 1)).toNat) (by omega) (v1 + 1) (some (.int (Int32.ofInt v11))) (some (.int (Int32.ofInt v12))) rfl (by omega) (by omega) (mz_nl_i _) (mz_nl_i _) ⟨fj8, Nat.lt_of_lt_of_le (show ((8 - (v1 + 1)).toNat) < n6 from (by omega)) fn9, hE⟩
            · exfalso; omega
          · skip
            replace hE := zf_ip hE c37_19
            refine mm_g 1 (pc1 := 41) (lo1 := [some (.ref 137), some (.int (Int32.ofInt a1)), some (.int (Int32.ofInt v1)), some (.int (Int32.ofInt v11)), some (.int (Int32.ofInt v12))]) (st1 := [.int (Int32.ofInt v11)]) (H1 := mz_mk g x) rfl ?_
            refine mz_if_eq (tgt := 91) rfl rfl (mz_rg l_v11 u_v11) (fun c41_19 => ?_) (fun c41_19 => ?_)
            · skip
              replace hE := zf_ip hE c41_19
              replace hE := zf_t1 hO16 hE
              refine mm_g 1 (pc1 := 92) (lo1 := [some (.ref 137), some (.int (Int32.ofInt a1)), some (.int (Int32.ofInt v1)), some (.int (Int32.ofInt v11)), some (.int (Int32.ofInt v12))]) (st1 := [.int (Int32.ofInt v11)]) (H1 := mz_mk g x) rfl ?_
              refine mz_if_eq (tgt := 97) rfl rfl (mz_rg l_v11 u_v11) (fun c92_19 => ?_) (fun c92_19 => ?_)
              · skip
                replace hE := zf_ip hE c92_19
                refine mz_iincR (v := v1) (lo2 := [some (.ref 137), some (.int (Int32.ofInt a1)), some (.int (Int32.ofInt (v1 + 1))), some (.int (Int32.ofInt v11)), some (.int (Int32.ofInt v12))]) rfl rfl rfl (Nat.le_of_ble_eq_true rfl) rfl ?_
                refine mz_gt (tgt := 2) rfl rfl ?_
                exact ih5 ((8 - (v1 + 1)).toNat) (by omega) (v1 + 1) (some (.int (Int32.ofInt v11))) (some (.int (Int32.ofInt v12))) rfl (by omega) (by omega) (mz_nl_i _) (mz_nl_i _) ⟨fj8, Nat.lt_of_lt_of_le (show ((8 - (v1 + 1)).toNat) < n6 from (by omega)) fn9, hE⟩
              · exfalso; omega
            · exfalso; omega
        exact L17 _ 0 0 rfl (by decide) (by decide) (by decide) (by decide) ⟨3000000000, by omega, zf_rf⟩
      · skip
        replace hE := zf_ip hE c22_10
        refine mm_g 1 (pc1 := 26) (lo1 := [some (.ref 137), some (.int (Int32.ofInt a1)), some (.int (Int32.ofInt v1)), o2, o3]) (st1 := [.int (Int32.ofInt 1)]) (H1 := mz_mk g x) rfl ?_
        refine mz_gt (tgt := 30) rfl rfl ?_
        refine mm_g 3 (pc1 := 34) (lo1 := [some (.ref 137), some (.int (Int32.ofInt a1)), some (.int (Int32.ofInt v1)), some (.int (Int32.ofInt 1)), some (.int (Int32.ofInt 0))]) (st1 := []) (H1 := mz_mk g x) rfl ?_
        have hO25 := hE
        have L26 : ∀ n24 : Nat, ∀ (v20 : Int) (v21 : Int), (8 - v21).toNat = n24 → 0 ≤ v20 → v20 ≤ 1 → 0 ≤ v21 → v21 ≤ 8 → (∃ fk : Nat, (8 - v21).toNat < fk ∧ zf_E (zL_X12_isToldAhead_34 a1 g 3000000000 v1 1 0) (zL_X12_isToldAhead_34 a1 g fk v1 v20 v21)) → mm_W d mmX12_isToldAhead 34 [some (.ref 137), some (.int (Int32.ofInt a1)), some (.int (Int32.ofInt v1)), some (.int (Int32.ofInt v20)), some (.int (Int32.ofInt v21))] [] (mz_mk g x) Q := by
          intro n24
          induction n24 using Nat.strongRecOn with
          | ind n24 ih23 =>
          intro v20 v21 hmn24 l_v20 u_v20 l_v21 u_v21 hF
          obtain ⟨fk, fl, hE⟩ := hF
          obtain ⟨fj27, rfl⟩ : ∃ fj, fk = fj + 1 := ⟨fk - 1, by omega⟩
          have fn28 : n24 ≤ fj27 := by omega
          replace hE := zf_tr hE zL_X12_isToldAhead_34_s
          refine mm_g 2 (pc1 := 37) (lo1 := [some (.ref 137), some (.int (Int32.ofInt a1)), some (.int (Int32.ofInt v1)), some (.int (Int32.ofInt v20)), some (.int (Int32.ofInt v21))]) (st1 := [.int (Int32.ofInt a1), .int (Int32.ofInt v21)]) (H1 := mz_mk g x) rfl ?_
          refine mz_ic_ge (tgt := 91) rfl rfl (mz_rg l_v21 u_v21) (mz_rg l_a1 u_a1) (fun c37_28 => ?_) (fun c37_28 => ?_)
          · skip
            replace hE := zf_nl hE c37_28
            replace hE := zf_t1 hO25 hE
            refine mm_g 1 (pc1 := 92) (lo1 := [some (.ref 137), some (.int (Int32.ofInt a1)), some (.int (Int32.ofInt v1)), some (.int (Int32.ofInt v20)), some (.int (Int32.ofInt v21))]) (st1 := [.int (Int32.ofInt v20)]) (H1 := mz_mk g x) rfl ?_
            refine mz_if_eq (tgt := 97) rfl rfl (mz_rg l_v20 u_v20) (fun c92_28 => ?_) (fun c92_28 => ?_)
            · skip
              replace hE := zf_ip hE c92_28
              refine mz_iincR (v := v1) (lo2 := [some (.ref 137), some (.int (Int32.ofInt a1)), some (.int (Int32.ofInt (v1 + 1))), some (.int (Int32.ofInt v20)), some (.int (Int32.ofInt v21))]) rfl rfl rfl (Nat.le_of_ble_eq_true rfl) rfl ?_
              refine mz_gt (tgt := 2) rfl rfl ?_
              exact ih5 ((8 - (v1 + 1)).toNat) (by omega) (v1 + 1) (some (.int (Int32.ofInt v20))) (some (.int (Int32.ofInt v21))) rfl (by omega) (by omega) (mz_nl_i _) (mz_nl_i _) ⟨fj8, Nat.lt_of_lt_of_le (show ((8 - (v1 + 1)).toNat) < n6 from (by omega)) fn9, hE⟩
            · skip
              replace hE := zf_in hE c92_28
              refine mm_g 1 (pc1 := 96) (lo1 := [some (.ref 137), some (.int (Int32.ofInt a1)), some (.int (Int32.ofInt v1)), some (.int (Int32.ofInt v20)), some (.int (Int32.ofInt v21))]) (st1 := [.int (Int32.ofInt 1)]) (H1 := mz_mk g x) rfl ?_
              exact mz_rtZ rfl (by decide) (by omega) (hQ _ (by decide) (by decide) hE)
          · skip
            replace hE := zf_ip hE c37_28
            refine mm_g 1 (pc1 := 41) (lo1 := [some (.ref 137), some (.int (Int32.ofInt a1)), some (.int (Int32.ofInt v1)), some (.int (Int32.ofInt v20)), some (.int (Int32.ofInt v21))]) (st1 := [.int (Int32.ofInt v20)]) (H1 := mz_mk g x) rfl ?_
            refine mz_if_eq (tgt := 91) rfl rfl (mz_rg l_v20 u_v20) (fun c41_28 => ?_) (fun c41_28 => ?_)
            · skip
              replace hE := zf_ip hE c41_28
              replace hE := zf_t1 hO25 hE
              refine mm_g 1 (pc1 := 92) (lo1 := [some (.ref 137), some (.int (Int32.ofInt a1)), some (.int (Int32.ofInt v1)), some (.int (Int32.ofInt v20)), some (.int (Int32.ofInt v21))]) (st1 := [.int (Int32.ofInt v20)]) (H1 := mz_mk g x) rfl ?_
              refine mz_if_eq (tgt := 97) rfl rfl (mz_rg l_v20 u_v20) (fun c92_28 => ?_) (fun c92_28 => ?_)
              · skip
                replace hE := zf_ip hE c92_28
                refine mz_iincR (v := v1) (lo2 := [some (.ref 137), some (.int (Int32.ofInt a1)), some (.int (Int32.ofInt (v1 + 1))), some (.int (Int32.ofInt v20)), some (.int (Int32.ofInt v21))]) rfl rfl rfl (Nat.le_of_ble_eq_true rfl) rfl ?_
                refine mz_gt (tgt := 2) rfl rfl ?_
                exact ih5 ((8 - (v1 + 1)).toNat) (by omega) (v1 + 1) (some (.int (Int32.ofInt v20))) (some (.int (Int32.ofInt v21))) rfl (by omega) (by omega) (mz_nl_i _) (mz_nl_i _) ⟨fj8, Nat.lt_of_lt_of_le (show ((8 - (v1 + 1)).toNat) < n6 from (by omega)) fn9, hE⟩
              · exfalso; omega
            · skip
              replace hE := zf_in hE c41_28
              refine mm_g 1 (pc1 := 45) (lo1 := [some (.ref 137), some (.int (Int32.ofInt a1)), some (.int (Int32.ofInt v1)), some (.int (Int32.ofInt v20)), some (.int (Int32.ofInt v21))]) (st1 := [.ref 137]) (H1 := mz_mk g x) rfl ?_
              refine mz_fgR (v := 141) rfl fd_12_40 (by decide) (sc_137 _) (rf_137_4 _ _ _) ?_
              refine mz_bip rfl bip_8 ?_
              refine mz_bip rfl bip_8 ?_
              refine mm_g 1 (pc1 := 53) (lo1 := [some (.ref 137), some (.int (Int32.ofInt a1)), some (.int (Int32.ofInt v1)), some (.int (Int32.ofInt v20)), some (.int (Int32.ofInt v21))]) (st1 := [.int (Int32.ofInt v1), .int (Int32.ofInt 8), .int (Int32.ofInt 8), .ref 141]) (H1 := mz_mk g x) rfl ?_
              refine mz_iadd rfl ?_
              refine mz_imul rfl ?_
              refine mm_g 1 (pc1 := 57) (lo1 := [some (.ref 137), some (.int (Int32.ofInt a1)), some (.int (Int32.ofInt v1)), some (.int (Int32.ofInt v20)), some (.int (Int32.ofInt v21))]) (st1 := [.int (Int32.ofInt v21), .int (Int32.ofInt (8 * (8 + v1))), .ref 141]) (H1 := mz_mk g x) rfl ?_
              refine mz_iadd rfl ?_
              refine mz_aI rfl (sh_141 _) (by omega) (by omega) (by decide) hI (ba_141 _) (fun v29 e_v29 l_v29 u_v29 => ?_)
              replace hE := zf_tr hE (zf_le e_v29)
              refine mm_g 1 (pc1 := 60) (lo1 := [some (.ref 137), some (.int (Int32.ofInt a1)), some (.int (Int32.ofInt v1)), some (.int (Int32.ofInt v20)), some (.int (Int32.ofInt v21))]) (st1 := [.ref 137, .int (Int32.ofInt v29)]) (H1 := mz_mk g x) rfl ?_
              refine mz_fgR (v := 151) rfl fd_12_69 (by decide) (sc_137 _) (rf_137_14 _ _ _) ?_
              refine mm_g 1 (pc1 := 64) (lo1 := [some (.ref 137), some (.int (Int32.ofInt a1)), some (.int (Int32.ofInt v1)), some (.int (Int32.ofInt v20)), some (.int (Int32.ofInt v21))]) (st1 := [.ref 137, .ref 151, .int (Int32.ofInt v29)]) (H1 := mz_mk g x) rfl ?_
              refine mz_fgI (v := (g 137 20)) rfl fd_12_174 (by decide) (sc_137 _) (show g 137 20 = (g 137 20) from rfl) ?_
              replace hE := zf_tr hE (zf_le (show g 137 20 = (g 137 20) from rfl))
              refine mm_g 1 (pc1 := 69) (lo1 := [some (.ref 137), some (.int (Int32.ofInt a1)), some (.int (Int32.ofInt v1)), some (.int (Int32.ofInt v20)), some (.int (Int32.ofInt v21))]) (st1 := [.int (Int32.ofInt v21), .int (Int32.ofInt (g 137 20)), .ref 151, .int (Int32.ofInt v29)]) (H1 := mz_mk g x) rfl ?_
              refine mz_iadd rfl ?_
              refine mz_aI rfl (sh_151 _) (by omega) (by omega) (by decide) hI (ba_151 _) (fun v30 e_v30 l_v30 u_v30 => ?_)
              replace hE := zf_tr hE (zf_le e_v30)
              refine mz_bip rfl bip_97 ?_
              refine mz_isub rfl ?_
              refine mm_g 1 (pc1 := 75) (lo1 := [some (.ref 137), some (.int (Int32.ofInt a1)), some (.int (Int32.ofInt v1)), some (.int (Int32.ofInt v20)), some (.int (Int32.ofInt v21))]) (st1 := [.int (Int32.ofInt 1), .int (Int32.ofInt (v30 - 97)), .int (Int32.ofInt v29)]) (H1 := mz_mk g x) rfl ?_
              refine mz_iadd rfl ?_
              refine mz_ic_ne (tgt := 83) rfl rfl (mz_rg l_v29 u_v29) ⟨by omega, by omega⟩ (fun c76_30 => ?_) (fun c76_30 => ?_)
              · skip
                replace hE := zf_in hE c76_30
                refine mm_g 2 (pc1 := 85) (lo1 := [some (.ref 137), some (.int (Int32.ofInt a1)), some (.int (Int32.ofInt v1)), some (.int (Int32.ofInt 0)), some (.int (Int32.ofInt v21))]) (st1 := []) (H1 := mz_mk g x) rfl ?_
                refine mz_iincR (v := v21) (lo2 := [some (.ref 137), some (.int (Int32.ofInt a1)), some (.int (Int32.ofInt v1)), some (.int (Int32.ofInt 0)), some (.int (Int32.ofInt (v21 + 1)))]) rfl rfl rfl (Nat.le_of_ble_eq_true rfl) rfl ?_
                refine mz_gt (tgt := 34) rfl rfl ?_
                exact ih23 ((8 - (v21 + 1)).toNat) (by omega) 0 (v21 + 1) rfl (by decide) (by decide) (by omega) (by omega) ⟨fj27, Nat.lt_of_lt_of_le (show ((8 - (v21 + 1)).toNat) < n24 from (by omega)) fn28, hE⟩
              · skip
                replace hE := zf_ip hE c76_30
                refine mm_g 1 (pc1 := 80) (lo1 := [some (.ref 137), some (.int (Int32.ofInt a1)), some (.int (Int32.ofInt v1)), some (.int (Int32.ofInt v20)), some (.int (Int32.ofInt v21))]) (st1 := [.int (Int32.ofInt 1)]) (H1 := mz_mk g x) rfl ?_
                refine mz_gt (tgt := 84) rfl rfl ?_
                refine mm_g 1 (pc1 := 85) (lo1 := [some (.ref 137), some (.int (Int32.ofInt a1)), some (.int (Int32.ofInt v1)), some (.int (Int32.ofInt 1)), some (.int (Int32.ofInt v21))]) (st1 := []) (H1 := mz_mk g x) rfl ?_
                refine mz_iincR (v := v21) (lo2 := [some (.ref 137), some (.int (Int32.ofInt a1)), some (.int (Int32.ofInt v1)), some (.int (Int32.ofInt 1)), some (.int (Int32.ofInt (v21 + 1)))]) rfl rfl rfl (Nat.le_of_ble_eq_true rfl) rfl ?_
                refine mz_gt (tgt := 34) rfl rfl ?_
                exact ih23 ((8 - (v21 + 1)).toNat) (by omega) 1 (v21 + 1) rfl (by decide) (by decide) (by omega) (by omega) ⟨fj27, Nat.lt_of_lt_of_le (show ((8 - (v21 + 1)).toNat) < n24 from (by omega)) fn28, hE⟩
        exact L26 _ 1 0 rfl (by decide) (by decide) (by decide) (by decide) ⟨3000000000, by omega, zf_rf⟩
  exact L7 _ 0 none none rfl (by decide) (by decide) mz_nl_n mz_nl_n ⟨3000000000, by omega, hE⟩
def fw_X12_readWhich (x : mm_X) : Nat → Nat → Prop := fun k j => (k = 137 ∧ j = 22) ∨ (k = 137 ∧ j = 23) ∨ (k = 137 ∧ j = 16) ∨ (k = 137 ∧ j = 20) ∨ (k = 137 ∧ j = 18) ∨ (k = 137 ∧ j = 21) ∨ (k = 137 ∧ j = 19)
theorem f_X12_readWhich {d : Nat} (hd : 13 ≤ d) {x : mm_X} (hx : mk_x x) {g : mz_G} (hI : mz_inv g) (p1 : g 137 20 ≤ g 137 16 ∧ g 137 21 = g 137 16 ∧ g 137 16 ≤ g 137 17 ∧ (g 137 18 ≠ 0 → g 137 20 < g 137 16)) {Q : (Option Value ⊕ Nat) → mm_H → Prop} (hQ : ∀ (r : Int) (g1 : mz_G), mz_inv g1 → mz_fr (fw_X12_readWhich x) g g1 → (-2147483648) ≤ r → r ≤ 2147483647 → (g1 137 20 ≤ g1 137 16 ∧ g1 137 21 = g1 137 16 ∧ g1 137 16 ≤ g1 137 17 ∧ (g1 137 18 ≠ 0 → g1 137 20 < g1 137 16)) → (g 137 20 ≤ g1 137 20) → (g1 137 22 = 0 → g 137 22 = 0) → (g1 137 22 = 0 → g 137 20 < g1 137 20) → (g1 137 22 = 0 → 0 ≤ r ∧ r < g 140 4) → zf_E (zF_X12_readWhich g) ((r, g1)) → Q (.inl (some (.int (Int32.ofInt r)))) (mz_mk g1 x)) : mm_C d 211 [.ref 137] (mz_mk g x) Q := by
  refine ⟨mmX12_readWhich, [some (.ref 137), none], rfl, rfl, ?_⟩
  have bz0 := mz_rd hI bd_137_16
  have bz1 := mz_rd hI bd_137_17
  have bz2 := mz_rd hI bd_137_18
  have bz3 := mz_rd hI bd_137_20
  have bz4 := mz_rd hI bd_137_21
  have bz5 := mz_rd hI bd_137_22
  have bz6 := mz_rd hI bt_140_4
  have hE : zf_E (zF_X12_readWhich g) (zF_X12_readWhich g) := zf_rf
  refine mm_g 2 (pc1 := 2) (lo1 := [some (.ref 137), none]) (st1 := [.int (Int32.ofInt 0), .ref 137]) (H1 := mz_mk g x) rfl ?_
  refine mz_sip rfl sip_9999 ?_
  refine mz_cv rfl mt_12_231 (by decide) (sc_137 _) rfl (Nat.le_of_ble_eq_true rfl) (by omega) (f_X12_numberNow (by omega) hx hI (by decide) (by decide) (by decide) (by decide) (by omega) (fun v7 g8 hIg8 hfg8 l_v7 u_v7 hp9 hp10 hc11 => ⟨_, rfl, ?_⟩))
  show mm_W d mmX12_readWhich 8 [some (.ref 137), none] [.int (Int32.ofInt v7)] (mz_mk g8 x) Q
  replace hE := zf_t2 hE hc11
  have bz_g8_22 := mz_rd hIg8 bd_137_22
  refine mm_g 2 (pc1 := 10) (lo1 := [some (.ref 137), some (.int (Int32.ofInt v7))]) (st1 := [.ref 137]) (H1 := mz_mk g8 x) rfl ?_
  refine mz_fgI (v := (g8 137 22)) rfl fd_12_203 (by decide) (sc_137 _) (show g8 137 22 = (g8 137 22) from rfl) ?_
  replace hE := zf_tr hE (zf_le (show g8 137 22 = (g8 137 22) from rfl))
  refine mz_if_ne (tgt := 31) rfl rfl ⟨by omega, by omega⟩ (fun c13_11 => ?_) (fun c13_11 => ?_)
  · skip
    replace hE := zf_in hE c13_11
    refine mm_g 1 (pc1 := 32) (lo1 := [some (.ref 137), some (.int (Int32.ofInt v7))]) (st1 := [.ref 137]) (H1 := mz_mk g8 x) rfl ?_
    refine mz_fgI (v := (g8 137 22)) rfl fd_12_203 (by decide) (sc_137 _) (show g8 137 22 = (g8 137 22) from rfl) ?_
    replace hE := zf_tr hE (zf_le (show g8 137 22 = (g8 137 22) from rfl))
    refine mz_if_ne (tgt := 42) rfl rfl ⟨by omega, by omega⟩ (fun c35_11 => ?_) (fun c35_11 => ?_)
    · skip
      replace hE := zf_in hE c35_11
      refine mm_g 1 (pc1 := 43) (lo1 := [some (.ref 137), some (.int (Int32.ofInt v7))]) (st1 := [.int (Int32.ofInt v7)]) (H1 := mz_mk g8 x) rfl ?_
      exact mm_rt rfl rfl (hQ _ _ hIg8 (fun k j hk => (hfg8 k j (fun h => hk (Or.elim h (fun h => (Or.inl h)) (fun h => (Or.inr (Or.inl h))))))) (by omega) (by omega) (by have h90 := (show g8 137 16 = (g 137 16) from ((hfg8 137 16 nj_12).trans rfl)); have h91 := (show g8 137 17 = (g 137 17) from ((hfg8 137 17 nj_13).trans rfl)); have h92 := (show g8 137 18 = (g 137 18) from ((hfg8 137 18 nj_14).trans rfl)); have h93 := (show g8 137 20 = (g 137 20) from ((hfg8 137 20 nj_15).trans rfl)); have h94 := (show g8 137 21 = (g 137 21) from ((hfg8 137 21 nj_16).trans rfl)); omega) (by have h90 := (show g8 137 16 = (g 137 16) from ((hfg8 137 16 nj_12).trans rfl)); have h91 := (show g8 137 17 = (g 137 17) from ((hfg8 137 17 nj_13).trans rfl)); have h92 := (show g8 137 18 = (g 137 18) from ((hfg8 137 18 nj_14).trans rfl)); have h93 := (show g8 137 20 = (g 137 20) from ((hfg8 137 20 nj_15).trans rfl)); have h94 := (show g8 137 21 = (g 137 21) from ((hfg8 137 21 nj_16).trans rfl)); omega) (by have h90 := (show g8 137 16 = (g 137 16) from ((hfg8 137 16 nj_12).trans rfl)); have h91 := (show g8 137 17 = (g 137 17) from ((hfg8 137 17 nj_13).trans rfl)); have h92 := (show g8 137 18 = (g 137 18) from ((hfg8 137 18 nj_14).trans rfl)); have h93 := (show g8 137 20 = (g 137 20) from ((hfg8 137 20 nj_15).trans rfl)); have h94 := (show g8 137 21 = (g 137 21) from ((hfg8 137 21 nj_16).trans rfl)); omega) (by have h90 := (show g8 137 16 = (g 137 16) from ((hfg8 137 16 nj_12).trans rfl)); have h91 := (show g8 137 17 = (g 137 17) from ((hfg8 137 17 nj_13).trans rfl)); have h92 := (show g8 137 18 = (g 137 18) from ((hfg8 137 18 nj_14).trans rfl)); have h93 := (show g8 137 20 = (g 137 20) from ((hfg8 137 20 nj_15).trans rfl)); have h94 := (show g8 137 21 = (g 137 21) from ((hfg8 137 21 nj_16).trans rfl)); omega) (by have h90 := (show g8 137 16 = (g 137 16) from ((hfg8 137 16 nj_12).trans rfl)); have h91 := (show g8 137 17 = (g 137 17) from ((hfg8 137 17 nj_13).trans rfl)); have h92 := (show g8 137 18 = (g 137 18) from ((hfg8 137 18 nj_14).trans rfl)); have h93 := (show g8 137 20 = (g 137 20) from ((hfg8 137 20 nj_15).trans rfl)); have h94 := (show g8 137 21 = (g 137 21) from ((hfg8 137 21 nj_16).trans rfl)); omega) hE)
    · skip
      replace hE := zf_ip hE c35_11
      refine mm_g 1 (pc1 := 39) (lo1 := [some (.ref 137), some (.int (Int32.ofInt v7))]) (st1 := [.ref 137]) (H1 := mz_mk g8 x) rfl ?_
      have hq12 : g8 137 16 = (g 137 16) := (show g8 137 16 = (g 137 16) from ((hfg8 137 16 nj_12).trans rfl))
      have hq13 : g8 137 17 = (g 137 17) := (show g8 137 17 = (g 137 17) from ((hfg8 137 17 nj_13).trans rfl))
      have hq14 : g8 137 18 = (g 137 18) := (show g8 137 18 = (g 137 18) from ((hfg8 137 18 nj_14).trans rfl))
      have hq15 : g8 137 20 = (g 137 20) := (show g8 137 20 = (g 137 20) from ((hfg8 137 20 nj_15).trans rfl))
      have hq16 : g8 137 21 = (g 137 21) := (show g8 137 21 = (g 137 21) from ((hfg8 137 21 nj_16).trans rfl))
      refine mz_cv rfl mt_12_228 (by decide) (sc_137 _) rfl (Nat.le_of_ble_eq_true rfl) (by omega) (f_X12_stepOn (by omega) hx hIg8 (by have h90 := (show g8 137 16 = (g 137 16) from ((hfg8 137 16 nj_12).trans rfl)); have h91 := (show g8 137 17 = (g 137 17) from ((hfg8 137 17 nj_13).trans rfl)); omega) (fun g18 hIg18 hfg18 hp19 hp20 hc21 => ⟨_, rfl, ?_⟩))
      show mm_W d mmX12_readWhich 42 [some (.ref 137), some (.int (Int32.ofInt v7))] [] (mz_mk g18 x) Q
      replace hE := zf_t1 hE hc21
      have bz_g18_16 := mz_rd hIg18 bd_137_16
      have bz_g18_18 := mz_rd hIg18 bd_137_18
      have bz_g18_20 := mz_rd hIg18 bd_137_20
      have bz_g18_21 := mz_rd hIg18 bd_137_21
      refine mm_g 1 (pc1 := 43) (lo1 := [some (.ref 137), some (.int (Int32.ofInt v7))]) (st1 := [.int (Int32.ofInt v7)]) (H1 := mz_mk g18 x) rfl ?_
      exact mm_rt rfl rfl (hQ _ _ hIg18 (fun k j hk => ((hfg18 k j (fun h => hk (Or.elim h (fun h => (Or.inr (Or.inr (Or.inl h)))) (fun h => (Or.elim h (fun h => (Or.inr (Or.inr (Or.inr (Or.inl h))))) (fun h => (Or.elim h (fun h => (Or.inr (Or.inr (Or.inr (Or.inr (Or.inl h)))))) (fun h => (Or.elim h (fun h => (Or.inr (Or.inr (Or.inr (Or.inr (Or.inr (Or.inl h))))))) (fun h => (Or.inr (Or.inr (Or.inr (Or.inr (Or.inr (Or.inr h)))))))))))))))).trans (hfg8 k j (fun h => hk (Or.elim h (fun h => (Or.inl h)) (fun h => (Or.inr (Or.inl h)))))))) (by omega) (by omega) (by have h91 := (show g18 137 17 = (g 137 17) from ((hfg18 137 17 nj_10).trans ((hfg8 137 17 nj_13).trans rfl))); have h95 := (show g18 137 22 = (g8 137 22) from ((hfg18 137 22 nj_11).trans rfl)); omega) (by have h91 := (show g18 137 17 = (g 137 17) from ((hfg18 137 17 nj_10).trans ((hfg8 137 17 nj_13).trans rfl))); have h95 := (show g18 137 22 = (g8 137 22) from ((hfg18 137 22 nj_11).trans rfl)); omega) (by have h91 := (show g18 137 17 = (g 137 17) from ((hfg18 137 17 nj_10).trans ((hfg8 137 17 nj_13).trans rfl))); have h95 := (show g18 137 22 = (g8 137 22) from ((hfg18 137 22 nj_11).trans rfl)); omega) (by have h91 := (show g18 137 17 = (g 137 17) from ((hfg18 137 17 nj_10).trans ((hfg8 137 17 nj_13).trans rfl))); have h95 := (show g18 137 22 = (g8 137 22) from ((hfg18 137 22 nj_11).trans rfl)); omega) (by have h91 := (show g18 137 17 = (g 137 17) from ((hfg18 137 17 nj_10).trans ((hfg8 137 17 nj_13).trans rfl))); have h95 := (show g18 137 22 = (g8 137 22) from ((hfg18 137 22 nj_11).trans rfl)); omega) hE)
  · skip
    replace hE := zf_ip hE c13_11
    refine mm_g 2 (pc1 := 18) (lo1 := [some (.ref 137), some (.int (Int32.ofInt v7))]) (st1 := [.ref 137, .int (Int32.ofInt v7)]) (H1 := mz_mk g8 x) rfl ?_
    refine mz_fgR (v := 140) rfl fd_12_36 (by decide) (sc_137 _) (rf_137_3 _ _ _) ?_
    refine mm_g 1 (pc1 := 22) (lo1 := [some (.ref 137), some (.int (Int32.ofInt v7))]) (st1 := [.int (Int32.ofInt 4), .ref 140, .int (Int32.ofInt v7)]) (H1 := mz_mk g8 x) rfl ?_
    refine mz_ia (v := (g 140 4)) rfl (sh_140 _) (by decide) (by decide) (by decide) (show g8 140 4 = (g 140 4) from ((hfg8 140 4 nj_18).trans rfl)) ?_
    replace hE := zf_tr hE (zf_le (show g8 140 4 = (g 140 4) from ((hfg8 140 4 nj_18).trans rfl)))
    refine mz_ic_lt (tgt := 31) rfl rfl (mz_rg l_v7 u_v7) ⟨by omega, by omega⟩ (fun c23_21 => ?_) (fun c23_21 => ?_)
    · skip
      replace hE := zf_ip hE c23_21
      refine mm_g 1 (pc1 := 32) (lo1 := [some (.ref 137), some (.int (Int32.ofInt v7))]) (st1 := [.ref 137]) (H1 := mz_mk g8 x) rfl ?_
      refine mz_fgI (v := (g8 137 22)) rfl fd_12_203 (by decide) (sc_137 _) (show g8 137 22 = (g8 137 22) from rfl) ?_
      replace hE := zf_tr hE (zf_le (show g8 137 22 = (g8 137 22) from rfl))
      refine mz_if_ne (tgt := 42) rfl rfl ⟨by omega, by omega⟩ (fun c35_21 => ?_) (fun c35_21 => ?_)
      · exfalso; omega
      · skip
        replace hE := zf_ip hE c35_21
        refine mm_g 1 (pc1 := 39) (lo1 := [some (.ref 137), some (.int (Int32.ofInt v7))]) (st1 := [.ref 137]) (H1 := mz_mk g8 x) rfl ?_
        have hq22 : g8 137 16 = (g 137 16) := (show g8 137 16 = (g 137 16) from ((hfg8 137 16 nj_12).trans rfl))
        have hq23 : g8 137 17 = (g 137 17) := (show g8 137 17 = (g 137 17) from ((hfg8 137 17 nj_13).trans rfl))
        have hq24 : g8 137 18 = (g 137 18) := (show g8 137 18 = (g 137 18) from ((hfg8 137 18 nj_14).trans rfl))
        have hq25 : g8 137 20 = (g 137 20) := (show g8 137 20 = (g 137 20) from ((hfg8 137 20 nj_15).trans rfl))
        have hq26 : g8 137 21 = (g 137 21) := (show g8 137 21 = (g 137 21) from ((hfg8 137 21 nj_16).trans rfl))
        refine mz_cv rfl mt_12_228 (by decide) (sc_137 _) rfl (Nat.le_of_ble_eq_true rfl) (by omega) (f_X12_stepOn (by omega) hx hIg8 (by have h90 := (show g8 137 16 = (g 137 16) from ((hfg8 137 16 nj_12).trans rfl)); have h91 := (show g8 137 17 = (g 137 17) from ((hfg8 137 17 nj_13).trans rfl)); omega) (fun g28 hIg28 hfg28 hp29 hp30 hc31 => ⟨_, rfl, ?_⟩))
        show mm_W d mmX12_readWhich 42 [some (.ref 137), some (.int (Int32.ofInt v7))] [] (mz_mk g28 x) Q
        replace hE := zf_t1 hE hc31
        have bz_g28_16 := mz_rd hIg28 bd_137_16
        have bz_g28_18 := mz_rd hIg28 bd_137_18
        have bz_g28_20 := mz_rd hIg28 bd_137_20
        have bz_g28_21 := mz_rd hIg28 bd_137_21
        refine mm_g 1 (pc1 := 43) (lo1 := [some (.ref 137), some (.int (Int32.ofInt v7))]) (st1 := [.int (Int32.ofInt v7)]) (H1 := mz_mk g28 x) rfl ?_
        exact mm_rt rfl rfl (hQ _ _ hIg28 (fun k j hk => ((hfg28 k j (fun h => hk (Or.elim h (fun h => (Or.inr (Or.inr (Or.inl h)))) (fun h => (Or.elim h (fun h => (Or.inr (Or.inr (Or.inr (Or.inl h))))) (fun h => (Or.elim h (fun h => (Or.inr (Or.inr (Or.inr (Or.inr (Or.inl h)))))) (fun h => (Or.elim h (fun h => (Or.inr (Or.inr (Or.inr (Or.inr (Or.inr (Or.inl h))))))) (fun h => (Or.inr (Or.inr (Or.inr (Or.inr (Or.inr (Or.inr h)))))))))))))))).trans (hfg8 k j (fun h => hk (Or.elim h (fun h => (Or.inl h)) (fun h => (Or.inr (Or.inl h)))))))) (by omega) (by omega) (by have h91 := (show g28 137 17 = (g 137 17) from ((hfg28 137 17 nj_10).trans ((hfg8 137 17 nj_13).trans rfl))); have h95 := (show g28 137 22 = (g8 137 22) from ((hfg28 137 22 nj_11).trans rfl)); omega) (by have h91 := (show g28 137 17 = (g 137 17) from ((hfg28 137 17 nj_10).trans ((hfg8 137 17 nj_13).trans rfl))); have h95 := (show g28 137 22 = (g8 137 22) from ((hfg28 137 22 nj_11).trans rfl)); omega) (by have h91 := (show g28 137 17 = (g 137 17) from ((hfg28 137 17 nj_10).trans ((hfg8 137 17 nj_13).trans rfl))); have h95 := (show g28 137 22 = (g8 137 22) from ((hfg28 137 22 nj_11).trans rfl)); omega) (by have h91 := (show g28 137 17 = (g 137 17) from ((hfg28 137 17 nj_10).trans ((hfg8 137 17 nj_13).trans rfl))); have h95 := (show g28 137 22 = (g8 137 22) from ((hfg28 137 22 nj_11).trans rfl)); omega) (by have h91 := (show g28 137 17 = (g 137 17) from ((hfg28 137 17 nj_10).trans ((hfg8 137 17 nj_13).trans rfl))); have h95 := (show g28 137 22 = (g8 137 22) from ((hfg28 137 22 nj_11).trans rfl)); omega) hE)
    · skip
      replace hE := zf_nl hE c23_21
      refine mm_g 2 (pc1 := 28) (lo1 := [some (.ref 137), some (.int (Int32.ofInt v7))]) (st1 := [.int (Int32.ofInt 3), .ref 137]) (H1 := mz_mk g8 x) rfl ?_
      refine mz_cv rfl mt_12_224 (by decide) (sc_137 _) rfl (Nat.le_of_ble_eq_true rfl) (by omega) (f_X12_wrong (by omega) hx hIg8 (by decide) (by decide) (fun g33 hIg33 hfg33 hp34 hp35 hc36 => ⟨_, rfl, ?_⟩))
      show mm_W d mmX12_readWhich 31 [some (.ref 137), some (.int (Int32.ofInt v7))] [] (mz_mk g33 x) Q
      replace hE := zf_t1 hE hc36
      have bz_g33_22 := mz_rd hIg33 bd_137_22
      refine mm_g 1 (pc1 := 32) (lo1 := [some (.ref 137), some (.int (Int32.ofInt v7))]) (st1 := [.ref 137]) (H1 := mz_mk g33 x) rfl ?_
      refine mz_fgI (v := (g33 137 22)) rfl fd_12_203 (by decide) (sc_137 _) (show g33 137 22 = (g33 137 22) from rfl) ?_
      replace hE := zf_tr hE (zf_le (show g33 137 22 = (g33 137 22) from rfl))
      refine mz_if_ne (tgt := 42) rfl rfl ⟨by omega, by omega⟩ (fun c35_36 => ?_) (fun c35_36 => ?_)
      · skip
        replace hE := zf_in hE c35_36
        refine mm_g 1 (pc1 := 43) (lo1 := [some (.ref 137), some (.int (Int32.ofInt v7))]) (st1 := [.int (Int32.ofInt v7)]) (H1 := mz_mk g33 x) rfl ?_
        exact mm_rt rfl rfl (hQ _ _ hIg33 (fun k j hk => ((hfg33 k j (fun h => hk (Or.elim h (fun h => (Or.inl h)) (fun h => (Or.inr (Or.inl h)))))).trans (hfg8 k j (fun h => hk (Or.elim h (fun h => (Or.inl h)) (fun h => (Or.inr (Or.inl h)))))))) (by omega) (by omega) (by have h90 := (show g33 137 16 = (g 137 16) from ((hfg33 137 16 nj_12).trans ((hfg8 137 16 nj_12).trans rfl))); have h91 := (show g33 137 17 = (g 137 17) from ((hfg33 137 17 nj_13).trans ((hfg8 137 17 nj_13).trans rfl))); have h92 := (show g33 137 18 = (g 137 18) from ((hfg33 137 18 nj_14).trans ((hfg8 137 18 nj_14).trans rfl))); have h93 := (show g33 137 20 = (g 137 20) from ((hfg33 137 20 nj_15).trans ((hfg8 137 20 nj_15).trans rfl))); have h94 := (show g33 137 21 = (g 137 21) from ((hfg33 137 21 nj_16).trans ((hfg8 137 21 nj_16).trans rfl))); omega) (by have h90 := (show g33 137 16 = (g 137 16) from ((hfg33 137 16 nj_12).trans ((hfg8 137 16 nj_12).trans rfl))); have h91 := (show g33 137 17 = (g 137 17) from ((hfg33 137 17 nj_13).trans ((hfg8 137 17 nj_13).trans rfl))); have h92 := (show g33 137 18 = (g 137 18) from ((hfg33 137 18 nj_14).trans ((hfg8 137 18 nj_14).trans rfl))); have h93 := (show g33 137 20 = (g 137 20) from ((hfg33 137 20 nj_15).trans ((hfg8 137 20 nj_15).trans rfl))); have h94 := (show g33 137 21 = (g 137 21) from ((hfg33 137 21 nj_16).trans ((hfg8 137 21 nj_16).trans rfl))); omega) (by have h90 := (show g33 137 16 = (g 137 16) from ((hfg33 137 16 nj_12).trans ((hfg8 137 16 nj_12).trans rfl))); have h91 := (show g33 137 17 = (g 137 17) from ((hfg33 137 17 nj_13).trans ((hfg8 137 17 nj_13).trans rfl))); have h92 := (show g33 137 18 = (g 137 18) from ((hfg33 137 18 nj_14).trans ((hfg8 137 18 nj_14).trans rfl))); have h93 := (show g33 137 20 = (g 137 20) from ((hfg33 137 20 nj_15).trans ((hfg8 137 20 nj_15).trans rfl))); have h94 := (show g33 137 21 = (g 137 21) from ((hfg33 137 21 nj_16).trans ((hfg8 137 21 nj_16).trans rfl))); omega) (by have h90 := (show g33 137 16 = (g 137 16) from ((hfg33 137 16 nj_12).trans ((hfg8 137 16 nj_12).trans rfl))); have h91 := (show g33 137 17 = (g 137 17) from ((hfg33 137 17 nj_13).trans ((hfg8 137 17 nj_13).trans rfl))); have h92 := (show g33 137 18 = (g 137 18) from ((hfg33 137 18 nj_14).trans ((hfg8 137 18 nj_14).trans rfl))); have h93 := (show g33 137 20 = (g 137 20) from ((hfg33 137 20 nj_15).trans ((hfg8 137 20 nj_15).trans rfl))); have h94 := (show g33 137 21 = (g 137 21) from ((hfg33 137 21 nj_16).trans ((hfg8 137 21 nj_16).trans rfl))); omega) (by have h90 := (show g33 137 16 = (g 137 16) from ((hfg33 137 16 nj_12).trans ((hfg8 137 16 nj_12).trans rfl))); have h91 := (show g33 137 17 = (g 137 17) from ((hfg33 137 17 nj_13).trans ((hfg8 137 17 nj_13).trans rfl))); have h92 := (show g33 137 18 = (g 137 18) from ((hfg33 137 18 nj_14).trans ((hfg8 137 18 nj_14).trans rfl))); have h93 := (show g33 137 20 = (g 137 20) from ((hfg33 137 20 nj_15).trans ((hfg8 137 20 nj_15).trans rfl))); have h94 := (show g33 137 21 = (g 137 21) from ((hfg33 137 21 nj_16).trans ((hfg8 137 21 nj_16).trans rfl))); omega) hE)
      · skip
        replace hE := zf_ip hE c35_36
        refine mm_g 1 (pc1 := 39) (lo1 := [some (.ref 137), some (.int (Int32.ofInt v7))]) (st1 := [.ref 137]) (H1 := mz_mk g33 x) rfl ?_
        have hq37 : g33 137 16 = (g 137 16) := (show g33 137 16 = (g 137 16) from ((hfg33 137 16 nj_12).trans ((hfg8 137 16 nj_12).trans rfl)))
        have hq38 : g33 137 17 = (g 137 17) := (show g33 137 17 = (g 137 17) from ((hfg33 137 17 nj_13).trans ((hfg8 137 17 nj_13).trans rfl)))
        have hq39 : g33 137 18 = (g 137 18) := (show g33 137 18 = (g 137 18) from ((hfg33 137 18 nj_14).trans ((hfg8 137 18 nj_14).trans rfl)))
        have hq40 : g33 137 20 = (g 137 20) := (show g33 137 20 = (g 137 20) from ((hfg33 137 20 nj_15).trans ((hfg8 137 20 nj_15).trans rfl)))
        have hq41 : g33 137 21 = (g 137 21) := (show g33 137 21 = (g 137 21) from ((hfg33 137 21 nj_16).trans ((hfg8 137 21 nj_16).trans rfl)))
        refine mz_cv rfl mt_12_228 (by decide) (sc_137 _) rfl (Nat.le_of_ble_eq_true rfl) (by omega) (f_X12_stepOn (by omega) hx hIg33 (by have h90 := (show g33 137 16 = (g 137 16) from ((hfg33 137 16 nj_12).trans ((hfg8 137 16 nj_12).trans rfl))); have h91 := (show g33 137 17 = (g 137 17) from ((hfg33 137 17 nj_13).trans ((hfg8 137 17 nj_13).trans rfl))); omega) (fun g43 hIg43 hfg43 hp44 hp45 hc46 => ⟨_, rfl, ?_⟩))
        show mm_W d mmX12_readWhich 42 [some (.ref 137), some (.int (Int32.ofInt v7))] [] (mz_mk g43 x) Q
        replace hE := zf_t1 hE hc46
        have bz_g43_16 := mz_rd hIg43 bd_137_16
        have bz_g43_18 := mz_rd hIg43 bd_137_18
        have bz_g43_20 := mz_rd hIg43 bd_137_20
        have bz_g43_21 := mz_rd hIg43 bd_137_21
        refine mm_g 1 (pc1 := 43) (lo1 := [some (.ref 137), some (.int (Int32.ofInt v7))]) (st1 := [.int (Int32.ofInt v7)]) (H1 := mz_mk g43 x) rfl ?_
        exact mm_rt rfl rfl (hQ _ _ hIg43 (fun k j hk => ((hfg43 k j (fun h => hk (Or.elim h (fun h => (Or.inr (Or.inr (Or.inl h)))) (fun h => (Or.elim h (fun h => (Or.inr (Or.inr (Or.inr (Or.inl h))))) (fun h => (Or.elim h (fun h => (Or.inr (Or.inr (Or.inr (Or.inr (Or.inl h)))))) (fun h => (Or.elim h (fun h => (Or.inr (Or.inr (Or.inr (Or.inr (Or.inr (Or.inl h))))))) (fun h => (Or.inr (Or.inr (Or.inr (Or.inr (Or.inr (Or.inr h)))))))))))))))).trans ((hfg33 k j (fun h => hk (Or.elim h (fun h => (Or.inl h)) (fun h => (Or.inr (Or.inl h)))))).trans (hfg8 k j (fun h => hk (Or.elim h (fun h => (Or.inl h)) (fun h => (Or.inr (Or.inl h))))))))) (by omega) (by omega) (by have h91 := (show g43 137 17 = (g 137 17) from ((hfg43 137 17 nj_10).trans ((hfg33 137 17 nj_13).trans ((hfg8 137 17 nj_13).trans rfl)))); have h95 := (show g43 137 22 = (g33 137 22) from ((hfg43 137 22 nj_11).trans rfl)); omega) (by have h91 := (show g43 137 17 = (g 137 17) from ((hfg43 137 17 nj_10).trans ((hfg33 137 17 nj_13).trans ((hfg8 137 17 nj_13).trans rfl)))); have h95 := (show g43 137 22 = (g33 137 22) from ((hfg43 137 22 nj_11).trans rfl)); omega) (by have h91 := (show g43 137 17 = (g 137 17) from ((hfg43 137 17 nj_10).trans ((hfg33 137 17 nj_13).trans ((hfg8 137 17 nj_13).trans rfl)))); have h95 := (show g43 137 22 = (g33 137 22) from ((hfg43 137 22 nj_11).trans rfl)); omega) (by have h91 := (show g43 137 17 = (g 137 17) from ((hfg43 137 17 nj_10).trans ((hfg33 137 17 nj_13).trans ((hfg8 137 17 nj_13).trans rfl)))); have h95 := (show g43 137 22 = (g33 137 22) from ((hfg43 137 22 nj_11).trans rfl)); omega) (by have h91 := (show g43 137 17 = (g 137 17) from ((hfg43 137 17 nj_10).trans ((hfg33 137 17 nj_13).trans ((hfg8 137 17 nj_13).trans rfl)))); have h95 := (show g43 137 22 = (g33 137 22) from ((hfg43 137 22 nj_11).trans rfl)); omega) hE)
def fl_X12_takeHalf_2 (x : mm_X) (q1 : Nat) : Nat → Nat → Prop := fun k j => k = q1
def fw_X12_takeHalf (x : mm_X) (q1 : Nat) : Nat → Nat → Prop := fun k j => k = q1
theorem f_X12_takeHalf {d : Nat} (hd : 1 ≤ d) {x : mm_X} (hx : mk_x x) {g : mz_G} (hI : mz_inv g) {q1 n_q1 : Nat} (h_q1 : mm_SH x.2.2.2.1 q1 = (100, n_q1)) (m_q1 : n_q1 ≤ 2048) (p1 : ∀ j, mz_bd q1 (n_q1 / 2 + j) = mz_bd q1 j) {Q : (Option Value ⊕ Nat) → mm_H → Prop} (hQ : ∀ (g1 : mz_G), mz_inv g1 → mz_fr (fw_X12_takeHalf x q1) g g1 → (∀ j : Nat, j < n_q1 / 2 → g1 q1 j = g q1 (n_q1 / 2 + j)) → zf_E (zF_X12_takeHalf q1 n_q1 g) (g1) → Q (.inl none) (mz_mk g1 x)) : mm_C d 216 [.ref q1] (mz_mk g x) Q := by
  refine ⟨mmX12_takeHalf, [some (.ref q1), none], rfl, rfl, ?_⟩
  have hE : zf_E (zF_X12_takeHalf q1 n_q1 g) (zF_X12_takeHalf q1 n_q1 g) := zf_rf
  refine mm_g 2 (pc1 := 2) (lo1 := [some (.ref q1), some (.int (Int32.ofInt 0))]) (st1 := []) (H1 := mz_mk g x) rfl ?_
  have L5 : ∀ n4 : Nat, ∀ (v1 : Int) (g2 : mz_G), (1024 - v1).toNat = n4 → 0 ≤ v1 → v1 ≤ 1024 → mz_inv g2 → mz_fr (fl_X12_takeHalf_2 x q1) g g2 → (∀ j : Nat, (j : Int) < v1 → g2 q1 j = g q1 (n_q1 / 2 + j)) → (∀ j : Nat, n_q1 / 2 ≤ j → g2 q1 j = g q1 j) → (∃ fk : Nat, (1024 - v1).toNat < fk ∧ zf_E (zF_X12_takeHalf q1 n_q1 g) (zL_X12_takeHalf_2 q1 n_q1 fk v1 g2)) → mm_W d mmX12_takeHalf 2 [some (.ref q1), some (.int (Int32.ofInt v1))] [] (mz_mk g2 x) Q := by
    intro n4
    induction n4 using Nat.strongRecOn with
    | ind n4 ih3 =>
    intro v1 g2 hmn4 l_v1 u_v1 hIg2 hfg2 hv6 hv7 hF
    obtain ⟨fk, fl, hE⟩ := hF
    obtain ⟨fj8, rfl⟩ : ∃ fj, fk = fj + 1 := ⟨fk - 1, by omega⟩
    have fn9 : n4 ≤ fj8 := by omega
    replace hE := zf_tr hE zL_X12_takeHalf_2_s
    refine mm_g 2 (pc1 := 4) (lo1 := [some (.ref q1), some (.int (Int32.ofInt v1))]) (st1 := [.ref q1, .int (Int32.ofInt v1)]) (H1 := mz_mk g2 x) rfl ?_
    refine mz_al rfl h_q1 (by decide) ?_
    refine mm_g 1 (pc1 := 6) (lo1 := [some (.ref q1), some (.int (Int32.ofInt v1))]) (st1 := [.int (Int32.ofInt 2), .int (Int32.ofInt (n_q1 : Int)), .int (Int32.ofInt v1)]) (H1 := mz_mk g2 x) rfl ?_
    refine mz_idivp rfl ⟨by omega, by omega⟩ ⟨by decide, by decide⟩ (by omega) (by omega) (fun v10 e_v10 => ?_)
    have l_v10 : 0 ≤ v10 := by omega
    have u_v10 : v10 ≤ 1024 := by omega
    replace hE := zf_tr hE (zf_le e_v10.symm)
    refine mz_ic_ge (tgt := 27) rfl rfl (mz_rg l_v1 u_v1) (mz_rg l_v10 u_v10) (fun c7_10 => ?_) (fun c7_10 => ?_)
    · skip
      replace hE := zf_nl hE c7_10
      exact mm_rt rfl rfl (hQ _ hIg2 (fun k j hk => (hfg2 k j (fun h => hk h))) (fun j hj => hv6 j (by omega)) hE)
    · skip
      replace hE := zf_ip hE c7_10
      refine mm_g 4 (pc1 := 14) (lo1 := [some (.ref q1), some (.int (Int32.ofInt v1))]) (st1 := [.ref q1, .ref q1, .int (Int32.ofInt v1), .ref q1]) (H1 := mz_mk g2 x) rfl ?_
      refine mz_al rfl h_q1 (by decide) ?_
      refine mm_g 1 (pc1 := 16) (lo1 := [some (.ref q1), some (.int (Int32.ofInt v1))]) (st1 := [.int (Int32.ofInt 2), .int (Int32.ofInt (n_q1 : Int)), .ref q1, .int (Int32.ofInt v1), .ref q1]) (H1 := mz_mk g2 x) rfl ?_
      refine mz_idivp rfl ⟨by omega, by omega⟩ ⟨by decide, by decide⟩ (by omega) (by omega) (fun v11 e_v11 => ?_)
      have l_v11 : 0 ≤ v11 := by omega
      have u_v11 : v11 ≤ 1024 := by omega
      replace hE := zf_tr hE (zf_le e_v11.symm)
      refine mm_g 1 (pc1 := 18) (lo1 := [some (.ref q1), some (.int (Int32.ofInt v1))]) (st1 := [.int (Int32.ofInt v1), .int (Int32.ofInt v11), .ref q1, .int (Int32.ofInt v1), .ref q1]) (H1 := mz_mk g2 x) rfl ?_
      refine mz_iadd rfl ?_
      refine mz_aI rfl h_q1 (by omega) (by omega) (by omega) hIg2 (Prod.eta _).symm (fun v12 e_v12 l_v12 u_v12 => ?_)
      replace hE := zf_tr hE (zf_le e_v12)
      refine mz_sI rfl h_q1 (by omega) (by omega) (by omega) hIg2 ((show mz_bd q1 (v1 : Int).toNat = mz_bd q1 ((v11 + v1) : Int).toNat from (p1 (v1 : Int).toNat).symm.trans (congrArg (mz_bd q1) (by omega))).trans (Prod.eta _).symm) (by omega) (by omega) (fun g13 hIg13 hug13 => ?_)
      replace hE := zf_tr hE (zf_lg hug13)
      refine mz_iincR (v := v1) (lo2 := [some (.ref q1), some (.int (Int32.ofInt (v1 + 1)))]) rfl rfl rfl (Nat.le_of_ble_eq_true rfl) rfl ?_
      refine mz_gt (tgt := 2) rfl rfl ?_
      exact ih3 ((1024 - (v1 + 1)).toNat) (by omega) (v1 + 1) g13 rfl (by omega) (by omega) hIg13 (fun k j hk => ((hug13.2 k j (fun h => hk h.1)).trans (hfg2 k j (fun h => hk h)))) (by intro j hj; rcases (by omega : (j : Int) < v1 ∨ j = (v1 : Int).toNat) with z | z; rw [hug13.2 q1 j (by omega)]; exact hv6 j z; rw [z]; exact (hug13.1.trans (e_v12.symm.trans ((hv7 _ (by omega)).trans (congrArg (g q1) (by omega)))))) (by intro j hj; rw [hug13.2 q1 j (by omega)]; exact hv7 j hj) ⟨fj8, Nat.lt_of_lt_of_le (show ((1024 - (v1 + 1)).toNat) < n4 from (by omega)) fn9, hE⟩
  exact L5 _ 0 g rfl (by decide) (by decide) hI (fun _ _ _ => rfl) (by intro j hj; omega) (fun _ _ => rfl) ⟨3000000000, by omega, hE⟩
def fw_X12_fault (x : mm_X) : Nat → Nat → Prop := fun k j => (k = 137 ∧ j = 2)
theorem f_X12_fault {d : Nat} (hd : 1 ≤ d) {x : mm_X} (hx : mk_x x) {g : mz_G} (hI : mz_inv g) (p1 : mz_pv g) (p2 : g 137 30 ≤ 999) {Q : (Option Value ⊕ Nat) → mm_H → Prop} (hQ : ∀ (r : Int) (g1 : mz_G), mz_inv g1 → mz_fr (fw_X12_fault x) g g1 → (-2147483648) ≤ r → r ≤ 2147483647 → (g1 137 30 ≤ 999) → zf_E (zF_X12_fault g) ((r, g1)) → Q (.inl (some (.int (Int32.ofInt r)))) (mz_mk g1 x)) : mm_C d 218 [.ref 137] (mz_mk g x) Q := by
  refine ⟨mmX12_fault, [some (.ref 137)], rfl, rfl, ?_⟩
  have bz0 := mz_rd hI bd_137_30
  have hpv := p1
  have hE : zf_E (zF_X12_fault g) (zF_X12_fault g) := zf_rf
  refine mm_g 2 (pc1 := 2) (lo1 := [some (.ref 137)]) (st1 := [.int (Int32.ofInt 0), .ref 137]) (H1 := mz_mk g x) rfl ?_
  refine mz_pI rfl fd_12_154 (sc_137 _) hI bd_137_2 (by omega) (by omega) (fun g1 hIg1 hug1 => ?_)
  replace hE := zf_tr hE (zf_lg hug1)
  refine mm_g 1 (pc1 := 6) (lo1 := [some (.ref 137)]) (st1 := [.ref 137]) (H1 := mz_mk g1 x) rfl ?_
  refine mz_gI rfl fd_12_72 (by decide) (sc_137 _) hIg1 bd_137_24 (fun v2 e_v2 l_v2 u_v2 => ?_)
  replace hE := zf_tr hE (zf_le e_v2)
  exact mm_rt rfl rfl (hQ _ _ hIg1 (fun k j hk => (hug1.2 k j (fun h => hk h))) (by omega) (by omega) (by have h9 := (show g1 137 30 = (g 137 30) from ((hug1.2 137 30 (fun h => absurd h.2 (by decide))).trans rfl)); omega) hE)
def fl_X12_store_9 (x : mm_X) (q1 : Nat) (a2 : Int) : Nat → Nat → Prop := fun k j => k = q1
def fw_X12_store (x : mm_X) (q1 : Nat) (a2 : Int) : Nat → Nat → Prop := fun k j => k = q1
theorem f_X12_store {d : Nat} (hd : 1 ≤ d) {x : mm_X} (hx : mk_x x) {g : mz_G} (hI : mz_inv g) {q1 n_q1 : Nat} (h_q1 : mk_rw q1 n_q1) {a2 : Int} (l_a2 : 0 ≤ a2) (u_a2 : a2 ≤ 975) (p1 : 0 ≤ a2 ∧ a2 % 25 = 0) (p2 : a2 + 25 ≤ (n_q1 : Int)) (p3 : g 137 30 ≤ 999) {Q : (Option Value ⊕ Nat) → mm_H → Prop} (hQ : ∀ (g1 : mz_G), mz_inv g1 → mz_fr (fw_X12_store x q1 a2) g g1 → zf_E (zF_X12_store q1 n_q1 a2 g) (g1) → Q (.inl none) (mz_mk g1 x)) : mm_C d 219 [.ref 137, .ref q1, .int (Int32.ofInt a2)] (mz_mk g x) Q := by
  refine ⟨mmX12_store, [some (.ref 137), some (.ref q1), some (.int (Int32.ofInt a2)), none], rfl, rfl, ?_⟩
  have bz0 := mz_rd hI bd_137_30
  have hE : zf_E (zF_X12_store q1 n_q1 a2 g) (zF_X12_store q1 n_q1 a2 g) := zf_rf
  refine mm_g 3 (pc1 := 3) (lo1 := [some (.ref 137), some (.ref q1), some (.int (Int32.ofInt a2)), none]) (st1 := [.ref 137, .int (Int32.ofInt a2), .ref q1]) (H1 := mz_mk g x) rfl ?_
  refine mz_fgI (v := (g 137 30)) rfl fd_12_307 (by decide) (sc_137 _) (show g 137 30 = (g 137 30) from rfl) ?_
  replace hE := zf_tr hE (zf_le (show g 137 30 = (g 137 30) from rfl))
  refine mz_sI rfl (rw_sh h_q1 _) (by omega) (by omega) (rw_m h_q1) hI (rwb0 h_q1 (f := a2) (by omega) (by omega) (by omega)) (by omega) (by omega) (fun g1 hIg1 hug1 => ?_)
  replace hE := zf_tr hE (zf_lg hug1)
  refine mm_g 2 (pc1 := 9) (lo1 := [some (.ref 137), some (.ref q1), some (.int (Int32.ofInt a2)), some (.int (Int32.ofInt 0))]) (st1 := []) (H1 := mz_mk g1 x) rfl ?_
  have L6 : ∀ n5 : Nat, ∀ (v2 : Int) (g3 : mz_G), (6 - v2).toNat = n5 → 0 ≤ v2 → v2 ≤ 6 → mz_inv g3 → mz_fr (fl_X12_store_9 x q1 a2) g1 g3 → (∃ fk : Nat, (6 - v2).toNat < fk ∧ zf_E (zF_X12_store q1 n_q1 a2 g) (zL_X12_store_9 q1 n_q1 a2 fk v2 g3)) → mm_W d mmX12_store 9 [some (.ref 137), some (.ref q1), some (.int (Int32.ofInt a2)), some (.int (Int32.ofInt v2))] [] (mz_mk g3 x) Q := by
    intro n5
    induction n5 using Nat.strongRecOn with
    | ind n5 ih4 =>
    intro v2 g3 hmn5 l_v2 u_v2 hIg3 hfg3 hF
    obtain ⟨fk, fl, hE⟩ := hF
    obtain ⟨fj7, rfl⟩ : ∃ fj, fk = fj + 1 := ⟨fk - 1, by omega⟩
    have fn8 : n5 ≤ fj7 := by omega
    replace hE := zf_tr hE zL_X12_store_9_s
    refine mm_g 1 (pc1 := 10) (lo1 := [some (.ref 137), some (.ref q1), some (.int (Int32.ofInt a2)), some (.int (Int32.ofInt v2))]) (st1 := [.int (Int32.ofInt v2)]) (H1 := mz_mk g3 x) rfl ?_
    refine mz_bip rfl bip_6 ?_
    refine mz_ic_ge (tgt := 82) rfl rfl (mz_rg l_v2 u_v2) ⟨by decide, by decide⟩ (fun c12_8 => ?_) (fun c12_8 => ?_)
    · skip
      replace hE := zf_nl hE c12_8
      exact mm_rt rfl rfl (hQ _ hIg3 (fun k j hk => ((hfg3 k j (fun h => hk h)).trans (hug1.2 k j (fun h => hk h.1)))) hE)
    · skip
      replace hE := zf_ip hE c12_8
      refine mm_g 3 (pc1 := 18) (lo1 := [some (.ref 137), some (.ref q1), some (.int (Int32.ofInt a2)), some (.int (Int32.ofInt v2))]) (st1 := [.int (Int32.ofInt 1), .int (Int32.ofInt a2), .ref q1]) (H1 := mz_mk g3 x) rfl ?_
      refine mz_iadd rfl ?_
      refine mm_g 1 (pc1 := 20) (lo1 := [some (.ref 137), some (.ref q1), some (.int (Int32.ofInt a2)), some (.int (Int32.ofInt v2))]) (st1 := [.int (Int32.ofInt v2), .int (Int32.ofInt (a2 + 1)), .ref q1]) (H1 := mz_mk g3 x) rfl ?_
      refine mz_iadd rfl ?_
      refine mm_g 1 (pc1 := 22) (lo1 := [some (.ref 137), some (.ref q1), some (.int (Int32.ofInt a2)), some (.int (Int32.ofInt v2))]) (st1 := [.ref 137, .int (Int32.ofInt ((a2 + 1) + v2)), .ref q1]) (H1 := mz_mk g3 x) rfl ?_
      refine mz_fgR (v := 152) rfl fd_12_76 (by decide) (sc_137 _) (rf_137_25 _ _ _) ?_
      refine mm_g 1 (pc1 := 26) (lo1 := [some (.ref 137), some (.ref q1), some (.int (Int32.ofInt a2)), some (.int (Int32.ofInt v2))]) (st1 := [.int (Int32.ofInt v2), .ref 152, .int (Int32.ofInt ((a2 + 1) + v2)), .ref q1]) (H1 := mz_mk g3 x) rfl ?_
      refine mz_aI rfl (sh_152 _) (by omega) (by omega) (by decide) hIg3 (ba_152 _) (fun v9 e_v9 l_v9 u_v9 => ?_)
      replace hE := zf_tr hE (zf_le e_v9)
      refine mz_sI rfl (rw_sh h_q1 _) (by omega) (by omega) (rw_m h_q1) hIg3 (rwb1 h_q1 (f := a2) (by omega) (by omega) (by omega)) (by omega) (by omega) (fun g10 hIg10 hug10 => ?_)
      replace hE := zf_tr hE (zf_lg hug10)
      refine mm_g 3 (pc1 := 31) (lo1 := [some (.ref 137), some (.ref q1), some (.int (Int32.ofInt a2)), some (.int (Int32.ofInt v2))]) (st1 := [.int (Int32.ofInt 1), .int (Int32.ofInt a2), .ref q1]) (H1 := mz_mk g10 x) rfl ?_
      refine mz_iadd rfl ?_
      refine mz_bip rfl bip_6 ?_
      refine mz_iadd rfl ?_
      refine mm_g 1 (pc1 := 36) (lo1 := [some (.ref 137), some (.ref q1), some (.int (Int32.ofInt a2)), some (.int (Int32.ofInt v2))]) (st1 := [.int (Int32.ofInt v2), .int (Int32.ofInt ((a2 + 1) + 6)), .ref q1]) (H1 := mz_mk g10 x) rfl ?_
      refine mz_iadd rfl ?_
      refine mm_g 1 (pc1 := 38) (lo1 := [some (.ref 137), some (.ref q1), some (.int (Int32.ofInt a2)), some (.int (Int32.ofInt v2))]) (st1 := [.ref 137, .int (Int32.ofInt (((a2 + 1) + 6) + v2)), .ref q1]) (H1 := mz_mk g10 x) rfl ?_
      refine mz_fgR (v := 153) rfl fd_12_78 (by decide) (sc_137 _) (rf_137_26 _ _ _) ?_
      refine mm_g 1 (pc1 := 42) (lo1 := [some (.ref 137), some (.ref q1), some (.int (Int32.ofInt a2)), some (.int (Int32.ofInt v2))]) (st1 := [.int (Int32.ofInt v2), .ref 153, .int (Int32.ofInt (((a2 + 1) + 6) + v2)), .ref q1]) (H1 := mz_mk g10 x) rfl ?_
      refine mz_aI rfl (sh_153 _) (by omega) (by omega) (by decide) hIg10 (ba_153 _) (fun v11 e_v11 l_v11 u_v11 => ?_)
      replace hE := zf_tr hE (zf_le e_v11)
      refine mz_sI rfl (rw_sh h_q1 _) (by omega) (by omega) (rw_m h_q1) hIg10 (rwb2 h_q1 (f := a2) (by omega) (by omega) (by omega)) (by omega) (by omega) (fun g12 hIg12 hug12 => ?_)
      replace hE := zf_tr hE (zf_lg hug12)
      refine mm_g 3 (pc1 := 47) (lo1 := [some (.ref 137), some (.ref q1), some (.int (Int32.ofInt a2)), some (.int (Int32.ofInt v2))]) (st1 := [.int (Int32.ofInt 1), .int (Int32.ofInt a2), .ref q1]) (H1 := mz_mk g12 x) rfl ?_
      refine mz_iadd rfl ?_
      refine mz_bip rfl bip_12 ?_
      refine mz_iadd rfl ?_
      refine mm_g 1 (pc1 := 52) (lo1 := [some (.ref 137), some (.ref q1), some (.int (Int32.ofInt a2)), some (.int (Int32.ofInt v2))]) (st1 := [.int (Int32.ofInt v2), .int (Int32.ofInt ((a2 + 1) + 12)), .ref q1]) (H1 := mz_mk g12 x) rfl ?_
      refine mz_iadd rfl ?_
      refine mm_g 1 (pc1 := 54) (lo1 := [some (.ref 137), some (.ref q1), some (.int (Int32.ofInt a2)), some (.int (Int32.ofInt v2))]) (st1 := [.ref 137, .int (Int32.ofInt (((a2 + 1) + 12) + v2)), .ref q1]) (H1 := mz_mk g12 x) rfl ?_
      refine mz_fgR (v := 154) rfl fd_12_80 (by decide) (sc_137 _) (rf_137_27 _ _ _) ?_
      refine mm_g 1 (pc1 := 58) (lo1 := [some (.ref 137), some (.ref q1), some (.int (Int32.ofInt a2)), some (.int (Int32.ofInt v2))]) (st1 := [.int (Int32.ofInt v2), .ref 154, .int (Int32.ofInt (((a2 + 1) + 12) + v2)), .ref q1]) (H1 := mz_mk g12 x) rfl ?_
      refine mz_aI rfl (sh_154 _) (by omega) (by omega) (by decide) hIg12 (ba_154 _) (fun v13 e_v13 l_v13 u_v13 => ?_)
      replace hE := zf_tr hE (zf_le e_v13)
      refine mz_sI rfl (rw_sh h_q1 _) (by omega) (by omega) (rw_m h_q1) hIg12 (rwb2 h_q1 (f := a2) (by omega) (by omega) (by omega)) (by omega) (by omega) (fun g14 hIg14 hug14 => ?_)
      replace hE := zf_tr hE (zf_lg hug14)
      refine mm_g 3 (pc1 := 63) (lo1 := [some (.ref 137), some (.ref q1), some (.int (Int32.ofInt a2)), some (.int (Int32.ofInt v2))]) (st1 := [.int (Int32.ofInt 1), .int (Int32.ofInt a2), .ref q1]) (H1 := mz_mk g14 x) rfl ?_
      refine mz_iadd rfl ?_
      refine mz_bip rfl bip_18 ?_
      refine mz_iadd rfl ?_
      refine mm_g 1 (pc1 := 68) (lo1 := [some (.ref 137), some (.ref q1), some (.int (Int32.ofInt a2)), some (.int (Int32.ofInt v2))]) (st1 := [.int (Int32.ofInt v2), .int (Int32.ofInt ((a2 + 1) + 18)), .ref q1]) (H1 := mz_mk g14 x) rfl ?_
      refine mz_iadd rfl ?_
      refine mm_g 1 (pc1 := 70) (lo1 := [some (.ref 137), some (.ref q1), some (.int (Int32.ofInt a2)), some (.int (Int32.ofInt v2))]) (st1 := [.ref 137, .int (Int32.ofInt (((a2 + 1) + 18) + v2)), .ref q1]) (H1 := mz_mk g14 x) rfl ?_
      refine mz_fgR (v := 155) rfl fd_12_82 (by decide) (sc_137 _) (rf_137_28 _ _ _) ?_
      refine mm_g 1 (pc1 := 74) (lo1 := [some (.ref 137), some (.ref q1), some (.int (Int32.ofInt a2)), some (.int (Int32.ofInt v2))]) (st1 := [.int (Int32.ofInt v2), .ref 155, .int (Int32.ofInt (((a2 + 1) + 18) + v2)), .ref q1]) (H1 := mz_mk g14 x) rfl ?_
      refine mz_aI rfl (sh_155 _) (by omega) (by omega) (by decide) hIg14 (ba_155 _) (fun v15 e_v15 l_v15 u_v15 => ?_)
      replace hE := zf_tr hE (zf_le e_v15)
      refine mz_sI rfl (rw_sh h_q1 _) (by omega) (by omega) (rw_m h_q1) hIg14 (rwb3 h_q1 (f := a2) (by omega) (by omega) (by omega)) (by omega) (by omega) (fun g16 hIg16 hug16 => ?_)
      replace hE := zf_tr hE (zf_lg hug16)
      refine mz_iincR (v := v2) (lo2 := [some (.ref 137), some (.ref q1), some (.int (Int32.ofInt a2)), some (.int (Int32.ofInt (v2 + 1)))]) rfl rfl rfl (Nat.le_of_ble_eq_true rfl) rfl ?_
      refine mz_gt (tgt := 9) rfl rfl ?_
      exact ih4 ((6 - (v2 + 1)).toNat) (by omega) (v2 + 1) g16 rfl (by omega) (by omega) hIg16 (fun k j hk => ((hug16.2 k j (fun h => hk h.1)).trans ((hug14.2 k j (fun h => hk h.1)).trans ((hug12.2 k j (fun h => hk h.1)).trans ((hug10.2 k j (fun h => hk h.1)).trans (hfg3 k j (fun h => hk h))))))) ⟨fj7, Nat.lt_of_lt_of_le (show ((6 - (v2 + 1)).toNat) < n5 from (by omega)) fn8, hE⟩
  exact L6 _ 0 g1 rfl (by decide) (by decide) hIg1 (fun _ _ _ => rfl) ⟨3000000000, by omega, hE⟩
def fl_X12_recall_9 (x : mm_X) (q1 : Nat) (a2 : Int) : Nat → Nat → Prop := fun k j => k = 152 ∨ k = 153 ∨ k = 154 ∨ k = 155
def fw_X12_recall (x : mm_X) (q1 : Nat) (a2 : Int) : Nat → Nat → Prop := fun k j => (k = 137 ∧ j = 30) ∨ k = 152 ∨ k = 153 ∨ k = 154 ∨ k = 155
theorem f_X12_recall {d : Nat} (hd : 1 ≤ d) {x : mm_X} (hx : mk_x x) {g : mz_G} (hI : mz_inv g) {q1 n_q1 : Nat} (h_q1 : mk_rw q1 n_q1) {a2 : Int} (l_a2 : 0 ≤ a2) (u_a2 : a2 ≤ 975) (p1 : 0 ≤ a2 ∧ a2 % 25 = 0) (p2 : a2 + 25 ≤ (n_q1 : Int)) {Q : (Option Value ⊕ Nat) → mm_H → Prop} (hQ : ∀ (g1 : mz_G), mz_inv g1 → mz_fr (fw_X12_recall x q1 a2) g g1 → (g1 137 30 ≤ 999) → zf_E (zF_X12_recall q1 n_q1 a2 g) (g1) → Q (.inl none) (mz_mk g1 x)) : mm_C d 220 [.ref 137, .ref q1, .int (Int32.ofInt a2)] (mz_mk g x) Q := by
  refine ⟨mmX12_recall, [some (.ref 137), some (.ref q1), some (.int (Int32.ofInt a2)), none], rfl, rfl, ?_⟩
  have hE : zf_E (zF_X12_recall q1 n_q1 a2 g) (zF_X12_recall q1 n_q1 a2 g) := zf_rf
  refine mm_g 3 (pc1 := 3) (lo1 := [some (.ref 137), some (.ref q1), some (.int (Int32.ofInt a2)), none]) (st1 := [.int (Int32.ofInt a2), .ref q1, .ref 137]) (H1 := mz_mk g x) rfl ?_
  refine mz_aI rfl (rw_sh h_q1 _) (by omega) (by omega) (rw_m h_q1) hI (rwb0 h_q1 (f := a2) (by omega) (by omega) (by omega)) (fun v1 e_v1 l_v1 u_v1 => ?_)
  replace hE := zf_tr hE (zf_le e_v1)
  refine mz_pI rfl fd_12_307 (sc_137 _) hI bd_137_30 (by omega) (by omega) (fun g2 hIg2 hug2 => ?_)
  replace hE := zf_tr hE (zf_lg hug2)
  refine mm_g 2 (pc1 := 9) (lo1 := [some (.ref 137), some (.ref q1), some (.int (Int32.ofInt a2)), some (.int (Int32.ofInt 0))]) (st1 := []) (H1 := mz_mk g2 x) rfl ?_
  have L7 : ∀ n6 : Nat, ∀ (v3 : Int) (g4 : mz_G), (6 - v3).toNat = n6 → 0 ≤ v3 → v3 ≤ 6 → mz_inv g4 → mz_fr (fl_X12_recall_9 x q1 a2) g2 g4 → (∃ fk : Nat, (6 - v3).toNat < fk ∧ zf_E (zF_X12_recall q1 n_q1 a2 g) (zL_X12_recall_9 q1 n_q1 a2 fk v3 g4)) → mm_W d mmX12_recall 9 [some (.ref 137), some (.ref q1), some (.int (Int32.ofInt a2)), some (.int (Int32.ofInt v3))] [] (mz_mk g4 x) Q := by
    intro n6
    induction n6 using Nat.strongRecOn with
    | ind n6 ih5 =>
    intro v3 g4 hmn6 l_v3 u_v3 hIg4 hfg4 hF
    obtain ⟨fk, fl, hE⟩ := hF
    obtain ⟨fj8, rfl⟩ : ∃ fj, fk = fj + 1 := ⟨fk - 1, by omega⟩
    have fn9 : n6 ≤ fj8 := by omega
    replace hE := zf_tr hE zL_X12_recall_9_s
    refine mm_g 1 (pc1 := 10) (lo1 := [some (.ref 137), some (.ref q1), some (.int (Int32.ofInt a2)), some (.int (Int32.ofInt v3))]) (st1 := [.int (Int32.ofInt v3)]) (H1 := mz_mk g4 x) rfl ?_
    refine mz_bip rfl bip_6 ?_
    refine mz_ic_ge (tgt := 82) rfl rfl (mz_rg l_v3 u_v3) ⟨by decide, by decide⟩ (fun c12_9 => ?_) (fun c12_9 => ?_)
    · skip
      replace hE := zf_nl hE c12_9
      exact mm_rt rfl rfl (hQ _ hIg4 (fun k j hk => ((hfg4 k j (fun h => hk (Or.elim h (fun h => (Or.inr (Or.inl h))) (fun h => (Or.elim h (fun h => (Or.inr (Or.inr (Or.inl h)))) (fun h => (Or.elim h (fun h => (Or.inr (Or.inr (Or.inr (Or.inl h))))) (fun h => (Or.inr (Or.inr (Or.inr (Or.inr h)))))))))))).trans (hug2.2 k j (fun h => hk (Or.inl h))))) (by have h9 := (show g4 137 30 = v1 from ((hfg4 137 30 nj_19).trans hug2.1)); omega) hE)
    · skip
      replace hE := zf_ip hE c12_9
      refine mm_g 1 (pc1 := 16) (lo1 := [some (.ref 137), some (.ref q1), some (.int (Int32.ofInt a2)), some (.int (Int32.ofInt v3))]) (st1 := [.ref 137]) (H1 := mz_mk g4 x) rfl ?_
      refine mz_fgR (v := 152) rfl fd_12_76 (by decide) (sc_137 _) (rf_137_25 _ _ _) ?_
      refine mm_g 4 (pc1 := 23) (lo1 := [some (.ref 137), some (.ref q1), some (.int (Int32.ofInt a2)), some (.int (Int32.ofInt v3))]) (st1 := [.int (Int32.ofInt 1), .int (Int32.ofInt a2), .ref q1, .int (Int32.ofInt v3), .ref 152]) (H1 := mz_mk g4 x) rfl ?_
      refine mz_iadd rfl ?_
      refine mm_g 1 (pc1 := 25) (lo1 := [some (.ref 137), some (.ref q1), some (.int (Int32.ofInt a2)), some (.int (Int32.ofInt v3))]) (st1 := [.int (Int32.ofInt v3), .int (Int32.ofInt (a2 + 1)), .ref q1, .int (Int32.ofInt v3), .ref 152]) (H1 := mz_mk g4 x) rfl ?_
      refine mz_iadd rfl ?_
      refine mz_aI rfl (rw_sh h_q1 _) (by omega) (by omega) (rw_m h_q1) hIg4 (rwb1 h_q1 (f := a2) (by omega) (by omega) (by omega)) (fun v10 e_v10 l_v10 u_v10 => ?_)
      replace hE := zf_tr hE (zf_le e_v10)
      refine mz_sI rfl (sh_152 _) (by omega) (by omega) (by decide) hIg4 (ba_152 _) (by omega) (by omega) (fun g11 hIg11 hug11 => ?_)
      replace hE := zf_tr hE (zf_lg hug11)
      refine mm_g 1 (pc1 := 29) (lo1 := [some (.ref 137), some (.ref q1), some (.int (Int32.ofInt a2)), some (.int (Int32.ofInt v3))]) (st1 := [.ref 137]) (H1 := mz_mk g11 x) rfl ?_
      refine mz_fgR (v := 153) rfl fd_12_78 (by decide) (sc_137 _) (rf_137_26 _ _ _) ?_
      refine mm_g 4 (pc1 := 36) (lo1 := [some (.ref 137), some (.ref q1), some (.int (Int32.ofInt a2)), some (.int (Int32.ofInt v3))]) (st1 := [.int (Int32.ofInt 1), .int (Int32.ofInt a2), .ref q1, .int (Int32.ofInt v3), .ref 153]) (H1 := mz_mk g11 x) rfl ?_
      refine mz_iadd rfl ?_
      refine mz_bip rfl bip_6 ?_
      refine mz_iadd rfl ?_
      refine mm_g 1 (pc1 := 41) (lo1 := [some (.ref 137), some (.ref q1), some (.int (Int32.ofInt a2)), some (.int (Int32.ofInt v3))]) (st1 := [.int (Int32.ofInt v3), .int (Int32.ofInt ((a2 + 1) + 6)), .ref q1, .int (Int32.ofInt v3), .ref 153]) (H1 := mz_mk g11 x) rfl ?_
      refine mz_iadd rfl ?_
      refine mz_aI rfl (rw_sh h_q1 _) (by omega) (by omega) (rw_m h_q1) hIg11 (rwb2 h_q1 (f := a2) (by omega) (by omega) (by omega)) (fun v12 e_v12 l_v12 u_v12 => ?_)
      replace hE := zf_tr hE (zf_le e_v12)
      refine mz_sI rfl (sh_153 _) (by omega) (by omega) (by decide) hIg11 (ba_153 _) (by omega) (by omega) (fun g13 hIg13 hug13 => ?_)
      replace hE := zf_tr hE (zf_lg hug13)
      refine mm_g 1 (pc1 := 45) (lo1 := [some (.ref 137), some (.ref q1), some (.int (Int32.ofInt a2)), some (.int (Int32.ofInt v3))]) (st1 := [.ref 137]) (H1 := mz_mk g13 x) rfl ?_
      refine mz_fgR (v := 154) rfl fd_12_80 (by decide) (sc_137 _) (rf_137_27 _ _ _) ?_
      refine mm_g 4 (pc1 := 52) (lo1 := [some (.ref 137), some (.ref q1), some (.int (Int32.ofInt a2)), some (.int (Int32.ofInt v3))]) (st1 := [.int (Int32.ofInt 1), .int (Int32.ofInt a2), .ref q1, .int (Int32.ofInt v3), .ref 154]) (H1 := mz_mk g13 x) rfl ?_
      refine mz_iadd rfl ?_
      refine mz_bip rfl bip_12 ?_
      refine mz_iadd rfl ?_
      refine mm_g 1 (pc1 := 57) (lo1 := [some (.ref 137), some (.ref q1), some (.int (Int32.ofInt a2)), some (.int (Int32.ofInt v3))]) (st1 := [.int (Int32.ofInt v3), .int (Int32.ofInt ((a2 + 1) + 12)), .ref q1, .int (Int32.ofInt v3), .ref 154]) (H1 := mz_mk g13 x) rfl ?_
      refine mz_iadd rfl ?_
      refine mz_aI rfl (rw_sh h_q1 _) (by omega) (by omega) (rw_m h_q1) hIg13 (rwb2 h_q1 (f := a2) (by omega) (by omega) (by omega)) (fun v14 e_v14 l_v14 u_v14 => ?_)
      replace hE := zf_tr hE (zf_le e_v14)
      refine mz_sI rfl (sh_154 _) (by omega) (by omega) (by decide) hIg13 (ba_154 _) (by omega) (by omega) (fun g15 hIg15 hug15 => ?_)
      replace hE := zf_tr hE (zf_lg hug15)
      refine mm_g 1 (pc1 := 61) (lo1 := [some (.ref 137), some (.ref q1), some (.int (Int32.ofInt a2)), some (.int (Int32.ofInt v3))]) (st1 := [.ref 137]) (H1 := mz_mk g15 x) rfl ?_
      refine mz_fgR (v := 155) rfl fd_12_82 (by decide) (sc_137 _) (rf_137_28 _ _ _) ?_
      refine mm_g 4 (pc1 := 68) (lo1 := [some (.ref 137), some (.ref q1), some (.int (Int32.ofInt a2)), some (.int (Int32.ofInt v3))]) (st1 := [.int (Int32.ofInt 1), .int (Int32.ofInt a2), .ref q1, .int (Int32.ofInt v3), .ref 155]) (H1 := mz_mk g15 x) rfl ?_
      refine mz_iadd rfl ?_
      refine mz_bip rfl bip_18 ?_
      refine mz_iadd rfl ?_
      refine mm_g 1 (pc1 := 73) (lo1 := [some (.ref 137), some (.ref q1), some (.int (Int32.ofInt a2)), some (.int (Int32.ofInt v3))]) (st1 := [.int (Int32.ofInt v3), .int (Int32.ofInt ((a2 + 1) + 18)), .ref q1, .int (Int32.ofInt v3), .ref 155]) (H1 := mz_mk g15 x) rfl ?_
      refine mz_iadd rfl ?_
      refine mz_aI rfl (rw_sh h_q1 _) (by omega) (by omega) (rw_m h_q1) hIg15 (rwb3 h_q1 (f := a2) (by omega) (by omega) (by omega)) (fun v16 e_v16 l_v16 u_v16 => ?_)
      replace hE := zf_tr hE (zf_le e_v16)
      refine mz_sI rfl (sh_155 _) (by omega) (by omega) (by decide) hIg15 (ba_155 _) (by omega) (by omega) (fun g17 hIg17 hug17 => ?_)
      replace hE := zf_tr hE (zf_lg hug17)
      refine mz_iincR (v := v3) (lo2 := [some (.ref 137), some (.ref q1), some (.int (Int32.ofInt a2)), some (.int (Int32.ofInt (v3 + 1)))]) rfl rfl rfl (Nat.le_of_ble_eq_true rfl) rfl ?_
      refine mz_gt (tgt := 9) rfl rfl ?_
      exact ih5 ((6 - (v3 + 1)).toNat) (by omega) (v3 + 1) g17 rfl (by omega) (by omega) hIg17 (fun k j hk => ((hug17.2 k j (fun h => hk (Or.inr (Or.inr (Or.inr h.1))))).trans ((hug15.2 k j (fun h => hk (Or.inr (Or.inr (Or.inl h.1))))).trans ((hug13.2 k j (fun h => hk (Or.inr (Or.inl h.1)))).trans ((hug11.2 k j (fun h => hk (Or.inl h.1))).trans (hfg4 k j (fun h => hk (Or.elim h (fun h => (Or.inl h)) (fun h => (Or.elim h (fun h => (Or.inr (Or.inl h))) (fun h => (Or.elim h (fun h => (Or.inr (Or.inr (Or.inl h)))) (fun h => (Or.inr (Or.inr (Or.inr h)))))))))))))))) ⟨fj8, Nat.lt_of_lt_of_le (show ((6 - (v3 + 1)).toNat) < n6 from (by omega)) fn9, hE⟩
  exact L7 _ 0 g2 rfl (by decide) (by decide) hIg2 (fun _ _ _ => rfl) ⟨3000000000, by omega, hE⟩
theorem f_X12_letterOf {d : Nat} (hd : 1 ≤ d) {x : mm_X} (hx : mk_x x) {g : mz_G} (hI : mz_inv g) {a1 : Int} (l_a1 : 0 ≤ a1) (u_a1 : a1 ≤ 7) {a2 : Int} (l_a2 : 0 ≤ a2) (u_a2 : a2 ≤ 7) {Q : (Option Value ⊕ Nat) → mm_H → Prop} (hQ : ∀ (r : Int), (-2147483648) ≤ r → r ≤ 2147483647 → (r = g 141 (8 * a1 + a2).toNat) → zf_E (zF_X12_letterOf a1 a2 g) (r) → Q (.inl (some (.int (Int32.ofInt r)))) (mz_mk g x)) : mm_C d 221 [.ref 137, .int (Int32.ofInt a1), .int (Int32.ofInt a2)] (mz_mk g x) Q := by
  refine ⟨mmX12_letterOf, [some (.ref 137), some (.int (Int32.ofInt a1)), some (.int (Int32.ofInt a2))], rfl, rfl, ?_⟩
  have hE : zf_E (zF_X12_letterOf a1 a2 g) (zF_X12_letterOf a1 a2 g) := zf_rf
  refine mm_g 1 (pc1 := 1) (lo1 := [some (.ref 137), some (.int (Int32.ofInt a1)), some (.int (Int32.ofInt a2))]) (st1 := [.ref 137]) (H1 := mz_mk g x) rfl ?_
  refine mz_fgR (v := 141) rfl fd_12_40 (by decide) (sc_137 _) (rf_137_4 _ _ _) ?_
  refine mz_bip rfl bip_8 ?_
  refine mm_g 1 (pc1 := 7) (lo1 := [some (.ref 137), some (.int (Int32.ofInt a1)), some (.int (Int32.ofInt a2))]) (st1 := [.int (Int32.ofInt a1), .int (Int32.ofInt 8), .ref 141]) (H1 := mz_mk g x) rfl ?_
  refine mz_imul rfl ?_
  refine mm_g 1 (pc1 := 9) (lo1 := [some (.ref 137), some (.int (Int32.ofInt a1)), some (.int (Int32.ofInt a2))]) (st1 := [.int (Int32.ofInt a2), .int (Int32.ofInt (8 * a1)), .ref 141]) (H1 := mz_mk g x) rfl ?_
  refine mz_iadd rfl ?_
  refine mz_aI rfl (sh_141 _) (by omega) (by omega) (by decide) hI (ba_141 _) (fun v1 e_v1 l_v1 u_v1 => ?_)
  replace hE := zf_tr hE (zf_le e_v1)
  exact mm_rt rfl rfl (hQ _ (by omega) (by omega) e_v1.symm hE)
theorem f_X12_overlapOf {d : Nat} (hd : 12 ≤ d) {x : mm_X} (hx : mk_x x) {g : mz_G} (hI : mz_inv g) {a1 : Int} (l_a1 : 0 ≤ a1) (u_a1 : a1 ≤ 7) {a2 : Int} (l_a2 : 0 ≤ a2) (u_a2 : a2 ≤ 7) {Q : (Option Value ⊕ Nat) → mm_H → Prop} (hQ : ∀ (r : Int), 0 ≤ r → r ≤ 7 → (r = mz_ov (g 141) (g 142) a1 a2) → (r ≤ g 142 a2.toNat) → zf_E (zF_X12_overlapOf a1 a2 g) (r) → Q (.inl (some (.int (Int32.ofInt r)))) (mz_mk g x)) : mm_C d 222 [.ref 137, .int (Int32.ofInt a1), .int (Int32.ofInt a2)] (mz_mk g x) Q := by
  refine ⟨mmX12_overlapOf, [some (.ref 137), some (.int (Int32.ofInt a1)), some (.int (Int32.ofInt a2)), none, none, none], rfl, rfl, ?_⟩
  have hE : zf_E (zF_X12_overlapOf a1 a2 g) (zF_X12_overlapOf a1 a2 g) := zf_rf
  refine mm_g 1 (pc1 := 1) (lo1 := [some (.ref 137), some (.int (Int32.ofInt a1)), some (.int (Int32.ofInt a2)), none, none, none]) (st1 := [.ref 137]) (H1 := mz_mk g x) rfl ?_
  refine mz_fgR (v := 142) rfl fd_12_43 (by decide) (sc_137 _) (rf_137_5 _ _ _) ?_
  refine mm_g 1 (pc1 := 5) (lo1 := [some (.ref 137), some (.int (Int32.ofInt a1)), some (.int (Int32.ofInt a2)), none, none, none]) (st1 := [.int (Int32.ofInt a1), .ref 142]) (H1 := mz_mk g x) rfl ?_
  refine mz_aI rfl (sh_142 _) (by omega) (by omega) (by decide) hI (ba_142 _) (fun v1 e_v1 l_v1 u_v1 => ?_)
  replace hE := zf_tr hE (zf_le e_v1)
  refine mm_g 1 (pc1 := 7) (lo1 := [some (.ref 137), some (.int (Int32.ofInt a1)), some (.int (Int32.ofInt a2)), none, none, none]) (st1 := [.ref 137, .int (Int32.ofInt v1)]) (H1 := mz_mk g x) rfl ?_
  refine mz_fgR (v := 142) rfl fd_12_43 (by decide) (sc_137 _) (rf_137_5 _ _ _) ?_
  refine mm_g 1 (pc1 := 11) (lo1 := [some (.ref 137), some (.int (Int32.ofInt a1)), some (.int (Int32.ofInt a2)), none, none, none]) (st1 := [.int (Int32.ofInt a2), .ref 142, .int (Int32.ofInt v1)]) (H1 := mz_mk g x) rfl ?_
  refine mz_aI rfl (sh_142 _) (by omega) (by omega) (by decide) hI (ba_142 _) (fun v2 e_v2 l_v2 u_v2 => ?_)
  replace hE := zf_tr hE (zf_le e_v2)
  refine mz_mn rfl mt_12_191 (Nat.le_of_ble_eq_true rfl) (by omega) (mz_rg l_v1 u_v1) (mz_rg l_v2 u_v2) (fun v3 e_v3 => ?_)
  have l_v3 : 0 ≤ v3 := by omega
  have u_v3 : v3 ≤ 8 := by omega
  replace hE := zf_tr hE (zf_le e_v3.symm)
  refine mm_g 1 (pc1 := 16) (lo1 := [some (.ref 137), some (.int (Int32.ofInt a1)), some (.int (Int32.ofInt a2)), none, none, none]) (st1 := [.int (Int32.ofInt 1), .int (Int32.ofInt v3)]) (H1 := mz_mk g x) rfl ?_
  refine mz_isub rfl ?_
  refine mm_g 1 (pc1 := 18) (lo1 := [some (.ref 137), some (.int (Int32.ofInt a1)), some (.int (Int32.ofInt a2)), some (.int (Int32.ofInt (v3 - 1))), none, none]) (st1 := []) (H1 := mz_mk g x) rfl ?_
  have L10 : ∀ n9 : Nat, ∀ (v4 : Int) (o5 : Option Value) (o6 : Option Value), (v4 - 0).toNat = n9 → (-1) ≤ v4 → v4 ≤ 7 → mz_nl o5 → mz_nl o6 → (v4 + 1 ≤ v1) → (v4 + 1 ≤ v2) → (∀ n : Int, v4 < n → n + 1 ≤ g 142 a1.toNat → n + 1 ≤ g 142 a2.toNat → mz_mm (g 141) (g 142) a1 a2 n n) → (∃ fk : Nat, (v4 - 0).toNat < fk ∧ zf_E (zF_X12_overlapOf a1 a2 g) (zL_X12_overlapOf_18 a1 a2 g fk v4)) → mm_W d mmX12_overlapOf 18 [some (.ref 137), some (.int (Int32.ofInt a1)), some (.int (Int32.ofInt a2)), some (.int (Int32.ofInt v4)), o5, o6] [] (mz_mk g x) Q := by
    intro n9
    induction n9 using Nat.strongRecOn with
    | ind n9 ih8 =>
    intro v4 o5 o6 hmn9 l_v4 u_v4 h_o5 h_o6 hv11 hv12 hv13 hF
    obtain ⟨fk, fl, hE⟩ := hF
    obtain ⟨fj14, rfl⟩ : ∃ fj, fk = fj + 1 := ⟨fk - 1, by omega⟩
    have fn15 : n9 ≤ fj14 := by omega
    replace hE := zf_tr hE zL_X12_overlapOf_18_s
    refine mm_g 1 (pc1 := 19) (lo1 := [some (.ref 137), some (.int (Int32.ofInt a1)), some (.int (Int32.ofInt a2)), some (.int (Int32.ofInt v4)), o5, o6]) (st1 := [.int (Int32.ofInt v4)]) (H1 := mz_mk g x) rfl ?_
    refine mz_if_le (tgt := 91) rfl rfl (mz_rg l_v4 u_v4) (fun c19_15 => ?_) (fun c19_15 => ?_)
    · skip
      replace hE := zf_nl hE c19_15
      refine mm_g 1 (pc1 := 92) (lo1 := [some (.ref 137), some (.int (Int32.ofInt a1)), some (.int (Int32.ofInt a2)), some (.int (Int32.ofInt v4)), o5, o6]) (st1 := [.int (Int32.ofInt 0)]) (H1 := mz_mk g x) rfl ?_
      exact mm_rt rfl rfl (hQ _ (by decide) (by decide) (mz_ov_eq ⟨by omega, fun z => absurd z (by decide), fun n h0 h1 h2 => hv13 n (by omega) h1 h2⟩) (by omega) hE)
    · skip
      replace hE := zf_ip hE c19_15
      refine mm_g 4 (pc1 := 28) (lo1 := [some (.ref 137), some (.int (Int32.ofInt a1)), some (.int (Int32.ofInt a2)), some (.int (Int32.ofInt v4)), some (.int (Int32.ofInt 1)), some (.int (Int32.ofInt 0))]) (st1 := []) (H1 := mz_mk g x) rfl ?_
      have hO21 := hE
      have L22 : ∀ n20 : Nat, ∀ (v16 : Int) (v17 : Int), (7 - v17).toNat = n20 → 0 ≤ v16 → v16 ≤ 1 → 0 ≤ v17 → v17 ≤ 7 → (v16 ≠ 0 → ∀ i : Int, 0 ≤ i → i < v17 → mz_mt (g 141) (g 142) a1 a2 v4 i) → (v16 = 0 → mz_mm (g 141) (g 142) a1 a2 v4 v17) → (v17 ≤ v4) → (∃ fk : Nat, (7 - v17).toNat < fk ∧ zf_E (zL_X12_overlapOf_28 a1 a2 g 3000000000 v4 1 0) (zL_X12_overlapOf_28 a1 a2 g fk v4 v16 v17)) → mm_W d mmX12_overlapOf 28 [some (.ref 137), some (.int (Int32.ofInt a1)), some (.int (Int32.ofInt a2)), some (.int (Int32.ofInt v4)), some (.int (Int32.ofInt v16)), some (.int (Int32.ofInt v17))] [] (mz_mk g x) Q := by
        intro n20
        induction n20 using Nat.strongRecOn with
        | ind n20 ih19 =>
        intro v16 v17 hmn20 l_v16 u_v16 l_v17 u_v17 hv23 hv24 hv25 hF
        obtain ⟨fk, fl, hE⟩ := hF
        obtain ⟨fj26, rfl⟩ : ∃ fj, fk = fj + 1 := ⟨fk - 1, by omega⟩
        have fn27 : n20 ≤ fj26 := by omega
        replace hE := zf_tr hE zL_X12_overlapOf_28_s
        refine mm_g 2 (pc1 := 31) (lo1 := [some (.ref 137), some (.int (Int32.ofInt a1)), some (.int (Int32.ofInt a2)), some (.int (Int32.ofInt v4)), some (.int (Int32.ofInt v16)), some (.int (Int32.ofInt v17))]) (st1 := [.int (Int32.ofInt v4), .int (Int32.ofInt v17)]) (H1 := mz_mk g x) rfl ?_
        refine mz_ic_ge (tgt := 78) rfl rfl (mz_rg l_v17 u_v17) (mz_rg l_v4 u_v4) (fun c31_27 => ?_) (fun c31_27 => ?_)
        · skip
          replace hE := zf_nl hE c31_27
          replace hE := zf_t1 hO21 hE
          refine mm_g 1 (pc1 := 80) (lo1 := [some (.ref 137), some (.int (Int32.ofInt a1)), some (.int (Int32.ofInt a2)), some (.int (Int32.ofInt v4)), some (.int (Int32.ofInt v16)), some (.int (Int32.ofInt v17))]) (st1 := [.int (Int32.ofInt v16)]) (H1 := mz_mk g x) rfl ?_
          refine mz_if_eq (tgt := 85) rfl rfl (mz_rg l_v16 u_v16) (fun c80_27 => ?_) (fun c80_27 => ?_)
          · skip
            replace hE := zf_ip hE c80_27
            refine mz_iincR (v := v4) (lo2 := [some (.ref 137), some (.int (Int32.ofInt a1)), some (.int (Int32.ofInt a2)), some (.int (Int32.ofInt (v4 + (-1)))), some (.int (Int32.ofInt v16)), some (.int (Int32.ofInt v17))]) rfl rfl rfl (Nat.le_of_ble_eq_true rfl) rfl ?_
            refine mz_gt (tgt := 18) rfl rfl ?_
            exact ih8 (((v4 + (-1)) - 0).toNat) (by omega) (v4 + (-1)) (some (.int (Int32.ofInt v16))) (some (.int (Int32.ofInt v17))) rfl (by omega) (by omega) (mz_nl_i _) (mz_nl_i _) (by omega) (by omega) (by intro n h0 h1 h2; rcases (by omega : v4 < n ∨ n = v4) with z | z; exact hv13 n z h1 h2; rw [z]; obtain ⟨i, i0, i1, i2⟩ := hv24 (by omega); exact ⟨i, i0, by omega, i2⟩) ⟨fj14, Nat.lt_of_lt_of_le (show (((v4 + (-1)) - 0).toNat) < n9 from (by omega)) fn15, hE⟩
          · skip
            replace hE := zf_in hE c80_27
            refine mm_g 1 (pc1 := 84) (lo1 := [some (.ref 137), some (.int (Int32.ofInt a1)), some (.int (Int32.ofInt a2)), some (.int (Int32.ofInt v4)), some (.int (Int32.ofInt v16)), some (.int (Int32.ofInt v17))]) (st1 := [.int (Int32.ofInt v4)]) (H1 := mz_mk g x) rfl ?_
            exact mm_rt rfl rfl (hQ _ (by omega) (by omega) (mz_ov_eq ⟨by omega, fun _ => ⟨by omega, by omega, fun i h0 h1 => hv23 (by omega) i h0 (by omega)⟩, hv13⟩) (by omega) hE)
        · skip
          replace hE := zf_ip hE c31_27
          refine mm_g 1 (pc1 := 36) (lo1 := [some (.ref 137), some (.int (Int32.ofInt a1)), some (.int (Int32.ofInt a2)), some (.int (Int32.ofInt v4)), some (.int (Int32.ofInt v16)), some (.int (Int32.ofInt v17))]) (st1 := [.int (Int32.ofInt v16)]) (H1 := mz_mk g x) rfl ?_
          refine mz_if_eq (tgt := 78) rfl rfl (mz_rg l_v16 u_v16) (fun c36_27 => ?_) (fun c36_27 => ?_)
          · skip
            replace hE := zf_ip hE c36_27
            replace hE := zf_t1 hO21 hE
            refine mm_g 1 (pc1 := 80) (lo1 := [some (.ref 137), some (.int (Int32.ofInt a1)), some (.int (Int32.ofInt a2)), some (.int (Int32.ofInt v4)), some (.int (Int32.ofInt v16)), some (.int (Int32.ofInt v17))]) (st1 := [.int (Int32.ofInt v16)]) (H1 := mz_mk g x) rfl ?_
            refine mz_if_eq (tgt := 85) rfl rfl (mz_rg l_v16 u_v16) (fun c80_27 => ?_) (fun c80_27 => ?_)
            · skip
              replace hE := zf_ip hE c80_27
              refine mz_iincR (v := v4) (lo2 := [some (.ref 137), some (.int (Int32.ofInt a1)), some (.int (Int32.ofInt a2)), some (.int (Int32.ofInt (v4 + (-1)))), some (.int (Int32.ofInt v16)), some (.int (Int32.ofInt v17))]) rfl rfl rfl (Nat.le_of_ble_eq_true rfl) rfl ?_
              refine mz_gt (tgt := 18) rfl rfl ?_
              exact ih8 (((v4 + (-1)) - 0).toNat) (by omega) (v4 + (-1)) (some (.int (Int32.ofInt v16))) (some (.int (Int32.ofInt v17))) rfl (by omega) (by omega) (mz_nl_i _) (mz_nl_i _) (by omega) (by omega) (by intro n h0 h1 h2; rcases (by omega : v4 < n ∨ n = v4) with z | z; exact hv13 n z h1 h2; rw [z]; obtain ⟨i, i0, i1, i2⟩ := hv24 (by omega); exact ⟨i, i0, by omega, i2⟩) ⟨fj14, Nat.lt_of_lt_of_le (show (((v4 + (-1)) - 0).toNat) < n9 from (by omega)) fn15, hE⟩
            · exfalso; omega
          · skip
            replace hE := zf_in hE c36_27
            refine mm_g 3 (pc1 := 42) (lo1 := [some (.ref 137), some (.int (Int32.ofInt a1)), some (.int (Int32.ofInt a2)), some (.int (Int32.ofInt v4)), some (.int (Int32.ofInt v16)), some (.int (Int32.ofInt v17))]) (st1 := [.ref 137, .int (Int32.ofInt a1), .ref 137]) (H1 := mz_mk g x) rfl ?_
            refine mz_fgR (v := 142) rfl fd_12_43 (by decide) (sc_137 _) (rf_137_5 _ _ _) ?_
            refine mm_g 1 (pc1 := 46) (lo1 := [some (.ref 137), some (.int (Int32.ofInt a1)), some (.int (Int32.ofInt a2)), some (.int (Int32.ofInt v4)), some (.int (Int32.ofInt v16)), some (.int (Int32.ofInt v17))]) (st1 := [.int (Int32.ofInt a1), .ref 142, .int (Int32.ofInt a1), .ref 137]) (H1 := mz_mk g x) rfl ?_
            refine mz_ia (v := v1) rfl (sh_142 _) (by omega) (by omega) (by decide) e_v1 ?_
            replace hE := zf_tr hE (zf_le e_v1)
            refine mm_g 1 (pc1 := 48) (lo1 := [some (.ref 137), some (.int (Int32.ofInt a1)), some (.int (Int32.ofInt a2)), some (.int (Int32.ofInt v4)), some (.int (Int32.ofInt v16)), some (.int (Int32.ofInt v17))]) (st1 := [.int (Int32.ofInt v4), .int (Int32.ofInt v1), .int (Int32.ofInt a1), .ref 137]) (H1 := mz_mk g x) rfl ?_
            refine mz_isub rfl ?_
            refine mm_g 1 (pc1 := 51) (lo1 := [some (.ref 137), some (.int (Int32.ofInt a1)), some (.int (Int32.ofInt a2)), some (.int (Int32.ofInt v4)), some (.int (Int32.ofInt v16)), some (.int (Int32.ofInt v17))]) (st1 := [.int (Int32.ofInt v17), .int (Int32.ofInt (v1 - v4)), .int (Int32.ofInt a1), .ref 137]) (H1 := mz_mk g x) rfl ?_
            refine mz_iadd rfl ?_
            refine mz_cv rfl mt_12_320 (by decide) (sc_137 _) rfl (Nat.le_of_ble_eq_true rfl) (by omega) (f_X12_letterOf (by omega) hx hI l_a1 u_a1 (by omega) (by omega) (fun v28 l_v28 u_v28 hp29 hc30 => ⟨_, rfl, ?_⟩))
            show mm_W d mmX12_overlapOf 55 [some (.ref 137), some (.int (Int32.ofInt a1)), some (.int (Int32.ofInt a2)), some (.int (Int32.ofInt v4)), some (.int (Int32.ofInt v16)), some (.int (Int32.ofInt v17))] [.int (Int32.ofInt v28)] (mz_mk g x) Q
            replace hE := zf_t1 hE hc30
            refine mm_g 3 (pc1 := 59) (lo1 := [some (.ref 137), some (.int (Int32.ofInt a1)), some (.int (Int32.ofInt a2)), some (.int (Int32.ofInt v4)), some (.int (Int32.ofInt v16)), some (.int (Int32.ofInt v17))]) (st1 := [.int (Int32.ofInt v17), .int (Int32.ofInt a2), .ref 137, .int (Int32.ofInt v28)]) (H1 := mz_mk g x) rfl ?_
            refine mz_cv rfl mt_12_320 (by decide) (sc_137 _) rfl (Nat.le_of_ble_eq_true rfl) (by omega) (f_X12_letterOf (by omega) hx hI l_a2 u_a2 l_v17 u_v17 (fun v31 l_v31 u_v31 hp32 hc33 => ⟨_, rfl, ?_⟩))
            show mm_W d mmX12_overlapOf 62 [some (.ref 137), some (.int (Int32.ofInt a1)), some (.int (Int32.ofInt a2)), some (.int (Int32.ofInt v4)), some (.int (Int32.ofInt v16)), some (.int (Int32.ofInt v17))] [.int (Int32.ofInt v31), .int (Int32.ofInt v28)] (mz_mk g x) Q
            replace hE := zf_t1 hE hc33
            refine mz_ic_ne (tgt := 69) rfl rfl (mz_rg l_v28 u_v28) (mz_rg l_v31 u_v31) (fun c62_33 => ?_) (fun c62_33 => ?_)
            · skip
              replace hE := zf_in hE c62_33
              refine mm_g 2 (pc1 := 72) (lo1 := [some (.ref 137), some (.int (Int32.ofInt a1)), some (.int (Int32.ofInt a2)), some (.int (Int32.ofInt v4)), some (.int (Int32.ofInt 0)), some (.int (Int32.ofInt v17))]) (st1 := []) (H1 := mz_mk g x) rfl ?_
              refine mz_iincR (v := v17) (lo2 := [some (.ref 137), some (.int (Int32.ofInt a1)), some (.int (Int32.ofInt a2)), some (.int (Int32.ofInt v4)), some (.int (Int32.ofInt 0)), some (.int (Int32.ofInt (v17 + 1)))]) rfl rfl rfl (Nat.le_of_ble_eq_true rfl) rfl ?_
              refine mz_gt (tgt := 28) rfl rfl ?_
              exact ih19 ((7 - (v17 + 1)).toNat) (by omega) 0 (v17 + 1) rfl (by decide) (by decide) (by omega) (by omega) (by intro z; exfalso; omega) (by intro _; refine ⟨v17, by omega, by omega, ?_⟩; unfold mz_mt; rw [e_v1, ← hp29, ← hp32]; omega) (by omega) ⟨fj26, Nat.lt_of_lt_of_le (show ((7 - (v17 + 1)).toNat) < n20 from (by omega)) fn27, hE⟩
            · skip
              replace hE := zf_ip hE c62_33
              refine mm_g 1 (pc1 := 66) (lo1 := [some (.ref 137), some (.int (Int32.ofInt a1)), some (.int (Int32.ofInt a2)), some (.int (Int32.ofInt v4)), some (.int (Int32.ofInt v16)), some (.int (Int32.ofInt v17))]) (st1 := [.int (Int32.ofInt 1)]) (H1 := mz_mk g x) rfl ?_
              refine mz_gt (tgt := 70) rfl rfl ?_
              refine mm_g 1 (pc1 := 72) (lo1 := [some (.ref 137), some (.int (Int32.ofInt a1)), some (.int (Int32.ofInt a2)), some (.int (Int32.ofInt v4)), some (.int (Int32.ofInt 1)), some (.int (Int32.ofInt v17))]) (st1 := []) (H1 := mz_mk g x) rfl ?_
              refine mz_iincR (v := v17) (lo2 := [some (.ref 137), some (.int (Int32.ofInt a1)), some (.int (Int32.ofInt a2)), some (.int (Int32.ofInt v4)), some (.int (Int32.ofInt 1)), some (.int (Int32.ofInt (v17 + 1)))]) rfl rfl rfl (Nat.le_of_ble_eq_true rfl) rfl ?_
              refine mz_gt (tgt := 28) rfl rfl ?_
              exact ih19 ((7 - (v17 + 1)).toNat) (by omega) 1 (v17 + 1) rfl (by decide) (by decide) (by omega) (by omega) (by intro _ i h0 h1; rcases (by omega : i < v17 ∨ i = v17) with z | z; exact hv23 (by omega) i h0 z; rw [z]; unfold mz_mt; rw [e_v1, ← hp29, ← hp32]; omega) (by intro z; exfalso; omega) (by omega) ⟨fj26, Nat.lt_of_lt_of_le (show ((7 - (v17 + 1)).toNat) < n20 from (by omega)) fn27, hE⟩
      exact L22 _ 1 0 rfl (by decide) (by decide) (by decide) (by decide) (by intro _ i h0 h1; exfalso; omega) (by intro z; exfalso; omega) (by omega) ⟨3000000000, by omega, zf_rf⟩
  exact L10 _ (v3 - 1) none none rfl (by omega) (by omega) mz_nl_n mz_nl_n (by omega) (by omega) (by intro n h0 h1 h2; exfalso; omega) ⟨3000000000, by omega, hE⟩
def fl_X12_wordInto_2 (x : mm_X) (q1 : Nat) (a2 : Int) : Nat → Nat → Prop := fun k j => k = q1
def fw_X12_wordInto (x : mm_X) (q1 : Nat) (a2 : Int) : Nat → Nat → Prop := fun k j => k = q1
theorem f_X12_wordInto {d : Nat} (hd : 2 ≤ d) {x : mm_X} (hx : mk_x x) {g : mz_G} (hI : mz_inv g) {q1 n_q1 : Nat} (h_q1 : mm_SH x.2.2.2.1 q1 = (100, n_q1)) (m_q1 : n_q1 ≤ 2048) (b_q1 : ∀ j, mz_bd q1 j = (-2147483648, 2147483647)) {a2 : Int} (l_a2 : 0 ≤ a2) (u_a2 : a2 ≤ 7) (p1 : 8 ≤ n_q1) {Q : (Option Value ⊕ Nat) → mm_H → Prop} (hQ : ∀ (r : Int) (g1 : mz_G), mz_inv g1 → mz_fr (fw_X12_wordInto x q1 a2) g g1 → 0 ≤ r → r ≤ 8 → zf_E (zF_X12_wordInto q1 n_q1 a2 g) ((r, g1)) → Q (.inl (some (.int (Int32.ofInt r)))) (mz_mk g1 x)) : mm_C d 223 [.ref 137, .ref q1, .int (Int32.ofInt a2)] (mz_mk g x) Q := by
  refine ⟨mmX12_wordInto, [some (.ref 137), some (.ref q1), some (.int (Int32.ofInt a2)), none], rfl, rfl, ?_⟩
  have hE : zf_E (zF_X12_wordInto q1 n_q1 a2 g) (zF_X12_wordInto q1 n_q1 a2 g) := zf_rf
  refine mm_g 2 (pc1 := 2) (lo1 := [some (.ref 137), some (.ref q1), some (.int (Int32.ofInt a2)), some (.int (Int32.ofInt 0))]) (st1 := []) (H1 := mz_mk g x) rfl ?_
  have L5 : ∀ n4 : Nat, ∀ (v1 : Int) (g2 : mz_G), (8 - v1).toNat = n4 → 0 ≤ v1 → v1 ≤ 8 → mz_inv g2 → mz_fr (fl_X12_wordInto_2 x q1 a2) g g2 → (∃ fk : Nat, (8 - v1).toNat < fk ∧ zf_E (zF_X12_wordInto q1 n_q1 a2 g) (zL_X12_wordInto_2 q1 n_q1 a2 fk v1 g2)) → mm_W d mmX12_wordInto 2 [some (.ref 137), some (.ref q1), some (.int (Int32.ofInt a2)), some (.int (Int32.ofInt v1))] [] (mz_mk g2 x) Q := by
    intro n4
    induction n4 using Nat.strongRecOn with
    | ind n4 ih3 =>
    intro v1 g2 hmn4 l_v1 u_v1 hIg2 hfg2 hF
    obtain ⟨fk, fl, hE⟩ := hF
    obtain ⟨fj6, rfl⟩ : ∃ fj, fk = fj + 1 := ⟨fk - 1, by omega⟩
    have fn7 : n4 ≤ fj6 := by omega
    replace hE := zf_tr hE zL_X12_wordInto_2_s
    refine mm_g 2 (pc1 := 4) (lo1 := [some (.ref 137), some (.ref q1), some (.int (Int32.ofInt a2)), some (.int (Int32.ofInt v1))]) (st1 := [.ref 137, .int (Int32.ofInt v1)]) (H1 := mz_mk g2 x) rfl ?_
    refine mz_fgR (v := 142) rfl fd_12_43 (by decide) (sc_137 _) (rf_137_5 _ _ _) ?_
    refine mm_g 1 (pc1 := 8) (lo1 := [some (.ref 137), some (.ref q1), some (.int (Int32.ofInt a2)), some (.int (Int32.ofInt v1))]) (st1 := [.int (Int32.ofInt a2), .ref 142, .int (Int32.ofInt v1)]) (H1 := mz_mk g2 x) rfl ?_
    refine mz_aI rfl (sh_142 _) (by omega) (by omega) (by decide) hIg2 (ba_142 _) (fun v8 e_v8 l_v8 u_v8 => ?_)
    replace hE := zf_tr hE (zf_le e_v8)
    refine mz_ic_ge (tgt := 27) rfl rfl (mz_rg l_v1 u_v1) (mz_rg l_v8 u_v8) (fun c9_8 => ?_) (fun c9_8 => ?_)
    · skip
      replace hE := zf_nl hE c9_8
      refine mm_g 1 (pc1 := 28) (lo1 := [some (.ref 137), some (.ref q1), some (.int (Int32.ofInt a2)), some (.int (Int32.ofInt v1))]) (st1 := [.ref 137]) (H1 := mz_mk g2 x) rfl ?_
      refine mz_fgR (v := 142) rfl fd_12_43 (by decide) (sc_137 _) (rf_137_5 _ _ _) ?_
      refine mm_g 1 (pc1 := 32) (lo1 := [some (.ref 137), some (.ref q1), some (.int (Int32.ofInt a2)), some (.int (Int32.ofInt v1))]) (st1 := [.int (Int32.ofInt a2), .ref 142]) (H1 := mz_mk g2 x) rfl ?_
      refine mz_ia (v := v8) rfl (sh_142 _) (by omega) (by omega) (by decide) e_v8 ?_
      replace hE := zf_tr hE (zf_le e_v8)
      exact mm_rt rfl rfl (hQ _ _ hIg2 (fun k j hk => (hfg2 k j (fun h => hk h))) (by omega) (by omega) hE)
    · skip
      replace hE := zf_ip hE c9_8
      refine mm_g 5 (pc1 := 17) (lo1 := [some (.ref 137), some (.ref q1), some (.int (Int32.ofInt a2)), some (.int (Int32.ofInt v1))]) (st1 := [.int (Int32.ofInt v1), .int (Int32.ofInt a2), .ref 137, .int (Int32.ofInt v1), .ref q1]) (H1 := mz_mk g2 x) rfl ?_
      refine mz_cv rfl mt_12_320 (by decide) (sc_137 _) rfl (Nat.le_of_ble_eq_true rfl) (by omega) (f_X12_letterOf (by omega) hx hIg2 l_a2 u_a2 (by omega) (by omega) (fun v9 l_v9 u_v9 hp10 hc11 => ⟨_, rfl, ?_⟩))
      show mm_W d mmX12_wordInto 20 [some (.ref 137), some (.ref q1), some (.int (Int32.ofInt a2)), some (.int (Int32.ofInt v1))] [.int (Int32.ofInt v9), .int (Int32.ofInt v1), .ref q1] (mz_mk g2 x) Q
      replace hE := zf_t1 hE hc11
      refine mz_sI rfl h_q1 (by omega) (by omega) (by omega) hIg2 (b_q1 _) (by omega) (by omega) (fun g12 hIg12 hug12 => ?_)
      replace hE := zf_tr hE (zf_lg hug12)
      refine mz_iincR (v := v1) (lo2 := [some (.ref 137), some (.ref q1), some (.int (Int32.ofInt a2)), some (.int (Int32.ofInt (v1 + 1)))]) rfl rfl rfl (Nat.le_of_ble_eq_true rfl) rfl ?_
      refine mz_gt (tgt := 2) rfl rfl ?_
      exact ih3 ((8 - (v1 + 1)).toNat) (by omega) (v1 + 1) g12 rfl (by omega) (by omega) hIg12 (fun k j hk => ((hug12.2 k j (fun h => hk h.1)).trans (hfg2 k j (fun h => hk h)))) ⟨fj6, Nat.lt_of_lt_of_le (show ((8 - (v1 + 1)).toNat) < n4 from (by omega)) fn7, hE⟩
  exact L5 _ 0 g rfl (by decide) (by decide) hI (fun _ _ _ => rfl) ⟨3000000000, by omega, hE⟩
def fl_X12_blendInto_5 (x : mm_X) (q1 : Nat) (a2 : Int) : Nat → Nat → Prop := fun k j => k = q1
def fl_X12_blendInto_66 (x : mm_X) (q1 : Nat) (a2 : Int) : Nat → Nat → Prop := fun k j => k = q1
def fw_X12_blendInto (x : mm_X) (q1 : Nat) (a2 : Int) : Nat → Nat → Prop := fun k j => k = q1
theorem f_X12_blendInto {d : Nat} (hd : 2 ≤ d) {x : mm_X} (hx : mk_x x) {g : mz_G} (hI : mz_inv g) {q1 n_q1 : Nat} (h_q1 : mm_SH x.2.2.2.1 q1 = (100, n_q1)) (m_q1 : n_q1 ≤ 2048) (b_q1 : ∀ j, mz_bd q1 j = (-2147483648, 2147483647)) {a2 : Int} (l_a2 : 0 ≤ a2) (u_a2 : a2 ≤ 5) (p1 : 16 ≤ n_q1) {Q : (Option Value ⊕ Nat) → mm_H → Prop} (hQ : ∀ (r : Int) (g1 : mz_G), mz_inv g1 → mz_fr (fw_X12_blendInto x q1 a2) g g1 → 0 ≤ r → r ≤ 16 → zf_E (zF_X12_blendInto q1 n_q1 a2 g) ((r, g1)) → Q (.inl (some (.int (Int32.ofInt r)))) (mz_mk g1 x)) : mm_C d 224 [.ref 137, .ref q1, .int (Int32.ofInt a2)] (mz_mk g x) Q := by
  refine ⟨mmX12_blendInto, [some (.ref 137), some (.ref q1), some (.int (Int32.ofInt a2)), none, none], rfl, rfl, ?_⟩
  have hE : zf_E (zF_X12_blendInto q1 n_q1 a2 g) (zF_X12_blendInto q1 n_q1 a2 g) := zf_rf
  refine mm_g 4 (pc1 := 5) (lo1 := [some (.ref 137), some (.ref q1), some (.int (Int32.ofInt a2)), some (.int (Int32.ofInt 0)), some (.int (Int32.ofInt 0))]) (st1 := []) (H1 := mz_mk g x) rfl ?_
  have L6 : ∀ n5 : Nat, ∀ (v1 : Int) (v2 : Int) (g3 : mz_G), (8 - v1).toNat = n5 → 0 ≤ v1 → v1 ≤ 8 → 0 ≤ v2 → v2 ≤ 8 → mz_inv g3 → mz_fr (fl_X12_blendInto_5 x q1 a2) g g3 → (v1 ≤ v2) → (∃ fk : Nat, (8 - v1).toNat < fk ∧ zf_E (zF_X12_blendInto q1 n_q1 a2 g) (zL_X12_blendInto_5 q1 n_q1 a2 fk v1 v2 g3)) → mm_W d mmX12_blendInto 5 [some (.ref 137), some (.ref q1), some (.int (Int32.ofInt a2)), some (.int (Int32.ofInt v1)), some (.int (Int32.ofInt v2))] [] (mz_mk g3 x) Q := by
    intro n5
    induction n5 using Nat.strongRecOn with
    | ind n5 ih4 =>
    intro v1 v2 g3 hmn5 l_v1 u_v1 l_v2 u_v2 hIg3 hfg3 hv7 hF
    obtain ⟨fk, fl, hE⟩ := hF
    obtain ⟨fj8, rfl⟩ : ∃ fj, fk = fj + 1 := ⟨fk - 1, by omega⟩
    have fn9 : n5 ≤ fj8 := by omega
    replace hE := zf_tr hE zL_X12_blendInto_5_s
    refine mm_g 2 (pc1 := 8) (lo1 := [some (.ref 137), some (.ref q1), some (.int (Int32.ofInt a2)), some (.int (Int32.ofInt v1)), some (.int (Int32.ofInt v2))]) (st1 := [.ref 137, .int (Int32.ofInt v2)]) (H1 := mz_mk g3 x) rfl ?_
    refine mz_fgR (v := 142) rfl fd_12_43 (by decide) (sc_137 _) (rf_137_5 _ _ _) ?_
    refine mm_g 1 (pc1 := 12) (lo1 := [some (.ref 137), some (.ref q1), some (.int (Int32.ofInt a2)), some (.int (Int32.ofInt v1)), some (.int (Int32.ofInt v2))]) (st1 := [.ref 137, .ref 142, .int (Int32.ofInt v2)]) (H1 := mz_mk g3 x) rfl ?_
    refine mz_fgR (v := 153) rfl fd_12_78 (by decide) (sc_137 _) (rf_137_26 _ _ _) ?_
    refine mm_g 1 (pc1 := 16) (lo1 := [some (.ref 137), some (.ref q1), some (.int (Int32.ofInt a2)), some (.int (Int32.ofInt v1)), some (.int (Int32.ofInt v2))]) (st1 := [.int (Int32.ofInt a2), .ref 153, .ref 142, .int (Int32.ofInt v2)]) (H1 := mz_mk g3 x) rfl ?_
    refine mz_aI rfl (sh_153 _) (by omega) (by omega) (by decide) hIg3 (ba_153 _) (fun v10 e_v10 l_v10 u_v10 => ?_)
    replace hE := zf_tr hE (zf_le e_v10)
    refine mz_aI rfl (sh_142 _) (by omega) (by omega) (by decide) hIg3 (ba_142 _) (fun v11 e_v11 l_v11 u_v11 => ?_)
    replace hE := zf_tr hE (zf_le e_v11)
    refine mm_g 1 (pc1 := 19) (lo1 := [some (.ref 137), some (.ref q1), some (.int (Int32.ofInt a2)), some (.int (Int32.ofInt v1)), some (.int (Int32.ofInt v2))]) (st1 := [.ref 137, .int (Int32.ofInt v11), .int (Int32.ofInt v2)]) (H1 := mz_mk g3 x) rfl ?_
    refine mz_fgR (v := 152) rfl fd_12_76 (by decide) (sc_137 _) (rf_137_25 _ _ _) ?_
    refine mm_g 1 (pc1 := 23) (lo1 := [some (.ref 137), some (.ref q1), some (.int (Int32.ofInt a2)), some (.int (Int32.ofInt v1)), some (.int (Int32.ofInt v2))]) (st1 := [.int (Int32.ofInt a2), .ref 152, .int (Int32.ofInt v11), .int (Int32.ofInt v2)]) (H1 := mz_mk g3 x) rfl ?_
    refine mz_aI rfl (sh_152 _) (by omega) (by omega) (by decide) hIg3 (ba_152 _) (fun v12 e_v12 l_v12 u_v12 => ?_)
    replace hE := zf_tr hE (zf_le e_v12)
    refine mm_g 1 (pc1 := 25) (lo1 := [some (.ref 137), some (.ref q1), some (.int (Int32.ofInt a2)), some (.int (Int32.ofInt v1)), some (.int (Int32.ofInt v2))]) (st1 := [.int (Int32.ofInt 1), .int (Int32.ofInt v12), .int (Int32.ofInt v11), .int (Int32.ofInt v2)]) (H1 := mz_mk g3 x) rfl ?_
    refine mz_iadd rfl ?_
    refine mm_g 1 (pc1 := 27) (lo1 := [some (.ref 137), some (.ref q1), some (.int (Int32.ofInt a2)), some (.int (Int32.ofInt v1)), some (.int (Int32.ofInt v2))]) (st1 := [.int (Int32.ofInt 2), .int (Int32.ofInt (v12 + 1)), .int (Int32.ofInt v11), .int (Int32.ofInt v2)]) (H1 := mz_mk g3 x) rfl ?_
    refine mz_idivp rfl ⟨by omega, by omega⟩ ⟨by decide, by decide⟩ (by omega) (by omega) (fun v13 e_v13 => ?_)
    have l_v13 : 0 ≤ v13 := by omega
    have u_v13 : v13 ≤ 4 := by omega
    replace hE := zf_tr hE (zf_le e_v13.symm)
    refine mz_isub rfl ?_
    refine mz_ic_ge (tgt := 56) rfl rfl (mz_rg l_v2 u_v2) ⟨by omega, by omega⟩ (fun c29_13 => ?_) (fun c29_13 => ?_)
    · skip
      replace hE := zf_nl hE c29_13
      refine mm_g 1 (pc1 := 57) (lo1 := [some (.ref 137), some (.ref q1), some (.int (Int32.ofInt a2)), some (.int (Int32.ofInt v1)), some (.int (Int32.ofInt v2))]) (st1 := [.ref 137]) (H1 := mz_mk g3 x) rfl ?_
      refine mz_fgR (v := 152) rfl fd_12_76 (by decide) (sc_137 _) (rf_137_25 _ _ _) ?_
      refine mm_g 1 (pc1 := 61) (lo1 := [some (.ref 137), some (.ref q1), some (.int (Int32.ofInt a2)), some (.int (Int32.ofInt v1)), some (.int (Int32.ofInt v2))]) (st1 := [.int (Int32.ofInt a2), .ref 152]) (H1 := mz_mk g3 x) rfl ?_
      refine mz_ia (v := v12) rfl (sh_152 _) (by omega) (by omega) (by decide) e_v12 ?_
      replace hE := zf_tr hE (zf_le e_v12)
      refine mm_g 1 (pc1 := 63) (lo1 := [some (.ref 137), some (.ref q1), some (.int (Int32.ofInt a2)), some (.int (Int32.ofInt v1)), some (.int (Int32.ofInt v2))]) (st1 := [.int (Int32.ofInt 2), .int (Int32.ofInt v12)]) (H1 := mz_mk g3 x) rfl ?_
      refine mz_idivp rfl (mz_rg l_v12 u_v12) ⟨by decide, by decide⟩ (by omega) (by omega) (fun v14 e_v14 => ?_)
      have l_v14 : 0 ≤ v14 := by omega
      have u_v14 : v14 ≤ 4 := by omega
      replace hE := zf_tr hE (zf_le e_v14.symm)
      refine mm_g 1 (pc1 := 66) (lo1 := [some (.ref 137), some (.ref q1), some (.int (Int32.ofInt a2)), some (.int (Int32.ofInt v1)), some (.int (Int32.ofInt v14))]) (st1 := []) (H1 := mz_mk g3 x) rfl ?_
      have L20 : ∀ n19 : Nat, ∀ (v15 : Int) (v16 : Int) (g17 : mz_G), (16 - v15).toNat = n19 → 0 ≤ v15 → v15 ≤ 16 → 0 ≤ v16 → v16 ≤ 8 → mz_inv g17 → mz_fr (fl_X12_blendInto_66 x q1 a2) g3 g17 → (v15 ≤ v16 + 8) → (∃ fk : Nat, (16 - v15).toNat < fk ∧ zf_E (zF_X12_blendInto q1 n_q1 a2 g) (zL_X12_blendInto_66 q1 n_q1 a2 fk v15 v16 g17)) → mm_W d mmX12_blendInto 66 [some (.ref 137), some (.ref q1), some (.int (Int32.ofInt a2)), some (.int (Int32.ofInt v15)), some (.int (Int32.ofInt v16))] [] (mz_mk g17 x) Q := by
        intro n19
        induction n19 using Nat.strongRecOn with
        | ind n19 ih18 =>
        intro v15 v16 g17 hmn19 l_v15 u_v15 l_v16 u_v16 hIg17 hfg17 hv21 hF
        obtain ⟨fk, fl, hE⟩ := hF
        obtain ⟨fj22, rfl⟩ : ∃ fj, fk = fj + 1 := ⟨fk - 1, by omega⟩
        have fn23 : n19 ≤ fj22 := by omega
        replace hE := zf_tr hE zL_X12_blendInto_66_s
        refine mm_g 2 (pc1 := 69) (lo1 := [some (.ref 137), some (.ref q1), some (.int (Int32.ofInt a2)), some (.int (Int32.ofInt v15)), some (.int (Int32.ofInt v16))]) (st1 := [.ref 137, .int (Int32.ofInt v16)]) (H1 := mz_mk g17 x) rfl ?_
        refine mz_fgR (v := 142) rfl fd_12_43 (by decide) (sc_137 _) (rf_137_5 _ _ _) ?_
        refine mm_g 1 (pc1 := 73) (lo1 := [some (.ref 137), some (.ref q1), some (.int (Int32.ofInt a2)), some (.int (Int32.ofInt v15)), some (.int (Int32.ofInt v16))]) (st1 := [.ref 137, .ref 142, .int (Int32.ofInt v16)]) (H1 := mz_mk g17 x) rfl ?_
        refine mz_fgR (v := 154) rfl fd_12_80 (by decide) (sc_137 _) (rf_137_27 _ _ _) ?_
        refine mm_g 1 (pc1 := 77) (lo1 := [some (.ref 137), some (.ref q1), some (.int (Int32.ofInt a2)), some (.int (Int32.ofInt v15)), some (.int (Int32.ofInt v16))]) (st1 := [.int (Int32.ofInt a2), .ref 154, .ref 142, .int (Int32.ofInt v16)]) (H1 := mz_mk g17 x) rfl ?_
        refine mz_aI rfl (sh_154 _) (by omega) (by omega) (by decide) hIg17 (ba_154 _) (fun v24 e_v24 l_v24 u_v24 => ?_)
        replace hE := zf_tr hE (zf_le e_v24)
        refine mz_aI rfl (sh_142 _) (by omega) (by omega) (by decide) hIg17 (ba_142 _) (fun v25 e_v25 l_v25 u_v25 => ?_)
        replace hE := zf_tr hE (zf_le e_v25)
        refine mz_ic_ge (tgt := 106) rfl rfl (mz_rg l_v16 u_v16) (mz_rg l_v25 u_v25) (fun c79_25 => ?_) (fun c79_25 => ?_)
        · skip
          replace hE := zf_nl hE c79_25
          refine mm_g 1 (pc1 := 107) (lo1 := [some (.ref 137), some (.ref q1), some (.int (Int32.ofInt a2)), some (.int (Int32.ofInt v15)), some (.int (Int32.ofInt v16))]) (st1 := [.int (Int32.ofInt v15)]) (H1 := mz_mk g17 x) rfl ?_
          exact mm_rt rfl rfl (hQ _ _ hIg17 (fun k j hk => ((hfg17 k j (fun h => hk h)).trans (hfg3 k j (fun h => hk h)))) (by omega) (by omega) hE)
        · skip
          replace hE := zf_ip hE c79_25
          refine mm_g 4 (pc1 := 86) (lo1 := [some (.ref 137), some (.ref q1), some (.int (Int32.ofInt a2)), some (.int (Int32.ofInt v15)), some (.int (Int32.ofInt v16))]) (st1 := [.ref 137, .ref 137, .int (Int32.ofInt v15), .ref q1]) (H1 := mz_mk g17 x) rfl ?_
          refine mz_fgR (v := 154) rfl fd_12_80 (by decide) (sc_137 _) (rf_137_27 _ _ _) ?_
          refine mm_g 1 (pc1 := 90) (lo1 := [some (.ref 137), some (.ref q1), some (.int (Int32.ofInt a2)), some (.int (Int32.ofInt v15)), some (.int (Int32.ofInt v16))]) (st1 := [.int (Int32.ofInt a2), .ref 154, .ref 137, .int (Int32.ofInt v15), .ref q1]) (H1 := mz_mk g17 x) rfl ?_
          refine mz_ia (v := v24) rfl (sh_154 _) (by omega) (by omega) (by decide) e_v24 ?_
          replace hE := zf_tr hE (zf_le e_v24)
          refine mm_g 1 (pc1 := 93) (lo1 := [some (.ref 137), some (.ref q1), some (.int (Int32.ofInt a2)), some (.int (Int32.ofInt v15)), some (.int (Int32.ofInt v16))]) (st1 := [.int (Int32.ofInt v16), .int (Int32.ofInt v24), .ref 137, .int (Int32.ofInt v15), .ref q1]) (H1 := mz_mk g17 x) rfl ?_
          refine mz_cv rfl mt_12_320 (by decide) (sc_137 _) rfl (Nat.le_of_ble_eq_true rfl) (by omega) (f_X12_letterOf (by omega) hx hIg17 l_v24 u_v24 (by omega) (by omega) (fun v26 l_v26 u_v26 hp27 hc28 => ⟨_, rfl, ?_⟩))
          show mm_W d mmX12_blendInto 96 [some (.ref 137), some (.ref q1), some (.int (Int32.ofInt a2)), some (.int (Int32.ofInt v15)), some (.int (Int32.ofInt v16))] [.int (Int32.ofInt v26), .int (Int32.ofInt v15), .ref q1] (mz_mk g17 x) Q
          replace hE := zf_t1 hE hc28
          refine mz_sI rfl h_q1 (by omega) (by omega) (by omega) hIg17 (b_q1 _) (by omega) (by omega) (fun g29 hIg29 hug29 => ?_)
          replace hE := zf_tr hE (zf_lg hug29)
          refine mz_iincR (v := v15) (lo2 := [some (.ref 137), some (.ref q1), some (.int (Int32.ofInt a2)), some (.int (Int32.ofInt (v15 + 1))), some (.int (Int32.ofInt v16))]) rfl rfl rfl (Nat.le_of_ble_eq_true rfl) rfl ?_
          refine mz_iincR (v := v16) (lo2 := [some (.ref 137), some (.ref q1), some (.int (Int32.ofInt a2)), some (.int (Int32.ofInt (v15 + 1))), some (.int (Int32.ofInt (v16 + 1)))]) rfl rfl rfl (Nat.le_of_ble_eq_true rfl) rfl ?_
          refine mz_gt (tgt := 66) rfl rfl ?_
          exact ih18 ((16 - (v15 + 1)).toNat) (by omega) (v15 + 1) (v16 + 1) g29 rfl (by omega) (by omega) (by omega) (by omega) hIg29 (fun k j hk => ((hug29.2 k j (fun h => hk h.1)).trans (hfg17 k j (fun h => hk h)))) (by omega) ⟨fj22, Nat.lt_of_lt_of_le (show ((16 - (v15 + 1)).toNat) < n19 from (by omega)) fn23, hE⟩
      exact L20 _ v1 v14 g3 rfl (by omega) (by omega) (by omega) (by omega) hIg3 (fun _ _ _ => rfl) (by omega) ⟨3000000000, by omega, hE⟩
    · skip
      replace hE := zf_ip hE c29_13
      refine mm_g 4 (pc1 := 36) (lo1 := [some (.ref 137), some (.ref q1), some (.int (Int32.ofInt a2)), some (.int (Int32.ofInt v1)), some (.int (Int32.ofInt v2))]) (st1 := [.ref 137, .ref 137, .int (Int32.ofInt v1), .ref q1]) (H1 := mz_mk g3 x) rfl ?_
      refine mz_fgR (v := 153) rfl fd_12_78 (by decide) (sc_137 _) (rf_137_26 _ _ _) ?_
      refine mm_g 1 (pc1 := 40) (lo1 := [some (.ref 137), some (.ref q1), some (.int (Int32.ofInt a2)), some (.int (Int32.ofInt v1)), some (.int (Int32.ofInt v2))]) (st1 := [.int (Int32.ofInt a2), .ref 153, .ref 137, .int (Int32.ofInt v1), .ref q1]) (H1 := mz_mk g3 x) rfl ?_
      refine mz_ia (v := v10) rfl (sh_153 _) (by omega) (by omega) (by decide) e_v10 ?_
      replace hE := zf_tr hE (zf_le e_v10)
      refine mm_g 1 (pc1 := 43) (lo1 := [some (.ref 137), some (.ref q1), some (.int (Int32.ofInt a2)), some (.int (Int32.ofInt v1)), some (.int (Int32.ofInt v2))]) (st1 := [.int (Int32.ofInt v2), .int (Int32.ofInt v10), .ref 137, .int (Int32.ofInt v1), .ref q1]) (H1 := mz_mk g3 x) rfl ?_
      refine mz_cv rfl mt_12_320 (by decide) (sc_137 _) rfl (Nat.le_of_ble_eq_true rfl) (by omega) (f_X12_letterOf (by omega) hx hIg3 l_v10 u_v10 (by omega) (by omega) (fun v30 l_v30 u_v30 hp31 hc32 => ⟨_, rfl, ?_⟩))
      show mm_W d mmX12_blendInto 46 [some (.ref 137), some (.ref q1), some (.int (Int32.ofInt a2)), some (.int (Int32.ofInt v1)), some (.int (Int32.ofInt v2))] [.int (Int32.ofInt v30), .int (Int32.ofInt v1), .ref q1] (mz_mk g3 x) Q
      replace hE := zf_t1 hE hc32
      refine mz_sI rfl h_q1 (by omega) (by omega) (by omega) hIg3 (b_q1 _) (by omega) (by omega) (fun g33 hIg33 hug33 => ?_)
      replace hE := zf_tr hE (zf_lg hug33)
      refine mz_iincR (v := v1) (lo2 := [some (.ref 137), some (.ref q1), some (.int (Int32.ofInt a2)), some (.int (Int32.ofInt (v1 + 1))), some (.int (Int32.ofInt v2))]) rfl rfl rfl (Nat.le_of_ble_eq_true rfl) rfl ?_
      refine mz_iincR (v := v2) (lo2 := [some (.ref 137), some (.ref q1), some (.int (Int32.ofInt a2)), some (.int (Int32.ofInt (v1 + 1))), some (.int (Int32.ofInt (v2 + 1)))]) rfl rfl rfl (Nat.le_of_ble_eq_true rfl) rfl ?_
      refine mz_gt (tgt := 5) rfl rfl ?_
      exact ih4 ((8 - (v1 + 1)).toNat) (by omega) (v1 + 1) (v2 + 1) g33 rfl (by omega) (by omega) (by omega) (by omega) hIg33 (fun k j hk => ((hug33.2 k j (fun h => hk h.1)).trans (hfg3 k j (fun h => hk h)))) (by omega) ⟨fj8, Nat.lt_of_lt_of_le (show ((8 - (v1 + 1)).toNat) < n5 from (by omega)) fn9, hE⟩
  exact L6 _ 0 0 g rfl (by decide) (by decide) (by decide) (by decide) hI (fun _ _ _ => rfl) (by omega) ⟨3000000000, by omega, hE⟩
