/-! EXACT: the reference (wip/p2/tools/gen50.py) -/
theorem nj_25 : ¬ ((137 : Nat) = 158 ∨ ((137 : Nat) = 137 ∧ (30 : Nat) = 37) ∨ (137 : Nat) = 157 ∨ ((137 : Nat) = 137 ∧ (30 : Nat) = 36)) := (fun h => (Or.elim h (fun h => (absurd (show 137 = 158 from h) (by decide))) (fun h => (Or.elim h (fun h => (absurd (show (137 = 137 ∧ 30 = 37) from h) (by decide))) (fun h => (Or.elim h (fun h => (absurd (show 137 = 157 from h) (by decide))) (fun h => (absurd (show (137 = 137 ∧ 30 = 36) from h) (by decide)))))))))
theorem nj_26 {p1 : Prop} : ¬ ((140 : Nat) = 158 ∨ ((140 : Nat) = 137 ∧ p1) ∨ (140 : Nat) = 159 ∨ (140 : Nat) = 164) := (fun h => (Or.elim h (fun h => (absurd (show 140 = 158 from h) (by decide))) (fun h => (Or.elim h (fun h => (absurd (show 140 = 137 from (h).1) (by decide))) (fun h => (Or.elim h (fun h => (absurd (show 140 = 159 from h) (by decide))) (fun h => (absurd (show 140 = 164 from h) (by decide)))))))))
theorem nj_27 : ¬ ((137 : Nat) = 157 ∨ ((137 : Nat) = 137 ∧ (30 : Nat) = 36) ∨ (137 : Nat) = 158 ∨ ((137 : Nat) = 137 ∧ (30 : Nat) = 37) ∨ (137 : Nat) = 159 ∨ (137 : Nat) = 164 ∨ (137 : Nat) = 165) := (fun h => (Or.elim h (fun h => (absurd (show 137 = 157 from h) (by decide))) (fun h => (Or.elim h (fun h => (absurd (show (137 = 137 ∧ 30 = 36) from h) (by decide))) (fun h => (Or.elim h (fun h => (absurd (show 137 = 158 from h) (by decide))) (fun h => (Or.elim h (fun h => (absurd (show (137 = 137 ∧ 30 = 37) from h) (by decide))) (fun h => (Or.elim h (fun h => (absurd (show 137 = 159 from h) (by decide))) (fun h => (Or.elim h (fun h => (absurd (show 137 = 164 from h) (by decide))) (fun h => (absurd (show 137 = 165 from h) (by decide)))))))))))))))
theorem nj_28 : ¬ ((137 : Nat) = 156 ∨ ((137 : Nat) = 137 ∧ (30 : Nat) = 31)) := (fun h => (Or.elim h (fun h => (absurd (show 137 = 156 from h) (by decide))) (fun h => (absurd (show (137 = 137 ∧ 30 = 31) from h) (by decide)))))
theorem nj_29 {p1 : Prop} : ¬ ((149 : Nat) = 156 ∨ ((149 : Nat) = 137 ∧ p1)) := (fun h => (Or.elim h (fun h => (absurd (show 149 = 156 from h) (by decide))) (fun h => (absurd (show 149 = 137 from (h).1) (by decide)))))
theorem nj_30 {p1 : Prop} : ¬ ((140 : Nat) = 156 ∨ ((140 : Nat) = 137 ∧ p1)) := (fun h => (Or.elim h (fun h => (absurd (show 140 = 156 from h) (by decide))) (fun h => (absurd (show 140 = 137 from (h).1) (by decide)))))
theorem nj_31 {p1 : Prop} : ¬ ((152 : Nat) = 156 ∨ ((152 : Nat) = 137 ∧ p1)) := (fun h => (Or.elim h (fun h => (absurd (show 152 = 156 from h) (by decide))) (fun h => (absurd (show 152 = 137 from (h).1) (by decide)))))
theorem nj_32 : ¬ ((137 : Nat) = 153 ∨ (137 : Nat) = 154 ∨ (137 : Nat) = 152) := (fun h => (Or.elim h (fun h => (absurd (show 137 = 153 from h) (by decide))) (fun h => (Or.elim h (fun h => (absurd (show 137 = 154 from h) (by decide))) (fun h => (absurd (show 137 = 152 from h) (by decide)))))))
theorem sip_1000 : (Int16.ofInt 1000).toInt32 = Int32.ofInt 1000 := by decide
theorem fd_12_66 : mm_tab mm_fldT 12 66 = some (12, 13, 0) ∧ mm_tab mm_ftT 12 13 = some 6 := ⟨rfl, rfl⟩
theorem fd_12_85 : mm_tab mm_fldT 12 85 = some (12, 29, 0) ∧ mm_tab mm_ftT 12 29 = some 6 := ⟨rfl, rfl⟩
theorem fd_12_109 : mm_tab mm_fldT 12 109 = some (12, 42, 0) ∧ mm_tab mm_ftT 12 42 = some 6 := ⟨rfl, rfl⟩
theorem fd_12_112 : mm_tab mm_fldT 12 112 = some (12, 43, 0) ∧ mm_tab mm_ftT 12 43 = some 6 := ⟨rfl, rfl⟩
theorem fd_12_310 : mm_tab mm_fldT 12 310 = some (12, 31, 0) ∧ mm_tab mm_ftT 12 31 = some 0 := ⟨rfl, rfl⟩
theorem fd_12_313 : mm_tab mm_fldT 12 313 = some (12, 32, 0) ∧ mm_tab mm_ftT 12 32 = some 0 := ⟨rfl, rfl⟩
theorem mt_12_294 : mm_tab mm_mthT 12 294 = some (1, 182, 1, 0, 12) := rfl
theorem mt_12_368 : mm_tab mm_mthT 12 368 = some (1, 240, 1, 0, 12) := rfl
theorem mt_12_371 : mm_tab mm_mthT 12 371 = some (1, 239, 0, 0, 12) := rfl
theorem mt_12_374 : mm_tab mm_mthT 12 374 = some (1, 242, 0, 0, 12) := rfl
theorem mt_12_377 : mm_tab mm_mthT 12 377 = some (1, 241, 0, 0, 12) := rfl
theorem mt_12_380 : mm_tab mm_mthT 12 380 = some (1, 186, 1, 0, 12) := rfl
theorem mt_12_385 : mm_tab mm_mthT 12 385 = some (1, 228, 1, 0, 12) := rfl
theorem mt_12_388 : mm_tab mm_mthT 12 388 = some (1, 230, 1, 0, 12) := rfl
theorem mt_12_391 : mm_tab mm_mthT 12 391 = some (1, 187, 1, 0, 12) := rfl
theorem mt_12_394 : mm_tab mm_mthT 12 394 = some (1, 277, 1, 0, 12) := rfl
theorem mt_12_397 : mm_tab mm_mthT 12 397 = some (1, 219, 2, 0, 12) := rfl
theorem mt_12_403 : mm_tab mm_mthT 12 403 = some (1, 247, 1, 0, 12) := rfl
theorem mt_12_406 : mm_tab mm_mthT 12 406 = some (1, 248, 0, 0, 12) := rfl
theorem mt_12_409 : mm_tab mm_mthT 12 409 = some (1, 238, 1, 0, 12) := rfl
theorem mt_12_414 : mm_tab mm_mthT 12 414 = some (1, 252, 1, 0, 12) := rfl
theorem mt_12_424 : mm_tab mm_mthT 12 424 = some (1, 224, 2, 0, 12) := rfl
theorem mt_12_427 : mm_tab mm_mthT 12 427 = some (1, 225, 1, 0, 12) := rfl
theorem mt_12_450 : mm_tab mm_mthT 12 450 = some (0, 184, 2, 0, 12) := rfl
theorem mt_12_470 : mm_tab mm_mthT 12 470 = some (1, 275, 0, 0, 12) := rfl
theorem sh_150 (L : Nat) : mm_SH L 150 = (100, 3) := rfl
theorem sh_156 (L : Nat) : mm_SH L 156 = (100, 1000) := rfl
theorem sh_164 (L : Nat) : mm_SH L 164 = (100, 36) := rfl
theorem sh_165 (L : Nat) : mm_SH L 165 = (100, 64) := rfl
theorem bd_137_31 : mz_bd 137 31 = (0, 40) := rfl
theorem bd_137_32 : mz_bd 137 32 = (0, 8) := rfl
theorem ba_150 (j : Nat) : mz_bd 150 j = ((-2147483648), 2147483647) := rfl
theorem ba_164 (j : Nat) : mz_bd 164 j = ((-2147483648), 2147483647) := rfl
theorem ba_165 (j : Nat) : mz_bd 165 j = ((-2147483648), 2147483647) := rfl
theorem rf_137_13 (a b : Nat) (c : Option Nat) : mm_HR a b c 137 13 = some 150 := rfl
theorem rf_137_29 (a b : Nat) (c : Option Nat) : mm_HR a b c 137 29 = some 156 := rfl
theorem rf_137_42 (a b : Nat) (c : Option Nat) : mm_HR a b c 137 42 = some 164 := rfl
theorem rf_137_43 (a b : Nat) (c : Option Nat) : mm_HR a b c 137 43 = some 165 := rfl
theorem f_X12_allLetters {d : Nat} (hd : 2 ≤ d) {x : mm_X} (hx : mk_x x) {g : mz_G} (hI : mz_inv g) {Q : (Option Value ⊕ Nat) → mm_H → Prop} (hQ : ∀ (r : Int), (-2147483648) ≤ r → r ≤ 2147483647 → zf_E (zF_X12_allLetters g) (r) → Q (.inl (some (.int (Int32.ofInt r)))) (mz_mk g x)) : mm_C d 241 [.ref 137] (mz_mk g x) Q := by
  refine ⟨mmX12_allLetters, [some (.ref 137), none, none], rfl, rfl, ?_⟩
  have hE : zf_E (zF_X12_allLetters g) (zF_X12_allLetters g) := zf_rf
  refine mm_g 4 (pc1 := 4) (lo1 := [some (.ref 137), some (.int (Int32.ofInt 0)), some (.int (Int32.ofInt 0))]) (st1 := []) (H1 := mz_mk g x) rfl ?_
  have L6 : ∀ n5 : Nat, ∀ (v1 : Int) (v2 : Int), (6 - v2).toNat = n5 → (-2147483648) ≤ v1 → v1 ≤ 2147483647 → 0 ≤ v2 → v2 ≤ 6 → (∃ fk : Nat, (6 - v2).toNat < fk ∧ zf_E (zF_X12_allLetters g) (zL_X12_allLetters_4 g fk v1 v2)) → mm_W d mmX12_allLetters 4 [some (.ref 137), some (.int (Int32.ofInt v1)), some (.int (Int32.ofInt v2))] [] (mz_mk g x) Q := by
    intro n5
    induction n5 using Nat.strongRecOn with
    | ind n5 ih4 =>
    intro v1 v2 hmn5 l_v1 u_v1 l_v2 u_v2 hF
    obtain ⟨fk, fl, hE⟩ := hF
    obtain ⟨fj7, rfl⟩ : ∃ fj, fk = fj + 1 := ⟨fk - 1, by omega⟩
    have fn8 : n5 ≤ fj7 := by omega
    replace hE := zf_tr hE zL_X12_allLetters_4_s
    refine mm_g 2 (pc1 := 6) (lo1 := [some (.ref 137), some (.int (Int32.ofInt v1)), some (.int (Int32.ofInt v2))]) (st1 := [.ref 137, .int (Int32.ofInt v2)]) (H1 := mz_mk g x) rfl ?_
    refine mz_fgR (v := 140) rfl fd_12_36 (by decide) (sc_137 _) (rf_137_3 _ _ _) ?_
    refine mm_g 1 (pc1 := 10) (lo1 := [some (.ref 137), some (.int (Int32.ofInt v1)), some (.int (Int32.ofInt v2))]) (st1 := [.int (Int32.ofInt 1), .ref 140, .int (Int32.ofInt v2)]) (H1 := mz_mk g x) rfl ?_
    refine mz_aI rfl (sh_140 _) (by omega) (by omega) (by decide) hI bt_140_1 (fun v9 e_v9 l_v9 u_v9 => ?_)
    have e_v9 : g 140 1 = v9 := e_v9
    replace hE := zf_tr hE (zf_le e_v9)
    refine mz_ic_ge (tgt := 28) rfl rfl (mz_rg l_v2 u_v2) (mz_rg l_v9 u_v9) (fun c11_9 => ?_) (fun c11_9 => ?_)
    · skip
      replace hE := zf_nl hE c11_9
      refine mm_g 1 (pc1 := 29) (lo1 := [some (.ref 137), some (.int (Int32.ofInt v1)), some (.int (Int32.ofInt v2))]) (st1 := [.int (Int32.ofInt v1)]) (H1 := mz_mk g x) rfl ?_
      exact mm_rt rfl rfl (hQ _ (by omega) (by omega) hE)
    · skip
      replace hE := zf_ip hE c11_9
      refine mm_g 3 (pc1 := 17) (lo1 := [some (.ref 137), some (.int (Int32.ofInt v1)), some (.int (Int32.ofInt v2))]) (st1 := [.int (Int32.ofInt v2), .ref 137, .int (Int32.ofInt v1)]) (H1 := mz_mk g x) rfl ?_
      refine mz_cv rfl mt_12_368 (by decide) (sc_137 _) rfl (Nat.le_of_ble_eq_true rfl) (by omega) (f_X12_blendSize (by omega) hx hI (by omega) (by omega) (fun v10 l_v10 u_v10 hc11 => ⟨_, rfl, ?_⟩))
      show mm_W d mmX12_allLetters 20 [some (.ref 137), some (.int (Int32.ofInt v1)), some (.int (Int32.ofInt v2))] [.int (Int32.ofInt v10), .int (Int32.ofInt v1)] (mz_mk g x) Q
      replace hE := zf_t1 hE hc11
      refine mz_iadd_w rfl (fun v12 e_v12 hwv12 => ?_)
      have l_v12 := hwv12.1
      have u_v12 := hwv12.2
      replace hE := zf_tr hE (zf_le e_v12.symm)
      refine mm_g 1 (pc1 := 22) (lo1 := [some (.ref 137), some (.int (Int32.ofInt v12)), some (.int (Int32.ofInt v2))]) (st1 := []) (H1 := mz_mk g x) rfl ?_
      refine mz_iincR (v := v2) (lo2 := [some (.ref 137), some (.int (Int32.ofInt v12)), some (.int (Int32.ofInt (v2 + 1)))]) rfl rfl rfl (Nat.le_of_ble_eq_true rfl) rfl ?_
      refine mz_gt (tgt := 4) rfl rfl ?_
      exact ih4 ((6 - (v2 + 1)).toNat) (by omega) v12 (v2 + 1) rfl (by omega) (by omega) (by omega) (by omega) ⟨fj7, Nat.lt_of_lt_of_le (show ((6 - (v2 + 1)).toNat) < n5 from (by omega)) fn8, hE⟩
  exact L6 _ 0 0 rfl (by decide) (by decide) (by decide) (by decide) ⟨3000000000, by omega, hE⟩
theorem f_X12_treaties {d : Nat} (hd : 1 ≤ d) {x : mm_X} (hx : mk_x x) {g : mz_G} (hI : mz_inv g) {Q : (Option Value ⊕ Nat) → mm_H → Prop} (hQ : ∀ (r : Int), 0 ≤ r → r ≤ 63 → zf_E (zF_X12_treaties g) (r) → Q (.inl (some (.int (Int32.ofInt r)))) (mz_mk g x)) : mm_C d 242 [.ref 137] (mz_mk g x) Q := by
  refine ⟨mmX12_treaties, [some (.ref 137), none, none], rfl, rfl, ?_⟩
  have hE : zf_E (zF_X12_treaties g) (zF_X12_treaties g) := zf_rf
  refine mm_g 4 (pc1 := 4) (lo1 := [some (.ref 137), some (.int (Int32.ofInt 0)), some (.int (Int32.ofInt 0))]) (st1 := []) (H1 := mz_mk g x) rfl ?_
  have L6 : ∀ n5 : Nat, ∀ (v1 : Int) (v2 : Int), (6 - v2).toNat = n5 → 0 ≤ v1 → v1 ≤ 63 → 0 ≤ v2 → v2 ≤ 6 → (∃ fk : Nat, (6 - v2).toNat < fk ∧ zf_E (zF_X12_treaties g) (zL_X12_treaties_4 g fk v1 v2)) → mm_W d mmX12_treaties 4 [some (.ref 137), some (.int (Int32.ofInt v1)), some (.int (Int32.ofInt v2))] [] (mz_mk g x) Q := by
    intro n5
    induction n5 using Nat.strongRecOn with
    | ind n5 ih4 =>
    intro v1 v2 hmn5 l_v1 u_v1 l_v2 u_v2 hF
    obtain ⟨fk, fl, hE⟩ := hF
    obtain ⟨fj7, rfl⟩ : ∃ fj, fk = fj + 1 := ⟨fk - 1, by omega⟩
    have fn8 : n5 ≤ fj7 := by omega
    replace hE := zf_tr hE zL_X12_treaties_4_s
    refine mm_g 2 (pc1 := 6) (lo1 := [some (.ref 137), some (.int (Int32.ofInt v1)), some (.int (Int32.ofInt v2))]) (st1 := [.ref 137, .int (Int32.ofInt v2)]) (H1 := mz_mk g x) rfl ?_
    refine mz_fgR (v := 140) rfl fd_12_36 (by decide) (sc_137 _) (rf_137_3 _ _ _) ?_
    refine mm_g 1 (pc1 := 10) (lo1 := [some (.ref 137), some (.int (Int32.ofInt v1)), some (.int (Int32.ofInt v2))]) (st1 := [.int (Int32.ofInt 1), .ref 140, .int (Int32.ofInt v2)]) (H1 := mz_mk g x) rfl ?_
    refine mz_aI rfl (sh_140 _) (by omega) (by omega) (by decide) hI bt_140_1 (fun v9 e_v9 l_v9 u_v9 => ?_)
    have e_v9 : g 140 1 = v9 := e_v9
    replace hE := zf_tr hE (zf_le e_v9)
    refine mz_ic_ge (tgt := 40) rfl rfl (mz_rg l_v2 u_v2) (mz_rg l_v9 u_v9) (fun c11_9 => ?_) (fun c11_9 => ?_)
    · skip
      replace hE := zf_nl hE c11_9
      refine mm_g 1 (pc1 := 41) (lo1 := [some (.ref 137), some (.int (Int32.ofInt v1)), some (.int (Int32.ofInt v2))]) (st1 := [.int (Int32.ofInt v1)]) (H1 := mz_mk g x) rfl ?_
      exact mm_rt rfl rfl (hQ _ (by omega) (by omega) hE)
    · skip
      replace hE := zf_ip hE c11_9
      refine mm_g 2 (pc1 := 16) (lo1 := [some (.ref 137), some (.int (Int32.ofInt v1)), some (.int (Int32.ofInt v2))]) (st1 := [.ref 137, .int (Int32.ofInt v1)]) (H1 := mz_mk g x) rfl ?_
      refine mz_fgR (v := 144) rfl fd_12_49 (by decide) (sc_137 _) (rf_137_7 _ _ _) ?_
      refine mm_g 1 (pc1 := 20) (lo1 := [some (.ref 137), some (.int (Int32.ofInt v1)), some (.int (Int32.ofInt v2))]) (st1 := [.int (Int32.ofInt v2), .ref 144, .int (Int32.ofInt v1)]) (H1 := mz_mk g x) rfl ?_
      refine mz_aI rfl (sh_144 _) (by omega) (by omega) (by decide) hI (ba_144 _) (fun v10 e_v10 l_v10 u_v10 => ?_)
      replace hE := zf_tr hE (zf_le e_v10)
      refine mm_g 1 (pc1 := 22) (lo1 := [some (.ref 137), some (.int (Int32.ofInt v1)), some (.int (Int32.ofInt v2))]) (st1 := [.int (Int32.ofInt 1), .int (Int32.ofInt v10), .int (Int32.ofInt v1)]) (H1 := mz_mk g x) rfl ?_
      refine mz_ic_ne (tgt := 31) rfl rfl (mz_rg l_v10 u_v10) ⟨by decide, by decide⟩ (fun c22_10 => ?_) (fun c22_10 => ?_)
      · skip
        replace hE := zf_in hE c22_10
        refine mm_g 1 (pc1 := 32) (lo1 := [some (.ref 137), some (.int (Int32.ofInt v1)), some (.int (Int32.ofInt v2))]) (st1 := [.int (Int32.ofInt 0), .int (Int32.ofInt v1)]) (H1 := mz_mk g x) rfl ?_
        refine mz_ior rfl (fun v11 e_v11 hwv11 => ?_)
        have b_v11 : 0 ≤ v11 ∧ v11 ≤ 63 := by rw [e_v11]; exact mz_or_lt (n := 6) (by decide) (by omega) (by omega) (by omega) (by omega)
        have l_v11 := b_v11.1
        have u_v11 := b_v11.2
        replace hE := zf_tr hE (zf_le e_v11.symm)
        refine mm_g 1 (pc1 := 34) (lo1 := [some (.ref 137), some (.int (Int32.ofInt v11)), some (.int (Int32.ofInt v2))]) (st1 := []) (H1 := mz_mk g x) rfl ?_
        refine mz_iincR (v := v2) (lo2 := [some (.ref 137), some (.int (Int32.ofInt v11)), some (.int (Int32.ofInt (v2 + 1)))]) rfl rfl rfl (Nat.le_of_ble_eq_true rfl) rfl ?_
        refine mz_gt (tgt := 4) rfl rfl ?_
        exact ih4 ((6 - (v2 + 1)).toNat) (by omega) v11 (v2 + 1) rfl (by omega) (by omega) (by omega) (by omega) ⟨fj7, Nat.lt_of_lt_of_le (show ((6 - (v2 + 1)).toNat) < n5 from (by omega)) fn8, hE⟩
      · skip
        replace hE := zf_ip hE c22_10
        refine mm_g 2 (pc1 := 27) (lo1 := [some (.ref 137), some (.int (Int32.ofInt v1)), some (.int (Int32.ofInt v2))]) (st1 := [.int (Int32.ofInt v2), .int (Int32.ofInt 1), .int (Int32.ofInt v1)]) (H1 := mz_mk g x) rfl ?_
        refine mz_ishl rfl (fun v12 e_v12 hwv12 => ?_)
        have b_v12 : 1 ≤ v12 ∧ v12 ≤ 32 := by rw [e_v12]; exact mz_shl_b (lx := 1) (hx := 1) (k := 5) (by decide) (by decide) (by omega) (by omega) (by omega) (by omega)
        have l_v12 := b_v12.1
        have u_v12 := b_v12.2
        replace hE := zf_tr hE (zf_le e_v12.symm)
        refine mz_gt (tgt := 32) rfl rfl ?_
        refine mz_ior rfl (fun v13 e_v13 hwv13 => ?_)
        have b_v13 : 0 ≤ v13 ∧ v13 ≤ 63 := by rw [e_v13]; exact mz_or_lt (n := 6) (by decide) (by omega) (by omega) (by omega) (by omega)
        have l_v13 := b_v13.1
        have u_v13 := b_v13.2
        replace hE := zf_tr hE (zf_le e_v13.symm)
        refine mm_g 1 (pc1 := 34) (lo1 := [some (.ref 137), some (.int (Int32.ofInt v13)), some (.int (Int32.ofInt v2))]) (st1 := []) (H1 := mz_mk g x) rfl ?_
        refine mz_iincR (v := v2) (lo2 := [some (.ref 137), some (.int (Int32.ofInt v13)), some (.int (Int32.ofInt (v2 + 1)))]) rfl rfl rfl (Nat.le_of_ble_eq_true rfl) rfl ?_
        refine mz_gt (tgt := 4) rfl rfl ?_
        exact ih4 ((6 - (v2 + 1)).toNat) (by omega) v13 (v2 + 1) rfl (by omega) (by omega) (by omega) (by omega) ⟨fj7, Nat.lt_of_lt_of_le (show ((6 - (v2 + 1)).toNat) < n5 from (by omega)) fn8, hE⟩
  exact L6 _ 0 0 rfl (by decide) (by decide) (by decide) (by decide) ⟨3000000000, by omega, hE⟩
def fw_X12_count (x : mm_X) (a1 : Int) : Nat → Nat → Prop := fun k j => (k = 137 ∧ j = 2)
theorem f_X12_count {d : Nat} (hd : 15 ≤ d) {x : mm_X} (hx : mk_x x) {g : mz_G} (hI : mz_inv g) {a1 : Int} (l_a1 : (-2147483648) ≤ a1) (u_a1 : a1 ≤ 2147483647) (p1 : mz_pv g) (p2 : g 137 30 ≤ 999) {Q : (Option Value ⊕ Nat) → mm_H → Prop} (hQ : ∀ (r : Int) (g1 : mz_G), mz_inv g1 → mz_fr (fw_X12_count x a1) g g1 → (-2147483648) ≤ r → r ≤ 2147483647 → (g1 137 30 ≤ 999) → zf_E (zF_X12_count a1 g) ((r, g1)) → Q (.inl (some (.int (Int32.ofInt r)))) (mz_mk g1 x)) : mm_C d 243 [.ref 137, .int (Int32.ofInt a1)] (mz_mk g x) Q := by
  refine ⟨mmX12_count, [some (.ref 137), some (.int (Int32.ofInt a1))], rfl, rfl, ?_⟩
  have bz0 := mz_rd hI bd_137_30
  have hpv := p1
  have hE : zf_E (zF_X12_count a1 g) (zF_X12_count a1 g) := zf_rf
  refine mm_g 2 (pc1 := 2) (lo1 := [some (.ref 137), some (.int (Int32.ofInt a1))]) (st1 := [.int (Int32.ofInt 0), .ref 137]) (H1 := mz_mk g x) rfl ?_
  refine mz_pI rfl fd_12_154 (sc_137 _) hI bd_137_2 (by omega) (by omega) (fun g1 hIg1 hug1 => ?_)
  replace hE := zf_tr hE (zf_lg hug1)
  refine mm_g 1 (pc1 := 6) (lo1 := [some (.ref 137), some (.int (Int32.ofInt a1))]) (st1 := [.int (Int32.ofInt a1)]) (H1 := mz_mk g1 x) rfl ?_
  by_cases c6_0 : a1 = 0
  · refine mz_tsi (tgt := 72) rfl (mz_rg l_a1 u_a1) (by omega) (by omega) (by rw [c6_0]; rfl) rfl ?_
    replace hE := zf_ip hE c6_0
    refine mm_g 1 (pc1 := 73) (lo1 := [some (.ref 137), some (.int (Int32.ofInt a1))]) (st1 := [.ref 137]) (H1 := mz_mk g1 x) rfl ?_
    refine mz_fgR (v := 140) rfl fd_12_36 (by decide) (sc_137 _) (rf_137_3 _ _ _) ?_
    refine mm_g 1 (pc1 := 77) (lo1 := [some (.ref 137), some (.int (Int32.ofInt a1))]) (st1 := [.int (Int32.ofInt a1), .ref 140]) (H1 := mz_mk g1 x) rfl ?_
    refine mz_aI rfl (sh_140 _) (by omega) (by omega) (by decide) hIg1 (Prod.eta (mz_bd 140 (a1 : Int).toNat)).symm (fun v2 e_v2 l_v2 u_v2 => ?_)
    have t_v2 := told_le (a1 : Int).toNat
    have l0_v2 := l_v2
    have u0_v2 := u_v2
    have l_v2 : 0 ≤ v2 := by omega
    have u_v2 : v2 ≤ 700 := by omega
    replace hE := zf_tr hE (zf_le e_v2)
    exact mm_rt rfl rfl (hQ _ _ hIg1 (fun k j hk => (hug1.2 k j (fun h => hk h))) (by omega) (by omega) (by have h9 := (show g1 137 30 = (g 137 30) from ((hug1.2 137 30 (fun h => absurd h.2 (by decide))).trans rfl)); omega) hE)
  replace hE := zf_in hE c6_0
  by_cases c6_1 : a1 = 1
  · refine mz_tsi (tgt := 72) rfl (mz_rg l_a1 u_a1) (by omega) (by omega) (by rw [c6_1]; rfl) rfl ?_
    replace hE := zf_ip hE c6_1
    refine mm_g 1 (pc1 := 73) (lo1 := [some (.ref 137), some (.int (Int32.ofInt a1))]) (st1 := [.ref 137]) (H1 := mz_mk g1 x) rfl ?_
    refine mz_fgR (v := 140) rfl fd_12_36 (by decide) (sc_137 _) (rf_137_3 _ _ _) ?_
    refine mm_g 1 (pc1 := 77) (lo1 := [some (.ref 137), some (.int (Int32.ofInt a1))]) (st1 := [.int (Int32.ofInt a1), .ref 140]) (H1 := mz_mk g1 x) rfl ?_
    refine mz_aI rfl (sh_140 _) (by omega) (by omega) (by decide) hIg1 (Prod.eta (mz_bd 140 (a1 : Int).toNat)).symm (fun v3 e_v3 l_v3 u_v3 => ?_)
    have t_v3 := told_le (a1 : Int).toNat
    have l0_v3 := l_v3
    have u0_v3 := u_v3
    have l_v3 : 0 ≤ v3 := by omega
    have u_v3 : v3 ≤ 700 := by omega
    replace hE := zf_tr hE (zf_le e_v3)
    exact mm_rt rfl rfl (hQ _ _ hIg1 (fun k j hk => (hug1.2 k j (fun h => hk h))) (by omega) (by omega) (by have h9 := (show g1 137 30 = (g 137 30) from ((hug1.2 137 30 (fun h => absurd h.2 (by decide))).trans rfl)); omega) hE)
  replace hE := zf_in hE c6_1
  by_cases c6_2 : a1 = 2
  · refine mz_tsi (tgt := 79) rfl (mz_rg l_a1 u_a1) (by omega) (by omega) (by rw [c6_2]; rfl) rfl ?_
    replace hE := zf_ip hE c6_2
    refine mm_g 1 (pc1 := 80) (lo1 := [some (.ref 137), some (.int (Int32.ofInt a1))]) (st1 := [.ref 137]) (H1 := mz_mk g1 x) rfl ?_
    refine mz_fgI (v := (g 137 30)) rfl fd_12_307 (by decide) (sc_137 _) (show g1 137 30 = (g 137 30) from ((hug1.2 137 30 (fun h => absurd h.2 (by decide))).trans rfl)) ?_
    replace hE := zf_tr hE (zf_le (show g1 137 30 = (g 137 30) from ((hug1.2 137 30 (fun h => absurd h.2 (by decide))).trans rfl)))
    exact mm_rt rfl rfl (hQ _ _ hIg1 (fun k j hk => (hug1.2 k j (fun h => hk h))) (by omega) (by omega) (by have h9 := (show g1 137 30 = (g 137 30) from ((hug1.2 137 30 (fun h => absurd h.2 (by decide))).trans rfl)); omega) hE)
  replace hE := zf_in hE c6_2
  by_cases c6_3 : a1 = 3
  · refine mz_tsi (tgt := 84) rfl (mz_rg l_a1 u_a1) (by omega) (by omega) (by rw [c6_3]; rfl) rfl ?_
    replace hE := zf_ip hE c6_3
    refine mm_g 2 (pc1 := 86) (lo1 := [some (.ref 137), some (.int (Int32.ofInt a1))]) (st1 := [.ref 137, .ref 137]) (H1 := mz_mk g1 x) rfl ?_
    refine mz_fgI (v := (g 137 30)) rfl fd_12_307 (by decide) (sc_137 _) (show g1 137 30 = (g 137 30) from ((hug1.2 137 30 (fun h => absurd h.2 (by decide))).trans rfl)) ?_
    replace hE := zf_tr hE (zf_le (show g1 137 30 = (g 137 30) from ((hug1.2 137 30 (fun h => absurd h.2 (by decide))).trans rfl)))
    refine mz_cv rfl mt_12_359 (by decide) (sc_137 _) rfl (Nat.le_of_ble_eq_true rfl) (by omega) (f_X12_heatOf (by omega) hx hIg1 (by omega) (by omega) (fun v4 l_v4 u_v4 hc5 => ⟨_, rfl, ?_⟩))
    show mm_W d mmX12_count 92 [some (.ref 137), some (.int (Int32.ofInt a1))] [.int (Int32.ofInt v4)] (mz_mk g1 x) Q
    replace hE := zf_t1 hE hc5
    exact mm_rt rfl rfl (hQ _ _ hIg1 (fun k j hk => (hug1.2 k j (fun h => hk h))) (by omega) (by omega) (by have h9 := (show g1 137 30 = (g 137 30) from ((hug1.2 137 30 (fun h => absurd h.2 (by decide))).trans rfl)); omega) hE)
  replace hE := zf_in hE c6_3
  by_cases c6_4 : a1 = 4
  · refine mz_tsi (tgt := 93) rfl (mz_rg l_a1 u_a1) (by omega) (by omega) (by rw [c6_4]; rfl) rfl ?_
    replace hE := zf_ip hE c6_4
    refine mm_g 1 (pc1 := 94) (lo1 := [some (.ref 137), some (.int (Int32.ofInt a1))]) (st1 := [.ref 137]) (H1 := mz_mk g1 x) rfl ?_
    refine mz_cv rfl mt_12_371 (by decide) (sc_137 _) rfl (Nat.le_of_ble_eq_true rfl) (by omega) (f_X12_fullOnes (by omega) hx hIg1 (fun v6 l_v6 u_v6 hc7 => ⟨_, rfl, ?_⟩))
    show mm_W d mmX12_count 97 [some (.ref 137), some (.int (Int32.ofInt a1))] [.int (Int32.ofInt v6)] (mz_mk g1 x) Q
    replace hE := zf_t1 hE hc7
    exact mm_rt rfl rfl (hQ _ _ hIg1 (fun k j hk => (hug1.2 k j (fun h => hk h))) (by omega) (by omega) (by have h9 := (show g1 137 30 = (g 137 30) from ((hug1.2 137 30 (fun h => absurd h.2 (by decide))).trans rfl)); omega) hE)
  replace hE := zf_in hE c6_4
  by_cases c6_5 : a1 = 5
  · refine mz_tsi (tgt := 98) rfl (mz_rg l_a1 u_a1) (by omega) (by omega) (by rw [c6_5]; rfl) rfl ?_
    replace hE := zf_ip hE c6_5
    refine mm_g 1 (pc1 := 99) (lo1 := [some (.ref 137), some (.int (Int32.ofInt a1))]) (st1 := [.ref 137]) (H1 := mz_mk g1 x) rfl ?_
    refine mz_cv rfl mt_12_374 (by decide) (sc_137 _) rfl (Nat.le_of_ble_eq_true rfl) (by omega) (f_X12_treaties (by omega) hx hIg1 (fun v8 l_v8 u_v8 hc9 => ⟨_, rfl, ?_⟩))
    show mm_W d mmX12_count 102 [some (.ref 137), some (.int (Int32.ofInt a1))] [.int (Int32.ofInt v8)] (mz_mk g1 x) Q
    replace hE := zf_t1 hE hc9
    exact mm_rt rfl rfl (hQ _ _ hIg1 (fun k j hk => (hug1.2 k j (fun h => hk h))) (by omega) (by omega) (by have h9 := (show g1 137 30 = (g 137 30) from ((hug1.2 137 30 (fun h => absurd h.2 (by decide))).trans rfl)); omega) hE)
  replace hE := zf_in hE c6_5
  by_cases c6_6 : a1 = 6
  · refine mz_tsi (tgt := 103) rfl (mz_rg l_a1 u_a1) (by omega) (by omega) (by rw [c6_6]; rfl) rfl ?_
    replace hE := zf_ip hE c6_6
    refine mm_g 1 (pc1 := 104) (lo1 := [some (.ref 137), some (.int (Int32.ofInt a1))]) (st1 := [.ref 137]) (H1 := mz_mk g1 x) rfl ?_
    refine mz_cv rfl mt_12_377 (by decide) (sc_137 _) rfl (Nat.le_of_ble_eq_true rfl) (by omega) (f_X12_allLetters (by omega) hx hIg1 (fun v10 l_v10 u_v10 hc11 => ⟨_, rfl, ?_⟩))
    show mm_W d mmX12_count 107 [some (.ref 137), some (.int (Int32.ofInt a1))] [.int (Int32.ofInt v10)] (mz_mk g1 x) Q
    replace hE := zf_t1 hE hc11
    exact mm_rt rfl rfl (hQ _ _ hIg1 (fun k j hk => (hug1.2 k j (fun h => hk h))) (by omega) (by omega) (by have h9 := (show g1 137 30 = (g 137 30) from ((hug1.2 137 30 (fun h => absurd h.2 (by decide))).trans rfl)); omega) hE)
  replace hE := zf_in hE c6_6
  by_cases c6_7 : a1 = 7
  · refine mz_tsi (tgt := 108) rfl (mz_rg l_a1 u_a1) (by omega) (by omega) (by rw [c6_7]; rfl) rfl ?_
    replace hE := zf_ip hE c6_7
    refine mm_g 1 (pc1 := 109) (lo1 := [some (.ref 137), some (.int (Int32.ofInt a1))]) (st1 := [.ref 137]) (H1 := mz_mk g1 x) rfl ?_
    refine mz_gI rfl fd_12_310 (by decide) (sc_137 _) hIg1 bd_137_31 (fun v12 e_v12 l_v12 u_v12 => ?_)
    replace hE := zf_tr hE (zf_le e_v12)
    exact mm_rt rfl rfl (hQ _ _ hIg1 (fun k j hk => (hug1.2 k j (fun h => hk h))) (by omega) (by omega) (by have h9 := (show g1 137 30 = (g 137 30) from ((hug1.2 137 30 (fun h => absurd h.2 (by decide))).trans rfl)); omega) hE)
  replace hE := zf_in hE c6_7
  by_cases c6_8 : a1 = 8
  · refine mz_tsi (tgt := 113) rfl (mz_rg l_a1 u_a1) (by omega) (by omega) (by rw [c6_8]; rfl) rfl ?_
    replace hE := zf_ip hE c6_8
    refine mm_g 1 (pc1 := 114) (lo1 := [some (.ref 137), some (.int (Int32.ofInt a1))]) (st1 := [.ref 137]) (H1 := mz_mk g1 x) rfl ?_
    refine mz_gI rfl fd_12_313 (by decide) (sc_137 _) hIg1 bd_137_32 (fun v13 e_v13 l_v13 u_v13 => ?_)
    replace hE := zf_tr hE (zf_le e_v13)
    exact mm_rt rfl rfl (hQ _ _ hIg1 (fun k j hk => (hug1.2 k j (fun h => hk h))) (by omega) (by omega) (by have h9 := (show g1 137 30 = (g 137 30) from ((hug1.2 137 30 (fun h => absurd h.2 (by decide))).trans rfl)); omega) hE)
  replace hE := zf_in hE c6_8
  by_cases c6_9 : a1 = 9
  · refine mz_tsi (tgt := 118) rfl (mz_rg l_a1 u_a1) (by omega) (by omega) (by rw [c6_9]; rfl) rfl ?_
    replace hE := zf_ip hE c6_9
    refine mm_g 1 (pc1 := 119) (lo1 := [some (.ref 137), some (.int (Int32.ofInt a1))]) (st1 := [.ref 137]) (H1 := mz_mk g1 x) rfl ?_
    refine mz_gI rfl fd_12_161 (by decide) (sc_137 _) hIg1 bd_137_15 (fun v14 e_v14 l_v14 u_v14 => ?_)
    replace hE := zf_tr hE (zf_le e_v14)
    exact mm_rt rfl rfl (hQ _ _ hIg1 (fun k j hk => (hug1.2 k j (fun h => hk h))) (by omega) (by omega) (by have h9 := (show g1 137 30 = (g 137 30) from ((hug1.2 137 30 (fun h => absurd h.2 (by decide))).trans rfl)); omega) hE)
  replace hE := zf_in hE c6_9
  by_cases c6_10 : a1 = 10
  · refine mz_tsi (tgt := 123) rfl (mz_rg l_a1 u_a1) (by omega) (by omega) (by rw [c6_10]; rfl) rfl ?_
    replace hE := zf_ip hE c6_10
    refine mm_g 1 (pc1 := 124) (lo1 := [some (.ref 137), some (.int (Int32.ofInt a1))]) (st1 := [.ref 137]) (H1 := mz_mk g1 x) rfl ?_
    refine mz_fgR (v := 150) rfl fd_12_66 (by decide) (sc_137 _) (rf_137_13 _ _ _) ?_
    refine mm_g 1 (pc1 := 128) (lo1 := [some (.ref 137), some (.int (Int32.ofInt a1))]) (st1 := [.int (Int32.ofInt a1), .ref 150]) (H1 := mz_mk g1 x) rfl ?_
    refine mz_bip rfl bip_10 ?_
    refine mz_isub rfl ?_
    refine mz_aI rfl (sh_150 _) (by omega) (by omega) (by decide) hIg1 (ba_150 _) (fun v15 e_v15 l_v15 u_v15 => ?_)
    replace hE := zf_tr hE (zf_le e_v15)
    exact mm_rt rfl rfl (hQ _ _ hIg1 (fun k j hk => (hug1.2 k j (fun h => hk h))) (by omega) (by omega) (by have h9 := (show g1 137 30 = (g 137 30) from ((hug1.2 137 30 (fun h => absurd h.2 (by decide))).trans rfl)); omega) hE)
  replace hE := zf_in hE c6_10
  by_cases c6_11 : a1 = 11
  · refine mz_tsi (tgt := 123) rfl (mz_rg l_a1 u_a1) (by omega) (by omega) (by rw [c6_11]; rfl) rfl ?_
    replace hE := zf_ip hE c6_11
    refine mm_g 1 (pc1 := 124) (lo1 := [some (.ref 137), some (.int (Int32.ofInt a1))]) (st1 := [.ref 137]) (H1 := mz_mk g1 x) rfl ?_
    refine mz_fgR (v := 150) rfl fd_12_66 (by decide) (sc_137 _) (rf_137_13 _ _ _) ?_
    refine mm_g 1 (pc1 := 128) (lo1 := [some (.ref 137), some (.int (Int32.ofInt a1))]) (st1 := [.int (Int32.ofInt a1), .ref 150]) (H1 := mz_mk g1 x) rfl ?_
    refine mz_bip rfl bip_10 ?_
    refine mz_isub rfl ?_
    refine mz_aI rfl (sh_150 _) (by omega) (by omega) (by decide) hIg1 (ba_150 _) (fun v16 e_v16 l_v16 u_v16 => ?_)
    replace hE := zf_tr hE (zf_le e_v16)
    exact mm_rt rfl rfl (hQ _ _ hIg1 (fun k j hk => (hug1.2 k j (fun h => hk h))) (by omega) (by omega) (by have h9 := (show g1 137 30 = (g 137 30) from ((hug1.2 137 30 (fun h => absurd h.2 (by decide))).trans rfl)); omega) hE)
  replace hE := zf_in hE c6_11
  by_cases c6_12 : a1 = 12
  · refine mz_tsi (tgt := 123) rfl (mz_rg l_a1 u_a1) (by omega) (by omega) (by rw [c6_12]; rfl) rfl ?_
    replace hE := zf_ip hE c6_12
    refine mm_g 1 (pc1 := 124) (lo1 := [some (.ref 137), some (.int (Int32.ofInt a1))]) (st1 := [.ref 137]) (H1 := mz_mk g1 x) rfl ?_
    refine mz_fgR (v := 150) rfl fd_12_66 (by decide) (sc_137 _) (rf_137_13 _ _ _) ?_
    refine mm_g 1 (pc1 := 128) (lo1 := [some (.ref 137), some (.int (Int32.ofInt a1))]) (st1 := [.int (Int32.ofInt a1), .ref 150]) (H1 := mz_mk g1 x) rfl ?_
    refine mz_bip rfl bip_10 ?_
    refine mz_isub rfl ?_
    refine mz_aI rfl (sh_150 _) (by omega) (by omega) (by decide) hIg1 (ba_150 _) (fun v17 e_v17 l_v17 u_v17 => ?_)
    replace hE := zf_tr hE (zf_le e_v17)
    exact mm_rt rfl rfl (hQ _ _ hIg1 (fun k j hk => (hug1.2 k j (fun h => hk h))) (by omega) (by omega) (by have h9 := (show g1 137 30 = (g 137 30) from ((hug1.2 137 30 (fun h => absurd h.2 (by decide))).trans rfl)); omega) hE)
  replace hE := zf_in hE c6_12
  refine mz_tso (tgt := 133) rfl (mz_rg l_a1 u_a1) (by omega) rfl ?_
  refine mm_g 2 (pc1 := 135) (lo1 := [some (.ref 137), some (.int (Int32.ofInt a1))]) (st1 := [.int (Int32.ofInt 1), .ref 137]) (H1 := mz_mk g1 x) rfl ?_
  refine mz_cv rfl mt_12_294 (by decide) (sc_137 _) rfl (Nat.le_of_ble_eq_true rfl) (by omega) (f_X12_fail (by omega) hx hIg1 (by decide) (by decide) (fun v18 g19 hIg19 hfg19 l_v18 u_v18 hc20 => ⟨_, rfl, ?_⟩))
  show mm_W d mmX12_count 138 [some (.ref 137), some (.int (Int32.ofInt a1))] [.int (Int32.ofInt v18)] (mz_mk g19 x) Q
  replace hE := zf_t2 hE hc20
  exact mm_rt rfl rfl (hQ _ _ hIg19 (fun k j hk => ((hfg19 k j (fun h => hk h)).trans (hug1.2 k j (fun h => hk h)))) (by omega) (by omega) (by have h9 := (show g19 137 30 = (g 137 30) from ((hfg19 137 30 (fun h => (absurd (show (137 = 137 ∧ 30 = 2) from h) (by decide)))).trans ((hug1.2 137 30 (fun h => absurd h.2 (by decide))).trans rfl))); omega) hE)
def fw_X12_word (x : mm_X) (a1 : Int) (a2 : Int) : Nat → Nat → Prop := fun k j => (k = 137 ∧ j = 2) ∨ k = 158 ∨ (k = 137 ∧ j = 37) ∨ k = 157 ∨ (k = 137 ∧ j = 36)
theorem f_X12_word {d : Nat} (hd : 4 ≤ d) {x : mm_X} (hx : mk_x x) {g : mz_G} (hI : mz_inv g) {a1 : Int} (l_a1 : (-2147483648) ≤ a1) (u_a1 : a1 ≤ 2147483647) {a2 : Int} (l_a2 : (-2147483648) ≤ a2) (u_a2 : a2 ≤ 2147483647) (p1 : mz_pv g) (p2 : g 137 30 ≤ 999) {Q : (Option Value ⊕ Nat) → mm_H → Prop} (hQ : ∀ (r : Int) (g1 : mz_G), mz_inv g1 → mz_fr (fw_X12_word x a1 a2) g g1 → (-2147483648) ≤ r → r ≤ 2147483647 → (g1 137 30 ≤ 999) → zf_E (zF_X12_word a1 a2 g) ((r, g1)) → Q (.inl (some (.int (Int32.ofInt r)))) (mz_mk g1 x)) : mm_C d 244 [.ref 137, .int (Int32.ofInt a1), .int (Int32.ofInt a2)] (mz_mk g x) Q := by
  refine ⟨mmX12_word, [some (.ref 137), some (.int (Int32.ofInt a1)), some (.int (Int32.ofInt a2)), none, none], rfl, rfl, ?_⟩
  have bz0 := mz_rd hI bd_137_30
  have hpv := p1
  have hE : zf_E (zF_X12_word a1 a2 g) (zF_X12_word a1 a2 g) := zf_rf
  refine mm_g 2 (pc1 := 2) (lo1 := [some (.ref 137), some (.int (Int32.ofInt a1)), some (.int (Int32.ofInt a2)), none, none]) (st1 := [.int (Int32.ofInt 0), .ref 137]) (H1 := mz_mk g x) rfl ?_
  refine mz_pI rfl fd_12_154 (sc_137 _) hI bd_137_2 (by omega) (by omega) (fun g1 hIg1 hug1 => ?_)
  replace hE := zf_tr hE (zf_lg hug1)
  refine mm_g 2 (pc1 := 7) (lo1 := [some (.ref 137), some (.int (Int32.ofInt a1)), some (.int (Int32.ofInt a2)), none, none]) (st1 := [.int (Int32.ofInt a1), .ref 137]) (H1 := mz_mk g1 x) rfl ?_
  refine mz_cv rfl mt_12_380 (by decide) (sc_137 _) rfl (Nat.le_of_ble_eq_true rfl) (by omega) (f_X12_isWord (by omega) hx hIg1 l_a1 u_a1 (fun v2 l_v2 u_v2 hp3 hp4 hc5 => ⟨_, rfl, ?_⟩))
  show mm_W d mmX12_word 10 [some (.ref 137), some (.int (Int32.ofInt a1)), some (.int (Int32.ofInt a2)), none, none] [.int (Int32.ofInt v2)] (mz_mk g1 x) Q
  replace hE := zf_t1 hE hc5
  refine mz_if_eq (tgt := 25) rfl rfl (mz_rg l_v2 u_v2) (fun c10_5 => ?_) (fun c10_5 => ?_)
  · skip
    replace hE := zf_ip hE c10_5
    refine mm_g 2 (pc1 := 27) (lo1 := [some (.ref 137), some (.int (Int32.ofInt a1)), some (.int (Int32.ofInt a2)), none, none]) (st1 := [.int (Int32.ofInt 1), .ref 137]) (H1 := mz_mk g1 x) rfl ?_
    refine mz_cv rfl mt_12_294 (by decide) (sc_137 _) rfl (Nat.le_of_ble_eq_true rfl) (by omega) (f_X12_fail (by omega) hx hIg1 (by decide) (by decide) (fun v6 g7 hIg7 hfg7 l_v6 u_v6 hc8 => ⟨_, rfl, ?_⟩))
    show mm_W d mmX12_word 30 [some (.ref 137), some (.int (Int32.ofInt a1)), some (.int (Int32.ofInt a2)), none, none] [.int (Int32.ofInt v6)] (mz_mk g7 x) Q
    replace hE := zf_t2 hE hc8
    exact mm_rt rfl rfl (hQ _ _ hIg7 (fun k j hk => ((hfg7 k j (fun h => hk (Or.inl h))).trans (hug1.2 k j (fun h => hk (Or.inl h))))) (by omega) (by omega) (by have h9 := (show g7 137 30 = (g 137 30) from ((hfg7 137 30 (fun h => (absurd (show (137 = 137 ∧ 30 = 2) from h) (by decide)))).trans ((hug1.2 137 30 (fun h => absurd h.2 (by decide))).trans rfl))); omega) hE)
  · skip
    replace hE := zf_in hE c10_5
    refine mm_g 1 (pc1 := 14) (lo1 := [some (.ref 137), some (.int (Int32.ofInt a1)), some (.int (Int32.ofInt a2)), none, none]) (st1 := [.int (Int32.ofInt a2)]) (H1 := mz_mk g1 x) rfl ?_
    refine mz_i2l rfl (mz_rg l_a2 u_a2) ?_
    refine mz_lcst (c := 0) rfl rfl ?_
    refine mz_l2w (c := 4) rfl rfl rfl ?_
    refine mz_cs rfl mt_12_157 (by decide) rfl (Nat.le_of_ble_eq_true rfl) (by omega) (f_X12_isIn (by omega) hx hIg1 (by omega) (by omega) (by omega) (by omega) (by omega) (by omega) (fun v9 l_v9 u_v9 hp10 hc11 => ⟨_, rfl, ?_⟩))
    show mm_W d mmX12_word 22 [some (.ref 137), some (.int (Int32.ofInt a1)), some (.int (Int32.ofInt a2)), none, none] [.int (Int32.ofInt v9)] (mz_mk g1 x) Q
    replace hE := zf_t1 hE hc11
    refine mz_if_ne (tgt := 31) rfl rfl (mz_rg l_v9 u_v9) (fun c22_11 => ?_) (fun c22_11 => ?_)
    · skip
      replace hE := zf_in hE c22_11
      refine mm_g 2 (pc1 := 33) (lo1 := [some (.ref 137), some (.int (Int32.ofInt a1)), some (.int (Int32.ofInt a2)), none, none]) (st1 := [.int (Int32.ofInt 2), .int (Int32.ofInt a2)]) (H1 := mz_mk g1 x) rfl ?_
      refine mz_ic_ge (tgt := 56) rfl rfl (mz_rg l_a2 u_a2) ⟨by decide, by decide⟩ (fun c33_11 => ?_) (fun c33_11 => ?_)
      · skip
        replace hE := zf_nl hE c33_11
        refine mm_g 4 (pc1 := 61) (lo1 := [some (.ref 137), some (.int (Int32.ofInt a1)), some (.int (Int32.ofInt a2)), some (.int (Int32.ofInt 0)), some (.int (Int32.ofInt 0))]) (st1 := []) (H1 := mz_mk g1 x) rfl ?_
        have L17 : ∀ n16 : Nat, ∀ (v12 : Int) (v13 : Int), (6 - v13).toNat = n16 → 0 ≤ v12 → v12 ≤ 63 → 0 ≤ v13 → v13 ≤ 6 → (∃ fk : Nat, (6 - v13).toNat < fk ∧ zf_E (zF_X12_word a1 a2 g) (zL_X12_word_61 a1 a2 g1 fk v12 v13)) → mm_W d mmX12_word 61 [some (.ref 137), some (.int (Int32.ofInt a1)), some (.int (Int32.ofInt a2)), some (.int (Int32.ofInt v12)), some (.int (Int32.ofInt v13))] [] (mz_mk g1 x) Q := by
          intro n16
          induction n16 using Nat.strongRecOn with
          | ind n16 ih15 =>
          intro v12 v13 hmn16 l_v12 u_v12 l_v13 u_v13 hF
          obtain ⟨fk, fl, hE⟩ := hF
          obtain ⟨fj18, rfl⟩ : ∃ fj, fk = fj + 1 := ⟨fk - 1, by omega⟩
          have fn19 : n16 ≤ fj18 := by omega
          replace hE := zf_tr hE zL_X12_word_61_s
          refine mm_g 2 (pc1 := 64) (lo1 := [some (.ref 137), some (.int (Int32.ofInt a1)), some (.int (Int32.ofInt a2)), some (.int (Int32.ofInt v12)), some (.int (Int32.ofInt v13))]) (st1 := [.ref 137, .int (Int32.ofInt v13)]) (H1 := mz_mk g1 x) rfl ?_
          refine mz_fgR (v := 140) rfl fd_12_36 (by decide) (sc_137 _) (rf_137_3 _ _ _) ?_
          refine mm_g 1 (pc1 := 68) (lo1 := [some (.ref 137), some (.int (Int32.ofInt a1)), some (.int (Int32.ofInt a2)), some (.int (Int32.ofInt v12)), some (.int (Int32.ofInt v13))]) (st1 := [.int (Int32.ofInt 1), .ref 140, .int (Int32.ofInt v13)]) (H1 := mz_mk g1 x) rfl ?_
          refine mz_aI rfl (sh_140 _) (by omega) (by omega) (by decide) hIg1 bt_140_1 (fun v20 e_v20 l_v20 u_v20 => ?_)
          have e_v20 : g1 140 1 = v20 := e_v20
          replace hE := zf_tr hE (zf_le e_v20)
          refine mz_ic_ge (tgt := 111) rfl rfl (mz_rg l_v13 u_v13) (mz_rg l_v20 u_v20) (fun c69_20 => ?_) (fun c69_20 => ?_)
          · skip
            replace hE := zf_nl hE c69_20
            refine mm_g 2 (pc1 := 113) (lo1 := [some (.ref 137), some (.int (Int32.ofInt a1)), some (.int (Int32.ofInt a2)), some (.int (Int32.ofInt v12)), some (.int (Int32.ofInt v13))]) (st1 := [.int (Int32.ofInt 2), .int (Int32.ofInt a2)]) (H1 := mz_mk g1 x) rfl ?_
            refine mz_ic_ne (tgt := 124) rfl rfl (mz_rg l_a2 u_a2) ⟨by decide, by decide⟩ (fun c113_20 => ?_) (fun c113_20 => ?_)
            · skip
              replace hE := zf_in hE c113_20
              refine mm_g 2 (pc1 := 126) (lo1 := [some (.ref 137), some (.int (Int32.ofInt a1)), some (.int (Int32.ofInt a2)), some (.int (Int32.ofInt v12)), some (.int (Int32.ofInt v13))]) (st1 := [.int (Int32.ofInt 3), .int (Int32.ofInt a2)]) (H1 := mz_mk g1 x) rfl ?_
              refine mz_ic_ne (tgt := 137) rfl rfl (mz_rg l_a2 u_a2) ⟨by decide, by decide⟩ (fun c126_20 => ?_) (fun c126_20 => ?_)
              · skip
                replace hE := zf_in hE c126_20
                refine mm_g 1 (pc1 := 138) (lo1 := [some (.ref 137), some (.int (Int32.ofInt a1)), some (.int (Int32.ofInt a2)), some (.int (Int32.ofInt v12)), some (.int (Int32.ofInt v13))]) (st1 := [.int (Int32.ofInt v12)]) (H1 := mz_mk g1 x) rfl ?_
                exact mm_rt rfl rfl (hQ _ _ hIg1 (fun k j hk => (hug1.2 k j (fun h => hk (Or.inl h)))) (by omega) (by omega) (by have h9 := (show g1 137 30 = (g 137 30) from ((hug1.2 137 30 (fun h => absurd h.2 (by decide))).trans rfl)); omega) hE)
              · skip
                replace hE := zf_ip hE c126_20
                refine mm_g 2 (pc1 := 131) (lo1 := [some (.ref 137), some (.int (Int32.ofInt a1)), some (.int (Int32.ofInt a2)), some (.int (Int32.ofInt v12)), some (.int (Int32.ofInt v13))]) (st1 := [.int (Int32.ofInt a1), .ref 137]) (H1 := mz_mk g1 x) rfl ?_
                refine mz_cv rfl mt_12_388 (by decide) (sc_137 _) rfl (Nat.le_of_ble_eq_true rfl) (by omega) (f_X12_anagramsOf (by omega) hx hIg1 (by omega) (by omega) (fun v21 l_v21 u_v21 hc22 => ⟨_, rfl, ?_⟩))
                show mm_W d mmX12_word 134 [some (.ref 137), some (.int (Int32.ofInt a1)), some (.int (Int32.ofInt a2)), some (.int (Int32.ofInt v12)), some (.int (Int32.ofInt v13))] [.int (Int32.ofInt v21)] (mz_mk g1 x) Q
                replace hE := zf_t1 hE hc22
                refine mz_gt (tgt := 138) rfl rfl ?_
                exact mm_rt rfl rfl (hQ _ _ hIg1 (fun k j hk => (hug1.2 k j (fun h => hk (Or.inl h)))) (by omega) (by omega) (by have h9 := (show g1 137 30 = (g 137 30) from ((hug1.2 137 30 (fun h => absurd h.2 (by decide))).trans rfl)); omega) hE)
            · skip
              replace hE := zf_ip hE c113_20
              refine mm_g 2 (pc1 := 118) (lo1 := [some (.ref 137), some (.int (Int32.ofInt a1)), some (.int (Int32.ofInt a2)), some (.int (Int32.ofInt v12)), some (.int (Int32.ofInt v13))]) (st1 := [.int (Int32.ofInt a1), .ref 137]) (H1 := mz_mk g1 x) rfl ?_
              refine mz_cv rfl mt_12_385 (by decide) (sc_137 _) rfl (Nat.le_of_ble_eq_true rfl) (by omega) (f_X12_withinOf (by omega) hx hIg1 (by omega) (by omega) (fun v23 g24 hIg24 hfg24 l_v23 u_v23 hc25 => ⟨_, rfl, ?_⟩))
              show mm_W d mmX12_word 121 [some (.ref 137), some (.int (Int32.ofInt a1)), some (.int (Int32.ofInt a2)), some (.int (Int32.ofInt v12)), some (.int (Int32.ofInt v13))] [.int (Int32.ofInt v23)] (mz_mk g24 x) Q
              replace hE := zf_t2 hE hc25
              refine mz_gt (tgt := 138) rfl rfl ?_
              exact mm_rt rfl rfl (hQ _ _ hIg24 (fun k j hk => ((hfg24 k j (fun h => hk (Or.elim h (fun h => (Or.inr (Or.inl h))) (fun h => (Or.elim h (fun h => (Or.inr (Or.inr (Or.inl h)))) (fun h => (Or.elim h (fun h => (Or.inr (Or.inr (Or.inr (Or.inl h))))) (fun h => (Or.inr (Or.inr (Or.inr (Or.inr h)))))))))))).trans (hug1.2 k j (fun h => hk (Or.inl h))))) (by omega) (by omega) (by have h9 := (show g24 137 30 = (g 137 30) from ((hfg24 137 30 nj_25).trans ((hug1.2 137 30 (fun h => absurd h.2 (by decide))).trans rfl))); omega) hE)
          · skip
            replace hE := zf_ip hE c69_20
            refine mm_g 2 (pc1 := 74) (lo1 := [some (.ref 137), some (.int (Int32.ofInt a1)), some (.int (Int32.ofInt a2)), some (.int (Int32.ofInt v12)), some (.int (Int32.ofInt v13))]) (st1 := [.ref 137, .int (Int32.ofInt v12)]) (H1 := mz_mk g1 x) rfl ?_
            refine mz_fgR (v := 153) rfl fd_12_78 (by decide) (sc_137 _) (rf_137_26 _ _ _) ?_
            refine mm_g 1 (pc1 := 79) (lo1 := [some (.ref 137), some (.int (Int32.ofInt a1)), some (.int (Int32.ofInt a2)), some (.int (Int32.ofInt v12)), some (.int (Int32.ofInt v13))]) (st1 := [.int (Int32.ofInt v13), .ref 153, .int (Int32.ofInt v12)]) (H1 := mz_mk g1 x) rfl ?_
            refine mz_aI rfl (sh_153 _) (by omega) (by omega) (by decide) hIg1 (ba_153 _) (fun v26 e_v26 l_v26 u_v26 => ?_)
            replace hE := zf_tr hE (zf_le e_v26)
            refine mm_g 1 (pc1 := 81) (lo1 := [some (.ref 137), some (.int (Int32.ofInt a1)), some (.int (Int32.ofInt a2)), some (.int (Int32.ofInt v12)), some (.int (Int32.ofInt v13))]) (st1 := [.int (Int32.ofInt a1), .int (Int32.ofInt v26), .int (Int32.ofInt v12)]) (H1 := mz_mk g1 x) rfl ?_
            refine mz_ic_eq (tgt := 95) rfl rfl (mz_rg l_v26 u_v26) (mz_rg l_a1 u_a1) (fun c81_26 => ?_) (fun c81_26 => ?_)
            · skip
              replace hE := zf_ip hE c81_26
              refine mm_g 2 (pc1 := 98) (lo1 := [some (.ref 137), some (.int (Int32.ofInt a1)), some (.int (Int32.ofInt a2)), some (.int (Int32.ofInt v12)), some (.int (Int32.ofInt v13))]) (st1 := [.int (Int32.ofInt v13), .int (Int32.ofInt 1), .int (Int32.ofInt v12)]) (H1 := mz_mk g1 x) rfl ?_
              refine mz_ishl rfl (fun v27 e_v27 hwv27 => ?_)
              have b_v27 : 1 ≤ v27 ∧ v27 ≤ 32 := by rw [e_v27]; exact mz_shl_b (lx := 1) (hx := 1) (k := 5) (by decide) (by decide) (by omega) (by omega) (by omega) (by omega)
              have l_v27 := b_v27.1
              have u_v27 := b_v27.2
              replace hE := zf_tr hE (zf_le e_v27.symm)
              refine mz_gt (tgt := 103) rfl rfl ?_
              refine mz_ior rfl (fun v28 e_v28 hwv28 => ?_)
              have b_v28 : 0 ≤ v28 ∧ v28 ≤ 63 := by rw [e_v28]; exact mz_or_lt (n := 6) (by decide) (by omega) (by omega) (by omega) (by omega)
              have l_v28 := b_v28.1
              have u_v28 := b_v28.2
              replace hE := zf_tr hE (zf_le e_v28.symm)
              refine mm_g 1 (pc1 := 105) (lo1 := [some (.ref 137), some (.int (Int32.ofInt a1)), some (.int (Int32.ofInt a2)), some (.int (Int32.ofInt v28)), some (.int (Int32.ofInt v13))]) (st1 := []) (H1 := mz_mk g1 x) rfl ?_
              refine mz_iincR (v := v13) (lo2 := [some (.ref 137), some (.int (Int32.ofInt a1)), some (.int (Int32.ofInt a2)), some (.int (Int32.ofInt v28)), some (.int (Int32.ofInt (v13 + 1)))]) rfl rfl rfl (Nat.le_of_ble_eq_true rfl) rfl ?_
              refine mz_gt (tgt := 61) rfl rfl ?_
              exact ih15 ((6 - (v13 + 1)).toNat) (by omega) v28 (v13 + 1) rfl (by omega) (by omega) (by omega) (by omega) ⟨fj18, Nat.lt_of_lt_of_le (show ((6 - (v13 + 1)).toNat) < n16 from (by omega)) fn19, hE⟩
            · skip
              replace hE := zf_in hE c81_26
              refine mm_g 1 (pc1 := 85) (lo1 := [some (.ref 137), some (.int (Int32.ofInt a1)), some (.int (Int32.ofInt a2)), some (.int (Int32.ofInt v12)), some (.int (Int32.ofInt v13))]) (st1 := [.ref 137, .int (Int32.ofInt v12)]) (H1 := mz_mk g1 x) rfl ?_
              refine mz_fgR (v := 154) rfl fd_12_80 (by decide) (sc_137 _) (rf_137_27 _ _ _) ?_
              refine mm_g 1 (pc1 := 90) (lo1 := [some (.ref 137), some (.int (Int32.ofInt a1)), some (.int (Int32.ofInt a2)), some (.int (Int32.ofInt v12)), some (.int (Int32.ofInt v13))]) (st1 := [.int (Int32.ofInt v13), .ref 154, .int (Int32.ofInt v12)]) (H1 := mz_mk g1 x) rfl ?_
              refine mz_aI rfl (sh_154 _) (by omega) (by omega) (by decide) hIg1 (ba_154 _) (fun v29 e_v29 l_v29 u_v29 => ?_)
              replace hE := zf_tr hE (zf_le e_v29)
              refine mm_g 1 (pc1 := 92) (lo1 := [some (.ref 137), some (.int (Int32.ofInt a1)), some (.int (Int32.ofInt a2)), some (.int (Int32.ofInt v12)), some (.int (Int32.ofInt v13))]) (st1 := [.int (Int32.ofInt a1), .int (Int32.ofInt v29), .int (Int32.ofInt v12)]) (H1 := mz_mk g1 x) rfl ?_
              refine mz_ic_ne (tgt := 102) rfl rfl (mz_rg l_v29 u_v29) (mz_rg l_a1 u_a1) (fun c92_29 => ?_) (fun c92_29 => ?_)
              · skip
                replace hE := zf_in hE c92_29
                refine mm_g 1 (pc1 := 103) (lo1 := [some (.ref 137), some (.int (Int32.ofInt a1)), some (.int (Int32.ofInt a2)), some (.int (Int32.ofInt v12)), some (.int (Int32.ofInt v13))]) (st1 := [.int (Int32.ofInt 0), .int (Int32.ofInt v12)]) (H1 := mz_mk g1 x) rfl ?_
                refine mz_ior rfl (fun v30 e_v30 hwv30 => ?_)
                have b_v30 : 0 ≤ v30 ∧ v30 ≤ 63 := by rw [e_v30]; exact mz_or_lt (n := 6) (by decide) (by omega) (by omega) (by omega) (by omega)
                have l_v30 := b_v30.1
                have u_v30 := b_v30.2
                replace hE := zf_tr hE (zf_le e_v30.symm)
                refine mm_g 1 (pc1 := 105) (lo1 := [some (.ref 137), some (.int (Int32.ofInt a1)), some (.int (Int32.ofInt a2)), some (.int (Int32.ofInt v30)), some (.int (Int32.ofInt v13))]) (st1 := []) (H1 := mz_mk g1 x) rfl ?_
                refine mz_iincR (v := v13) (lo2 := [some (.ref 137), some (.int (Int32.ofInt a1)), some (.int (Int32.ofInt a2)), some (.int (Int32.ofInt v30)), some (.int (Int32.ofInt (v13 + 1)))]) rfl rfl rfl (Nat.le_of_ble_eq_true rfl) rfl ?_
                refine mz_gt (tgt := 61) rfl rfl ?_
                exact ih15 ((6 - (v13 + 1)).toNat) (by omega) v30 (v13 + 1) rfl (by omega) (by omega) (by omega) (by omega) ⟨fj18, Nat.lt_of_lt_of_le (show ((6 - (v13 + 1)).toNat) < n16 from (by omega)) fn19, hE⟩
              · skip
                replace hE := zf_ip hE c92_29
                refine mm_g 2 (pc1 := 98) (lo1 := [some (.ref 137), some (.int (Int32.ofInt a1)), some (.int (Int32.ofInt a2)), some (.int (Int32.ofInt v12)), some (.int (Int32.ofInt v13))]) (st1 := [.int (Int32.ofInt v13), .int (Int32.ofInt 1), .int (Int32.ofInt v12)]) (H1 := mz_mk g1 x) rfl ?_
                refine mz_ishl rfl (fun v31 e_v31 hwv31 => ?_)
                have b_v31 : 1 ≤ v31 ∧ v31 ≤ 32 := by rw [e_v31]; exact mz_shl_b (lx := 1) (hx := 1) (k := 5) (by decide) (by decide) (by omega) (by omega) (by omega) (by omega)
                have l_v31 := b_v31.1
                have u_v31 := b_v31.2
                replace hE := zf_tr hE (zf_le e_v31.symm)
                refine mz_gt (tgt := 103) rfl rfl ?_
                refine mz_ior rfl (fun v32 e_v32 hwv32 => ?_)
                have b_v32 : 0 ≤ v32 ∧ v32 ≤ 63 := by rw [e_v32]; exact mz_or_lt (n := 6) (by decide) (by omega) (by omega) (by omega) (by omega)
                have l_v32 := b_v32.1
                have u_v32 := b_v32.2
                replace hE := zf_tr hE (zf_le e_v32.symm)
                refine mm_g 1 (pc1 := 105) (lo1 := [some (.ref 137), some (.int (Int32.ofInt a1)), some (.int (Int32.ofInt a2)), some (.int (Int32.ofInt v32)), some (.int (Int32.ofInt v13))]) (st1 := []) (H1 := mz_mk g1 x) rfl ?_
                refine mz_iincR (v := v13) (lo2 := [some (.ref 137), some (.int (Int32.ofInt a1)), some (.int (Int32.ofInt a2)), some (.int (Int32.ofInt v32)), some (.int (Int32.ofInt (v13 + 1)))]) rfl rfl rfl (Nat.le_of_ble_eq_true rfl) rfl ?_
                refine mz_gt (tgt := 61) rfl rfl ?_
                exact ih15 ((6 - (v13 + 1)).toNat) (by omega) v32 (v13 + 1) rfl (by omega) (by omega) (by omega) (by omega) ⟨fj18, Nat.lt_of_lt_of_le (show ((6 - (v13 + 1)).toNat) < n16 from (by omega)) fn19, hE⟩
        exact L17 _ 0 0 rfl (by decide) (by decide) (by decide) (by decide) ⟨3000000000, by omega, hE⟩
      · skip
        replace hE := zf_ip hE c33_11
        refine mm_g 1 (pc1 := 37) (lo1 := [some (.ref 137), some (.int (Int32.ofInt a1)), some (.int (Int32.ofInt a2)), none, none]) (st1 := [.int (Int32.ofInt a2)]) (H1 := mz_mk g1 x) rfl ?_
        refine mz_if_ne (tgt := 49) rfl rfl (mz_rg l_a2 u_a2) (fun c37_32 => ?_) (fun c37_32 => ?_)
        · skip
          replace hE := zf_in hE c37_32
          refine mm_g 1 (pc1 := 50) (lo1 := [some (.ref 137), some (.int (Int32.ofInt a1)), some (.int (Int32.ofInt a2)), none, none]) (st1 := [.ref 137]) (H1 := mz_mk g1 x) rfl ?_
          refine mz_fgR (v := 143) rfl fd_12_46 (by decide) (sc_137 _) (rf_137_6 _ _ _) ?_
          refine mm_g 1 (pc1 := 54) (lo1 := [some (.ref 137), some (.int (Int32.ofInt a1)), some (.int (Int32.ofInt a2)), none, none]) (st1 := [.int (Int32.ofInt a1), .ref 143]) (H1 := mz_mk g1 x) rfl ?_
          refine mz_aI rfl (sh_143 _) (by omega) (by omega) (by decide) hIg1 (ba_143 _) (fun v33 e_v33 l_v33 u_v33 => ?_)
          replace hE := zf_tr hE (zf_le e_v33)
          exact mm_rt rfl rfl (hQ _ _ hIg1 (fun k j hk => (hug1.2 k j (fun h => hk (Or.inl h)))) (by omega) (by omega) (by have h9 := (show g1 137 30 = (g 137 30) from ((hug1.2 137 30 (fun h => absurd h.2 (by decide))).trans rfl)); omega) hE)
        · skip
          replace hE := zf_ip hE c37_32
          refine mm_g 1 (pc1 := 41) (lo1 := [some (.ref 137), some (.int (Int32.ofInt a1)), some (.int (Int32.ofInt a2)), none, none]) (st1 := [.ref 137]) (H1 := mz_mk g1 x) rfl ?_
          refine mz_fgR (v := 142) rfl fd_12_43 (by decide) (sc_137 _) (rf_137_5 _ _ _) ?_
          refine mm_g 1 (pc1 := 45) (lo1 := [some (.ref 137), some (.int (Int32.ofInt a1)), some (.int (Int32.ofInt a2)), none, none]) (st1 := [.int (Int32.ofInt a1), .ref 142]) (H1 := mz_mk g1 x) rfl ?_
          refine mz_aI rfl (sh_142 _) (by omega) (by omega) (by decide) hIg1 (ba_142 _) (fun v34 e_v34 l_v34 u_v34 => ?_)
          replace hE := zf_tr hE (zf_le e_v34)
          refine mz_gt (tgt := 55) rfl rfl ?_
          exact mm_rt rfl rfl (hQ _ _ hIg1 (fun k j hk => (hug1.2 k j (fun h => hk (Or.inl h)))) (by omega) (by omega) (by have h9 := (show g1 137 30 = (g 137 30) from ((hug1.2 137 30 (fun h => absurd h.2 (by decide))).trans rfl)); omega) hE)
    · skip
      replace hE := zf_ip hE c22_11
      refine mm_g 2 (pc1 := 27) (lo1 := [some (.ref 137), some (.int (Int32.ofInt a1)), some (.int (Int32.ofInt a2)), none, none]) (st1 := [.int (Int32.ofInt 1), .ref 137]) (H1 := mz_mk g1 x) rfl ?_
      refine mz_cv rfl mt_12_294 (by decide) (sc_137 _) rfl (Nat.le_of_ble_eq_true rfl) (by omega) (f_X12_fail (by omega) hx hIg1 (by decide) (by decide) (fun v35 g36 hIg36 hfg36 l_v35 u_v35 hc37 => ⟨_, rfl, ?_⟩))
      show mm_W d mmX12_word 30 [some (.ref 137), some (.int (Int32.ofInt a1)), some (.int (Int32.ofInt a2)), none, none] [.int (Int32.ofInt v35)] (mz_mk g36 x) Q
      replace hE := zf_t2 hE hc37
      exact mm_rt rfl rfl (hQ _ _ hIg36 (fun k j hk => ((hfg36 k j (fun h => hk (Or.inl h))).trans (hug1.2 k j (fun h => hk (Or.inl h))))) (by omega) (by omega) (by have h9 := (show g36 137 30 = (g 137 30) from ((hfg36 137 30 (fun h => (absurd (show (137 = 137 ∧ 30 = 2) from h) (by decide)))).trans ((hug1.2 137 30 (fun h => absurd h.2 (by decide))).trans rfl))); omega) hE)
def fw_X12_letter (x : mm_X) (a1 : Int) (a2 : Int) : Nat → Nat → Prop := fun k j => (k = 137 ∧ j = 2)
theorem f_X12_letter {d : Nat} (hd : 3 ≤ d) {x : mm_X} (hx : mk_x x) {g : mz_G} (hI : mz_inv g) {a1 : Int} (l_a1 : (-2147483648) ≤ a1) (u_a1 : a1 ≤ 2147483647) {a2 : Int} (l_a2 : (-2147483648) ≤ a2) (u_a2 : a2 ≤ 2147483647) (p1 : mz_pv g) (p2 : g 137 30 ≤ 999) {Q : (Option Value ⊕ Nat) → mm_H → Prop} (hQ : ∀ (r : Int) (g1 : mz_G), mz_inv g1 → mz_fr (fw_X12_letter x a1 a2) g g1 → (-2147483648) ≤ r → r ≤ 2147483647 → (g1 137 30 ≤ 999) → zf_E (zF_X12_letter a1 a2 g) ((r, g1)) → Q (.inl (some (.int (Int32.ofInt r)))) (mz_mk g1 x)) : mm_C d 245 [.ref 137, .int (Int32.ofInt a1), .int (Int32.ofInt a2)] (mz_mk g x) Q := by
  refine ⟨mmX12_letter, [some (.ref 137), some (.int (Int32.ofInt a1)), some (.int (Int32.ofInt a2))], rfl, rfl, ?_⟩
  have bz0 := mz_rd hI bd_137_30
  have hpv := p1
  have hE : zf_E (zF_X12_letter a1 a2 g) (zF_X12_letter a1 a2 g) := zf_rf
  refine mm_g 2 (pc1 := 2) (lo1 := [some (.ref 137), some (.int (Int32.ofInt a1)), some (.int (Int32.ofInt a2))]) (st1 := [.int (Int32.ofInt 0), .ref 137]) (H1 := mz_mk g x) rfl ?_
  refine mz_pI rfl fd_12_154 (sc_137 _) hI bd_137_2 (by omega) (by omega) (fun g1 hIg1 hug1 => ?_)
  replace hE := zf_tr hE (zf_lg hug1)
  refine mm_g 2 (pc1 := 7) (lo1 := [some (.ref 137), some (.int (Int32.ofInt a1)), some (.int (Int32.ofInt a2))]) (st1 := [.int (Int32.ofInt a1), .ref 137]) (H1 := mz_mk g1 x) rfl ?_
  refine mz_cv rfl mt_12_380 (by decide) (sc_137 _) rfl (Nat.le_of_ble_eq_true rfl) (by omega) (f_X12_isWord (by omega) hx hIg1 l_a1 u_a1 (fun v2 l_v2 u_v2 hp3 hp4 hc5 => ⟨_, rfl, ?_⟩))
  show mm_W d mmX12_letter 10 [some (.ref 137), some (.int (Int32.ofInt a1)), some (.int (Int32.ofInt a2))] [.int (Int32.ofInt v2)] (mz_mk g1 x) Q
  replace hE := zf_t1 hE hc5
  refine mz_if_eq (tgt := 40) rfl rfl (mz_rg l_v2 u_v2) (fun c10_5 => ?_) (fun c10_5 => ?_)
  · skip
    replace hE := zf_ip hE c10_5
    refine mm_g 2 (pc1 := 42) (lo1 := [some (.ref 137), some (.int (Int32.ofInt a1)), some (.int (Int32.ofInt a2))]) (st1 := [.int (Int32.ofInt 1), .ref 137]) (H1 := mz_mk g1 x) rfl ?_
    refine mz_cv rfl mt_12_294 (by decide) (sc_137 _) rfl (Nat.le_of_ble_eq_true rfl) (by omega) (f_X12_fail (by omega) hx hIg1 (by decide) (by decide) (fun v6 g7 hIg7 hfg7 l_v6 u_v6 hc8 => ⟨_, rfl, ?_⟩))
    show mm_W d mmX12_letter 45 [some (.ref 137), some (.int (Int32.ofInt a1)), some (.int (Int32.ofInt a2))] [.int (Int32.ofInt v6)] (mz_mk g7 x) Q
    replace hE := zf_t2 hE hc8
    exact mm_rt rfl rfl (hQ _ _ hIg7 (fun k j hk => ((hfg7 k j (fun h => hk h)).trans (hug1.2 k j (fun h => hk h)))) (by omega) (by omega) (by have h9 := (show g7 137 30 = (g 137 30) from ((hfg7 137 30 (fun h => (absurd (show (137 = 137 ∧ 30 = 2) from h) (by decide)))).trans ((hug1.2 137 30 (fun h => absurd h.2 (by decide))).trans rfl))); omega) hE)
  · skip
    replace hE := zf_in hE c10_5
    refine mm_g 1 (pc1 := 14) (lo1 := [some (.ref 137), some (.int (Int32.ofInt a1)), some (.int (Int32.ofInt a2))]) (st1 := [.int (Int32.ofInt a2)]) (H1 := mz_mk g1 x) rfl ?_
    refine mz_i2l rfl (mz_rg l_a2 u_a2) ?_
    refine mz_lcst (c := 0) rfl rfl ?_
    refine mm_g 1 (pc1 := 17) (lo1 := [some (.ref 137), some (.int (Int32.ofInt a1)), some (.int (Int32.ofInt a2))]) (st1 := [.ref 137, .long (Int64.ofInt 0), .long (Int64.ofInt a2)]) (H1 := mz_mk g1 x) rfl ?_
    refine mz_fgR (v := 142) rfl fd_12_43 (by decide) (sc_137 _) (rf_137_5 _ _ _) ?_
    refine mm_g 1 (pc1 := 21) (lo1 := [some (.ref 137), some (.int (Int32.ofInt a1)), some (.int (Int32.ofInt a2))]) (st1 := [.int (Int32.ofInt a1), .ref 142, .long (Int64.ofInt 0), .long (Int64.ofInt a2)]) (H1 := mz_mk g1 x) rfl ?_
    refine mz_aI rfl (sh_142 _) (by omega) (by omega) (by decide) hIg1 (ba_142 _) (fun v9 e_v9 l_v9 u_v9 => ?_)
    replace hE := zf_tr hE (zf_le e_v9)
    refine mm_g 1 (pc1 := 23) (lo1 := [some (.ref 137), some (.int (Int32.ofInt a1)), some (.int (Int32.ofInt a2))]) (st1 := [.int (Int32.ofInt 1), .int (Int32.ofInt v9), .long (Int64.ofInt 0), .long (Int64.ofInt a2)]) (H1 := mz_mk g1 x) rfl ?_
    refine mz_isub rfl ?_
    refine mz_i2l rfl ⟨by omega, by omega⟩ ?_
    refine mz_cs rfl mt_12_157 (by decide) rfl (Nat.le_of_ble_eq_true rfl) (by omega) (f_X12_isIn (by omega) hx hIg1 (by omega) (by omega) (by omega) (by omega) (by omega) (by omega) (fun v10 l_v10 u_v10 hp11 hc12 => ⟨_, rfl, ?_⟩))
    show mm_W d mmX12_letter 28 [some (.ref 137), some (.int (Int32.ofInt a1)), some (.int (Int32.ofInt a2))] [.int (Int32.ofInt v10)] (mz_mk g1 x) Q
    replace hE := zf_t1 hE hc12
    refine mz_if_eq (tgt := 40) rfl rfl (mz_rg l_v10 u_v10) (fun c28_12 => ?_) (fun c28_12 => ?_)
    · skip
      replace hE := zf_ip hE c28_12
      refine mm_g 2 (pc1 := 42) (lo1 := [some (.ref 137), some (.int (Int32.ofInt a1)), some (.int (Int32.ofInt a2))]) (st1 := [.int (Int32.ofInt 1), .ref 137]) (H1 := mz_mk g1 x) rfl ?_
      refine mz_cv rfl mt_12_294 (by decide) (sc_137 _) rfl (Nat.le_of_ble_eq_true rfl) (by omega) (f_X12_fail (by omega) hx hIg1 (by decide) (by decide) (fun v13 g14 hIg14 hfg14 l_v13 u_v13 hc15 => ⟨_, rfl, ?_⟩))
      show mm_W d mmX12_letter 45 [some (.ref 137), some (.int (Int32.ofInt a1)), some (.int (Int32.ofInt a2))] [.int (Int32.ofInt v13)] (mz_mk g14 x) Q
      replace hE := zf_t2 hE hc15
      exact mm_rt rfl rfl (hQ _ _ hIg14 (fun k j hk => ((hfg14 k j (fun h => hk h)).trans (hug1.2 k j (fun h => hk h)))) (by omega) (by omega) (by have h9 := (show g14 137 30 = (g 137 30) from ((hfg14 137 30 (fun h => (absurd (show (137 = 137 ∧ 30 = 2) from h) (by decide)))).trans ((hug1.2 137 30 (fun h => absurd h.2 (by decide))).trans rfl))); omega) hE)
    · skip
      replace hE := zf_in hE c28_12
      refine mm_g 3 (pc1 := 34) (lo1 := [some (.ref 137), some (.int (Int32.ofInt a1)), some (.int (Int32.ofInt a2))]) (st1 := [.int (Int32.ofInt a2), .int (Int32.ofInt a1), .ref 137]) (H1 := mz_mk g1 x) rfl ?_
      refine mz_cv rfl mt_12_320 (by decide) (sc_137 _) rfl (Nat.le_of_ble_eq_true rfl) (by omega) (f_X12_letterOf (by omega) hx hIg1 (by omega) (by omega) (by omega) (by omega) (fun v16 l_v16 u_v16 hp17 hc18 => ⟨_, rfl, ?_⟩))
      show mm_W d mmX12_letter 37 [some (.ref 137), some (.int (Int32.ofInt a1)), some (.int (Int32.ofInt a2))] [.int (Int32.ofInt v16)] (mz_mk g1 x) Q
      replace hE := zf_t1 hE hc18
      refine mz_gt (tgt := 45) rfl rfl ?_
      exact mm_rt rfl rfl (hQ _ _ hIg1 (fun k j hk => (hug1.2 k j (fun h => hk h))) (by omega) (by omega) (by have h9 := (show g1 137 30 = (g 137 30) from ((hug1.2 137 30 (fun h => absurd h.2 (by decide))).trans rfl)); omega) hE)
def fl_X12_tellCouples_2 (x : mm_X) : Nat → Nat → Prop := fun k j => k = 157 ∨ (k = 137 ∧ j = 36) ∨ k = 158 ∨ (k = 137 ∧ j = 37) ∨ k = 159 ∨ k = 164
def fl_X12_tellCouples_87 (x : mm_X) : Nat → Nat → Prop := fun k j => k = 165
def fl_X12_tellCouples_144 (x : mm_X) : Nat → Nat → Prop := fun k j => k = 165
def fl_X12_tellCouples_27 (x : mm_X) : Nat → Nat → Prop := fun k j => k = 158 ∨ (k = 137 ∧ j = 37) ∨ k = 159 ∨ k = 164
def fw_X12_tellCouples (x : mm_X) : Nat → Nat → Prop := fun k j => k = 157 ∨ (k = 137 ∧ j = 36) ∨ k = 158 ∨ (k = 137 ∧ j = 37) ∨ k = 159 ∨ k = 164 ∨ k = 165
theorem f_X12_tellCouples {d : Nat} (hd : 13 ≤ d) {x : mm_X} (hx : mk_x x) {g : mz_G} (hI : mz_inv g) {Q : (Option Value ⊕ Nat) → mm_H → Prop} (hQ : ∀ (g1 : mz_G), mz_inv g1 → mz_fr (fw_X12_tellCouples x) g g1 → zf_E (zF_X12_tellCouples g) (g1) → Q (.inl none) (mz_mk g1 x)) : mm_C d 275 [.ref 137] (mz_mk g x) Q := by
  refine ⟨mmX12_tellCouples, [some (.ref 137), none, none, none, none], rfl, rfl, ?_⟩
  have hE : zf_E (zF_X12_tellCouples g) (zF_X12_tellCouples g) := zf_rf
  refine mm_g 2 (pc1 := 2) (lo1 := [some (.ref 137), some (.int (Int32.ofInt 0)), none, none, none]) (st1 := []) (H1 := mz_mk g x) rfl ?_
  have L6 : ∀ n5 : Nat, ∀ (v1 : Int) (o2 : Option Value) (g3 : mz_G), (6 - v1).toNat = n5 → 0 ≤ v1 → v1 ≤ 6 → mz_nl o2 → mz_inv g3 → mz_fr (fl_X12_tellCouples_2 x) g g3 → (∃ fk : Nat, (6 - v1).toNat < fk ∧ zf_E (zF_X12_tellCouples g) (zL_X12_tellCouples_2 fk v1 g3)) → mm_W d mmX12_tellCouples 2 [some (.ref 137), some (.int (Int32.ofInt v1)), o2, none, none] [] (mz_mk g3 x) Q := by
    intro n5
    induction n5 using Nat.strongRecOn with
    | ind n5 ih4 =>
    intro v1 o2 g3 hmn5 l_v1 u_v1 h_o2 hIg3 hfg3 hF
    obtain ⟨fk, fl, hE⟩ := hF
    obtain ⟨fj7, rfl⟩ : ∃ fj, fk = fj + 1 := ⟨fk - 1, by omega⟩
    have fn8 : n5 ≤ fj7 := by omega
    replace hE := zf_tr hE zL_X12_tellCouples_2_s
    refine mm_g 2 (pc1 := 4) (lo1 := [some (.ref 137), some (.int (Int32.ofInt v1)), o2, none, none]) (st1 := [.ref 137, .int (Int32.ofInt v1)]) (H1 := mz_mk g3 x) rfl ?_
    refine mz_fgR (v := 140) rfl fd_12_36 (by decide) (sc_137 _) (rf_137_3 _ _ _) ?_
    refine mm_g 1 (pc1 := 8) (lo1 := [some (.ref 137), some (.int (Int32.ofInt v1)), o2, none, none]) (st1 := [.int (Int32.ofInt 1), .ref 140, .int (Int32.ofInt v1)]) (H1 := mz_mk g3 x) rfl ?_
    refine mz_aI rfl (sh_140 _) (by omega) (by omega) (by decide) hIg3 bt_140_1 (fun v9 e_v9 l_v9 u_v9 => ?_)
    have e_v9 : g3 140 1 = v9 := e_v9
    replace hE := zf_tr hE (zf_le e_v9)
    refine mz_ic_ge (tgt := 78) rfl rfl (mz_rg l_v1 u_v1) (mz_rg l_v9 u_v9) (fun c9_9 => ?_) (fun c9_9 => ?_)
    · skip
      replace hE := zf_nl hE c9_9
      refine mm_g 1 (pc1 := 79) (lo1 := [some (.ref 137), some (.int (Int32.ofInt v1)), o2, none, none]) (st1 := [.ref 137]) (H1 := mz_mk g3 x) rfl ?_
      refine mz_fgR (v := 165) rfl fd_12_112 (by decide) (sc_137 _) (rf_137_43 _ _ _) ?_
      refine mm_g 2 (pc1 := 84) (lo1 := [some (.ref 137), some (.int (Int32.ofInt v1)), o2, none, none]) (st1 := [.int (Int32.ofInt 0), .int (Int32.ofInt 0), .ref 165]) (H1 := mz_mk g3 x) rfl ?_
      refine mz_sI rfl (sh_165 _) (by omega) (by omega) (by decide) hIg3 (ba_165 _) (by omega) (by omega) (fun g10 hIg10 hug10 => ?_)
      replace hE := zf_tr hE (zf_lg hug10)
      refine mm_g 2 (pc1 := 87) (lo1 := [some (.ref 137), some (.int (Int32.ofInt 1)), o2, none, none]) (st1 := []) (H1 := mz_mk g10 x) rfl ?_
      have L18 : ∀ n17 : Nat, ∀ (v11 : Int) (o12 : Option Value) (o13 : Option Value) (o14 : Option Value) (g15 : mz_G), (64 - v11).toNat = n17 → 1 ≤ v11 → v11 ≤ 64 → mz_nl o12 → mz_nl o13 → mz_nl o14 → mz_inv g15 → mz_fr (fl_X12_tellCouples_87 x) g10 g15 → (∃ fk : Nat, (64 - v11).toNat < fk ∧ zf_E (zF_X12_tellCouples g) (zL_X12_tellCouples_87 fk v11 g15)) → mm_W d mmX12_tellCouples 87 [some (.ref 137), some (.int (Int32.ofInt v11)), o12, o13, o14] [] (mz_mk g15 x) Q := by
        intro n17
        induction n17 using Nat.strongRecOn with
        | ind n17 ih16 =>
        intro v11 o12 o13 o14 g15 hmn17 l_v11 u_v11 h_o12 h_o13 h_o14 hIg15 hfg15 hF
        obtain ⟨fk, fl, hE⟩ := hF
        obtain ⟨fj19, rfl⟩ : ∃ fj, fk = fj + 1 := ⟨fk - 1, by omega⟩
        have fn20 : n17 ≤ fj19 := by omega
        replace hE := zf_tr hE zL_X12_tellCouples_87_s
        refine mm_g 3 (pc1 := 90) (lo1 := [some (.ref 137), some (.int (Int32.ofInt v11)), o12, o13, o14]) (st1 := [.ref 137, .int (Int32.ofInt 1), .int (Int32.ofInt v11)]) (H1 := mz_mk g15 x) rfl ?_
        refine mz_fgR (v := 140) rfl fd_12_36 (by decide) (sc_137 _) (rf_137_3 _ _ _) ?_
        refine mm_g 1 (pc1 := 94) (lo1 := [some (.ref 137), some (.int (Int32.ofInt v11)), o12, o13, o14]) (st1 := [.int (Int32.ofInt 1), .ref 140, .int (Int32.ofInt 1), .int (Int32.ofInt v11)]) (H1 := mz_mk g15 x) rfl ?_
        refine mz_ia (v := v9) rfl (sh_140 _) (by decide) (by decide) (by decide) (show g15 140 1 = v9 from ((hfg15 140 1 (fun h => (absurd (show 140 = 165 from h) (by decide)))).trans ((hug10.2 140 1 (fun h => absurd h.1 (by decide))).trans e_v9))) ?_
        replace hE := zf_tr hE (zf_le (show g15 140 1 = v9 from ((hfg15 140 1 (fun h => (absurd (show 140 = 165 from h) (by decide)))).trans ((hug10.2 140 1 (fun h => absurd h.1 (by decide))).trans e_v9))))
        refine mz_ishl rfl (fun v21 e_v21 hwv21 => ?_)
        have b_v21 : 1 ≤ v21 ∧ v21 ≤ 64 := by rw [e_v21]; exact mz_shl_b (lx := 1) (hx := 1) (k := 6) (by decide) (by decide) (by omega) (by omega) (by omega) (by omega)
        have l_v21 := b_v21.1
        have u_v21 := b_v21.2
        replace hE := zf_tr hE (zf_le e_v21.symm)
        refine mz_ic_ge (tgt := 217) rfl rfl (mz_rg l_v11 u_v11) (mz_rg l_v21 u_v21) (fun c96_21 => ?_) (fun c96_21 => ?_)
        · skip
          replace hE := zf_nl hE c96_21
          exact mm_rt rfl rfl (hQ _ hIg15 (fun k j hk => ((hfg15 k j (fun h => hk (Or.inr (Or.inr (Or.inr (Or.inr (Or.inr (Or.inr h)))))))).trans ((hug10.2 k j (fun h => hk (Or.inr (Or.inr (Or.inr (Or.inr (Or.inr (Or.inr h.1)))))))).trans (hfg3 k j (fun h => hk (Or.elim h (fun h => (Or.inl h)) (fun h => (Or.elim h (fun h => (Or.inr (Or.inl h))) (fun h => (Or.elim h (fun h => (Or.inr (Or.inr (Or.inl h)))) (fun h => (Or.elim h (fun h => (Or.inr (Or.inr (Or.inr (Or.inl h))))) (fun h => (Or.elim h (fun h => (Or.inr (Or.inr (Or.inr (Or.inr (Or.inl h)))))) (fun h => (Or.inr (Or.inr (Or.inr (Or.inr (Or.inr (Or.inl h))))))))))))))))))))) hE)
        · skip
          replace hE := zf_ip hE c96_21
          refine mm_g 2 (pc1 := 101) (lo1 := [some (.ref 137), some (.int (Int32.ofInt v11)), some (.int (Int32.ofInt 0)), o13, o14]) (st1 := []) (H1 := mz_mk g15 x) rfl ?_
          have hO26 := hE
          have L27 : ∀ n25 : Nat, ∀ (v22 : Int), (6 - v22).toNat = n25 → 0 ≤ v22 → v22 ≤ 6 → (∀ i_ : Int, 0 ≤ i_ → i_ < v22 → mz_bit v11 i_ = 0) → (∃ fk : Nat, (6 - v22).toNat < fk ∧ zf_E (zL_X12_tellCouples_101 g15 3000000000 v11 0) (zL_X12_tellCouples_101 g15 fk v11 v22)) → mm_W d mmX12_tellCouples 101 [some (.ref 137), some (.int (Int32.ofInt v11)), some (.int (Int32.ofInt v22)), o13, o14] [] (mz_mk g15 x) Q := by
            intro n25
            induction n25 using Nat.strongRecOn with
            | ind n25 ih24 =>
            intro v22 hmn25 l_v22 u_v22 hv28 hF
            obtain ⟨fk, fl, hE⟩ := hF
            obtain ⟨fj29, rfl⟩ : ∃ fj, fk = fj + 1 := ⟨fk - 1, by omega⟩
            have fn30 : n25 ≤ fj29 := by omega
            replace hE := zf_tr hE zL_X12_tellCouples_101_s
            have hb_v22 := hv28
            have ht_v22 : v22 ≤ 5 := mz_bit_ex (by omega) (by omega) (by omega) hb_v22
            refine mm_g 2 (pc1 := 103) (lo1 := [some (.ref 137), some (.int (Int32.ofInt v11)), some (.int (Int32.ofInt v22)), o13, o14]) (st1 := [.int (Int32.ofInt v22), .int (Int32.ofInt v11)]) (H1 := mz_mk g15 x) rfl ?_
            refine mz_cs rfl mt_12_450 (by decide) rfl (Nat.le_of_ble_eq_true rfl) (by omega) (f_X12_isOf (by omega) hx hIg15 (by omega) (by omega) (by omega) (by omega) (fun v31 l_v31 u_v31 hp32 hc33 => ⟨_, rfl, ?_⟩))
            show mm_W d mmX12_tellCouples 106 [some (.ref 137), some (.int (Int32.ofInt v11)), some (.int (Int32.ofInt v22)), o13, o14] [.int (Int32.ofInt v31)] (mz_mk g15 x) Q
            replace hE := zf_t1 hE hc33
            refine mz_if_ne (tgt := 115) rfl rfl (mz_rg l_v31 u_v31) (fun c106_33 => ?_) (fun c106_33 => ?_)
            · skip
              replace hE := zf_in hE c106_33
              replace hE := zf_t1 hO26 hE
              refine mm_g 3 (pc1 := 118) (lo1 := [some (.ref 137), some (.int (Int32.ofInt v11)), some (.int (Int32.ofInt v22)), o13, o14]) (st1 := [.int (Int32.ofInt v22), .int (Int32.ofInt 1), .int (Int32.ofInt v11)]) (H1 := mz_mk g15 x) rfl ?_
              refine mz_ishl rfl (fun v34 e_v34 hwv34 => ?_)
              have b_v34 : 1 ≤ v34 ∧ v34 ≤ 32 := by rw [e_v34]; exact mz_shl_b (lx := 1) (hx := 1) (k := 5) (by decide) (by decide) (by omega) (by omega) (by omega) (by omega)
              have l_v34 := b_v34.1
              have u_v34 := b_v34.2
              replace hE := zf_tr hE (zf_le e_v34.symm)
              refine mm_g 1 (pc1 := 120) (lo1 := [some (.ref 137), some (.int (Int32.ofInt v11)), some (.int (Int32.ofInt v22)), o13, o14]) (st1 := [.int (Int32.ofInt (-1)), .int (Int32.ofInt v34), .int (Int32.ofInt v11)]) (H1 := mz_mk g15 x) rfl ?_
              refine mz_ixor rfl (fun v35 e_v35 hwv35 => ?_)
              have l_v35 := hwv35.1
              have u_v35 := hwv35.2
              replace hE := zf_tr hE (zf_le e_v35.symm)
              refine mz_iand rfl (fun v36 e_v36 hwv36 => ?_)
              have b_v36 : 0 ≤ v36 ∧ v36 ≤ 63 := by rw [e_v36]; exact mz_and_l (by omega) (by omega) (mz_rg l_v35 u_v35)
              have l_v36 := b_v36.1
              have u_v36 := b_v36.2
              have w_v36 : v36 ≤ v11 := by rw [e_v36]; exact (mz_and_l (hi := v11) (by omega) (Int.le_refl _) (mz_rg l_v35 u_v35) (by omega)).2
              replace hE := zf_tr hE (zf_le e_v36.symm)
              refine mm_g 2 (pc1 := 124) (lo1 := [some (.ref 137), some (.int (Int32.ofInt v11)), some (.int (Int32.ofInt v22)), some (.int (Int32.ofInt v36)), o14]) (st1 := [.ref 137]) (H1 := mz_mk g15 x) rfl ?_
              refine mz_fgR (v := 165) rfl fd_12_112 (by decide) (sc_137 _) (rf_137_43 _ _ _) ?_
              refine mm_g 1 (pc1 := 128) (lo1 := [some (.ref 137), some (.int (Int32.ofInt v11)), some (.int (Int32.ofInt v22)), some (.int (Int32.ofInt v36)), o14]) (st1 := [.int (Int32.ofInt v11), .ref 165]) (H1 := mz_mk g15 x) rfl ?_
              refine mz_sip rfl sip_1000 ?_
              refine mm_g 1 (pc1 := 132) (lo1 := [some (.ref 137), some (.int (Int32.ofInt v11)), some (.int (Int32.ofInt v22)), some (.int (Int32.ofInt v36)), o14]) (st1 := [.ref 137, .int (Int32.ofInt 1000), .int (Int32.ofInt v11), .ref 165]) (H1 := mz_mk g15 x) rfl ?_
              refine mz_fgR (v := 165) rfl fd_12_112 (by decide) (sc_137 _) (rf_137_43 _ _ _) ?_
              refine mm_g 1 (pc1 := 136) (lo1 := [some (.ref 137), some (.int (Int32.ofInt v11)), some (.int (Int32.ofInt v22)), some (.int (Int32.ofInt v36)), o14]) (st1 := [.int (Int32.ofInt v36), .ref 165, .int (Int32.ofInt 1000), .int (Int32.ofInt v11), .ref 165]) (H1 := mz_mk g15 x) rfl ?_
              refine mz_aI rfl (sh_165 _) (by omega) (by omega) (by decide) hIg15 (ba_165 _) (fun v37 e_v37 l_v37 u_v37 => ?_)
              replace hE := zf_tr hE (zf_le e_v37)
              refine mz_iadd_w rfl (fun v38 e_v38 hwv38 => ?_)
              have l_v38 := hwv38.1
              have u_v38 := hwv38.2
              replace hE := zf_tr hE (zf_le e_v38.symm)
              refine mz_sI rfl (sh_165 _) (by omega) (by omega) (by decide) hIg15 (ba_165 _) (by omega) (by omega) (fun g39 hIg39 hug39 => ?_)
              replace hE := zf_tr hE (zf_lg hug39)
              refine mm_g 2 (pc1 := 141) (lo1 := [some (.ref 137), some (.int (Int32.ofInt v11)), some (.int (Int32.ofInt v22)), some (.int (Int32.ofInt v36)), o14]) (st1 := [.int (Int32.ofInt 1), .int (Int32.ofInt v22)]) (H1 := mz_mk g39 x) rfl ?_
              refine mz_iadd rfl ?_
              refine mm_g 1 (pc1 := 144) (lo1 := [some (.ref 137), some (.int (Int32.ofInt v11)), some (.int (Int32.ofInt v22)), some (.int (Int32.ofInt v36)), some (.int (Int32.ofInt (v22 + 1)))]) (st1 := []) (H1 := mz_mk g39 x) rfl ?_
              have hO44 := hE
              have L45 : ∀ n43 : Nat, ∀ (v40 : Int) (g41 : mz_G), (6 - v40).toNat = n43 → 1 ≤ v40 → v40 ≤ 6 → mz_inv g41 → mz_fr (fl_X12_tellCouples_144 x) g39 g41 → (∃ fk : Nat, (6 - v40).toNat < fk ∧ zf_E (zL_X12_tellCouples_144 3000000000 v11 v22 v36 (v22 + 1) g39) (zL_X12_tellCouples_144 fk v11 v22 v36 v40 g41)) → mm_W d mmX12_tellCouples 144 [some (.ref 137), some (.int (Int32.ofInt v11)), some (.int (Int32.ofInt v22)), some (.int (Int32.ofInt v36)), some (.int (Int32.ofInt v40))] [] (mz_mk g41 x) Q := by
                intro n43
                induction n43 using Nat.strongRecOn with
                | ind n43 ih42 =>
                intro v40 g41 hmn43 l_v40 u_v40 hIg41 hfg41 hF
                obtain ⟨fk, fl, hE⟩ := hF
                obtain ⟨fj46, rfl⟩ : ∃ fj, fk = fj + 1 := ⟨fk - 1, by omega⟩
                have fn47 : n43 ≤ fj46 := by omega
                replace hE := zf_tr hE zL_X12_tellCouples_144_s
                refine mm_g 2 (pc1 := 147) (lo1 := [some (.ref 137), some (.int (Int32.ofInt v11)), some (.int (Int32.ofInt v22)), some (.int (Int32.ofInt v36)), some (.int (Int32.ofInt v40))]) (st1 := [.ref 137, .int (Int32.ofInt v40)]) (H1 := mz_mk g41 x) rfl ?_
                refine mz_fgR (v := 140) rfl fd_12_36 (by decide) (sc_137 _) (rf_137_3 _ _ _) ?_
                refine mm_g 1 (pc1 := 151) (lo1 := [some (.ref 137), some (.int (Int32.ofInt v11)), some (.int (Int32.ofInt v22)), some (.int (Int32.ofInt v36)), some (.int (Int32.ofInt v40))]) (st1 := [.int (Int32.ofInt 1), .ref 140, .int (Int32.ofInt v40)]) (H1 := mz_mk g41 x) rfl ?_
                refine mz_ia (v := v9) rfl (sh_140 _) (by decide) (by decide) (by decide) (show g41 140 1 = v9 from ((hfg41 140 1 (fun h => (absurd (show 140 = 165 from h) (by decide)))).trans ((hug39.2 140 1 (fun h => absurd h.1 (by decide))).trans ((hfg15 140 1 (fun h => (absurd (show 140 = 165 from h) (by decide)))).trans ((hug10.2 140 1 (fun h => absurd h.1 (by decide))).trans e_v9))))) ?_
                replace hE := zf_tr hE (zf_le (show g41 140 1 = v9 from ((hfg41 140 1 (fun h => (absurd (show 140 = 165 from h) (by decide)))).trans ((hug39.2 140 1 (fun h => absurd h.1 (by decide))).trans ((hfg15 140 1 (fun h => (absurd (show 140 = 165 from h) (by decide)))).trans ((hug10.2 140 1 (fun h => absurd h.1 (by decide))).trans e_v9))))))
                refine mz_ic_ge (tgt := 211) rfl rfl (mz_rg l_v40 u_v40) (mz_rg l_v9 u_v9) (fun c152_47 => ?_) (fun c152_47 => ?_)
                · skip
                  replace hE := zf_nl hE c152_47
                  replace hE := zf_t1 hO44 hE
                  refine mz_iincR (v := v11) (lo2 := [some (.ref 137), some (.int (Int32.ofInt (v11 + 1))), some (.int (Int32.ofInt v22)), some (.int (Int32.ofInt v36)), some (.int (Int32.ofInt v40))]) rfl rfl rfl (Nat.le_of_ble_eq_true rfl) rfl ?_
                  refine mz_gt (tgt := 87) rfl rfl ?_
                  exact ih16 ((64 - (v11 + 1)).toNat) (by omega) (v11 + 1) (some (.int (Int32.ofInt v22))) (some (.int (Int32.ofInt v36))) (some (.int (Int32.ofInt v40))) g41 rfl (by omega) (by omega) (mz_nl_i _) (mz_nl_i _) (mz_nl_i _) hIg41 (fun k j hk => ((hfg41 k j (fun h => hk h)).trans ((hug39.2 k j (fun h => hk h.1)).trans (hfg15 k j (fun h => hk h))))) ⟨fj19, Nat.lt_of_lt_of_le (show ((64 - (v11 + 1)).toNat) < n17 from (by omega)) fn20, hE⟩
                · skip
                  replace hE := zf_ip hE c152_47
                  refine mm_g 2 (pc1 := 158) (lo1 := [some (.ref 137), some (.int (Int32.ofInt v11)), some (.int (Int32.ofInt v22)), some (.int (Int32.ofInt v36)), some (.int (Int32.ofInt v40))]) (st1 := [.int (Int32.ofInt v40), .int (Int32.ofInt v36)]) (H1 := mz_mk g41 x) rfl ?_
                  refine mz_cs rfl mt_12_450 (by decide) rfl (Nat.le_of_ble_eq_true rfl) (by omega) (f_X12_isOf (by omega) hx hIg41 (by omega) (by omega) (by omega) (by omega) (fun v48 l_v48 u_v48 hp49 hc50 => ⟨_, rfl, ?_⟩))
                  show mm_W d mmX12_tellCouples 161 [some (.ref 137), some (.int (Int32.ofInt v11)), some (.int (Int32.ofInt v22)), some (.int (Int32.ofInt v36)), some (.int (Int32.ofInt v40))] [.int (Int32.ofInt v48)] (mz_mk g41 x) Q
                  replace hE := zf_t1 hE hc50
                  refine mz_if_eq (tgt := 205) rfl rfl (mz_rg l_v48 u_v48) (fun c161_50 => ?_) (fun c161_50 => ?_)
                  · skip
                    replace hE := zf_ip hE c161_50
                    refine mz_iincR (v := v40) (lo2 := [some (.ref 137), some (.int (Int32.ofInt v11)), some (.int (Int32.ofInt v22)), some (.int (Int32.ofInt v36)), some (.int (Int32.ofInt (v40 + 1)))]) rfl rfl rfl (Nat.le_of_ble_eq_true rfl) rfl ?_
                    refine mz_gt (tgt := 144) rfl rfl ?_
                    exact ih42 ((6 - (v40 + 1)).toNat) (by omega) (v40 + 1) g41 rfl (by omega) (by omega) hIg41 (fun k j hk => (hfg41 k j (fun h => hk h))) ⟨fj46, Nat.lt_of_lt_of_le (show ((6 - (v40 + 1)).toNat) < n43 from (by omega)) fn47, hE⟩
                  · skip
                    replace hE := zf_in hE c161_50
                    refine mm_g 1 (pc1 := 165) (lo1 := [some (.ref 137), some (.int (Int32.ofInt v11)), some (.int (Int32.ofInt v22)), some (.int (Int32.ofInt v36)), some (.int (Int32.ofInt v40))]) (st1 := [.ref 137]) (H1 := mz_mk g41 x) rfl ?_
                    refine mz_fgR (v := 165) rfl fd_12_112 (by decide) (sc_137 _) (rf_137_43 _ _ _) ?_
                    refine mm_g 2 (pc1 := 170) (lo1 := [some (.ref 137), some (.int (Int32.ofInt v11)), some (.int (Int32.ofInt v22)), some (.int (Int32.ofInt v36)), some (.int (Int32.ofInt v40))]) (st1 := [.ref 137, .int (Int32.ofInt v11), .ref 165]) (H1 := mz_mk g41 x) rfl ?_
                    refine mz_fgR (v := 165) rfl fd_12_112 (by decide) (sc_137 _) (rf_137_43 _ _ _) ?_
                    refine mm_g 1 (pc1 := 174) (lo1 := [some (.ref 137), some (.int (Int32.ofInt v11)), some (.int (Int32.ofInt v22)), some (.int (Int32.ofInt v36)), some (.int (Int32.ofInt v40))]) (st1 := [.int (Int32.ofInt v11), .ref 165, .int (Int32.ofInt v11), .ref 165]) (H1 := mz_mk g41 x) rfl ?_
                    refine mz_aI rfl (sh_165 _) (by omega) (by omega) (by decide) hIg41 (ba_165 _) (fun v51 e_v51 l_v51 u_v51 => ?_)
                    replace hE := zf_tr hE (zf_le e_v51)
                    refine mm_g 1 (pc1 := 176) (lo1 := [some (.ref 137), some (.int (Int32.ofInt v11)), some (.int (Int32.ofInt v22)), some (.int (Int32.ofInt v36)), some (.int (Int32.ofInt v40))]) (st1 := [.ref 137, .int (Int32.ofInt v51), .int (Int32.ofInt v11), .ref 165]) (H1 := mz_mk g41 x) rfl ?_
                    refine mz_fgR (v := 164) rfl fd_12_109 (by decide) (sc_137 _) (rf_137_42 _ _ _) ?_
                    refine mz_bip rfl bip_6 ?_
                    refine mm_g 1 (pc1 := 182) (lo1 := [some (.ref 137), some (.int (Int32.ofInt v11)), some (.int (Int32.ofInt v22)), some (.int (Int32.ofInt v36)), some (.int (Int32.ofInt v40))]) (st1 := [.int (Int32.ofInt v22), .int (Int32.ofInt 6), .ref 164, .int (Int32.ofInt v51), .int (Int32.ofInt v11), .ref 165]) (H1 := mz_mk g41 x) rfl ?_
                    refine mz_imul rfl ?_
                    refine mm_g 1 (pc1 := 185) (lo1 := [some (.ref 137), some (.int (Int32.ofInt v11)), some (.int (Int32.ofInt v22)), some (.int (Int32.ofInt v36)), some (.int (Int32.ofInt v40))]) (st1 := [.int (Int32.ofInt v40), .int (Int32.ofInt (6 * v22)), .ref 164, .int (Int32.ofInt v51), .int (Int32.ofInt v11), .ref 165]) (H1 := mz_mk g41 x) rfl ?_
                    refine mz_iadd rfl ?_
                    refine mz_aI rfl (sh_164 _) (by omega) (by omega) (by decide) hIg41 (ba_164 _) (fun v52 e_v52 l_v52 u_v52 => ?_)
                    replace hE := zf_tr hE (zf_le e_v52)
                    refine mm_g 1 (pc1 := 188) (lo1 := [some (.ref 137), some (.int (Int32.ofInt v11)), some (.int (Int32.ofInt v22)), some (.int (Int32.ofInt v36)), some (.int (Int32.ofInt v40))]) (st1 := [.ref 137, .int (Int32.ofInt v52), .int (Int32.ofInt v51), .int (Int32.ofInt v11), .ref 165]) (H1 := mz_mk g41 x) rfl ?_
                    refine mz_fgR (v := 165) rfl fd_12_112 (by decide) (sc_137 _) (rf_137_43 _ _ _) ?_
                    refine mm_g 3 (pc1 := 195) (lo1 := [some (.ref 137), some (.int (Int32.ofInt v11)), some (.int (Int32.ofInt v22)), some (.int (Int32.ofInt v36)), some (.int (Int32.ofInt v40))]) (st1 := [.int (Int32.ofInt v40), .int (Int32.ofInt 1), .int (Int32.ofInt v36), .ref 165, .int (Int32.ofInt v52), .int (Int32.ofInt v51), .int (Int32.ofInt v11), .ref 165]) (H1 := mz_mk g41 x) rfl ?_
                    refine mz_ishl rfl (fun v53 e_v53 hwv53 => ?_)
                    have b_v53 : 1 ≤ v53 ∧ v53 ≤ 32 := by rw [e_v53]; exact mz_shl_b (lx := 1) (hx := 1) (k := 5) (by decide) (by decide) (by omega) (by omega) (by omega) (by omega)
                    have l_v53 := b_v53.1
                    have u_v53 := b_v53.2
                    replace hE := zf_tr hE (zf_le e_v53.symm)
                    refine mm_g 1 (pc1 := 197) (lo1 := [some (.ref 137), some (.int (Int32.ofInt v11)), some (.int (Int32.ofInt v22)), some (.int (Int32.ofInt v36)), some (.int (Int32.ofInt v40))]) (st1 := [.int (Int32.ofInt (-1)), .int (Int32.ofInt v53), .int (Int32.ofInt v36), .ref 165, .int (Int32.ofInt v52), .int (Int32.ofInt v51), .int (Int32.ofInt v11), .ref 165]) (H1 := mz_mk g41 x) rfl ?_
                    refine mz_ixor rfl (fun v54 e_v54 hwv54 => ?_)
                    have l_v54 := hwv54.1
                    have u_v54 := hwv54.2
                    replace hE := zf_tr hE (zf_le e_v54.symm)
                    refine mz_iand rfl (fun v55 e_v55 hwv55 => ?_)
                    have b_v55 : 0 ≤ v55 ∧ v55 ≤ 63 := by rw [e_v55]; exact mz_and_l (by omega) (by omega) (mz_rg l_v54 u_v54)
                    have l_v55 := b_v55.1
                    have u_v55 := b_v55.2
                    have w_v55 : v55 ≤ v36 := by rw [e_v55]; exact (mz_and_l (hi := v36) (by omega) (Int.le_refl _) (mz_rg l_v54 u_v54) (by omega)).2
                    replace hE := zf_tr hE (zf_le e_v55.symm)
                    refine mz_aI rfl (sh_165 _) (by omega) (by omega) (by decide) hIg41 (ba_165 _) (fun v56 e_v56 l_v56 u_v56 => ?_)
                    replace hE := zf_tr hE (zf_le e_v56)
                    refine mz_iadd_w rfl (fun v57 e_v57 hwv57 => ?_)
                    have l_v57 := hwv57.1
                    have u_v57 := hwv57.2
                    replace hE := zf_tr hE (zf_le e_v57.symm)
                    refine mz_mn rfl mt_12_191 (Nat.le_of_ble_eq_true rfl) (by omega) (mz_rg l_v51 u_v51) (mz_rg l_v57 u_v57) (fun v58 e_v58 => ?_)
                    have l_v58 : (-2147483648) ≤ v58 := by omega
                    have u_v58 : v58 ≤ 2147483647 := by omega
                    replace hE := zf_tr hE (zf_le e_v58.symm)
                    refine mz_sI rfl (sh_165 _) (by omega) (by omega) (by decide) hIg41 (ba_165 _) (by omega) (by omega) (fun g59 hIg59 hug59 => ?_)
                    replace hE := zf_tr hE (zf_lg hug59)
                    refine mz_iincR (v := v40) (lo2 := [some (.ref 137), some (.int (Int32.ofInt v11)), some (.int (Int32.ofInt v22)), some (.int (Int32.ofInt v36)), some (.int (Int32.ofInt (v40 + 1)))]) rfl rfl rfl (Nat.le_of_ble_eq_true rfl) rfl ?_
                    refine mz_gt (tgt := 144) rfl rfl ?_
                    exact ih42 ((6 - (v40 + 1)).toNat) (by omega) (v40 + 1) g59 rfl (by omega) (by omega) hIg59 (fun k j hk => ((hug59.2 k j (fun h => hk h.1)).trans (hfg41 k j (fun h => hk h)))) ⟨fj46, Nat.lt_of_lt_of_le (show ((6 - (v40 + 1)).toNat) < n43 from (by omega)) fn47, hE⟩
              exact L45 _ (v22 + 1) g39 rfl (by omega) (by omega) hIg39 (fun _ _ _ => rfl) ⟨3000000000, by omega, zf_rf⟩
            · skip
              replace hE := zf_ip hE c106_33
              refine mz_iincR (v := v22) (lo2 := [some (.ref 137), some (.int (Int32.ofInt v11)), some (.int (Int32.ofInt (v22 + 1))), o13, o14]) rfl rfl rfl (Nat.le_of_ble_eq_true rfl) rfl ?_
              refine mz_gt (tgt := 101) rfl rfl ?_
              exact ih24 ((6 - (v22 + 1)).toNat) (by omega) (v22 + 1) rfl (by omega) (by omega) (by intro i_ h0 h1; rcases (by omega : i_ < v22 ∨ i_ = v22) with h2 | h2; exact hb_v22 i_ h0 h2; rw [h2, ← hp32 (by omega) (by omega) (by omega)]; omega) ⟨fj29, Nat.lt_of_lt_of_le (show ((6 - (v22 + 1)).toNat) < n25 from (by omega)) fn30, hE⟩
          exact L27 _ 0 rfl (by decide) (by decide) (by intro i_ h0 h1; omega) ⟨3000000000, by omega, zf_rf⟩
      exact L18 _ 1 o2 none none g10 rfl (by decide) (by decide) h_o2 mz_nl_n mz_nl_n hIg10 (fun _ _ _ => rfl) ⟨3000000000, by omega, hE⟩
    · skip
      replace hE := zf_ip hE c9_9
      refine mm_g 3 (pc1 := 15) (lo1 := [some (.ref 137), some (.int (Int32.ofInt v1)), o2, none, none]) (st1 := [.ref 137, .ref 137, .ref 137]) (H1 := mz_mk g3 x) rfl ?_
      refine mz_fgR (v := 157) rfl fd_12_88 (by decide) (sc_137 _) (rf_137_33 _ _ _) ?_
      refine mm_g 1 (pc1 := 19) (lo1 := [some (.ref 137), some (.int (Int32.ofInt v1)), o2, none, none]) (st1 := [.int (Int32.ofInt v1), .ref 157, .ref 137, .ref 137]) (H1 := mz_mk g3 x) rfl ?_
      refine mz_cv rfl mt_12_424 (by decide) (sc_137 _) rfl (Nat.le_of_ble_eq_true rfl) (by omega) (f_X12_blendInto (by omega) hx hIg3 (sh_157 _) (by decide) ba_157 (by omega) (by omega) (by omega) (fun v60 g61 hIg61 hfg61 l_v60 u_v60 hc62 => ⟨_, rfl, ?_⟩))
      show mm_W d mmX12_tellCouples 22 [some (.ref 137), some (.int (Int32.ofInt v1)), o2, none, none] [.int (Int32.ofInt v60), .ref 137] (mz_mk g61 x) Q
      replace hE := zf_t2 hE hc62
      refine mz_pI rfl fd_12_323 (sc_137 _) hIg61 bd_137_36 (by omega) (by omega) (fun g63 hIg63 hug63 => ?_)
      replace hE := zf_tr hE (zf_lg hug63)
      refine mm_g 2 (pc1 := 27) (lo1 := [some (.ref 137), some (.int (Int32.ofInt v1)), some (.int (Int32.ofInt 0)), none, none]) (st1 := []) (H1 := mz_mk g63 x) rfl ?_
      have hO68 := hE
      have L69 : ∀ n67 : Nat, ∀ (v64 : Int) (g65 : mz_G), (6 - v64).toNat = n67 → 0 ≤ v64 → v64 ≤ 6 → mz_inv g65 → mz_fr (fl_X12_tellCouples_27 x) g63 g65 → (∃ fk : Nat, (6 - v64).toNat < fk ∧ zf_E (zL_X12_tellCouples_27 3000000000 v1 0 g63) (zL_X12_tellCouples_27 fk v1 v64 g65)) → mm_W d mmX12_tellCouples 27 [some (.ref 137), some (.int (Int32.ofInt v1)), some (.int (Int32.ofInt v64)), none, none] [] (mz_mk g65 x) Q := by
        intro n67
        induction n67 using Nat.strongRecOn with
        | ind n67 ih66 =>
        intro v64 g65 hmn67 l_v64 u_v64 hIg65 hfg65 hF
        obtain ⟨fk, fl, hE⟩ := hF
        obtain ⟨fj70, rfl⟩ : ∃ fj, fk = fj + 1 := ⟨fk - 1, by omega⟩
        have fn71 : n67 ≤ fj70 := by omega
        replace hE := zf_tr hE zL_X12_tellCouples_27_s
        refine mm_g 2 (pc1 := 29) (lo1 := [some (.ref 137), some (.int (Int32.ofInt v1)), some (.int (Int32.ofInt v64)), none, none]) (st1 := [.ref 137, .int (Int32.ofInt v64)]) (H1 := mz_mk g65 x) rfl ?_
        refine mz_fgR (v := 140) rfl fd_12_36 (by decide) (sc_137 _) (rf_137_3 _ _ _) ?_
        refine mm_g 1 (pc1 := 33) (lo1 := [some (.ref 137), some (.int (Int32.ofInt v1)), some (.int (Int32.ofInt v64)), none, none]) (st1 := [.int (Int32.ofInt 1), .ref 140, .int (Int32.ofInt v64)]) (H1 := mz_mk g65 x) rfl ?_
        refine mz_ia (v := v9) rfl (sh_140 _) (by decide) (by decide) (by decide) (show g65 140 1 = v9 from ((hfg65 140 1 nj_26).trans ((hug63.2 140 1 (fun h => absurd h.1 (by decide))).trans ((hfg61 140 1 (fun h => (absurd (show 140 = 157 from h) (by decide)))).trans e_v9)))) ?_
        replace hE := zf_tr hE (zf_le (show g65 140 1 = v9 from ((hfg65 140 1 nj_26).trans ((hug63.2 140 1 (fun h => absurd h.1 (by decide))).trans ((hfg61 140 1 (fun h => (absurd (show 140 = 157 from h) (by decide)))).trans e_v9)))))
        refine mz_ic_ge (tgt := 72) rfl rfl (mz_rg l_v64 u_v64) (mz_rg l_v9 u_v9) (fun c34_71 => ?_) (fun c34_71 => ?_)
        · skip
          replace hE := zf_nl hE c34_71
          replace hE := zf_t1 hO68 hE
          refine mz_iincR (v := v1) (lo2 := [some (.ref 137), some (.int (Int32.ofInt (v1 + 1))), some (.int (Int32.ofInt v64)), none, none]) rfl rfl rfl (Nat.le_of_ble_eq_true rfl) rfl ?_
          refine mz_gt (tgt := 2) rfl rfl ?_
          exact ih4 ((6 - (v1 + 1)).toNat) (by omega) (v1 + 1) (some (.int (Int32.ofInt v64))) g65 rfl (by omega) (by omega) (mz_nl_i _) hIg65 (fun k j hk => ((hfg65 k j (fun h => hk (Or.elim h (fun h => (Or.inr (Or.inr (Or.inl h)))) (fun h => (Or.elim h (fun h => (Or.inr (Or.inr (Or.inr (Or.inl h))))) (fun h => (Or.elim h (fun h => (Or.inr (Or.inr (Or.inr (Or.inr (Or.inl h)))))) (fun h => (Or.inr (Or.inr (Or.inr (Or.inr (Or.inr h))))))))))))).trans ((hug63.2 k j (fun h => hk (Or.inr (Or.inl h)))).trans ((hfg61 k j (fun h => hk (Or.inl h))).trans (hfg3 k j (fun h => hk (Or.elim h (fun h => (Or.inl h)) (fun h => (Or.elim h (fun h => (Or.inr (Or.inl h))) (fun h => (Or.elim h (fun h => (Or.inr (Or.inr (Or.inl h)))) (fun h => (Or.elim h (fun h => (Or.inr (Or.inr (Or.inr (Or.inl h))))) (fun h => (Or.elim h (fun h => (Or.inr (Or.inr (Or.inr (Or.inr (Or.inl h)))))) (fun h => (Or.inr (Or.inr (Or.inr (Or.inr (Or.inr h))))))))))))))))))))) ⟨fj7, Nat.lt_of_lt_of_le (show ((6 - (v1 + 1)).toNat) < n5 from (by omega)) fn8, hE⟩
        · skip
          replace hE := zf_ip hE c34_71
          refine mm_g 3 (pc1 := 40) (lo1 := [some (.ref 137), some (.int (Int32.ofInt v1)), some (.int (Int32.ofInt v64)), none, none]) (st1 := [.ref 137, .ref 137, .ref 137]) (H1 := mz_mk g65 x) rfl ?_
          refine mz_fgR (v := 158) rfl fd_12_91 (by decide) (sc_137 _) (rf_137_34 _ _ _) ?_
          refine mm_g 1 (pc1 := 44) (lo1 := [some (.ref 137), some (.int (Int32.ofInt v1)), some (.int (Int32.ofInt v64)), none, none]) (st1 := [.int (Int32.ofInt v64), .ref 158, .ref 137, .ref 137]) (H1 := mz_mk g65 x) rfl ?_
          refine mz_cv rfl mt_12_424 (by decide) (sc_137 _) rfl (Nat.le_of_ble_eq_true rfl) (by omega) (f_X12_blendInto (by omega) hx hIg65 (sh_158 _) (by decide) ba_158 (by omega) (by omega) (by omega) (fun v72 g73 hIg73 hfg73 l_v72 u_v72 hc74 => ⟨_, rfl, ?_⟩))
          show mm_W d mmX12_tellCouples 47 [some (.ref 137), some (.int (Int32.ofInt v1)), some (.int (Int32.ofInt v64)), none, none] [.int (Int32.ofInt v72), .ref 137] (mz_mk g73 x) Q
          replace hE := zf_t2 hE hc74
          refine mz_pI rfl fd_12_326 (sc_137 _) hIg73 bd_137_37 (by omega) (by omega) (fun g75 hIg75 hug75 => ?_)
          replace hE := zf_tr hE (zf_lg hug75)
          refine mm_g 1 (pc1 := 51) (lo1 := [some (.ref 137), some (.int (Int32.ofInt v1)), some (.int (Int32.ofInt v64)), none, none]) (st1 := [.ref 137]) (H1 := mz_mk g75 x) rfl ?_
          refine mz_fgR (v := 164) rfl fd_12_109 (by decide) (sc_137 _) (rf_137_42 _ _ _) ?_
          refine mz_bip rfl bip_6 ?_
          refine mm_g 1 (pc1 := 57) (lo1 := [some (.ref 137), some (.int (Int32.ofInt v1)), some (.int (Int32.ofInt v64)), none, none]) (st1 := [.int (Int32.ofInt v1), .int (Int32.ofInt 6), .ref 164]) (H1 := mz_mk g75 x) rfl ?_
          refine mz_imul rfl ?_
          refine mm_g 1 (pc1 := 59) (lo1 := [some (.ref 137), some (.int (Int32.ofInt v1)), some (.int (Int32.ofInt v64)), none, none]) (st1 := [.int (Int32.ofInt v64), .int (Int32.ofInt (6 * v1)), .ref 164]) (H1 := mz_mk g75 x) rfl ?_
          refine mz_iadd rfl ?_
          refine mm_g 2 (pc1 := 62) (lo1 := [some (.ref 137), some (.int (Int32.ofInt v1)), some (.int (Int32.ofInt v64)), none, none]) (st1 := [.int (Int32.ofInt 1), .ref 137, .int (Int32.ofInt ((6 * v1) + v64)), .ref 164]) (H1 := mz_mk g75 x) rfl ?_
          refine mz_cv rfl mt_12_427 (by decide) (sc_137 _) rfl (Nat.le_of_ble_eq_true rfl) (by omega) (f_X12_compared (by omega) hx hIg75 (by decide) (by decide) (fun v76 g77 hIg77 hfg77 l_v76 u_v76 hc78 => ⟨_, rfl, ?_⟩))
          show mm_W d mmX12_tellCouples 65 [some (.ref 137), some (.int (Int32.ofInt v1)), some (.int (Int32.ofInt v64)), none, none] [.int (Int32.ofInt v76), .int (Int32.ofInt ((6 * v1) + v64)), .ref 164] (mz_mk g77 x) Q
          replace hE := zf_t2 hE hc78
          refine mz_sI rfl (sh_164 _) (by omega) (by omega) (by decide) hIg77 (ba_164 _) (by omega) (by omega) (fun g79 hIg79 hug79 => ?_)
          replace hE := zf_tr hE (zf_lg hug79)
          refine mz_iincR (v := v64) (lo2 := [some (.ref 137), some (.int (Int32.ofInt v1)), some (.int (Int32.ofInt (v64 + 1))), none, none]) rfl rfl rfl (Nat.le_of_ble_eq_true rfl) rfl ?_
          refine mz_gt (tgt := 27) rfl rfl ?_
          exact ih66 ((6 - (v64 + 1)).toNat) (by omega) (v64 + 1) g79 rfl (by omega) (by omega) hIg79 (fun k j hk => ((hug79.2 k j (fun h => hk (Or.inr (Or.inr (Or.inr h.1))))).trans ((hfg77 k j (fun h => hk (Or.inr (Or.inr (Or.inl h))))).trans ((hug75.2 k j (fun h => hk (Or.inr (Or.inl h)))).trans ((hfg73 k j (fun h => hk (Or.inl h))).trans (hfg65 k j (fun h => hk (Or.elim h (fun h => (Or.inl h)) (fun h => (Or.elim h (fun h => (Or.inr (Or.inl h))) (fun h => (Or.elim h (fun h => (Or.inr (Or.inr (Or.inl h)))) (fun h => (Or.inr (Or.inr (Or.inr h)))))))))))))))) ⟨fj70, Nat.lt_of_lt_of_le (show ((6 - (v64 + 1)).toNat) < n67 from (by omega)) fn71, hE⟩
      exact L69 _ 0 g63 rfl (by decide) (by decide) hIg63 (fun _ _ _ => rfl) ⟨3000000000, by omega, zf_rf⟩
  exact L6 _ 0 none g rfl (by decide) (by decide) mz_nl_n hI (fun _ _ _ => rfl) ⟨3000000000, by omega, hE⟩
def fw_X12_coupleOf (x : mm_X) (a1 : Int) : Nat → Nat → Prop := fun k j => k = 157 ∨ (k = 137 ∧ j = 36) ∨ k = 158 ∨ (k = 137 ∧ j = 37) ∨ k = 159 ∨ k = 164 ∨ k = 165
theorem f_X12_coupleOf {d : Nat} (hd : 14 ≤ d) {x : mm_X} (hx : mk_x x) {g : mz_G} (hI : mz_inv g) {a1 : Int} (l_a1 : 0 ≤ a1) (u_a1 : a1 ≤ 5) {Q : (Option Value ⊕ Nat) → mm_H → Prop} (hQ : ∀ (r : Int) (g1 : mz_G), mz_inv g1 → mz_fr (fw_X12_coupleOf x a1) g g1 → (-1) ≤ r → r ≤ 5 → zf_E (zF_X12_coupleOf a1 g) ((r, g1)) → Q (.inl (some (.int (Int32.ofInt r)))) (mz_mk g1 x)) : mm_C d 277 [.ref 137, .int (Int32.ofInt a1)] (mz_mk g x) Q := by
  refine ⟨mmX12_coupleOf, [some (.ref 137), some (.int (Int32.ofInt a1)), none, none, none, none, none], rfl, rfl, ?_⟩
  have hE : zf_E (zF_X12_coupleOf a1 g) (zF_X12_coupleOf a1 g) := zf_rf
  refine mm_g 1 (pc1 := 1) (lo1 := [some (.ref 137), some (.int (Int32.ofInt a1)), none, none, none, none, none]) (st1 := [.ref 137]) (H1 := mz_mk g x) rfl ?_
  refine mz_cv rfl mt_12_470 (by decide) (sc_137 _) rfl (Nat.le_of_ble_eq_true rfl) (by omega) (f_X12_tellCouples (by omega) hx hI (fun g1 hIg1 hfg1 hc2 => ⟨_, rfl, ?_⟩))
  show mm_W d mmX12_coupleOf 4 [some (.ref 137), some (.int (Int32.ofInt a1)), none, none, none, none, none] [] (mz_mk g1 x) Q
  replace hE := zf_t1 hE hc2
  refine mm_g 2 (pc1 := 6) (lo1 := [some (.ref 137), some (.int (Int32.ofInt a1)), none, none, none, none, none]) (st1 := [.ref 137, .int (Int32.ofInt 1)]) (H1 := mz_mk g1 x) rfl ?_
  refine mz_fgR (v := 140) rfl fd_12_36 (by decide) (sc_137 _) (rf_137_3 _ _ _) ?_
  refine mm_g 1 (pc1 := 10) (lo1 := [some (.ref 137), some (.int (Int32.ofInt a1)), none, none, none, none, none]) (st1 := [.int (Int32.ofInt 1), .ref 140, .int (Int32.ofInt 1)]) (H1 := mz_mk g1 x) rfl ?_
  refine mz_aI rfl (sh_140 _) (by omega) (by omega) (by decide) hIg1 bt_140_1 (fun v3 e_v3 l_v3 u_v3 => ?_)
  have e_v3 : g1 140 1 = v3 := e_v3
  replace hE := zf_tr hE (zf_le e_v3)
  refine mz_ishl rfl (fun v4 e_v4 hwv4 => ?_)
  have b_v4 : 1 ≤ v4 ∧ v4 ≤ 64 := by rw [e_v4]; exact mz_shl_b (lx := 1) (hx := 1) (k := 6) (by decide) (by decide) (by omega) (by omega) (by omega) (by omega)
  have l_v4 := b_v4.1
  have u_v4 := b_v4.2
  replace hE := zf_tr hE (zf_le e_v4.symm)
  refine mm_g 1 (pc1 := 13) (lo1 := [some (.ref 137), some (.int (Int32.ofInt a1)), none, none, none, none, none]) (st1 := [.int (Int32.ofInt 1), .int (Int32.ofInt v4)]) (H1 := mz_mk g1 x) rfl ?_
  refine mz_isub rfl ?_
  refine mm_g 1 (pc1 := 15) (lo1 := [some (.ref 137), some (.int (Int32.ofInt a1)), some (.int (Int32.ofInt (v4 - 1))), none, none, none, none]) (st1 := []) (H1 := mz_mk g1 x) rfl ?_
  have L13 : ∀ n12 : Nat, ∀ (v5 : Int) (o6 : Option Value) (o7 : Option Value) (o8 : Option Value) (o9 : Option Value), (v5).toNat = n12 → 0 ≤ v5 → v5 ≤ 63 → mz_nl o6 → mz_nl o7 → mz_nl o8 → mz_nl o9 → (∃ fk : Nat, (v5).toNat < fk ∧ zf_E (zF_X12_coupleOf a1 g) (zL_X12_coupleOf_15 a1 g1 fk v5)) → mm_W d mmX12_coupleOf 15 [some (.ref 137), some (.int (Int32.ofInt a1)), some (.int (Int32.ofInt v5)), o6, o7, o8, o9] [] (mz_mk g1 x) Q := by
    intro n12
    induction n12 using Nat.strongRecOn with
    | ind n12 ih11 =>
    intro v5 o6 o7 o8 o9 hmn12 l_v5 u_v5 h_o6 h_o7 h_o8 h_o9 hF
    obtain ⟨fk, fl, hE⟩ := hF
    obtain ⟨fj14, rfl⟩ : ∃ fj, fk = fj + 1 := ⟨fk - 1, by omega⟩
    have fn15 : n12 ≤ fj14 := by omega
    replace hE := zf_tr hE zL_X12_coupleOf_15_s
    refine mm_g 1 (pc1 := 16) (lo1 := [some (.ref 137), some (.int (Int32.ofInt a1)), some (.int (Int32.ofInt v5)), o6, o7, o8, o9]) (st1 := [.int (Int32.ofInt v5)]) (H1 := mz_mk g1 x) rfl ?_
    refine mz_if_eq (tgt := 159) rfl rfl (mz_rg l_v5 u_v5) (fun c16_15 => ?_) (fun c16_15 => ?_)
    · skip
      replace hE := zf_ip hE c16_15
      refine mm_g 1 (pc1 := 160) (lo1 := [some (.ref 137), some (.int (Int32.ofInt a1)), some (.int (Int32.ofInt v5)), o6, o7, o8, o9]) (st1 := [.int (Int32.ofInt (-1))]) (H1 := mz_mk g1 x) rfl ?_
      exact mm_rt rfl rfl (hQ _ _ hIg1 (fun k j hk => (hfg1 k j (fun h => hk (Or.elim h (fun h => (Or.inl h)) (fun h => (Or.elim h (fun h => (Or.inr (Or.inl h))) (fun h => (Or.elim h (fun h => (Or.inr (Or.inr (Or.inl h)))) (fun h => (Or.elim h (fun h => (Or.inr (Or.inr (Or.inr (Or.inl h))))) (fun h => (Or.elim h (fun h => (Or.inr (Or.inr (Or.inr (Or.inr (Or.inl h)))))) (fun h => (Or.elim h (fun h => (Or.inr (Or.inr (Or.inr (Or.inr (Or.inr (Or.inl h))))))) (fun h => (Or.inr (Or.inr (Or.inr (Or.inr (Or.inr (Or.inr h))))))))))))))))))))) (by decide) (by decide) hE)
    · skip
      replace hE := zf_in hE c16_15
      refine mm_g 2 (pc1 := 21) (lo1 := [some (.ref 137), some (.int (Int32.ofInt a1)), some (.int (Int32.ofInt v5)), some (.int (Int32.ofInt 0)), o7, o8, o9]) (st1 := []) (H1 := mz_mk g1 x) rfl ?_
      have hO20 := hE
      have L21 : ∀ n19 : Nat, ∀ (v16 : Int), (6 - v16).toNat = n19 → 0 ≤ v16 → v16 ≤ 6 → (∀ i_ : Int, 0 ≤ i_ → i_ < v16 → mz_bit v5 i_ = 0) → (∃ fk : Nat, (6 - v16).toNat < fk ∧ zf_E (zL_X12_coupleOf_21 a1 g1 3000000000 v5 0) (zL_X12_coupleOf_21 a1 g1 fk v5 v16)) → mm_W d mmX12_coupleOf 21 [some (.ref 137), some (.int (Int32.ofInt a1)), some (.int (Int32.ofInt v5)), some (.int (Int32.ofInt v16)), o7, o8, o9] [] (mz_mk g1 x) Q := by
        intro n19
        induction n19 using Nat.strongRecOn with
        | ind n19 ih18 =>
        intro v16 hmn19 l_v16 u_v16 hv22 hF
        obtain ⟨fk, fl, hE⟩ := hF
        obtain ⟨fj23, rfl⟩ : ∃ fj, fk = fj + 1 := ⟨fk - 1, by omega⟩
        have fn24 : n19 ≤ fj23 := by omega
        replace hE := zf_tr hE zL_X12_coupleOf_21_s
        have hb_v16 := hv22
        have ht_v16 : v16 ≤ 5 := mz_bit_ex (by omega) (by omega) (by omega) hb_v16
        refine mm_g 2 (pc1 := 23) (lo1 := [some (.ref 137), some (.int (Int32.ofInt a1)), some (.int (Int32.ofInt v5)), some (.int (Int32.ofInt v16)), o7, o8, o9]) (st1 := [.int (Int32.ofInt v16), .int (Int32.ofInt v5)]) (H1 := mz_mk g1 x) rfl ?_
        refine mz_cs rfl mt_12_450 (by decide) rfl (Nat.le_of_ble_eq_true rfl) (by omega) (f_X12_isOf (by omega) hx hIg1 (by omega) (by omega) (by omega) (by omega) (fun v25 l_v25 u_v25 hp26 hc27 => ⟨_, rfl, ?_⟩))
        show mm_W d mmX12_coupleOf 26 [some (.ref 137), some (.int (Int32.ofInt a1)), some (.int (Int32.ofInt v5)), some (.int (Int32.ofInt v16)), o7, o8, o9] [.int (Int32.ofInt v25)] (mz_mk g1 x) Q
        replace hE := zf_t1 hE hc27
        refine mz_if_ne (tgt := 35) rfl rfl (mz_rg l_v25 u_v25) (fun c26_27 => ?_) (fun c26_27 => ?_)
        · skip
          replace hE := zf_in hE c26_27
          replace hE := zf_t1 hO20 hE
          refine mm_g 3 (pc1 := 38) (lo1 := [some (.ref 137), some (.int (Int32.ofInt a1)), some (.int (Int32.ofInt v5)), some (.int (Int32.ofInt v16)), o7, o8, o9]) (st1 := [.int (Int32.ofInt v16), .int (Int32.ofInt 1), .int (Int32.ofInt v5)]) (H1 := mz_mk g1 x) rfl ?_
          refine mz_ishl rfl (fun v28 e_v28 hwv28 => ?_)
          have b_v28 : 1 ≤ v28 ∧ v28 ≤ 32 := by rw [e_v28]; exact mz_shl_b (lx := 1) (hx := 1) (k := 5) (by decide) (by decide) (by omega) (by omega) (by omega) (by omega)
          have l_v28 := b_v28.1
          have u_v28 := b_v28.2
          replace hE := zf_tr hE (zf_le e_v28.symm)
          refine mm_g 1 (pc1 := 40) (lo1 := [some (.ref 137), some (.int (Int32.ofInt a1)), some (.int (Int32.ofInt v5)), some (.int (Int32.ofInt v16)), o7, o8, o9]) (st1 := [.int (Int32.ofInt (-1)), .int (Int32.ofInt v28), .int (Int32.ofInt v5)]) (H1 := mz_mk g1 x) rfl ?_
          refine mz_ixor rfl (fun v29 e_v29 hwv29 => ?_)
          have l_v29 := hwv29.1
          have u_v29 := hwv29.2
          replace hE := zf_tr hE (zf_le e_v29.symm)
          refine mz_iand rfl (fun v30 e_v30 hwv30 => ?_)
          have b_v30 : 0 ≤ v30 ∧ v30 ≤ 63 := by rw [e_v30]; exact mz_and_l (by omega) (by omega) (mz_rg l_v29 u_v29)
          have l_v30 := b_v30.1
          have u_v30 := b_v30.2
          have w_v30 : v30 ≤ v5 := by rw [e_v30]; exact (mz_and_l (hi := v5) (by omega) (Int.le_refl _) (mz_rg l_v29 u_v29) (by omega)).2
          replace hE := zf_tr hE (zf_le e_v30.symm)
          have hc_v30 : v30 < v5 := mz_clr e_v28 e_v29 e_v30 (by omega) (by omega) (by omega) (by omega) (by rw [← hp26 (by omega) (by omega) (by omega)]; omega)
          refine mm_g 4 (pc1 := 48) (lo1 := [some (.ref 137), some (.int (Int32.ofInt a1)), some (.int (Int32.ofInt v5)), some (.int (Int32.ofInt v16)), some (.int (Int32.ofInt v30)), some (.int (Int32.ofInt (-1))), o9]) (st1 := [.ref 137]) (H1 := mz_mk g1 x) rfl ?_
          refine mz_fgR (v := 140) rfl fd_12_36 (by decide) (sc_137 _) (rf_137_3 _ _ _) ?_
          refine mm_g 1 (pc1 := 52) (lo1 := [some (.ref 137), some (.int (Int32.ofInt a1)), some (.int (Int32.ofInt v5)), some (.int (Int32.ofInt v16)), some (.int (Int32.ofInt v30)), some (.int (Int32.ofInt (-1))), o9]) (st1 := [.int (Int32.ofInt 1), .ref 140]) (H1 := mz_mk g1 x) rfl ?_
          refine mz_ia (v := v3) rfl (sh_140 _) (by decide) (by decide) (by decide) e_v3 ?_
          replace hE := zf_tr hE (zf_le e_v3)
          refine mm_g 1 (pc1 := 54) (lo1 := [some (.ref 137), some (.int (Int32.ofInt a1)), some (.int (Int32.ofInt v5)), some (.int (Int32.ofInt v16)), some (.int (Int32.ofInt v30)), some (.int (Int32.ofInt (-1))), o9]) (st1 := [.int (Int32.ofInt 1), .int (Int32.ofInt v3)]) (H1 := mz_mk g1 x) rfl ?_
          refine mz_isub rfl ?_
          refine mm_g 1 (pc1 := 57) (lo1 := [some (.ref 137), some (.int (Int32.ofInt a1)), some (.int (Int32.ofInt v5)), some (.int (Int32.ofInt v16)), some (.int (Int32.ofInt v30)), some (.int (Int32.ofInt (-1))), some (.int (Int32.ofInt (v3 - 1)))]) (st1 := []) (H1 := mz_mk g1 x) rfl ?_
          have hO36 := hE
          have L37 : ∀ n35 : Nat, ∀ (v31 : Int) (v32 : Int), (v32 - 0).toNat = n35 → (-1) ≤ v31 → v31 ≤ 5 → (-1) ≤ v32 → v32 ≤ 5 → (∃ fk : Nat, (v32 - 0).toNat < fk ∧ zf_E (zL_X12_coupleOf_57 a1 g1 3000000000 v5 v16 v30 (-1) (v3 - 1)) (zL_X12_coupleOf_57 a1 g1 fk v5 v16 v30 v31 v32)) → mm_W d mmX12_coupleOf 57 [some (.ref 137), some (.int (Int32.ofInt a1)), some (.int (Int32.ofInt v5)), some (.int (Int32.ofInt v16)), some (.int (Int32.ofInt v30)), some (.int (Int32.ofInt v31)), some (.int (Int32.ofInt v32))] [] (mz_mk g1 x) Q := by
            intro n35
            induction n35 using Nat.strongRecOn with
            | ind n35 ih34 =>
            intro v31 v32 hmn35 l_v31 u_v31 l_v32 u_v32 hF
            obtain ⟨fk, fl, hE⟩ := hF
            obtain ⟨fj38, rfl⟩ : ∃ fj, fk = fj + 1 := ⟨fk - 1, by omega⟩
            have fn39 : n35 ≤ fj38 := by omega
            replace hE := zf_tr hE zL_X12_coupleOf_57_s
            refine mm_g 2 (pc1 := 60) (lo1 := [some (.ref 137), some (.int (Int32.ofInt a1)), some (.int (Int32.ofInt v5)), some (.int (Int32.ofInt v16)), some (.int (Int32.ofInt v30)), some (.int (Int32.ofInt v31)), some (.int (Int32.ofInt v32))]) (st1 := [.int (Int32.ofInt v16), .int (Int32.ofInt v32)]) (H1 := mz_mk g1 x) rfl ?_
            refine mz_ic_le (tgt := 119) rfl rfl (mz_rg l_v32 u_v32) (mz_rg l_v16 u_v16) (fun c60_39 => ?_) (fun c60_39 => ?_)
            · skip
              replace hE := zf_nl hE c60_39
              replace hE := zf_t1 hO36 hE
              refine mm_g 2 (pc1 := 121) (lo1 := [some (.ref 137), some (.int (Int32.ofInt a1)), some (.int (Int32.ofInt v5)), some (.int (Int32.ofInt v16)), some (.int (Int32.ofInt v30)), some (.int (Int32.ofInt v31)), some (.int (Int32.ofInt v32))]) (st1 := [.int (Int32.ofInt a1), .int (Int32.ofInt v16)]) (H1 := mz_mk g1 x) rfl ?_
              refine mz_ic_ne (tgt := 127) rfl rfl (mz_rg l_v16 u_v16) (mz_rg l_a1 u_a1) (fun c121_39 => ?_) (fun c121_39 => ?_)
              · skip
                replace hE := zf_in hE c121_39
                refine mm_g 2 (pc1 := 130) (lo1 := [some (.ref 137), some (.int (Int32.ofInt a1)), some (.int (Int32.ofInt v5)), some (.int (Int32.ofInt v16)), some (.int (Int32.ofInt v30)), some (.int (Int32.ofInt v31)), some (.int (Int32.ofInt v32))]) (st1 := [.int (Int32.ofInt a1), .int (Int32.ofInt v31)]) (H1 := mz_mk g1 x) rfl ?_
                refine mz_ic_ne (tgt := 135) rfl rfl (mz_rg l_v31 u_v31) (mz_rg l_a1 u_a1) (fun c130_39 => ?_) (fun c130_39 => ?_)
                · skip
                  replace hE := zf_in hE c130_39
                  refine mm_g 2 (pc1 := 138) (lo1 := [some (.ref 137), some (.int (Int32.ofInt a1)), some (.int (Int32.ofInt v5)), some (.int (Int32.ofInt v16)), some (.int (Int32.ofInt v30)), some (.int (Int32.ofInt v31)), some (.int (Int32.ofInt v32))]) (st1 := [.int (Int32.ofInt (-1)), .int (Int32.ofInt v31)]) (H1 := mz_mk g1 x) rfl ?_
                  refine mz_ic_ne (tgt := 146) rfl rfl (mz_rg l_v31 u_v31) ⟨by decide, by decide⟩ (fun c138_39 => ?_) (fun c138_39 => ?_)
                  · skip
                    replace hE := zf_in hE c138_39
                    refine mm_g 3 (pc1 := 151) (lo1 := [some (.ref 137), some (.int (Int32.ofInt a1)), some (.int (Int32.ofInt v5)), some (.int (Int32.ofInt v16)), some (.int (Int32.ofInt v30)), some (.int (Int32.ofInt v31)), some (.int (Int32.ofInt v32))]) (st1 := [.int (Int32.ofInt v31), .int (Int32.ofInt 1), .int (Int32.ofInt v30)]) (H1 := mz_mk g1 x) rfl ?_
                    refine mz_ishl rfl (fun v40 e_v40 hwv40 => ?_)
                    have b_v40 : 1 ≤ v40 ∧ v40 ≤ 32 := by rw [e_v40]; exact mz_shl_b (lx := 1) (hx := 1) (k := 5) (by decide) (by decide) (by omega) (by omega) (by omega) (by omega)
                    have l_v40 := b_v40.1
                    have u_v40 := b_v40.2
                    replace hE := zf_tr hE (zf_le e_v40.symm)
                    refine mm_g 1 (pc1 := 153) (lo1 := [some (.ref 137), some (.int (Int32.ofInt a1)), some (.int (Int32.ofInt v5)), some (.int (Int32.ofInt v16)), some (.int (Int32.ofInt v30)), some (.int (Int32.ofInt v31)), some (.int (Int32.ofInt v32))]) (st1 := [.int (Int32.ofInt (-1)), .int (Int32.ofInt v40), .int (Int32.ofInt v30)]) (H1 := mz_mk g1 x) rfl ?_
                    refine mz_ixor rfl (fun v41 e_v41 hwv41 => ?_)
                    have l_v41 := hwv41.1
                    have u_v41 := hwv41.2
                    replace hE := zf_tr hE (zf_le e_v41.symm)
                    refine mz_iand rfl (fun v42 e_v42 hwv42 => ?_)
                    have b_v42 : 0 ≤ v42 ∧ v42 ≤ 62 := by rw [e_v42]; exact mz_and_l (by omega) (by omega) (mz_rg l_v41 u_v41)
                    have l_v42 := b_v42.1
                    have u_v42 := b_v42.2
                    have w_v42 : v42 ≤ v30 := by rw [e_v42]; exact (mz_and_l (hi := v30) (by omega) (Int.le_refl _) (mz_rg l_v41 u_v41) (by omega)).2
                    replace hE := zf_tr hE (zf_le e_v42.symm)
                    refine mm_g 1 (pc1 := 156) (lo1 := [some (.ref 137), some (.int (Int32.ofInt a1)), some (.int (Int32.ofInt v42)), some (.int (Int32.ofInt v16)), some (.int (Int32.ofInt v30)), some (.int (Int32.ofInt v31)), some (.int (Int32.ofInt v32))]) (st1 := []) (H1 := mz_mk g1 x) rfl ?_
                    refine mz_gt (tgt := 15) rfl rfl ?_
                    exact ih11 ((v42).toNat) (by omega) v42 (some (.int (Int32.ofInt v16))) (some (.int (Int32.ofInt v30))) (some (.int (Int32.ofInt v31))) (some (.int (Int32.ofInt v32))) rfl (by omega) (by omega) (mz_nl_i _) (mz_nl_i _) (mz_nl_i _) (mz_nl_i _) ⟨fj14, Nat.lt_of_lt_of_le (show ((v42).toNat) < n12 from (by omega)) fn15, hE⟩
                  · skip
                    replace hE := zf_ip hE c138_39
                    refine mm_g 1 (pc1 := 143) (lo1 := [some (.ref 137), some (.int (Int32.ofInt a1)), some (.int (Int32.ofInt v5)), some (.int (Int32.ofInt v16)), some (.int (Int32.ofInt v30)), some (.int (Int32.ofInt v31)), some (.int (Int32.ofInt v32))]) (st1 := [.int (Int32.ofInt v30)]) (H1 := mz_mk g1 x) rfl ?_
                    refine mz_gt (tgt := 155) rfl rfl ?_
                    refine mm_g 1 (pc1 := 156) (lo1 := [some (.ref 137), some (.int (Int32.ofInt a1)), some (.int (Int32.ofInt v30)), some (.int (Int32.ofInt v16)), some (.int (Int32.ofInt v30)), some (.int (Int32.ofInt v31)), some (.int (Int32.ofInt v32))]) (st1 := []) (H1 := mz_mk g1 x) rfl ?_
                    refine mz_gt (tgt := 15) rfl rfl ?_
                    exact ih11 ((v30).toNat) (by omega) v30 (some (.int (Int32.ofInt v16))) (some (.int (Int32.ofInt v30))) (some (.int (Int32.ofInt v31))) (some (.int (Int32.ofInt v32))) rfl (by omega) (by omega) (mz_nl_i _) (mz_nl_i _) (mz_nl_i _) (mz_nl_i _) ⟨fj14, Nat.lt_of_lt_of_le (show ((v30).toNat) < n12 from (by omega)) fn15, hE⟩
                · skip
                  replace hE := zf_ip hE c130_39
                  refine mm_g 1 (pc1 := 134) (lo1 := [some (.ref 137), some (.int (Int32.ofInt a1)), some (.int (Int32.ofInt v5)), some (.int (Int32.ofInt v16)), some (.int (Int32.ofInt v30)), some (.int (Int32.ofInt v31)), some (.int (Int32.ofInt v32))]) (st1 := [.int (Int32.ofInt v16)]) (H1 := mz_mk g1 x) rfl ?_
                  exact mm_rt rfl rfl (hQ _ _ hIg1 (fun k j hk => (hfg1 k j (fun h => hk (Or.elim h (fun h => (Or.inl h)) (fun h => (Or.elim h (fun h => (Or.inr (Or.inl h))) (fun h => (Or.elim h (fun h => (Or.inr (Or.inr (Or.inl h)))) (fun h => (Or.elim h (fun h => (Or.inr (Or.inr (Or.inr (Or.inl h))))) (fun h => (Or.elim h (fun h => (Or.inr (Or.inr (Or.inr (Or.inr (Or.inl h)))))) (fun h => (Or.elim h (fun h => (Or.inr (Or.inr (Or.inr (Or.inr (Or.inr (Or.inl h))))))) (fun h => (Or.inr (Or.inr (Or.inr (Or.inr (Or.inr (Or.inr h))))))))))))))))))))) (by omega) (by omega) hE)
              · skip
                replace hE := zf_ip hE c121_39
                refine mm_g 1 (pc1 := 126) (lo1 := [some (.ref 137), some (.int (Int32.ofInt a1)), some (.int (Int32.ofInt v5)), some (.int (Int32.ofInt v16)), some (.int (Int32.ofInt v30)), some (.int (Int32.ofInt v31)), some (.int (Int32.ofInt v32))]) (st1 := [.int (Int32.ofInt v31)]) (H1 := mz_mk g1 x) rfl ?_
                exact mm_rt rfl rfl (hQ _ _ hIg1 (fun k j hk => (hfg1 k j (fun h => hk (Or.elim h (fun h => (Or.inl h)) (fun h => (Or.elim h (fun h => (Or.inr (Or.inl h))) (fun h => (Or.elim h (fun h => (Or.inr (Or.inr (Or.inl h)))) (fun h => (Or.elim h (fun h => (Or.inr (Or.inr (Or.inr (Or.inl h))))) (fun h => (Or.elim h (fun h => (Or.inr (Or.inr (Or.inr (Or.inr (Or.inl h)))))) (fun h => (Or.elim h (fun h => (Or.inr (Or.inr (Or.inr (Or.inr (Or.inr (Or.inl h))))))) (fun h => (Or.inr (Or.inr (Or.inr (Or.inr (Or.inr (Or.inr h))))))))))))))))))))) (by omega) (by omega) hE)
            · skip
              replace hE := zf_ip hE c60_39
              refine mm_g 2 (pc1 := 67) (lo1 := [some (.ref 137), some (.int (Int32.ofInt a1)), some (.int (Int32.ofInt v5)), some (.int (Int32.ofInt v16)), some (.int (Int32.ofInt v30)), some (.int (Int32.ofInt v31)), some (.int (Int32.ofInt v32))]) (st1 := [.int (Int32.ofInt v32), .int (Int32.ofInt v30)]) (H1 := mz_mk g1 x) rfl ?_
              refine mz_cs rfl mt_12_450 (by decide) rfl (Nat.le_of_ble_eq_true rfl) (by omega) (f_X12_isOf (by omega) hx hIg1 (by omega) (by omega) (by omega) (by omega) (fun v43 l_v43 u_v43 hp44 hc45 => ⟨_, rfl, ?_⟩))
              show mm_W d mmX12_coupleOf 70 [some (.ref 137), some (.int (Int32.ofInt a1)), some (.int (Int32.ofInt v5)), some (.int (Int32.ofInt v16)), some (.int (Int32.ofInt v30)), some (.int (Int32.ofInt v31)), some (.int (Int32.ofInt v32))] [.int (Int32.ofInt v43)] (mz_mk g1 x) Q
              replace hE := zf_t1 hE hc45
              refine mz_if_eq (tgt := 113) rfl rfl (mz_rg l_v43 u_v43) (fun c70_45 => ?_) (fun c70_45 => ?_)
              · skip
                replace hE := zf_ip hE c70_45
                refine mz_iincR (v := v32) (lo2 := [some (.ref 137), some (.int (Int32.ofInt a1)), some (.int (Int32.ofInt v5)), some (.int (Int32.ofInt v16)), some (.int (Int32.ofInt v30)), some (.int (Int32.ofInt v31)), some (.int (Int32.ofInt (v32 + (-1))))]) rfl rfl rfl (Nat.le_of_ble_eq_true rfl) rfl ?_
                refine mz_gt (tgt := 57) rfl rfl ?_
                exact ih34 (((v32 + (-1)) - 0).toNat) (by omega) v31 (v32 + (-1)) rfl (by omega) (by omega) (by omega) (by omega) ⟨fj38, Nat.lt_of_lt_of_le (show (((v32 + (-1)) - 0).toNat) < n35 from (by omega)) fn39, hE⟩
              · skip
                replace hE := zf_in hE c70_45
                refine mm_g 1 (pc1 := 74) (lo1 := [some (.ref 137), some (.int (Int32.ofInt a1)), some (.int (Int32.ofInt v5)), some (.int (Int32.ofInt v16)), some (.int (Int32.ofInt v30)), some (.int (Int32.ofInt v31)), some (.int (Int32.ofInt v32))]) (st1 := [.ref 137]) (H1 := mz_mk g1 x) rfl ?_
                refine mz_fgR (v := 164) rfl fd_12_109 (by decide) (sc_137 _) (rf_137_42 _ _ _) ?_
                refine mz_bip rfl bip_6 ?_
                refine mm_g 1 (pc1 := 80) (lo1 := [some (.ref 137), some (.int (Int32.ofInt a1)), some (.int (Int32.ofInt v5)), some (.int (Int32.ofInt v16)), some (.int (Int32.ofInt v30)), some (.int (Int32.ofInt v31)), some (.int (Int32.ofInt v32))]) (st1 := [.int (Int32.ofInt v16), .int (Int32.ofInt 6), .ref 164]) (H1 := mz_mk g1 x) rfl ?_
                refine mz_imul rfl ?_
                refine mm_g 1 (pc1 := 83) (lo1 := [some (.ref 137), some (.int (Int32.ofInt a1)), some (.int (Int32.ofInt v5)), some (.int (Int32.ofInt v16)), some (.int (Int32.ofInt v30)), some (.int (Int32.ofInt v31)), some (.int (Int32.ofInt v32))]) (st1 := [.int (Int32.ofInt v32), .int (Int32.ofInt (6 * v16)), .ref 164]) (H1 := mz_mk g1 x) rfl ?_
                refine mz_iadd rfl ?_
                refine mz_aI rfl (sh_164 _) (by omega) (by omega) (by decide) hIg1 (ba_164 _) (fun v46 e_v46 l_v46 u_v46 => ?_)
                replace hE := zf_tr hE (zf_le e_v46)
                refine mm_g 1 (pc1 := 86) (lo1 := [some (.ref 137), some (.int (Int32.ofInt a1)), some (.int (Int32.ofInt v5)), some (.int (Int32.ofInt v16)), some (.int (Int32.ofInt v30)), some (.int (Int32.ofInt v31)), some (.int (Int32.ofInt v32))]) (st1 := [.ref 137, .int (Int32.ofInt v46)]) (H1 := mz_mk g1 x) rfl ?_
                refine mz_fgR (v := 165) rfl fd_12_112 (by decide) (sc_137 _) (rf_137_43 _ _ _) ?_
                refine mm_g 3 (pc1 := 94) (lo1 := [some (.ref 137), some (.int (Int32.ofInt a1)), some (.int (Int32.ofInt v5)), some (.int (Int32.ofInt v16)), some (.int (Int32.ofInt v30)), some (.int (Int32.ofInt v31)), some (.int (Int32.ofInt v32))]) (st1 := [.int (Int32.ofInt v32), .int (Int32.ofInt 1), .int (Int32.ofInt v30), .ref 165, .int (Int32.ofInt v46)]) (H1 := mz_mk g1 x) rfl ?_
                refine mz_ishl rfl (fun v47 e_v47 hwv47 => ?_)
                have b_v47 : 1 ≤ v47 ∧ v47 ≤ 32 := by rw [e_v47]; exact mz_shl_b (lx := 1) (hx := 1) (k := 5) (by decide) (by decide) (by omega) (by omega) (by omega) (by omega)
                have l_v47 := b_v47.1
                have u_v47 := b_v47.2
                replace hE := zf_tr hE (zf_le e_v47.symm)
                refine mm_g 1 (pc1 := 96) (lo1 := [some (.ref 137), some (.int (Int32.ofInt a1)), some (.int (Int32.ofInt v5)), some (.int (Int32.ofInt v16)), some (.int (Int32.ofInt v30)), some (.int (Int32.ofInt v31)), some (.int (Int32.ofInt v32))]) (st1 := [.int (Int32.ofInt (-1)), .int (Int32.ofInt v47), .int (Int32.ofInt v30), .ref 165, .int (Int32.ofInt v46)]) (H1 := mz_mk g1 x) rfl ?_
                refine mz_ixor rfl (fun v48 e_v48 hwv48 => ?_)
                have l_v48 := hwv48.1
                have u_v48 := hwv48.2
                replace hE := zf_tr hE (zf_le e_v48.symm)
                refine mz_iand rfl (fun v49 e_v49 hwv49 => ?_)
                have b_v49 : 0 ≤ v49 ∧ v49 ≤ 62 := by rw [e_v49]; exact mz_and_l (by omega) (by omega) (mz_rg l_v48 u_v48)
                have l_v49 := b_v49.1
                have u_v49 := b_v49.2
                have w_v49 : v49 ≤ v30 := by rw [e_v49]; exact (mz_and_l (hi := v30) (by omega) (Int.le_refl _) (mz_rg l_v48 u_v48) (by omega)).2
                replace hE := zf_tr hE (zf_le e_v49.symm)
                refine mz_aI rfl (sh_165 _) (by omega) (by omega) (by decide) hIg1 (ba_165 _) (fun v50 e_v50 l_v50 u_v50 => ?_)
                replace hE := zf_tr hE (zf_le e_v50)
                refine mz_iadd_w rfl (fun v51 e_v51 hwv51 => ?_)
                have l_v51 := hwv51.1
                have u_v51 := hwv51.2
                replace hE := zf_tr hE (zf_le e_v51.symm)
                refine mm_g 1 (pc1 := 101) (lo1 := [some (.ref 137), some (.int (Int32.ofInt a1)), some (.int (Int32.ofInt v5)), some (.int (Int32.ofInt v16)), some (.int (Int32.ofInt v30)), some (.int (Int32.ofInt v31)), some (.int (Int32.ofInt v32))]) (st1 := [.ref 137, .int (Int32.ofInt v51)]) (H1 := mz_mk g1 x) rfl ?_
                refine mz_fgR (v := 165) rfl fd_12_112 (by decide) (sc_137 _) (rf_137_43 _ _ _) ?_
                refine mm_g 1 (pc1 := 105) (lo1 := [some (.ref 137), some (.int (Int32.ofInt a1)), some (.int (Int32.ofInt v5)), some (.int (Int32.ofInt v16)), some (.int (Int32.ofInt v30)), some (.int (Int32.ofInt v31)), some (.int (Int32.ofInt v32))]) (st1 := [.int (Int32.ofInt v5), .ref 165, .int (Int32.ofInt v51)]) (H1 := mz_mk g1 x) rfl ?_
                refine mz_aI rfl (sh_165 _) (by omega) (by omega) (by decide) hIg1 (ba_165 _) (fun v52 e_v52 l_v52 u_v52 => ?_)
                replace hE := zf_tr hE (zf_le e_v52)
                refine mz_ic_ne (tgt := 113) rfl rfl (mz_rg l_v51 u_v51) (mz_rg l_v52 u_v52) (fun c106_52 => ?_) (fun c106_52 => ?_)
                · skip
                  replace hE := zf_in hE c106_52
                  refine mz_iincR (v := v32) (lo2 := [some (.ref 137), some (.int (Int32.ofInt a1)), some (.int (Int32.ofInt v5)), some (.int (Int32.ofInt v16)), some (.int (Int32.ofInt v30)), some (.int (Int32.ofInt v31)), some (.int (Int32.ofInt (v32 + (-1))))]) rfl rfl rfl (Nat.le_of_ble_eq_true rfl) rfl ?_
                  refine mz_gt (tgt := 57) rfl rfl ?_
                  exact ih34 (((v32 + (-1)) - 0).toNat) (by omega) v31 (v32 + (-1)) rfl (by omega) (by omega) (by omega) (by omega) ⟨fj38, Nat.lt_of_lt_of_le (show (((v32 + (-1)) - 0).toNat) < n35 from (by omega)) fn39, hE⟩
                · skip
                  replace hE := zf_ip hE c106_52
                  refine mm_g 2 (pc1 := 113) (lo1 := [some (.ref 137), some (.int (Int32.ofInt a1)), some (.int (Int32.ofInt v5)), some (.int (Int32.ofInt v16)), some (.int (Int32.ofInt v30)), some (.int (Int32.ofInt v32)), some (.int (Int32.ofInt v32))]) (st1 := []) (H1 := mz_mk g1 x) rfl ?_
                  refine mz_iincR (v := v32) (lo2 := [some (.ref 137), some (.int (Int32.ofInt a1)), some (.int (Int32.ofInt v5)), some (.int (Int32.ofInt v16)), some (.int (Int32.ofInt v30)), some (.int (Int32.ofInt v32)), some (.int (Int32.ofInt (v32 + (-1))))]) rfl rfl rfl (Nat.le_of_ble_eq_true rfl) rfl ?_
                  refine mz_gt (tgt := 57) rfl rfl ?_
                  exact ih34 (((v32 + (-1)) - 0).toNat) (by omega) v32 (v32 + (-1)) rfl (by omega) (by omega) (by omega) (by omega) ⟨fj38, Nat.lt_of_lt_of_le (show (((v32 + (-1)) - 0).toNat) < n35 from (by omega)) fn39, hE⟩
          exact L37 _ (-1) (v3 - 1) rfl (by decide) (by decide) (by omega) (by omega) ⟨3000000000, by omega, zf_rf⟩
        · skip
          replace hE := zf_ip hE c26_27
          refine mz_iincR (v := v16) (lo2 := [some (.ref 137), some (.int (Int32.ofInt a1)), some (.int (Int32.ofInt v5)), some (.int (Int32.ofInt (v16 + 1))), o7, o8, o9]) rfl rfl rfl (Nat.le_of_ble_eq_true rfl) rfl ?_
          refine mz_gt (tgt := 21) rfl rfl ?_
          exact ih18 ((6 - (v16 + 1)).toNat) (by omega) (v16 + 1) rfl (by omega) (by omega) (by intro i_ h0 h1; rcases (by omega : i_ < v16 ∨ i_ = v16) with h2 | h2; exact hb_v16 i_ h0 h2; rw [h2, ← hp26 (by omega) (by omega) (by omega)]; omega) ⟨fj23, Nat.lt_of_lt_of_le (show ((6 - (v16 + 1)).toNat) < n19 from (by omega)) fn24, hE⟩
      exact L21 _ 0 rfl (by decide) (by decide) (by intro i_ h0 h1; omega) ⟨3000000000, by omega, zf_rf⟩
  exact L13 _ (v4 - 1) none none none none rfl (by omega) (by omega) mz_nl_n mz_nl_n mz_nl_n mz_nl_n ⟨3000000000, by omega, hE⟩
def fw_X12_trunk (x : mm_X) (a1 : Int) (a2 : Int) : Nat → Nat → Prop := fun k j => (k = 137 ∧ j = 2) ∨ k = 157 ∨ (k = 137 ∧ j = 36) ∨ k = 158 ∨ (k = 137 ∧ j = 37) ∨ k = 159 ∨ k = 164 ∨ k = 165
theorem f_X12_trunk {d : Nat} (hd : 15 ≤ d) {x : mm_X} (hx : mk_x x) {g : mz_G} (hI : mz_inv g) {a1 : Int} (l_a1 : (-2147483648) ≤ a1) (u_a1 : a1 ≤ 2147483647) {a2 : Int} (l_a2 : (-2147483648) ≤ a2) (u_a2 : a2 ≤ 2147483647) (p1 : mz_pv g) (p2 : g 137 30 ≤ 999) {Q : (Option Value ⊕ Nat) → mm_H → Prop} (hQ : ∀ (r : Int) (g1 : mz_G), mz_inv g1 → mz_fr (fw_X12_trunk x a1 a2) g g1 → (-2147483648) ≤ r → r ≤ 2147483647 → (g1 137 30 ≤ 999) → zf_E (zF_X12_trunk a1 a2 g) ((r, g1)) → Q (.inl (some (.int (Int32.ofInt r)))) (mz_mk g1 x)) : mm_C d 246 [.ref 137, .int (Int32.ofInt a1), .int (Int32.ofInt a2)] (mz_mk g x) Q := by
  refine ⟨mmX12_trunk, [some (.ref 137), some (.int (Int32.ofInt a1)), some (.int (Int32.ofInt a2))], rfl, rfl, ?_⟩
  have bz0 := mz_rd hI bd_137_30
  have hpv := p1
  have hE : zf_E (zF_X12_trunk a1 a2 g) (zF_X12_trunk a1 a2 g) := zf_rf
  refine mm_g 2 (pc1 := 2) (lo1 := [some (.ref 137), some (.int (Int32.ofInt a1)), some (.int (Int32.ofInt a2))]) (st1 := [.int (Int32.ofInt 0), .ref 137]) (H1 := mz_mk g x) rfl ?_
  refine mz_pI rfl fd_12_154 (sc_137 _) hI bd_137_2 (by omega) (by omega) (fun g1 hIg1 hug1 => ?_)
  replace hE := zf_tr hE (zf_lg hug1)
  refine mm_g 2 (pc1 := 7) (lo1 := [some (.ref 137), some (.int (Int32.ofInt a1)), some (.int (Int32.ofInt a2))]) (st1 := [.int (Int32.ofInt a1), .ref 137]) (H1 := mz_mk g1 x) rfl ?_
  refine mz_cv rfl mt_12_391 (by decide) (sc_137 _) rfl (Nat.le_of_ble_eq_true rfl) (by omega) (f_X12_isTrunk (by omega) hx hIg1 l_a1 u_a1 (fun v2 l_v2 u_v2 hp3 hp4 hc5 => ⟨_, rfl, ?_⟩))
  show mm_W d mmX12_trunk 10 [some (.ref 137), some (.int (Int32.ofInt a1)), some (.int (Int32.ofInt a2))] [.int (Int32.ofInt v2)] (mz_mk g1 x) Q
  replace hE := zf_t1 hE hc5
  refine mz_if_ne (tgt := 19) rfl rfl (mz_rg l_v2 u_v2) (fun c10_5 => ?_) (fun c10_5 => ?_)
  · skip
    replace hE := zf_in hE c10_5
    refine mm_g 1 (pc1 := 20) (lo1 := [some (.ref 137), some (.int (Int32.ofInt a1)), some (.int (Int32.ofInt a2))]) (st1 := [.int (Int32.ofInt a2)]) (H1 := mz_mk g1 x) rfl ?_
    by_cases c20_0 : a2 = 0
    · refine mz_tsi (tgt := 68) rfl (mz_rg l_a2 u_a2) (by omega) (by omega) (by rw [c20_0]; rfl) rfl ?_
      replace hE := zf_ip hE c20_0
      refine mm_g 1 (pc1 := 69) (lo1 := [some (.ref 137), some (.int (Int32.ofInt a1)), some (.int (Int32.ofInt a2))]) (st1 := [.ref 137]) (H1 := mz_mk g1 x) rfl ?_
      refine mz_fgR (v := 153) rfl fd_12_78 (by decide) (sc_137 _) (rf_137_26 _ _ _) ?_
      refine mm_g 1 (pc1 := 73) (lo1 := [some (.ref 137), some (.int (Int32.ofInt a1)), some (.int (Int32.ofInt a2))]) (st1 := [.int (Int32.ofInt a1), .ref 153]) (H1 := mz_mk g1 x) rfl ?_
      refine mz_aI rfl (sh_153 _) (by omega) (by omega) (by decide) hIg1 (ba_153 _) (fun v6 e_v6 l_v6 u_v6 => ?_)
      replace hE := zf_tr hE (zf_le e_v6)
      exact mm_rt rfl rfl (hQ _ _ hIg1 (fun k j hk => (hug1.2 k j (fun h => hk (Or.inl h)))) (by omega) (by omega) (by have h9 := (show g1 137 30 = (g 137 30) from ((hug1.2 137 30 (fun h => absurd h.2 (by decide))).trans rfl)); omega) hE)
    replace hE := zf_in hE c20_0
    by_cases c20_1 : a2 = 1
    · refine mz_tsi (tgt := 75) rfl (mz_rg l_a2 u_a2) (by omega) (by omega) (by rw [c20_1]; rfl) rfl ?_
      replace hE := zf_ip hE c20_1
      refine mm_g 1 (pc1 := 76) (lo1 := [some (.ref 137), some (.int (Int32.ofInt a1)), some (.int (Int32.ofInt a2))]) (st1 := [.ref 137]) (H1 := mz_mk g1 x) rfl ?_
      refine mz_fgR (v := 154) rfl fd_12_80 (by decide) (sc_137 _) (rf_137_27 _ _ _) ?_
      refine mm_g 1 (pc1 := 80) (lo1 := [some (.ref 137), some (.int (Int32.ofInt a1)), some (.int (Int32.ofInt a2))]) (st1 := [.int (Int32.ofInt a1), .ref 154]) (H1 := mz_mk g1 x) rfl ?_
      refine mz_aI rfl (sh_154 _) (by omega) (by omega) (by decide) hIg1 (ba_154 _) (fun v7 e_v7 l_v7 u_v7 => ?_)
      replace hE := zf_tr hE (zf_le e_v7)
      exact mm_rt rfl rfl (hQ _ _ hIg1 (fun k j hk => (hug1.2 k j (fun h => hk (Or.inl h)))) (by omega) (by omega) (by have h9 := (show g1 137 30 = (g 137 30) from ((hug1.2 137 30 (fun h => absurd h.2 (by decide))).trans rfl)); omega) hE)
    replace hE := zf_in hE c20_1
    by_cases c20_2 : a2 = 2
    · refine mz_tsi (tgt := 82) rfl (mz_rg l_a2 u_a2) (by omega) (by omega) (by rw [c20_2]; rfl) rfl ?_
      replace hE := zf_ip hE c20_2
      refine mm_g 1 (pc1 := 83) (lo1 := [some (.ref 137), some (.int (Int32.ofInt a1)), some (.int (Int32.ofInt a2))]) (st1 := [.ref 137]) (H1 := mz_mk g1 x) rfl ?_
      refine mz_fgR (v := 155) rfl fd_12_82 (by decide) (sc_137 _) (rf_137_28 _ _ _) ?_
      refine mm_g 1 (pc1 := 87) (lo1 := [some (.ref 137), some (.int (Int32.ofInt a1)), some (.int (Int32.ofInt a2))]) (st1 := [.int (Int32.ofInt a1), .ref 155]) (H1 := mz_mk g1 x) rfl ?_
      refine mz_aI rfl (sh_155 _) (by omega) (by omega) (by decide) hIg1 (ba_155 _) (fun v8 e_v8 l_v8 u_v8 => ?_)
      replace hE := zf_tr hE (zf_le e_v8)
      exact mm_rt rfl rfl (hQ _ _ hIg1 (fun k j hk => (hug1.2 k j (fun h => hk (Or.inl h)))) (by omega) (by omega) (by have h9 := (show g1 137 30 = (g 137 30) from ((hug1.2 137 30 (fun h => absurd h.2 (by decide))).trans rfl)); omega) hE)
    replace hE := zf_in hE c20_2
    by_cases c20_3 : a2 = 3
    · refine mz_tsi (tgt := 89) rfl (mz_rg l_a2 u_a2) (by omega) (by omega) (by rw [c20_3]; rfl) rfl ?_
      replace hE := zf_ip hE c20_3
      refine mm_g 1 (pc1 := 90) (lo1 := [some (.ref 137), some (.int (Int32.ofInt a1)), some (.int (Int32.ofInt a2))]) (st1 := [.ref 137]) (H1 := mz_mk g1 x) rfl ?_
      refine mz_fgR (v := 152) rfl fd_12_76 (by decide) (sc_137 _) (rf_137_25 _ _ _) ?_
      refine mm_g 1 (pc1 := 94) (lo1 := [some (.ref 137), some (.int (Int32.ofInt a1)), some (.int (Int32.ofInt a2))]) (st1 := [.int (Int32.ofInt a1), .ref 152]) (H1 := mz_mk g1 x) rfl ?_
      refine mz_aI rfl (sh_152 _) (by omega) (by omega) (by decide) hIg1 (ba_152 _) (fun v9 e_v9 l_v9 u_v9 => ?_)
      replace hE := zf_tr hE (zf_le e_v9)
      exact mm_rt rfl rfl (hQ _ _ hIg1 (fun k j hk => (hug1.2 k j (fun h => hk (Or.inl h)))) (by omega) (by omega) (by have h9 := (show g1 137 30 = (g 137 30) from ((hug1.2 137 30 (fun h => absurd h.2 (by decide))).trans rfl)); omega) hE)
    replace hE := zf_in hE c20_3
    by_cases c20_4 : a2 = 4
    · refine mz_tsi (tgt := 96) rfl (mz_rg l_a2 u_a2) (by omega) (by omega) (by rw [c20_4]; rfl) rfl ?_
      replace hE := zf_ip hE c20_4
      refine mm_g 2 (pc1 := 98) (lo1 := [some (.ref 137), some (.int (Int32.ofInt a1)), some (.int (Int32.ofInt a2))]) (st1 := [.int (Int32.ofInt a1), .ref 137]) (H1 := mz_mk g1 x) rfl ?_
      refine mz_cv rfl mt_12_347 (by decide) (sc_137 _) rfl (Nat.le_of_ble_eq_true rfl) (by omega) (f_X12_fullOf (by omega) hx hIg1 (by omega) (by omega) (fun v10 l_v10 u_v10 hc11 => ⟨_, rfl, ?_⟩))
      show mm_W d mmX12_trunk 101 [some (.ref 137), some (.int (Int32.ofInt a1)), some (.int (Int32.ofInt a2))] [.int (Int32.ofInt v10)] (mz_mk g1 x) Q
      replace hE := zf_t1 hE hc11
      exact mm_rt rfl rfl (hQ _ _ hIg1 (fun k j hk => (hug1.2 k j (fun h => hk (Or.inl h)))) (by omega) (by omega) (by have h9 := (show g1 137 30 = (g 137 30) from ((hug1.2 137 30 (fun h => absurd h.2 (by decide))).trans rfl)); omega) hE)
    replace hE := zf_in hE c20_4
    by_cases c20_5 : a2 = 5
    · refine mz_tsi (tgt := 102) rfl (mz_rg l_a2 u_a2) (by omega) (by omega) (by rw [c20_5]; rfl) rfl ?_
      replace hE := zf_ip hE c20_5
      refine mm_g 2 (pc1 := 104) (lo1 := [some (.ref 137), some (.int (Int32.ofInt a1)), some (.int (Int32.ofInt a2))]) (st1 := [.int (Int32.ofInt a1), .ref 137]) (H1 := mz_mk g1 x) rfl ?_
      refine mz_cv rfl mt_12_368 (by decide) (sc_137 _) rfl (Nat.le_of_ble_eq_true rfl) (by omega) (f_X12_blendSize (by omega) hx hIg1 (by omega) (by omega) (fun v12 l_v12 u_v12 hc13 => ⟨_, rfl, ?_⟩))
      show mm_W d mmX12_trunk 107 [some (.ref 137), some (.int (Int32.ofInt a1)), some (.int (Int32.ofInt a2))] [.int (Int32.ofInt v12)] (mz_mk g1 x) Q
      replace hE := zf_t1 hE hc13
      exact mm_rt rfl rfl (hQ _ _ hIg1 (fun k j hk => (hug1.2 k j (fun h => hk (Or.inl h)))) (by omega) (by omega) (by have h9 := (show g1 137 30 = (g 137 30) from ((hug1.2 137 30 (fun h => absurd h.2 (by decide))).trans rfl)); omega) hE)
    replace hE := zf_in hE c20_5
    by_cases c20_6 : a2 = 6
    · refine mz_tsi (tgt := 108) rfl (mz_rg l_a2 u_a2) (by omega) (by omega) (by rw [c20_6]; rfl) rfl ?_
      replace hE := zf_ip hE c20_6
      refine mm_g 1 (pc1 := 109) (lo1 := [some (.ref 137), some (.int (Int32.ofInt a1)), some (.int (Int32.ofInt a2))]) (st1 := [.ref 137]) (H1 := mz_mk g1 x) rfl ?_
      refine mz_fgR (v := 144) rfl fd_12_49 (by decide) (sc_137 _) (rf_137_7 _ _ _) ?_
      refine mm_g 1 (pc1 := 113) (lo1 := [some (.ref 137), some (.int (Int32.ofInt a1)), some (.int (Int32.ofInt a2))]) (st1 := [.int (Int32.ofInt a1), .ref 144]) (H1 := mz_mk g1 x) rfl ?_
      refine mz_aI rfl (sh_144 _) (by omega) (by omega) (by decide) hIg1 (ba_144 _) (fun v14 e_v14 l_v14 u_v14 => ?_)
      replace hE := zf_tr hE (zf_le e_v14)
      exact mm_rt rfl rfl (hQ _ _ hIg1 (fun k j hk => (hug1.2 k j (fun h => hk (Or.inl h)))) (by omega) (by omega) (by have h9 := (show g1 137 30 = (g 137 30) from ((hug1.2 137 30 (fun h => absurd h.2 (by decide))).trans rfl)); omega) hE)
    replace hE := zf_in hE c20_6
    by_cases c20_7 : a2 = 7
    · refine mz_tsi (tgt := 115) rfl (mz_rg l_a2 u_a2) (by omega) (by omega) (by rw [c20_7]; rfl) rfl ?_
      replace hE := zf_ip hE c20_7
      refine mm_g 2 (pc1 := 117) (lo1 := [some (.ref 137), some (.int (Int32.ofInt a1)), some (.int (Int32.ofInt a2))]) (st1 := [.int (Int32.ofInt a1), .ref 137]) (H1 := mz_mk g1 x) rfl ?_
      refine mz_cv rfl mt_12_394 (by decide) (sc_137 _) rfl (Nat.le_of_ble_eq_true rfl) (by omega) (f_X12_coupleOf (by omega) hx hIg1 (by omega) (by omega) (fun v15 g16 hIg16 hfg16 l_v15 u_v15 hc17 => ⟨_, rfl, ?_⟩))
      show mm_W d mmX12_trunk 120 [some (.ref 137), some (.int (Int32.ofInt a1)), some (.int (Int32.ofInt a2))] [.int (Int32.ofInt v15)] (mz_mk g16 x) Q
      replace hE := zf_t2 hE hc17
      exact mm_rt rfl rfl (hQ _ _ hIg16 (fun k j hk => ((hfg16 k j (fun h => hk (Or.elim h (fun h => (Or.inr (Or.inl h))) (fun h => (Or.elim h (fun h => (Or.inr (Or.inr (Or.inl h)))) (fun h => (Or.elim h (fun h => (Or.inr (Or.inr (Or.inr (Or.inl h))))) (fun h => (Or.elim h (fun h => (Or.inr (Or.inr (Or.inr (Or.inr (Or.inl h)))))) (fun h => (Or.elim h (fun h => (Or.inr (Or.inr (Or.inr (Or.inr (Or.inr (Or.inl h))))))) (fun h => (Or.elim h (fun h => (Or.inr (Or.inr (Or.inr (Or.inr (Or.inr (Or.inr (Or.inl h)))))))) (fun h => (Or.inr (Or.inr (Or.inr (Or.inr (Or.inr (Or.inr (Or.inr h))))))))))))))))))))).trans (hug1.2 k j (fun h => hk (Or.inl h))))) (by omega) (by omega) (by have h9 := (show g16 137 30 = (g 137 30) from ((hfg16 137 30 nj_27).trans ((hug1.2 137 30 (fun h => absurd h.2 (by decide))).trans rfl))); omega) hE)
    replace hE := zf_in hE c20_7
    refine mz_tso (tgt := 121) rfl (mz_rg l_a2 u_a2) (by omega) rfl ?_
    refine mm_g 2 (pc1 := 123) (lo1 := [some (.ref 137), some (.int (Int32.ofInt a1)), some (.int (Int32.ofInt a2))]) (st1 := [.int (Int32.ofInt 1), .ref 137]) (H1 := mz_mk g1 x) rfl ?_
    refine mz_cv rfl mt_12_294 (by decide) (sc_137 _) rfl (Nat.le_of_ble_eq_true rfl) (by omega) (f_X12_fail (by omega) hx hIg1 (by decide) (by decide) (fun v18 g19 hIg19 hfg19 l_v18 u_v18 hc20 => ⟨_, rfl, ?_⟩))
    show mm_W d mmX12_trunk 126 [some (.ref 137), some (.int (Int32.ofInt a1)), some (.int (Int32.ofInt a2))] [.int (Int32.ofInt v18)] (mz_mk g19 x) Q
    replace hE := zf_t2 hE hc20
    exact mm_rt rfl rfl (hQ _ _ hIg19 (fun k j hk => ((hfg19 k j (fun h => hk (Or.inl h))).trans (hug1.2 k j (fun h => hk (Or.inl h))))) (by omega) (by omega) (by have h9 := (show g19 137 30 = (g 137 30) from ((hfg19 137 30 (fun h => (absurd (show (137 = 137 ∧ 30 = 2) from h) (by decide)))).trans ((hug1.2 137 30 (fun h => absurd h.2 (by decide))).trans rfl))); omega) hE)
  · skip
    replace hE := zf_ip hE c10_5
    refine mm_g 2 (pc1 := 15) (lo1 := [some (.ref 137), some (.int (Int32.ofInt a1)), some (.int (Int32.ofInt a2))]) (st1 := [.int (Int32.ofInt 1), .ref 137]) (H1 := mz_mk g1 x) rfl ?_
    refine mz_cv rfl mt_12_294 (by decide) (sc_137 _) rfl (Nat.le_of_ble_eq_true rfl) (by omega) (f_X12_fail (by omega) hx hIg1 (by decide) (by decide) (fun v21 g22 hIg22 hfg22 l_v21 u_v21 hc23 => ⟨_, rfl, ?_⟩))
    show mm_W d mmX12_trunk 18 [some (.ref 137), some (.int (Int32.ofInt a1)), some (.int (Int32.ofInt a2))] [.int (Int32.ofInt v21)] (mz_mk g22 x) Q
    replace hE := zf_t2 hE hc23
    exact mm_rt rfl rfl (hQ _ _ hIg22 (fun k j hk => ((hfg22 k j (fun h => hk (Or.inl h))).trans (hug1.2 k j (fun h => hk (Or.inl h))))) (by omega) (by omega) (by have h9 := (show g22 137 30 = (g 137 30) from ((hfg22 137 30 (fun h => (absurd (show (137 = 137 ∧ 30 = 2) from h) (by decide)))).trans ((hug1.2 137 30 (fun h => absurd h.2 (by decide))).trans rfl))); omega) hE)
def fw_X12_refuse (x : mm_X) (a1 : Int) : Nat → Nat → Prop := fun k j => k = 150
theorem f_X12_refuse {d : Nat} (hd : 1 ≤ d) {x : mm_X} (hx : mk_x x) {g : mz_G} (hI : mz_inv g) {a1 : Int} (l_a1 : 0 ≤ a1) (u_a1 : a1 ≤ 2) {Q : (Option Value ⊕ Nat) → mm_H → Prop} (hQ : ∀ (r : Int) (g1 : mz_G), mz_inv g1 → mz_fr (fw_X12_refuse x a1) g g1 → (-1) ≤ r → r ≤ (-1) → zf_E (zF_X12_refuse a1 g) ((r, g1)) → Q (.inl (some (.int (Int32.ofInt r)))) (mz_mk g1 x)) : mm_C d 247 [.ref 137, .int (Int32.ofInt a1)] (mz_mk g x) Q := by
  refine ⟨mmX12_refuse, [some (.ref 137), some (.int (Int32.ofInt a1))], rfl, rfl, ?_⟩
  have hE : zf_E (zF_X12_refuse a1 g) (zF_X12_refuse a1 g) := zf_rf
  refine mm_g 1 (pc1 := 1) (lo1 := [some (.ref 137), some (.int (Int32.ofInt a1))]) (st1 := [.ref 137]) (H1 := mz_mk g x) rfl ?_
  refine mz_fgR (v := 150) rfl fd_12_66 (by decide) (sc_137 _) (rf_137_13 _ _ _) ?_
  refine mm_g 2 (pc1 := 6) (lo1 := [some (.ref 137), some (.int (Int32.ofInt a1))]) (st1 := [.int (Int32.ofInt a1), .ref 150, .int (Int32.ofInt a1), .ref 150]) (H1 := mz_mk g x) rfl ?_
  refine mz_aI rfl (sh_150 _) (by omega) (by omega) (by decide) hI (ba_150 _) (fun v1 e_v1 l_v1 u_v1 => ?_)
  replace hE := zf_tr hE (zf_le e_v1)
  refine mm_g 1 (pc1 := 8) (lo1 := [some (.ref 137), some (.int (Int32.ofInt a1))]) (st1 := [.int (Int32.ofInt 1), .int (Int32.ofInt v1), .int (Int32.ofInt a1), .ref 150]) (H1 := mz_mk g x) rfl ?_
  refine mz_iadd_w rfl (fun v2 e_v2 hwv2 => ?_)
  have l_v2 := hwv2.1
  have u_v2 := hwv2.2
  replace hE := zf_tr hE (zf_le e_v2.symm)
  refine mz_sI rfl (sh_150 _) (by omega) (by omega) (by decide) hI (ba_150 _) (by omega) (by omega) (fun g3 hIg3 hug3 => ?_)
  replace hE := zf_tr hE (zf_lg hug3)
  refine mm_g 1 (pc1 := 11) (lo1 := [some (.ref 137), some (.int (Int32.ofInt a1))]) (st1 := [.int (Int32.ofInt (-1))]) (H1 := mz_mk g3 x) rfl ?_
  exact mm_rt rfl rfl (hQ _ _ hIg3 (fun k j hk => (hug3.2 k j (fun h => hk h.1))) (by decide) (by decide) hE)
def fl_X12_keep_12 (x : mm_X) : Nat → Nat → Prop := fun k j => k = 156
def fw_X12_keep (x : mm_X) : Nat → Nat → Prop := fun k j => k = 156 ∨ (k = 137 ∧ j = 31)
theorem f_X12_keep {d : Nat} (hd : 2 ≤ d) {x : mm_X} (hx : mk_x x) {g : mz_G} (hI : mz_inv g) (p1 : g 137 30 ≤ 999) {Q : (Option Value ⊕ Nat) → mm_H → Prop} (hQ : ∀ (g1 : mz_G), mz_inv g1 → mz_fr (fw_X12_keep x) g g1 → zf_E (zF_X12_keep g) (g1) → Q (.inl none) (mz_mk g1 x)) : mm_C d 248 [.ref 137] (mz_mk g x) Q := by
  refine ⟨mmX12_keep, [some (.ref 137), none], rfl, rfl, ?_⟩
  have bz0 := mz_rd hI bd_137_30
  have hE : zf_E (zF_X12_keep g) (zF_X12_keep g) := zf_rf
  refine mm_g 1 (pc1 := 1) (lo1 := [some (.ref 137), none]) (st1 := [.ref 137]) (H1 := mz_mk g x) rfl ?_
  refine mz_gI rfl fd_12_310 (by decide) (sc_137 _) hI bd_137_31 (fun v1 e_v1 l_v1 u_v1 => ?_)
  replace hE := zf_tr hE (zf_le e_v1)
  refine mz_bip rfl bip_40 ?_
  refine mz_ic_ne (tgt := 52) rfl rfl (mz_rg l_v1 u_v1) ⟨by decide, by decide⟩ (fun c6_1 => ?_) (fun c6_1 => ?_)
  · skip
    replace hE := zf_in hE c6_1
    refine mm_g 2 (pc1 := 54) (lo1 := [some (.ref 137), none]) (st1 := [.ref 137, .ref 137]) (H1 := mz_mk g x) rfl ?_
    refine mz_fgR (v := 156) rfl fd_12_85 (by decide) (sc_137 _) (rf_137_29 _ _ _) ?_
    refine mz_bip rfl bip_25 ?_
    refine mm_g 1 (pc1 := 60) (lo1 := [some (.ref 137), none]) (st1 := [.ref 137, .int (Int32.ofInt 25), .ref 156, .ref 137]) (H1 := mz_mk g x) rfl ?_
    refine mz_fgI (v := v1) rfl fd_12_310 (by decide) (sc_137 _) e_v1 ?_
    replace hE := zf_tr hE (zf_le e_v1)
    refine mz_imul rfl ?_
    refine mz_cv rfl mt_12_397 (by decide) (sc_137 _) rfl (Nat.le_of_ble_eq_true rfl) (by omega) (f_X12_store (by omega) hx hI rwp_156 (by omega) (by omega) (by omega) (by omega) (by omega) (fun g2 hIg2 hfg2 hc3 => ⟨_, rfl, ?_⟩))
    show mm_W d mmX12_keep 67 [some (.ref 137), none] [] (mz_mk g2 x) Q
    replace hE := zf_t1 hE hc3
    refine mm_g 2 (pc1 := 69) (lo1 := [some (.ref 137), none]) (st1 := [.ref 137, .ref 137]) (H1 := mz_mk g2 x) rfl ?_
    refine mz_fgI (v := v1) rfl fd_12_310 (by decide) (sc_137 _) (show g2 137 31 = v1 from ((hfg2 137 31 (fun h => (absurd (show 137 = 156 from h) (by decide)))).trans e_v1)) ?_
    replace hE := zf_tr hE (zf_le (show g2 137 31 = v1 from ((hfg2 137 31 (fun h => (absurd (show 137 = 156 from h) (by decide)))).trans e_v1)))
    refine mm_g 1 (pc1 := 73) (lo1 := [some (.ref 137), none]) (st1 := [.int (Int32.ofInt 1), .int (Int32.ofInt v1), .ref 137]) (H1 := mz_mk g2 x) rfl ?_
    refine mz_iadd rfl ?_
    refine mz_pI rfl fd_12_310 (sc_137 _) hIg2 bd_137_31 (by omega) (by omega) (fun g4 hIg4 hug4 => ?_)
    replace hE := zf_tr hE (zf_lg hug4)
    exact mm_rt rfl rfl (hQ _ hIg4 (fun k j hk => ((hug4.2 k j (fun h => hk (Or.inr h))).trans (hfg2 k j (fun h => hk (Or.inl h))))) hE)
  · skip
    replace hE := zf_ip hE c6_1
    refine mz_bip rfl bip_25 ?_
    refine mm_g 1 (pc1 := 12) (lo1 := [some (.ref 137), some (.int (Int32.ofInt 25))]) (st1 := []) (H1 := mz_mk g x) rfl ?_
    have L9 : ∀ n8 : Nat, ∀ (v5 : Int) (g6 : mz_G), (1000 - v5).toNat = n8 → 25 ≤ v5 → v5 ≤ 1000 → mz_inv g6 → mz_fr (fl_X12_keep_12 x) g g6 → (∃ fk : Nat, (1000 - v5).toNat < fk ∧ zf_E (zF_X12_keep g) (zL_X12_keep_12 fk v5 g6)) → mm_W d mmX12_keep 12 [some (.ref 137), some (.int (Int32.ofInt v5))] [] (mz_mk g6 x) Q := by
      intro n8
      induction n8 using Nat.strongRecOn with
      | ind n8 ih7 =>
      intro v5 g6 hmn8 l_v5 u_v5 hIg6 hfg6 hF
      obtain ⟨fk, fl, hE⟩ := hF
      obtain ⟨fj10, rfl⟩ : ∃ fj, fk = fj + 1 := ⟨fk - 1, by omega⟩
      have fn11 : n8 ≤ fj10 := by omega
      replace hE := zf_tr hE zL_X12_keep_12_s
      refine mm_g 2 (pc1 := 14) (lo1 := [some (.ref 137), some (.int (Int32.ofInt v5))]) (st1 := [.ref 137, .int (Int32.ofInt v5)]) (H1 := mz_mk g6 x) rfl ?_
      refine mz_fgR (v := 156) rfl fd_12_85 (by decide) (sc_137 _) (rf_137_29 _ _ _) ?_
      refine mz_al rfl (sh_156 _) (by decide) ?_
      refine mz_ic_ge (tgt := 42) rfl rfl (mz_rg l_v5 u_v5) ⟨by omega, by omega⟩ (fun c18_11 => ?_) (fun c18_11 => ?_)
      · skip
        replace hE := zf_nl hE c18_11
        refine mm_g 2 (pc1 := 44) (lo1 := [some (.ref 137), some (.int (Int32.ofInt v5))]) (st1 := [.ref 137, .ref 137]) (H1 := mz_mk g6 x) rfl ?_
        refine mz_fgI (v := v1) rfl fd_12_310 (by decide) (sc_137 _) (show g6 137 31 = v1 from ((hfg6 137 31 (fun h => (absurd (show 137 = 156 from h) (by decide)))).trans e_v1)) ?_
        replace hE := zf_tr hE (zf_le (show g6 137 31 = v1 from ((hfg6 137 31 (fun h => (absurd (show 137 = 156 from h) (by decide)))).trans e_v1)))
        refine mm_g 1 (pc1 := 48) (lo1 := [some (.ref 137), some (.int (Int32.ofInt v5))]) (st1 := [.int (Int32.ofInt 1), .int (Int32.ofInt v1), .ref 137]) (H1 := mz_mk g6 x) rfl ?_
        refine mz_isub rfl ?_
        refine mz_pI rfl fd_12_310 (sc_137 _) hIg6 bd_137_31 (by omega) (by omega) (fun g12 hIg12 hug12 => ?_)
        replace hE := zf_tr hE (zf_lg hug12)
        refine mm_g 2 (pc1 := 54) (lo1 := [some (.ref 137), some (.int (Int32.ofInt v5))]) (st1 := [.ref 137, .ref 137]) (H1 := mz_mk g12 x) rfl ?_
        refine mz_fgR (v := 156) rfl fd_12_85 (by decide) (sc_137 _) (rf_137_29 _ _ _) ?_
        refine mz_bip rfl bip_25 ?_
        refine mm_g 1 (pc1 := 60) (lo1 := [some (.ref 137), some (.int (Int32.ofInt v5))]) (st1 := [.ref 137, .int (Int32.ofInt 25), .ref 156, .ref 137]) (H1 := mz_mk g12 x) rfl ?_
        refine mz_fgI (v := (v1 - 1)) rfl fd_12_310 (by decide) (sc_137 _) (show g12 137 31 = (v1 - 1) from hug12.1) ?_
        replace hE := zf_tr hE (zf_le (show g12 137 31 = (v1 - 1) from hug12.1))
        refine mz_imul rfl ?_
        refine mz_cv rfl mt_12_397 (by decide) (sc_137 _) rfl (Nat.le_of_ble_eq_true rfl) (by omega) (f_X12_store (by omega) hx hIg12 rwp_156 (by omega) (by omega) (by omega) (by omega) (by have h9 := (show g12 137 30 = (g 137 30) from ((hug12.2 137 30 (fun h => absurd h.2 (by decide))).trans ((hfg6 137 30 (fun h => (absurd (show 137 = 156 from h) (by decide)))).trans rfl))); omega) (fun g13 hIg13 hfg13 hc14 => ⟨_, rfl, ?_⟩))
        show mm_W d mmX12_keep 67 [some (.ref 137), some (.int (Int32.ofInt v5))] [] (mz_mk g13 x) Q
        replace hE := zf_t1 hE hc14
        refine mm_g 2 (pc1 := 69) (lo1 := [some (.ref 137), some (.int (Int32.ofInt v5))]) (st1 := [.ref 137, .ref 137]) (H1 := mz_mk g13 x) rfl ?_
        refine mz_fgI (v := (v1 - 1)) rfl fd_12_310 (by decide) (sc_137 _) (show g13 137 31 = (v1 - 1) from ((hfg13 137 31 (fun h => (absurd (show 137 = 156 from h) (by decide)))).trans hug12.1)) ?_
        replace hE := zf_tr hE (zf_le (show g13 137 31 = (v1 - 1) from ((hfg13 137 31 (fun h => (absurd (show 137 = 156 from h) (by decide)))).trans hug12.1)))
        refine mm_g 1 (pc1 := 73) (lo1 := [some (.ref 137), some (.int (Int32.ofInt v5))]) (st1 := [.int (Int32.ofInt 1), .int (Int32.ofInt (v1 - 1)), .ref 137]) (H1 := mz_mk g13 x) rfl ?_
        refine mz_iadd rfl ?_
        refine mz_pI rfl fd_12_310 (sc_137 _) hIg13 bd_137_31 (by omega) (by omega) (fun g15 hIg15 hug15 => ?_)
        replace hE := zf_tr hE (zf_lg hug15)
        exact mm_rt rfl rfl (hQ _ hIg15 (fun k j hk => ((hug15.2 k j (fun h => hk (Or.inr h))).trans ((hfg13 k j (fun h => hk (Or.inl h))).trans ((hug12.2 k j (fun h => hk (Or.inr h))).trans (hfg6 k j (fun h => hk (Or.inl h))))))) hE)
      · skip
        replace hE := zf_ip hE c18_11
        refine mm_g 1 (pc1 := 22) (lo1 := [some (.ref 137), some (.int (Int32.ofInt v5))]) (st1 := [.ref 137]) (H1 := mz_mk g6 x) rfl ?_
        refine mz_fgR (v := 156) rfl fd_12_85 (by decide) (sc_137 _) (rf_137_29 _ _ _) ?_
        refine mm_g 1 (pc1 := 26) (lo1 := [some (.ref 137), some (.int (Int32.ofInt v5))]) (st1 := [.int (Int32.ofInt v5), .ref 156]) (H1 := mz_mk g6 x) rfl ?_
        refine mz_bip rfl bip_25 ?_
        refine mz_isub rfl ?_
        refine mm_g 1 (pc1 := 30) (lo1 := [some (.ref 137), some (.int (Int32.ofInt v5))]) (st1 := [.ref 137, .int (Int32.ofInt (v5 - 25)), .ref 156]) (H1 := mz_mk g6 x) rfl ?_
        refine mz_fgR (v := 156) rfl fd_12_85 (by decide) (sc_137 _) (rf_137_29 _ _ _) ?_
        refine mm_g 1 (pc1 := 34) (lo1 := [some (.ref 137), some (.int (Int32.ofInt v5))]) (st1 := [.int (Int32.ofInt v5), .ref 156, .int (Int32.ofInt (v5 - 25)), .ref 156]) (H1 := mz_mk g6 x) rfl ?_
        refine mz_aI rfl (sh_156 _) (by omega) (by omega) (by decide) hIg6 (Prod.eta _).symm (fun v16 e_v16 l_v16 u_v16 => ?_)
        replace hE := zf_tr hE (zf_le e_v16)
        refine mz_sI rfl (sh_156 _) (by omega) (by omega) (by decide) hIg6 ((rwk (by omega)).trans (Prod.eta _).symm) (by omega) (by omega) (fun g17 hIg17 hug17 => ?_)
        replace hE := zf_tr hE (zf_lg hug17)
        refine mz_iincR (v := v5) (lo2 := [some (.ref 137), some (.int (Int32.ofInt (v5 + 1)))]) rfl rfl rfl (Nat.le_of_ble_eq_true rfl) rfl ?_
        refine mz_gt (tgt := 12) rfl rfl ?_
        exact ih7 ((1000 - (v5 + 1)).toNat) (by omega) (v5 + 1) g17 rfl (by omega) (by omega) hIg17 (fun k j hk => ((hug17.2 k j (fun h => hk h.1)).trans (hfg6 k j (fun h => hk h)))) ⟨fj10, Nat.lt_of_lt_of_le (show ((1000 - (v5 + 1)).toNat) < n8 from (by omega)) fn11, hE⟩
    exact L9 _ 25 g rfl (by decide) (by decide) hI (fun _ _ _ => rfl) ⟨3000000000, by omega, hE⟩
def fw_X12_days (x : mm_X) (a1 : Int) : Nat → Nat → Prop := fun k j => (k = 137 ∧ j = 2) ∨ k = 150 ∨ k = 156 ∨ (k = 137 ∧ j = 31) ∨ (k = 160 ∧ j = 0) ∨ (k = 160 ∧ j = 1) ∨ (k = 160 ∧ j = 2) ∨ (k = 160 ∧ j = 3) ∨ (k = 160 ∧ j = 4) ∨ (k = 160 ∧ j = 5) ∨ (k = 160 ∧ j = 6) ∨ k = 161 ∨ k = 152 ∨ (k = 137 ∧ j = 30)
theorem f_X12_days {d : Nat} (hd : 16 ≤ d) {x : mm_X} (hx : mk_x x) {g : mz_G} (hI : mz_inv g) {a1 : Int} (l_a1 : (-2147483648) ≤ a1) (u_a1 : a1 ≤ 2147483647) (p1 : mz_pv g) (p2 : g 137 30 ≤ 999) {Q : (Option Value ⊕ Nat) → mm_H → Prop} (hQ : ∀ (r : Int) (g1 : mz_G), mz_inv g1 → mz_fr (fw_X12_days x a1) g g1 → (-1) ≤ r → r ≤ 1018 → (g1 137 30 ≤ 999) → zf_E (zF_X12_days a1 g) ((r, g1)) → Q (.inl (some (.int (Int32.ofInt r)))) (mz_mk g1 x)) : mm_C d 249 [.ref 137, .int (Int32.ofInt a1)] (mz_mk g x) Q := by
  refine ⟨mmX12_days, [some (.ref 137), some (.int (Int32.ofInt a1))], rfl, rfl, ?_⟩
  have bz0 := mz_rd hI bd_137_30
  have hpv := p1
  have hE : zf_E (zF_X12_days a1 g) (zF_X12_days a1 g) := zf_rf
  refine mm_g 2 (pc1 := 2) (lo1 := [some (.ref 137), some (.int (Int32.ofInt a1))]) (st1 := [.int (Int32.ofInt 0), .ref 137]) (H1 := mz_mk g x) rfl ?_
  refine mz_pI rfl fd_12_154 (sc_137 _) hI bd_137_2 (by omega) (by omega) (fun g1 hIg1 hug1 => ?_)
  replace hE := zf_tr hE (zf_lg hug1)
  refine mm_g 1 (pc1 := 6) (lo1 := [some (.ref 137), some (.int (Int32.ofInt a1))]) (st1 := [.int (Int32.ofInt a1)]) (H1 := mz_mk g1 x) rfl ?_
  refine mz_i2l rfl (mz_rg l_a1 u_a1) ?_
  refine mz_lcst (c := 1) rfl rfl ?_
  refine mz_l2w (c := 20) rfl rfl rfl ?_
  refine mz_cs rfl mt_12_157 (by decide) rfl (Nat.le_of_ble_eq_true rfl) (by omega) (f_X12_isIn (by omega) hx hIg1 (by omega) (by omega) (by omega) (by omega) (by omega) (by omega) (fun v2 l_v2 u_v2 hp3 hc4 => ⟨_, rfl, ?_⟩))
  show mm_W d mmX12_days 14 [some (.ref 137), some (.int (Int32.ofInt a1))] [.int (Int32.ofInt v2)] (mz_mk g1 x) Q
  replace hE := zf_t1 hE hc4
  refine mz_if_eq (tgt := 29) rfl rfl (mz_rg l_v2 u_v2) (fun c14_4 => ?_) (fun c14_4 => ?_)
  · skip
    replace hE := zf_ip hE c14_4
    refine mm_g 2 (pc1 := 31) (lo1 := [some (.ref 137), some (.int (Int32.ofInt a1))]) (st1 := [.int (Int32.ofInt 1), .ref 137]) (H1 := mz_mk g1 x) rfl ?_
    refine mz_cv rfl mt_12_403 (by decide) (sc_137 _) rfl (Nat.le_of_ble_eq_true rfl) (by omega) (f_X12_refuse (by omega) hx hIg1 (by decide) (by decide) (fun v5 g6 hIg6 hfg6 l_v5 u_v5 hc7 => ⟨_, rfl, ?_⟩))
    show mm_W d mmX12_days 34 [some (.ref 137), some (.int (Int32.ofInt a1))] [.int (Int32.ofInt v5)] (mz_mk g6 x) Q
    replace hE := zf_t2 hE hc7
    exact mm_rt rfl rfl (hQ _ _ hIg6 (fun k j hk => ((hfg6 k j (fun h => hk (Or.inr (Or.inl h)))).trans (hug1.2 k j (fun h => hk (Or.inl h))))) (by omega) (by omega) (by have h9 := (show g6 137 30 = (g 137 30) from ((hfg6 137 30 (fun h => (absurd (show 137 = 150 from h) (by decide)))).trans ((hug1.2 137 30 (fun h => absurd h.2 (by decide))).trans rfl))); omega) hE)
  · skip
    replace hE := zf_in hE c14_4
    refine mm_g 1 (pc1 := 18) (lo1 := [some (.ref 137), some (.int (Int32.ofInt a1))]) (st1 := [.ref 137]) (H1 := mz_mk g1 x) rfl ?_
    refine mz_fgI (v := (g 137 30)) rfl fd_12_307 (by decide) (sc_137 _) (show g1 137 30 = (g 137 30) from ((hug1.2 137 30 (fun h => absurd h.2 (by decide))).trans rfl)) ?_
    replace hE := zf_tr hE (zf_le (show g1 137 30 = (g 137 30) from ((hug1.2 137 30 (fun h => absurd h.2 (by decide))).trans rfl)))
    refine mm_g 1 (pc1 := 22) (lo1 := [some (.ref 137), some (.int (Int32.ofInt a1))]) (st1 := [.int (Int32.ofInt a1), .int (Int32.ofInt (g 137 30))]) (H1 := mz_mk g1 x) rfl ?_
    refine mz_iadd rfl ?_
    refine mz_sip rfl sip_999 ?_
    refine mz_ic_le (tgt := 35) rfl rfl ⟨by omega, by omega⟩ ⟨by decide, by decide⟩ (fun c26_7 => ?_) (fun c26_7 => ?_)
    · skip
      replace hE := zf_nl hE c26_7
      refine mm_g 1 (pc1 := 36) (lo1 := [some (.ref 137), some (.int (Int32.ofInt a1))]) (st1 := [.ref 137]) (H1 := mz_mk g1 x) rfl ?_
      refine mz_cv rfl mt_12_406 (by decide) (sc_137 _) rfl (Nat.le_of_ble_eq_true rfl) (by omega) (f_X12_keep (by omega) hx hIg1 (by have h9 := (show g1 137 30 = (g 137 30) from ((hug1.2 137 30 (fun h => absurd h.2 (by decide))).trans rfl)); omega) (fun g8 hIg8 hfg8 hc9 => ⟨_, rfl, ?_⟩))
      show mm_W d mmX12_days 39 [some (.ref 137), some (.int (Int32.ofInt a1))] [] (mz_mk g8 x) Q
      replace hE := zf_t1 hE hc9
      refine mm_g 2 (pc1 := 41) (lo1 := [some (.ref 137), some (.int (Int32.ofInt a1))]) (st1 := [.int (Int32.ofInt a1), .ref 137]) (H1 := mz_mk g8 x) rfl ?_
      have hq10 : g8 137 30 = (g 137 30) := (show g8 137 30 = (g 137 30) from ((hfg8 137 30 nj_28).trans ((hug1.2 137 30 (fun h => absurd h.2 (by decide))).trans rfl)))
      refine mz_cv rfl mt_12_409 (by decide) (sc_137 _) rfl (Nat.le_of_ble_eq_true rfl) (by omega) (f_X12_goOn (by omega) hx hIg8 (by omega) (by omega) (mz_pv_fr hpv (fun _j => ((hfg8 149 _j nj_29).trans ((hug1.2 149 _j (fun h => absurd h.1 (by decide))).trans rfl))) ((hfg8 140 3 nj_30).trans ((hug1.2 140 3 (fun h => absurd h.1 (by decide))).trans rfl))) (by have h9 := (show g8 137 30 = (g 137 30) from ((hfg8 137 30 nj_28).trans ((hug1.2 137 30 (fun h => absurd h.2 (by decide))).trans rfl))); omega) (fun g11 hIg11 hfg11 hp12 hc13 => ⟨_, rfl, ?_⟩))
      show mm_W d mmX12_days 44 [some (.ref 137), some (.int (Int32.ofInt a1))] [] (mz_mk g11 x) Q
      replace hE := zf_t1 hE hc13
      refine mm_g 1 (pc1 := 45) (lo1 := [some (.ref 137), some (.int (Int32.ofInt a1))]) (st1 := [.ref 137]) (H1 := mz_mk g11 x) rfl ?_
      refine mz_fgI (v := (g11 137 30)) rfl fd_12_307 (by decide) (sc_137 _) (show g11 137 30 = (g11 137 30) from rfl) ?_
      replace hE := zf_tr hE (zf_le (show g11 137 30 = (g11 137 30) from rfl))
      exact mm_rt rfl rfl (hQ _ _ hIg11 (fun k j hk => ((hfg11 k j (fun h => hk (Or.elim h (fun h => (Or.inr (Or.inr (Or.inr (Or.inr (Or.inl h)))))) (fun h => (Or.elim h (fun h => (Or.inr (Or.inr (Or.inr (Or.inr (Or.inr (Or.inl h))))))) (fun h => (Or.elim h (fun h => (Or.inr (Or.inr (Or.inr (Or.inr (Or.inr (Or.inr (Or.inl h)))))))) (fun h => (Or.elim h (fun h => (Or.inr (Or.inr (Or.inr (Or.inr (Or.inr (Or.inr (Or.inr (Or.inl h))))))))) (fun h => (Or.elim h (fun h => (Or.inr (Or.inr (Or.inr (Or.inr (Or.inr (Or.inr (Or.inr (Or.inr (Or.inl h)))))))))) (fun h => (Or.elim h (fun h => (Or.inr (Or.inr (Or.inr (Or.inr (Or.inr (Or.inr (Or.inr (Or.inr (Or.inr (Or.inl h))))))))))) (fun h => (Or.elim h (fun h => (Or.inr (Or.inr (Or.inr (Or.inr (Or.inr (Or.inr (Or.inr (Or.inr (Or.inr (Or.inr (Or.inl h)))))))))))) (fun h => (Or.elim h (fun h => (Or.inr (Or.inr (Or.inr (Or.inr (Or.inr (Or.inr (Or.inr (Or.inr (Or.inr (Or.inr (Or.inr (Or.inl h))))))))))))) (fun h => (Or.elim h (fun h => (Or.inr (Or.inr (Or.inr (Or.inr (Or.inr (Or.inr (Or.inr (Or.inr (Or.inr (Or.inr (Or.inr (Or.inr (Or.inl h)))))))))))))) (fun h => (Or.inr (Or.inr (Or.inr (Or.inr (Or.inr (Or.inr (Or.inr (Or.inr (Or.inr (Or.inr (Or.inr (Or.inr (Or.inr h))))))))))))))))))))))))))))))))).trans ((hfg8 k j (fun h => hk (Or.elim h (fun h => (Or.inr (Or.inr (Or.inl h)))) (fun h => (Or.inr (Or.inr (Or.inr (Or.inl h)))))))).trans (hug1.2 k j (fun h => hk (Or.inl h)))))) (by omega) (by omega) (by omega) hE)
    · skip
      replace hE := zf_ip hE c26_7
      refine mm_g 2 (pc1 := 31) (lo1 := [some (.ref 137), some (.int (Int32.ofInt a1))]) (st1 := [.int (Int32.ofInt 1), .ref 137]) (H1 := mz_mk g1 x) rfl ?_
      refine mz_cv rfl mt_12_403 (by decide) (sc_137 _) rfl (Nat.le_of_ble_eq_true rfl) (by omega) (f_X12_refuse (by omega) hx hIg1 (by decide) (by decide) (fun v14 g15 hIg15 hfg15 l_v14 u_v14 hc16 => ⟨_, rfl, ?_⟩))
      show mm_W d mmX12_days 34 [some (.ref 137), some (.int (Int32.ofInt a1))] [.int (Int32.ofInt v14)] (mz_mk g15 x) Q
      replace hE := zf_t2 hE hc16
      exact mm_rt rfl rfl (hQ _ _ hIg15 (fun k j hk => ((hfg15 k j (fun h => hk (Or.inr (Or.inl h)))).trans (hug1.2 k j (fun h => hk (Or.inl h))))) (by omega) (by omega) (by have h9 := (show g15 137 30 = (g 137 30) from ((hfg15 137 30 (fun h => (absurd (show 137 = 150 from h) (by decide)))).trans ((hug1.2 137 30 (fun h => absurd h.2 (by decide))).trans rfl))); omega) hE)
def fw_X12_draw (x : mm_X) (a1 : Int) (a2 : Int) : Nat → Nat → Prop := fun k j => (k = 137 ∧ j = 2) ∨ k = 150 ∨ k = 156 ∨ (k = 137 ∧ j = 31) ∨ k = 155
theorem f_X12_draw {d : Nat} (hd : 3 ≤ d) {x : mm_X} (hx : mk_x x) {g : mz_G} (hI : mz_inv g) {a1 : Int} (l_a1 : (-2147483648) ≤ a1) (u_a1 : a1 ≤ 2147483647) {a2 : Int} (l_a2 : (-2147483648) ≤ a2) (u_a2 : a2 ≤ 2147483647) (p1 : mz_pv g) (p2 : g 137 30 ≤ 999) {Q : (Option Value ⊕ Nat) → mm_H → Prop} (hQ : ∀ (r : Int) (g1 : mz_G), mz_inv g1 → mz_fr (fw_X12_draw x a1 a2) g g1 → (-2147483648) ≤ r → r ≤ 2147483647 → (g1 137 30 ≤ 999) → zf_E (zF_X12_draw a1 a2 g) ((r, g1)) → Q (.inl (some (.int (Int32.ofInt r)))) (mz_mk g1 x)) : mm_C d 250 [.ref 137, .int (Int32.ofInt a1), .int (Int32.ofInt a2)] (mz_mk g x) Q := by
  refine ⟨mmX12_draw, [some (.ref 137), some (.int (Int32.ofInt a1)), some (.int (Int32.ofInt a2)), none], rfl, rfl, ?_⟩
  have bz0 := mz_rd hI bd_137_30
  have hpv := p1
  have hE : zf_E (zF_X12_draw a1 a2 g) (zF_X12_draw a1 a2 g) := zf_rf
  refine mm_g 2 (pc1 := 2) (lo1 := [some (.ref 137), some (.int (Int32.ofInt a1)), some (.int (Int32.ofInt a2)), none]) (st1 := [.int (Int32.ofInt 0), .ref 137]) (H1 := mz_mk g x) rfl ?_
  refine mz_pI rfl fd_12_154 (sc_137 _) hI bd_137_2 (by omega) (by omega) (fun g1 hIg1 hug1 => ?_)
  replace hE := zf_tr hE (zf_lg hug1)
  refine mm_g 2 (pc1 := 7) (lo1 := [some (.ref 137), some (.int (Int32.ofInt a1)), some (.int (Int32.ofInt a2)), none]) (st1 := [.int (Int32.ofInt a1), .ref 137]) (H1 := mz_mk g1 x) rfl ?_
  refine mz_cv rfl mt_12_391 (by decide) (sc_137 _) rfl (Nat.le_of_ble_eq_true rfl) (by omega) (f_X12_isTrunk (by omega) hx hIg1 l_a1 u_a1 (fun v2 l_v2 u_v2 hp3 hp4 hc5 => ⟨_, rfl, ?_⟩))
  show mm_W d mmX12_draw 10 [some (.ref 137), some (.int (Int32.ofInt a1)), some (.int (Int32.ofInt a2)), none] [.int (Int32.ofInt v2)] (mz_mk g1 x) Q
  replace hE := zf_t1 hE hc5
  refine mz_if_ne (tgt := 19) rfl rfl (mz_rg l_v2 u_v2) (fun c10_5 => ?_) (fun c10_5 => ?_)
  · skip
    replace hE := zf_in hE c10_5
    refine mm_g 1 (pc1 := 20) (lo1 := [some (.ref 137), some (.int (Int32.ofInt a1)), some (.int (Int32.ofInt a2)), none]) (st1 := [.ref 137]) (H1 := mz_mk g1 x) rfl ?_
    refine mz_fgR (v := 155) rfl fd_12_82 (by decide) (sc_137 _) (rf_137_28 _ _ _) ?_
    refine mm_g 1 (pc1 := 24) (lo1 := [some (.ref 137), some (.int (Int32.ofInt a1)), some (.int (Int32.ofInt a2)), none]) (st1 := [.int (Int32.ofInt a1), .ref 155]) (H1 := mz_mk g1 x) rfl ?_
    refine mz_aI rfl (sh_155 _) (by omega) (by omega) (by decide) hIg1 (ba_155 _) (fun v6 e_v6 l_v6 u_v6 => ?_)
    replace hE := zf_tr hE (zf_le e_v6)
    refine mm_g 2 (pc1 := 27) (lo1 := [some (.ref 137), some (.int (Int32.ofInt a1)), some (.int (Int32.ofInt a2)), some (.int (Int32.ofInt v6))]) (st1 := [.int (Int32.ofInt a2)]) (H1 := mz_mk g1 x) rfl ?_
    refine mz_i2l rfl (mz_rg l_a2 u_a2) ?_
    refine mz_lcst (c := 0) rfl rfl ?_
    refine mz_l2w (c := 9) rfl rfl rfl ?_
    refine mz_cs rfl mt_12_157 (by decide) rfl (Nat.le_of_ble_eq_true rfl) (by omega) (f_X12_isIn (by omega) hx hIg1 (by omega) (by omega) (by omega) (by omega) (by omega) (by omega) (fun v7 l_v7 u_v7 hp8 hc9 => ⟨_, rfl, ?_⟩))
    show mm_W d mmX12_draw 35 [some (.ref 137), some (.int (Int32.ofInt a1)), some (.int (Int32.ofInt a2)), some (.int (Int32.ofInt v6))] [.int (Int32.ofInt v7)] (mz_mk g1 x) Q
    replace hE := zf_t1 hE hc9
    refine mz_if_eq (tgt := 43) rfl rfl (mz_rg l_v7 u_v7) (fun c35_9 => ?_) (fun c35_9 => ?_)
    · skip
      replace hE := zf_ip hE c35_9
      refine mm_g 2 (pc1 := 45) (lo1 := [some (.ref 137), some (.int (Int32.ofInt a1)), some (.int (Int32.ofInt a2)), some (.int (Int32.ofInt v6))]) (st1 := [.int (Int32.ofInt 1), .ref 137]) (H1 := mz_mk g1 x) rfl ?_
      refine mz_cv rfl mt_12_403 (by decide) (sc_137 _) rfl (Nat.le_of_ble_eq_true rfl) (by omega) (f_X12_refuse (by omega) hx hIg1 (by decide) (by decide) (fun v10 g11 hIg11 hfg11 l_v10 u_v10 hc12 => ⟨_, rfl, ?_⟩))
      show mm_W d mmX12_draw 48 [some (.ref 137), some (.int (Int32.ofInt a1)), some (.int (Int32.ofInt a2)), some (.int (Int32.ofInt v6))] [.int (Int32.ofInt v10)] (mz_mk g11 x) Q
      replace hE := zf_t2 hE hc12
      exact mm_rt rfl rfl (hQ _ _ hIg11 (fun k j hk => ((hfg11 k j (fun h => hk (Or.inr (Or.inl h)))).trans (hug1.2 k j (fun h => hk (Or.inl h))))) (by omega) (by omega) (by have h9 := (show g11 137 30 = (g 137 30) from ((hfg11 137 30 (fun h => (absurd (show 137 = 150 from h) (by decide)))).trans ((hug1.2 137 30 (fun h => absurd h.2 (by decide))).trans rfl))); omega) hE)
    · skip
      replace hE := zf_in hE c35_9
      refine mm_g 2 (pc1 := 40) (lo1 := [some (.ref 137), some (.int (Int32.ofInt a1)), some (.int (Int32.ofInt a2)), some (.int (Int32.ofInt v6))]) (st1 := [.int (Int32.ofInt v6), .int (Int32.ofInt a2)]) (H1 := mz_mk g1 x) rfl ?_
      refine mz_ic_ne (tgt := 49) rfl rfl (mz_rg l_a2 u_a2) (mz_rg l_v6 u_v6) (fun c40_12 => ?_) (fun c40_12 => ?_)
      · skip
        replace hE := zf_in hE c40_12
        refine mm_g 1 (pc1 := 50) (lo1 := [some (.ref 137), some (.int (Int32.ofInt a1)), some (.int (Int32.ofInt a2)), some (.int (Int32.ofInt v6))]) (st1 := [.ref 137]) (H1 := mz_mk g1 x) rfl ?_
        refine mz_cv rfl mt_12_406 (by decide) (sc_137 _) rfl (Nat.le_of_ble_eq_true rfl) (by omega) (f_X12_keep (by omega) hx hIg1 (by have h9 := (show g1 137 30 = (g 137 30) from ((hug1.2 137 30 (fun h => absurd h.2 (by decide))).trans rfl)); omega) (fun g13 hIg13 hfg13 hc14 => ⟨_, rfl, ?_⟩))
        show mm_W d mmX12_draw 53 [some (.ref 137), some (.int (Int32.ofInt a1)), some (.int (Int32.ofInt a2)), some (.int (Int32.ofInt v6))] [] (mz_mk g13 x) Q
        replace hE := zf_t1 hE hc14
        refine mm_g 1 (pc1 := 54) (lo1 := [some (.ref 137), some (.int (Int32.ofInt a1)), some (.int (Int32.ofInt a2)), some (.int (Int32.ofInt v6))]) (st1 := [.ref 137]) (H1 := mz_mk g13 x) rfl ?_
        refine mz_fgR (v := 155) rfl fd_12_82 (by decide) (sc_137 _) (rf_137_28 _ _ _) ?_
        refine mm_g 2 (pc1 := 59) (lo1 := [some (.ref 137), some (.int (Int32.ofInt a1)), some (.int (Int32.ofInt a2)), some (.int (Int32.ofInt v6))]) (st1 := [.int (Int32.ofInt a2), .int (Int32.ofInt a1), .ref 155]) (H1 := mz_mk g13 x) rfl ?_
        refine mz_sI rfl (sh_155 _) (by omega) (by omega) (by decide) hIg13 (ba_155 _) (by omega) (by omega) (fun g15 hIg15 hug15 => ?_)
        replace hE := zf_tr hE (zf_lg hug15)
        refine mm_g 1 (pc1 := 61) (lo1 := [some (.ref 137), some (.int (Int32.ofInt a1)), some (.int (Int32.ofInt a2)), some (.int (Int32.ofInt v6))]) (st1 := [.int (Int32.ofInt v6)]) (H1 := mz_mk g15 x) rfl ?_
        exact mm_rt rfl rfl (hQ _ _ hIg15 (fun k j hk => ((hug15.2 k j (fun h => hk (Or.inr (Or.inr (Or.inr (Or.inr h.1)))))).trans ((hfg13 k j (fun h => hk (Or.elim h (fun h => (Or.inr (Or.inr (Or.inl h)))) (fun h => (Or.inr (Or.inr (Or.inr (Or.inl h)))))))).trans (hug1.2 k j (fun h => hk (Or.inl h)))))) (by omega) (by omega) (by have h9 := (show g15 137 30 = (g 137 30) from ((hug15.2 137 30 (fun h => absurd h.1 (by decide))).trans ((hfg13 137 30 nj_28).trans ((hug1.2 137 30 (fun h => absurd h.2 (by decide))).trans rfl)))); omega) hE)
      · skip
        replace hE := zf_ip hE c40_12
        refine mm_g 2 (pc1 := 45) (lo1 := [some (.ref 137), some (.int (Int32.ofInt a1)), some (.int (Int32.ofInt a2)), some (.int (Int32.ofInt v6))]) (st1 := [.int (Int32.ofInt 1), .ref 137]) (H1 := mz_mk g1 x) rfl ?_
        refine mz_cv rfl mt_12_403 (by decide) (sc_137 _) rfl (Nat.le_of_ble_eq_true rfl) (by omega) (f_X12_refuse (by omega) hx hIg1 (by decide) (by decide) (fun v16 g17 hIg17 hfg17 l_v16 u_v16 hc18 => ⟨_, rfl, ?_⟩))
        show mm_W d mmX12_draw 48 [some (.ref 137), some (.int (Int32.ofInt a1)), some (.int (Int32.ofInt a2)), some (.int (Int32.ofInt v6))] [.int (Int32.ofInt v16)] (mz_mk g17 x) Q
        replace hE := zf_t2 hE hc18
        exact mm_rt rfl rfl (hQ _ _ hIg17 (fun k j hk => ((hfg17 k j (fun h => hk (Or.inr (Or.inl h)))).trans (hug1.2 k j (fun h => hk (Or.inl h))))) (by omega) (by omega) (by have h9 := (show g17 137 30 = (g 137 30) from ((hfg17 137 30 (fun h => (absurd (show 137 = 150 from h) (by decide)))).trans ((hug1.2 137 30 (fun h => absurd h.2 (by decide))).trans rfl))); omega) hE)
  · skip
    replace hE := zf_ip hE c10_5
    refine mm_g 2 (pc1 := 15) (lo1 := [some (.ref 137), some (.int (Int32.ofInt a1)), some (.int (Int32.ofInt a2)), none]) (st1 := [.int (Int32.ofInt 1), .ref 137]) (H1 := mz_mk g1 x) rfl ?_
    refine mz_cv rfl mt_12_294 (by decide) (sc_137 _) rfl (Nat.le_of_ble_eq_true rfl) (by omega) (f_X12_fail (by omega) hx hIg1 (by decide) (by decide) (fun v19 g20 hIg20 hfg20 l_v19 u_v19 hc21 => ⟨_, rfl, ?_⟩))
    show mm_W d mmX12_draw 18 [some (.ref 137), some (.int (Int32.ofInt a1)), some (.int (Int32.ofInt a2)), none] [.int (Int32.ofInt v19)] (mz_mk g20 x) Q
    replace hE := zf_t2 hE hc21
    exact mm_rt rfl rfl (hQ _ _ hIg20 (fun k j hk => ((hfg20 k j (fun h => hk (Or.inl h))).trans (hug1.2 k j (fun h => hk (Or.inl h))))) (by omega) (by omega) (by have h9 := (show g20 137 30 = (g 137 30) from ((hfg20 137 30 (fun h => (absurd (show (137 = 137 ∧ 30 = 2) from h) (by decide)))).trans ((hug1.2 137 30 (fun h => absurd h.2 (by decide))).trans rfl))); omega) hE)
def fw_X12_pull (x : mm_X) (a1 : Int) (a2 : Int) : Nat → Nat → Prop := fun k j => (k = 137 ∧ j = 2) ∨ k = 150 ∨ k = 156 ∨ (k = 137 ∧ j = 31) ∨ k = 152
theorem f_X12_pull {d : Nat} (hd : 14 ≤ d) {x : mm_X} (hx : mk_x x) {g : mz_G} (hI : mz_inv g) {a1 : Int} (l_a1 : (-2147483648) ≤ a1) (u_a1 : a1 ≤ 2147483647) {a2 : Int} (l_a2 : (-2147483648) ≤ a2) (u_a2 : a2 ≤ 2147483647) (p1 : mz_pv g) (p2 : g 137 30 ≤ 999) {Q : (Option Value ⊕ Nat) → mm_H → Prop} (hQ : ∀ (r : Int) (g1 : mz_G), mz_inv g1 → mz_fr (fw_X12_pull x a1 a2) g g1 → (-1) ≤ r → r ≤ 7 → (g1 137 30 ≤ 999) → zf_E (zF_X12_pull a1 a2 g) ((r, g1)) → Q (.inl (some (.int (Int32.ofInt r)))) (mz_mk g1 x)) : mm_C d 251 [.ref 137, .int (Int32.ofInt a1), .int (Int32.ofInt a2)] (mz_mk g x) Q := by
  refine ⟨mmX12_pull, [some (.ref 137), some (.int (Int32.ofInt a1)), some (.int (Int32.ofInt a2))], rfl, rfl, ?_⟩
  have bz0 := mz_rd hI bd_137_30
  have hpv := p1
  have hE : zf_E (zF_X12_pull a1 a2 g) (zF_X12_pull a1 a2 g) := zf_rf
  refine mm_g 2 (pc1 := 2) (lo1 := [some (.ref 137), some (.int (Int32.ofInt a1)), some (.int (Int32.ofInt a2))]) (st1 := [.int (Int32.ofInt 0), .ref 137]) (H1 := mz_mk g x) rfl ?_
  refine mz_pI rfl fd_12_154 (sc_137 _) hI bd_137_2 (by omega) (by omega) (fun g1 hIg1 hug1 => ?_)
  replace hE := zf_tr hE (zf_lg hug1)
  refine mm_g 2 (pc1 := 7) (lo1 := [some (.ref 137), some (.int (Int32.ofInt a1)), some (.int (Int32.ofInt a2))]) (st1 := [.int (Int32.ofInt a1), .ref 137]) (H1 := mz_mk g1 x) rfl ?_
  refine mz_cv rfl mt_12_391 (by decide) (sc_137 _) rfl (Nat.le_of_ble_eq_true rfl) (by omega) (f_X12_isTrunk (by omega) hx hIg1 l_a1 u_a1 (fun v2 l_v2 u_v2 hp3 hp4 hc5 => ⟨_, rfl, ?_⟩))
  show mm_W d mmX12_pull 10 [some (.ref 137), some (.int (Int32.ofInt a1)), some (.int (Int32.ofInt a2))] [.int (Int32.ofInt v2)] (mz_mk g1 x) Q
  replace hE := zf_t1 hE hc5
  refine mz_if_ne (tgt := 19) rfl rfl (mz_rg l_v2 u_v2) (fun c10_5 => ?_) (fun c10_5 => ?_)
  · skip
    replace hE := zf_in hE c10_5
    refine mm_g 1 (pc1 := 20) (lo1 := [some (.ref 137), some (.int (Int32.ofInt a1)), some (.int (Int32.ofInt a2))]) (st1 := [.int (Int32.ofInt a2)]) (H1 := mz_mk g1 x) rfl ?_
    refine mz_i2l rfl (mz_rg l_a2 u_a2) ?_
    refine mz_lcst (c := 1) rfl rfl ?_
    refine mz_l2w (c := 9) rfl rfl rfl ?_
    refine mz_cs rfl mt_12_157 (by decide) rfl (Nat.le_of_ble_eq_true rfl) (by omega) (f_X12_isIn (by omega) hx hIg1 (by omega) (by omega) (by omega) (by omega) (by omega) (by omega) (fun v6 l_v6 u_v6 hp7 hc8 => ⟨_, rfl, ?_⟩))
    show mm_W d mmX12_pull 28 [some (.ref 137), some (.int (Int32.ofInt a1)), some (.int (Int32.ofInt a2))] [.int (Int32.ofInt v6)] (mz_mk g1 x) Q
    replace hE := zf_t1 hE hc8
    refine mz_if_eq (tgt := 58) rfl rfl (mz_rg l_v6 u_v6) (fun c28_8 => ?_) (fun c28_8 => ?_)
    · skip
      replace hE := zf_ip hE c28_8
      refine mm_g 2 (pc1 := 60) (lo1 := [some (.ref 137), some (.int (Int32.ofInt a1)), some (.int (Int32.ofInt a2))]) (st1 := [.int (Int32.ofInt 1), .ref 137]) (H1 := mz_mk g1 x) rfl ?_
      refine mz_cv rfl mt_12_403 (by decide) (sc_137 _) rfl (Nat.le_of_ble_eq_true rfl) (by omega) (f_X12_refuse (by omega) hx hIg1 (by decide) (by decide) (fun v9 g10 hIg10 hfg10 l_v9 u_v9 hc11 => ⟨_, rfl, ?_⟩))
      show mm_W d mmX12_pull 63 [some (.ref 137), some (.int (Int32.ofInt a1)), some (.int (Int32.ofInt a2))] [.int (Int32.ofInt v9)] (mz_mk g10 x) Q
      replace hE := zf_t2 hE hc11
      exact mm_rt rfl rfl (hQ _ _ hIg10 (fun k j hk => ((hfg10 k j (fun h => hk (Or.inr (Or.inl h)))).trans (hug1.2 k j (fun h => hk (Or.inl h))))) (by omega) (by omega) (by have h9 := (show g10 137 30 = (g 137 30) from ((hfg10 137 30 (fun h => (absurd (show 137 = 150 from h) (by decide)))).trans ((hug1.2 137 30 (fun h => absurd h.2 (by decide))).trans rfl))); omega) hE)
    · skip
      replace hE := zf_in hE c28_8
      refine mm_g 1 (pc1 := 32) (lo1 := [some (.ref 137), some (.int (Int32.ofInt a1)), some (.int (Int32.ofInt a2))]) (st1 := [.ref 137]) (H1 := mz_mk g1 x) rfl ?_
      refine mz_fgR (v := 152) rfl fd_12_76 (by decide) (sc_137 _) (rf_137_25 _ _ _) ?_
      refine mm_g 1 (pc1 := 36) (lo1 := [some (.ref 137), some (.int (Int32.ofInt a1)), some (.int (Int32.ofInt a2))]) (st1 := [.int (Int32.ofInt a1), .ref 152]) (H1 := mz_mk g1 x) rfl ?_
      refine mz_aI rfl (sh_152 _) (by omega) (by omega) (by decide) hIg1 (ba_152 _) (fun v12 e_v12 l_v12 u_v12 => ?_)
      replace hE := zf_tr hE (zf_le e_v12)
      refine mz_if_eq (tgt := 58) rfl rfl (mz_rg l_v12 u_v12) (fun c37_12 => ?_) (fun c37_12 => ?_)
      · skip
        replace hE := zf_ip hE c37_12
        refine mm_g 2 (pc1 := 60) (lo1 := [some (.ref 137), some (.int (Int32.ofInt a1)), some (.int (Int32.ofInt a2))]) (st1 := [.int (Int32.ofInt 1), .ref 137]) (H1 := mz_mk g1 x) rfl ?_
        refine mz_cv rfl mt_12_403 (by decide) (sc_137 _) rfl (Nat.le_of_ble_eq_true rfl) (by omega) (f_X12_refuse (by omega) hx hIg1 (by decide) (by decide) (fun v13 g14 hIg14 hfg14 l_v13 u_v13 hc15 => ⟨_, rfl, ?_⟩))
        show mm_W d mmX12_pull 63 [some (.ref 137), some (.int (Int32.ofInt a1)), some (.int (Int32.ofInt a2))] [.int (Int32.ofInt v13)] (mz_mk g14 x) Q
        replace hE := zf_t2 hE hc15
        exact mm_rt rfl rfl (hQ _ _ hIg14 (fun k j hk => ((hfg14 k j (fun h => hk (Or.inr (Or.inl h)))).trans (hug1.2 k j (fun h => hk (Or.inl h))))) (by omega) (by omega) (by have h9 := (show g14 137 30 = (g 137 30) from ((hfg14 137 30 (fun h => (absurd (show 137 = 150 from h) (by decide)))).trans ((hug1.2 137 30 (fun h => absurd h.2 (by decide))).trans rfl))); omega) hE)
      · skip
        replace hE := zf_in hE c37_12
        refine mm_g 2 (pc1 := 42) (lo1 := [some (.ref 137), some (.int (Int32.ofInt a1)), some (.int (Int32.ofInt a2))]) (st1 := [.int (Int32.ofInt a1), .ref 137]) (H1 := mz_mk g1 x) rfl ?_
        refine mz_cv rfl mt_12_365 (by decide) (sc_137 _) rfl (Nat.le_of_ble_eq_true rfl) (by omega) (f_X12_isFull (by omega) hx hIg1 (by omega) (by omega) (fun v16 l_v16 u_v16 hc17 => ⟨_, rfl, ?_⟩))
        show mm_W d mmX12_pull 45 [some (.ref 137), some (.int (Int32.ofInt a1)), some (.int (Int32.ofInt a2))] [.int (Int32.ofInt v16)] (mz_mk g1 x) Q
        replace hE := zf_t1 hE hc17
        refine mz_if_ne (tgt := 58) rfl rfl (mz_rg l_v16 u_v16) (fun c45_17 => ?_) (fun c45_17 => ?_)
        · skip
          replace hE := zf_in hE c45_17
          refine mm_g 2 (pc1 := 60) (lo1 := [some (.ref 137), some (.int (Int32.ofInt a1)), some (.int (Int32.ofInt a2))]) (st1 := [.int (Int32.ofInt 1), .ref 137]) (H1 := mz_mk g1 x) rfl ?_
          refine mz_cv rfl mt_12_403 (by decide) (sc_137 _) rfl (Nat.le_of_ble_eq_true rfl) (by omega) (f_X12_refuse (by omega) hx hIg1 (by decide) (by decide) (fun v18 g19 hIg19 hfg19 l_v18 u_v18 hc20 => ⟨_, rfl, ?_⟩))
          show mm_W d mmX12_pull 63 [some (.ref 137), some (.int (Int32.ofInt a1)), some (.int (Int32.ofInt a2))] [.int (Int32.ofInt v18)] (mz_mk g19 x) Q
          replace hE := zf_t2 hE hc20
          exact mm_rt rfl rfl (hQ _ _ hIg19 (fun k j hk => ((hfg19 k j (fun h => hk (Or.inr (Or.inl h)))).trans (hug1.2 k j (fun h => hk (Or.inl h))))) (by omega) (by omega) (by have h9 := (show g19 137 30 = (g 137 30) from ((hfg19 137 30 (fun h => (absurd (show 137 = 150 from h) (by decide)))).trans ((hug1.2 137 30 (fun h => absurd h.2 (by decide))).trans rfl))); omega) hE)
        · skip
          replace hE := zf_ip hE c45_17
          refine mm_g 1 (pc1 := 49) (lo1 := [some (.ref 137), some (.int (Int32.ofInt a1)), some (.int (Int32.ofInt a2))]) (st1 := [.ref 137]) (H1 := mz_mk g1 x) rfl ?_
          refine mz_fgR (v := 144) rfl fd_12_49 (by decide) (sc_137 _) (rf_137_7 _ _ _) ?_
          refine mm_g 1 (pc1 := 53) (lo1 := [some (.ref 137), some (.int (Int32.ofInt a1)), some (.int (Int32.ofInt a2))]) (st1 := [.int (Int32.ofInt a1), .ref 144]) (H1 := mz_mk g1 x) rfl ?_
          refine mz_aI rfl (sh_144 _) (by omega) (by omega) (by decide) hIg1 (ba_144 _) (fun v21 e_v21 l_v21 u_v21 => ?_)
          replace hE := zf_tr hE (zf_le e_v21)
          refine mm_g 1 (pc1 := 55) (lo1 := [some (.ref 137), some (.int (Int32.ofInt a1)), some (.int (Int32.ofInt a2))]) (st1 := [.int (Int32.ofInt 1), .int (Int32.ofInt v21)]) (H1 := mz_mk g1 x) rfl ?_
          refine mz_ic_ne (tgt := 64) rfl rfl (mz_rg l_v21 u_v21) ⟨by decide, by decide⟩ (fun c55_21 => ?_) (fun c55_21 => ?_)
          · skip
            replace hE := zf_in hE c55_21
            refine mm_g 1 (pc1 := 65) (lo1 := [some (.ref 137), some (.int (Int32.ofInt a1)), some (.int (Int32.ofInt a2))]) (st1 := [.ref 137]) (H1 := mz_mk g1 x) rfl ?_
            refine mz_cv rfl mt_12_406 (by decide) (sc_137 _) rfl (Nat.le_of_ble_eq_true rfl) (by omega) (f_X12_keep (by omega) hx hIg1 (by have h9 := (show g1 137 30 = (g 137 30) from ((hug1.2 137 30 (fun h => absurd h.2 (by decide))).trans rfl)); omega) (fun g22 hIg22 hfg22 hc23 => ⟨_, rfl, ?_⟩))
            show mm_W d mmX12_pull 68 [some (.ref 137), some (.int (Int32.ofInt a1)), some (.int (Int32.ofInt a2))] [] (mz_mk g22 x) Q
            replace hE := zf_t1 hE hc23
            refine mm_g 1 (pc1 := 69) (lo1 := [some (.ref 137), some (.int (Int32.ofInt a1)), some (.int (Int32.ofInt a2))]) (st1 := [.ref 137]) (H1 := mz_mk g22 x) rfl ?_
            refine mz_fgR (v := 152) rfl fd_12_76 (by decide) (sc_137 _) (rf_137_25 _ _ _) ?_
            refine mm_g 3 (pc1 := 75) (lo1 := [some (.ref 137), some (.int (Int32.ofInt a1)), some (.int (Int32.ofInt a2))]) (st1 := [.ref 137, .int (Int32.ofInt 0), .int (Int32.ofInt a1), .ref 152]) (H1 := mz_mk g22 x) rfl ?_
            refine mz_fgR (v := 152) rfl fd_12_76 (by decide) (sc_137 _) (rf_137_25 _ _ _) ?_
            refine mm_g 1 (pc1 := 79) (lo1 := [some (.ref 137), some (.int (Int32.ofInt a1)), some (.int (Int32.ofInt a2))]) (st1 := [.int (Int32.ofInt a1), .ref 152, .int (Int32.ofInt 0), .int (Int32.ofInt a1), .ref 152]) (H1 := mz_mk g22 x) rfl ?_
            refine mz_ia (v := v12) rfl (sh_152 _) (by omega) (by omega) (by decide) (show g22 152 (a1 : Int).toNat = v12 from ((hfg22 152 (a1 : Int).toNat nj_31).trans e_v12)) ?_
            replace hE := zf_tr hE (zf_le (show g22 152 (a1 : Int).toNat = v12 from ((hfg22 152 (a1 : Int).toNat nj_31).trans e_v12)))
            refine mm_g 1 (pc1 := 81) (lo1 := [some (.ref 137), some (.int (Int32.ofInt a1)), some (.int (Int32.ofInt a2))]) (st1 := [.int (Int32.ofInt a2), .int (Int32.ofInt v12), .int (Int32.ofInt 0), .int (Int32.ofInt a1), .ref 152]) (H1 := mz_mk g22 x) rfl ?_
            refine mz_isub rfl ?_
            refine mz_mx rfl mt_12_329 (Nat.le_of_ble_eq_true rfl) (by omega) ⟨by decide, by decide⟩ ⟨by omega, by omega⟩ (fun v24 e_v24 => ?_)
            have l_v24 : 0 ≤ v24 := by omega
            have u_v24 : v24 ≤ 7 := by omega
            replace hE := zf_tr hE (zf_le e_v24.symm)
            refine mz_sI rfl (sh_152 _) (by omega) (by omega) (by decide) hIg22 (ba_152 _) (by omega) (by omega) (fun g25 hIg25 hug25 => ?_)
            replace hE := zf_tr hE (zf_lg hug25)
            refine mm_g 1 (pc1 := 87) (lo1 := [some (.ref 137), some (.int (Int32.ofInt a1)), some (.int (Int32.ofInt a2))]) (st1 := [.ref 137]) (H1 := mz_mk g25 x) rfl ?_
            refine mz_fgR (v := 152) rfl fd_12_76 (by decide) (sc_137 _) (rf_137_25 _ _ _) ?_
            refine mm_g 1 (pc1 := 91) (lo1 := [some (.ref 137), some (.int (Int32.ofInt a1)), some (.int (Int32.ofInt a2))]) (st1 := [.int (Int32.ofInt a1), .ref 152]) (H1 := mz_mk g25 x) rfl ?_
            refine mz_ia (v := v24) rfl (sh_152 _) (by omega) (by omega) (by decide) (show g25 152 (a1 : Int).toNat = v24 from hug25.1) ?_
            replace hE := zf_tr hE (zf_le (show g25 152 (a1 : Int).toNat = v24 from hug25.1))
            exact mm_rt rfl rfl (hQ _ _ hIg25 (fun k j hk => ((hug25.2 k j (fun h => hk (Or.inr (Or.inr (Or.inr (Or.inr h.1)))))).trans ((hfg22 k j (fun h => hk (Or.elim h (fun h => (Or.inr (Or.inr (Or.inl h)))) (fun h => (Or.inr (Or.inr (Or.inr (Or.inl h)))))))).trans (hug1.2 k j (fun h => hk (Or.inl h)))))) (by omega) (by omega) (by have h9 := (show g25 137 30 = (g 137 30) from ((hug25.2 137 30 (fun h => absurd h.1 (by decide))).trans ((hfg22 137 30 nj_28).trans ((hug1.2 137 30 (fun h => absurd h.2 (by decide))).trans rfl)))); omega) hE)
          · skip
            replace hE := zf_ip hE c55_21
            refine mm_g 2 (pc1 := 60) (lo1 := [some (.ref 137), some (.int (Int32.ofInt a1)), some (.int (Int32.ofInt a2))]) (st1 := [.int (Int32.ofInt 1), .ref 137]) (H1 := mz_mk g1 x) rfl ?_
            refine mz_cv rfl mt_12_403 (by decide) (sc_137 _) rfl (Nat.le_of_ble_eq_true rfl) (by omega) (f_X12_refuse (by omega) hx hIg1 (by decide) (by decide) (fun v26 g27 hIg27 hfg27 l_v26 u_v26 hc28 => ⟨_, rfl, ?_⟩))
            show mm_W d mmX12_pull 63 [some (.ref 137), some (.int (Int32.ofInt a1)), some (.int (Int32.ofInt a2))] [.int (Int32.ofInt v26)] (mz_mk g27 x) Q
            replace hE := zf_t2 hE hc28
            exact mm_rt rfl rfl (hQ _ _ hIg27 (fun k j hk => ((hfg27 k j (fun h => hk (Or.inr (Or.inl h)))).trans (hug1.2 k j (fun h => hk (Or.inl h))))) (by omega) (by omega) (by have h9 := (show g27 137 30 = (g 137 30) from ((hfg27 137 30 (fun h => (absurd (show 137 = 150 from h) (by decide)))).trans ((hug1.2 137 30 (fun h => absurd h.2 (by decide))).trans rfl))); omega) hE)
  · skip
    replace hE := zf_ip hE c10_5
    refine mm_g 2 (pc1 := 15) (lo1 := [some (.ref 137), some (.int (Int32.ofInt a1)), some (.int (Int32.ofInt a2))]) (st1 := [.int (Int32.ofInt 1), .ref 137]) (H1 := mz_mk g1 x) rfl ?_
    refine mz_cv rfl mt_12_294 (by decide) (sc_137 _) rfl (Nat.le_of_ble_eq_true rfl) (by omega) (f_X12_fail (by omega) hx hIg1 (by decide) (by decide) (fun v29 g30 hIg30 hfg30 l_v29 u_v29 hc31 => ⟨_, rfl, ?_⟩))
    show mm_W d mmX12_pull 18 [some (.ref 137), some (.int (Int32.ofInt a1)), some (.int (Int32.ofInt a2))] [.int (Int32.ofInt v29)] (mz_mk g30 x) Q
    replace hE := zf_t2 hE hc31
    exact mm_rt rfl rfl (hQ _ _ hIg30 (fun k j hk => ((hfg30 k j (fun h => hk (Or.inl h))).trans (hug1.2 k j (fun h => hk (Or.inl h))))) (by omega) (by omega) (by have h9 := (show g30 137 30 = (g 137 30) from ((hfg30 137 30 (fun h => (absurd (show (137 = 137 ∧ 30 = 2) from h) (by decide)))).trans ((hug1.2 137 30 (fun h => absurd h.2 (by decide))).trans rfl))); omega) hE)
def fw_X12_turnRound (x : mm_X) (a1 : Int) : Nat → Nat → Prop := fun k j => k = 153 ∨ k = 154 ∨ k = 152
theorem f_X12_turnRound {d : Nat} (hd : 1 ≤ d) {x : mm_X} (hx : mk_x x) {g : mz_G} (hI : mz_inv g) {a1 : Int} (l_a1 : 0 ≤ a1) (u_a1 : a1 ≤ 5) {Q : (Option Value ⊕ Nat) → mm_H → Prop} (hQ : ∀ (g1 : mz_G), mz_inv g1 → mz_fr (fw_X12_turnRound x a1) g g1 → zf_E (zF_X12_turnRound a1 g) (g1) → Q (.inl none) (mz_mk g1 x)) : mm_C d 252 [.ref 137, .int (Int32.ofInt a1)] (mz_mk g x) Q := by
  refine ⟨mmX12_turnRound, [some (.ref 137), some (.int (Int32.ofInt a1)), none], rfl, rfl, ?_⟩
  have hE : zf_E (zF_X12_turnRound a1 g) (zF_X12_turnRound a1 g) := zf_rf
  refine mm_g 1 (pc1 := 1) (lo1 := [some (.ref 137), some (.int (Int32.ofInt a1)), none]) (st1 := [.ref 137]) (H1 := mz_mk g x) rfl ?_
  refine mz_fgR (v := 153) rfl fd_12_78 (by decide) (sc_137 _) (rf_137_26 _ _ _) ?_
  refine mm_g 1 (pc1 := 5) (lo1 := [some (.ref 137), some (.int (Int32.ofInt a1)), none]) (st1 := [.int (Int32.ofInt a1), .ref 153]) (H1 := mz_mk g x) rfl ?_
  refine mz_aI rfl (sh_153 _) (by omega) (by omega) (by decide) hI (ba_153 _) (fun v1 e_v1 l_v1 u_v1 => ?_)
  replace hE := zf_tr hE (zf_le e_v1)
  refine mm_g 2 (pc1 := 8) (lo1 := [some (.ref 137), some (.int (Int32.ofInt a1)), some (.int (Int32.ofInt v1))]) (st1 := [.ref 137]) (H1 := mz_mk g x) rfl ?_
  refine mz_fgR (v := 153) rfl fd_12_78 (by decide) (sc_137 _) (rf_137_26 _ _ _) ?_
  refine mm_g 2 (pc1 := 13) (lo1 := [some (.ref 137), some (.int (Int32.ofInt a1)), some (.int (Int32.ofInt v1))]) (st1 := [.ref 137, .int (Int32.ofInt a1), .ref 153]) (H1 := mz_mk g x) rfl ?_
  refine mz_fgR (v := 154) rfl fd_12_80 (by decide) (sc_137 _) (rf_137_27 _ _ _) ?_
  refine mm_g 1 (pc1 := 17) (lo1 := [some (.ref 137), some (.int (Int32.ofInt a1)), some (.int (Int32.ofInt v1))]) (st1 := [.int (Int32.ofInt a1), .ref 154, .int (Int32.ofInt a1), .ref 153]) (H1 := mz_mk g x) rfl ?_
  refine mz_aI rfl (sh_154 _) (by omega) (by omega) (by decide) hI (ba_154 _) (fun v2 e_v2 l_v2 u_v2 => ?_)
  replace hE := zf_tr hE (zf_le e_v2)
  refine mz_sI rfl (sh_153 _) (by omega) (by omega) (by decide) hI (ba_153 _) (by omega) (by omega) (fun g3 hIg3 hug3 => ?_)
  replace hE := zf_tr hE (zf_lg hug3)
  refine mm_g 1 (pc1 := 20) (lo1 := [some (.ref 137), some (.int (Int32.ofInt a1)), some (.int (Int32.ofInt v1))]) (st1 := [.ref 137]) (H1 := mz_mk g3 x) rfl ?_
  refine mz_fgR (v := 154) rfl fd_12_80 (by decide) (sc_137 _) (rf_137_27 _ _ _) ?_
  refine mm_g 2 (pc1 := 25) (lo1 := [some (.ref 137), some (.int (Int32.ofInt a1)), some (.int (Int32.ofInt v1))]) (st1 := [.int (Int32.ofInt v1), .int (Int32.ofInt a1), .ref 154]) (H1 := mz_mk g3 x) rfl ?_
  refine mz_sI rfl (sh_154 _) (by omega) (by omega) (by decide) hIg3 (ba_154 _) (by omega) (by omega) (fun g4 hIg4 hug4 => ?_)
  replace hE := zf_tr hE (zf_lg hug4)
  refine mm_g 1 (pc1 := 27) (lo1 := [some (.ref 137), some (.int (Int32.ofInt a1)), some (.int (Int32.ofInt v1))]) (st1 := [.ref 137]) (H1 := mz_mk g4 x) rfl ?_
  refine mz_fgR (v := 152) rfl fd_12_76 (by decide) (sc_137 _) (rf_137_25 _ _ _) ?_
  refine mm_g 2 (pc1 := 32) (lo1 := [some (.ref 137), some (.int (Int32.ofInt a1)), some (.int (Int32.ofInt v1))]) (st1 := [.int (Int32.ofInt 0), .int (Int32.ofInt a1), .ref 152]) (H1 := mz_mk g4 x) rfl ?_
  refine mz_sI rfl (sh_152 _) (by omega) (by omega) (by decide) hIg4 (ba_152 _) (by omega) (by omega) (fun g5 hIg5 hug5 => ?_)
  replace hE := zf_tr hE (zf_lg hug5)
  exact mm_rt rfl rfl (hQ _ hIg5 (fun k j hk => ((hug5.2 k j (fun h => hk (Or.inr (Or.inr h.1)))).trans ((hug4.2 k j (fun h => hk (Or.inr (Or.inl h.1)))).trans (hug3.2 k j (fun h => hk (Or.inl h.1)))))) hE)
def fw_X12_turn (x : mm_X) (a1 : Int) : Nat → Nat → Prop := fun k j => (k = 137 ∧ j = 2) ∨ k = 156 ∨ (k = 137 ∧ j = 31) ∨ k = 153 ∨ k = 154 ∨ k = 152
theorem f_X12_turn {d : Nat} (hd : 3 ≤ d) {x : mm_X} (hx : mk_x x) {g : mz_G} (hI : mz_inv g) {a1 : Int} (l_a1 : (-2147483648) ≤ a1) (u_a1 : a1 ≤ 2147483647) (p1 : mz_pv g) (p2 : g 137 30 ≤ 999) {Q : (Option Value ⊕ Nat) → mm_H → Prop} (hQ : ∀ (r : Int) (g1 : mz_G), mz_inv g1 → mz_fr (fw_X12_turn x a1) g g1 → 0 ≤ r → r ≤ 8 → (g1 137 30 ≤ 999) → zf_E (zF_X12_turn a1 g) ((r, g1)) → Q (.inl (some (.int (Int32.ofInt r)))) (mz_mk g1 x)) : mm_C d 253 [.ref 137, .int (Int32.ofInt a1)] (mz_mk g x) Q := by
  refine ⟨mmX12_turn, [some (.ref 137), some (.int (Int32.ofInt a1)), none], rfl, rfl, ?_⟩
  have bz0 := mz_rd hI bd_137_30
  have hpv := p1
  have hE : zf_E (zF_X12_turn a1 g) (zF_X12_turn a1 g) := zf_rf
  refine mm_g 2 (pc1 := 2) (lo1 := [some (.ref 137), some (.int (Int32.ofInt a1)), none]) (st1 := [.int (Int32.ofInt 0), .ref 137]) (H1 := mz_mk g x) rfl ?_
  refine mz_pI rfl fd_12_154 (sc_137 _) hI bd_137_2 (by omega) (by omega) (fun g1 hIg1 hug1 => ?_)
  replace hE := zf_tr hE (zf_lg hug1)
  refine mm_g 2 (pc1 := 7) (lo1 := [some (.ref 137), some (.int (Int32.ofInt a1)), none]) (st1 := [.int (Int32.ofInt a1), .ref 137]) (H1 := mz_mk g1 x) rfl ?_
  refine mz_cv rfl mt_12_391 (by decide) (sc_137 _) rfl (Nat.le_of_ble_eq_true rfl) (by omega) (f_X12_isTrunk (by omega) hx hIg1 l_a1 u_a1 (fun v2 l_v2 u_v2 hp3 hp4 hc5 => ⟨_, rfl, ?_⟩))
  show mm_W d mmX12_turn 10 [some (.ref 137), some (.int (Int32.ofInt a1)), none] [.int (Int32.ofInt v2)] (mz_mk g1 x) Q
  replace hE := zf_t1 hE hc5
  refine mz_if_ne (tgt := 19) rfl rfl (mz_rg l_v2 u_v2) (fun c10_5 => ?_) (fun c10_5 => ?_)
  · skip
    replace hE := zf_in hE c10_5
    refine mm_g 1 (pc1 := 20) (lo1 := [some (.ref 137), some (.int (Int32.ofInt a1)), none]) (st1 := [.ref 137]) (H1 := mz_mk g1 x) rfl ?_
    refine mz_cv rfl mt_12_406 (by decide) (sc_137 _) rfl (Nat.le_of_ble_eq_true rfl) (by omega) (f_X12_keep (by omega) hx hIg1 (by have h9 := (show g1 137 30 = (g 137 30) from ((hug1.2 137 30 (fun h => absurd h.2 (by decide))).trans rfl)); omega) (fun g6 hIg6 hfg6 hc7 => ⟨_, rfl, ?_⟩))
    show mm_W d mmX12_turn 23 [some (.ref 137), some (.int (Int32.ofInt a1)), none] [] (mz_mk g6 x) Q
    replace hE := zf_t1 hE hc7
    refine mm_g 1 (pc1 := 24) (lo1 := [some (.ref 137), some (.int (Int32.ofInt a1)), none]) (st1 := [.ref 137]) (H1 := mz_mk g6 x) rfl ?_
    refine mz_fgR (v := 152) rfl fd_12_76 (by decide) (sc_137 _) (rf_137_25 _ _ _) ?_
    refine mm_g 1 (pc1 := 28) (lo1 := [some (.ref 137), some (.int (Int32.ofInt a1)), none]) (st1 := [.int (Int32.ofInt a1), .ref 152]) (H1 := mz_mk g6 x) rfl ?_
    refine mz_aI rfl (sh_152 _) (by omega) (by omega) (by decide) hIg6 (ba_152 _) (fun v8 e_v8 l_v8 u_v8 => ?_)
    replace hE := zf_tr hE (zf_le e_v8)
    refine mm_g 3 (pc1 := 32) (lo1 := [some (.ref 137), some (.int (Int32.ofInt a1)), some (.int (Int32.ofInt v8))]) (st1 := [.int (Int32.ofInt a1), .ref 137]) (H1 := mz_mk g6 x) rfl ?_
    refine mz_cv rfl mt_12_414 (by decide) (sc_137 _) rfl (Nat.le_of_ble_eq_true rfl) (by omega) (f_X12_turnRound (by omega) hx hIg6 (by omega) (by omega) (fun g9 hIg9 hfg9 hc10 => ⟨_, rfl, ?_⟩))
    show mm_W d mmX12_turn 35 [some (.ref 137), some (.int (Int32.ofInt a1)), some (.int (Int32.ofInt v8))] [] (mz_mk g9 x) Q
    replace hE := zf_t1 hE hc10
    refine mm_g 1 (pc1 := 36) (lo1 := [some (.ref 137), some (.int (Int32.ofInt a1)), some (.int (Int32.ofInt v8))]) (st1 := [.int (Int32.ofInt v8)]) (H1 := mz_mk g9 x) rfl ?_
    exact mm_rt rfl rfl (hQ _ _ hIg9 (fun k j hk => ((hfg9 k j (fun h => hk (Or.elim h (fun h => (Or.inr (Or.inr (Or.inr (Or.inl h))))) (fun h => (Or.elim h (fun h => (Or.inr (Or.inr (Or.inr (Or.inr (Or.inl h)))))) (fun h => (Or.inr (Or.inr (Or.inr (Or.inr (Or.inr h))))))))))).trans ((hfg6 k j (fun h => hk (Or.elim h (fun h => (Or.inr (Or.inl h))) (fun h => (Or.inr (Or.inr (Or.inl h))))))).trans (hug1.2 k j (fun h => hk (Or.inl h)))))) (by omega) (by omega) (by have h9 := (show g9 137 30 = (g 137 30) from ((hfg9 137 30 nj_32).trans ((hfg6 137 30 nj_28).trans ((hug1.2 137 30 (fun h => absurd h.2 (by decide))).trans rfl)))); omega) hE)
  · skip
    replace hE := zf_ip hE c10_5
    refine mm_g 2 (pc1 := 15) (lo1 := [some (.ref 137), some (.int (Int32.ofInt a1)), none]) (st1 := [.int (Int32.ofInt 1), .ref 137]) (H1 := mz_mk g1 x) rfl ?_
    refine mz_cv rfl mt_12_294 (by decide) (sc_137 _) rfl (Nat.le_of_ble_eq_true rfl) (by omega) (f_X12_fail (by omega) hx hIg1 (by decide) (by decide) (fun v11 g12 hIg12 hfg12 l_v11 u_v11 hc13 => ⟨_, rfl, ?_⟩))
    show mm_W d mmX12_turn 18 [some (.ref 137), some (.int (Int32.ofInt a1)), none] [.int (Int32.ofInt v11)] (mz_mk g12 x) Q
    replace hE := zf_t2 hE hc13
    exact mm_rt rfl rfl (hQ _ _ hIg12 (fun k j hk => ((hfg12 k j (fun h => hk (Or.inl h))).trans (hug1.2 k j (fun h => hk (Or.inl h))))) (by omega) (by omega) (by have h9 := (show g12 137 30 = (g 137 30) from ((hfg12 137 30 (fun h => (absurd (show (137 = 137 ∧ 30 = 2) from h) (by decide)))).trans ((hug1.2 137 30 (fun h => absurd h.2 (by decide))).trans rfl))); omega) hE)
def fw_X12_packIn (x : mm_X) (a1 : Int) (a2 : Int) (a3 : Int) : Nat → Nat → Prop := fun k j => k = 154 ∨ k = 152 ∨ k = 153
theorem f_X12_packIn {d : Nat} (hd : 1 ≤ d) {x : mm_X} (hx : mk_x x) {g : mz_G} (hI : mz_inv g) {a1 : Int} (l_a1 : 0 ≤ a1) (u_a1 : a1 ≤ 5) {a2 : Int} (l_a2 : (-2147483648) ≤ a2) (u_a2 : a2 ≤ 2147483647) {a3 : Int} (l_a3 : 0 ≤ a3) (u_a3 : a3 ≤ 7) {Q : (Option Value ⊕ Nat) → mm_H → Prop} (hQ : ∀ (g1 : mz_G), mz_inv g1 → mz_fr (fw_X12_packIn x a1 a2 a3) g g1 → zf_E (zF_X12_packIn a1 a2 a3 g) (g1) → Q (.inl none) (mz_mk g1 x)) : mm_C d 254 [.ref 137, .int (Int32.ofInt a1), .int (Int32.ofInt a2), .int (Int32.ofInt a3)] (mz_mk g x) Q := by
  refine ⟨mmX12_packIn, [some (.ref 137), some (.int (Int32.ofInt a1)), some (.int (Int32.ofInt a2)), some (.int (Int32.ofInt a3))], rfl, rfl, ?_⟩
  have hE : zf_E (zF_X12_packIn a1 a2 a3 g) (zF_X12_packIn a1 a2 a3 g) := zf_rf
  refine mm_g 1 (pc1 := 1) (lo1 := [some (.ref 137), some (.int (Int32.ofInt a1)), some (.int (Int32.ofInt a2)), some (.int (Int32.ofInt a3))]) (st1 := [.int (Int32.ofInt a2)]) (H1 := mz_mk g x) rfl ?_
  refine mz_if_ne (tgt := 14) rfl rfl (mz_rg l_a2 u_a2) (fun c1_0 => ?_) (fun c1_0 => ?_)
  · skip
    replace hE := zf_in hE c1_0
    refine mm_g 1 (pc1 := 15) (lo1 := [some (.ref 137), some (.int (Int32.ofInt a1)), some (.int (Int32.ofInt a2)), some (.int (Int32.ofInt a3))]) (st1 := [.ref 137]) (H1 := mz_mk g x) rfl ?_
    refine mz_fgR (v := 154) rfl fd_12_80 (by decide) (sc_137 _) (rf_137_27 _ _ _) ?_
    refine mm_g 2 (pc1 := 20) (lo1 := [some (.ref 137), some (.int (Int32.ofInt a1)), some (.int (Int32.ofInt a2)), some (.int (Int32.ofInt a3))]) (st1 := [.int (Int32.ofInt a3), .int (Int32.ofInt a1), .ref 154]) (H1 := mz_mk g x) rfl ?_
    refine mz_sI rfl (sh_154 _) (by omega) (by omega) (by decide) hI (ba_154 _) (by omega) (by omega) (fun g1 hIg1 hug1 => ?_)
    replace hE := zf_tr hE (zf_lg hug1)
    refine mm_g 1 (pc1 := 22) (lo1 := [some (.ref 137), some (.int (Int32.ofInt a1)), some (.int (Int32.ofInt a2)), some (.int (Int32.ofInt a3))]) (st1 := [.ref 137]) (H1 := mz_mk g1 x) rfl ?_
    refine mz_fgR (v := 152) rfl fd_12_76 (by decide) (sc_137 _) (rf_137_25 _ _ _) ?_
    refine mm_g 2 (pc1 := 27) (lo1 := [some (.ref 137), some (.int (Int32.ofInt a1)), some (.int (Int32.ofInt a2)), some (.int (Int32.ofInt a3))]) (st1 := [.int (Int32.ofInt 0), .int (Int32.ofInt a1), .ref 152]) (H1 := mz_mk g1 x) rfl ?_
    refine mz_sI rfl (sh_152 _) (by omega) (by omega) (by decide) hIg1 (ba_152 _) (by omega) (by omega) (fun g2 hIg2 hug2 => ?_)
    replace hE := zf_tr hE (zf_lg hug2)
    exact mm_rt rfl rfl (hQ _ hIg2 (fun k j hk => ((hug2.2 k j (fun h => hk (Or.inr (Or.inl h.1)))).trans (hug1.2 k j (fun h => hk (Or.inl h.1))))) hE)
  · skip
    replace hE := zf_ip hE c1_0
    refine mm_g 1 (pc1 := 5) (lo1 := [some (.ref 137), some (.int (Int32.ofInt a1)), some (.int (Int32.ofInt a2)), some (.int (Int32.ofInt a3))]) (st1 := [.ref 137]) (H1 := mz_mk g x) rfl ?_
    refine mz_fgR (v := 153) rfl fd_12_78 (by decide) (sc_137 _) (rf_137_26 _ _ _) ?_
    refine mm_g 2 (pc1 := 10) (lo1 := [some (.ref 137), some (.int (Int32.ofInt a1)), some (.int (Int32.ofInt a2)), some (.int (Int32.ofInt a3))]) (st1 := [.int (Int32.ofInt a3), .int (Int32.ofInt a1), .ref 153]) (H1 := mz_mk g x) rfl ?_
    refine mz_sI rfl (sh_153 _) (by omega) (by omega) (by decide) hI (ba_153 _) (by omega) (by omega) (fun g3 hIg3 hug3 => ?_)
    replace hE := zf_tr hE (zf_lg hug3)
    refine mz_gt (tgt := 21) rfl rfl ?_
    refine mm_g 1 (pc1 := 22) (lo1 := [some (.ref 137), some (.int (Int32.ofInt a1)), some (.int (Int32.ofInt a2)), some (.int (Int32.ofInt a3))]) (st1 := [.ref 137]) (H1 := mz_mk g3 x) rfl ?_
    refine mz_fgR (v := 152) rfl fd_12_76 (by decide) (sc_137 _) (rf_137_25 _ _ _) ?_
    refine mm_g 2 (pc1 := 27) (lo1 := [some (.ref 137), some (.int (Int32.ofInt a1)), some (.int (Int32.ofInt a2)), some (.int (Int32.ofInt a3))]) (st1 := [.int (Int32.ofInt 0), .int (Int32.ofInt a1), .ref 152]) (H1 := mz_mk g3 x) rfl ?_
    refine mz_sI rfl (sh_152 _) (by omega) (by omega) (by decide) hIg3 (ba_152 _) (by omega) (by omega) (fun g4 hIg4 hug4 => ?_)
    replace hE := zf_tr hE (zf_lg hug4)
    exact mm_rt rfl rfl (hQ _ hIg4 (fun k j hk => ((hug4.2 k j (fun h => hk (Or.inr (Or.inl h.1)))).trans (hug3.2 k j (fun h => hk (Or.inr (Or.inr h.1)))))) hE)
