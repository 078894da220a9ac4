/-! EXACT: the reference (wip/p2/tools/gen50.py) -/
theorem nj_6 : ¬ ((137 : Nat) = 151 ∨ ((137 : Nat) = 137 ∧ (30 : Nat) = 15)) := (fun h => (Or.elim h (fun h => (absurd (show 137 = 151 from h) (by decide))) (fun h => (absurd (show (137 = 137 ∧ 30 = 15) from h) (by decide)))))
theorem nj_7 : ¬ (((137 : Nat) = 137 ∧ (17 : Nat) = 19) ∨ ((137 : Nat) = 137 ∧ (17 : Nat) = 16)) := (fun h => (Or.elim h (fun h => (absurd (show (137 = 137 ∧ 17 = 19) from h) (by decide))) (fun h => (absurd (show (137 = 137 ∧ 17 = 16) from h) (by decide)))))
theorem nj_8 : ¬ (((137 : Nat) = 137 ∧ (20 : Nat) = 19) ∨ ((137 : Nat) = 137 ∧ (20 : Nat) = 16)) := (fun h => (Or.elim h (fun h => (absurd (show (137 = 137 ∧ 20 = 19) from h) (by decide))) (fun h => (absurd (show (137 = 137 ∧ 20 = 16) from h) (by decide)))))
theorem nj_9 : ¬ (((137 : Nat) = 137 ∧ (22 : Nat) = 19) ∨ ((137 : Nat) = 137 ∧ (22 : Nat) = 16)) := (fun h => (Or.elim h (fun h => (absurd (show (137 = 137 ∧ 22 = 19) from h) (by decide))) (fun h => (absurd (show (137 = 137 ∧ 22 = 16) from h) (by decide)))))
theorem fd_12_36 : mm_tab mm_fldT 12 36 = some (12, 3, 0) ∧ mm_tab mm_ftT 12 3 = some 6 := ⟨rfl, rfl⟩
theorem fd_12_69 : mm_tab mm_fldT 12 69 = some (12, 14, 0) ∧ mm_tab mm_ftT 12 14 = some 6 := ⟨rfl, rfl⟩
theorem fd_12_154 : mm_tab mm_fldT 12 154 = some (12, 2, 0) ∧ mm_tab mm_ftT 12 2 = some 0 := ⟨rfl, rfl⟩
theorem fd_12_161 : mm_tab mm_fldT 12 161 = some (12, 15, 0) ∧ mm_tab mm_ftT 12 15 = some 0 := ⟨rfl, rfl⟩
theorem fd_12_164 : mm_tab mm_fldT 12 164 = some (12, 17, 0) ∧ mm_tab mm_ftT 12 17 = some 0 := ⟨rfl, rfl⟩
theorem fd_12_167 : mm_tab mm_fldT 12 167 = some (12, 16, 0) ∧ mm_tab mm_ftT 12 16 = some 0 := ⟨rfl, rfl⟩
theorem fd_12_174 : mm_tab mm_fldT 12 174 = some (12, 20, 0) ∧ mm_tab mm_ftT 12 20 = some 0 := ⟨rfl, rfl⟩
theorem fd_12_177 : mm_tab mm_fldT 12 177 = some (12, 18, 0) ∧ mm_tab mm_ftT 12 18 = some 0 := ⟨rfl, rfl⟩
theorem fd_12_187 : mm_tab mm_fldT 12 187 = some (12, 19, 0) ∧ mm_tab mm_ftT 12 19 = some 0 := ⟨rfl, rfl⟩
theorem fd_12_200 : mm_tab mm_fldT 12 200 = some (12, 21, 0) ∧ mm_tab mm_ftT 12 21 = some 0 := ⟨rfl, rfl⟩
theorem fd_12_203 : mm_tab mm_fldT 12 203 = some (12, 22, 0) ∧ mm_tab mm_ftT 12 22 = some 0 := ⟨rfl, rfl⟩
theorem fd_12_206 : mm_tab mm_fldT 12 206 = some (12, 23, 0) ∧ mm_tab mm_ftT 12 23 = some 0 := ⟨rfl, rfl⟩
theorem mt_12_157 : mm_tab mm_mthT 12 157 = some (0, 183, 3, 0, 12) := rfl
theorem mt_12_170 : mm_tab mm_mthT 12 170 = some (1, 189, 1, 0, 12) := rfl
theorem mt_12_180 : mm_tab mm_mthT 12 180 = some (0, 190, 1, 0, 12) := rfl
theorem mt_12_184 : mm_tab mm_mthT 12 184 = some (0, 191, 1, 0, 12) := rfl
theorem mt_12_191 : mm_tab mm_mthT 12 191 = some (5, 0, 2, 0, 0) := rfl
theorem mt_12_197 : mm_tab mm_mthT 12 197 = some (0, 192, 1, 0, 12) := rfl
theorem mt_12_209 : mm_tab mm_mthT 12 209 = some (1, 294, 0, 0, 107) := rfl
theorem mt_12_213 : mm_tab mm_mthT 12 213 = some (1, 295, 1, 0, 107) := rfl
theorem mt_12_217 : mm_tab mm_mthT 12 217 = some (1, 195, 1, 0, 12) := rfl
theorem sc_137 (L : Nat) : (mm_SH L 137).1 = 12 := rfl
theorem sh_140 (L : Nat) : mm_SH L 140 = (100, 8) := rfl
theorem sh_151 (L : Nat) : mm_SH L 151 = (100, 700) := rfl
theorem bd_137_2 : mz_bd 137 2 = ((-2147483648), 2147483647) := rfl
theorem bd_137_15 : mz_bd 137 15 = (0, 700) := rfl
theorem bd_137_16 : mz_bd 137 16 = (0, 700) := rfl
theorem bd_137_17 : mz_bd 137 17 = (0, 700) := rfl
theorem bd_137_18 : mz_bd 137 18 = (0, 4) := rfl
theorem bd_137_19 : mz_bd 137 19 = ((-2147483648), 2147483647) := rfl
theorem bd_137_20 : mz_bd 137 20 = (0, 700) := rfl
theorem bd_137_21 : mz_bd 137 21 = (0, 700) := rfl
theorem bd_137_22 : mz_bd 137 22 = ((-2147483648), 2147483647) := rfl
theorem bd_137_23 : mz_bd 137 23 = ((-2147483648), 2147483647) := rfl
theorem bd_137_30 : mz_bd 137 30 = (0, 1999) := rfl
theorem ba_151 (j : Nat) : mz_bd 151 j = (0, 255) := rfl
theorem rf_137_3 (a b : Nat) (c : Option Nat) : mm_HR a b c 137 3 = some 140 := rfl
theorem rf_137_14 (a b : Nat) (c : Option Nat) : mm_HR a b c 137 14 = some 151 := rfl
theorem bt_140_0 : mz_bd 140 0 = (0, 8) := rfl
theorem bt_140_1 : mz_bd 140 1 = (0, 6) := rfl
theorem f_X12_thrown {d : Nat} (hd : 1 ≤ d) {x : mm_X} (hx : mk_x x) {g : mz_G} (hI : mz_inv g) {Q : (Option Value ⊕ Nat) → mm_H → Prop} (hQ : ∀ (r : Int), (-2147483648) ≤ r → r ≤ 2147483647 → zf_E (zF_X12_thrown g) (r) → Q (.inl (some (.int (Int32.ofInt r)))) (mz_mk g x)) : mm_C d 181 [.ref 137] (mz_mk g x) Q := by
  refine ⟨mmX12_thrown, [some (.ref 137)], rfl, rfl, ?_⟩
  have hE : zf_E (zF_X12_thrown g) (zF_X12_thrown g) := zf_rf
  refine mm_g 1 (pc1 := 1) (lo1 := [some (.ref 137)]) (st1 := [.ref 137]) (H1 := mz_mk g x) rfl ?_
  refine mz_gI rfl fd_12_154 (by decide) (sc_137 _) hI bd_137_2 (fun v1 e_v1 l_v1 u_v1 => ?_)
  replace hE := zf_tr hE (zf_le e_v1)
  exact mm_rt rfl rfl (hQ _ (by omega) (by omega) hE)
def fw_X12_fail (x : mm_X) (a1 : Int) : Nat → Nat → Prop := fun k j => (k = 137 ∧ j = 2)
theorem f_X12_fail {d : Nat} (hd : 1 ≤ d) {x : mm_X} (hx : mk_x x) {g : mz_G} (hI : mz_inv g) {a1 : Int} (l_a1 : (-2147483648) ≤ a1) (u_a1 : a1 ≤ 2147483647) {Q : (Option Value ⊕ Nat) → mm_H → Prop} (hQ : ∀ (r : Int) (g1 : mz_G), mz_inv g1 → mz_fr (fw_X12_fail x a1) g g1 → 0 ≤ r → r ≤ 0 → zf_E (zF_X12_fail a1 g) ((r, g1)) → Q (.inl (some (.int (Int32.ofInt r)))) (mz_mk g1 x)) : mm_C d 182 [.ref 137, .int (Int32.ofInt a1)] (mz_mk g x) Q := by
  refine ⟨mmX12_fail, [some (.ref 137), some (.int (Int32.ofInt a1))], rfl, rfl, ?_⟩
  have hE : zf_E (zF_X12_fail a1 g) (zF_X12_fail a1 g) := zf_rf
  refine mm_g 2 (pc1 := 2) (lo1 := [some (.ref 137), some (.int (Int32.ofInt a1))]) (st1 := [.int (Int32.ofInt a1), .ref 137]) (H1 := mz_mk g x) rfl ?_
  refine mz_pI rfl fd_12_154 (sc_137 _) hI bd_137_2 (by omega) (by omega) (fun g1 hIg1 hug1 => ?_)
  replace hE := zf_tr hE (zf_lg hug1)
  refine mm_g 1 (pc1 := 6) (lo1 := [some (.ref 137), some (.int (Int32.ofInt a1))]) (st1 := [.int (Int32.ofInt 0)]) (H1 := mz_mk g1 x) rfl ?_
  exact mm_rt rfl rfl (hQ _ _ hIg1 (fun k j hk => (hug1.2 k j (fun h => hk h))) (by decide) (by decide) hE)
theorem f_X12_isIn {d : Nat} (hd : 1 ≤ d) {x : mm_X} (hx : mk_x x) {g : mz_G} (hI : mz_inv g) {a1 : Int} (l_a1 : (-2147483648) ≤ a1) (u_a1 : a1 ≤ 2147483647) {a2 : Int} (l_a2 : (-2147483648) ≤ a2) (u_a2 : a2 ≤ 2147483647) {a3 : Int} (l_a3 : (-2147483648) ≤ a3) (u_a3 : a3 ≤ 2147483647) {Q : (Option Value ⊕ Nat) → mm_H → Prop} (hQ : ∀ (r : Int), 0 ≤ r → r ≤ 1 → (r = 1 ↔ (a2 ≤ a1 ∧ a1 ≤ a3)) → zf_E (zF_X12_isIn a1 a2 a3 g) (r) → Q (.inl (some (.int (Int32.ofInt r)))) (mz_mk g x)) : mm_C d 183 [.long (Int64.ofInt a1), .long (Int64.ofInt a2), .long (Int64.ofInt a3)] (mz_mk g x) Q := by
  refine ⟨mmX12_isIn, [some (.long (Int64.ofInt a1)), none, some (.long (Int64.ofInt a2)), none, some (.long (Int64.ofInt a3)), none], rfl, rfl, ?_⟩
  have hE : zf_E (zF_X12_isIn a1 a2 a3 g) (zF_X12_isIn a1 a2 a3 g) := zf_rf
  refine mm_g 2 (pc1 := 2) (lo1 := [some (.long (Int64.ofInt a1)), none, some (.long (Int64.ofInt a2)), none, some (.long (Int64.ofInt a3)), none]) (st1 := [.long (Int64.ofInt a2), .long (Int64.ofInt a1)]) (H1 := mz_mk g x) rfl ?_
  refine mz_lcmp rfl (mz_rg l_a1 u_a1) (mz_rg l_a2 u_a2) (fun v1 hwv1 e_v1 => ?_)
  have l_v1 := hwv1.1
  have u_v1 := hwv1.2
  refine mz_if_lt (tgt := 17) rfl rfl (mz_rg l_v1 u_v1) (fun c3_1 => ?_) (fun c3_1 => ?_)
  · skip
    replace hE := zf_ip hE (by omega)
    refine mm_g 1 (pc1 := 18) (lo1 := [some (.long (Int64.ofInt a1)), none, some (.long (Int64.ofInt a2)), none, some (.long (Int64.ofInt a3)), none]) (st1 := [.int (Int32.ofInt 0)]) (H1 := mz_mk g x) rfl ?_
    exact mz_rtZ rfl (by decide) (by omega) (hQ _ (by decide) (by decide) (by omega) hE)
  · skip
    replace hE := zf_in hE (by omega)
    refine mm_g 2 (pc1 := 9) (lo1 := [some (.long (Int64.ofInt a1)), none, some (.long (Int64.ofInt a2)), none, some (.long (Int64.ofInt a3)), none]) (st1 := [.long (Int64.ofInt a3), .long (Int64.ofInt a1)]) (H1 := mz_mk g x) rfl ?_
    refine mz_lcmp rfl (mz_rg l_a1 u_a1) (mz_rg l_a3 u_a3) (fun v2 hwv2 e_v2 => ?_)
    have l_v2 := hwv2.1
    have u_v2 := hwv2.2
    refine mz_if_gt (tgt := 17) rfl rfl (mz_rg l_v2 u_v2) (fun c10_2 => ?_) (fun c10_2 => ?_)
    · skip
      replace hE := zf_ip hE (by omega)
      refine mm_g 1 (pc1 := 18) (lo1 := [some (.long (Int64.ofInt a1)), none, some (.long (Int64.ofInt a2)), none, some (.long (Int64.ofInt a3)), none]) (st1 := [.int (Int32.ofInt 0)]) (H1 := mz_mk g x) rfl ?_
      exact mz_rtZ rfl (by decide) (by omega) (hQ _ (by decide) (by decide) (by omega) hE)
    · skip
      replace hE := zf_in hE (by omega)
      refine mm_g 1 (pc1 := 14) (lo1 := [some (.long (Int64.ofInt a1)), none, some (.long (Int64.ofInt a2)), none, some (.long (Int64.ofInt a3)), none]) (st1 := [.int (Int32.ofInt 1)]) (H1 := mz_mk g x) rfl ?_
      refine mz_gt (tgt := 18) rfl rfl ?_
      exact mz_rtZ rfl (by decide) (by omega) (hQ _ (by decide) (by decide) (by omega) hE)
theorem f_X12_isOf {d : Nat} (hd : 1 ≤ d) {x : mm_X} (hx : mk_x x) {g : mz_G} (hI : mz_inv g) {a1 : Int} (l_a1 : (-2147483648) ≤ a1) (u_a1 : a1 ≤ 2147483647) {a2 : Int} (l_a2 : (-2147483648) ≤ a2) (u_a2 : a2 ≤ 2147483647) {Q : (Option Value ⊕ Nat) → mm_H → Prop} (hQ : ∀ (r : Int), 0 ≤ r → r ≤ 1 → (0 ≤ a2 → a2 ≤ 31 → 0 ≤ a1 → r = mz_bit a1 a2) → zf_E (zF_X12_isOf a1 a2 g) (r) → Q (.inl (some (.int (Int32.ofInt r)))) (mz_mk g x)) : mm_C d 184 [.int (Int32.ofInt a1), .int (Int32.ofInt a2)] (mz_mk g x) Q := by
  refine ⟨mmX12_isOf, [some (.int (Int32.ofInt a1)), some (.int (Int32.ofInt a2))], rfl, rfl, ?_⟩
  have hE : zf_E (zF_X12_isOf a1 a2 g) (zF_X12_isOf a1 a2 g) := zf_rf
  refine mm_g 2 (pc1 := 2) (lo1 := [some (.int (Int32.ofInt a1)), some (.int (Int32.ofInt a2))]) (st1 := [.int (Int32.ofInt a2), .int (Int32.ofInt a1)]) (H1 := mz_mk g x) rfl ?_
  refine mz_ishr rfl (fun v1 e_v1 hwv1 => ?_)
  have l_v1 := hwv1.1
  have u_v1 := hwv1.2
  replace hE := zf_tr hE (zf_le e_v1.symm)
  refine mm_g 1 (pc1 := 4) (lo1 := [some (.int (Int32.ofInt a1)), some (.int (Int32.ofInt a2))]) (st1 := [.int (Int32.ofInt 1), .int (Int32.ofInt v1)]) (H1 := mz_mk g x) rfl ?_
  refine mz_iand rfl (fun v2 e_v2 hwv2 => ?_)
  have b_v2 : 0 ≤ v2 ∧ v2 ≤ 1 := by rw [e_v2]; exact mz_and_r (by omega) (by omega) (mz_rg l_v1 u_v1)
  have l_v2 := b_v2.1
  have u_v2 := b_v2.2
  replace hE := zf_tr hE (zf_le e_v2.symm)
  refine mm_g 1 (pc1 := 6) (lo1 := [some (.int (Int32.ofInt a1)), some (.int (Int32.ofInt a2))]) (st1 := [.int (Int32.ofInt 1), .int (Int32.ofInt v2)]) (H1 := mz_mk g x) rfl ?_
  refine mz_ic_ne (tgt := 13) rfl rfl (mz_rg l_v2 u_v2) ⟨by decide, by decide⟩ (fun c6_2 => ?_) (fun c6_2 => ?_)
  · skip
    replace hE := zf_in hE c6_2
    refine mm_g 1 (pc1 := 14) (lo1 := [some (.int (Int32.ofInt a1)), some (.int (Int32.ofInt a2))]) (st1 := [.int (Int32.ofInt 0)]) (H1 := mz_mk g x) rfl ?_
    exact mz_rtZ rfl (by decide) (by omega) (hQ _ (by decide) (by decide) (fun _ _ _ => (by unfold mz_bit; rw [← e_v1, ← e_v2]; omega)) hE)
  · skip
    replace hE := zf_ip hE c6_2
    refine mm_g 1 (pc1 := 10) (lo1 := [some (.int (Int32.ofInt a1)), some (.int (Int32.ofInt a2))]) (st1 := [.int (Int32.ofInt 1)]) (H1 := mz_mk g x) rfl ?_
    refine mz_gt (tgt := 14) rfl rfl ?_
    exact mz_rtZ rfl (by decide) (by omega) (hQ _ (by decide) (by decide) (fun _ _ _ => (by unfold mz_bit; rw [← e_v1, ← e_v2]; omega)) hE)
theorem f_X12_bitsOf {d : Nat} (hd : 1 ≤ d) {x : mm_X} (hx : mk_x x) {g : mz_G} (hI : mz_inv g) {a1 : Int} (l_a1 : 0 ≤ a1) (u_a1 : a1 ≤ 2147483647) {Q : (Option Value ⊕ Nat) → mm_H → Prop} (hQ : ∀ (r : Int), (-2147483648) ≤ r → r ≤ 2147483647 → zf_E (zF_X12_bitsOf a1 g) (r) → Q (.inl (some (.int (Int32.ofInt r)))) (mz_mk g x)) : mm_C d 185 [.int (Int32.ofInt a1)] (mz_mk g x) Q := by
  refine ⟨mmX12_bitsOf, [some (.int (Int32.ofInt a1)), none, none], rfl, rfl, ?_⟩
  have hE : zf_E (zF_X12_bitsOf a1 g) (zF_X12_bitsOf a1 g) := zf_rf
  refine mm_g 4 (pc1 := 4) (lo1 := [some (.int (Int32.ofInt a1)), some (.int (Int32.ofInt 0)), some (.int (Int32.ofInt a1))]) (st1 := []) (H1 := mz_mk g x) rfl ?_
  have L6 : ∀ n5 : Nat, ∀ (v1 : Int) (v2 : Int), (v2 - 0).toNat = n5 → (-2147483648) ≤ v1 → v1 ≤ 2147483647 → 0 ≤ v2 → v2 ≤ 2147483647 → (∃ fk : Nat, (v2 - 0).toNat < fk ∧ zf_E (zF_X12_bitsOf a1 g) (zL_X12_bitsOf_4 a1 g fk v1 v2)) → mm_W d mmX12_bitsOf 4 [some (.int (Int32.ofInt a1)), some (.int (Int32.ofInt v1)), some (.int (Int32.ofInt v2))] [] (mz_mk g x) Q := by
    intro n5
    induction n5 using Nat.strongRecOn with
    | ind n5 ih4 =>
    intro v1 v2 hmn5 l_v1 u_v1 l_v2 u_v2 hF
    obtain ⟨fk, fl, hE⟩ := hF
    obtain ⟨fj7, rfl⟩ : ∃ fj, fk = fj + 1 := ⟨fk - 1, by omega⟩
    have fn8 : n5 ≤ fj7 := by omega
    replace hE := zf_tr hE zL_X12_bitsOf_4_s
    refine mm_g 1 (pc1 := 5) (lo1 := [some (.int (Int32.ofInt a1)), some (.int (Int32.ofInt v1)), some (.int (Int32.ofInt v2))]) (st1 := [.int (Int32.ofInt v2)]) (H1 := mz_mk g x) rfl ?_
    refine mz_if_eq (tgt := 20) rfl rfl (mz_rg l_v2 u_v2) (fun c5_8 => ?_) (fun c5_8 => ?_)
    · skip
      replace hE := zf_ip hE c5_8
      refine mm_g 1 (pc1 := 21) (lo1 := [some (.int (Int32.ofInt a1)), some (.int (Int32.ofInt v1)), some (.int (Int32.ofInt v2))]) (st1 := [.int (Int32.ofInt v1)]) (H1 := mz_mk g x) rfl ?_
      exact mm_rt rfl rfl (hQ _ (by omega) (by omega) hE)
    · skip
      replace hE := zf_in hE c5_8
      refine mz_iincW (v := v1) (lo2 := fun v9 => [some (.int (Int32.ofInt a1)), some (.int (Int32.ofInt v9)), some (.int (Int32.ofInt v2))]) rfl rfl rfl (Nat.le_of_ble_eq_true rfl) (fun _ => rfl) (fun v9 e_v9 hwv9 => ?_)
      have l_v9 := hwv9.1
      have u_v9 := hwv9.2
      replace hE := zf_tr hE (zf_le e_v9.symm)
      refine mm_g 3 (pc1 := 14) (lo1 := [some (.int (Int32.ofInt a1)), some (.int (Int32.ofInt v9)), some (.int (Int32.ofInt v2))]) (st1 := [.int (Int32.ofInt 1), .int (Int32.ofInt v2), .int (Int32.ofInt v2)]) (H1 := mz_mk g x) rfl ?_
      refine mz_isub rfl ?_
      refine mz_iand rfl (fun v10 e_v10 hwv10 => ?_)
      have b_v10 : 0 ≤ v10 ∧ v10 ≤ 2147483646 := by rw [e_v10]; exact mz_and_r (by omega) (by omega) (mz_rg l_v2 u_v2)
      have l_v10 := b_v10.1
      have u_v10 := b_v10.2
      have w_v10 : v10 ≤ (v2 - 1) := by rw [e_v10]; exact (mz_and_r (hi := (v2 - 1)) (by omega) (Int.le_refl _) (mz_rg l_v2 u_v2) (by omega)).2
      replace hE := zf_tr hE (zf_le e_v10.symm)
      refine mm_g 1 (pc1 := 17) (lo1 := [some (.int (Int32.ofInt a1)), some (.int (Int32.ofInt v9)), some (.int (Int32.ofInt v10))]) (st1 := []) (H1 := mz_mk g x) rfl ?_
      refine mz_gt (tgt := 4) rfl rfl ?_
      exact ih4 ((v10 - 0).toNat) (by omega) v9 v10 rfl (by omega) (by omega) (by omega) (by omega) ⟨fj7, Nat.lt_of_lt_of_le (show ((v10 - 0).toNat) < n5 from (by omega)) fn8, hE⟩
  exact L6 _ 0 a1 rfl (by decide) (by decide) (by omega) (by omega) ⟨3000000000, by omega, hE⟩
theorem f_X12_isWord {d : Nat} (hd : 2 ≤ d) {x : mm_X} (hx : mk_x x) {g : mz_G} (hI : mz_inv g) {a1 : Int} (l_a1 : (-2147483648) ≤ a1) (u_a1 : a1 ≤ 2147483647) {Q : (Option Value ⊕ Nat) → mm_H → Prop} (hQ : ∀ (r : Int), 0 ≤ r → r ≤ 1 → (r = 1 ↔ (0 ≤ a1 ∧ a1 < g 140 0)) → (r = 1 → a1 ≤ 7) → zf_E (zF_X12_isWord a1 g) (r) → Q (.inl (some (.int (Int32.ofInt r)))) (mz_mk g x)) : mm_C d 186 [.ref 137, .int (Int32.ofInt a1)] (mz_mk g x) Q := by
  refine ⟨mmX12_isWord, [some (.ref 137), some (.int (Int32.ofInt a1))], rfl, rfl, ?_⟩
  have hE : zf_E (zF_X12_isWord a1 g) (zF_X12_isWord a1 g) := zf_rf
  refine mm_g 1 (pc1 := 1) (lo1 := [some (.ref 137), some (.int (Int32.ofInt a1))]) (st1 := [.int (Int32.ofInt a1)]) (H1 := mz_mk g x) rfl ?_
  refine mz_i2l rfl (mz_rg l_a1 u_a1) ?_
  refine mz_lcst (c := 0) rfl rfl ?_
  refine mm_g 1 (pc1 := 4) (lo1 := [some (.ref 137), some (.int (Int32.ofInt a1))]) (st1 := [.ref 137, .long (Int64.ofInt 0), .long (Int64.ofInt a1)]) (H1 := mz_mk g x) rfl ?_
  refine mz_fgR (v := 140) rfl fd_12_36 (by decide) (sc_137 _) (rf_137_3 _ _ _) ?_
  refine mm_g 1 (pc1 := 8) (lo1 := [some (.ref 137), some (.int (Int32.ofInt a1))]) (st1 := [.int (Int32.ofInt 0), .ref 140, .long (Int64.ofInt 0), .long (Int64.ofInt a1)]) (H1 := mz_mk g x) rfl ?_
  refine mz_aI rfl (sh_140 _) (by omega) (by omega) (by decide) hI bt_140_0 (fun v1 e_v1 l_v1 u_v1 => ?_)
  have e_v1 : g 140 0 = v1 := e_v1
  replace hE := zf_tr hE (zf_le e_v1)
  refine mm_g 1 (pc1 := 10) (lo1 := [some (.ref 137), some (.int (Int32.ofInt a1))]) (st1 := [.int (Int32.ofInt 1), .int (Int32.ofInt v1), .long (Int64.ofInt 0), .long (Int64.ofInt a1)]) (H1 := mz_mk g x) rfl ?_
  refine mz_isub rfl ?_
  refine mz_i2l rfl ⟨by omega, by omega⟩ ?_
  refine mz_cs rfl mt_12_157 (by decide) rfl (Nat.le_of_ble_eq_true rfl) (by omega) (f_X12_isIn (by omega) hx hI (by omega) (by omega) (by omega) (by omega) (by omega) (by omega) (fun v2 l_v2 u_v2 hp3 hc4 => ⟨_, rfl, ?_⟩))
  show mm_W d mmX12_isWord 15 [some (.ref 137), some (.int (Int32.ofInt a1))] [.int (Int32.ofInt v2)] (mz_mk g x) Q
  replace hE := zf_t1 hE hc4
  exact mz_rtZ rfl (by decide) (by omega) (hQ _ (by omega) (by omega) (by omega) (by omega) hE)
theorem f_X12_isTrunk {d : Nat} (hd : 2 ≤ d) {x : mm_X} (hx : mk_x x) {g : mz_G} (hI : mz_inv g) {a1 : Int} (l_a1 : (-2147483648) ≤ a1) (u_a1 : a1 ≤ 2147483647) {Q : (Option Value ⊕ Nat) → mm_H → Prop} (hQ : ∀ (r : Int), 0 ≤ r → r ≤ 1 → (r = 1 ↔ (0 ≤ a1 ∧ a1 < g 140 1)) → (r = 1 → a1 ≤ 5) → zf_E (zF_X12_isTrunk a1 g) (r) → Q (.inl (some (.int (Int32.ofInt r)))) (mz_mk g x)) : mm_C d 187 [.ref 137, .int (Int32.ofInt a1)] (mz_mk g x) Q := by
  refine ⟨mmX12_isTrunk, [some (.ref 137), some (.int (Int32.ofInt a1))], rfl, rfl, ?_⟩
  have hE : zf_E (zF_X12_isTrunk a1 g) (zF_X12_isTrunk a1 g) := zf_rf
  refine mm_g 1 (pc1 := 1) (lo1 := [some (.ref 137), some (.int (Int32.ofInt a1))]) (st1 := [.int (Int32.ofInt a1)]) (H1 := mz_mk g x) rfl ?_
  refine mz_i2l rfl (mz_rg l_a1 u_a1) ?_
  refine mz_lcst (c := 0) rfl rfl ?_
  refine mm_g 1 (pc1 := 4) (lo1 := [some (.ref 137), some (.int (Int32.ofInt a1))]) (st1 := [.ref 137, .long (Int64.ofInt 0), .long (Int64.ofInt a1)]) (H1 := mz_mk g x) rfl ?_
  refine mz_fgR (v := 140) rfl fd_12_36 (by decide) (sc_137 _) (rf_137_3 _ _ _) ?_
  refine mm_g 1 (pc1 := 8) (lo1 := [some (.ref 137), some (.int (Int32.ofInt a1))]) (st1 := [.int (Int32.ofInt 1), .ref 140, .long (Int64.ofInt 0), .long (Int64.ofInt a1)]) (H1 := mz_mk g x) rfl ?_
  refine mz_aI rfl (sh_140 _) (by omega) (by omega) (by decide) hI bt_140_1 (fun v1 e_v1 l_v1 u_v1 => ?_)
  have e_v1 : g 140 1 = v1 := e_v1
  replace hE := zf_tr hE (zf_le e_v1)
  refine mm_g 1 (pc1 := 10) (lo1 := [some (.ref 137), some (.int (Int32.ofInt a1))]) (st1 := [.int (Int32.ofInt 1), .int (Int32.ofInt v1), .long (Int64.ofInt 0), .long (Int64.ofInt a1)]) (H1 := mz_mk g x) rfl ?_
  refine mz_isub rfl ?_
  refine mz_i2l rfl ⟨by omega, by omega⟩ ?_
  refine mz_cs rfl mt_12_157 (by decide) rfl (Nat.le_of_ble_eq_true rfl) (by omega) (f_X12_isIn (by omega) hx hI (by omega) (by omega) (by omega) (by omega) (by omega) (by omega) (fun v2 l_v2 u_v2 hp3 hc4 => ⟨_, rfl, ?_⟩))
  show mm_W d mmX12_isTrunk 15 [some (.ref 137), some (.int (Int32.ofInt a1))] [.int (Int32.ofInt v2)] (mz_mk g x) Q
  replace hE := zf_t1 hE hc4
  exact mz_rtZ rfl (by decide) (by omega) (hQ _ (by omega) (by omega) (by omega) (by omega) hE)
def fl_X12_feed_23 (x : mm_X) (a1 : Int) (a2 : Int) (a3 : Int) (a4 : Int) (a5 : Int) : Nat → Nat → Prop := fun k j => k = 151 ∨ (k = 137 ∧ j = 15)
def fw_X12_feed (x : mm_X) (a1 : Int) (a2 : Int) (a3 : Int) (a4 : Int) (a5 : Int) : Nat → Nat → Prop := fun k j => (k = 137 ∧ j = 2) ∨ k = 151 ∨ (k = 137 ∧ j = 15)
theorem f_X12_feed {d : Nat} (hd : 1 ≤ d) {x : mm_X} (hx : mk_x x) {g : mz_G} (hI : mz_inv g) {a1 : Int} (l_a1 : (-2147483648) ≤ a1) (u_a1 : a1 ≤ 2147483647) {a2 : Int} (l_a2 : (-2147483648) ≤ a2) (u_a2 : a2 ≤ 2147483647) {a3 : Int} (l_a3 : (-2147483648) ≤ a3) (u_a3 : a3 ≤ 2147483647) {a4 : Int} (l_a4 : (-2147483648) ≤ a4) (u_a4 : a4 ≤ 2147483647) {a5 : Int} (l_a5 : (-2147483648) ≤ a5) (u_a5 : a5 ≤ 2147483647) (p1 : mz_pv g) (p2 : g 137 30 ≤ 999) {Q : (Option Value ⊕ Nat) → mm_H → Prop} (hQ : ∀ (r : Int) (g1 : mz_G), mz_inv g1 → mz_fr (fw_X12_feed x a1 a2 a3 a4 a5) g g1 → (-1) ≤ r → r ≤ 700 → (g1 137 30 ≤ 999) → ((g 137 15 + 20 ≤ 700 → r = g 137 15 + 20 ∧ g1 137 15 = r) ∧ (700 < g 137 15 + 20 → r = -1 ∧ g1 137 15 = g 137 15)) → zf_E (zF_X12_feed a1 a2 a3 a4 a5 g) ((r, g1)) → Q (.inl (some (.int (Int32.ofInt r)))) (mz_mk g1 x)) : mm_C d 188 [.ref 137, .int (Int32.ofInt a1), .int (Int32.ofInt a2), .int (Int32.ofInt a3), .int (Int32.ofInt a4), .int (Int32.ofInt a5)] (mz_mk g x) Q := by
  refine ⟨mmX12_feed, [some (.ref 137), some (.int (Int32.ofInt a1)), some (.int (Int32.ofInt a2)), some (.int (Int32.ofInt a3)), some (.int (Int32.ofInt a4)), some (.int (Int32.ofInt a5)), none, none], rfl, rfl, ?_⟩
  have bz0 := mz_rd hI bd_137_30
  have bz1 := mz_rd hI bd_137_15
  have hpv := p1
  have hE : zf_E (zF_X12_feed a1 a2 a3 a4 a5 g) (zF_X12_feed a1 a2 a3 a4 a5 g) := zf_rf
  refine mm_g 2 (pc1 := 2) (lo1 := [some (.ref 137), some (.int (Int32.ofInt a1)), some (.int (Int32.ofInt a2)), some (.int (Int32.ofInt a3)), some (.int (Int32.ofInt a4)), some (.int (Int32.ofInt a5)), none, none]) (st1 := [.int (Int32.ofInt 0), .ref 137]) (H1 := mz_mk g x) rfl ?_
  refine mz_pI rfl fd_12_154 (sc_137 _) hI bd_137_2 (by omega) (by omega) (fun g1 hIg1 hug1 => ?_)
  replace hE := zf_tr hE (zf_lg hug1)
  refine mm_g 1 (pc1 := 6) (lo1 := [some (.ref 137), some (.int (Int32.ofInt a1)), some (.int (Int32.ofInt a2)), some (.int (Int32.ofInt a3)), some (.int (Int32.ofInt a4)), some (.int (Int32.ofInt a5)), none, none]) (st1 := [.ref 137]) (H1 := mz_mk g1 x) rfl ?_
  refine mz_fgI (v := (g 137 15)) rfl fd_12_161 (by decide) (sc_137 _) (show g1 137 15 = (g 137 15) from ((hug1.2 137 15 (fun h => absurd h.2 (by decide))).trans rfl)) ?_
  replace hE := zf_tr hE (zf_le (show g1 137 15 = (g 137 15) from ((hug1.2 137 15 (fun h => absurd h.2 (by decide))).trans rfl)))
  refine mz_bip rfl bip_20 ?_
  refine mz_iadd rfl ?_
  refine mz_sip rfl sip_700 ?_
  refine mz_ic_le (tgt := 20) rfl rfl ⟨by omega, by omega⟩ ⟨by decide, by decide⟩ (fun c15_1 => ?_) (fun c15_1 => ?_)
  · skip
    replace hE := zf_nl hE c15_1
    refine mm_g 2 (pc1 := 23) (lo1 := [some (.ref 137), some (.int (Int32.ofInt a1)), some (.int (Int32.ofInt a2)), some (.int (Int32.ofInt a3)), some (.int (Int32.ofInt a4)), some (.int (Int32.ofInt a5)), some (.int (Int32.ofInt 0)), none]) (st1 := []) (H1 := mz_mk g1 x) rfl ?_
    have L7 : ∀ n6 : Nat, ∀ (v2 : Int) (o3 : Option Value) (g4 : mz_G), (20 - v2).toNat = n6 → 0 ≤ v2 → v2 ≤ 20 → mz_nl o3 → mz_inv g4 → mz_fr (fl_X12_feed_23 x a1 a2 a3 a4 a5) g1 g4 → (g4 137 15 = g 137 15 + v2) → (∃ fk : Nat, (20 - v2).toNat < fk ∧ zf_E (zF_X12_feed a1 a2 a3 a4 a5 g) (zL_X12_feed_23 a1 a2 a3 a4 a5 fk v2 g4)) → mm_W d mmX12_feed 23 [some (.ref 137), some (.int (Int32.ofInt a1)), some (.int (Int32.ofInt a2)), some (.int (Int32.ofInt a3)), some (.int (Int32.ofInt a4)), some (.int (Int32.ofInt a5)), some (.int (Int32.ofInt v2)), o3] [] (mz_mk g4 x) Q := by
      intro n6
      induction n6 using Nat.strongRecOn with
      | ind n6 ih5 =>
      intro v2 o3 g4 hmn6 l_v2 u_v2 h_o3 hIg4 hfg4 hv8 hF
      obtain ⟨fk, fl, hE⟩ := hF
      obtain ⟨fj9, rfl⟩ : ∃ fj, fk = fj + 1 := ⟨fk - 1, by omega⟩
      have fn10 : n6 ≤ fj9 := by omega
      replace hE := zf_tr hE zL_X12_feed_23_s
      have bz_g4_15 := mz_rd hIg4 bd_137_15
      refine mm_g 1 (pc1 := 25) (lo1 := [some (.ref 137), some (.int (Int32.ofInt a1)), some (.int (Int32.ofInt a2)), some (.int (Int32.ofInt a3)), some (.int (Int32.ofInt a4)), some (.int (Int32.ofInt a5)), some (.int (Int32.ofInt v2)), o3]) (st1 := [.int (Int32.ofInt v2)]) (H1 := mz_mk g4 x) rfl ?_
      refine mz_bip rfl bip_20 ?_
      refine mz_ic_ge (tgt := 120) rfl rfl (mz_rg l_v2 u_v2) ⟨by decide, by decide⟩ (fun c27_10 => ?_) (fun c27_10 => ?_)
      · skip
        replace hE := zf_nl hE c27_10
        refine mm_g 1 (pc1 := 121) (lo1 := [some (.ref 137), some (.int (Int32.ofInt a1)), some (.int (Int32.ofInt a2)), some (.int (Int32.ofInt a3)), some (.int (Int32.ofInt a4)), some (.int (Int32.ofInt a5)), some (.int (Int32.ofInt v2)), o3]) (st1 := [.ref 137]) (H1 := mz_mk g4 x) rfl ?_
        refine mz_fgI (v := (g 137 15 + v2)) rfl fd_12_161 (by decide) (sc_137 _) hv8 ?_
        replace hE := zf_tr hE (zf_le hv8)
        exact mm_rt rfl rfl (hQ _ _ hIg4 (fun k j hk => ((hfg4 k j (fun h => hk (Or.elim h (fun h => (Or.inr (Or.inl h))) (fun h => (Or.inr (Or.inr h)))))).trans (hug1.2 k j (fun h => hk (Or.inl h))))) (by omega) (by omega) (by have h9 := (show g4 137 30 = (g 137 30) from ((hfg4 137 30 nj_6).trans ((hug1.2 137 30 (fun h => absurd h.2 (by decide))).trans rfl))); omega) (by have h9 := hv8; omega) hE)
      · skip
        replace hE := zf_ip hE c27_10
        refine mm_g 2 (pc1 := 33) (lo1 := [some (.ref 137), some (.int (Int32.ofInt a1)), some (.int (Int32.ofInt a2)), some (.int (Int32.ofInt a3)), some (.int (Int32.ofInt a4)), some (.int (Int32.ofInt a5)), some (.int (Int32.ofInt v2)), o3]) (st1 := [.int (Int32.ofInt 4), .int (Int32.ofInt v2)]) (H1 := mz_mk g4 x) rfl ?_
        refine mz_ic_ge (tgt := 40) rfl rfl (mz_rg l_v2 u_v2) ⟨by decide, by decide⟩ (fun c33_10 => ?_) (fun c33_10 => ?_)
        · skip
          replace hE := zf_nl hE c33_10
          refine mm_g 1 (pc1 := 42) (lo1 := [some (.ref 137), some (.int (Int32.ofInt a1)), some (.int (Int32.ofInt a2)), some (.int (Int32.ofInt a3)), some (.int (Int32.ofInt a4)), some (.int (Int32.ofInt a5)), some (.int (Int32.ofInt v2)), o3]) (st1 := [.int (Int32.ofInt v2)]) (H1 := mz_mk g4 x) rfl ?_
          refine mz_bip rfl bip_8 ?_
          refine mz_ic_ge (tgt := 51) rfl rfl (mz_rg l_v2 u_v2) ⟨by decide, by decide⟩ (fun c44_10 => ?_) (fun c44_10 => ?_)
          · skip
            replace hE := zf_nl hE c44_10
            refine mm_g 1 (pc1 := 53) (lo1 := [some (.ref 137), some (.int (Int32.ofInt a1)), some (.int (Int32.ofInt a2)), some (.int (Int32.ofInt a3)), some (.int (Int32.ofInt a4)), some (.int (Int32.ofInt a5)), some (.int (Int32.ofInt v2)), o3]) (st1 := [.int (Int32.ofInt v2)]) (H1 := mz_mk g4 x) rfl ?_
            refine mz_bip rfl bip_12 ?_
            refine mz_ic_ge (tgt := 62) rfl rfl (mz_rg l_v2 u_v2) ⟨by decide, by decide⟩ (fun c55_10 => ?_) (fun c55_10 => ?_)
            · skip
              replace hE := zf_nl hE c55_10
              refine mm_g 1 (pc1 := 64) (lo1 := [some (.ref 137), some (.int (Int32.ofInt a1)), some (.int (Int32.ofInt a2)), some (.int (Int32.ofInt a3)), some (.int (Int32.ofInt a4)), some (.int (Int32.ofInt a5)), some (.int (Int32.ofInt v2)), o3]) (st1 := [.int (Int32.ofInt v2)]) (H1 := mz_mk g4 x) rfl ?_
              refine mz_bip rfl bip_16 ?_
              refine mz_ic_ge (tgt := 74) rfl rfl (mz_rg l_v2 u_v2) ⟨by decide, by decide⟩ (fun c66_10 => ?_) (fun c66_10 => ?_)
              · skip
                replace hE := zf_nl hE c66_10
                refine mm_g 3 (pc1 := 79) (lo1 := [some (.ref 137), some (.int (Int32.ofInt a1)), some (.int (Int32.ofInt a2)), some (.int (Int32.ofInt a3)), some (.int (Int32.ofInt a4)), some (.int (Int32.ofInt a5)), some (.int (Int32.ofInt v2)), some (.int (Int32.ofInt a5))]) (st1 := [.ref 137]) (H1 := mz_mk g4 x) rfl ?_
                refine mz_fgR (v := 151) rfl fd_12_69 (by decide) (sc_137 _) (rf_137_14 _ _ _) ?_
                refine mm_g 1 (pc1 := 83) (lo1 := [some (.ref 137), some (.int (Int32.ofInt a1)), some (.int (Int32.ofInt a2)), some (.int (Int32.ofInt a3)), some (.int (Int32.ofInt a4)), some (.int (Int32.ofInt a5)), some (.int (Int32.ofInt v2)), some (.int (Int32.ofInt a5))]) (st1 := [.ref 137, .ref 151]) (H1 := mz_mk g4 x) rfl ?_
                refine mz_fgI (v := (g 137 15 + v2)) rfl fd_12_161 (by decide) (sc_137 _) hv8 ?_
                replace hE := zf_tr hE (zf_le hv8)
                refine mm_g 1 (pc1 := 88) (lo1 := [some (.ref 137), some (.int (Int32.ofInt a1)), some (.int (Int32.ofInt a2)), some (.int (Int32.ofInt a3)), some (.int (Int32.ofInt a4)), some (.int (Int32.ofInt a5)), some (.int (Int32.ofInt v2)), some (.int (Int32.ofInt a5))]) (st1 := [.int (Int32.ofInt a5), .int (Int32.ofInt (g 137 15 + v2)), .ref 151]) (H1 := mz_mk g4 x) rfl ?_
                refine mz_bip rfl bip_24 ?_
                refine mz_bip rfl bip_8 ?_
                refine mm_g 2 (pc1 := 95) (lo1 := [some (.ref 137), some (.int (Int32.ofInt a1)), some (.int (Int32.ofInt a2)), some (.int (Int32.ofInt a3)), some (.int (Int32.ofInt a4)), some (.int (Int32.ofInt a5)), some (.int (Int32.ofInt v2)), some (.int (Int32.ofInt a5))]) (st1 := [.int (Int32.ofInt 4), .int (Int32.ofInt v2), .int (Int32.ofInt 8), .int (Int32.ofInt 24), .int (Int32.ofInt a5), .int (Int32.ofInt (g 137 15 + v2)), .ref 151]) (H1 := mz_mk g4 x) rfl ?_
                refine mz_iremq rfl (mz_rg l_v2 u_v2) ⟨by decide, by decide⟩ (by omega) (by omega) (fun v11 e_v11 l_v11 w_v11 z_v11 => ?_)
                have u_v11 : v11 ≤ 3 := by omega
                replace hE := zf_tr hE (zf_le e_v11.symm)
                refine mz_imul rfl ?_
                refine mz_isub rfl ?_
                refine mz_ishr rfl (fun v12 e_v12 hwv12 => ?_)
                have l_v12 := hwv12.1
                have u_v12 := hwv12.2
                replace hE := zf_tr hE (zf_le e_v12.symm)
                refine mz_sip rfl sip_255 ?_
                refine mz_iand rfl (fun v13 e_v13 hwv13 => ?_)
                have b_v13 : 0 ≤ v13 ∧ v13 ≤ 255 := by rw [e_v13]; exact mz_and_r (by omega) (by omega) (mz_rg l_v12 u_v12)
                have l_v13 := b_v13.1
                have u_v13 := b_v13.2
                replace hE := zf_tr hE (zf_le e_v13.symm)
                refine mz_sI rfl (sh_151 _) (by omega) (by omega) (by decide) hIg4 (ba_151 _) (by omega) (by omega) (fun g14 hIg14 hug14 => ?_)
                replace hE := zf_tr hE (zf_lg hug14)
                refine mm_g 2 (pc1 := 106) (lo1 := [some (.ref 137), some (.int (Int32.ofInt a1)), some (.int (Int32.ofInt a2)), some (.int (Int32.ofInt a3)), some (.int (Int32.ofInt a4)), some (.int (Int32.ofInt a5)), some (.int (Int32.ofInt v2)), some (.int (Int32.ofInt a5))]) (st1 := [.ref 137, .ref 137]) (H1 := mz_mk g14 x) rfl ?_
                refine mz_fgI (v := (g 137 15 + v2)) rfl fd_12_161 (by decide) (sc_137 _) (show g14 137 15 = (g 137 15 + v2) from ((hug14.2 137 15 (fun h => absurd h.1 (by decide))).trans hv8)) ?_
                replace hE := zf_tr hE (zf_le (show g14 137 15 = (g 137 15 + v2) from ((hug14.2 137 15 (fun h => absurd h.1 (by decide))).trans hv8)))
                refine mm_g 1 (pc1 := 110) (lo1 := [some (.ref 137), some (.int (Int32.ofInt a1)), some (.int (Int32.ofInt a2)), some (.int (Int32.ofInt a3)), some (.int (Int32.ofInt a4)), some (.int (Int32.ofInt a5)), some (.int (Int32.ofInt v2)), some (.int (Int32.ofInt a5))]) (st1 := [.int (Int32.ofInt 1), .int (Int32.ofInt (g 137 15 + v2)), .ref 137]) (H1 := mz_mk g14 x) rfl ?_
                refine mz_iadd rfl ?_
                refine mz_pI rfl fd_12_161 (sc_137 _) hIg14 bd_137_15 (by omega) (by omega) (fun g15 hIg15 hug15 => ?_)
                replace hE := zf_tr hE (zf_lg hug15)
                refine mz_iincR (v := v2) (lo2 := [some (.ref 137), some (.int (Int32.ofInt a1)), some (.int (Int32.ofInt a2)), some (.int (Int32.ofInt a3)), some (.int (Int32.ofInt a4)), some (.int (Int32.ofInt a5)), some (.int (Int32.ofInt (v2 + 1))), some (.int (Int32.ofInt a5))]) rfl rfl rfl (Nat.le_of_ble_eq_true rfl) rfl ?_
                refine mz_gt (tgt := 23) rfl rfl ?_
                exact ih5 ((20 - (v2 + 1)).toNat) (by omega) (v2 + 1) (some (.int (Int32.ofInt a5))) g15 rfl (by omega) (by omega) (mz_nl_i _) hIg15 (fun k j hk => ((hug15.2 k j (fun h => hk (Or.inr h))).trans ((hug14.2 k j (fun h => hk (Or.inl h.1))).trans (hfg4 k j (fun h => hk (Or.elim h (fun h => (Or.inl h)) (fun h => (Or.inr h)))))))) (by have h9 := (show g15 137 15 = ((g 137 15 + v2) + 1) from hug15.1); omega) ⟨fj9, Nat.lt_of_lt_of_le (show ((20 - (v2 + 1)).toNat) < n6 from (by omega)) fn10, hE⟩
              · skip
                replace hE := zf_ip hE c66_10
                refine mm_g 1 (pc1 := 71) (lo1 := [some (.ref 137), some (.int (Int32.ofInt a1)), some (.int (Int32.ofInt a2)), some (.int (Int32.ofInt a3)), some (.int (Int32.ofInt a4)), some (.int (Int32.ofInt a5)), some (.int (Int32.ofInt v2)), o3]) (st1 := [.int (Int32.ofInt a4)]) (H1 := mz_mk g4 x) rfl ?_
                refine mz_gt (tgt := 76) rfl rfl ?_
                refine mm_g 2 (pc1 := 79) (lo1 := [some (.ref 137), some (.int (Int32.ofInt a1)), some (.int (Int32.ofInt a2)), some (.int (Int32.ofInt a3)), some (.int (Int32.ofInt a4)), some (.int (Int32.ofInt a5)), some (.int (Int32.ofInt v2)), some (.int (Int32.ofInt a4))]) (st1 := [.ref 137]) (H1 := mz_mk g4 x) rfl ?_
                refine mz_fgR (v := 151) rfl fd_12_69 (by decide) (sc_137 _) (rf_137_14 _ _ _) ?_
                refine mm_g 1 (pc1 := 83) (lo1 := [some (.ref 137), some (.int (Int32.ofInt a1)), some (.int (Int32.ofInt a2)), some (.int (Int32.ofInt a3)), some (.int (Int32.ofInt a4)), some (.int (Int32.ofInt a5)), some (.int (Int32.ofInt v2)), some (.int (Int32.ofInt a4))]) (st1 := [.ref 137, .ref 151]) (H1 := mz_mk g4 x) rfl ?_
                refine mz_fgI (v := (g 137 15 + v2)) rfl fd_12_161 (by decide) (sc_137 _) hv8 ?_
                replace hE := zf_tr hE (zf_le hv8)
                refine mm_g 1 (pc1 := 88) (lo1 := [some (.ref 137), some (.int (Int32.ofInt a1)), some (.int (Int32.ofInt a2)), some (.int (Int32.ofInt a3)), some (.int (Int32.ofInt a4)), some (.int (Int32.ofInt a5)), some (.int (Int32.ofInt v2)), some (.int (Int32.ofInt a4))]) (st1 := [.int (Int32.ofInt a4), .int (Int32.ofInt (g 137 15 + v2)), .ref 151]) (H1 := mz_mk g4 x) rfl ?_
                refine mz_bip rfl bip_24 ?_
                refine mz_bip rfl bip_8 ?_
                refine mm_g 2 (pc1 := 95) (lo1 := [some (.ref 137), some (.int (Int32.ofInt a1)), some (.int (Int32.ofInt a2)), some (.int (Int32.ofInt a3)), some (.int (Int32.ofInt a4)), some (.int (Int32.ofInt a5)), some (.int (Int32.ofInt v2)), some (.int (Int32.ofInt a4))]) (st1 := [.int (Int32.ofInt 4), .int (Int32.ofInt v2), .int (Int32.ofInt 8), .int (Int32.ofInt 24), .int (Int32.ofInt a4), .int (Int32.ofInt (g 137 15 + v2)), .ref 151]) (H1 := mz_mk g4 x) rfl ?_
                refine mz_iremq rfl (mz_rg l_v2 u_v2) ⟨by decide, by decide⟩ (by omega) (by omega) (fun v16 e_v16 l_v16 w_v16 z_v16 => ?_)
                have u_v16 : v16 ≤ 3 := by omega
                replace hE := zf_tr hE (zf_le e_v16.symm)
                refine mz_imul rfl ?_
                refine mz_isub rfl ?_
                refine mz_ishr rfl (fun v17 e_v17 hwv17 => ?_)
                have l_v17 := hwv17.1
                have u_v17 := hwv17.2
                replace hE := zf_tr hE (zf_le e_v17.symm)
                refine mz_sip rfl sip_255 ?_
                refine mz_iand rfl (fun v18 e_v18 hwv18 => ?_)
                have b_v18 : 0 ≤ v18 ∧ v18 ≤ 255 := by rw [e_v18]; exact mz_and_r (by omega) (by omega) (mz_rg l_v17 u_v17)
                have l_v18 := b_v18.1
                have u_v18 := b_v18.2
                replace hE := zf_tr hE (zf_le e_v18.symm)
                refine mz_sI rfl (sh_151 _) (by omega) (by omega) (by decide) hIg4 (ba_151 _) (by omega) (by omega) (fun g19 hIg19 hug19 => ?_)
                replace hE := zf_tr hE (zf_lg hug19)
                refine mm_g 2 (pc1 := 106) (lo1 := [some (.ref 137), some (.int (Int32.ofInt a1)), some (.int (Int32.ofInt a2)), some (.int (Int32.ofInt a3)), some (.int (Int32.ofInt a4)), some (.int (Int32.ofInt a5)), some (.int (Int32.ofInt v2)), some (.int (Int32.ofInt a4))]) (st1 := [.ref 137, .ref 137]) (H1 := mz_mk g19 x) rfl ?_
                refine mz_fgI (v := (g 137 15 + v2)) rfl fd_12_161 (by decide) (sc_137 _) (show g19 137 15 = (g 137 15 + v2) from ((hug19.2 137 15 (fun h => absurd h.1 (by decide))).trans hv8)) ?_
                replace hE := zf_tr hE (zf_le (show g19 137 15 = (g 137 15 + v2) from ((hug19.2 137 15 (fun h => absurd h.1 (by decide))).trans hv8)))
                refine mm_g 1 (pc1 := 110) (lo1 := [some (.ref 137), some (.int (Int32.ofInt a1)), some (.int (Int32.ofInt a2)), some (.int (Int32.ofInt a3)), some (.int (Int32.ofInt a4)), some (.int (Int32.ofInt a5)), some (.int (Int32.ofInt v2)), some (.int (Int32.ofInt a4))]) (st1 := [.int (Int32.ofInt 1), .int (Int32.ofInt (g 137 15 + v2)), .ref 137]) (H1 := mz_mk g19 x) rfl ?_
                refine mz_iadd rfl ?_
                refine mz_pI rfl fd_12_161 (sc_137 _) hIg19 bd_137_15 (by omega) (by omega) (fun g20 hIg20 hug20 => ?_)
                replace hE := zf_tr hE (zf_lg hug20)
                refine mz_iincR (v := v2) (lo2 := [some (.ref 137), some (.int (Int32.ofInt a1)), some (.int (Int32.ofInt a2)), some (.int (Int32.ofInt a3)), some (.int (Int32.ofInt a4)), some (.int (Int32.ofInt a5)), some (.int (Int32.ofInt (v2 + 1))), some (.int (Int32.ofInt a4))]) rfl rfl rfl (Nat.le_of_ble_eq_true rfl) rfl ?_
                refine mz_gt (tgt := 23) rfl rfl ?_
                exact ih5 ((20 - (v2 + 1)).toNat) (by omega) (v2 + 1) (some (.int (Int32.ofInt a4))) g20 rfl (by omega) (by omega) (mz_nl_i _) hIg20 (fun k j hk => ((hug20.2 k j (fun h => hk (Or.inr h))).trans ((hug19.2 k j (fun h => hk (Or.inl h.1))).trans (hfg4 k j (fun h => hk (Or.elim h (fun h => (Or.inl h)) (fun h => (Or.inr h)))))))) (by have h9 := (show g20 137 15 = ((g 137 15 + v2) + 1) from hug20.1); omega) ⟨fj9, Nat.lt_of_lt_of_le (show ((20 - (v2 + 1)).toNat) < n6 from (by omega)) fn10, hE⟩
            · skip
              replace hE := zf_ip hE c55_10
              refine mm_g 1 (pc1 := 59) (lo1 := [some (.ref 137), some (.int (Int32.ofInt a1)), some (.int (Int32.ofInt a2)), some (.int (Int32.ofInt a3)), some (.int (Int32.ofInt a4)), some (.int (Int32.ofInt a5)), some (.int (Int32.ofInt v2)), o3]) (st1 := [.int (Int32.ofInt a3)]) (H1 := mz_mk g4 x) rfl ?_
              refine mz_gt (tgt := 76) rfl rfl ?_
              refine mm_g 2 (pc1 := 79) (lo1 := [some (.ref 137), some (.int (Int32.ofInt a1)), some (.int (Int32.ofInt a2)), some (.int (Int32.ofInt a3)), some (.int (Int32.ofInt a4)), some (.int (Int32.ofInt a5)), some (.int (Int32.ofInt v2)), some (.int (Int32.ofInt a3))]) (st1 := [.ref 137]) (H1 := mz_mk g4 x) rfl ?_
              refine mz_fgR (v := 151) rfl fd_12_69 (by decide) (sc_137 _) (rf_137_14 _ _ _) ?_
              refine mm_g 1 (pc1 := 83) (lo1 := [some (.ref 137), some (.int (Int32.ofInt a1)), some (.int (Int32.ofInt a2)), some (.int (Int32.ofInt a3)), some (.int (Int32.ofInt a4)), some (.int (Int32.ofInt a5)), some (.int (Int32.ofInt v2)), some (.int (Int32.ofInt a3))]) (st1 := [.ref 137, .ref 151]) (H1 := mz_mk g4 x) rfl ?_
              refine mz_fgI (v := (g 137 15 + v2)) rfl fd_12_161 (by decide) (sc_137 _) hv8 ?_
              replace hE := zf_tr hE (zf_le hv8)
              refine mm_g 1 (pc1 := 88) (lo1 := [some (.ref 137), some (.int (Int32.ofInt a1)), some (.int (Int32.ofInt a2)), some (.int (Int32.ofInt a3)), some (.int (Int32.ofInt a4)), some (.int (Int32.ofInt a5)), some (.int (Int32.ofInt v2)), some (.int (Int32.ofInt a3))]) (st1 := [.int (Int32.ofInt a3), .int (Int32.ofInt (g 137 15 + v2)), .ref 151]) (H1 := mz_mk g4 x) rfl ?_
              refine mz_bip rfl bip_24 ?_
              refine mz_bip rfl bip_8 ?_
              refine mm_g 2 (pc1 := 95) (lo1 := [some (.ref 137), some (.int (Int32.ofInt a1)), some (.int (Int32.ofInt a2)), some (.int (Int32.ofInt a3)), some (.int (Int32.ofInt a4)), some (.int (Int32.ofInt a5)), some (.int (Int32.ofInt v2)), some (.int (Int32.ofInt a3))]) (st1 := [.int (Int32.ofInt 4), .int (Int32.ofInt v2), .int (Int32.ofInt 8), .int (Int32.ofInt 24), .int (Int32.ofInt a3), .int (Int32.ofInt (g 137 15 + v2)), .ref 151]) (H1 := mz_mk g4 x) rfl ?_
              refine mz_iremq rfl (mz_rg l_v2 u_v2) ⟨by decide, by decide⟩ (by omega) (by omega) (fun v21 e_v21 l_v21 w_v21 z_v21 => ?_)
              have u_v21 : v21 ≤ 3 := by omega
              replace hE := zf_tr hE (zf_le e_v21.symm)
              refine mz_imul rfl ?_
              refine mz_isub rfl ?_
              refine mz_ishr rfl (fun v22 e_v22 hwv22 => ?_)
              have l_v22 := hwv22.1
              have u_v22 := hwv22.2
              replace hE := zf_tr hE (zf_le e_v22.symm)
              refine mz_sip rfl sip_255 ?_
              refine mz_iand rfl (fun v23 e_v23 hwv23 => ?_)
              have b_v23 : 0 ≤ v23 ∧ v23 ≤ 255 := by rw [e_v23]; exact mz_and_r (by omega) (by omega) (mz_rg l_v22 u_v22)
              have l_v23 := b_v23.1
              have u_v23 := b_v23.2
              replace hE := zf_tr hE (zf_le e_v23.symm)
              refine mz_sI rfl (sh_151 _) (by omega) (by omega) (by decide) hIg4 (ba_151 _) (by omega) (by omega) (fun g24 hIg24 hug24 => ?_)
              replace hE := zf_tr hE (zf_lg hug24)
              refine mm_g 2 (pc1 := 106) (lo1 := [some (.ref 137), some (.int (Int32.ofInt a1)), some (.int (Int32.ofInt a2)), some (.int (Int32.ofInt a3)), some (.int (Int32.ofInt a4)), some (.int (Int32.ofInt a5)), some (.int (Int32.ofInt v2)), some (.int (Int32.ofInt a3))]) (st1 := [.ref 137, .ref 137]) (H1 := mz_mk g24 x) rfl ?_
              refine mz_fgI (v := (g 137 15 + v2)) rfl fd_12_161 (by decide) (sc_137 _) (show g24 137 15 = (g 137 15 + v2) from ((hug24.2 137 15 (fun h => absurd h.1 (by decide))).trans hv8)) ?_
              replace hE := zf_tr hE (zf_le (show g24 137 15 = (g 137 15 + v2) from ((hug24.2 137 15 (fun h => absurd h.1 (by decide))).trans hv8)))
              refine mm_g 1 (pc1 := 110) (lo1 := [some (.ref 137), some (.int (Int32.ofInt a1)), some (.int (Int32.ofInt a2)), some (.int (Int32.ofInt a3)), some (.int (Int32.ofInt a4)), some (.int (Int32.ofInt a5)), some (.int (Int32.ofInt v2)), some (.int (Int32.ofInt a3))]) (st1 := [.int (Int32.ofInt 1), .int (Int32.ofInt (g 137 15 + v2)), .ref 137]) (H1 := mz_mk g24 x) rfl ?_
              refine mz_iadd rfl ?_
              refine mz_pI rfl fd_12_161 (sc_137 _) hIg24 bd_137_15 (by omega) (by omega) (fun g25 hIg25 hug25 => ?_)
              replace hE := zf_tr hE (zf_lg hug25)
              refine mz_iincR (v := v2) (lo2 := [some (.ref 137), some (.int (Int32.ofInt a1)), some (.int (Int32.ofInt a2)), some (.int (Int32.ofInt a3)), some (.int (Int32.ofInt a4)), some (.int (Int32.ofInt a5)), some (.int (Int32.ofInt (v2 + 1))), some (.int (Int32.ofInt a3))]) rfl rfl rfl (Nat.le_of_ble_eq_true rfl) rfl ?_
              refine mz_gt (tgt := 23) rfl rfl ?_
              exact ih5 ((20 - (v2 + 1)).toNat) (by omega) (v2 + 1) (some (.int (Int32.ofInt a3))) g25 rfl (by omega) (by omega) (mz_nl_i _) hIg25 (fun k j hk => ((hug25.2 k j (fun h => hk (Or.inr h))).trans ((hug24.2 k j (fun h => hk (Or.inl h.1))).trans (hfg4 k j (fun h => hk (Or.elim h (fun h => (Or.inl h)) (fun h => (Or.inr h)))))))) (by have h9 := (show g25 137 15 = ((g 137 15 + v2) + 1) from hug25.1); omega) ⟨fj9, Nat.lt_of_lt_of_le (show ((20 - (v2 + 1)).toNat) < n6 from (by omega)) fn10, hE⟩
          · skip
            replace hE := zf_ip hE c44_10
            refine mm_g 1 (pc1 := 48) (lo1 := [some (.ref 137), some (.int (Int32.ofInt a1)), some (.int (Int32.ofInt a2)), some (.int (Int32.ofInt a3)), some (.int (Int32.ofInt a4)), some (.int (Int32.ofInt a5)), some (.int (Int32.ofInt v2)), o3]) (st1 := [.int (Int32.ofInt a2)]) (H1 := mz_mk g4 x) rfl ?_
            refine mz_gt (tgt := 76) rfl rfl ?_
            refine mm_g 2 (pc1 := 79) (lo1 := [some (.ref 137), some (.int (Int32.ofInt a1)), some (.int (Int32.ofInt a2)), some (.int (Int32.ofInt a3)), some (.int (Int32.ofInt a4)), some (.int (Int32.ofInt a5)), some (.int (Int32.ofInt v2)), some (.int (Int32.ofInt a2))]) (st1 := [.ref 137]) (H1 := mz_mk g4 x) rfl ?_
            refine mz_fgR (v := 151) rfl fd_12_69 (by decide) (sc_137 _) (rf_137_14 _ _ _) ?_
            refine mm_g 1 (pc1 := 83) (lo1 := [some (.ref 137), some (.int (Int32.ofInt a1)), some (.int (Int32.ofInt a2)), some (.int (Int32.ofInt a3)), some (.int (Int32.ofInt a4)), some (.int (Int32.ofInt a5)), some (.int (Int32.ofInt v2)), some (.int (Int32.ofInt a2))]) (st1 := [.ref 137, .ref 151]) (H1 := mz_mk g4 x) rfl ?_
            refine mz_fgI (v := (g 137 15 + v2)) rfl fd_12_161 (by decide) (sc_137 _) hv8 ?_
            replace hE := zf_tr hE (zf_le hv8)
            refine mm_g 1 (pc1 := 88) (lo1 := [some (.ref 137), some (.int (Int32.ofInt a1)), some (.int (Int32.ofInt a2)), some (.int (Int32.ofInt a3)), some (.int (Int32.ofInt a4)), some (.int (Int32.ofInt a5)), some (.int (Int32.ofInt v2)), some (.int (Int32.ofInt a2))]) (st1 := [.int (Int32.ofInt a2), .int (Int32.ofInt (g 137 15 + v2)), .ref 151]) (H1 := mz_mk g4 x) rfl ?_
            refine mz_bip rfl bip_24 ?_
            refine mz_bip rfl bip_8 ?_
            refine mm_g 2 (pc1 := 95) (lo1 := [some (.ref 137), some (.int (Int32.ofInt a1)), some (.int (Int32.ofInt a2)), some (.int (Int32.ofInt a3)), some (.int (Int32.ofInt a4)), some (.int (Int32.ofInt a5)), some (.int (Int32.ofInt v2)), some (.int (Int32.ofInt a2))]) (st1 := [.int (Int32.ofInt 4), .int (Int32.ofInt v2), .int (Int32.ofInt 8), .int (Int32.ofInt 24), .int (Int32.ofInt a2), .int (Int32.ofInt (g 137 15 + v2)), .ref 151]) (H1 := mz_mk g4 x) rfl ?_
            refine mz_iremq rfl (mz_rg l_v2 u_v2) ⟨by decide, by decide⟩ (by omega) (by omega) (fun v26 e_v26 l_v26 w_v26 z_v26 => ?_)
            have u_v26 : v26 ≤ 3 := by omega
            replace hE := zf_tr hE (zf_le e_v26.symm)
            refine mz_imul rfl ?_
            refine mz_isub rfl ?_
            refine mz_ishr rfl (fun v27 e_v27 hwv27 => ?_)
            have l_v27 := hwv27.1
            have u_v27 := hwv27.2
            replace hE := zf_tr hE (zf_le e_v27.symm)
            refine mz_sip rfl sip_255 ?_
            refine mz_iand rfl (fun v28 e_v28 hwv28 => ?_)
            have b_v28 : 0 ≤ v28 ∧ v28 ≤ 255 := by rw [e_v28]; exact mz_and_r (by omega) (by omega) (mz_rg l_v27 u_v27)
            have l_v28 := b_v28.1
            have u_v28 := b_v28.2
            replace hE := zf_tr hE (zf_le e_v28.symm)
            refine mz_sI rfl (sh_151 _) (by omega) (by omega) (by decide) hIg4 (ba_151 _) (by omega) (by omega) (fun g29 hIg29 hug29 => ?_)
            replace hE := zf_tr hE (zf_lg hug29)
            refine mm_g 2 (pc1 := 106) (lo1 := [some (.ref 137), some (.int (Int32.ofInt a1)), some (.int (Int32.ofInt a2)), some (.int (Int32.ofInt a3)), some (.int (Int32.ofInt a4)), some (.int (Int32.ofInt a5)), some (.int (Int32.ofInt v2)), some (.int (Int32.ofInt a2))]) (st1 := [.ref 137, .ref 137]) (H1 := mz_mk g29 x) rfl ?_
            refine mz_fgI (v := (g 137 15 + v2)) rfl fd_12_161 (by decide) (sc_137 _) (show g29 137 15 = (g 137 15 + v2) from ((hug29.2 137 15 (fun h => absurd h.1 (by decide))).trans hv8)) ?_
            replace hE := zf_tr hE (zf_le (show g29 137 15 = (g 137 15 + v2) from ((hug29.2 137 15 (fun h => absurd h.1 (by decide))).trans hv8)))
            refine mm_g 1 (pc1 := 110) (lo1 := [some (.ref 137), some (.int (Int32.ofInt a1)), some (.int (Int32.ofInt a2)), some (.int (Int32.ofInt a3)), some (.int (Int32.ofInt a4)), some (.int (Int32.ofInt a5)), some (.int (Int32.ofInt v2)), some (.int (Int32.ofInt a2))]) (st1 := [.int (Int32.ofInt 1), .int (Int32.ofInt (g 137 15 + v2)), .ref 137]) (H1 := mz_mk g29 x) rfl ?_
            refine mz_iadd rfl ?_
            refine mz_pI rfl fd_12_161 (sc_137 _) hIg29 bd_137_15 (by omega) (by omega) (fun g30 hIg30 hug30 => ?_)
            replace hE := zf_tr hE (zf_lg hug30)
            refine mz_iincR (v := v2) (lo2 := [some (.ref 137), some (.int (Int32.ofInt a1)), some (.int (Int32.ofInt a2)), some (.int (Int32.ofInt a3)), some (.int (Int32.ofInt a4)), some (.int (Int32.ofInt a5)), some (.int (Int32.ofInt (v2 + 1))), some (.int (Int32.ofInt a2))]) rfl rfl rfl (Nat.le_of_ble_eq_true rfl) rfl ?_
            refine mz_gt (tgt := 23) rfl rfl ?_
            exact ih5 ((20 - (v2 + 1)).toNat) (by omega) (v2 + 1) (some (.int (Int32.ofInt a2))) g30 rfl (by omega) (by omega) (mz_nl_i _) hIg30 (fun k j hk => ((hug30.2 k j (fun h => hk (Or.inr h))).trans ((hug29.2 k j (fun h => hk (Or.inl h.1))).trans (hfg4 k j (fun h => hk (Or.elim h (fun h => (Or.inl h)) (fun h => (Or.inr h)))))))) (by have h9 := (show g30 137 15 = ((g 137 15 + v2) + 1) from hug30.1); omega) ⟨fj9, Nat.lt_of_lt_of_le (show ((20 - (v2 + 1)).toNat) < n6 from (by omega)) fn10, hE⟩
        · skip
          replace hE := zf_ip hE c33_10
          refine mm_g 1 (pc1 := 37) (lo1 := [some (.ref 137), some (.int (Int32.ofInt a1)), some (.int (Int32.ofInt a2)), some (.int (Int32.ofInt a3)), some (.int (Int32.ofInt a4)), some (.int (Int32.ofInt a5)), some (.int (Int32.ofInt v2)), o3]) (st1 := [.int (Int32.ofInt a1)]) (H1 := mz_mk g4 x) rfl ?_
          refine mz_gt (tgt := 76) rfl rfl ?_
          refine mm_g 2 (pc1 := 79) (lo1 := [some (.ref 137), some (.int (Int32.ofInt a1)), some (.int (Int32.ofInt a2)), some (.int (Int32.ofInt a3)), some (.int (Int32.ofInt a4)), some (.int (Int32.ofInt a5)), some (.int (Int32.ofInt v2)), some (.int (Int32.ofInt a1))]) (st1 := [.ref 137]) (H1 := mz_mk g4 x) rfl ?_
          refine mz_fgR (v := 151) rfl fd_12_69 (by decide) (sc_137 _) (rf_137_14 _ _ _) ?_
          refine mm_g 1 (pc1 := 83) (lo1 := [some (.ref 137), some (.int (Int32.ofInt a1)), some (.int (Int32.ofInt a2)), some (.int (Int32.ofInt a3)), some (.int (Int32.ofInt a4)), some (.int (Int32.ofInt a5)), some (.int (Int32.ofInt v2)), some (.int (Int32.ofInt a1))]) (st1 := [.ref 137, .ref 151]) (H1 := mz_mk g4 x) rfl ?_
          refine mz_fgI (v := (g 137 15 + v2)) rfl fd_12_161 (by decide) (sc_137 _) hv8 ?_
          replace hE := zf_tr hE (zf_le hv8)
          refine mm_g 1 (pc1 := 88) (lo1 := [some (.ref 137), some (.int (Int32.ofInt a1)), some (.int (Int32.ofInt a2)), some (.int (Int32.ofInt a3)), some (.int (Int32.ofInt a4)), some (.int (Int32.ofInt a5)), some (.int (Int32.ofInt v2)), some (.int (Int32.ofInt a1))]) (st1 := [.int (Int32.ofInt a1), .int (Int32.ofInt (g 137 15 + v2)), .ref 151]) (H1 := mz_mk g4 x) rfl ?_
          refine mz_bip rfl bip_24 ?_
          refine mz_bip rfl bip_8 ?_
          refine mm_g 2 (pc1 := 95) (lo1 := [some (.ref 137), some (.int (Int32.ofInt a1)), some (.int (Int32.ofInt a2)), some (.int (Int32.ofInt a3)), some (.int (Int32.ofInt a4)), some (.int (Int32.ofInt a5)), some (.int (Int32.ofInt v2)), some (.int (Int32.ofInt a1))]) (st1 := [.int (Int32.ofInt 4), .int (Int32.ofInt v2), .int (Int32.ofInt 8), .int (Int32.ofInt 24), .int (Int32.ofInt a1), .int (Int32.ofInt (g 137 15 + v2)), .ref 151]) (H1 := mz_mk g4 x) rfl ?_
          refine mz_iremq rfl (mz_rg l_v2 u_v2) ⟨by decide, by decide⟩ (by omega) (by omega) (fun v31 e_v31 l_v31 w_v31 z_v31 => ?_)
          have u_v31 : v31 ≤ 3 := by omega
          replace hE := zf_tr hE (zf_le e_v31.symm)
          refine mz_imul rfl ?_
          refine mz_isub rfl ?_
          refine mz_ishr rfl (fun v32 e_v32 hwv32 => ?_)
          have l_v32 := hwv32.1
          have u_v32 := hwv32.2
          replace hE := zf_tr hE (zf_le e_v32.symm)
          refine mz_sip rfl sip_255 ?_
          refine mz_iand rfl (fun v33 e_v33 hwv33 => ?_)
          have b_v33 : 0 ≤ v33 ∧ v33 ≤ 255 := by rw [e_v33]; exact mz_and_r (by omega) (by omega) (mz_rg l_v32 u_v32)
          have l_v33 := b_v33.1
          have u_v33 := b_v33.2
          replace hE := zf_tr hE (zf_le e_v33.symm)
          refine mz_sI rfl (sh_151 _) (by omega) (by omega) (by decide) hIg4 (ba_151 _) (by omega) (by omega) (fun g34 hIg34 hug34 => ?_)
          replace hE := zf_tr hE (zf_lg hug34)
          refine mm_g 2 (pc1 := 106) (lo1 := [some (.ref 137), some (.int (Int32.ofInt a1)), some (.int (Int32.ofInt a2)), some (.int (Int32.ofInt a3)), some (.int (Int32.ofInt a4)), some (.int (Int32.ofInt a5)), some (.int (Int32.ofInt v2)), some (.int (Int32.ofInt a1))]) (st1 := [.ref 137, .ref 137]) (H1 := mz_mk g34 x) rfl ?_
          refine mz_fgI (v := (g 137 15 + v2)) rfl fd_12_161 (by decide) (sc_137 _) (show g34 137 15 = (g 137 15 + v2) from ((hug34.2 137 15 (fun h => absurd h.1 (by decide))).trans hv8)) ?_
          replace hE := zf_tr hE (zf_le (show g34 137 15 = (g 137 15 + v2) from ((hug34.2 137 15 (fun h => absurd h.1 (by decide))).trans hv8)))
          refine mm_g 1 (pc1 := 110) (lo1 := [some (.ref 137), some (.int (Int32.ofInt a1)), some (.int (Int32.ofInt a2)), some (.int (Int32.ofInt a3)), some (.int (Int32.ofInt a4)), some (.int (Int32.ofInt a5)), some (.int (Int32.ofInt v2)), some (.int (Int32.ofInt a1))]) (st1 := [.int (Int32.ofInt 1), .int (Int32.ofInt (g 137 15 + v2)), .ref 137]) (H1 := mz_mk g34 x) rfl ?_
          refine mz_iadd rfl ?_
          refine mz_pI rfl fd_12_161 (sc_137 _) hIg34 bd_137_15 (by omega) (by omega) (fun g35 hIg35 hug35 => ?_)
          replace hE := zf_tr hE (zf_lg hug35)
          refine mz_iincR (v := v2) (lo2 := [some (.ref 137), some (.int (Int32.ofInt a1)), some (.int (Int32.ofInt a2)), some (.int (Int32.ofInt a3)), some (.int (Int32.ofInt a4)), some (.int (Int32.ofInt a5)), some (.int (Int32.ofInt (v2 + 1))), some (.int (Int32.ofInt a1))]) rfl rfl rfl (Nat.le_of_ble_eq_true rfl) rfl ?_
          refine mz_gt (tgt := 23) rfl rfl ?_
          exact ih5 ((20 - (v2 + 1)).toNat) (by omega) (v2 + 1) (some (.int (Int32.ofInt a1))) g35 rfl (by omega) (by omega) (mz_nl_i _) hIg35 (fun k j hk => ((hug35.2 k j (fun h => hk (Or.inr h))).trans ((hug34.2 k j (fun h => hk (Or.inl h.1))).trans (hfg4 k j (fun h => hk (Or.elim h (fun h => (Or.inl h)) (fun h => (Or.inr h)))))))) (by have h9 := (show g35 137 15 = ((g 137 15 + v2) + 1) from hug35.1); omega) ⟨fj9, Nat.lt_of_lt_of_le (show ((20 - (v2 + 1)).toNat) < n6 from (by omega)) fn10, hE⟩
    exact L7 _ 0 none g1 rfl (by decide) (by decide) mz_nl_n hIg1 (fun _ _ _ => rfl) (by have h9 := (show g1 137 15 = (g 137 15) from ((hug1.2 137 15 (fun h => absurd h.2 (by decide))).trans rfl)); omega) ⟨3000000000, by omega, hE⟩
  · skip
    replace hE := zf_ip hE c15_1
    refine mm_g 1 (pc1 := 19) (lo1 := [some (.ref 137), some (.int (Int32.ofInt a1)), some (.int (Int32.ofInt a2)), some (.int (Int32.ofInt a3)), some (.int (Int32.ofInt a4)), some (.int (Int32.ofInt a5)), none, none]) (st1 := [.int (Int32.ofInt (-1))]) (H1 := mz_mk g1 x) rfl ?_
    exact mm_rt rfl rfl (hQ _ _ hIg1 (fun k j hk => (hug1.2 k j (fun h => hk (Or.inl h)))) (by decide) (by decide) (by have h9 := (show g1 137 30 = (g 137 30) from ((hug1.2 137 30 (fun h => absurd h.2 (by decide))).trans rfl)); omega) (by have h9 := (show g1 137 15 = (g 137 15) from ((hug1.2 137 15 (fun h => absurd h.2 (by decide))).trans rfl)); omega) hE)
theorem f_X12_byteAt {d : Nat} (hd : 1 ≤ d) {x : mm_X} (hx : mk_x x) {g : mz_G} (hI : mz_inv g) {a1 : Int} (l_a1 : 0 ≤ a1) (u_a1 : a1 ≤ 700) {Q : (Option Value ⊕ Nat) → mm_H → Prop} (hQ : ∀ (r : Int), (-1) ≤ r → r ≤ 255 → (r = mz_byte g a1) → ((r = -1 ↔ g 137 17 ≤ a1)) → zf_E (zF_X12_byteAt a1 g) (r) → Q (.inl (some (.int (Int32.ofInt r)))) (mz_mk g x)) : mm_C d 189 [.ref 137, .int (Int32.ofInt a1)] (mz_mk g x) Q := by
  refine ⟨mmX12_byteAt, [some (.ref 137), some (.int (Int32.ofInt a1))], rfl, rfl, ?_⟩
  have bz0 := mz_rd hI bd_137_17
  have hE : zf_E (zF_X12_byteAt a1 g) (zF_X12_byteAt a1 g) := zf_rf
  refine mm_g 2 (pc1 := 2) (lo1 := [some (.ref 137), some (.int (Int32.ofInt a1))]) (st1 := [.ref 137, .int (Int32.ofInt a1)]) (H1 := mz_mk g x) rfl ?_
  refine mz_fgI (v := (g 137 17)) rfl fd_12_164 (by decide) (sc_137 _) (show g 137 17 = (g 137 17) from rfl) ?_
  replace hE := zf_tr hE (zf_le (show g 137 17 = (g 137 17) from rfl))
  refine mz_ic_ge (tgt := 17) rfl rfl (mz_rg l_a1 u_a1) ⟨by omega, by omega⟩ (fun c5_0 => ?_) (fun c5_0 => ?_)
  · skip
    replace hE := zf_nl hE c5_0
    refine mm_g 1 (pc1 := 18) (lo1 := [some (.ref 137), some (.int (Int32.ofInt a1))]) (st1 := [.int (Int32.ofInt (-1))]) (H1 := mz_mk g x) rfl ?_
    exact mm_rt rfl rfl (hQ _ (by decide) (by decide) (by unfold mz_byte; first | (rw [if_pos (by omega)]; omega) | (rw [if_neg (by omega)])) (by omega) hE)
  · skip
    replace hE := zf_ip hE c5_0
    refine mm_g 1 (pc1 := 9) (lo1 := [some (.ref 137), some (.int (Int32.ofInt a1))]) (st1 := [.ref 137]) (H1 := mz_mk g x) rfl ?_
    refine mz_fgR (v := 151) rfl fd_12_69 (by decide) (sc_137 _) (rf_137_14 _ _ _) ?_
    refine mm_g 1 (pc1 := 13) (lo1 := [some (.ref 137), some (.int (Int32.ofInt a1))]) (st1 := [.int (Int32.ofInt a1), .ref 151]) (H1 := mz_mk g x) rfl ?_
    refine mz_aI rfl (sh_151 _) (by omega) (by omega) (by decide) hI (ba_151 _) (fun v1 e_v1 l_v1 u_v1 => ?_)
    replace hE := zf_tr hE (zf_le e_v1)
    refine mz_gt (tgt := 18) rfl rfl ?_
    exact mm_rt rfl rfl (hQ _ (by omega) (by omega) (by unfold mz_byte; first | (rw [if_pos (by omega)]; omega) | (rw [if_neg (by omega)])) (by omega) hE)
theorem f_X12_isLetter {d : Nat} (hd : 1 ≤ d) {x : mm_X} (hx : mk_x x) {g : mz_G} (hI : mz_inv g) {a1 : Int} (l_a1 : (-2147483648) ≤ a1) (u_a1 : a1 ≤ 2147483647) {Q : (Option Value ⊕ Nat) → mm_H → Prop} (hQ : ∀ (r : Int), 0 ≤ r → r ≤ 1 → (r = 1 ↔ (97 ≤ a1 ∧ a1 ≤ 122)) → zf_E (zF_X12_isLetter a1 g) (r) → Q (.inl (some (.int (Int32.ofInt r)))) (mz_mk g x)) : mm_C d 190 [.int (Int32.ofInt a1)] (mz_mk g x) Q := by
  refine ⟨mmX12_isLetter, [some (.int (Int32.ofInt a1))], rfl, rfl, ?_⟩
  have hE : zf_E (zF_X12_isLetter a1 g) (zF_X12_isLetter a1 g) := zf_rf
  refine mm_g 1 (pc1 := 1) (lo1 := [some (.int (Int32.ofInt a1))]) (st1 := [.int (Int32.ofInt a1)]) (H1 := mz_mk g x) rfl ?_
  refine mz_bip rfl bip_97 ?_
  refine mz_ic_lt (tgt := 16) rfl rfl (mz_rg l_a1 u_a1) ⟨by decide, by decide⟩ (fun c3_0 => ?_) (fun c3_0 => ?_)
  · skip
    replace hE := zf_ip hE c3_0
    refine mm_g 1 (pc1 := 17) (lo1 := [some (.int (Int32.ofInt a1))]) (st1 := [.int (Int32.ofInt 0)]) (H1 := mz_mk g x) rfl ?_
    exact mz_rtZ rfl (by decide) (by omega) (hQ _ (by decide) (by decide) (by omega) hE)
  · skip
    replace hE := zf_nl hE c3_0
    refine mm_g 1 (pc1 := 7) (lo1 := [some (.int (Int32.ofInt a1))]) (st1 := [.int (Int32.ofInt a1)]) (H1 := mz_mk g x) rfl ?_
    refine mz_bip rfl bip_122 ?_
    refine mz_ic_gt (tgt := 16) rfl rfl (mz_rg l_a1 u_a1) ⟨by decide, by decide⟩ (fun c9_0 => ?_) (fun c9_0 => ?_)
    · skip
      replace hE := zf_ip hE c9_0
      refine mm_g 1 (pc1 := 17) (lo1 := [some (.int (Int32.ofInt a1))]) (st1 := [.int (Int32.ofInt 0)]) (H1 := mz_mk g x) rfl ?_
      exact mz_rtZ rfl (by decide) (by omega) (hQ _ (by decide) (by decide) (by omega) hE)
    · skip
      replace hE := zf_nl hE c9_0
      refine mm_g 1 (pc1 := 13) (lo1 := [some (.int (Int32.ofInt a1))]) (st1 := [.int (Int32.ofInt 1)]) (H1 := mz_mk g x) rfl ?_
      refine mz_gt (tgt := 17) rfl rfl ?_
      exact mz_rtZ rfl (by decide) (by omega) (hQ _ (by decide) (by decide) (by omega) hE)
theorem f_X12_isDigit {d : Nat} (hd : 1 ≤ d) {x : mm_X} (hx : mk_x x) {g : mz_G} (hI : mz_inv g) {a1 : Int} (l_a1 : (-2147483648) ≤ a1) (u_a1 : a1 ≤ 2147483647) {Q : (Option Value ⊕ Nat) → mm_H → Prop} (hQ : ∀ (r : Int), 0 ≤ r → r ≤ 1 → (r = 1 ↔ (48 ≤ a1 ∧ a1 ≤ 57)) → zf_E (zF_X12_isDigit a1 g) (r) → Q (.inl (some (.int (Int32.ofInt r)))) (mz_mk g x)) : mm_C d 191 [.int (Int32.ofInt a1)] (mz_mk g x) Q := by
  refine ⟨mmX12_isDigit, [some (.int (Int32.ofInt a1))], rfl, rfl, ?_⟩
  have hE : zf_E (zF_X12_isDigit a1 g) (zF_X12_isDigit a1 g) := zf_rf
  refine mm_g 1 (pc1 := 1) (lo1 := [some (.int (Int32.ofInt a1))]) (st1 := [.int (Int32.ofInt a1)]) (H1 := mz_mk g x) rfl ?_
  refine mz_bip rfl bip_48 ?_
  refine mz_ic_lt (tgt := 16) rfl rfl (mz_rg l_a1 u_a1) ⟨by decide, by decide⟩ (fun c3_0 => ?_) (fun c3_0 => ?_)
  · skip
    replace hE := zf_ip hE c3_0
    refine mm_g 1 (pc1 := 17) (lo1 := [some (.int (Int32.ofInt a1))]) (st1 := [.int (Int32.ofInt 0)]) (H1 := mz_mk g x) rfl ?_
    exact mz_rtZ rfl (by decide) (by omega) (hQ _ (by decide) (by decide) (by omega) hE)
  · skip
    replace hE := zf_nl hE c3_0
    refine mm_g 1 (pc1 := 7) (lo1 := [some (.int (Int32.ofInt a1))]) (st1 := [.int (Int32.ofInt a1)]) (H1 := mz_mk g x) rfl ?_
    refine mz_bip rfl bip_57 ?_
    refine mz_ic_gt (tgt := 16) rfl rfl (mz_rg l_a1 u_a1) ⟨by decide, by decide⟩ (fun c9_0 => ?_) (fun c9_0 => ?_)
    · skip
      replace hE := zf_ip hE c9_0
      refine mm_g 1 (pc1 := 17) (lo1 := [some (.int (Int32.ofInt a1))]) (st1 := [.int (Int32.ofInt 0)]) (H1 := mz_mk g x) rfl ?_
      exact mz_rtZ rfl (by decide) (by omega) (hQ _ (by decide) (by decide) (by omega) hE)
    · skip
      replace hE := zf_nl hE c9_0
      refine mm_g 1 (pc1 := 13) (lo1 := [some (.int (Int32.ofInt a1))]) (st1 := [.int (Int32.ofInt 1)]) (H1 := mz_mk g x) rfl ?_
      refine mz_gt (tgt := 17) rfl rfl ?_
      exact mz_rtZ rfl (by decide) (by omega) (hQ _ (by decide) (by decide) (by omega) hE)
theorem f_X12_isMark {d : Nat} (hd : 1 ≤ d) {x : mm_X} (hx : mk_x x) {g : mz_G} (hI : mz_inv g) {a1 : Int} (l_a1 : (-2147483648) ≤ a1) (u_a1 : a1 ≤ 2147483647) {Q : (Option Value ⊕ Nat) → mm_H → Prop} (hQ : ∀ (r : Int), 0 ≤ r → r ≤ 1 → zf_E (zF_X12_isMark a1 g) (r) → Q (.inl (some (.int (Int32.ofInt r)))) (mz_mk g x)) : mm_C d 192 [.int (Int32.ofInt a1)] (mz_mk g x) Q := by
  refine ⟨mmX12_isMark, [some (.int (Int32.ofInt a1))], rfl, rfl, ?_⟩
  have hE : zf_E (zF_X12_isMark a1 g) (zF_X12_isMark a1 g) := zf_rf
  refine mm_g 1 (pc1 := 1) (lo1 := [some (.int (Int32.ofInt a1))]) (st1 := [.int (Int32.ofInt a1)]) (H1 := mz_mk g x) rfl ?_
  refine mz_bip rfl bip_59 ?_
  refine mz_ic_eq (tgt := 54) rfl rfl (mz_rg l_a1 u_a1) ⟨by decide, by decide⟩ (fun c3_0 => ?_) (fun c3_0 => ?_)
  · skip
    replace hE := zf_ip hE c3_0
    refine mm_g 1 (pc1 := 55) (lo1 := [some (.int (Int32.ofInt a1))]) (st1 := [.int (Int32.ofInt 1)]) (H1 := mz_mk g x) rfl ?_
    refine mz_gt (tgt := 59) rfl rfl ?_
    exact mz_rtZ rfl (by decide) (by omega) (hQ _ (by decide) (by decide) hE)
  · skip
    replace hE := zf_in hE c3_0
    refine mm_g 1 (pc1 := 7) (lo1 := [some (.int (Int32.ofInt a1))]) (st1 := [.int (Int32.ofInt a1)]) (H1 := mz_mk g x) rfl ?_
    refine mz_bip rfl bip_40 ?_
    refine mz_ic_eq (tgt := 54) rfl rfl (mz_rg l_a1 u_a1) ⟨by decide, by decide⟩ (fun c9_0 => ?_) (fun c9_0 => ?_)
    · skip
      replace hE := zf_ip hE c9_0
      refine mm_g 1 (pc1 := 55) (lo1 := [some (.int (Int32.ofInt a1))]) (st1 := [.int (Int32.ofInt 1)]) (H1 := mz_mk g x) rfl ?_
      refine mz_gt (tgt := 59) rfl rfl ?_
      exact mz_rtZ rfl (by decide) (by omega) (hQ _ (by decide) (by decide) hE)
    · skip
      replace hE := zf_in hE c9_0
      refine mm_g 1 (pc1 := 13) (lo1 := [some (.int (Int32.ofInt a1))]) (st1 := [.int (Int32.ofInt a1)]) (H1 := mz_mk g x) rfl ?_
      refine mz_bip rfl bip_41 ?_
      refine mz_ic_eq (tgt := 54) rfl rfl (mz_rg l_a1 u_a1) ⟨by decide, by decide⟩ (fun c15_0 => ?_) (fun c15_0 => ?_)
      · skip
        replace hE := zf_ip hE c15_0
        refine mm_g 1 (pc1 := 55) (lo1 := [some (.int (Int32.ofInt a1))]) (st1 := [.int (Int32.ofInt 1)]) (H1 := mz_mk g x) rfl ?_
        refine mz_gt (tgt := 59) rfl rfl ?_
        exact mz_rtZ rfl (by decide) (by omega) (hQ _ (by decide) (by decide) hE)
      · skip
        replace hE := zf_in hE c15_0
        refine mm_g 1 (pc1 := 19) (lo1 := [some (.int (Int32.ofInt a1))]) (st1 := [.int (Int32.ofInt a1)]) (H1 := mz_mk g x) rfl ?_
        refine mz_bip rfl bip_43 ?_
        refine mz_ic_eq (tgt := 54) rfl rfl (mz_rg l_a1 u_a1) ⟨by decide, by decide⟩ (fun c21_0 => ?_) (fun c21_0 => ?_)
        · skip
          replace hE := zf_ip hE c21_0
          refine mm_g 1 (pc1 := 55) (lo1 := [some (.int (Int32.ofInt a1))]) (st1 := [.int (Int32.ofInt 1)]) (H1 := mz_mk g x) rfl ?_
          refine mz_gt (tgt := 59) rfl rfl ?_
          exact mz_rtZ rfl (by decide) (by omega) (hQ _ (by decide) (by decide) hE)
        · skip
          replace hE := zf_in hE c21_0
          refine mm_g 1 (pc1 := 25) (lo1 := [some (.int (Int32.ofInt a1))]) (st1 := [.int (Int32.ofInt a1)]) (H1 := mz_mk g x) rfl ?_
          refine mz_bip rfl bip_45 ?_
          refine mz_ic_eq (tgt := 54) rfl rfl (mz_rg l_a1 u_a1) ⟨by decide, by decide⟩ (fun c27_0 => ?_) (fun c27_0 => ?_)
          · skip
            replace hE := zf_ip hE c27_0
            refine mm_g 1 (pc1 := 55) (lo1 := [some (.int (Int32.ofInt a1))]) (st1 := [.int (Int32.ofInt 1)]) (H1 := mz_mk g x) rfl ?_
            refine mz_gt (tgt := 59) rfl rfl ?_
            exact mz_rtZ rfl (by decide) (by omega) (hQ _ (by decide) (by decide) hE)
          · skip
            replace hE := zf_in hE c27_0
            refine mm_g 1 (pc1 := 31) (lo1 := [some (.int (Int32.ofInt a1))]) (st1 := [.int (Int32.ofInt a1)]) (H1 := mz_mk g x) rfl ?_
            refine mz_bip rfl bip_42 ?_
            refine mz_ic_eq (tgt := 54) rfl rfl (mz_rg l_a1 u_a1) ⟨by decide, by decide⟩ (fun c33_0 => ?_) (fun c33_0 => ?_)
            · skip
              replace hE := zf_ip hE c33_0
              refine mm_g 1 (pc1 := 55) (lo1 := [some (.int (Int32.ofInt a1))]) (st1 := [.int (Int32.ofInt 1)]) (H1 := mz_mk g x) rfl ?_
              refine mz_gt (tgt := 59) rfl rfl ?_
              exact mz_rtZ rfl (by decide) (by omega) (hQ _ (by decide) (by decide) hE)
            · skip
              replace hE := zf_in hE c33_0
              refine mm_g 1 (pc1 := 37) (lo1 := [some (.int (Int32.ofInt a1))]) (st1 := [.int (Int32.ofInt a1)]) (H1 := mz_mk g x) rfl ?_
              refine mz_bip rfl bip_47 ?_
              refine mz_ic_eq (tgt := 54) rfl rfl (mz_rg l_a1 u_a1) ⟨by decide, by decide⟩ (fun c39_0 => ?_) (fun c39_0 => ?_)
              · skip
                replace hE := zf_ip hE c39_0
                refine mm_g 1 (pc1 := 55) (lo1 := [some (.int (Int32.ofInt a1))]) (st1 := [.int (Int32.ofInt 1)]) (H1 := mz_mk g x) rfl ?_
                refine mz_gt (tgt := 59) rfl rfl ?_
                exact mz_rtZ rfl (by decide) (by omega) (hQ _ (by decide) (by decide) hE)
              · skip
                replace hE := zf_in hE c39_0
                refine mm_g 1 (pc1 := 43) (lo1 := [some (.int (Int32.ofInt a1))]) (st1 := [.int (Int32.ofInt a1)]) (H1 := mz_mk g x) rfl ?_
                refine mz_bip rfl bip_60 ?_
                refine mz_ic_eq (tgt := 54) rfl rfl (mz_rg l_a1 u_a1) ⟨by decide, by decide⟩ (fun c45_0 => ?_) (fun c45_0 => ?_)
                · skip
                  replace hE := zf_ip hE c45_0
                  refine mm_g 1 (pc1 := 55) (lo1 := [some (.int (Int32.ofInt a1))]) (st1 := [.int (Int32.ofInt 1)]) (H1 := mz_mk g x) rfl ?_
                  refine mz_gt (tgt := 59) rfl rfl ?_
                  exact mz_rtZ rfl (by decide) (by omega) (hQ _ (by decide) (by decide) hE)
                · skip
                  replace hE := zf_in hE c45_0
                  refine mm_g 1 (pc1 := 49) (lo1 := [some (.int (Int32.ofInt a1))]) (st1 := [.int (Int32.ofInt a1)]) (H1 := mz_mk g x) rfl ?_
                  refine mz_bip rfl bip_61 ?_
                  refine mz_ic_ne (tgt := 58) rfl rfl (mz_rg l_a1 u_a1) ⟨by decide, by decide⟩ (fun c51_0 => ?_) (fun c51_0 => ?_)
                  · skip
                    replace hE := zf_in hE c51_0
                    refine mm_g 1 (pc1 := 59) (lo1 := [some (.int (Int32.ofInt a1))]) (st1 := [.int (Int32.ofInt 0)]) (H1 := mz_mk g x) rfl ?_
                    exact mz_rtZ rfl (by decide) (by omega) (hQ _ (by decide) (by decide) hE)
                  · skip
                    replace hE := zf_ip hE c51_0
                    refine mm_g 1 (pc1 := 55) (lo1 := [some (.int (Int32.ofInt a1))]) (st1 := [.int (Int32.ofInt 1)]) (H1 := mz_mk g x) rfl ?_
                    refine mz_gt (tgt := 59) rfl rfl ?_
                    exact mz_rtZ rfl (by decide) (by omega) (hQ _ (by decide) (by decide) hE)
def fl_X12_stepOn_0 (x : mm_X) : Nat → Nat → Prop := fun k j => (k = 137 ∧ j = 16)
def fl_X12_stepOn_123 (x : mm_X) : Nat → Nat → Prop := fun k j => (k = 137 ∧ j = 19) ∨ (k = 137 ∧ j = 16)
def fl_X12_stepOn_76 (x : mm_X) : Nat → Nat → Prop := fun k j => (k = 137 ∧ j = 16)
def fw_X12_stepOn (x : mm_X) : Nat → Nat → Prop := fun k j => (k = 137 ∧ j = 16) ∨ (k = 137 ∧ j = 20) ∨ (k = 137 ∧ j = 18) ∨ (k = 137 ∧ j = 21) ∨ (k = 137 ∧ j = 19)
theorem f_X12_stepOn {d : Nat} (hd : 12 ≤ d) {x : mm_X} (hx : mk_x x) {g : mz_G} (hI : mz_inv g) (p1 : g 137 16 ≤ g 137 17) {Q : (Option Value ⊕ Nat) → mm_H → Prop} (hQ : ∀ (g1 : mz_G), mz_inv g1 → mz_fr (fw_X12_stepOn x) g g1 → (g1 137 20 ≤ g1 137 16 ∧ g1 137 21 = g1 137 16 ∧ g1 137 16 ≤ g1 137 17 ∧ (g1 137 18 ≠ 0 → g1 137 20 < g1 137 16)) → (g 137 16 ≤ g1 137 20) → zf_E (zF_X12_stepOn g) (g1) → Q (.inl none) (mz_mk g1 x)) : mm_C d 193 [.ref 137] (mz_mk g x) Q := by
  refine ⟨mmX12_stepOn, [some (.ref 137), none], rfl, rfl, ?_⟩
  have bz0 := mz_rd hI bd_137_16
  have bz1 := mz_rd hI bd_137_17
  have bz2 := mz_rd hI bd_137_18
  have bz3 := mz_rd hI bd_137_20
  have bz4 := mz_rd hI bd_137_21
  have bz5 := mz_rd hI bd_137_22
  have hE : zf_E (zF_X12_stepOn g) (zF_X12_stepOn g) := zf_rf
  have L4 : ∀ n3 : Nat, ∀ (g1 : mz_G), (701 - g1 137 16).toNat = n3 → mz_inv g1 → mz_fr (fl_X12_stepOn_0 x) g g1 → (g1 137 16 ≤ g 137 17) → (g 137 16 ≤ g1 137 16) → (∃ fk : Nat, (701 - g1 137 16).toNat < fk ∧ zf_E (zF_X12_stepOn g) (zL_X12_stepOn_0 fk g1)) → mm_W d mmX12_stepOn 0 [some (.ref 137), none] [] (mz_mk g1 x) Q := by
    intro n3
    induction n3 using Nat.strongRecOn with
    | ind n3 ih2 =>
    intro g1 hmn3 hIg1 hfg1 hv5 hv6 hF
    obtain ⟨fk, fl, hE⟩ := hF
    obtain ⟨fj7, rfl⟩ : ∃ fj, fk = fj + 1 := ⟨fk - 1, by omega⟩
    have fn8 : n3 ≤ fj7 := by omega
    replace hE := zf_tr hE zL_X12_stepOn_0_s
    have bz_g1_16 := mz_rd hIg1 bd_137_16
    refine mm_g 2 (pc1 := 2) (lo1 := [some (.ref 137), none]) (st1 := [.ref 137, .ref 137]) (H1 := mz_mk g1 x) rfl ?_
    refine mz_fgI (v := (g1 137 16)) rfl fd_12_167 (by decide) (sc_137 _) (show g1 137 16 = (g1 137 16) from rfl) ?_
    replace hE := zf_tr hE (zf_le (show g1 137 16 = (g1 137 16) from rfl))
    have hq9 : g1 137 17 = (g 137 17) := (show g1 137 17 = (g 137 17) from ((hfg1 137 17 (fun h => (absurd (show (137 = 137 ∧ 17 = 16) from h) (by decide)))).trans rfl))
    refine mz_cv rfl mt_12_170 (by decide) (sc_137 _) rfl (Nat.le_of_ble_eq_true rfl) (by omega) (f_X12_byteAt (by omega) hx hIg1 (by omega) (by omega) (fun v10 l_v10 u_v10 hp11 hp12 hc13 => ⟨_, rfl, ?_⟩))
    show mm_W d mmX12_stepOn 8 [some (.ref 137), none] [.int (Int32.ofInt v10)] (mz_mk g1 x) Q
    replace hE := zf_t1 hE hc13
    refine mz_bip rfl bip_32 ?_
    refine mz_ic_eq (tgt := 26) rfl rfl (mz_rg l_v10 u_v10) ⟨by decide, by decide⟩ (fun c10_13 => ?_) (fun c10_13 => ?_)
    · skip
      replace hE := zf_ip hE c10_13
      refine mm_g 2 (pc1 := 28) (lo1 := [some (.ref 137), none]) (st1 := [.ref 137, .ref 137]) (H1 := mz_mk g1 x) rfl ?_
      refine mz_fgI (v := (g1 137 16)) rfl fd_12_167 (by decide) (sc_137 _) (show g1 137 16 = (g1 137 16) from rfl) ?_
      replace hE := zf_tr hE (zf_le (show g1 137 16 = (g1 137 16) from rfl))
      refine mm_g 1 (pc1 := 32) (lo1 := [some (.ref 137), none]) (st1 := [.int (Int32.ofInt 1), .int (Int32.ofInt (g1 137 16)), .ref 137]) (H1 := mz_mk g1 x) rfl ?_
      refine mz_iadd rfl ?_
      refine mz_pI rfl fd_12_167 (sc_137 _) hIg1 bd_137_16 (by omega) (by omega) (fun g14 hIg14 hug14 => ?_)
      replace hE := zf_tr hE (zf_lg hug14)
      refine mz_gt (tgt := 0) rfl rfl ?_
      exact ih2 ((701 - g14 137 16).toNat) (by have h9 := (show g14 137 16 = ((g1 137 16) + 1) from hug14.1); omega) g14 rfl hIg14 (fun k j hk => ((hug14.2 k j (fun h => hk h)).trans (hfg1 k j (fun h => hk h)))) (by have h90 := (show g14 137 16 = ((g1 137 16) + 1) from hug14.1); omega) (by have h90 := (show g14 137 16 = ((g1 137 16) + 1) from hug14.1); omega) ⟨fj7, Nat.lt_of_lt_of_le (show ((701 - g14 137 16).toNat) < n3 from (by have h9 := (show g14 137 16 = ((g1 137 16) + 1) from hug14.1); omega)) fn8, hE⟩
    · skip
      replace hE := zf_in hE c10_13
      refine mm_g 2 (pc1 := 15) (lo1 := [some (.ref 137), none]) (st1 := [.ref 137, .ref 137]) (H1 := mz_mk g1 x) rfl ?_
      refine mz_fgI (v := (g1 137 16)) rfl fd_12_167 (by decide) (sc_137 _) (show g1 137 16 = (g1 137 16) from rfl) ?_
      replace hE := zf_tr hE (zf_le (show g1 137 16 = (g1 137 16) from rfl))
      have hq15 : g1 137 17 = (g 137 17) := (show g1 137 17 = (g 137 17) from ((hfg1 137 17 (fun h => (absurd (show (137 = 137 ∧ 17 = 16) from h) (by decide)))).trans rfl))
      refine mz_cv rfl mt_12_170 (by decide) (sc_137 _) rfl (Nat.le_of_ble_eq_true rfl) (by omega) (f_X12_byteAt (by omega) hx hIg1 (by omega) (by omega) (fun v16 l_v16 u_v16 hp17 hp18 hc19 => ⟨_, rfl, ?_⟩))
      show mm_W d mmX12_stepOn 21 [some (.ref 137), none] [.int (Int32.ofInt v16)] (mz_mk g1 x) Q
      replace hE := zf_t1 hE hc19
      refine mz_bip rfl bip_10 ?_
      refine mz_ic_ne (tgt := 39) rfl rfl (mz_rg l_v16 u_v16) ⟨by decide, by decide⟩ (fun c23_19 => ?_) (fun c23_19 => ?_)
      · skip
        replace hE := zf_in hE c23_19
        refine mm_g 2 (pc1 := 41) (lo1 := [some (.ref 137), none]) (st1 := [.ref 137, .ref 137]) (H1 := mz_mk g1 x) rfl ?_
        refine mz_fgI (v := (g1 137 16)) rfl fd_12_167 (by decide) (sc_137 _) (show g1 137 16 = (g1 137 16) from rfl) ?_
        replace hE := zf_tr hE (zf_le (show g1 137 16 = (g1 137 16) from rfl))
        refine mz_pI rfl fd_12_174 (sc_137 _) hIg1 bd_137_20 (by omega) (by omega) (fun g20 hIg20 hug20 => ?_)
        replace hE := zf_tr hE (zf_lg hug20)
        refine mm_g 2 (pc1 := 49) (lo1 := [some (.ref 137), none]) (st1 := [.ref 137, .ref 137]) (H1 := mz_mk g20 x) rfl ?_
        refine mz_fgI (v := (g1 137 16)) rfl fd_12_167 (by decide) (sc_137 _) (show g20 137 16 = (g1 137 16) from ((hug20.2 137 16 (fun h => absurd h.2 (by decide))).trans rfl)) ?_
        replace hE := zf_tr hE (zf_le (show g20 137 16 = (g1 137 16) from ((hug20.2 137 16 (fun h => absurd h.2 (by decide))).trans rfl)))
        have hq21 : g20 137 17 = (g 137 17) := (show g20 137 17 = (g 137 17) from ((hug20.2 137 17 (fun h => absurd h.2 (by decide))).trans ((hfg1 137 17 (fun h => (absurd (show (137 = 137 ∧ 17 = 16) from h) (by decide)))).trans rfl)))
        refine mz_cv rfl mt_12_170 (by decide) (sc_137 _) rfl (Nat.le_of_ble_eq_true rfl) (by omega) (f_X12_byteAt (by omega) hx hIg20 (by omega) (by omega) (fun v22 l_v22 u_v22 hp23 hp24 hc25 => ⟨_, rfl, ?_⟩))
        show mm_W d mmX12_stepOn 55 [some (.ref 137), none] [.int (Int32.ofInt v22)] (mz_mk g20 x) Q
        replace hE := zf_t1 hE hc25
        refine mm_g 3 (pc1 := 58) (lo1 := [some (.ref 137), some (.int (Int32.ofInt v22))]) (st1 := [.int (Int32.ofInt (-1)), .int (Int32.ofInt v22)]) (H1 := mz_mk g20 x) rfl ?_
        refine mz_ic_ne (tgt := 69) rfl rfl (mz_rg l_v22 u_v22) ⟨by decide, by decide⟩ (fun c58_25 => ?_) (fun c58_25 => ?_)
        · skip
          replace hE := zf_in hE c58_25
          refine mm_g 1 (pc1 := 70) (lo1 := [some (.ref 137), some (.int (Int32.ofInt v22))]) (st1 := [.int (Int32.ofInt v22)]) (H1 := mz_mk g20 x) rfl ?_
          refine mz_cs rfl mt_12_180 (by decide) rfl (Nat.le_of_ble_eq_true rfl) (by omega) (f_X12_isLetter (by omega) hx hIg20 (by omega) (by omega) (fun v26 l_v26 u_v26 hp27 hc28 => ⟨_, rfl, ?_⟩))
          show mm_W d mmX12_stepOn 73 [some (.ref 137), some (.int (Int32.ofInt v22))] [.int (Int32.ofInt v26)] (mz_mk g20 x) Q
          replace hE := zf_t1 hE hc28
          refine mz_if_eq (tgt := 111) rfl rfl (mz_rg l_v26 u_v26) (fun c73_28 => ?_) (fun c73_28 => ?_)
          · skip
            replace hE := zf_ip hE c73_28
            refine mm_g 1 (pc1 := 112) (lo1 := [some (.ref 137), some (.int (Int32.ofInt v22))]) (st1 := [.int (Int32.ofInt v22)]) (H1 := mz_mk g20 x) rfl ?_
            refine mz_cs rfl mt_12_184 (by decide) rfl (Nat.le_of_ble_eq_true rfl) (by omega) (f_X12_isDigit (by omega) hx hIg20 (by omega) (by omega) (fun v29 l_v29 u_v29 hp30 hc31 => ⟨_, rfl, ?_⟩))
            show mm_W d mmX12_stepOn 115 [some (.ref 137), some (.int (Int32.ofInt v22))] [.int (Int32.ofInt v29)] (mz_mk g20 x) Q
            replace hE := zf_t1 hE hc31
            refine mz_if_eq (tgt := 186) rfl rfl (mz_rg l_v29 u_v29) (fun c115_31 => ?_) (fun c115_31 => ?_)
            · skip
              replace hE := zf_ip hE c115_31
              refine mm_g 2 (pc1 := 188) (lo1 := [some (.ref 137), some (.int (Int32.ofInt v22))]) (st1 := [.ref 137, .ref 137]) (H1 := mz_mk g20 x) rfl ?_
              refine mz_fgI (v := (g1 137 16)) rfl fd_12_167 (by decide) (sc_137 _) (show g20 137 16 = (g1 137 16) from ((hug20.2 137 16 (fun h => absurd h.2 (by decide))).trans rfl)) ?_
              replace hE := zf_tr hE (zf_le (show g20 137 16 = (g1 137 16) from ((hug20.2 137 16 (fun h => absurd h.2 (by decide))).trans rfl)))
              refine mm_g 1 (pc1 := 192) (lo1 := [some (.ref 137), some (.int (Int32.ofInt v22))]) (st1 := [.int (Int32.ofInt 1), .int (Int32.ofInt (g1 137 16)), .ref 137]) (H1 := mz_mk g20 x) rfl ?_
              refine mz_iadd rfl ?_
              refine mz_pI rfl fd_12_167 (sc_137 _) hIg20 bd_137_16 (by omega) (by omega) (fun g32 hIg32 hug32 => ?_)
              replace hE := zf_tr hE (zf_lg hug32)
              refine mm_g 2 (pc1 := 198) (lo1 := [some (.ref 137), some (.int (Int32.ofInt v22))]) (st1 := [.int (Int32.ofInt v22), .ref 137]) (H1 := mz_mk g32 x) rfl ?_
              refine mz_cs rfl mt_12_197 (by decide) rfl (Nat.le_of_ble_eq_true rfl) (by omega) (f_X12_isMark (by omega) hx hIg32 (by omega) (by omega) (fun v33 l_v33 u_v33 hc34 => ⟨_, rfl, ?_⟩))
              show mm_W d mmX12_stepOn 201 [some (.ref 137), some (.int (Int32.ofInt v22))] [.int (Int32.ofInt v33), .ref 137] (mz_mk g32 x) Q
              replace hE := zf_t1 hE hc34
              refine mz_if_eq (tgt := 208) rfl rfl (mz_rg l_v33 u_v33) (fun c201_34 => ?_) (fun c201_34 => ?_)
              · skip
                replace hE := zf_ip hE c201_34
                refine mm_g 1 (pc1 := 209) (lo1 := [some (.ref 137), some (.int (Int32.ofInt v22))]) (st1 := [.int (Int32.ofInt 4), .ref 137]) (H1 := mz_mk g32 x) rfl ?_
                refine mz_pI rfl fd_12_177 (sc_137 _) hIg32 bd_137_18 (by omega) (by omega) (fun g35 hIg35 hug35 => ?_)
                replace hE := zf_tr hE (zf_lg hug35)
                refine mm_g 2 (pc1 := 214) (lo1 := [some (.ref 137), some (.int (Int32.ofInt v22))]) (st1 := [.ref 137, .ref 137]) (H1 := mz_mk g35 x) rfl ?_
                refine mz_fgI (v := ((g1 137 16) + 1)) rfl fd_12_167 (by decide) (sc_137 _) (show g35 137 16 = ((g1 137 16) + 1) from ((hug35.2 137 16 (fun h => absurd h.2 (by decide))).trans hug32.1)) ?_
                replace hE := zf_tr hE (zf_le (show g35 137 16 = ((g1 137 16) + 1) from ((hug35.2 137 16 (fun h => absurd h.2 (by decide))).trans hug32.1)))
                refine mz_pI rfl fd_12_200 (sc_137 _) hIg35 bd_137_21 (by omega) (by omega) (fun g36 hIg36 hug36 => ?_)
                replace hE := zf_tr hE (zf_lg hug36)
                exact mm_rt rfl rfl (hQ _ hIg36 (fun k j hk => ((hug36.2 k j (fun h => hk (Or.inr (Or.inr (Or.inr (Or.inl h)))))).trans ((hug35.2 k j (fun h => hk (Or.inr (Or.inr (Or.inl h))))).trans ((hug32.2 k j (fun h => hk (Or.inl h))).trans ((hug20.2 k j (fun h => hk (Or.inr (Or.inl h)))).trans (hfg1 k j (fun h => hk (Or.inl h)))))))) (by have h90 := (show g36 137 16 = ((g1 137 16) + 1) from ((hug36.2 137 16 (fun h => absurd h.2 (by decide))).trans ((hug35.2 137 16 (fun h => absurd h.2 (by decide))).trans hug32.1))); have h91 := (show g36 137 17 = (g 137 17) from ((hug36.2 137 17 (fun h => absurd h.2 (by decide))).trans ((hug35.2 137 17 (fun h => absurd h.2 (by decide))).trans ((hug32.2 137 17 (fun h => absurd h.2 (by decide))).trans ((hug20.2 137 17 (fun h => absurd h.2 (by decide))).trans ((hfg1 137 17 (fun h => (absurd (show (137 = 137 ∧ 17 = 16) from h) (by decide)))).trans rfl)))))); have h92 := (show g36 137 18 = 4 from ((hug36.2 137 18 (fun h => absurd h.2 (by decide))).trans hug35.1)); have h93 := (show g36 137 20 = (g1 137 16) from ((hug36.2 137 20 (fun h => absurd h.2 (by decide))).trans ((hug35.2 137 20 (fun h => absurd h.2 (by decide))).trans ((hug32.2 137 20 (fun h => absurd h.2 (by decide))).trans hug20.1)))); have h94 := (show g36 137 21 = ((g1 137 16) + 1) from hug36.1); have h95 := (show g36 137 22 = (g 137 22) from ((hug36.2 137 22 (fun h => absurd h.2 (by decide))).trans ((hug35.2 137 22 (fun h => absurd h.2 (by decide))).trans ((hug32.2 137 22 (fun h => absurd h.2 (by decide))).trans ((hug20.2 137 22 (fun h => absurd h.2 (by decide))).trans ((hfg1 137 22 (fun h => (absurd (show (137 = 137 ∧ 22 = 16) from h) (by decide)))).trans rfl)))))); omega) (by have h90 := (show g36 137 16 = ((g1 137 16) + 1) from ((hug36.2 137 16 (fun h => absurd h.2 (by decide))).trans ((hug35.2 137 16 (fun h => absurd h.2 (by decide))).trans hug32.1))); have h91 := (show g36 137 17 = (g 137 17) from ((hug36.2 137 17 (fun h => absurd h.2 (by decide))).trans ((hug35.2 137 17 (fun h => absurd h.2 (by decide))).trans ((hug32.2 137 17 (fun h => absurd h.2 (by decide))).trans ((hug20.2 137 17 (fun h => absurd h.2 (by decide))).trans ((hfg1 137 17 (fun h => (absurd (show (137 = 137 ∧ 17 = 16) from h) (by decide)))).trans rfl)))))); have h92 := (show g36 137 18 = 4 from ((hug36.2 137 18 (fun h => absurd h.2 (by decide))).trans hug35.1)); have h93 := (show g36 137 20 = (g1 137 16) from ((hug36.2 137 20 (fun h => absurd h.2 (by decide))).trans ((hug35.2 137 20 (fun h => absurd h.2 (by decide))).trans ((hug32.2 137 20 (fun h => absurd h.2 (by decide))).trans hug20.1)))); have h94 := (show g36 137 21 = ((g1 137 16) + 1) from hug36.1); have h95 := (show g36 137 22 = (g 137 22) from ((hug36.2 137 22 (fun h => absurd h.2 (by decide))).trans ((hug35.2 137 22 (fun h => absurd h.2 (by decide))).trans ((hug32.2 137 22 (fun h => absurd h.2 (by decide))).trans ((hug20.2 137 22 (fun h => absurd h.2 (by decide))).trans ((hfg1 137 22 (fun h => (absurd (show (137 = 137 ∧ 22 = 16) from h) (by decide)))).trans rfl)))))); omega) hE)
              · skip
                replace hE := zf_in hE c201_34
                refine mm_g 1 (pc1 := 205) (lo1 := [some (.ref 137), some (.int (Int32.ofInt v22))]) (st1 := [.int (Int32.ofInt 3), .ref 137]) (H1 := mz_mk g32 x) rfl ?_
                refine mz_gt (tgt := 209) rfl rfl ?_
                refine mz_pI rfl fd_12_177 (sc_137 _) hIg32 bd_137_18 (by omega) (by omega) (fun g37 hIg37 hug37 => ?_)
                replace hE := zf_tr hE (zf_lg hug37)
                refine mm_g 2 (pc1 := 214) (lo1 := [some (.ref 137), some (.int (Int32.ofInt v22))]) (st1 := [.ref 137, .ref 137]) (H1 := mz_mk g37 x) rfl ?_
                refine mz_fgI (v := ((g1 137 16) + 1)) rfl fd_12_167 (by decide) (sc_137 _) (show g37 137 16 = ((g1 137 16) + 1) from ((hug37.2 137 16 (fun h => absurd h.2 (by decide))).trans hug32.1)) ?_
                replace hE := zf_tr hE (zf_le (show g37 137 16 = ((g1 137 16) + 1) from ((hug37.2 137 16 (fun h => absurd h.2 (by decide))).trans hug32.1)))
                refine mz_pI rfl fd_12_200 (sc_137 _) hIg37 bd_137_21 (by omega) (by omega) (fun g38 hIg38 hug38 => ?_)
                replace hE := zf_tr hE (zf_lg hug38)
                exact mm_rt rfl rfl (hQ _ hIg38 (fun k j hk => ((hug38.2 k j (fun h => hk (Or.inr (Or.inr (Or.inr (Or.inl h)))))).trans ((hug37.2 k j (fun h => hk (Or.inr (Or.inr (Or.inl h))))).trans ((hug32.2 k j (fun h => hk (Or.inl h))).trans ((hug20.2 k j (fun h => hk (Or.inr (Or.inl h)))).trans (hfg1 k j (fun h => hk (Or.inl h)))))))) (by have h90 := (show g38 137 16 = ((g1 137 16) + 1) from ((hug38.2 137 16 (fun h => absurd h.2 (by decide))).trans ((hug37.2 137 16 (fun h => absurd h.2 (by decide))).trans hug32.1))); have h91 := (show g38 137 17 = (g 137 17) from ((hug38.2 137 17 (fun h => absurd h.2 (by decide))).trans ((hug37.2 137 17 (fun h => absurd h.2 (by decide))).trans ((hug32.2 137 17 (fun h => absurd h.2 (by decide))).trans ((hug20.2 137 17 (fun h => absurd h.2 (by decide))).trans ((hfg1 137 17 (fun h => (absurd (show (137 = 137 ∧ 17 = 16) from h) (by decide)))).trans rfl)))))); have h92 := (show g38 137 18 = 3 from ((hug38.2 137 18 (fun h => absurd h.2 (by decide))).trans hug37.1)); have h93 := (show g38 137 20 = (g1 137 16) from ((hug38.2 137 20 (fun h => absurd h.2 (by decide))).trans ((hug37.2 137 20 (fun h => absurd h.2 (by decide))).trans ((hug32.2 137 20 (fun h => absurd h.2 (by decide))).trans hug20.1)))); have h94 := (show g38 137 21 = ((g1 137 16) + 1) from hug38.1); have h95 := (show g38 137 22 = (g 137 22) from ((hug38.2 137 22 (fun h => absurd h.2 (by decide))).trans ((hug37.2 137 22 (fun h => absurd h.2 (by decide))).trans ((hug32.2 137 22 (fun h => absurd h.2 (by decide))).trans ((hug20.2 137 22 (fun h => absurd h.2 (by decide))).trans ((hfg1 137 22 (fun h => (absurd (show (137 = 137 ∧ 22 = 16) from h) (by decide)))).trans rfl)))))); omega) (by have h90 := (show g38 137 16 = ((g1 137 16) + 1) from ((hug38.2 137 16 (fun h => absurd h.2 (by decide))).trans ((hug37.2 137 16 (fun h => absurd h.2 (by decide))).trans hug32.1))); have h91 := (show g38 137 17 = (g 137 17) from ((hug38.2 137 17 (fun h => absurd h.2 (by decide))).trans ((hug37.2 137 17 (fun h => absurd h.2 (by decide))).trans ((hug32.2 137 17 (fun h => absurd h.2 (by decide))).trans ((hug20.2 137 17 (fun h => absurd h.2 (by decide))).trans ((hfg1 137 17 (fun h => (absurd (show (137 = 137 ∧ 17 = 16) from h) (by decide)))).trans rfl)))))); have h92 := (show g38 137 18 = 3 from ((hug38.2 137 18 (fun h => absurd h.2 (by decide))).trans hug37.1)); have h93 := (show g38 137 20 = (g1 137 16) from ((hug38.2 137 20 (fun h => absurd h.2 (by decide))).trans ((hug37.2 137 20 (fun h => absurd h.2 (by decide))).trans ((hug32.2 137 20 (fun h => absurd h.2 (by decide))).trans hug20.1)))); have h94 := (show g38 137 21 = ((g1 137 16) + 1) from hug38.1); have h95 := (show g38 137 22 = (g 137 22) from ((hug38.2 137 22 (fun h => absurd h.2 (by decide))).trans ((hug37.2 137 22 (fun h => absurd h.2 (by decide))).trans ((hug32.2 137 22 (fun h => absurd h.2 (by decide))).trans ((hug20.2 137 22 (fun h => absurd h.2 (by decide))).trans ((hfg1 137 22 (fun h => (absurd (show (137 = 137 ∧ 22 = 16) from h) (by decide)))).trans rfl)))))); omega) hE)
            · skip
              replace hE := zf_in hE c115_31
              refine mm_g 2 (pc1 := 120) (lo1 := [some (.ref 137), some (.int (Int32.ofInt v22))]) (st1 := [.int (Int32.ofInt 0), .ref 137]) (H1 := mz_mk g20 x) rfl ?_
              refine mz_pI rfl fd_12_187 (sc_137 _) hIg20 bd_137_19 (by omega) (by omega) (fun g39 hIg39 hug39 => ?_)
              replace hE := zf_tr hE (zf_lg hug39)
              have L43 : ∀ n42 : Nat, ∀ (g40 : mz_G), (701 - g40 137 16).toNat = n42 → mz_inv g40 → mz_fr (fl_X12_stepOn_123 x) g39 g40 → (g40 137 16 ≤ g 137 17) → (g 137 16 ≤ g40 137 16) → ((g1 137 16) ≤ g40 137 16) → (g40 137 16 = (g1 137 16) → mz_byte g40 (g40 137 16) = v22) → (∃ fk : Nat, (701 - g40 137 16).toNat < fk ∧ zf_E (zF_X12_stepOn g) (zL_X12_stepOn_123 fk g40)) → mm_W d mmX12_stepOn 123 [some (.ref 137), some (.int (Int32.ofInt v22))] [] (mz_mk g40 x) Q := by
                intro n42
                induction n42 using Nat.strongRecOn with
                | ind n42 ih41 =>
                intro g40 hmn42 hIg40 hfg40 hv44 hv45 hv46 hv47 hF
                obtain ⟨fk, fl, hE⟩ := hF
                obtain ⟨fj48, rfl⟩ : ∃ fj, fk = fj + 1 := ⟨fk - 1, by omega⟩
                have fn49 : n42 ≤ fj48 := by omega
                replace hE := zf_tr hE zL_X12_stepOn_123_s
                have bz_g40_16 := mz_rd hIg40 bd_137_16
                refine mm_g 2 (pc1 := 125) (lo1 := [some (.ref 137), some (.int (Int32.ofInt v22))]) (st1 := [.ref 137, .ref 137]) (H1 := mz_mk g40 x) rfl ?_
                refine mz_fgI (v := (g40 137 16)) rfl fd_12_167 (by decide) (sc_137 _) (show g40 137 16 = (g40 137 16) from rfl) ?_
                replace hE := zf_tr hE (zf_le (show g40 137 16 = (g40 137 16) from rfl))
                have hq50 : g40 137 17 = (g 137 17) := (show g40 137 17 = (g 137 17) from ((hfg40 137 17 nj_7).trans ((hug39.2 137 17 (fun h => absurd h.2 (by decide))).trans ((hug20.2 137 17 (fun h => absurd h.2 (by decide))).trans ((hfg1 137 17 (fun h => (absurd (show (137 = 137 ∧ 17 = 16) from h) (by decide)))).trans rfl)))))
                refine mz_cv rfl mt_12_170 (by decide) (sc_137 _) rfl (Nat.le_of_ble_eq_true rfl) (by omega) (f_X12_byteAt (by omega) hx hIg40 (by omega) (by omega) (fun v51 l_v51 u_v51 hp52 hp53 hc54 => ⟨_, rfl, ?_⟩))
                show mm_W d mmX12_stepOn 131 [some (.ref 137), some (.int (Int32.ofInt v22))] [.int (Int32.ofInt v51)] (mz_mk g40 x) Q
                replace hE := zf_t1 hE hc54
                refine mz_cs rfl mt_12_184 (by decide) rfl (Nat.le_of_ble_eq_true rfl) (by omega) (f_X12_isDigit (by omega) hx hIg40 (by omega) (by omega) (fun v55 l_v55 u_v55 hp56 hc57 => ⟨_, rfl, ?_⟩))
                show mm_W d mmX12_stepOn 134 [some (.ref 137), some (.int (Int32.ofInt v22))] [.int (Int32.ofInt v55)] (mz_mk g40 x) Q
                replace hE := zf_t1 hE hc57
                refine mz_if_eq (tgt := 178) rfl rfl (mz_rg l_v55 u_v55) (fun c134_57 => ?_) (fun c134_57 => ?_)
                · skip
                  replace hE := zf_ip hE c134_57
                  refine mm_g 2 (pc1 := 180) (lo1 := [some (.ref 137), some (.int (Int32.ofInt v22))]) (st1 := [.int (Int32.ofInt 2), .ref 137]) (H1 := mz_mk g40 x) rfl ?_
                  refine mz_pI rfl fd_12_177 (sc_137 _) hIg40 bd_137_18 (by omega) (by omega) (fun g58 hIg58 hug58 => ?_)
                  replace hE := zf_tr hE (zf_lg hug58)
                  refine mz_gt (tgt := 212) rfl rfl ?_
                  refine mm_g 2 (pc1 := 214) (lo1 := [some (.ref 137), some (.int (Int32.ofInt v22))]) (st1 := [.ref 137, .ref 137]) (H1 := mz_mk g58 x) rfl ?_
                  refine mz_fgI (v := (g40 137 16)) rfl fd_12_167 (by decide) (sc_137 _) (show g58 137 16 = (g40 137 16) from ((hug58.2 137 16 (fun h => absurd h.2 (by decide))).trans rfl)) ?_
                  replace hE := zf_tr hE (zf_le (show g58 137 16 = (g40 137 16) from ((hug58.2 137 16 (fun h => absurd h.2 (by decide))).trans rfl)))
                  refine mz_pI rfl fd_12_200 (sc_137 _) hIg58 bd_137_21 (by omega) (by omega) (fun g59 hIg59 hug59 => ?_)
                  replace hE := zf_tr hE (zf_lg hug59)
                  exact mm_rt rfl rfl (hQ _ hIg59 (fun k j hk => ((hug59.2 k j (fun h => hk (Or.inr (Or.inr (Or.inr (Or.inl h)))))).trans ((hug58.2 k j (fun h => hk (Or.inr (Or.inr (Or.inl h))))).trans ((hfg40 k j (fun h => hk (Or.elim h (fun h => (Or.inr (Or.inr (Or.inr (Or.inr h))))) (fun h => (Or.inl h))))).trans ((hug39.2 k j (fun h => hk (Or.inr (Or.inr (Or.inr (Or.inr h)))))).trans ((hug20.2 k j (fun h => hk (Or.inr (Or.inl h)))).trans (hfg1 k j (fun h => hk (Or.inl h))))))))) (by have h90 := (show g59 137 16 = (g40 137 16) from ((hug59.2 137 16 (fun h => absurd h.2 (by decide))).trans ((hug58.2 137 16 (fun h => absurd h.2 (by decide))).trans rfl))); have h91 := (show g59 137 17 = (g 137 17) from ((hug59.2 137 17 (fun h => absurd h.2 (by decide))).trans ((hug58.2 137 17 (fun h => absurd h.2 (by decide))).trans ((hfg40 137 17 nj_7).trans ((hug39.2 137 17 (fun h => absurd h.2 (by decide))).trans ((hug20.2 137 17 (fun h => absurd h.2 (by decide))).trans ((hfg1 137 17 (fun h => (absurd (show (137 = 137 ∧ 17 = 16) from h) (by decide)))).trans rfl))))))); have h92 := (show g59 137 18 = 2 from ((hug59.2 137 18 (fun h => absurd h.2 (by decide))).trans hug58.1)); have h93 := (show g59 137 20 = (g1 137 16) from ((hug59.2 137 20 (fun h => absurd h.2 (by decide))).trans ((hug58.2 137 20 (fun h => absurd h.2 (by decide))).trans ((hfg40 137 20 nj_8).trans ((hug39.2 137 20 (fun h => absurd h.2 (by decide))).trans hug20.1))))); have h94 := (show g59 137 21 = (g40 137 16) from hug59.1); have h95 := (show g59 137 22 = (g 137 22) from ((hug59.2 137 22 (fun h => absurd h.2 (by decide))).trans ((hug58.2 137 22 (fun h => absurd h.2 (by decide))).trans ((hfg40 137 22 nj_9).trans ((hug39.2 137 22 (fun h => absurd h.2 (by decide))).trans ((hug20.2 137 22 (fun h => absurd h.2 (by decide))).trans ((hfg1 137 22 (fun h => (absurd (show (137 = 137 ∧ 22 = 16) from h) (by decide)))).trans rfl))))))); omega) (by have h90 := (show g59 137 16 = (g40 137 16) from ((hug59.2 137 16 (fun h => absurd h.2 (by decide))).trans ((hug58.2 137 16 (fun h => absurd h.2 (by decide))).trans rfl))); have h91 := (show g59 137 17 = (g 137 17) from ((hug59.2 137 17 (fun h => absurd h.2 (by decide))).trans ((hug58.2 137 17 (fun h => absurd h.2 (by decide))).trans ((hfg40 137 17 nj_7).trans ((hug39.2 137 17 (fun h => absurd h.2 (by decide))).trans ((hug20.2 137 17 (fun h => absurd h.2 (by decide))).trans ((hfg1 137 17 (fun h => (absurd (show (137 = 137 ∧ 17 = 16) from h) (by decide)))).trans rfl))))))); have h92 := (show g59 137 18 = 2 from ((hug59.2 137 18 (fun h => absurd h.2 (by decide))).trans hug58.1)); have h93 := (show g59 137 20 = (g1 137 16) from ((hug59.2 137 20 (fun h => absurd h.2 (by decide))).trans ((hug58.2 137 20 (fun h => absurd h.2 (by decide))).trans ((hfg40 137 20 nj_8).trans ((hug39.2 137 20 (fun h => absurd h.2 (by decide))).trans hug20.1))))); have h94 := (show g59 137 21 = (g40 137 16) from hug59.1); have h95 := (show g59 137 22 = (g 137 22) from ((hug59.2 137 22 (fun h => absurd h.2 (by decide))).trans ((hug58.2 137 22 (fun h => absurd h.2 (by decide))).trans ((hfg40 137 22 nj_9).trans ((hug39.2 137 22 (fun h => absurd h.2 (by decide))).trans ((hug20.2 137 22 (fun h => absurd h.2 (by decide))).trans ((hfg1 137 22 (fun h => (absurd (show (137 = 137 ∧ 22 = 16) from h) (by decide)))).trans rfl))))))); omega) hE)
                · skip
                  replace hE := zf_in hE c134_57
                  refine mm_g 1 (pc1 := 138) (lo1 := [some (.ref 137), some (.int (Int32.ofInt v22))]) (st1 := [.ref 137]) (H1 := mz_mk g40 x) rfl ?_
                  refine mz_ldcI (c := 100000) rfl rfl rfl ?_
                  refine mz_bip rfl bip_10 ?_
                  refine mm_g 1 (pc1 := 143) (lo1 := [some (.ref 137), some (.int (Int32.ofInt v22))]) (st1 := [.ref 137, .int (Int32.ofInt 10), .int (Int32.ofInt 100000), .ref 137]) (H1 := mz_mk g40 x) rfl ?_
                  refine mz_gI rfl fd_12_187 (by decide) (sc_137 _) hIg40 bd_137_19 (fun v60 e_v60 l_v60 u_v60 => ?_)
                  replace hE := zf_tr hE (zf_le e_v60)
                  refine mz_imul_w rfl (fun v61 e_v61 hwv61 => ?_)
                  have l_v61 := hwv61.1
                  have u_v61 := hwv61.2
                  replace hE := zf_tr hE (zf_le e_v61.symm)
                  refine mm_g 2 (pc1 := 149) (lo1 := [some (.ref 137), some (.int (Int32.ofInt v22))]) (st1 := [.ref 137, .ref 137, .int (Int32.ofInt v61), .int (Int32.ofInt 100000), .ref 137]) (H1 := mz_mk g40 x) rfl ?_
                  refine mz_fgI (v := (g40 137 16)) rfl fd_12_167 (by decide) (sc_137 _) (show g40 137 16 = (g40 137 16) from rfl) ?_
                  replace hE := zf_tr hE (zf_le (show g40 137 16 = (g40 137 16) from rfl))
                  have hq62 : g40 137 17 = (g 137 17) := (show g40 137 17 = (g 137 17) from ((hfg40 137 17 nj_7).trans ((hug39.2 137 17 (fun h => absurd h.2 (by decide))).trans ((hug20.2 137 17 (fun h => absurd h.2 (by decide))).trans ((hfg1 137 17 (fun h => (absurd (show (137 = 137 ∧ 17 = 16) from h) (by decide)))).trans rfl)))))
                  refine mz_cv rfl mt_12_170 (by decide) (sc_137 _) rfl (Nat.le_of_ble_eq_true rfl) (by omega) (f_X12_byteAt (by omega) hx hIg40 (by omega) (by omega) (fun v63 l_v63 u_v63 hp64 hp65 hc66 => ⟨_, rfl, ?_⟩))
                  show mm_W d mmX12_stepOn 155 [some (.ref 137), some (.int (Int32.ofInt v22))] [.int (Int32.ofInt v63), .int (Int32.ofInt v61), .int (Int32.ofInt 100000), .ref 137] (mz_mk g40 x) Q
                  replace hE := zf_t1 hE hc66
                  refine mz_iadd_w rfl (fun v67 e_v67 hwv67 => ?_)
                  have l_v67 := hwv67.1
                  have u_v67 := hwv67.2
                  replace hE := zf_tr hE (zf_le e_v67.symm)
                  refine mz_bip rfl bip_48 ?_
                  refine mz_isub_w rfl (fun v68 e_v68 hwv68 => ?_)
                  have l_v68 := hwv68.1
                  have u_v68 := hwv68.2
                  replace hE := zf_tr hE (zf_le e_v68.symm)
                  refine mz_mn rfl mt_12_191 (Nat.le_of_ble_eq_true rfl) (by omega) ⟨by decide, by decide⟩ (mz_rg l_v68 u_v68) (fun v69 e_v69 => ?_)
                  have l_v69 : (-2147483648) ≤ v69 := by omega
                  have u_v69 : v69 ≤ 100000 := by omega
                  replace hE := zf_tr hE (zf_le e_v69.symm)
                  refine mz_pI rfl fd_12_187 (sc_137 _) hIg40 bd_137_19 (by omega) (by omega) (fun g70 hIg70 hug70 => ?_)
                  replace hE := zf_tr hE (zf_lg hug70)
                  refine mm_g 2 (pc1 := 167) (lo1 := [some (.ref 137), some (.int (Int32.ofInt v22))]) (st1 := [.ref 137, .ref 137]) (H1 := mz_mk g70 x) rfl ?_
                  refine mz_fgI (v := (g40 137 16)) rfl fd_12_167 (by decide) (sc_137 _) (show g70 137 16 = (g40 137 16) from ((hug70.2 137 16 (fun h => absurd h.2 (by decide))).trans rfl)) ?_
                  replace hE := zf_tr hE (zf_le (show g70 137 16 = (g40 137 16) from ((hug70.2 137 16 (fun h => absurd h.2 (by decide))).trans rfl)))
                  refine mm_g 1 (pc1 := 171) (lo1 := [some (.ref 137), some (.int (Int32.ofInt v22))]) (st1 := [.int (Int32.ofInt 1), .int (Int32.ofInt (g40 137 16)), .ref 137]) (H1 := mz_mk g70 x) rfl ?_
                  refine mz_iadd rfl ?_
                  refine mz_pI rfl fd_12_167 (sc_137 _) hIg70 bd_137_16 (by omega) (by omega) (fun g71 hIg71 hug71 => ?_)
                  replace hE := zf_tr hE (zf_lg hug71)
                  refine mz_gt (tgt := 123) rfl rfl ?_
                  exact ih41 ((701 - g71 137 16).toNat) (by have h9 := (show g71 137 16 = ((g40 137 16) + 1) from hug71.1); omega) g71 rfl hIg71 (fun k j hk => ((hug71.2 k j (fun h => hk (Or.inr h))).trans ((hug70.2 k j (fun h => hk (Or.inl h))).trans (hfg40 k j (fun h => hk (Or.elim h (fun h => (Or.inl h)) (fun h => (Or.inr h)))))))) (by have h90 := (show g71 137 16 = ((g40 137 16) + 1) from hug71.1); omega) (by have h90 := (show g71 137 16 = ((g40 137 16) + 1) from hug71.1); omega) (by have h90 := (show g71 137 16 = ((g40 137 16) + 1) from hug71.1); omega) (by intro hz; exfalso; have h90 := (show g71 137 16 = ((g40 137 16) + 1) from hug71.1); omega) ⟨fj48, Nat.lt_of_lt_of_le (show ((701 - g71 137 16).toNat) < n42 from (by have h9 := (show g71 137 16 = ((g40 137 16) + 1) from hug71.1); omega)) fn49, hE⟩
              exact L43 _ g39 rfl hIg39 (fun _ _ _ => rfl) (by have h90 := (show g39 137 16 = (g1 137 16) from ((hug39.2 137 16 (fun h => absurd h.2 (by decide))).trans ((hug20.2 137 16 (fun h => absurd h.2 (by decide))).trans rfl))); omega) (by have h90 := (show g39 137 16 = (g1 137 16) from ((hug39.2 137 16 (fun h => absurd h.2 (by decide))).trans ((hug20.2 137 16 (fun h => absurd h.2 (by decide))).trans rfl))); omega) (by have h90 := (show g39 137 16 = (g1 137 16) from ((hug39.2 137 16 (fun h => absurd h.2 (by decide))).trans ((hug20.2 137 16 (fun h => absurd h.2 (by decide))).trans rfl))); omega) (by intro _; rw [show g39 137 16 = (g1 137 16) from (show g39 137 16 = (g1 137 16) from ((hug39.2 137 16 (fun h => absurd h.2 (by decide))).trans ((hug20.2 137 16 (fun h => absurd h.2 (by decide))).trans rfl)))]; exact (mz_byte_eq ((hug39.2 137 17 (fun h => absurd h.2 (by decide))).trans rfl) (fun _j => ((hug39.2 151 _j (fun h => absurd h.1 (by decide))).trans rfl))).trans hp23.symm) ⟨3000000000, by have bq0 := mz_rd hIg39 bd_137_16; omega, hE⟩
          · skip
            replace hE := zf_in hE c73_28
            have L75 : ∀ n74 : Nat, ∀ (g72 : mz_G), (701 - g72 137 16).toNat = n74 → mz_inv g72 → mz_fr (fl_X12_stepOn_76 x) g20 g72 → (g72 137 16 ≤ g 137 17) → (g 137 16 ≤ g72 137 16) → ((g1 137 16) ≤ g72 137 16) → (g72 137 16 = (g1 137 16) → mz_byte g72 (g72 137 16) = v22) → (∃ fk : Nat, (701 - g72 137 16).toNat < fk ∧ zf_E (zF_X12_stepOn g) (zL_X12_stepOn_76 fk g72)) → mm_W d mmX12_stepOn 76 [some (.ref 137), some (.int (Int32.ofInt v22))] [] (mz_mk g72 x) Q := by
              intro n74
              induction n74 using Nat.strongRecOn with
              | ind n74 ih73 =>
              intro g72 hmn74 hIg72 hfg72 hv76 hv77 hv78 hv79 hF
              obtain ⟨fk, fl, hE⟩ := hF
              obtain ⟨fj80, rfl⟩ : ∃ fj, fk = fj + 1 := ⟨fk - 1, by omega⟩
              have fn81 : n74 ≤ fj80 := by omega
              replace hE := zf_tr hE zL_X12_stepOn_76_s
              have bz_g72_16 := mz_rd hIg72 bd_137_16
              refine mm_g 2 (pc1 := 78) (lo1 := [some (.ref 137), some (.int (Int32.ofInt v22))]) (st1 := [.ref 137, .ref 137]) (H1 := mz_mk g72 x) rfl ?_
              refine mz_fgI (v := (g72 137 16)) rfl fd_12_167 (by decide) (sc_137 _) (show g72 137 16 = (g72 137 16) from rfl) ?_
              replace hE := zf_tr hE (zf_le (show g72 137 16 = (g72 137 16) from rfl))
              have hq82 : g72 137 17 = (g 137 17) := (show g72 137 17 = (g 137 17) from ((hfg72 137 17 (fun h => (absurd (show (137 = 137 ∧ 17 = 16) from h) (by decide)))).trans ((hug20.2 137 17 (fun h => absurd h.2 (by decide))).trans ((hfg1 137 17 (fun h => (absurd (show (137 = 137 ∧ 17 = 16) from h) (by decide)))).trans rfl))))
              refine mz_cv rfl mt_12_170 (by decide) (sc_137 _) rfl (Nat.le_of_ble_eq_true rfl) (by omega) (f_X12_byteAt (by omega) hx hIg72 (by omega) (by omega) (fun v83 l_v83 u_v83 hp84 hp85 hc86 => ⟨_, rfl, ?_⟩))
              show mm_W d mmX12_stepOn 84 [some (.ref 137), some (.int (Int32.ofInt v22))] [.int (Int32.ofInt v83)] (mz_mk g72 x) Q
              replace hE := zf_t1 hE hc86
              refine mz_cs rfl mt_12_180 (by decide) rfl (Nat.le_of_ble_eq_true rfl) (by omega) (f_X12_isLetter (by omega) hx hIg72 (by omega) (by omega) (fun v87 l_v87 u_v87 hp88 hc89 => ⟨_, rfl, ?_⟩))
              show mm_W d mmX12_stepOn 87 [some (.ref 137), some (.int (Int32.ofInt v22))] [.int (Int32.ofInt v87)] (mz_mk g72 x) Q
              replace hE := zf_t1 hE hc89
              refine mz_if_eq (tgt := 103) rfl rfl (mz_rg l_v87 u_v87) (fun c87_89 => ?_) (fun c87_89 => ?_)
              · skip
                replace hE := zf_ip hE c87_89
                refine mm_g 2 (pc1 := 105) (lo1 := [some (.ref 137), some (.int (Int32.ofInt v22))]) (st1 := [.int (Int32.ofInt 1), .ref 137]) (H1 := mz_mk g72 x) rfl ?_
                refine mz_pI rfl fd_12_177 (sc_137 _) hIg72 bd_137_18 (by omega) (by omega) (fun g90 hIg90 hug90 => ?_)
                replace hE := zf_tr hE (zf_lg hug90)
                refine mz_gt (tgt := 212) rfl rfl ?_
                refine mm_g 2 (pc1 := 214) (lo1 := [some (.ref 137), some (.int (Int32.ofInt v22))]) (st1 := [.ref 137, .ref 137]) (H1 := mz_mk g90 x) rfl ?_
                refine mz_fgI (v := (g72 137 16)) rfl fd_12_167 (by decide) (sc_137 _) (show g90 137 16 = (g72 137 16) from ((hug90.2 137 16 (fun h => absurd h.2 (by decide))).trans rfl)) ?_
                replace hE := zf_tr hE (zf_le (show g90 137 16 = (g72 137 16) from ((hug90.2 137 16 (fun h => absurd h.2 (by decide))).trans rfl)))
                refine mz_pI rfl fd_12_200 (sc_137 _) hIg90 bd_137_21 (by omega) (by omega) (fun g91 hIg91 hug91 => ?_)
                replace hE := zf_tr hE (zf_lg hug91)
                exact mm_rt rfl rfl (hQ _ hIg91 (fun k j hk => ((hug91.2 k j (fun h => hk (Or.inr (Or.inr (Or.inr (Or.inl h)))))).trans ((hug90.2 k j (fun h => hk (Or.inr (Or.inr (Or.inl h))))).trans ((hfg72 k j (fun h => hk (Or.inl h))).trans ((hug20.2 k j (fun h => hk (Or.inr (Or.inl h)))).trans (hfg1 k j (fun h => hk (Or.inl h)))))))) (by have h90 := (show g91 137 16 = (g72 137 16) from ((hug91.2 137 16 (fun h => absurd h.2 (by decide))).trans ((hug90.2 137 16 (fun h => absurd h.2 (by decide))).trans rfl))); have h91 := (show g91 137 17 = (g 137 17) from ((hug91.2 137 17 (fun h => absurd h.2 (by decide))).trans ((hug90.2 137 17 (fun h => absurd h.2 (by decide))).trans ((hfg72 137 17 (fun h => (absurd (show (137 = 137 ∧ 17 = 16) from h) (by decide)))).trans ((hug20.2 137 17 (fun h => absurd h.2 (by decide))).trans ((hfg1 137 17 (fun h => (absurd (show (137 = 137 ∧ 17 = 16) from h) (by decide)))).trans rfl)))))); have h92 := (show g91 137 18 = 1 from ((hug91.2 137 18 (fun h => absurd h.2 (by decide))).trans hug90.1)); have h93 := (show g91 137 20 = (g1 137 16) from ((hug91.2 137 20 (fun h => absurd h.2 (by decide))).trans ((hug90.2 137 20 (fun h => absurd h.2 (by decide))).trans ((hfg72 137 20 (fun h => (absurd (show (137 = 137 ∧ 20 = 16) from h) (by decide)))).trans hug20.1)))); have h94 := (show g91 137 21 = (g72 137 16) from hug91.1); have h95 := (show g91 137 22 = (g 137 22) from ((hug91.2 137 22 (fun h => absurd h.2 (by decide))).trans ((hug90.2 137 22 (fun h => absurd h.2 (by decide))).trans ((hfg72 137 22 (fun h => (absurd (show (137 = 137 ∧ 22 = 16) from h) (by decide)))).trans ((hug20.2 137 22 (fun h => absurd h.2 (by decide))).trans ((hfg1 137 22 (fun h => (absurd (show (137 = 137 ∧ 22 = 16) from h) (by decide)))).trans rfl)))))); omega) (by have h90 := (show g91 137 16 = (g72 137 16) from ((hug91.2 137 16 (fun h => absurd h.2 (by decide))).trans ((hug90.2 137 16 (fun h => absurd h.2 (by decide))).trans rfl))); have h91 := (show g91 137 17 = (g 137 17) from ((hug91.2 137 17 (fun h => absurd h.2 (by decide))).trans ((hug90.2 137 17 (fun h => absurd h.2 (by decide))).trans ((hfg72 137 17 (fun h => (absurd (show (137 = 137 ∧ 17 = 16) from h) (by decide)))).trans ((hug20.2 137 17 (fun h => absurd h.2 (by decide))).trans ((hfg1 137 17 (fun h => (absurd (show (137 = 137 ∧ 17 = 16) from h) (by decide)))).trans rfl)))))); have h92 := (show g91 137 18 = 1 from ((hug91.2 137 18 (fun h => absurd h.2 (by decide))).trans hug90.1)); have h93 := (show g91 137 20 = (g1 137 16) from ((hug91.2 137 20 (fun h => absurd h.2 (by decide))).trans ((hug90.2 137 20 (fun h => absurd h.2 (by decide))).trans ((hfg72 137 20 (fun h => (absurd (show (137 = 137 ∧ 20 = 16) from h) (by decide)))).trans hug20.1)))); have h94 := (show g91 137 21 = (g72 137 16) from hug91.1); have h95 := (show g91 137 22 = (g 137 22) from ((hug91.2 137 22 (fun h => absurd h.2 (by decide))).trans ((hug90.2 137 22 (fun h => absurd h.2 (by decide))).trans ((hfg72 137 22 (fun h => (absurd (show (137 = 137 ∧ 22 = 16) from h) (by decide)))).trans ((hug20.2 137 22 (fun h => absurd h.2 (by decide))).trans ((hfg1 137 22 (fun h => (absurd (show (137 = 137 ∧ 22 = 16) from h) (by decide)))).trans rfl)))))); omega) hE)
              · skip
                replace hE := zf_in hE c87_89
                refine mm_g 2 (pc1 := 92) (lo1 := [some (.ref 137), some (.int (Int32.ofInt v22))]) (st1 := [.ref 137, .ref 137]) (H1 := mz_mk g72 x) rfl ?_
                refine mz_fgI (v := (g72 137 16)) rfl fd_12_167 (by decide) (sc_137 _) (show g72 137 16 = (g72 137 16) from rfl) ?_
                replace hE := zf_tr hE (zf_le (show g72 137 16 = (g72 137 16) from rfl))
                refine mm_g 1 (pc1 := 96) (lo1 := [some (.ref 137), some (.int (Int32.ofInt v22))]) (st1 := [.int (Int32.ofInt 1), .int (Int32.ofInt (g72 137 16)), .ref 137]) (H1 := mz_mk g72 x) rfl ?_
                refine mz_iadd rfl ?_
                refine mz_pI rfl fd_12_167 (sc_137 _) hIg72 bd_137_16 (by omega) (by omega) (fun g92 hIg92 hug92 => ?_)
                replace hE := zf_tr hE (zf_lg hug92)
                refine mz_gt (tgt := 76) rfl rfl ?_
                exact ih73 ((701 - g92 137 16).toNat) (by have h9 := (show g92 137 16 = ((g72 137 16) + 1) from hug92.1); omega) g92 rfl hIg92 (fun k j hk => ((hug92.2 k j (fun h => hk h)).trans (hfg72 k j (fun h => hk h)))) (by have h90 := (show g92 137 16 = ((g72 137 16) + 1) from hug92.1); omega) (by have h90 := (show g92 137 16 = ((g72 137 16) + 1) from hug92.1); omega) (by have h90 := (show g92 137 16 = ((g72 137 16) + 1) from hug92.1); omega) (by intro hz; exfalso; have h90 := (show g92 137 16 = ((g72 137 16) + 1) from hug92.1); omega) ⟨fj80, Nat.lt_of_lt_of_le (show ((701 - g92 137 16).toNat) < n74 from (by have h9 := (show g92 137 16 = ((g72 137 16) + 1) from hug92.1); omega)) fn81, hE⟩
            exact L75 _ g20 rfl hIg20 (fun _ _ _ => rfl) (by have h90 := (show g20 137 16 = (g1 137 16) from ((hug20.2 137 16 (fun h => absurd h.2 (by decide))).trans rfl)); omega) (by have h90 := (show g20 137 16 = (g1 137 16) from ((hug20.2 137 16 (fun h => absurd h.2 (by decide))).trans rfl)); omega) (by have h90 := (show g20 137 16 = (g1 137 16) from ((hug20.2 137 16 (fun h => absurd h.2 (by decide))).trans rfl)); omega) (by intro _; rw [show g20 137 16 = (g1 137 16) from (show g20 137 16 = (g1 137 16) from ((hug20.2 137 16 (fun h => absurd h.2 (by decide))).trans rfl))]; exact (mz_byte_eq rfl (fun _j => rfl)).trans hp23.symm) ⟨3000000000, by have bq0 := mz_rd hIg20 bd_137_16; omega, hE⟩
        · skip
          replace hE := zf_ip hE c58_25
          refine mm_g 2 (pc1 := 63) (lo1 := [some (.ref 137), some (.int (Int32.ofInt v22))]) (st1 := [.int (Int32.ofInt 0), .ref 137]) (H1 := mz_mk g20 x) rfl ?_
          refine mz_pI rfl fd_12_177 (sc_137 _) hIg20 bd_137_18 (by omega) (by omega) (fun g93 hIg93 hug93 => ?_)
          replace hE := zf_tr hE (zf_lg hug93)
          refine mz_gt (tgt := 212) rfl rfl ?_
          refine mm_g 2 (pc1 := 214) (lo1 := [some (.ref 137), some (.int (Int32.ofInt v22))]) (st1 := [.ref 137, .ref 137]) (H1 := mz_mk g93 x) rfl ?_
          refine mz_fgI (v := (g1 137 16)) rfl fd_12_167 (by decide) (sc_137 _) (show g93 137 16 = (g1 137 16) from ((hug93.2 137 16 (fun h => absurd h.2 (by decide))).trans ((hug20.2 137 16 (fun h => absurd h.2 (by decide))).trans rfl))) ?_
          replace hE := zf_tr hE (zf_le (show g93 137 16 = (g1 137 16) from ((hug93.2 137 16 (fun h => absurd h.2 (by decide))).trans ((hug20.2 137 16 (fun h => absurd h.2 (by decide))).trans rfl))))
          refine mz_pI rfl fd_12_200 (sc_137 _) hIg93 bd_137_21 (by omega) (by omega) (fun g94 hIg94 hug94 => ?_)
          replace hE := zf_tr hE (zf_lg hug94)
          exact mm_rt rfl rfl (hQ _ hIg94 (fun k j hk => ((hug94.2 k j (fun h => hk (Or.inr (Or.inr (Or.inr (Or.inl h)))))).trans ((hug93.2 k j (fun h => hk (Or.inr (Or.inr (Or.inl h))))).trans ((hug20.2 k j (fun h => hk (Or.inr (Or.inl h)))).trans (hfg1 k j (fun h => hk (Or.inl h))))))) (by have h90 := (show g94 137 16 = (g1 137 16) from ((hug94.2 137 16 (fun h => absurd h.2 (by decide))).trans ((hug93.2 137 16 (fun h => absurd h.2 (by decide))).trans ((hug20.2 137 16 (fun h => absurd h.2 (by decide))).trans rfl)))); have h91 := (show g94 137 17 = (g 137 17) from ((hug94.2 137 17 (fun h => absurd h.2 (by decide))).trans ((hug93.2 137 17 (fun h => absurd h.2 (by decide))).trans ((hug20.2 137 17 (fun h => absurd h.2 (by decide))).trans ((hfg1 137 17 (fun h => (absurd (show (137 = 137 ∧ 17 = 16) from h) (by decide)))).trans rfl))))); have h92 := (show g94 137 18 = 0 from ((hug94.2 137 18 (fun h => absurd h.2 (by decide))).trans hug93.1)); have h93 := (show g94 137 20 = (g1 137 16) from ((hug94.2 137 20 (fun h => absurd h.2 (by decide))).trans ((hug93.2 137 20 (fun h => absurd h.2 (by decide))).trans hug20.1))); have h94 := (show g94 137 21 = (g1 137 16) from hug94.1); have h95 := (show g94 137 22 = (g 137 22) from ((hug94.2 137 22 (fun h => absurd h.2 (by decide))).trans ((hug93.2 137 22 (fun h => absurd h.2 (by decide))).trans ((hug20.2 137 22 (fun h => absurd h.2 (by decide))).trans ((hfg1 137 22 (fun h => (absurd (show (137 = 137 ∧ 22 = 16) from h) (by decide)))).trans rfl))))); omega) (by have h90 := (show g94 137 16 = (g1 137 16) from ((hug94.2 137 16 (fun h => absurd h.2 (by decide))).trans ((hug93.2 137 16 (fun h => absurd h.2 (by decide))).trans ((hug20.2 137 16 (fun h => absurd h.2 (by decide))).trans rfl)))); have h91 := (show g94 137 17 = (g 137 17) from ((hug94.2 137 17 (fun h => absurd h.2 (by decide))).trans ((hug93.2 137 17 (fun h => absurd h.2 (by decide))).trans ((hug20.2 137 17 (fun h => absurd h.2 (by decide))).trans ((hfg1 137 17 (fun h => (absurd (show (137 = 137 ∧ 17 = 16) from h) (by decide)))).trans rfl))))); have h92 := (show g94 137 18 = 0 from ((hug94.2 137 18 (fun h => absurd h.2 (by decide))).trans hug93.1)); have h93 := (show g94 137 20 = (g1 137 16) from ((hug94.2 137 20 (fun h => absurd h.2 (by decide))).trans ((hug93.2 137 20 (fun h => absurd h.2 (by decide))).trans hug20.1))); have h94 := (show g94 137 21 = (g1 137 16) from hug94.1); have h95 := (show g94 137 22 = (g 137 22) from ((hug94.2 137 22 (fun h => absurd h.2 (by decide))).trans ((hug93.2 137 22 (fun h => absurd h.2 (by decide))).trans ((hug20.2 137 22 (fun h => absurd h.2 (by decide))).trans ((hfg1 137 22 (fun h => (absurd (show (137 = 137 ∧ 22 = 16) from h) (by decide)))).trans rfl))))); omega) hE)
      · skip
        replace hE := zf_ip hE c23_19
        refine mm_g 2 (pc1 := 28) (lo1 := [some (.ref 137), none]) (st1 := [.ref 137, .ref 137]) (H1 := mz_mk g1 x) rfl ?_
        refine mz_fgI (v := (g1 137 16)) rfl fd_12_167 (by decide) (sc_137 _) (show g1 137 16 = (g1 137 16) from rfl) ?_
        replace hE := zf_tr hE (zf_le (show g1 137 16 = (g1 137 16) from rfl))
        refine mm_g 1 (pc1 := 32) (lo1 := [some (.ref 137), none]) (st1 := [.int (Int32.ofInt 1), .int (Int32.ofInt (g1 137 16)), .ref 137]) (H1 := mz_mk g1 x) rfl ?_
        refine mz_iadd rfl ?_
        refine mz_pI rfl fd_12_167 (sc_137 _) hIg1 bd_137_16 (by omega) (by omega) (fun g95 hIg95 hug95 => ?_)
        replace hE := zf_tr hE (zf_lg hug95)
        refine mz_gt (tgt := 0) rfl rfl ?_
        exact ih2 ((701 - g95 137 16).toNat) (by have h9 := (show g95 137 16 = ((g1 137 16) + 1) from hug95.1); omega) g95 rfl hIg95 (fun k j hk => ((hug95.2 k j (fun h => hk h)).trans (hfg1 k j (fun h => hk h)))) (by have h90 := (show g95 137 16 = ((g1 137 16) + 1) from hug95.1); omega) (by have h90 := (show g95 137 16 = ((g1 137 16) + 1) from hug95.1); omega) ⟨fj7, Nat.lt_of_lt_of_le (show ((701 - g95 137 16).toNat) < n3 from (by have h9 := (show g95 137 16 = ((g1 137 16) + 1) from hug95.1); omega)) fn8, hE⟩
  exact L4 _ g rfl hI (fun _ _ _ => rfl) (by omega) (by omega) ⟨3000000000, by have bq0 := mz_rd hI bd_137_16; omega, hE⟩
def fw_X12_wrong (x : mm_X) (a1 : Int) : Nat → Nat → Prop := fun k j => (k = 137 ∧ j = 22) ∨ (k = 137 ∧ j = 23)
theorem f_X12_wrong {d : Nat} (hd : 1 ≤ d) {x : mm_X} (hx : mk_x x) {g : mz_G} (hI : mz_inv g) {a1 : Int} (l_a1 : 1 ≤ a1) (u_a1 : a1 ≤ 5) {Q : (Option Value ⊕ Nat) → mm_H → Prop} (hQ : ∀ (g1 : mz_G), mz_inv g1 → mz_fr (fw_X12_wrong x a1) g g1 → (g1 137 22 ≠ 0) → (g 137 22 ≠ 0 → g1 137 22 = g 137 22) → zf_E (zF_X12_wrong a1 g) (g1) → Q (.inl none) (mz_mk g1 x)) : mm_C d 194 [.ref 137, .int (Int32.ofInt a1)] (mz_mk g x) Q := by
  refine ⟨mmX12_wrong, [some (.ref 137), some (.int (Int32.ofInt a1))], rfl, rfl, ?_⟩
  have bz0 := mz_rd hI bd_137_22
  have hE : zf_E (zF_X12_wrong a1 g) (zF_X12_wrong a1 g) := zf_rf
  refine mm_g 1 (pc1 := 1) (lo1 := [some (.ref 137), some (.int (Int32.ofInt a1))]) (st1 := [.ref 137]) (H1 := mz_mk g x) rfl ?_
  refine mz_fgI (v := (g 137 22)) rfl fd_12_203 (by decide) (sc_137 _) (show g 137 22 = (g 137 22) from rfl) ?_
  replace hE := zf_tr hE (zf_le (show g 137 22 = (g 137 22) from rfl))
  refine mz_if_eq (tgt := 8) rfl rfl ⟨by omega, by omega⟩ (fun c4_0 => ?_) (fun c4_0 => ?_)
  · skip
    replace hE := zf_ip hE c4_0
    refine mm_g 2 (pc1 := 10) (lo1 := [some (.ref 137), some (.int (Int32.ofInt a1))]) (st1 := [.int (Int32.ofInt a1), .ref 137]) (H1 := mz_mk g x) rfl ?_
    refine mz_pI rfl fd_12_203 (sc_137 _) hI bd_137_22 (by omega) (by omega) (fun g1 hIg1 hug1 => ?_)
    replace hE := zf_tr hE (zf_lg hug1)
    refine mm_g 2 (pc1 := 15) (lo1 := [some (.ref 137), some (.int (Int32.ofInt a1))]) (st1 := [.ref 137, .ref 137]) (H1 := mz_mk g1 x) rfl ?_
    refine mz_gI rfl fd_12_174 (by decide) (sc_137 _) hIg1 bd_137_20 (fun v2 e_v2 l_v2 u_v2 => ?_)
    replace hE := zf_tr hE (zf_le e_v2)
    refine mz_pI rfl fd_12_206 (sc_137 _) hIg1 bd_137_23 (by omega) (by omega) (fun g3 hIg3 hug3 => ?_)
    replace hE := zf_tr hE (zf_lg hug3)
    exact mm_rt rfl rfl (hQ _ hIg3 (fun k j hk => ((hug3.2 k j (fun h => hk (Or.inr h))).trans (hug1.2 k j (fun h => hk (Or.inl h))))) (by have h90 := (show g3 137 22 = a1 from ((hug3.2 137 22 (fun h => absurd h.2 (by decide))).trans hug1.1)); omega) (by have h90 := (show g3 137 22 = a1 from ((hug3.2 137 22 (fun h => absurd h.2 (by decide))).trans hug1.1)); omega) hE)
  · skip
    replace hE := zf_in hE c4_0
    exact mm_rt rfl rfl (hQ _ hI (fun _ _ _ => rfl) (by omega) (by omega) hE)
theorem f_X12_is {d : Nat} (hd : 5 ≤ d) {x : mm_X} (hx : mk_x x) {g : mz_G} (hI : mz_inv g) {q1 : Nat} (h_q1 : q1 < 28) (p1 : g 137 20 ≤ g 137 16 ∧ g 137 21 = g 137 16 ∧ g 137 16 ≤ g 137 17 ∧ (g 137 18 ≠ 0 → g 137 20 < g 137 16)) {Q : (Option Value ⊕ Nat) → mm_H → Prop} (hQ : ∀ (r : Int), 0 ≤ r → r ≤ 1 → (r = 1 → g 137 22 = 0 ∧ g 137 18 = 1) → zf_E (zF_X12_is q1 g) (r) → Q (.inl (some (.int (Int32.ofInt r)))) (mz_mk g x)) : mm_C d 195 [.ref 137, .ref (1000 + q1)] (mz_mk g x) Q := by
  refine ⟨mmX12_is, [some (.ref 137), some (.ref (1000 + q1)), none, none], rfl, rfl, ?_⟩
  have bz0 := mz_rd hI bd_137_16
  have bz1 := mz_rd hI bd_137_17
  have bz2 := mz_rd hI bd_137_18
  have bz3 := mz_rd hI bd_137_20
  have bz4 := mz_rd hI bd_137_21
  have bz5 := mz_rd hI bd_137_22
  have hE : zf_E (zF_X12_is q1 g) (zF_X12_is q1 g) := zf_rf
  refine mm_g 1 (pc1 := 1) (lo1 := [some (.ref 137), some (.ref (1000 + q1)), none, none]) (st1 := [.ref 137]) (H1 := mz_mk g x) rfl ?_
  refine mz_fgI (v := (g 137 22)) rfl fd_12_203 (by decide) (sc_137 _) (show g 137 22 = (g 137 22) from rfl) ?_
  replace hE := zf_tr hE (zf_le (show g 137 22 = (g 137 22) from rfl))
  refine mz_if_ne (tgt := 35) rfl rfl ⟨by omega, by omega⟩ (fun c4_0 => ?_) (fun c4_0 => ?_)
  · skip
    replace hE := zf_in hE c4_0
    refine mm_g 4 (pc1 := 39) (lo1 := [some (.ref 137), some (.ref (1000 + q1)), some (.int (Int32.ofInt 0)), some (.int (Int32.ofInt 0))]) (st1 := []) (H1 := mz_mk g x) rfl ?_
    have L6 : ∀ n5 : Nat, ∀ (v1 : Int) (v2 : Int), (0 : Nat) = n5 → 0 ≤ v1 → v1 ≤ 0 → 0 ≤ v2 → v2 ≤ 0 → (∃ fk : Nat, (0 : Nat) < fk ∧ zf_E (zF_X12_is q1 g) (zL_X12_is_39 q1 g fk v1 v2)) → mm_W d mmX12_is 39 [some (.ref 137), some (.ref (1000 + q1)), some (.int (Int32.ofInt v1)), some (.int (Int32.ofInt v2))] [] (mz_mk g x) Q := by
      intro n5
      induction n5 using Nat.strongRecOn with
      | ind n5 ih4 =>
      intro v1 v2 hmn5 l_v1 u_v1 l_v2 u_v2 hF
      obtain ⟨fk, fl, hE⟩ := hF
      obtain ⟨fj7, rfl⟩ : ∃ fj, fk = fj + 1 := ⟨fk - 1, by omega⟩
      have fn8 : n5 ≤ fj7 := by omega
      replace hE := zf_tr hE zL_X12_is_39_s
      refine mm_g 1 (pc1 := 40) (lo1 := [some (.ref 137), some (.ref (1000 + q1)), some (.int (Int32.ofInt v1)), some (.int (Int32.ofInt v2))]) (st1 := [.int (Int32.ofInt v1)]) (H1 := mz_mk g x) rfl ?_
      refine mz_if_eq (tgt := 82) rfl rfl (mz_rg l_v1 u_v1) (fun c40_8 => ?_) (fun c40_8 => ?_)
      · skip
        replace hE := zf_ip hE c40_8
        refine mm_g 1 (pc1 := 83) (lo1 := [some (.ref 137), some (.ref (1000 + q1)), some (.int (Int32.ofInt v1)), some (.int (Int32.ofInt v2))]) (st1 := [.int (Int32.ofInt v1)]) (H1 := mz_mk g x) rfl ?_
        exact mz_rtZ rfl (by decide) (by omega) (hQ _ (by omega) (by omega) (by omega) hE)
      · exfalso; omega
    exact L6 _ 0 0 rfl (by decide) (by decide) (by decide) (by decide) ⟨3000000000, by omega, hE⟩
  · skip
    replace hE := zf_ip hE c4_0
    refine mm_g 1 (pc1 := 8) (lo1 := [some (.ref 137), some (.ref (1000 + q1)), none, none]) (st1 := [.ref 137]) (H1 := mz_mk g x) rfl ?_
    refine mz_fgI (v := (g 137 18)) rfl fd_12_177 (by decide) (sc_137 _) (show g 137 18 = (g 137 18) from rfl) ?_
    replace hE := zf_tr hE (zf_le (show g 137 18 = (g 137 18) from rfl))
    refine mm_g 1 (pc1 := 12) (lo1 := [some (.ref 137), some (.ref (1000 + q1)), none, none]) (st1 := [.int (Int32.ofInt 1), .int (Int32.ofInt (g 137 18))]) (H1 := mz_mk g x) rfl ?_
    refine mz_ic_ne (tgt := 35) rfl rfl ⟨by omega, by omega⟩ ⟨by decide, by decide⟩ (fun c12_8 => ?_) (fun c12_8 => ?_)
    · skip
      replace hE := zf_in hE c12_8
      refine mm_g 4 (pc1 := 39) (lo1 := [some (.ref 137), some (.ref (1000 + q1)), some (.int (Int32.ofInt 0)), some (.int (Int32.ofInt 0))]) (st1 := []) (H1 := mz_mk g x) rfl ?_
      have L14 : ∀ n13 : Nat, ∀ (v9 : Int) (v10 : Int), (0 : Nat) = n13 → 0 ≤ v9 → v9 ≤ 0 → 0 ≤ v10 → v10 ≤ 0 → (∃ fk : Nat, (0 : Nat) < fk ∧ zf_E (zF_X12_is q1 g) (zL_X12_is_39 q1 g fk v9 v10)) → mm_W d mmX12_is 39 [some (.ref 137), some (.ref (1000 + q1)), some (.int (Int32.ofInt v9)), some (.int (Int32.ofInt v10))] [] (mz_mk g x) Q := by
        intro n13
        induction n13 using Nat.strongRecOn with
        | ind n13 ih12 =>
        intro v9 v10 hmn13 l_v9 u_v9 l_v10 u_v10 hF
        obtain ⟨fk, fl, hE⟩ := hF
        obtain ⟨fj15, rfl⟩ : ∃ fj, fk = fj + 1 := ⟨fk - 1, by omega⟩
        have fn16 : n13 ≤ fj15 := by omega
        replace hE := zf_tr hE zL_X12_is_39_s
        refine mm_g 1 (pc1 := 40) (lo1 := [some (.ref 137), some (.ref (1000 + q1)), some (.int (Int32.ofInt v9)), some (.int (Int32.ofInt v10))]) (st1 := [.int (Int32.ofInt v9)]) (H1 := mz_mk g x) rfl ?_
        refine mz_if_eq (tgt := 82) rfl rfl (mz_rg l_v9 u_v9) (fun c40_16 => ?_) (fun c40_16 => ?_)
        · skip
          replace hE := zf_ip hE c40_16
          refine mm_g 1 (pc1 := 83) (lo1 := [some (.ref 137), some (.ref (1000 + q1)), some (.int (Int32.ofInt v9)), some (.int (Int32.ofInt v10))]) (st1 := [.int (Int32.ofInt v9)]) (H1 := mz_mk g x) rfl ?_
          exact mz_rtZ rfl (by decide) (by omega) (hQ _ (by omega) (by omega) (by omega) hE)
        · exfalso; omega
      exact L14 _ 0 0 rfl (by decide) (by decide) (by decide) (by decide) ⟨3000000000, by omega, hE⟩
    · skip
      replace hE := zf_ip hE c12_8
      refine mm_g 1 (pc1 := 16) (lo1 := [some (.ref 137), some (.ref (1000 + q1)), none, none]) (st1 := [.ref (1000 + q1)]) (H1 := mz_mk g x) rfl ?_
      refine mz_cv rfl mt_12_209 (by decide) (kc_str h_q1 _) rfl (Nat.le_of_ble_eq_true rfl) (by omega) (f_J0_length (by omega) hx hI h_q1 (fun v17 l_v17 u_v17 hp18 hc19 => ⟨_, rfl, ?_⟩))
      show mm_W d mmX12_is 19 [some (.ref 137), some (.ref (1000 + q1)), none, none] [.int (Int32.ofInt v17)] (mz_mk g x) Q
      replace hE := zf_t1 hE hc19
      refine mm_g 1 (pc1 := 20) (lo1 := [some (.ref 137), some (.ref (1000 + q1)), none, none]) (st1 := [.ref 137, .int (Int32.ofInt v17)]) (H1 := mz_mk g x) rfl ?_
      refine mz_fgI (v := (g 137 21)) rfl fd_12_200 (by decide) (sc_137 _) (show g 137 21 = (g 137 21) from rfl) ?_
      replace hE := zf_tr hE (zf_le (show g 137 21 = (g 137 21) from rfl))
      refine mm_g 1 (pc1 := 24) (lo1 := [some (.ref 137), some (.ref (1000 + q1)), none, none]) (st1 := [.ref 137, .int (Int32.ofInt (g 137 21)), .int (Int32.ofInt v17)]) (H1 := mz_mk g x) rfl ?_
      refine mz_fgI (v := (g 137 20)) rfl fd_12_174 (by decide) (sc_137 _) (show g 137 20 = (g 137 20) from rfl) ?_
      replace hE := zf_tr hE (zf_le (show g 137 20 = (g 137 20) from rfl))
      refine mz_isub rfl ?_
      refine mz_ic_ne (tgt := 35) rfl rfl (mz_rg l_v17 u_v17) ⟨by omega, by omega⟩ (fun c28_19 => ?_) (fun c28_19 => ?_)
      · skip
        replace hE := zf_in hE c28_19
        refine mm_g 4 (pc1 := 39) (lo1 := [some (.ref 137), some (.ref (1000 + q1)), some (.int (Int32.ofInt 0)), some (.int (Int32.ofInt 0))]) (st1 := []) (H1 := mz_mk g x) rfl ?_
        have L25 : ∀ n24 : Nat, ∀ (v20 : Int) (v21 : Int), (0 : Nat) = n24 → 0 ≤ v20 → v20 ≤ 0 → 0 ≤ v21 → v21 ≤ 0 → (∃ fk : Nat, (0 : Nat) < fk ∧ zf_E (zF_X12_is q1 g) (zL_X12_is_39 q1 g fk v20 v21)) → mm_W d mmX12_is 39 [some (.ref 137), some (.ref (1000 + q1)), some (.int (Int32.ofInt v20)), some (.int (Int32.ofInt v21))] [] (mz_mk g x) Q := by
          intro n24
          induction n24 using Nat.strongRecOn with
          | ind n24 ih23 =>
          intro v20 v21 hmn24 l_v20 u_v20 l_v21 u_v21 hF
          obtain ⟨fk, fl, hE⟩ := hF
          obtain ⟨fj26, rfl⟩ : ∃ fj, fk = fj + 1 := ⟨fk - 1, by omega⟩
          have fn27 : n24 ≤ fj26 := by omega
          replace hE := zf_tr hE zL_X12_is_39_s
          refine mm_g 1 (pc1 := 40) (lo1 := [some (.ref 137), some (.ref (1000 + q1)), some (.int (Int32.ofInt v20)), some (.int (Int32.ofInt v21))]) (st1 := [.int (Int32.ofInt v20)]) (H1 := mz_mk g x) rfl ?_
          refine mz_if_eq (tgt := 82) rfl rfl (mz_rg l_v20 u_v20) (fun c40_27 => ?_) (fun c40_27 => ?_)
          · skip
            replace hE := zf_ip hE c40_27
            refine mm_g 1 (pc1 := 83) (lo1 := [some (.ref 137), some (.ref (1000 + q1)), some (.int (Int32.ofInt v20)), some (.int (Int32.ofInt v21))]) (st1 := [.int (Int32.ofInt v20)]) (H1 := mz_mk g x) rfl ?_
            exact mz_rtZ rfl (by decide) (by omega) (hQ _ (by omega) (by omega) (by omega) hE)
          · exfalso; omega
        exact L25 _ 0 0 rfl (by decide) (by decide) (by decide) (by decide) ⟨3000000000, by omega, hE⟩
      · skip
        replace hE := zf_ip hE c28_19
        refine mm_g 1 (pc1 := 32) (lo1 := [some (.ref 137), some (.ref (1000 + q1)), none, none]) (st1 := [.int (Int32.ofInt 1)]) (H1 := mz_mk g x) rfl ?_
        refine mz_gt (tgt := 36) rfl rfl ?_
        refine mm_g 3 (pc1 := 39) (lo1 := [some (.ref 137), some (.ref (1000 + q1)), some (.int (Int32.ofInt 1)), some (.int (Int32.ofInt 0))]) (st1 := []) (H1 := mz_mk g x) rfl ?_
        have L33 : ∀ n32 : Nat, ∀ (v28 : Int) (v29 : Int), (100 - v29).toNat = n32 → 0 ≤ v28 → v28 ≤ 1 → 0 ≤ v29 → v29 ≤ 100 → (∃ fk : Nat, (100 - v29).toNat < fk ∧ zf_E (zF_X12_is q1 g) (zL_X12_is_39 q1 g fk v28 v29)) → mm_W d mmX12_is 39 [some (.ref 137), some (.ref (1000 + q1)), some (.int (Int32.ofInt v28)), some (.int (Int32.ofInt v29))] [] (mz_mk g x) Q := by
          intro n32
          induction n32 using Nat.strongRecOn with
          | ind n32 ih31 =>
          intro v28 v29 hmn32 l_v28 u_v28 l_v29 u_v29 hF
          obtain ⟨fk, fl, hE⟩ := hF
          obtain ⟨fj34, rfl⟩ : ∃ fj, fk = fj + 1 := ⟨fk - 1, by omega⟩
          have fn35 : n32 ≤ fj34 := by omega
          replace hE := zf_tr hE zL_X12_is_39_s
          refine mm_g 1 (pc1 := 40) (lo1 := [some (.ref 137), some (.ref (1000 + q1)), some (.int (Int32.ofInt v28)), some (.int (Int32.ofInt v29))]) (st1 := [.int (Int32.ofInt v28)]) (H1 := mz_mk g x) rfl ?_
          refine mz_if_eq (tgt := 82) rfl rfl (mz_rg l_v28 u_v28) (fun c40_35 => ?_) (fun c40_35 => ?_)
          · skip
            replace hE := zf_ip hE c40_35
            refine mm_g 1 (pc1 := 83) (lo1 := [some (.ref 137), some (.ref (1000 + q1)), some (.int (Int32.ofInt v28)), some (.int (Int32.ofInt v29))]) (st1 := [.int (Int32.ofInt v28)]) (H1 := mz_mk g x) rfl ?_
            exact mz_rtZ rfl (by decide) (by omega) (hQ _ (by omega) (by omega) (by omega) hE)
          · skip
            replace hE := zf_in hE c40_35
            refine mm_g 2 (pc1 := 45) (lo1 := [some (.ref 137), some (.ref (1000 + q1)), some (.int (Int32.ofInt v28)), some (.int (Int32.ofInt v29))]) (st1 := [.ref (1000 + q1), .int (Int32.ofInt v29)]) (H1 := mz_mk g x) rfl ?_
            refine mz_cv rfl mt_12_209 (by decide) (kc_str h_q1 _) rfl (Nat.le_of_ble_eq_true rfl) (by omega) (f_J0_length (by omega) hx hI h_q1 (fun v36 l_v36 u_v36 hp37 hc38 => ⟨_, rfl, ?_⟩))
            show mm_W d mmX12_is 48 [some (.ref 137), some (.ref (1000 + q1)), some (.int (Int32.ofInt v28)), some (.int (Int32.ofInt v29))] [.int (Int32.ofInt v36), .int (Int32.ofInt v29)] (mz_mk g x) Q
            replace hE := zf_t1 hE hc38
            refine mz_ic_ge (tgt := 82) rfl rfl (mz_rg l_v29 u_v29) (mz_rg l_v36 u_v36) (fun c48_38 => ?_) (fun c48_38 => ?_)
            · skip
              replace hE := zf_nl hE c48_38
              refine mm_g 1 (pc1 := 83) (lo1 := [some (.ref 137), some (.ref (1000 + q1)), some (.int (Int32.ofInt v28)), some (.int (Int32.ofInt v29))]) (st1 := [.int (Int32.ofInt v28)]) (H1 := mz_mk g x) rfl ?_
              exact mz_rtZ rfl (by decide) (by omega) (hQ _ (by omega) (by omega) (by omega) hE)
            · skip
              replace hE := zf_ip hE c48_38
              refine mm_g 2 (pc1 := 53) (lo1 := [some (.ref 137), some (.ref (1000 + q1)), some (.int (Int32.ofInt v28)), some (.int (Int32.ofInt v29))]) (st1 := [.int (Int32.ofInt v29), .ref (1000 + q1)]) (H1 := mz_mk g x) rfl ?_
              refine mz_cv rfl mt_12_213 (by decide) (kc_str h_q1 _) rfl (Nat.le_of_ble_eq_true rfl) (by omega) (f_J0_charAt (by omega) hx hI h_q1 (by omega) (by omega) (by omega) (fun v39 l_v39 u_v39 hc40 => ⟨_, rfl, ?_⟩))
              show mm_W d mmX12_is 56 [some (.ref 137), some (.ref (1000 + q1)), some (.int (Int32.ofInt v28)), some (.int (Int32.ofInt v29))] [.int (Int32.ofInt v39)] (mz_mk g x) Q
              replace hE := zf_t1 hE hc40
              refine mm_g 1 (pc1 := 57) (lo1 := [some (.ref 137), some (.ref (1000 + q1)), some (.int (Int32.ofInt v28)), some (.int (Int32.ofInt v29))]) (st1 := [.ref 137, .int (Int32.ofInt v39)]) (H1 := mz_mk g x) rfl ?_
              refine mz_fgR (v := 151) rfl fd_12_69 (by decide) (sc_137 _) (rf_137_14 _ _ _) ?_
              refine mm_g 1 (pc1 := 61) (lo1 := [some (.ref 137), some (.ref (1000 + q1)), some (.int (Int32.ofInt v28)), some (.int (Int32.ofInt v29))]) (st1 := [.ref 137, .ref 151, .int (Int32.ofInt v39)]) (H1 := mz_mk g x) rfl ?_
              refine mz_fgI (v := (g 137 20)) rfl fd_12_174 (by decide) (sc_137 _) (show g 137 20 = (g 137 20) from rfl) ?_
              replace hE := zf_tr hE (zf_le (show g 137 20 = (g 137 20) from rfl))
              refine mm_g 1 (pc1 := 65) (lo1 := [some (.ref 137), some (.ref (1000 + q1)), some (.int (Int32.ofInt v28)), some (.int (Int32.ofInt v29))]) (st1 := [.int (Int32.ofInt v29), .int (Int32.ofInt (g 137 20)), .ref 151, .int (Int32.ofInt v39)]) (H1 := mz_mk g x) rfl ?_
              refine mz_iadd rfl ?_
              refine mz_aI rfl (sh_151 _) (by omega) (by omega) (by decide) hI (ba_151 _) (fun v41 e_v41 l_v41 u_v41 => ?_)
              replace hE := zf_tr hE (zf_le e_v41)
              refine mz_ic_ne (tgt := 74) rfl rfl (mz_rg l_v39 u_v39) (mz_rg l_v41 u_v41) (fun c67_41 => ?_) (fun c67_41 => ?_)
              · skip
                replace hE := zf_in hE c67_41
                refine mm_g 2 (pc1 := 76) (lo1 := [some (.ref 137), some (.ref (1000 + q1)), some (.int (Int32.ofInt 0)), some (.int (Int32.ofInt v29))]) (st1 := []) (H1 := mz_mk g x) rfl ?_
                refine mz_iincR (v := v29) (lo2 := [some (.ref 137), some (.ref (1000 + q1)), some (.int (Int32.ofInt 0)), some (.int (Int32.ofInt (v29 + 1)))]) rfl rfl rfl (Nat.le_of_ble_eq_true rfl) rfl ?_
                refine mz_gt (tgt := 39) rfl rfl ?_
                exact ih31 ((100 - (v29 + 1)).toNat) (by omega) 0 (v29 + 1) rfl (by decide) (by decide) (by omega) (by omega) ⟨fj34, Nat.lt_of_lt_of_le (show ((100 - (v29 + 1)).toNat) < n32 from (by omega)) fn35, hE⟩
              · skip
                replace hE := zf_ip hE c67_41
                refine mm_g 1 (pc1 := 71) (lo1 := [some (.ref 137), some (.ref (1000 + q1)), some (.int (Int32.ofInt v28)), some (.int (Int32.ofInt v29))]) (st1 := [.int (Int32.ofInt 1)]) (H1 := mz_mk g x) rfl ?_
                refine mz_gt (tgt := 75) rfl rfl ?_
                refine mm_g 1 (pc1 := 76) (lo1 := [some (.ref 137), some (.ref (1000 + q1)), some (.int (Int32.ofInt 1)), some (.int (Int32.ofInt v29))]) (st1 := []) (H1 := mz_mk g x) rfl ?_
                refine mz_iincR (v := v29) (lo2 := [some (.ref 137), some (.ref (1000 + q1)), some (.int (Int32.ofInt 1)), some (.int (Int32.ofInt (v29 + 1)))]) rfl rfl rfl (Nat.le_of_ble_eq_true rfl) rfl ?_
                refine mz_gt (tgt := 39) rfl rfl ?_
                exact ih31 ((100 - (v29 + 1)).toNat) (by omega) 1 (v29 + 1) rfl (by decide) (by decide) (by omega) (by omega) ⟨fj34, Nat.lt_of_lt_of_le (show ((100 - (v29 + 1)).toNat) < n32 from (by omega)) fn35, hE⟩
        exact L33 _ 1 0 rfl (by decide) (by decide) (by decide) (by decide) ⟨3000000000, by omega, hE⟩
theorem f_X12_which {d : Nat} (hd : 6 ≤ d) {x : mm_X} (hx : mk_x x) {g : mz_G} (hI : mz_inv g) {q1 n_q1 : Nat} (h_q1 : mk_sa q1 n_q1) (p1 : g 137 20 ≤ g 137 16 ∧ g 137 21 = g 137 16 ∧ g 137 16 ≤ g 137 17 ∧ (g 137 18 ≠ 0 → g 137 20 < g 137 16)) {Q : (Option Value ⊕ Nat) → mm_H → Prop} (hQ : ∀ (r : Int), (-1) ≤ r → r ≤ 6 → (r ≠ -1 → g 137 22 = 0 ∧ g 137 18 = 1) → (r < (n_q1 : Int)) → zf_E (zF_X12_which q1 n_q1 g) (r) → Q (.inl (some (.int (Int32.ofInt r)))) (mz_mk g x)) : mm_C d 196 [.ref 137, .ref q1] (mz_mk g x) Q := by
  refine ⟨mmX12_which, [some (.ref 137), some (.ref q1), none], rfl, rfl, ?_⟩
  have bz0 := mz_rd hI bd_137_16
  have bz1 := mz_rd hI bd_137_17
  have bz2 := mz_rd hI bd_137_18
  have bz3 := mz_rd hI bd_137_20
  have bz4 := mz_rd hI bd_137_21
  have bz5 := mz_rd hI bd_137_22
  have kq := mk_sa_n h_q1
  have hE : zf_E (zF_X12_which q1 n_q1 g) (zF_X12_which q1 n_q1 g) := zf_rf
  refine mm_g 2 (pc1 := 2) (lo1 := [some (.ref 137), some (.ref q1), some (.int (Int32.ofInt 0))]) (st1 := []) (H1 := mz_mk g x) rfl ?_
  have L5 : ∀ n4 : Nat, ∀ (v1 : Int), (7 - v1).toNat = n4 → 0 ≤ v1 → v1 ≤ 7 → (∃ fk : Nat, (7 - v1).toNat < fk ∧ zf_E (zF_X12_which q1 n_q1 g) (zL_X12_which_2 q1 n_q1 g fk v1)) → mm_W d mmX12_which 2 [some (.ref 137), some (.ref q1), some (.int (Int32.ofInt v1))] [] (mz_mk g x) Q := by
    intro n4
    induction n4 using Nat.strongRecOn with
    | ind n4 ih3 =>
    intro v1 hmn4 l_v1 u_v1 hF
    obtain ⟨fk, fl, hE⟩ := hF
    obtain ⟨fj6, rfl⟩ : ∃ fj, fk = fj + 1 := ⟨fk - 1, by omega⟩
    have fn7 : n4 ≤ fj6 := by omega
    replace hE := zf_tr hE zL_X12_which_2_s
    refine mm_g 2 (pc1 := 4) (lo1 := [some (.ref 137), some (.ref q1), some (.int (Int32.ofInt v1))]) (st1 := [.ref q1, .int (Int32.ofInt v1)]) (H1 := mz_mk g x) rfl ?_
    refine mz_al rfl (kc_sa h_q1 _) (by decide) ?_
    refine mz_ic_ge (tgt := 26) rfl rfl (mz_rg l_v1 u_v1) ⟨by omega, by omega⟩ (fun c5_7 => ?_) (fun c5_7 => ?_)
    · skip
      replace hE := zf_nl hE c5_7
      refine mm_g 1 (pc1 := 27) (lo1 := [some (.ref 137), some (.ref q1), some (.int (Int32.ofInt v1))]) (st1 := [.int (Int32.ofInt (-1))]) (H1 := mz_mk g x) rfl ?_
      exact mm_rt rfl rfl (hQ _ (by decide) (by decide) (by omega) (by omega) hE)
    · skip
      replace hE := zf_ip hE c5_7
      refine mm_g 3 (pc1 := 11) (lo1 := [some (.ref 137), some (.ref q1), some (.int (Int32.ofInt v1))]) (st1 := [.int (Int32.ofInt v1), .ref q1, .ref 137]) (H1 := mz_mk g x) rfl ?_
      obtain ⟨u8, k_u8, e_u8⟩ := kw_sa x h_q1 (a := v1) (by omega) (by omega)
      refine mz_aa rfl (kc_sa h_q1 _) (by decide) (by omega) (by omega) (km_sa h_q1) e_u8 ?_
      replace hE := zf_tr hE (zf_le (kw_sa_i x h_q1 (by omega) (by omega) e_u8).symm)
      refine mz_cv rfl mt_12_217 (by decide) (sc_137 _) rfl (Nat.le_of_ble_eq_true rfl) (by omega) (f_X12_is (by omega) hx hI k_u8 (by omega) (fun v15 l_v15 u_v15 hp16 hc17 => ⟨_, rfl, ?_⟩))
      show mm_W d mmX12_which 15 [some (.ref 137), some (.ref q1), some (.int (Int32.ofInt v1))] [.int (Int32.ofInt v15)] (mz_mk g x) Q
      replace hE := zf_t1 hE hc17
      refine mz_if_eq (tgt := 20) rfl rfl (mz_rg l_v15 u_v15) (fun c15_17 => ?_) (fun c15_17 => ?_)
      · skip
        replace hE := zf_ip hE c15_17
        refine mz_iincR (v := v1) (lo2 := [some (.ref 137), some (.ref q1), some (.int (Int32.ofInt (v1 + 1)))]) rfl rfl rfl (Nat.le_of_ble_eq_true rfl) rfl ?_
        refine mz_gt (tgt := 2) rfl rfl ?_
        exact ih3 ((7 - (v1 + 1)).toNat) (by omega) (v1 + 1) rfl (by omega) (by omega) ⟨fj6, Nat.lt_of_lt_of_le (show ((7 - (v1 + 1)).toNat) < n4 from (by omega)) fn7, hE⟩
      · skip
        replace hE := zf_in hE c15_17
        refine mm_g 1 (pc1 := 19) (lo1 := [some (.ref 137), some (.ref q1), some (.int (Int32.ofInt v1))]) (st1 := [.int (Int32.ofInt v1)]) (H1 := mz_mk g x) rfl ?_
        exact mm_rt rfl rfl (hQ _ (by omega) (by omega) (by omega) (by omega) hE)
  exact L5 _ 0 rfl (by decide) (by decide) ⟨3000000000, by omega, hE⟩
