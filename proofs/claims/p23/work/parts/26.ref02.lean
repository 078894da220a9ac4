/-! EXACT: the reference (wip/p2/tools/gen50.py) -/
theorem nj_20 {p1 p2 p3 p4 p5 p6 p7 : Prop} : ¬ (((137 : Nat) = 160 ∧ p1) ∨ ((137 : Nat) = 160 ∧ p2) ∨ ((137 : Nat) = 160 ∧ p3) ∨ ((137 : Nat) = 160 ∧ p4) ∨ ((137 : Nat) = 160 ∧ p5) ∨ ((137 : Nat) = 160 ∧ p6) ∨ ((137 : Nat) = 160 ∧ p7) ∨ (137 : Nat) = 161 ∨ (137 : Nat) = 152) := (fun h => (Or.elim h (fun h => (absurd (show 137 = 160 from (h).1) (by decide))) (fun h => (Or.elim h (fun h => (absurd (show 137 = 160 from (h).1) (by decide))) (fun h => (Or.elim h (fun h => (absurd (show 137 = 160 from (h).1) (by decide))) (fun h => (Or.elim h (fun h => (absurd (show 137 = 160 from (h).1) (by decide))) (fun h => (Or.elim h (fun h => (absurd (show 137 = 160 from (h).1) (by decide))) (fun h => (Or.elim h (fun h => (absurd (show 137 = 160 from (h).1) (by decide))) (fun h => (Or.elim h (fun h => (absurd (show 137 = 160 from (h).1) (by decide))) (fun h => (Or.elim h (fun h => (absurd (show 137 = 161 from h) (by decide))) (fun h => (absurd (show 137 = 152 from h) (by decide)))))))))))))))))))
theorem nj_21 {p1 p2 p3 p4 p5 p6 p7 : Prop} : ¬ (((149 : Nat) = 160 ∧ p1) ∨ ((149 : Nat) = 160 ∧ p2) ∨ ((149 : Nat) = 160 ∧ p3) ∨ ((149 : Nat) = 160 ∧ p4) ∨ ((149 : Nat) = 160 ∧ p5) ∨ ((149 : Nat) = 160 ∧ p6) ∨ ((149 : Nat) = 160 ∧ p7) ∨ (149 : Nat) = 161 ∨ (149 : Nat) = 152) := (fun h => (Or.elim h (fun h => (absurd (show 149 = 160 from (h).1) (by decide))) (fun h => (Or.elim h (fun h => (absurd (show 149 = 160 from (h).1) (by decide))) (fun h => (Or.elim h (fun h => (absurd (show 149 = 160 from (h).1) (by decide))) (fun h => (Or.elim h (fun h => (absurd (show 149 = 160 from (h).1) (by decide))) (fun h => (Or.elim h (fun h => (absurd (show 149 = 160 from (h).1) (by decide))) (fun h => (Or.elim h (fun h => (absurd (show 149 = 160 from (h).1) (by decide))) (fun h => (Or.elim h (fun h => (absurd (show 149 = 160 from (h).1) (by decide))) (fun h => (Or.elim h (fun h => (absurd (show 149 = 161 from h) (by decide))) (fun h => (absurd (show 149 = 152 from h) (by decide)))))))))))))))))))
theorem nj_22 {p1 p2 p3 p4 p5 p6 p7 : Prop} : ¬ (((140 : Nat) = 160 ∧ p1) ∨ ((140 : Nat) = 160 ∧ p2) ∨ ((140 : Nat) = 160 ∧ p3) ∨ ((140 : Nat) = 160 ∧ p4) ∨ ((140 : Nat) = 160 ∧ p5) ∨ ((140 : Nat) = 160 ∧ p6) ∨ ((140 : Nat) = 160 ∧ p7) ∨ (140 : Nat) = 161 ∨ (140 : Nat) = 152) := (fun h => (Or.elim h (fun h => (absurd (show 140 = 160 from (h).1) (by decide))) (fun h => (Or.elim h (fun h => (absurd (show 140 = 160 from (h).1) (by decide))) (fun h => (Or.elim h (fun h => (absurd (show 140 = 160 from (h).1) (by decide))) (fun h => (Or.elim h (fun h => (absurd (show 140 = 160 from (h).1) (by decide))) (fun h => (Or.elim h (fun h => (absurd (show 140 = 160 from (h).1) (by decide))) (fun h => (Or.elim h (fun h => (absurd (show 140 = 160 from (h).1) (by decide))) (fun h => (Or.elim h (fun h => (absurd (show 140 = 160 from (h).1) (by decide))) (fun h => (Or.elim h (fun h => (absurd (show 140 = 161 from h) (by decide))) (fun h => (absurd (show 140 = 152 from h) (by decide)))))))))))))))))))
theorem nj_23 {p1 p2 p3 p4 p5 p6 p7 p8 : Prop} : ¬ (((149 : Nat) = 160 ∧ p1) ∨ ((149 : Nat) = 160 ∧ p2) ∨ ((149 : Nat) = 160 ∧ p3) ∨ ((149 : Nat) = 160 ∧ p4) ∨ ((149 : Nat) = 160 ∧ p5) ∨ ((149 : Nat) = 160 ∧ p6) ∨ ((149 : Nat) = 160 ∧ p7) ∨ (149 : Nat) = 161 ∨ (149 : Nat) = 152 ∨ ((149 : Nat) = 137 ∧ p8)) := (fun h => (Or.elim h (fun h => (absurd (show 149 = 160 from (h).1) (by decide))) (fun h => (Or.elim h (fun h => (absurd (show 149 = 160 from (h).1) (by decide))) (fun h => (Or.elim h (fun h => (absurd (show 149 = 160 from (h).1) (by decide))) (fun h => (Or.elim h (fun h => (absurd (show 149 = 160 from (h).1) (by decide))) (fun h => (Or.elim h (fun h => (absurd (show 149 = 160 from (h).1) (by decide))) (fun h => (Or.elim h (fun h => (absurd (show 149 = 160 from (h).1) (by decide))) (fun h => (Or.elim h (fun h => (absurd (show 149 = 160 from (h).1) (by decide))) (fun h => (Or.elim h (fun h => (absurd (show 149 = 161 from h) (by decide))) (fun h => (Or.elim h (fun h => (absurd (show 149 = 152 from h) (by decide))) (fun h => (absurd (show 149 = 137 from (h).1) (by decide)))))))))))))))))))))
theorem nj_24 {p1 p2 p3 p4 p5 p6 p7 p8 : Prop} : ¬ (((140 : Nat) = 160 ∧ p1) ∨ ((140 : Nat) = 160 ∧ p2) ∨ ((140 : Nat) = 160 ∧ p3) ∨ ((140 : Nat) = 160 ∧ p4) ∨ ((140 : Nat) = 160 ∧ p5) ∨ ((140 : Nat) = 160 ∧ p6) ∨ ((140 : Nat) = 160 ∧ p7) ∨ (140 : Nat) = 161 ∨ (140 : Nat) = 152 ∨ ((140 : Nat) = 137 ∧ p8)) := (fun h => (Or.elim h (fun h => (absurd (show 140 = 160 from (h).1) (by decide))) (fun h => (Or.elim h (fun h => (absurd (show 140 = 160 from (h).1) (by decide))) (fun h => (Or.elim h (fun h => (absurd (show 140 = 160 from (h).1) (by decide))) (fun h => (Or.elim h (fun h => (absurd (show 140 = 160 from (h).1) (by decide))) (fun h => (Or.elim h (fun h => (absurd (show 140 = 160 from (h).1) (by decide))) (fun h => (Or.elim h (fun h => (absurd (show 140 = 160 from (h).1) (by decide))) (fun h => (Or.elim h (fun h => (absurd (show 140 = 160 from (h).1) (by decide))) (fun h => (Or.elim h (fun h => (absurd (show 140 = 161 from h) (by decide))) (fun h => (Or.elim h (fun h => (absurd (show 140 = 152 from h) (by decide))) (fun h => (absurd (show 140 = 137 from (h).1) (by decide)))))))))))))))))))))
theorem bip_m28 : (Int8.ofInt (-28)).toInt32 = Int32.ofInt (-28) := by decide
theorem bip_17 : (Int8.ofInt 17).toInt32 = Int32.ofInt 17 := by decide
theorem fd_12_46 : mm_tab mm_fldT 12 46 = some (12, 6, 0) ∧ mm_tab mm_ftT 12 6 = some 6 := ⟨rfl, rfl⟩
theorem fd_12_49 : mm_tab mm_fldT 12 49 = some (12, 7, 0) ∧ mm_tab mm_ftT 12 7 = some 6 := ⟨rfl, rfl⟩
theorem fd_12_60 : mm_tab mm_fldT 12 60 = some (12, 11, 0) ∧ mm_tab mm_ftT 12 11 = some 6 := ⟨rfl, rfl⟩
theorem fd_12_88 : mm_tab mm_fldT 12 88 = some (12, 33, 0) ∧ mm_tab mm_ftT 12 33 = some 6 := ⟨rfl, rfl⟩
theorem fd_12_91 : mm_tab mm_fldT 12 91 = some (12, 34, 0) ∧ mm_tab mm_ftT 12 34 = some 6 := ⟨rfl, rfl⟩
theorem fd_12_94 : mm_tab mm_fldT 12 94 = some (12, 35, 0) ∧ mm_tab mm_ftT 12 35 = some 6 := ⟨rfl, rfl⟩
theorem fd_12_97 : mm_tab mm_fldT 12 97 = some (12, 38, 0) ∧ mm_tab mm_ftT 12 38 = some 6 := ⟨rfl, rfl⟩
theorem fd_12_100 : mm_tab mm_fldT 12 100 = some (12, 39, 0) ∧ mm_tab mm_ftT 12 39 = some 6 := ⟨rfl, rfl⟩
theorem fd_12_323 : mm_tab mm_fldT 12 323 = some (12, 36, 0) ∧ mm_tab mm_ftT 12 36 = some 0 := ⟨rfl, rfl⟩
theorem fd_12_326 : mm_tab mm_fldT 12 326 = some (12, 37, 0) ∧ mm_tab mm_ftT 12 37 = some 0 := ⟨rfl, rfl⟩
theorem mt_12_329 : mm_tab mm_mthT 12 329 = some (4, 0, 2, 0, 0) := rfl
theorem mt_12_332 : mm_tab mm_mthT 12 332 = some (1, 226, 0, 0, 12) := rfl
theorem mt_12_336 : mm_tab mm_mthT 12 336 = some (1, 223, 2, 0, 12) := rfl
theorem mt_12_340 : mm_tab mm_mthT 12 340 = some (1, 229, 2, 0, 12) := rfl
theorem mt_12_343 : mm_tab mm_mthT 12 343 = some (0, 231, 3, 0, 12) := rfl
theorem mt_12_347 : mm_tab mm_mthT 12 347 = some (1, 234, 1, 0, 12) := rfl
theorem mt_12_350 : mm_tab mm_mthT 12 350 = some (1, 222, 2, 0, 12) := rfl
theorem mt_12_353 : mm_tab mm_mthT 12 353 = some (1, 232, 0, 0, 12) := rfl
theorem mt_12_356 : mm_tab mm_mthT 12 356 = some (1, 236, 2, 0, 12) := rfl
theorem mt_12_359 : mm_tab mm_mthT 12 359 = some (1, 233, 1, 0, 12) := rfl
theorem mt_12_362 : mm_tab mm_mthT 12 362 = some (1, 237, 1, 0, 12) := rfl
theorem mt_12_365 : mm_tab mm_mthT 12 365 = some (1, 235, 1, 0, 12) := rfl
theorem sh_143 (L : Nat) : mm_SH L 143 = (100, 16) := rfl
theorem sh_144 (L : Nat) : mm_SH L 144 = (100, 12) := rfl
theorem sh_148 (L : Nat) : mm_SH L 148 = (100, 16) := rfl
theorem sh_157 (L : Nat) : mm_SH L 157 = (100, 16) := rfl
theorem sh_158 (L : Nat) : mm_SH L 158 = (100, 16) := rfl
theorem sh_159 (L : Nat) : mm_SH L 159 = (100, 289) := rfl
theorem sh_160 (L : Nat) : mm_SH L 160 = (100, 7) := rfl
theorem sh_161 (L : Nat) : mm_SH L 161 = (100, 64) := rfl
theorem bd_137_36 : mz_bd 137 36 = (0, 16) := rfl
theorem bd_137_37 : mz_bd 137 37 = (0, 16) := rfl
theorem ba_143 (j : Nat) : mz_bd 143 j = ((-2147483648), 2147483647) := rfl
theorem ba_144 (j : Nat) : mz_bd 144 j = (0, 1) := rfl
theorem ba_148 (j : Nat) : mz_bd 148 j = ((-2147483648), 2147483647) := rfl
theorem ba_157 (j : Nat) : mz_bd 157 j = ((-2147483648), 2147483647) := rfl
theorem ba_158 (j : Nat) : mz_bd 158 j = ((-2147483648), 2147483647) := rfl
theorem ba_159 (j : Nat) : mz_bd 159 j = ((-2147483648), 2147483647) := rfl
theorem ba_160 (j : Nat) : mz_bd 160 j = ((-2147483648), 2147483647) := rfl
theorem ba_161 (j : Nat) : mz_bd 161 j = ((-2147483648), 2147483647) := rfl
theorem rf_137_6 (a b : Nat) (c : Option Nat) : mm_HR a b c 137 6 = some 143 := rfl
theorem rf_137_7 (a b : Nat) (c : Option Nat) : mm_HR a b c 137 7 = some 144 := rfl
theorem rf_137_11 (a b : Nat) (c : Option Nat) : mm_HR a b c 137 11 = some 148 := rfl
theorem rf_137_33 (a b : Nat) (c : Option Nat) : mm_HR a b c 137 33 = some 157 := rfl
theorem rf_137_34 (a b : Nat) (c : Option Nat) : mm_HR a b c 137 34 = some 158 := rfl
theorem rf_137_35 (a b : Nat) (c : Option Nat) : mm_HR a b c 137 35 = some 159 := rfl
theorem rf_137_38 (a b : Nat) (c : Option Nat) : mm_HR a b c 137 38 = some 160 := rfl
theorem rf_137_39 (a b : Nat) (c : Option Nat) : mm_HR a b c 137 39 = some 161 := rfl
theorem bt_140_2 : mz_bd 140 2 = (0, 8) := rfl
theorem bt_140_3 : mz_bd 140 3 = (0, 700) := rfl
def fl_X12_compared_5 (x : mm_X) (a1 : Int) : Nat → Nat → Prop := fun k j => k = 159
def fl_X12_compared_16 (x : mm_X) (a1 : Int) : Nat → Nat → Prop := fun k j => k = 159
def fw_X12_compared (x : mm_X) (a1 : Int) : Nat → Nat → Prop := fun k j => k = 159
theorem f_X12_compared {d : Nat} (hd : 12 ≤ d) {x : mm_X} (hx : mk_x x) {g : mz_G} (hI : mz_inv g) {a1 : Int} (l_a1 : 0 ≤ a1) (u_a1 : a1 ≤ 1) {Q : (Option Value ⊕ Nat) → mm_H → Prop} (hQ : ∀ (r : Int) (g1 : mz_G), mz_inv g1 → mz_fr (fw_X12_compared x a1) g g1 → (-2147483648) ≤ r → r ≤ 2147483647 → zf_E (zF_X12_compared a1 g) ((r, g1)) → Q (.inl (some (.int (Int32.ofInt r)))) (mz_mk g1 x)) : mm_C d 225 [.ref 137, .int (Int32.ofInt a1)] (mz_mk g x) Q := by
  refine ⟨mmX12_compared, [some (.ref 137), some (.int (Int32.ofInt a1)), none, none, none, none, none, none, none, none], rfl, rfl, ?_⟩
  have hE : zf_E (zF_X12_compared a1 g) (zF_X12_compared a1 g) := zf_rf
  refine mz_bip rfl bip_17 ?_
  refine mm_g 3 (pc1 := 5) (lo1 := [some (.ref 137), some (.int (Int32.ofInt a1)), some (.int (Int32.ofInt 17)), some (.int (Int32.ofInt 0)), none, none, none, none, none, none]) (st1 := []) (H1 := mz_mk g x) rfl ?_
  have L11 : ∀ n10 : Nat, ∀ (v1 : Int) (o2 : Option Value) (o3 : Option Value) (o4 : Option Value) (o5 : Option Value) (o6 : Option Value) (o7 : Option Value) (g8 : mz_G), (17 - v1).toNat = n10 → 0 ≤ v1 → v1 ≤ 17 → mz_nl o2 → mz_nl o3 → mz_nl o4 → mz_nl o5 → mz_nl o6 → mz_nl o7 → mz_inv g8 → mz_fr (fl_X12_compared_5 x a1) g g8 → (∃ fk : Nat, (17 - v1).toNat < fk ∧ zf_E (zF_X12_compared a1 g) (zL_X12_compared_5 a1 fk 17 v1 g8)) → mm_W d mmX12_compared 5 [some (.ref 137), some (.int (Int32.ofInt a1)), some (.int (Int32.ofInt 17)), some (.int (Int32.ofInt v1)), o2, o3, o4, o5, o6, o7] [] (mz_mk g8 x) Q := by
    intro n10
    induction n10 using Nat.strongRecOn with
    | ind n10 ih9 =>
    intro v1 o2 o3 o4 o5 o6 o7 g8 hmn10 l_v1 u_v1 h_o2 h_o3 h_o4 h_o5 h_o6 h_o7 hIg8 hfg8 hF
    obtain ⟨fk, fl, hE⟩ := hF
    obtain ⟨fj12, rfl⟩ : ∃ fj, fk = fj + 1 := ⟨fk - 1, by omega⟩
    have fn13 : n10 ≤ fj12 := by omega
    replace hE := zf_tr hE zL_X12_compared_5_s
    refine mm_g 2 (pc1 := 7) (lo1 := [some (.ref 137), some (.int (Int32.ofInt a1)), some (.int (Int32.ofInt 17)), some (.int (Int32.ofInt v1)), o2, o3, o4, o5, o6, o7]) (st1 := [.ref 137, .int (Int32.ofInt v1)]) (H1 := mz_mk g8 x) rfl ?_
    refine mz_gI rfl fd_12_323 (by decide) (sc_137 _) hIg8 bd_137_36 (fun v14 e_v14 l_v14 u_v14 => ?_)
    replace hE := zf_tr hE (zf_le e_v14)
    refine mz_ic_gt (tgt := 196) rfl rfl (mz_rg l_v1 u_v1) (mz_rg l_v14 u_v14) (fun c10_14 => ?_) (fun c10_14 => ?_)
    · skip
      replace hE := zf_ip hE c10_14
      refine mm_g 1 (pc1 := 197) (lo1 := [some (.ref 137), some (.int (Int32.ofInt a1)), some (.int (Int32.ofInt 17)), some (.int (Int32.ofInt v1)), o2, o3, o4, o5, o6, o7]) (st1 := [.ref 137]) (H1 := mz_mk g8 x) rfl ?_
      refine mz_fgR (v := 159) rfl fd_12_94 (by decide) (sc_137 _) (rf_137_35 _ _ _) ?_
      refine mm_g 2 (pc1 := 202) (lo1 := [some (.ref 137), some (.int (Int32.ofInt a1)), some (.int (Int32.ofInt 17)), some (.int (Int32.ofInt v1)), o2, o3, o4, o5, o6, o7]) (st1 := [.ref 137, .int (Int32.ofInt 17), .ref 159]) (H1 := mz_mk g8 x) rfl ?_
      refine mz_fgI (v := v14) rfl fd_12_323 (by decide) (sc_137 _) e_v14 ?_
      replace hE := zf_tr hE (zf_le e_v14)
      refine mz_imul rfl ?_
      refine mm_g 1 (pc1 := 207) (lo1 := [some (.ref 137), some (.int (Int32.ofInt a1)), some (.int (Int32.ofInt 17)), some (.int (Int32.ofInt v1)), o2, o3, o4, o5, o6, o7]) (st1 := [.ref 137, .int (Int32.ofInt (17 * v14)), .ref 159]) (H1 := mz_mk g8 x) rfl ?_
      refine mz_gI rfl fd_12_326 (by decide) (sc_137 _) hIg8 bd_137_37 (fun v15 e_v15 l_v15 u_v15 => ?_)
      replace hE := zf_tr hE (zf_le e_v15)
      refine mz_iadd rfl ?_
      refine mz_aI rfl (sh_159 _) (by omega) (by omega) (by decide) hIg8 (ba_159 _) (fun v16 e_v16 l_v16 u_v16 => ?_)
      replace hE := zf_tr hE (zf_le e_v16)
      exact mm_rt rfl rfl (hQ _ _ hIg8 (fun k j hk => (hfg8 k j (fun h => hk h))) (by omega) (by omega) hE)
    · skip
      replace hE := zf_nl hE c10_14
      refine mm_g 2 (pc1 := 16) (lo1 := [some (.ref 137), some (.int (Int32.ofInt a1)), some (.int (Int32.ofInt 17)), some (.int (Int32.ofInt v1)), some (.int (Int32.ofInt 0)), o3, o4, o5, o6, o7]) (st1 := []) (H1 := mz_mk g8 x) rfl ?_
      have hO26 := hE
      have L27 : ∀ n25 : Nat, ∀ (v17 : Int) (o18 : Option Value) (o19 : Option Value) (o20 : Option Value) (o21 : Option Value) (o22 : Option Value) (g23 : mz_G), (17 - v17).toNat = n25 → 0 ≤ v17 → v17 ≤ 17 → mz_nl o18 → mz_nl o19 → mz_nl o20 → mz_nl o21 → mz_nl o22 → mz_inv g23 → mz_fr (fl_X12_compared_16 x a1) g8 g23 → (∃ fk : Nat, (17 - v17).toNat < fk ∧ zf_E (zL_X12_compared_16 a1 3000000000 17 v1 0 g8) (zL_X12_compared_16 a1 fk 17 v1 v17 g23)) → mm_W d mmX12_compared 16 [some (.ref 137), some (.int (Int32.ofInt a1)), some (.int (Int32.ofInt 17)), some (.int (Int32.ofInt v1)), some (.int (Int32.ofInt v17)), o18, o19, o20, o21, o22] [] (mz_mk g23 x) Q := by
        intro n25
        induction n25 using Nat.strongRecOn with
        | ind n25 ih24 =>
        intro v17 o18 o19 o20 o21 o22 g23 hmn25 l_v17 u_v17 h_o18 h_o19 h_o20 h_o21 h_o22 hIg23 hfg23 hF
        obtain ⟨fk, fl, hE⟩ := hF
        obtain ⟨fj28, rfl⟩ : ∃ fj, fk = fj + 1 := ⟨fk - 1, by omega⟩
        have fn29 : n25 ≤ fj28 := by omega
        replace hE := zf_tr hE zL_X12_compared_16_s
        refine mm_g 2 (pc1 := 19) (lo1 := [some (.ref 137), some (.int (Int32.ofInt a1)), some (.int (Int32.ofInt 17)), some (.int (Int32.ofInt v1)), some (.int (Int32.ofInt v17)), o18, o19, o20, o21, o22]) (st1 := [.ref 137, .int (Int32.ofInt v17)]) (H1 := mz_mk g23 x) rfl ?_
        refine mz_gI rfl fd_12_326 (by decide) (sc_137 _) hIg23 bd_137_37 (fun v30 e_v30 l_v30 u_v30 => ?_)
        replace hE := zf_tr hE (zf_le e_v30)
        refine mz_ic_gt (tgt := 190) rfl rfl (mz_rg l_v17 u_v17) (mz_rg l_v30 u_v30) (fun c22_30 => ?_) (fun c22_30 => ?_)
        · skip
          replace hE := zf_ip hE c22_30
          replace hE := zf_t1 hO26 hE
          refine mz_iincR (v := v1) (lo2 := [some (.ref 137), some (.int (Int32.ofInt a1)), some (.int (Int32.ofInt 17)), some (.int (Int32.ofInt (v1 + 1))), some (.int (Int32.ofInt v17)), o18, o19, o20, o21, o22]) rfl rfl rfl (Nat.le_of_ble_eq_true rfl) rfl ?_
          refine mz_gt (tgt := 5) rfl rfl ?_
          exact ih9 ((17 - (v1 + 1)).toNat) (by omega) (v1 + 1) (some (.int (Int32.ofInt v17))) o18 o19 o20 o21 o22 g23 rfl (by omega) (by omega) (mz_nl_i _) h_o18 h_o19 h_o20 h_o21 h_o22 hIg23 (fun k j hk => ((hfg23 k j (fun h => hk h)).trans (hfg8 k j (fun h => hk h)))) ⟨fj12, Nat.lt_of_lt_of_le (show ((17 - (v1 + 1)).toNat) < n10 from (by omega)) fn13, hE⟩
        · skip
          replace hE := zf_nl hE c22_30
          refine mm_g 2 (pc1 := 27) (lo1 := [some (.ref 137), some (.int (Int32.ofInt a1)), some (.int (Int32.ofInt 17)), some (.int (Int32.ofInt v1)), some (.int (Int32.ofInt v17)), o18, o19, o20, o21, o22]) (st1 := [.int (Int32.ofInt v1), .int (Int32.ofInt 17)]) (H1 := mz_mk g23 x) rfl ?_
          refine mz_imul rfl ?_
          refine mm_g 1 (pc1 := 30) (lo1 := [some (.ref 137), some (.int (Int32.ofInt a1)), some (.int (Int32.ofInt 17)), some (.int (Int32.ofInt v1)), some (.int (Int32.ofInt v17)), o18, o19, o20, o21, o22]) (st1 := [.int (Int32.ofInt v17), .int (Int32.ofInt (17 * v1))]) (H1 := mz_mk g23 x) rfl ?_
          refine mz_iadd rfl ?_
          refine mm_g 2 (pc1 := 34) (lo1 := [some (.ref 137), some (.int (Int32.ofInt a1)), some (.int (Int32.ofInt 17)), some (.int (Int32.ofInt v1)), some (.int (Int32.ofInt v17)), some (.int (Int32.ofInt ((17 * v1) + v17))), o19, o20, o21, o22]) (st1 := [.int (Int32.ofInt v1)]) (H1 := mz_mk g23 x) rfl ?_
          refine mz_if_eq (tgt := 42) rfl rfl (mz_rg l_v1 u_v1) (fun c34_30 => ?_) (fun c34_30 => ?_)
          · skip
            replace hE := zf_ip hE c34_30
            refine mm_g 1 (pc1 := 43) (lo1 := [some (.ref 137), some (.int (Int32.ofInt a1)), some (.int (Int32.ofInt 17)), some (.int (Int32.ofInt v1)), some (.int (Int32.ofInt v17)), some (.int (Int32.ofInt ((17 * v1) + v17))), o19, o20, o21, o22]) (st1 := [.ref 137]) (H1 := mz_mk g23 x) rfl ?_
            refine mz_fgR (v := 159) rfl fd_12_94 (by decide) (sc_137 _) (rf_137_35 _ _ _) ?_
            refine mm_g 2 (pc1 := 49) (lo1 := [some (.ref 137), some (.int (Int32.ofInt a1)), some (.int (Int32.ofInt 17)), some (.int (Int32.ofInt v1)), some (.int (Int32.ofInt v17)), some (.int (Int32.ofInt ((17 * v1) + v17))), o19, o20, o21, o22]) (st1 := [.int (Int32.ofInt a1), .int (Int32.ofInt ((17 * v1) + v17)), .ref 159]) (H1 := mz_mk g23 x) rfl ?_
            refine mz_if_eq (tgt := 59) rfl rfl (mz_rg l_a1 u_a1) (fun c49_30 => ?_) (fun c49_30 => ?_)
            · skip
              replace hE := zf_ip hE c49_30
              refine mm_g 1 (pc1 := 60) (lo1 := [some (.ref 137), some (.int (Int32.ofInt a1)), some (.int (Int32.ofInt 17)), some (.int (Int32.ofInt v1)), some (.int (Int32.ofInt v17)), some (.int (Int32.ofInt ((17 * v1) + v17))), o19, o20, o21, o22]) (st1 := [.int (Int32.ofInt 0), .int (Int32.ofInt ((17 * v1) + v17)), .ref 159]) (H1 := mz_mk g23 x) rfl ?_
              refine mz_sI rfl (sh_159 _) (by omega) (by omega) (by decide) hIg23 (ba_159 _) (by omega) (by omega) (fun g31 hIg31 hug31 => ?_)
              replace hE := zf_tr hE (zf_lg hug31)
              refine mz_gt (tgt := 184) rfl rfl ?_
              refine mz_iincR (v := v17) (lo2 := [some (.ref 137), some (.int (Int32.ofInt a1)), some (.int (Int32.ofInt 17)), some (.int (Int32.ofInt v1)), some (.int (Int32.ofInt (v17 + 1))), some (.int (Int32.ofInt ((17 * v1) + v17))), o19, o20, o21, o22]) rfl rfl rfl (Nat.le_of_ble_eq_true rfl) rfl ?_
              refine mz_gt (tgt := 16) rfl rfl ?_
              exact ih24 ((17 - (v17 + 1)).toNat) (by omega) (v17 + 1) (some (.int (Int32.ofInt ((17 * v1) + v17)))) o19 o20 o21 o22 g31 rfl (by omega) (by omega) (mz_nl_i _) h_o19 h_o20 h_o21 h_o22 hIg31 (fun k j hk => ((hug31.2 k j (fun h => hk h.1)).trans (hfg23 k j (fun h => hk h)))) ⟨fj28, Nat.lt_of_lt_of_le (show ((17 - (v17 + 1)).toNat) < n25 from (by omega)) fn29, hE⟩
            · skip
              replace hE := zf_in hE c49_30
              refine mm_g 2 (pc1 := 55) (lo1 := [some (.ref 137), some (.int (Int32.ofInt a1)), some (.int (Int32.ofInt 17)), some (.int (Int32.ofInt v1)), some (.int (Int32.ofInt v17)), some (.int (Int32.ofInt ((17 * v1) + v17))), o19, o20, o21, o22]) (st1 := [.int (Int32.ofInt v17), .int (Int32.ofInt v1), .int (Int32.ofInt ((17 * v1) + v17)), .ref 159]) (H1 := mz_mk g23 x) rfl ?_
              refine mz_iadd rfl ?_
              refine mz_gt (tgt := 60) rfl rfl ?_
              refine mz_sI rfl (sh_159 _) (by omega) (by omega) (by decide) hIg23 (ba_159 _) (by omega) (by omega) (fun g32 hIg32 hug32 => ?_)
              replace hE := zf_tr hE (zf_lg hug32)
              refine mz_gt (tgt := 184) rfl rfl ?_
              refine mz_iincR (v := v17) (lo2 := [some (.ref 137), some (.int (Int32.ofInt a1)), some (.int (Int32.ofInt 17)), some (.int (Int32.ofInt v1)), some (.int (Int32.ofInt (v17 + 1))), some (.int (Int32.ofInt ((17 * v1) + v17))), o19, o20, o21, o22]) rfl rfl rfl (Nat.le_of_ble_eq_true rfl) rfl ?_
              refine mz_gt (tgt := 16) rfl rfl ?_
              exact ih24 ((17 - (v17 + 1)).toNat) (by omega) (v17 + 1) (some (.int (Int32.ofInt ((17 * v1) + v17)))) o19 o20 o21 o22 g32 rfl (by omega) (by omega) (mz_nl_i _) h_o19 h_o20 h_o21 h_o22 hIg32 (fun k j hk => ((hug32.2 k j (fun h => hk h.1)).trans (hfg23 k j (fun h => hk h)))) ⟨fj28, Nat.lt_of_lt_of_le (show ((17 - (v17 + 1)).toNat) < n25 from (by omega)) fn29, hE⟩
          · skip
            replace hE := zf_in hE c34_30
            refine mm_g 1 (pc1 := 39) (lo1 := [some (.ref 137), some (.int (Int32.ofInt a1)), some (.int (Int32.ofInt 17)), some (.int (Int32.ofInt v1)), some (.int (Int32.ofInt v17)), some (.int (Int32.ofInt ((17 * v1) + v17))), o19, o20, o21, o22]) (st1 := [.int (Int32.ofInt v17)]) (H1 := mz_mk g23 x) rfl ?_
            refine mz_if_ne (tgt := 64) rfl rfl (mz_rg l_v17 u_v17) (fun c39_32 => ?_) (fun c39_32 => ?_)
            · skip
              replace hE := zf_in hE c39_32
              refine mm_g 1 (pc1 := 65) (lo1 := [some (.ref 137), some (.int (Int32.ofInt a1)), some (.int (Int32.ofInt 17)), some (.int (Int32.ofInt v1)), some (.int (Int32.ofInt v17)), some (.int (Int32.ofInt ((17 * v1) + v17))), o19, o20, o21, o22]) (st1 := [.ref 137]) (H1 := mz_mk g23 x) rfl ?_
              refine mz_fgR (v := 157) rfl fd_12_88 (by decide) (sc_137 _) (rf_137_33 _ _ _) ?_
              refine mm_g 2 (pc1 := 70) (lo1 := [some (.ref 137), some (.int (Int32.ofInt a1)), some (.int (Int32.ofInt 17)), some (.int (Int32.ofInt v1)), some (.int (Int32.ofInt v17)), some (.int (Int32.ofInt ((17 * v1) + v17))), o19, o20, o21, o22]) (st1 := [.int (Int32.ofInt 1), .int (Int32.ofInt v1), .ref 157]) (H1 := mz_mk g23 x) rfl ?_
              refine mz_isub rfl ?_
              refine mz_aI rfl (sh_157 _) (by omega) (by omega) (by decide) hIg23 (ba_157 _) (fun v33 e_v33 l_v33 u_v33 => ?_)
              replace hE := zf_tr hE (zf_le e_v33)
              refine mm_g 1 (pc1 := 73) (lo1 := [some (.ref 137), some (.int (Int32.ofInt a1)), some (.int (Int32.ofInt 17)), some (.int (Int32.ofInt v1)), some (.int (Int32.ofInt v17)), some (.int (Int32.ofInt ((17 * v1) + v17))), o19, o20, o21, o22]) (st1 := [.ref 137, .int (Int32.ofInt v33)]) (H1 := mz_mk g23 x) rfl ?_
              refine mz_fgR (v := 158) rfl fd_12_91 (by decide) (sc_137 _) (rf_137_34 _ _ _) ?_
              refine mm_g 2 (pc1 := 79) (lo1 := [some (.ref 137), some (.int (Int32.ofInt a1)), some (.int (Int32.ofInt 17)), some (.int (Int32.ofInt v1)), some (.int (Int32.ofInt v17)), some (.int (Int32.ofInt ((17 * v1) + v17))), o19, o20, o21, o22]) (st1 := [.int (Int32.ofInt 1), .int (Int32.ofInt v17), .ref 158, .int (Int32.ofInt v33)]) (H1 := mz_mk g23 x) rfl ?_
              refine mz_isub rfl ?_
              refine mz_aI rfl (sh_158 _) (by omega) (by omega) (by decide) hIg23 (ba_158 _) (fun v34 e_v34 l_v34 u_v34 => ?_)
              replace hE := zf_tr hE (zf_le e_v34)
              refine mz_ic_ne (tgt := 88) rfl rfl (mz_rg l_v33 u_v33) (mz_rg l_v34 u_v34) (fun c81_34 => ?_) (fun c81_34 => ?_)
              · skip
                replace hE := zf_in hE c81_34
                refine mm_g 3 (pc1 := 92) (lo1 := [some (.ref 137), some (.int (Int32.ofInt a1)), some (.int (Int32.ofInt 17)), some (.int (Int32.ofInt v1)), some (.int (Int32.ofInt v17)), some (.int (Int32.ofInt ((17 * v1) + v17))), some (.int (Int32.ofInt 0)), o20, o21, o22]) (st1 := [.ref 137]) (H1 := mz_mk g23 x) rfl ?_
                refine mz_fgR (v := 159) rfl fd_12_94 (by decide) (sc_137 _) (rf_137_35 _ _ _) ?_
                refine mm_g 2 (pc1 := 98) (lo1 := [some (.ref 137), some (.int (Int32.ofInt a1)), some (.int (Int32.ofInt 17)), some (.int (Int32.ofInt v1)), some (.int (Int32.ofInt v17)), some (.int (Int32.ofInt ((17 * v1) + v17))), some (.int (Int32.ofInt 0)), o20, o21, o22]) (st1 := [.int (Int32.ofInt 17), .int (Int32.ofInt ((17 * v1) + v17)), .ref 159]) (H1 := mz_mk g23 x) rfl ?_
                refine mz_isub rfl ?_
                refine mz_aI rfl (sh_159 _) (by omega) (by omega) (by decide) hIg23 (ba_159 _) (fun v35 e_v35 l_v35 u_v35 => ?_)
                replace hE := zf_tr hE (zf_le e_v35)
                refine mm_g 2 (pc1 := 103) (lo1 := [some (.ref 137), some (.int (Int32.ofInt a1)), some (.int (Int32.ofInt 17)), some (.int (Int32.ofInt v1)), some (.int (Int32.ofInt v17)), some (.int (Int32.ofInt ((17 * v1) + v17))), some (.int (Int32.ofInt 0)), some (.int (Int32.ofInt v35)), o21, o22]) (st1 := [.ref 137]) (H1 := mz_mk g23 x) rfl ?_
                refine mz_fgR (v := 159) rfl fd_12_94 (by decide) (sc_137 _) (rf_137_35 _ _ _) ?_
                refine mm_g 2 (pc1 := 109) (lo1 := [some (.ref 137), some (.int (Int32.ofInt a1)), some (.int (Int32.ofInt 17)), some (.int (Int32.ofInt v1)), some (.int (Int32.ofInt v17)), some (.int (Int32.ofInt ((17 * v1) + v17))), some (.int (Int32.ofInt 0)), some (.int (Int32.ofInt v35)), o21, o22]) (st1 := [.int (Int32.ofInt 1), .int (Int32.ofInt ((17 * v1) + v17)), .ref 159]) (H1 := mz_mk g23 x) rfl ?_
                refine mz_isub rfl ?_
                refine mz_aI rfl (sh_159 _) (by omega) (by omega) (by decide) hIg23 (ba_159 _) (fun v36 e_v36 l_v36 u_v36 => ?_)
                replace hE := zf_tr hE (zf_le e_v36)
                refine mm_g 2 (pc1 := 114) (lo1 := [some (.ref 137), some (.int (Int32.ofInt a1)), some (.int (Int32.ofInt 17)), some (.int (Int32.ofInt v1)), some (.int (Int32.ofInt v17)), some (.int (Int32.ofInt ((17 * v1) + v17))), some (.int (Int32.ofInt 0)), some (.int (Int32.ofInt v35)), some (.int (Int32.ofInt v36)), o22]) (st1 := [.ref 137]) (H1 := mz_mk g23 x) rfl ?_
                refine mz_fgR (v := 159) rfl fd_12_94 (by decide) (sc_137 _) (rf_137_35 _ _ _) ?_
                refine mm_g 2 (pc1 := 120) (lo1 := [some (.ref 137), some (.int (Int32.ofInt a1)), some (.int (Int32.ofInt 17)), some (.int (Int32.ofInt v1)), some (.int (Int32.ofInt v17)), some (.int (Int32.ofInt ((17 * v1) + v17))), some (.int (Int32.ofInt 0)), some (.int (Int32.ofInt v35)), some (.int (Int32.ofInt v36)), o22]) (st1 := [.int (Int32.ofInt 17), .int (Int32.ofInt ((17 * v1) + v17)), .ref 159]) (H1 := mz_mk g23 x) rfl ?_
                refine mz_isub rfl ?_
                refine mm_g 1 (pc1 := 122) (lo1 := [some (.ref 137), some (.int (Int32.ofInt a1)), some (.int (Int32.ofInt 17)), some (.int (Int32.ofInt v1)), some (.int (Int32.ofInt v17)), some (.int (Int32.ofInt ((17 * v1) + v17))), some (.int (Int32.ofInt 0)), some (.int (Int32.ofInt v35)), some (.int (Int32.ofInt v36)), o22]) (st1 := [.int (Int32.ofInt 1), .int (Int32.ofInt (((17 * v1) + v17) - 17)), .ref 159]) (H1 := mz_mk g23 x) rfl ?_
                refine mz_isub rfl ?_
                refine mz_aI rfl (sh_159 _) (by omega) (by omega) (by decide) hIg23 (ba_159 _) (fun v37 e_v37 l_v37 u_v37 => ?_)
                replace hE := zf_tr hE (zf_le e_v37)
                refine mm_g 2 (pc1 := 127) (lo1 := [some (.ref 137), some (.int (Int32.ofInt a1)), some (.int (Int32.ofInt 17)), some (.int (Int32.ofInt v1)), some (.int (Int32.ofInt v17)), some (.int (Int32.ofInt ((17 * v1) + v17))), some (.int (Int32.ofInt 0)), some (.int (Int32.ofInt v35)), some (.int (Int32.ofInt v36)), some (.int (Int32.ofInt v37))]) (st1 := [.ref 137]) (H1 := mz_mk g23 x) rfl ?_
                refine mz_fgR (v := 159) rfl fd_12_94 (by decide) (sc_137 _) (rf_137_35 _ _ _) ?_
                refine mm_g 2 (pc1 := 133) (lo1 := [some (.ref 137), some (.int (Int32.ofInt a1)), some (.int (Int32.ofInt 17)), some (.int (Int32.ofInt v1)), some (.int (Int32.ofInt v17)), some (.int (Int32.ofInt ((17 * v1) + v17))), some (.int (Int32.ofInt 0)), some (.int (Int32.ofInt v35)), some (.int (Int32.ofInt v36)), some (.int (Int32.ofInt v37))]) (st1 := [.int (Int32.ofInt a1), .int (Int32.ofInt ((17 * v1) + v17)), .ref 159]) (H1 := mz_mk g23 x) rfl ?_
                refine mz_if_eq (tgt := 164) rfl rfl (mz_rg l_a1 u_a1) (fun c133_37 => ?_) (fun c133_37 => ?_)
                · skip
                  replace hE := zf_ip hE c133_37
                  refine mm_g 1 (pc1 := 166) (lo1 := [some (.ref 137), some (.int (Int32.ofInt a1)), some (.int (Int32.ofInt 17)), some (.int (Int32.ofInt v1)), some (.int (Int32.ofInt v17)), some (.int (Int32.ofInt ((17 * v1) + v17))), some (.int (Int32.ofInt 0)), some (.int (Int32.ofInt v35)), some (.int (Int32.ofInt v36)), some (.int (Int32.ofInt v37))]) (st1 := [.int (Int32.ofInt 0), .int (Int32.ofInt ((17 * v1) + v17)), .ref 159]) (H1 := mz_mk g23 x) rfl ?_
                  refine mz_if_eq (tgt := 176) rfl rfl ⟨by decide, by decide⟩ (fun c166_37 => ?_) (fun c166_37 => ?_)
                  · skip
                    (try unfold zJ_X12_compared_42 at hE)
                    (try unfold zJ_X12_compared_60 at hE)
                    (try unfold zJ_X12_compared_184 at hE)
                    (try unfold zJ_X12_compared_89 at hE)
                    (try unfold zJ_X12_compared_183 at hE)
                    (try unfold zJ_X12_compared_148 at hE)
                    (try unfold zJ_X12_compared_42 at hE)
                    (try unfold zJ_X12_compared_60 at hE)
                    (try unfold zJ_X12_compared_184 at hE)
                    (try unfold zJ_X12_compared_89 at hE)
                    (try unfold zJ_X12_compared_183 at hE)
                    (try unfold zJ_X12_compared_148 at hE)
                    replace hE := zf_ip hE c166_37
                    refine mm_g 2 (pc1 := 180) (lo1 := [some (.ref 137), some (.int (Int32.ofInt a1)), some (.int (Int32.ofInt 17)), some (.int (Int32.ofInt v1)), some (.int (Int32.ofInt v17)), some (.int (Int32.ofInt ((17 * v1) + v17))), some (.int (Int32.ofInt 0)), some (.int (Int32.ofInt v35)), some (.int (Int32.ofInt v36)), some (.int (Int32.ofInt v37))]) (st1 := [.int (Int32.ofInt v36), .int (Int32.ofInt v35), .int (Int32.ofInt ((17 * v1) + v17)), .ref 159]) (H1 := mz_mk g23 x) rfl ?_
                    refine mz_mx rfl mt_12_329 (Nat.le_of_ble_eq_true rfl) (by omega) (mz_rg l_v35 u_v35) (mz_rg l_v36 u_v36) (fun v38 e_v38 => ?_)
                    have l_v38 : (-2147483648) ≤ v38 := by omega
                    have u_v38 : v38 ≤ 2147483647 := by omega
                    replace hE := zf_tr hE (zf_le e_v38.symm)
                    refine mz_sI rfl (sh_159 _) (by omega) (by omega) (by decide) hIg23 (ba_159 _) (by omega) (by omega) (fun g39 hIg39 hug39 => ?_)
                    replace hE := zf_tr hE (zf_lg hug39)
                    refine mz_iincR (v := v17) (lo2 := [some (.ref 137), some (.int (Int32.ofInt a1)), some (.int (Int32.ofInt 17)), some (.int (Int32.ofInt v1)), some (.int (Int32.ofInt (v17 + 1))), some (.int (Int32.ofInt ((17 * v1) + v17))), some (.int (Int32.ofInt 0)), some (.int (Int32.ofInt v35)), some (.int (Int32.ofInt v36)), some (.int (Int32.ofInt v37))]) rfl rfl rfl (Nat.le_of_ble_eq_true rfl) rfl ?_
                    refine mz_gt (tgt := 16) rfl rfl ?_
                    exact ih24 ((17 - (v17 + 1)).toNat) (by omega) (v17 + 1) (some (.int (Int32.ofInt ((17 * v1) + v17)))) (some (.int (Int32.ofInt 0))) (some (.int (Int32.ofInt v35))) (some (.int (Int32.ofInt v36))) (some (.int (Int32.ofInt v37))) g39 rfl (by omega) (by omega) (mz_nl_i _) (mz_nl_i _) (mz_nl_i _) (mz_nl_i _) (mz_nl_i _) hIg39 (fun k j hk => ((hug39.2 k j (fun h => hk h.1)).trans (hfg23 k j (fun h => hk h)))) ⟨fj28, Nat.lt_of_lt_of_le (show ((17 - (v17 + 1)).toNat) < n25 from (by omega)) fn29, hE⟩
                  · exfalso; omega
                · skip
                  replace hE := zf_in hE c133_37
                  refine mm_g 2 (pc1 := 140) (lo1 := [some (.ref 137), some (.int (Int32.ofInt a1)), some (.int (Int32.ofInt 17)), some (.int (Int32.ofInt v1)), some (.int (Int32.ofInt v17)), some (.int (Int32.ofInt ((17 * v1) + v17))), some (.int (Int32.ofInt 0)), some (.int (Int32.ofInt v35)), some (.int (Int32.ofInt v36)), some (.int (Int32.ofInt v37))]) (st1 := [.int (Int32.ofInt 0), .int (Int32.ofInt v37), .int (Int32.ofInt ((17 * v1) + v17)), .ref 159]) (H1 := mz_mk g23 x) rfl ?_
                  refine mz_if_eq (tgt := 147) rfl rfl ⟨by decide, by decide⟩ (fun c140_39 => ?_) (fun c140_39 => ?_)
                  · skip
                    (try unfold zJ_X12_compared_42 at hE)
                    (try unfold zJ_X12_compared_60 at hE)
                    (try unfold zJ_X12_compared_184 at hE)
                    (try unfold zJ_X12_compared_89 at hE)
                    (try unfold zJ_X12_compared_183 at hE)
                    (try unfold zJ_X12_compared_148 at hE)
                    (try unfold zJ_X12_compared_42 at hE)
                    (try unfold zJ_X12_compared_60 at hE)
                    (try unfold zJ_X12_compared_184 at hE)
                    (try unfold zJ_X12_compared_89 at hE)
                    (try unfold zJ_X12_compared_183 at hE)
                    (try unfold zJ_X12_compared_148 at hE)
                    replace hE := zf_ip hE c140_39
                    refine mm_g 1 (pc1 := 148) (lo1 := [some (.ref 137), some (.int (Int32.ofInt a1)), some (.int (Int32.ofInt 17)), some (.int (Int32.ofInt v1)), some (.int (Int32.ofInt v17)), some (.int (Int32.ofInt ((17 * v1) + v17))), some (.int (Int32.ofInt 0)), some (.int (Int32.ofInt v35)), some (.int (Int32.ofInt v36)), some (.int (Int32.ofInt v37))]) (st1 := [.int (Int32.ofInt 1), .int (Int32.ofInt v37), .int (Int32.ofInt ((17 * v1) + v17)), .ref 159]) (H1 := mz_mk g23 x) rfl ?_
                    refine mz_iadd_w rfl (fun v40 e_v40 hwv40 => ?_)
                    have l_v40 := hwv40.1
                    have u_v40 := hwv40.2
                    replace hE := zf_tr hE (zf_le e_v40.symm)
                    refine mm_g 3 (pc1 := 154) (lo1 := [some (.ref 137), some (.int (Int32.ofInt a1)), some (.int (Int32.ofInt 17)), some (.int (Int32.ofInt v1)), some (.int (Int32.ofInt v17)), some (.int (Int32.ofInt ((17 * v1) + v17))), some (.int (Int32.ofInt 0)), some (.int (Int32.ofInt v35)), some (.int (Int32.ofInt v36)), some (.int (Int32.ofInt v37))]) (st1 := [.int (Int32.ofInt v36), .int (Int32.ofInt v35), .int (Int32.ofInt 1), .int (Int32.ofInt v40), .int (Int32.ofInt ((17 * v1) + v17)), .ref 159]) (H1 := mz_mk g23 x) rfl ?_
                    refine mz_mn rfl mt_12_191 (Nat.le_of_ble_eq_true rfl) (by omega) (mz_rg l_v35 u_v35) (mz_rg l_v36 u_v36) (fun v41 e_v41 => ?_)
                    have l_v41 : (-2147483648) ≤ v41 := by omega
                    have u_v41 : v41 ≤ 2147483647 := by omega
                    replace hE := zf_tr hE (zf_le e_v41.symm)
                    refine mz_iadd_w rfl (fun v42 e_v42 hwv42 => ?_)
                    have l_v42 := hwv42.1
                    have u_v42 := hwv42.2
                    replace hE := zf_tr hE (zf_le e_v42.symm)
                    refine mz_mn rfl mt_12_191 (Nat.le_of_ble_eq_true rfl) (by omega) (mz_rg l_v40 u_v40) (mz_rg l_v42 u_v42) (fun v43 e_v43 => ?_)
                    have l_v43 : (-2147483648) ≤ v43 := by omega
                    have u_v43 : v43 ≤ 2147483647 := by omega
                    replace hE := zf_tr hE (zf_le e_v43.symm)
                    refine mz_gt (tgt := 183) rfl rfl ?_
                    refine mz_sI rfl (sh_159 _) (by omega) (by omega) (by decide) hIg23 (ba_159 _) (by omega) (by omega) (fun g44 hIg44 hug44 => ?_)
                    replace hE := zf_tr hE (zf_lg hug44)
                    refine mz_iincR (v := v17) (lo2 := [some (.ref 137), some (.int (Int32.ofInt a1)), some (.int (Int32.ofInt 17)), some (.int (Int32.ofInt v1)), some (.int (Int32.ofInt (v17 + 1))), some (.int (Int32.ofInt ((17 * v1) + v17))), some (.int (Int32.ofInt 0)), some (.int (Int32.ofInt v35)), some (.int (Int32.ofInt v36)), some (.int (Int32.ofInt v37))]) rfl rfl rfl (Nat.le_of_ble_eq_true rfl) rfl ?_
                    refine mz_gt (tgt := 16) rfl rfl ?_
                    exact ih24 ((17 - (v17 + 1)).toNat) (by omega) (v17 + 1) (some (.int (Int32.ofInt ((17 * v1) + v17)))) (some (.int (Int32.ofInt 0))) (some (.int (Int32.ofInt v35))) (some (.int (Int32.ofInt v36))) (some (.int (Int32.ofInt v37))) g44 rfl (by omega) (by omega) (mz_nl_i _) (mz_nl_i _) (mz_nl_i _) (mz_nl_i _) (mz_nl_i _) hIg44 (fun k j hk => ((hug44.2 k j (fun h => hk h.1)).trans (hfg23 k j (fun h => hk h)))) ⟨fj28, Nat.lt_of_lt_of_le (show ((17 - (v17 + 1)).toNat) < n25 from (by omega)) fn29, hE⟩
                  · exfalso; omega
              · skip
                replace hE := zf_ip hE c81_34
                refine mm_g 1 (pc1 := 85) (lo1 := [some (.ref 137), some (.int (Int32.ofInt a1)), some (.int (Int32.ofInt 17)), some (.int (Int32.ofInt v1)), some (.int (Int32.ofInt v17)), some (.int (Int32.ofInt ((17 * v1) + v17))), o19, o20, o21, o22]) (st1 := [.int (Int32.ofInt 1)]) (H1 := mz_mk g23 x) rfl ?_
                refine mz_gt (tgt := 89) rfl rfl ?_
                refine mm_g 2 (pc1 := 92) (lo1 := [some (.ref 137), some (.int (Int32.ofInt a1)), some (.int (Int32.ofInt 17)), some (.int (Int32.ofInt v1)), some (.int (Int32.ofInt v17)), some (.int (Int32.ofInt ((17 * v1) + v17))), some (.int (Int32.ofInt 1)), o20, o21, o22]) (st1 := [.ref 137]) (H1 := mz_mk g23 x) rfl ?_
                refine mz_fgR (v := 159) rfl fd_12_94 (by decide) (sc_137 _) (rf_137_35 _ _ _) ?_
                refine mm_g 2 (pc1 := 98) (lo1 := [some (.ref 137), some (.int (Int32.ofInt a1)), some (.int (Int32.ofInt 17)), some (.int (Int32.ofInt v1)), some (.int (Int32.ofInt v17)), some (.int (Int32.ofInt ((17 * v1) + v17))), some (.int (Int32.ofInt 1)), o20, o21, o22]) (st1 := [.int (Int32.ofInt 17), .int (Int32.ofInt ((17 * v1) + v17)), .ref 159]) (H1 := mz_mk g23 x) rfl ?_
                refine mz_isub rfl ?_
                refine mz_aI rfl (sh_159 _) (by omega) (by omega) (by decide) hIg23 (ba_159 _) (fun v45 e_v45 l_v45 u_v45 => ?_)
                replace hE := zf_tr hE (zf_le e_v45)
                refine mm_g 2 (pc1 := 103) (lo1 := [some (.ref 137), some (.int (Int32.ofInt a1)), some (.int (Int32.ofInt 17)), some (.int (Int32.ofInt v1)), some (.int (Int32.ofInt v17)), some (.int (Int32.ofInt ((17 * v1) + v17))), some (.int (Int32.ofInt 1)), some (.int (Int32.ofInt v45)), o21, o22]) (st1 := [.ref 137]) (H1 := mz_mk g23 x) rfl ?_
                refine mz_fgR (v := 159) rfl fd_12_94 (by decide) (sc_137 _) (rf_137_35 _ _ _) ?_
                refine mm_g 2 (pc1 := 109) (lo1 := [some (.ref 137), some (.int (Int32.ofInt a1)), some (.int (Int32.ofInt 17)), some (.int (Int32.ofInt v1)), some (.int (Int32.ofInt v17)), some (.int (Int32.ofInt ((17 * v1) + v17))), some (.int (Int32.ofInt 1)), some (.int (Int32.ofInt v45)), o21, o22]) (st1 := [.int (Int32.ofInt 1), .int (Int32.ofInt ((17 * v1) + v17)), .ref 159]) (H1 := mz_mk g23 x) rfl ?_
                refine mz_isub rfl ?_
                refine mz_aI rfl (sh_159 _) (by omega) (by omega) (by decide) hIg23 (ba_159 _) (fun v46 e_v46 l_v46 u_v46 => ?_)
                replace hE := zf_tr hE (zf_le e_v46)
                refine mm_g 2 (pc1 := 114) (lo1 := [some (.ref 137), some (.int (Int32.ofInt a1)), some (.int (Int32.ofInt 17)), some (.int (Int32.ofInt v1)), some (.int (Int32.ofInt v17)), some (.int (Int32.ofInt ((17 * v1) + v17))), some (.int (Int32.ofInt 1)), some (.int (Int32.ofInt v45)), some (.int (Int32.ofInt v46)), o22]) (st1 := [.ref 137]) (H1 := mz_mk g23 x) rfl ?_
                refine mz_fgR (v := 159) rfl fd_12_94 (by decide) (sc_137 _) (rf_137_35 _ _ _) ?_
                refine mm_g 2 (pc1 := 120) (lo1 := [some (.ref 137), some (.int (Int32.ofInt a1)), some (.int (Int32.ofInt 17)), some (.int (Int32.ofInt v1)), some (.int (Int32.ofInt v17)), some (.int (Int32.ofInt ((17 * v1) + v17))), some (.int (Int32.ofInt 1)), some (.int (Int32.ofInt v45)), some (.int (Int32.ofInt v46)), o22]) (st1 := [.int (Int32.ofInt 17), .int (Int32.ofInt ((17 * v1) + v17)), .ref 159]) (H1 := mz_mk g23 x) rfl ?_
                refine mz_isub rfl ?_
                refine mm_g 1 (pc1 := 122) (lo1 := [some (.ref 137), some (.int (Int32.ofInt a1)), some (.int (Int32.ofInt 17)), some (.int (Int32.ofInt v1)), some (.int (Int32.ofInt v17)), some (.int (Int32.ofInt ((17 * v1) + v17))), some (.int (Int32.ofInt 1)), some (.int (Int32.ofInt v45)), some (.int (Int32.ofInt v46)), o22]) (st1 := [.int (Int32.ofInt 1), .int (Int32.ofInt (((17 * v1) + v17) - 17)), .ref 159]) (H1 := mz_mk g23 x) rfl ?_
                refine mz_isub rfl ?_
                refine mz_aI rfl (sh_159 _) (by omega) (by omega) (by decide) hIg23 (ba_159 _) (fun v47 e_v47 l_v47 u_v47 => ?_)
                replace hE := zf_tr hE (zf_le e_v47)
                refine mm_g 2 (pc1 := 127) (lo1 := [some (.ref 137), some (.int (Int32.ofInt a1)), some (.int (Int32.ofInt 17)), some (.int (Int32.ofInt v1)), some (.int (Int32.ofInt v17)), some (.int (Int32.ofInt ((17 * v1) + v17))), some (.int (Int32.ofInt 1)), some (.int (Int32.ofInt v45)), some (.int (Int32.ofInt v46)), some (.int (Int32.ofInt v47))]) (st1 := [.ref 137]) (H1 := mz_mk g23 x) rfl ?_
                refine mz_fgR (v := 159) rfl fd_12_94 (by decide) (sc_137 _) (rf_137_35 _ _ _) ?_
                refine mm_g 2 (pc1 := 133) (lo1 := [some (.ref 137), some (.int (Int32.ofInt a1)), some (.int (Int32.ofInt 17)), some (.int (Int32.ofInt v1)), some (.int (Int32.ofInt v17)), some (.int (Int32.ofInt ((17 * v1) + v17))), some (.int (Int32.ofInt 1)), some (.int (Int32.ofInt v45)), some (.int (Int32.ofInt v46)), some (.int (Int32.ofInt v47))]) (st1 := [.int (Int32.ofInt a1), .int (Int32.ofInt ((17 * v1) + v17)), .ref 159]) (H1 := mz_mk g23 x) rfl ?_
                refine mz_if_eq (tgt := 164) rfl rfl (mz_rg l_a1 u_a1) (fun c133_47 => ?_) (fun c133_47 => ?_)
                · skip
                  replace hE := zf_ip hE c133_47
                  refine mm_g 1 (pc1 := 166) (lo1 := [some (.ref 137), some (.int (Int32.ofInt a1)), some (.int (Int32.ofInt 17)), some (.int (Int32.ofInt v1)), some (.int (Int32.ofInt v17)), some (.int (Int32.ofInt ((17 * v1) + v17))), some (.int (Int32.ofInt 1)), some (.int (Int32.ofInt v45)), some (.int (Int32.ofInt v46)), some (.int (Int32.ofInt v47))]) (st1 := [.int (Int32.ofInt 1), .int (Int32.ofInt ((17 * v1) + v17)), .ref 159]) (H1 := mz_mk g23 x) rfl ?_
                  refine mz_if_eq (tgt := 176) rfl rfl ⟨by decide, by decide⟩ (fun c166_47 => ?_) (fun c166_47 => ?_)
                  · exfalso; omega
                  · skip
                    (try unfold zJ_X12_compared_42 at hE)
                    (try unfold zJ_X12_compared_60 at hE)
                    (try unfold zJ_X12_compared_184 at hE)
                    (try unfold zJ_X12_compared_89 at hE)
                    (try unfold zJ_X12_compared_183 at hE)
                    (try unfold zJ_X12_compared_148 at hE)
                    (try unfold zJ_X12_compared_42 at hE)
                    (try unfold zJ_X12_compared_60 at hE)
                    (try unfold zJ_X12_compared_184 at hE)
                    (try unfold zJ_X12_compared_89 at hE)
                    (try unfold zJ_X12_compared_183 at hE)
                    (try unfold zJ_X12_compared_148 at hE)
                    replace hE := zf_in hE c166_47
                    refine mm_g 2 (pc1 := 172) (lo1 := [some (.ref 137), some (.int (Int32.ofInt a1)), some (.int (Int32.ofInt 17)), some (.int (Int32.ofInt v1)), some (.int (Int32.ofInt v17)), some (.int (Int32.ofInt ((17 * v1) + v17))), some (.int (Int32.ofInt 1)), some (.int (Int32.ofInt v45)), some (.int (Int32.ofInt v46)), some (.int (Int32.ofInt v47))]) (st1 := [.int (Int32.ofInt 1), .int (Int32.ofInt v47), .int (Int32.ofInt ((17 * v1) + v17)), .ref 159]) (H1 := mz_mk g23 x) rfl ?_
                    refine mz_iadd_w rfl (fun v48 e_v48 hwv48 => ?_)
                    have l_v48 := hwv48.1
                    have u_v48 := hwv48.2
                    replace hE := zf_tr hE (zf_le e_v48.symm)
                    refine mz_gt (tgt := 183) rfl rfl ?_
                    refine mz_sI rfl (sh_159 _) (by omega) (by omega) (by decide) hIg23 (ba_159 _) (by omega) (by omega) (fun g49 hIg49 hug49 => ?_)
                    replace hE := zf_tr hE (zf_lg hug49)
                    refine mz_iincR (v := v17) (lo2 := [some (.ref 137), some (.int (Int32.ofInt a1)), some (.int (Int32.ofInt 17)), some (.int (Int32.ofInt v1)), some (.int (Int32.ofInt (v17 + 1))), some (.int (Int32.ofInt ((17 * v1) + v17))), some (.int (Int32.ofInt 1)), some (.int (Int32.ofInt v45)), some (.int (Int32.ofInt v46)), some (.int (Int32.ofInt v47))]) rfl rfl rfl (Nat.le_of_ble_eq_true rfl) rfl ?_
                    refine mz_gt (tgt := 16) rfl rfl ?_
                    exact ih24 ((17 - (v17 + 1)).toNat) (by omega) (v17 + 1) (some (.int (Int32.ofInt ((17 * v1) + v17)))) (some (.int (Int32.ofInt 1))) (some (.int (Int32.ofInt v45))) (some (.int (Int32.ofInt v46))) (some (.int (Int32.ofInt v47))) g49 rfl (by omega) (by omega) (mz_nl_i _) (mz_nl_i _) (mz_nl_i _) (mz_nl_i _) (mz_nl_i _) hIg49 (fun k j hk => ((hug49.2 k j (fun h => hk h.1)).trans (hfg23 k j (fun h => hk h)))) ⟨fj28, Nat.lt_of_lt_of_le (show ((17 - (v17 + 1)).toNat) < n25 from (by omega)) fn29, hE⟩
                · skip
                  replace hE := zf_in hE c133_47
                  refine mm_g 2 (pc1 := 140) (lo1 := [some (.ref 137), some (.int (Int32.ofInt a1)), some (.int (Int32.ofInt 17)), some (.int (Int32.ofInt v1)), some (.int (Int32.ofInt v17)), some (.int (Int32.ofInt ((17 * v1) + v17))), some (.int (Int32.ofInt 1)), some (.int (Int32.ofInt v45)), some (.int (Int32.ofInt v46)), some (.int (Int32.ofInt v47))]) (st1 := [.int (Int32.ofInt 1), .int (Int32.ofInt v47), .int (Int32.ofInt ((17 * v1) + v17)), .ref 159]) (H1 := mz_mk g23 x) rfl ?_
                  refine mz_if_eq (tgt := 147) rfl rfl ⟨by decide, by decide⟩ (fun c140_49 => ?_) (fun c140_49 => ?_)
                  · exfalso; omega
                  · skip
                    (try unfold zJ_X12_compared_42 at hE)
                    (try unfold zJ_X12_compared_60 at hE)
                    (try unfold zJ_X12_compared_184 at hE)
                    (try unfold zJ_X12_compared_89 at hE)
                    (try unfold zJ_X12_compared_183 at hE)
                    (try unfold zJ_X12_compared_148 at hE)
                    (try unfold zJ_X12_compared_42 at hE)
                    (try unfold zJ_X12_compared_60 at hE)
                    (try unfold zJ_X12_compared_184 at hE)
                    (try unfold zJ_X12_compared_89 at hE)
                    (try unfold zJ_X12_compared_183 at hE)
                    (try unfold zJ_X12_compared_148 at hE)
                    replace hE := zf_in hE c140_49
                    refine mm_g 1 (pc1 := 144) (lo1 := [some (.ref 137), some (.int (Int32.ofInt a1)), some (.int (Int32.ofInt 17)), some (.int (Int32.ofInt v1)), some (.int (Int32.ofInt v17)), some (.int (Int32.ofInt ((17 * v1) + v17))), some (.int (Int32.ofInt 1)), some (.int (Int32.ofInt v45)), some (.int (Int32.ofInt v46)), some (.int (Int32.ofInt v47))]) (st1 := [.int (Int32.ofInt 0), .int (Int32.ofInt v47), .int (Int32.ofInt ((17 * v1) + v17)), .ref 159]) (H1 := mz_mk g23 x) rfl ?_
                    refine mz_gt (tgt := 148) rfl rfl ?_
                    refine mz_iadd rfl ?_
                    replace hE := zf_tr hE (zf_lw ⟨by omega, by omega⟩)
                    refine mm_g 3 (pc1 := 154) (lo1 := [some (.ref 137), some (.int (Int32.ofInt a1)), some (.int (Int32.ofInt 17)), some (.int (Int32.ofInt v1)), some (.int (Int32.ofInt v17)), some (.int (Int32.ofInt ((17 * v1) + v17))), some (.int (Int32.ofInt 1)), some (.int (Int32.ofInt v45)), some (.int (Int32.ofInt v46)), some (.int (Int32.ofInt v47))]) (st1 := [.int (Int32.ofInt v46), .int (Int32.ofInt v45), .int (Int32.ofInt 1), .int (Int32.ofInt (v47 + 0)), .int (Int32.ofInt ((17 * v1) + v17)), .ref 159]) (H1 := mz_mk g23 x) rfl ?_
                    refine mz_mn rfl mt_12_191 (Nat.le_of_ble_eq_true rfl) (by omega) (mz_rg l_v45 u_v45) (mz_rg l_v46 u_v46) (fun v50 e_v50 => ?_)
                    have l_v50 : (-2147483648) ≤ v50 := by omega
                    have u_v50 : v50 ≤ 2147483647 := by omega
                    replace hE := zf_tr hE (zf_le e_v50.symm)
                    refine mz_iadd_w rfl (fun v51 e_v51 hwv51 => ?_)
                    have l_v51 := hwv51.1
                    have u_v51 := hwv51.2
                    replace hE := zf_tr hE (zf_le e_v51.symm)
                    refine mz_mn rfl mt_12_191 (Nat.le_of_ble_eq_true rfl) (by omega) ⟨by omega, by omega⟩ (mz_rg l_v51 u_v51) (fun v52 e_v52 => ?_)
                    have l_v52 : (-2147483648) ≤ v52 := by omega
                    have u_v52 : v52 ≤ 2147483647 := by omega
                    replace hE := zf_tr hE (zf_le e_v52.symm)
                    refine mz_gt (tgt := 183) rfl rfl ?_
                    refine mz_sI rfl (sh_159 _) (by omega) (by omega) (by decide) hIg23 (ba_159 _) (by omega) (by omega) (fun g53 hIg53 hug53 => ?_)
                    replace hE := zf_tr hE (zf_lg hug53)
                    refine mz_iincR (v := v17) (lo2 := [some (.ref 137), some (.int (Int32.ofInt a1)), some (.int (Int32.ofInt 17)), some (.int (Int32.ofInt v1)), some (.int (Int32.ofInt (v17 + 1))), some (.int (Int32.ofInt ((17 * v1) + v17))), some (.int (Int32.ofInt 1)), some (.int (Int32.ofInt v45)), some (.int (Int32.ofInt v46)), some (.int (Int32.ofInt v47))]) rfl rfl rfl (Nat.le_of_ble_eq_true rfl) rfl ?_
                    refine mz_gt (tgt := 16) rfl rfl ?_
                    exact ih24 ((17 - (v17 + 1)).toNat) (by omega) (v17 + 1) (some (.int (Int32.ofInt ((17 * v1) + v17)))) (some (.int (Int32.ofInt 1))) (some (.int (Int32.ofInt v45))) (some (.int (Int32.ofInt v46))) (some (.int (Int32.ofInt v47))) g53 rfl (by omega) (by omega) (mz_nl_i _) (mz_nl_i _) (mz_nl_i _) (mz_nl_i _) (mz_nl_i _) hIg53 (fun k j hk => ((hug53.2 k j (fun h => hk h.1)).trans (hfg23 k j (fun h => hk h)))) ⟨fj28, Nat.lt_of_lt_of_le (show ((17 - (v17 + 1)).toNat) < n25 from (by omega)) fn29, hE⟩
            · skip
              replace hE := zf_ip hE c39_32
              refine mm_g 1 (pc1 := 43) (lo1 := [some (.ref 137), some (.int (Int32.ofInt a1)), some (.int (Int32.ofInt 17)), some (.int (Int32.ofInt v1)), some (.int (Int32.ofInt v17)), some (.int (Int32.ofInt ((17 * v1) + v17))), o19, o20, o21, o22]) (st1 := [.ref 137]) (H1 := mz_mk g23 x) rfl ?_
              refine mz_fgR (v := 159) rfl fd_12_94 (by decide) (sc_137 _) (rf_137_35 _ _ _) ?_
              refine mm_g 2 (pc1 := 49) (lo1 := [some (.ref 137), some (.int (Int32.ofInt a1)), some (.int (Int32.ofInt 17)), some (.int (Int32.ofInt v1)), some (.int (Int32.ofInt v17)), some (.int (Int32.ofInt ((17 * v1) + v17))), o19, o20, o21, o22]) (st1 := [.int (Int32.ofInt a1), .int (Int32.ofInt ((17 * v1) + v17)), .ref 159]) (H1 := mz_mk g23 x) rfl ?_
              refine mz_if_eq (tgt := 59) rfl rfl (mz_rg l_a1 u_a1) (fun c49_53 => ?_) (fun c49_53 => ?_)
              · skip
                replace hE := zf_ip hE c49_53
                refine mm_g 1 (pc1 := 60) (lo1 := [some (.ref 137), some (.int (Int32.ofInt a1)), some (.int (Int32.ofInt 17)), some (.int (Int32.ofInt v1)), some (.int (Int32.ofInt v17)), some (.int (Int32.ofInt ((17 * v1) + v17))), o19, o20, o21, o22]) (st1 := [.int (Int32.ofInt 0), .int (Int32.ofInt ((17 * v1) + v17)), .ref 159]) (H1 := mz_mk g23 x) rfl ?_
                refine mz_sI rfl (sh_159 _) (by omega) (by omega) (by decide) hIg23 (ba_159 _) (by omega) (by omega) (fun g54 hIg54 hug54 => ?_)
                replace hE := zf_tr hE (zf_lg hug54)
                refine mz_gt (tgt := 184) rfl rfl ?_
                refine mz_iincR (v := v17) (lo2 := [some (.ref 137), some (.int (Int32.ofInt a1)), some (.int (Int32.ofInt 17)), some (.int (Int32.ofInt v1)), some (.int (Int32.ofInt (v17 + 1))), some (.int (Int32.ofInt ((17 * v1) + v17))), o19, o20, o21, o22]) rfl rfl rfl (Nat.le_of_ble_eq_true rfl) rfl ?_
                refine mz_gt (tgt := 16) rfl rfl ?_
                exact ih24 ((17 - (v17 + 1)).toNat) (by omega) (v17 + 1) (some (.int (Int32.ofInt ((17 * v1) + v17)))) o19 o20 o21 o22 g54 rfl (by omega) (by omega) (mz_nl_i _) h_o19 h_o20 h_o21 h_o22 hIg54 (fun k j hk => ((hug54.2 k j (fun h => hk h.1)).trans (hfg23 k j (fun h => hk h)))) ⟨fj28, Nat.lt_of_lt_of_le (show ((17 - (v17 + 1)).toNat) < n25 from (by omega)) fn29, hE⟩
              · skip
                replace hE := zf_in hE c49_53
                refine mm_g 2 (pc1 := 55) (lo1 := [some (.ref 137), some (.int (Int32.ofInt a1)), some (.int (Int32.ofInt 17)), some (.int (Int32.ofInt v1)), some (.int (Int32.ofInt v17)), some (.int (Int32.ofInt ((17 * v1) + v17))), o19, o20, o21, o22]) (st1 := [.int (Int32.ofInt v17), .int (Int32.ofInt v1), .int (Int32.ofInt ((17 * v1) + v17)), .ref 159]) (H1 := mz_mk g23 x) rfl ?_
                refine mz_iadd rfl ?_
                refine mz_gt (tgt := 60) rfl rfl ?_
                refine mz_sI rfl (sh_159 _) (by omega) (by omega) (by decide) hIg23 (ba_159 _) (by omega) (by omega) (fun g55 hIg55 hug55 => ?_)
                replace hE := zf_tr hE (zf_lg hug55)
                refine mz_gt (tgt := 184) rfl rfl ?_
                refine mz_iincR (v := v17) (lo2 := [some (.ref 137), some (.int (Int32.ofInt a1)), some (.int (Int32.ofInt 17)), some (.int (Int32.ofInt v1)), some (.int (Int32.ofInt (v17 + 1))), some (.int (Int32.ofInt ((17 * v1) + v17))), o19, o20, o21, o22]) rfl rfl rfl (Nat.le_of_ble_eq_true rfl) rfl ?_
                refine mz_gt (tgt := 16) rfl rfl ?_
                exact ih24 ((17 - (v17 + 1)).toNat) (by omega) (v17 + 1) (some (.int (Int32.ofInt ((17 * v1) + v17)))) o19 o20 o21 o22 g55 rfl (by omega) (by omega) (mz_nl_i _) h_o19 h_o20 h_o21 h_o22 hIg55 (fun k j hk => ((hug55.2 k j (fun h => hk h.1)).trans (hfg23 k j (fun h => hk h)))) ⟨fj28, Nat.lt_of_lt_of_le (show ((17 - (v17 + 1)).toNat) < n25 from (by omega)) fn29, hE⟩
      exact L27 _ 0 o3 o4 o5 o6 o7 g8 rfl (by decide) (by decide) h_o3 h_o4 h_o5 h_o6 h_o7 hIg8 (fun _ _ _ => rfl) ⟨3000000000, by omega, zf_rf⟩
  exact L11 _ 0 none none none none none none g rfl (by decide) (by decide) mz_nl_n mz_nl_n mz_nl_n mz_nl_n mz_nl_n mz_nl_n hI (fun _ _ _ => rfl) ⟨3000000000, by omega, hE⟩
theorem f_X12_isWithin {d : Nat} (hd : 1 ≤ d) {x : mm_X} (hx : mk_x x) {g : mz_G} (hI : mz_inv g) {Q : (Option Value ⊕ Nat) → mm_H → Prop} (hQ : ∀ (r : Int), 0 ≤ r → r ≤ 1 → zf_E (zF_X12_isWithin g) (r) → Q (.inl (some (.int (Int32.ofInt r)))) (mz_mk g x)) : mm_C d 226 [.ref 137] (mz_mk g x) Q := by
  refine ⟨mmX12_isWithin, [some (.ref 137), none, none, none], rfl, rfl, ?_⟩
  have hE : zf_E (zF_X12_isWithin g) (zF_X12_isWithin g) := zf_rf
  refine mm_g 2 (pc1 := 2) (lo1 := [some (.ref 137), some (.int (Int32.ofInt 0)), none, none]) (st1 := []) (H1 := mz_mk g x) rfl ?_
  have L7 : ∀ n6 : Nat, ∀ (v1 : Int) (o2 : Option Value) (o3 : Option Value), (17 - v1).toNat = n6 → 0 ≤ v1 → v1 ≤ 17 → mz_nl o2 → mz_nl o3 → (∃ fk : Nat, (17 - v1).toNat < fk ∧ zf_E (zF_X12_isWithin g) (zL_X12_isWithin_2 g fk v1)) → mm_W d mmX12_isWithin 2 [some (.ref 137), some (.int (Int32.ofInt v1)), o2, o3] [] (mz_mk g x) Q := by
    intro n6
    induction n6 using Nat.strongRecOn with
    | ind n6 ih5 =>
    intro v1 o2 o3 hmn6 l_v1 u_v1 h_o2 h_o3 hF
    obtain ⟨fk, fl, hE⟩ := hF
    obtain ⟨fj8, rfl⟩ : ∃ fj, fk = fj + 1 := ⟨fk - 1, by omega⟩
    have fn9 : n6 ≤ fj8 := by omega
    replace hE := zf_tr hE zL_X12_isWithin_2_s
    refine mm_g 2 (pc1 := 4) (lo1 := [some (.ref 137), some (.int (Int32.ofInt v1)), o2, o3]) (st1 := [.ref 137, .int (Int32.ofInt v1)]) (H1 := mz_mk g x) rfl ?_
    refine mz_gI rfl fd_12_326 (by decide) (sc_137 _) hI bd_137_37 (fun v10 e_v10 l_v10 u_v10 => ?_)
    replace hE := zf_tr hE (zf_le e_v10)
    refine mz_iadd rfl ?_
    refine mm_g 1 (pc1 := 9) (lo1 := [some (.ref 137), some (.int (Int32.ofInt v1)), o2, o3]) (st1 := [.ref 137, .int (Int32.ofInt (v1 + v10))]) (H1 := mz_mk g x) rfl ?_
    refine mz_gI rfl fd_12_323 (by decide) (sc_137 _) hI bd_137_36 (fun v11 e_v11 l_v11 u_v11 => ?_)
    replace hE := zf_tr hE (zf_le e_v11)
    refine mz_ic_gt (tgt := 72) rfl rfl ⟨by omega, by omega⟩ (mz_rg l_v11 u_v11) (fun c12_11 => ?_) (fun c12_11 => ?_)
    · skip
      replace hE := zf_ip hE c12_11
      refine mm_g 1 (pc1 := 73) (lo1 := [some (.ref 137), some (.int (Int32.ofInt v1)), o2, o3]) (st1 := [.int (Int32.ofInt 0)]) (H1 := mz_mk g x) rfl ?_
      exact mz_rtZ rfl (by decide) (by omega) (hQ _ (by decide) (by decide) hE)
    · skip
      replace hE := zf_nl hE c12_11
      refine mm_g 4 (pc1 := 19) (lo1 := [some (.ref 137), some (.int (Int32.ofInt v1)), some (.int (Int32.ofInt 1)), some (.int (Int32.ofInt 0))]) (st1 := []) (H1 := mz_mk g x) rfl ?_
      have hO17 := hE
      have L18 : ∀ n16 : Nat, ∀ (v12 : Int) (v13 : Int), (16 - v13).toNat = n16 → 0 ≤ v12 → v12 ≤ 1 → 0 ≤ v13 → v13 ≤ 16 → (∃ fk : Nat, (16 - v13).toNat < fk ∧ zf_E (zL_X12_isWithin_19 g 3000000000 v1 1 0) (zL_X12_isWithin_19 g fk v1 v12 v13)) → mm_W d mmX12_isWithin 19 [some (.ref 137), some (.int (Int32.ofInt v1)), some (.int (Int32.ofInt v12)), some (.int (Int32.ofInt v13))] [] (mz_mk g x) Q := by
        intro n16
        induction n16 using Nat.strongRecOn with
        | ind n16 ih15 =>
        intro v12 v13 hmn16 l_v12 u_v12 l_v13 u_v13 hF
        obtain ⟨fk, fl, hE⟩ := hF
        obtain ⟨fj19, rfl⟩ : ∃ fj, fk = fj + 1 := ⟨fk - 1, by omega⟩
        have fn20 : n16 ≤ fj19 := by omega
        replace hE := zf_tr hE zL_X12_isWithin_19_s
        refine mm_g 2 (pc1 := 21) (lo1 := [some (.ref 137), some (.int (Int32.ofInt v1)), some (.int (Int32.ofInt v12)), some (.int (Int32.ofInt v13))]) (st1 := [.ref 137, .int (Int32.ofInt v13)]) (H1 := mz_mk g x) rfl ?_
        refine mz_fgI (v := v10) rfl fd_12_326 (by decide) (sc_137 _) e_v10 ?_
        replace hE := zf_tr hE (zf_le e_v10)
        refine mz_ic_ge (tgt := 60) rfl rfl (mz_rg l_v13 u_v13) (mz_rg l_v10 u_v10) (fun c24_20 => ?_) (fun c24_20 => ?_)
        · skip
          replace hE := zf_nl hE c24_20
          replace hE := zf_t1 hO17 hE
          refine mm_g 1 (pc1 := 61) (lo1 := [some (.ref 137), some (.int (Int32.ofInt v1)), some (.int (Int32.ofInt v12)), some (.int (Int32.ofInt v13))]) (st1 := [.int (Int32.ofInt v12)]) (H1 := mz_mk g x) rfl ?_
          refine mz_if_eq (tgt := 66) rfl rfl (mz_rg l_v12 u_v12) (fun c61_20 => ?_) (fun c61_20 => ?_)
          · skip
            replace hE := zf_ip hE c61_20
            refine mz_iincR (v := v1) (lo2 := [some (.ref 137), some (.int (Int32.ofInt (v1 + 1))), some (.int (Int32.ofInt v12)), some (.int (Int32.ofInt v13))]) rfl rfl rfl (Nat.le_of_ble_eq_true rfl) rfl ?_
            refine mz_gt (tgt := 2) rfl rfl ?_
            exact ih5 ((17 - (v1 + 1)).toNat) (by omega) (v1 + 1) (some (.int (Int32.ofInt v12))) (some (.int (Int32.ofInt v13))) rfl (by omega) (by omega) (mz_nl_i _) (mz_nl_i _) ⟨fj8, Nat.lt_of_lt_of_le (show ((17 - (v1 + 1)).toNat) < n6 from (by omega)) fn9, hE⟩
          · skip
            replace hE := zf_in hE c61_20
            refine mm_g 1 (pc1 := 65) (lo1 := [some (.ref 137), some (.int (Int32.ofInt v1)), some (.int (Int32.ofInt v12)), some (.int (Int32.ofInt v13))]) (st1 := [.int (Int32.ofInt 1)]) (H1 := mz_mk g x) rfl ?_
            exact mz_rtZ rfl (by decide) (by omega) (hQ _ (by decide) (by decide) hE)
        · skip
          replace hE := zf_ip hE c24_20
          refine mm_g 1 (pc1 := 28) (lo1 := [some (.ref 137), some (.int (Int32.ofInt v1)), some (.int (Int32.ofInt v12)), some (.int (Int32.ofInt v13))]) (st1 := [.int (Int32.ofInt v12)]) (H1 := mz_mk g x) rfl ?_
          refine mz_if_eq (tgt := 60) rfl rfl (mz_rg l_v12 u_v12) (fun c28_20 => ?_) (fun c28_20 => ?_)
          · skip
            replace hE := zf_ip hE c28_20
            replace hE := zf_t1 hO17 hE
            refine mm_g 1 (pc1 := 61) (lo1 := [some (.ref 137), some (.int (Int32.ofInt v1)), some (.int (Int32.ofInt v12)), some (.int (Int32.ofInt v13))]) (st1 := [.int (Int32.ofInt v12)]) (H1 := mz_mk g x) rfl ?_
            refine mz_if_eq (tgt := 66) rfl rfl (mz_rg l_v12 u_v12) (fun c61_20 => ?_) (fun c61_20 => ?_)
            · skip
              replace hE := zf_ip hE c61_20
              refine mz_iincR (v := v1) (lo2 := [some (.ref 137), some (.int (Int32.ofInt (v1 + 1))), some (.int (Int32.ofInt v12)), some (.int (Int32.ofInt v13))]) rfl rfl rfl (Nat.le_of_ble_eq_true rfl) rfl ?_
              refine mz_gt (tgt := 2) rfl rfl ?_
              exact ih5 ((17 - (v1 + 1)).toNat) (by omega) (v1 + 1) (some (.int (Int32.ofInt v12))) (some (.int (Int32.ofInt v13))) rfl (by omega) (by omega) (mz_nl_i _) (mz_nl_i _) ⟨fj8, Nat.lt_of_lt_of_le (show ((17 - (v1 + 1)).toNat) < n6 from (by omega)) fn9, hE⟩
            · exfalso; omega
          · skip
            replace hE := zf_in hE c28_20
            refine mm_g 1 (pc1 := 32) (lo1 := [some (.ref 137), some (.int (Int32.ofInt v1)), some (.int (Int32.ofInt v12)), some (.int (Int32.ofInt v13))]) (st1 := [.ref 137]) (H1 := mz_mk g x) rfl ?_
            refine mz_fgR (v := 157) rfl fd_12_88 (by decide) (sc_137 _) (rf_137_33 _ _ _) ?_
            refine mm_g 2 (pc1 := 37) (lo1 := [some (.ref 137), some (.int (Int32.ofInt v1)), some (.int (Int32.ofInt v12)), some (.int (Int32.ofInt v13))]) (st1 := [.int (Int32.ofInt v13), .int (Int32.ofInt v1), .ref 157]) (H1 := mz_mk g x) rfl ?_
            refine mz_iadd rfl ?_
            refine mz_aI rfl (sh_157 _) (by omega) (by omega) (by decide) hI (ba_157 _) (fun v21 e_v21 l_v21 u_v21 => ?_)
            replace hE := zf_tr hE (zf_le e_v21)
            refine mm_g 1 (pc1 := 40) (lo1 := [some (.ref 137), some (.int (Int32.ofInt v1)), some (.int (Int32.ofInt v12)), some (.int (Int32.ofInt v13))]) (st1 := [.ref 137, .int (Int32.ofInt v21)]) (H1 := mz_mk g x) rfl ?_
            refine mz_fgR (v := 158) rfl fd_12_91 (by decide) (sc_137 _) (rf_137_34 _ _ _) ?_
            refine mm_g 1 (pc1 := 44) (lo1 := [some (.ref 137), some (.int (Int32.ofInt v1)), some (.int (Int32.ofInt v12)), some (.int (Int32.ofInt v13))]) (st1 := [.int (Int32.ofInt v13), .ref 158, .int (Int32.ofInt v21)]) (H1 := mz_mk g x) rfl ?_
            refine mz_aI rfl (sh_158 _) (by omega) (by omega) (by decide) hI (ba_158 _) (fun v22 e_v22 l_v22 u_v22 => ?_)
            replace hE := zf_tr hE (zf_le e_v22)
            refine mz_ic_ne (tgt := 52) rfl rfl (mz_rg l_v21 u_v21) (mz_rg l_v22 u_v22) (fun c45_22 => ?_) (fun c45_22 => ?_)
            · skip
              replace hE := zf_in hE c45_22
              refine mm_g 2 (pc1 := 54) (lo1 := [some (.ref 137), some (.int (Int32.ofInt v1)), some (.int (Int32.ofInt 0)), some (.int (Int32.ofInt v13))]) (st1 := []) (H1 := mz_mk g x) rfl ?_
              refine mz_iincR (v := v13) (lo2 := [some (.ref 137), some (.int (Int32.ofInt v1)), some (.int (Int32.ofInt 0)), some (.int (Int32.ofInt (v13 + 1)))]) rfl rfl rfl (Nat.le_of_ble_eq_true rfl) rfl ?_
              refine mz_gt (tgt := 19) rfl rfl ?_
              exact ih15 ((16 - (v13 + 1)).toNat) (by omega) 0 (v13 + 1) rfl (by decide) (by decide) (by omega) (by omega) ⟨fj19, Nat.lt_of_lt_of_le (show ((16 - (v13 + 1)).toNat) < n16 from (by omega)) fn20, hE⟩
            · skip
              replace hE := zf_ip hE c45_22
              refine mm_g 1 (pc1 := 49) (lo1 := [some (.ref 137), some (.int (Int32.ofInt v1)), some (.int (Int32.ofInt v12)), some (.int (Int32.ofInt v13))]) (st1 := [.int (Int32.ofInt 1)]) (H1 := mz_mk g x) rfl ?_
              refine mz_gt (tgt := 53) rfl rfl ?_
              refine mm_g 1 (pc1 := 54) (lo1 := [some (.ref 137), some (.int (Int32.ofInt v1)), some (.int (Int32.ofInt 1)), some (.int (Int32.ofInt v13))]) (st1 := []) (H1 := mz_mk g x) rfl ?_
              refine mz_iincR (v := v13) (lo2 := [some (.ref 137), some (.int (Int32.ofInt v1)), some (.int (Int32.ofInt 1)), some (.int (Int32.ofInt (v13 + 1)))]) rfl rfl rfl (Nat.le_of_ble_eq_true rfl) rfl ?_
              refine mz_gt (tgt := 19) rfl rfl ?_
              exact ih15 ((16 - (v13 + 1)).toNat) (by omega) 1 (v13 + 1) rfl (by decide) (by decide) (by omega) (by omega) ⟨fj19, Nat.lt_of_lt_of_le (show ((16 - (v13 + 1)).toNat) < n16 from (by omega)) fn20, hE⟩
      exact L18 _ 1 0 rfl (by decide) (by decide) (by decide) (by decide) ⟨3000000000, by omega, zf_rf⟩
  exact L7 _ 0 none none rfl (by decide) (by decide) mz_nl_n mz_nl_n ⟨3000000000, by omega, hE⟩
theorem f_X12_areSame {d : Nat} (hd : 2 ≤ d) {x : mm_X} (hx : mk_x x) {g : mz_G} (hI : mz_inv g) {Q : (Option Value ⊕ Nat) → mm_H → Prop} (hQ : ∀ (r : Int), 0 ≤ r → r ≤ 1 → zf_E (zF_X12_areSame g) (r) → Q (.inl (some (.int (Int32.ofInt r)))) (mz_mk g x)) : mm_C d 227 [.ref 137] (mz_mk g x) Q := by
  refine ⟨mmX12_areSame, [some (.ref 137)], rfl, rfl, ?_⟩
  have hE : zf_E (zF_X12_areSame g) (zF_X12_areSame g) := zf_rf
  refine mm_g 1 (pc1 := 1) (lo1 := [some (.ref 137)]) (st1 := [.ref 137]) (H1 := mz_mk g x) rfl ?_
  refine mz_gI rfl fd_12_323 (by decide) (sc_137 _) hI bd_137_36 (fun v1 e_v1 l_v1 u_v1 => ?_)
  replace hE := zf_tr hE (zf_le e_v1)
  refine mm_g 1 (pc1 := 5) (lo1 := [some (.ref 137)]) (st1 := [.ref 137, .int (Int32.ofInt v1)]) (H1 := mz_mk g x) rfl ?_
  refine mz_gI rfl fd_12_326 (by decide) (sc_137 _) hI bd_137_37 (fun v2 e_v2 l_v2 u_v2 => ?_)
  replace hE := zf_tr hE (zf_le e_v2)
  refine mz_ic_ne (tgt := 22) rfl rfl (mz_rg l_v1 u_v1) (mz_rg l_v2 u_v2) (fun c8_2 => ?_) (fun c8_2 => ?_)
  · skip
    replace hE := zf_in hE c8_2
    refine mm_g 1 (pc1 := 23) (lo1 := [some (.ref 137)]) (st1 := [.int (Int32.ofInt 0)]) (H1 := mz_mk g x) rfl ?_
    exact mz_rtZ rfl (by decide) (by omega) (hQ _ (by decide) (by decide) hE)
  · skip
    replace hE := zf_ip hE c8_2
    refine mm_g 1 (pc1 := 12) (lo1 := [some (.ref 137)]) (st1 := [.ref 137]) (H1 := mz_mk g x) rfl ?_
    refine mz_cv rfl mt_12_332 (by decide) (sc_137 _) rfl (Nat.le_of_ble_eq_true rfl) (by omega) (f_X12_isWithin (by omega) hx hI (fun v3 l_v3 u_v3 hc4 => ⟨_, rfl, ?_⟩))
    show mm_W d mmX12_areSame 15 [some (.ref 137)] [.int (Int32.ofInt v3)] (mz_mk g x) Q
    replace hE := zf_t1 hE hc4
    refine mz_if_eq (tgt := 22) rfl rfl (mz_rg l_v3 u_v3) (fun c15_4 => ?_) (fun c15_4 => ?_)
    · skip
      replace hE := zf_ip hE c15_4
      refine mm_g 1 (pc1 := 23) (lo1 := [some (.ref 137)]) (st1 := [.int (Int32.ofInt 0)]) (H1 := mz_mk g x) rfl ?_
      exact mz_rtZ rfl (by decide) (by omega) (hQ _ (by decide) (by decide) hE)
    · skip
      replace hE := zf_in hE c15_4
      refine mm_g 1 (pc1 := 19) (lo1 := [some (.ref 137)]) (st1 := [.int (Int32.ofInt 1)]) (H1 := mz_mk g x) rfl ?_
      refine mz_gt (tgt := 23) rfl rfl ?_
      exact mz_rtZ rfl (by decide) (by omega) (hQ _ (by decide) (by decide) hE)
def fl_X12_withinOf_17 (x : mm_X) (a1 : Int) : Nat → Nat → Prop := fun k j => k = 157 ∨ (k = 137 ∧ j = 36)
def fw_X12_withinOf (x : mm_X) (a1 : Int) : Nat → Nat → Prop := fun k j => k = 158 ∨ (k = 137 ∧ j = 37) ∨ k = 157 ∨ (k = 137 ∧ j = 36)
theorem f_X12_withinOf {d : Nat} (hd : 3 ≤ d) {x : mm_X} (hx : mk_x x) {g : mz_G} (hI : mz_inv g) {a1 : Int} (l_a1 : 0 ≤ a1) (u_a1 : a1 ≤ 7) {Q : (Option Value ⊕ Nat) → mm_H → Prop} (hQ : ∀ (r : Int) (g1 : mz_G), mz_inv g1 → mz_fr (fw_X12_withinOf x a1) g g1 → (-2147483648) ≤ r → r ≤ 2147483647 → zf_E (zF_X12_withinOf a1 g) ((r, g1)) → Q (.inl (some (.int (Int32.ofInt r)))) (mz_mk g1 x)) : mm_C d 228 [.ref 137, .int (Int32.ofInt a1)] (mz_mk g x) Q := by
  refine ⟨mmX12_withinOf, [some (.ref 137), some (.int (Int32.ofInt a1)), none, none], rfl, rfl, ?_⟩
  have hE : zf_E (zF_X12_withinOf a1 g) (zF_X12_withinOf a1 g) := zf_rf
  refine mm_g 5 (pc1 := 5) (lo1 := [some (.ref 137), some (.int (Int32.ofInt a1)), some (.int (Int32.ofInt 0)), none]) (st1 := [.ref 137, .ref 137, .ref 137]) (H1 := mz_mk g x) rfl ?_
  refine mz_fgR (v := 158) rfl fd_12_91 (by decide) (sc_137 _) (rf_137_34 _ _ _) ?_
  refine mm_g 1 (pc1 := 9) (lo1 := [some (.ref 137), some (.int (Int32.ofInt a1)), some (.int (Int32.ofInt 0)), none]) (st1 := [.int (Int32.ofInt a1), .ref 158, .ref 137, .ref 137]) (H1 := mz_mk g x) rfl ?_
  refine mz_cv rfl mt_12_336 (by decide) (sc_137 _) rfl (Nat.le_of_ble_eq_true rfl) (by omega) (f_X12_wordInto (by omega) hx hI (sh_158 _) (by decide) ba_158 l_a1 u_a1 (by omega) (fun v1 g2 hIg2 hfg2 l_v1 u_v1 hc3 => ⟨_, rfl, ?_⟩))
  show mm_W d mmX12_withinOf 12 [some (.ref 137), some (.int (Int32.ofInt a1)), some (.int (Int32.ofInt 0)), none] [.int (Int32.ofInt v1), .ref 137] (mz_mk g2 x) Q
  replace hE := zf_t2 hE hc3
  refine mz_pI rfl fd_12_326 (sc_137 _) hIg2 bd_137_37 (by omega) (by omega) (fun g4 hIg4 hug4 => ?_)
  replace hE := zf_tr hE (zf_lg hug4)
  refine mm_g 2 (pc1 := 17) (lo1 := [some (.ref 137), some (.int (Int32.ofInt a1)), some (.int (Int32.ofInt 0)), some (.int (Int32.ofInt 0))]) (st1 := []) (H1 := mz_mk g4 x) rfl ?_
  have L10 : ∀ n9 : Nat, ∀ (v5 : Int) (v6 : Int) (g7 : mz_G), (8 - v6).toNat = n9 → (-2147483648) ≤ v5 → v5 ≤ 2147483647 → 0 ≤ v6 → v6 ≤ 8 → mz_inv g7 → mz_fr (fl_X12_withinOf_17 x a1) g4 g7 → (∃ fk : Nat, (8 - v6).toNat < fk ∧ zf_E (zF_X12_withinOf a1 g) (zL_X12_withinOf_17 a1 fk v5 v6 g7)) → mm_W d mmX12_withinOf 17 [some (.ref 137), some (.int (Int32.ofInt a1)), some (.int (Int32.ofInt v5)), some (.int (Int32.ofInt v6))] [] (mz_mk g7 x) Q := by
    intro n9
    induction n9 using Nat.strongRecOn with
    | ind n9 ih8 =>
    intro v5 v6 g7 hmn9 l_v5 u_v5 l_v6 u_v6 hIg7 hfg7 hF
    obtain ⟨fk, fl, hE⟩ := hF
    obtain ⟨fj11, rfl⟩ : ∃ fj, fk = fj + 1 := ⟨fk - 1, by omega⟩
    have fn12 : n9 ≤ fj11 := by omega
    replace hE := zf_tr hE zL_X12_withinOf_17_s
    refine mm_g 2 (pc1 := 19) (lo1 := [some (.ref 137), some (.int (Int32.ofInt a1)), some (.int (Int32.ofInt v5)), some (.int (Int32.ofInt v6))]) (st1 := [.ref 137, .int (Int32.ofInt v6)]) (H1 := mz_mk g7 x) rfl ?_
    refine mz_fgR (v := 140) rfl fd_12_36 (by decide) (sc_137 _) (rf_137_3 _ _ _) ?_
    refine mm_g 1 (pc1 := 23) (lo1 := [some (.ref 137), some (.int (Int32.ofInt a1)), some (.int (Int32.ofInt v5)), some (.int (Int32.ofInt v6))]) (st1 := [.int (Int32.ofInt 0), .ref 140, .int (Int32.ofInt v6)]) (H1 := mz_mk g7 x) rfl ?_
    refine mz_aI rfl (sh_140 _) (by omega) (by omega) (by decide) hIg7 bt_140_0 (fun v13 e_v13 l_v13 u_v13 => ?_)
    have e_v13 : g7 140 0 = v13 := e_v13
    replace hE := zf_tr hE (zf_le e_v13)
    refine mz_ic_ge (tgt := 63) rfl rfl (mz_rg l_v6 u_v6) (mz_rg l_v13 u_v13) (fun c24_13 => ?_) (fun c24_13 => ?_)
    · skip
      replace hE := zf_nl hE c24_13
      refine mm_g 1 (pc1 := 64) (lo1 := [some (.ref 137), some (.int (Int32.ofInt a1)), some (.int (Int32.ofInt v5)), some (.int (Int32.ofInt v6))]) (st1 := [.int (Int32.ofInt v5)]) (H1 := mz_mk g7 x) rfl ?_
      exact mm_rt rfl rfl (hQ _ _ hIg7 (fun k j hk => ((hfg7 k j (fun h => hk (Or.elim h (fun h => (Or.inr (Or.inr (Or.inl h)))) (fun h => (Or.inr (Or.inr (Or.inr h))))))).trans ((hug4.2 k j (fun h => hk (Or.inr (Or.inl h)))).trans (hfg2 k j (fun h => hk (Or.inl h)))))) (by omega) (by omega) hE)
    · skip
      replace hE := zf_ip hE c24_13
      refine mm_g 3 (pc1 := 30) (lo1 := [some (.ref 137), some (.int (Int32.ofInt a1)), some (.int (Int32.ofInt v5)), some (.int (Int32.ofInt v6))]) (st1 := [.ref 137, .ref 137, .ref 137]) (H1 := mz_mk g7 x) rfl ?_
      refine mz_fgR (v := 157) rfl fd_12_88 (by decide) (sc_137 _) (rf_137_33 _ _ _) ?_
      refine mm_g 1 (pc1 := 34) (lo1 := [some (.ref 137), some (.int (Int32.ofInt a1)), some (.int (Int32.ofInt v5)), some (.int (Int32.ofInt v6))]) (st1 := [.int (Int32.ofInt v6), .ref 157, .ref 137, .ref 137]) (H1 := mz_mk g7 x) rfl ?_
      refine mz_cv rfl mt_12_336 (by decide) (sc_137 _) rfl (Nat.le_of_ble_eq_true rfl) (by omega) (f_X12_wordInto (by omega) hx hIg7 (sh_157 _) (by decide) ba_157 (by omega) (by omega) (by omega) (fun v14 g15 hIg15 hfg15 l_v14 u_v14 hc16 => ⟨_, rfl, ?_⟩))
      show mm_W d mmX12_withinOf 37 [some (.ref 137), some (.int (Int32.ofInt a1)), some (.int (Int32.ofInt v5)), some (.int (Int32.ofInt v6))] [.int (Int32.ofInt v14), .ref 137] (mz_mk g15 x) Q
      replace hE := zf_t2 hE hc16
      refine mz_pI rfl fd_12_323 (sc_137 _) hIg15 bd_137_36 (by omega) (by omega) (fun g17 hIg17 hug17 => ?_)
      replace hE := zf_tr hE (zf_lg hug17)
      refine mm_g 2 (pc1 := 42) (lo1 := [some (.ref 137), some (.int (Int32.ofInt a1)), some (.int (Int32.ofInt v5)), some (.int (Int32.ofInt v6))]) (st1 := [.ref 137, .int (Int32.ofInt v5)]) (H1 := mz_mk g17 x) rfl ?_
      refine mz_cv rfl mt_12_332 (by decide) (sc_137 _) rfl (Nat.le_of_ble_eq_true rfl) (by omega) (f_X12_isWithin (by omega) hx hIg17 (fun v18 l_v18 u_v18 hc19 => ⟨_, rfl, ?_⟩))
      show mm_W d mmX12_withinOf 45 [some (.ref 137), some (.int (Int32.ofInt a1)), some (.int (Int32.ofInt v5)), some (.int (Int32.ofInt v6))] [.int (Int32.ofInt v18), .int (Int32.ofInt v5)] (mz_mk g17 x) Q
      replace hE := zf_t1 hE hc19
      refine mz_if_eq (tgt := 54) rfl rfl (mz_rg l_v18 u_v18) (fun c45_19 => ?_) (fun c45_19 => ?_)
      · skip
        replace hE := zf_ip hE c45_19
        refine mm_g 1 (pc1 := 55) (lo1 := [some (.ref 137), some (.int (Int32.ofInt a1)), some (.int (Int32.ofInt v5)), some (.int (Int32.ofInt v6))]) (st1 := [.int (Int32.ofInt 0), .int (Int32.ofInt v5)]) (H1 := mz_mk g17 x) rfl ?_
        refine mz_ior rfl (fun v20 e_v20 hwv20 => ?_)
        have l_v20 := hwv20.1
        have u_v20 := hwv20.2
        replace hE := zf_tr hE (zf_le e_v20.symm)
        refine mm_g 1 (pc1 := 57) (lo1 := [some (.ref 137), some (.int (Int32.ofInt a1)), some (.int (Int32.ofInt v20)), some (.int (Int32.ofInt v6))]) (st1 := []) (H1 := mz_mk g17 x) rfl ?_
        refine mz_iincR (v := v6) (lo2 := [some (.ref 137), some (.int (Int32.ofInt a1)), some (.int (Int32.ofInt v20)), some (.int (Int32.ofInt (v6 + 1)))]) rfl rfl rfl (Nat.le_of_ble_eq_true rfl) rfl ?_
        refine mz_gt (tgt := 17) rfl rfl ?_
        exact ih8 ((8 - (v6 + 1)).toNat) (by omega) v20 (v6 + 1) g17 rfl (by omega) (by omega) (by omega) (by omega) hIg17 (fun k j hk => ((hug17.2 k j (fun h => hk (Or.inr h))).trans ((hfg15 k j (fun h => hk (Or.inl h))).trans (hfg7 k j (fun h => hk (Or.elim h (fun h => (Or.inl h)) (fun h => (Or.inr h)))))))) ⟨fj11, Nat.lt_of_lt_of_le (show ((8 - (v6 + 1)).toNat) < n9 from (by omega)) fn12, hE⟩
      · skip
        replace hE := zf_in hE c45_19
        refine mm_g 2 (pc1 := 50) (lo1 := [some (.ref 137), some (.int (Int32.ofInt a1)), some (.int (Int32.ofInt v5)), some (.int (Int32.ofInt v6))]) (st1 := [.int (Int32.ofInt v6), .int (Int32.ofInt 1), .int (Int32.ofInt v5)]) (H1 := mz_mk g17 x) rfl ?_
        refine mz_ishl rfl (fun v21 e_v21 hwv21 => ?_)
        have b_v21 : 1 ≤ v21 ∧ v21 ≤ 128 := by rw [e_v21]; exact mz_shl_b (lx := 1) (hx := 1) (k := 7) (by decide) (by decide) (by omega) (by omega) (by omega) (by omega)
        have l_v21 := b_v21.1
        have u_v21 := b_v21.2
        replace hE := zf_tr hE (zf_le e_v21.symm)
        refine mz_gt (tgt := 55) rfl rfl ?_
        refine mz_ior rfl (fun v22 e_v22 hwv22 => ?_)
        have l_v22 := hwv22.1
        have u_v22 := hwv22.2
        replace hE := zf_tr hE (zf_le e_v22.symm)
        refine mm_g 1 (pc1 := 57) (lo1 := [some (.ref 137), some (.int (Int32.ofInt a1)), some (.int (Int32.ofInt v22)), some (.int (Int32.ofInt v6))]) (st1 := []) (H1 := mz_mk g17 x) rfl ?_
        refine mz_iincR (v := v6) (lo2 := [some (.ref 137), some (.int (Int32.ofInt a1)), some (.int (Int32.ofInt v22)), some (.int (Int32.ofInt (v6 + 1)))]) rfl rfl rfl (Nat.le_of_ble_eq_true rfl) rfl ?_
        refine mz_gt (tgt := 17) rfl rfl ?_
        exact ih8 ((8 - (v6 + 1)).toNat) (by omega) v22 (v6 + 1) g17 rfl (by omega) (by omega) (by omega) (by omega) hIg17 (fun k j hk => ((hug17.2 k j (fun h => hk (Or.inr h))).trans ((hfg15 k j (fun h => hk (Or.inl h))).trans (hfg7 k j (fun h => hk (Or.elim h (fun h => (Or.inl h)) (fun h => (Or.inr h)))))))) ⟨fj11, Nat.lt_of_lt_of_le (show ((8 - (v6 + 1)).toNat) < n9 from (by omega)) fn12, hE⟩
  exact L10 _ 0 0 g4 rfl (by decide) (by decide) (by decide) (by decide) hIg4 (fun _ _ _ => rfl) ⟨3000000000, by omega, hE⟩
theorem f_X12_manyOf {d : Nat} (hd : 2 ≤ d) {x : mm_X} (hx : mk_x x) {g : mz_G} (hI : mz_inv g) {a1 : Int} (l_a1 : 0 ≤ a1) (u_a1 : a1 ≤ 7) {a2 : Int} (l_a2 : (-2147483648) ≤ a2) (u_a2 : a2 ≤ 2147483647) {Q : (Option Value ⊕ Nat) → mm_H → Prop} (hQ : ∀ (r : Int), (-2147483648) ≤ r → r ≤ 2147483647 → zf_E (zF_X12_manyOf a1 a2 g) (r) → Q (.inl (some (.int (Int32.ofInt r)))) (mz_mk g x)) : mm_C d 229 [.ref 137, .int (Int32.ofInt a1), .int (Int32.ofInt a2)] (mz_mk g x) Q := by
  refine ⟨mmX12_manyOf, [some (.ref 137), some (.int (Int32.ofInt a1)), some (.int (Int32.ofInt a2)), none, none], rfl, rfl, ?_⟩
  have hE : zf_E (zF_X12_manyOf a1 a2 g) (zF_X12_manyOf a1 a2 g) := zf_rf
  refine mm_g 4 (pc1 := 5) (lo1 := [some (.ref 137), some (.int (Int32.ofInt a1)), some (.int (Int32.ofInt a2)), some (.int (Int32.ofInt 0)), some (.int (Int32.ofInt 0))]) (st1 := []) (H1 := mz_mk g x) rfl ?_
  have L6 : ∀ n5 : Nat, ∀ (v1 : Int) (v2 : Int), (8 - v2).toNat = n5 → (-2147483648) ≤ v1 → v1 ≤ 2147483647 → 0 ≤ v2 → v2 ≤ 8 → (∃ fk : Nat, (8 - v2).toNat < fk ∧ zf_E (zF_X12_manyOf a1 a2 g) (zL_X12_manyOf_5 a1 a2 g fk v1 v2)) → mm_W d mmX12_manyOf 5 [some (.ref 137), some (.int (Int32.ofInt a1)), some (.int (Int32.ofInt a2)), some (.int (Int32.ofInt v1)), some (.int (Int32.ofInt v2))] [] (mz_mk g x) Q := by
    intro n5
    induction n5 using Nat.strongRecOn with
    | ind n5 ih4 =>
    intro v1 v2 hmn5 l_v1 u_v1 l_v2 u_v2 hF
    obtain ⟨fk, fl, hE⟩ := hF
    obtain ⟨fj7, rfl⟩ : ∃ fj, fk = fj + 1 := ⟨fk - 1, by omega⟩
    have fn8 : n5 ≤ fj7 := by omega
    replace hE := zf_tr hE zL_X12_manyOf_5_s
    refine mm_g 2 (pc1 := 8) (lo1 := [some (.ref 137), some (.int (Int32.ofInt a1)), some (.int (Int32.ofInt a2)), some (.int (Int32.ofInt v1)), some (.int (Int32.ofInt v2))]) (st1 := [.ref 137, .int (Int32.ofInt v2)]) (H1 := mz_mk g x) rfl ?_
    refine mz_fgR (v := 142) rfl fd_12_43 (by decide) (sc_137 _) (rf_137_5 _ _ _) ?_
    refine mm_g 1 (pc1 := 12) (lo1 := [some (.ref 137), some (.int (Int32.ofInt a1)), some (.int (Int32.ofInt a2)), some (.int (Int32.ofInt v1)), some (.int (Int32.ofInt v2))]) (st1 := [.int (Int32.ofInt a1), .ref 142, .int (Int32.ofInt v2)]) (H1 := mz_mk g x) rfl ?_
    refine mz_aI rfl (sh_142 _) (by omega) (by omega) (by decide) hI (ba_142 _) (fun v9 e_v9 l_v9 u_v9 => ?_)
    replace hE := zf_tr hE (zf_le e_v9)
    refine mz_ic_ge (tgt := 41) rfl rfl (mz_rg l_v2 u_v2) (mz_rg l_v9 u_v9) (fun c13_9 => ?_) (fun c13_9 => ?_)
    · skip
      replace hE := zf_nl hE c13_9
      refine mm_g 1 (pc1 := 42) (lo1 := [some (.ref 137), some (.int (Int32.ofInt a1)), some (.int (Int32.ofInt a2)), some (.int (Int32.ofInt v1)), some (.int (Int32.ofInt v2))]) (st1 := [.int (Int32.ofInt v1)]) (H1 := mz_mk g x) rfl ?_
      exact mm_rt rfl rfl (hQ _ (by omega) (by omega) hE)
    · skip
      replace hE := zf_ip hE c13_9
      refine mm_g 4 (pc1 := 21) (lo1 := [some (.ref 137), some (.int (Int32.ofInt a1)), some (.int (Int32.ofInt a2)), some (.int (Int32.ofInt v1)), some (.int (Int32.ofInt v2))]) (st1 := [.int (Int32.ofInt v2), .int (Int32.ofInt a1), .ref 137, .int (Int32.ofInt v1)]) (H1 := mz_mk g x) rfl ?_
      refine mz_cv rfl mt_12_320 (by decide) (sc_137 _) rfl (Nat.le_of_ble_eq_true rfl) (by omega) (f_X12_letterOf (by omega) hx hI l_a1 u_a1 (by omega) (by omega) (fun v10 l_v10 u_v10 hp11 hc12 => ⟨_, rfl, ?_⟩))
      show mm_W d mmX12_manyOf 24 [some (.ref 137), some (.int (Int32.ofInt a1)), some (.int (Int32.ofInt a2)), some (.int (Int32.ofInt v1)), some (.int (Int32.ofInt v2))] [.int (Int32.ofInt v10), .int (Int32.ofInt v1)] (mz_mk g x) Q
      replace hE := zf_t1 hE hc12
      refine mm_g 1 (pc1 := 25) (lo1 := [some (.ref 137), some (.int (Int32.ofInt a1)), some (.int (Int32.ofInt a2)), some (.int (Int32.ofInt v1)), some (.int (Int32.ofInt v2))]) (st1 := [.int (Int32.ofInt a2), .int (Int32.ofInt v10), .int (Int32.ofInt v1)]) (H1 := mz_mk g x) rfl ?_
      refine mz_ic_ne (tgt := 32) rfl rfl (mz_rg l_v10 u_v10) (mz_rg l_a2 u_a2) (fun c25_12 => ?_) (fun c25_12 => ?_)
      · skip
        replace hE := zf_in hE c25_12
        refine mm_g 1 (pc1 := 33) (lo1 := [some (.ref 137), some (.int (Int32.ofInt a1)), some (.int (Int32.ofInt a2)), some (.int (Int32.ofInt v1)), some (.int (Int32.ofInt v2))]) (st1 := [.int (Int32.ofInt 0), .int (Int32.ofInt v1)]) (H1 := mz_mk g x) rfl ?_
        refine mz_iadd rfl ?_
        replace hE := zf_tr hE (zf_lw ⟨by omega, by omega⟩)
        refine mm_g 1 (pc1 := 35) (lo1 := [some (.ref 137), some (.int (Int32.ofInt a1)), some (.int (Int32.ofInt a2)), some (.int (Int32.ofInt (v1 + 0))), some (.int (Int32.ofInt v2))]) (st1 := []) (H1 := mz_mk g x) rfl ?_
        refine mz_iincR (v := v2) (lo2 := [some (.ref 137), some (.int (Int32.ofInt a1)), some (.int (Int32.ofInt a2)), some (.int (Int32.ofInt (v1 + 0))), some (.int (Int32.ofInt (v2 + 1)))]) rfl rfl rfl (Nat.le_of_ble_eq_true rfl) rfl ?_
        refine mz_gt (tgt := 5) rfl rfl ?_
        exact ih4 ((8 - (v2 + 1)).toNat) (by omega) (v1 + 0) (v2 + 1) rfl (by omega) (by omega) (by omega) (by omega) ⟨fj7, Nat.lt_of_lt_of_le (show ((8 - (v2 + 1)).toNat) < n5 from (by omega)) fn8, hE⟩
      · skip
        replace hE := zf_ip hE c25_12
        refine mm_g 1 (pc1 := 29) (lo1 := [some (.ref 137), some (.int (Int32.ofInt a1)), some (.int (Int32.ofInt a2)), some (.int (Int32.ofInt v1)), some (.int (Int32.ofInt v2))]) (st1 := [.int (Int32.ofInt 1), .int (Int32.ofInt v1)]) (H1 := mz_mk g x) rfl ?_
        refine mz_gt (tgt := 33) rfl rfl ?_
        refine mz_iadd_w rfl (fun v13 e_v13 hwv13 => ?_)
        have l_v13 := hwv13.1
        have u_v13 := hwv13.2
        replace hE := zf_tr hE (zf_le e_v13.symm)
        refine mm_g 1 (pc1 := 35) (lo1 := [some (.ref 137), some (.int (Int32.ofInt a1)), some (.int (Int32.ofInt a2)), some (.int (Int32.ofInt v13)), some (.int (Int32.ofInt v2))]) (st1 := []) (H1 := mz_mk g x) rfl ?_
        refine mz_iincR (v := v2) (lo2 := [some (.ref 137), some (.int (Int32.ofInt a1)), some (.int (Int32.ofInt a2)), some (.int (Int32.ofInt v13)), some (.int (Int32.ofInt (v2 + 1)))]) rfl rfl rfl (Nat.le_of_ble_eq_true rfl) rfl ?_
        refine mz_gt (tgt := 5) rfl rfl ?_
        exact ih4 ((8 - (v2 + 1)).toNat) (by omega) v13 (v2 + 1) rfl (by omega) (by omega) (by omega) (by omega) ⟨fj7, Nat.lt_of_lt_of_le (show ((8 - (v2 + 1)).toNat) < n5 from (by omega)) fn8, hE⟩
  exact L6 _ 0 0 rfl (by decide) (by decide) (by decide) (by decide) ⟨3000000000, by omega, hE⟩
theorem f_X12_anagramsOf {d : Nat} (hd : 3 ≤ d) {x : mm_X} (hx : mk_x x) {g : mz_G} (hI : mz_inv g) {a1 : Int} (l_a1 : 0 ≤ a1) (u_a1 : a1 ≤ 7) {Q : (Option Value ⊕ Nat) → mm_H → Prop} (hQ : ∀ (r : Int), (-2147483648) ≤ r → r ≤ 2147483647 → zf_E (zF_X12_anagramsOf a1 g) (r) → Q (.inl (some (.int (Int32.ofInt r)))) (mz_mk g x)) : mm_C d 230 [.ref 137, .int (Int32.ofInt a1)] (mz_mk g x) Q := by
  refine ⟨mmX12_anagramsOf, [some (.ref 137), some (.int (Int32.ofInt a1)), none, none, none, none], rfl, rfl, ?_⟩
  have hE : zf_E (zF_X12_anagramsOf a1 g) (zF_X12_anagramsOf a1 g) := zf_rf
  refine mm_g 4 (pc1 := 4) (lo1 := [some (.ref 137), some (.int (Int32.ofInt a1)), some (.int (Int32.ofInt 0)), some (.int (Int32.ofInt 0)), none, none]) (st1 := []) (H1 := mz_mk g x) rfl ?_
  have L8 : ∀ n7 : Nat, ∀ (v1 : Int) (v2 : Int) (o3 : Option Value) (o4 : Option Value), (8 - v2).toNat = n7 → (-2147483648) ≤ v1 → v1 ≤ 2147483647 → 0 ≤ v2 → v2 ≤ 8 → mz_nl o3 → mz_nl o4 → (∃ fk : Nat, (8 - v2).toNat < fk ∧ zf_E (zF_X12_anagramsOf a1 g) (zL_X12_anagramsOf_4 a1 g fk v1 v2)) → mm_W d mmX12_anagramsOf 4 [some (.ref 137), some (.int (Int32.ofInt a1)), some (.int (Int32.ofInt v1)), some (.int (Int32.ofInt v2)), o3, o4] [] (mz_mk g x) Q := by
    intro n7
    induction n7 using Nat.strongRecOn with
    | ind n7 ih6 =>
    intro v1 v2 o3 o4 hmn7 l_v1 u_v1 l_v2 u_v2 h_o3 h_o4 hF
    obtain ⟨fk, fl, hE⟩ := hF
    obtain ⟨fj9, rfl⟩ : ∃ fj, fk = fj + 1 := ⟨fk - 1, by omega⟩
    have fn10 : n7 ≤ fj9 := by omega
    replace hE := zf_tr hE zL_X12_anagramsOf_4_s
    refine mm_g 2 (pc1 := 6) (lo1 := [some (.ref 137), some (.int (Int32.ofInt a1)), some (.int (Int32.ofInt v1)), some (.int (Int32.ofInt v2)), o3, o4]) (st1 := [.ref 137, .int (Int32.ofInt v2)]) (H1 := mz_mk g x) rfl ?_
    refine mz_fgR (v := 140) rfl fd_12_36 (by decide) (sc_137 _) (rf_137_3 _ _ _) ?_
    refine mm_g 1 (pc1 := 10) (lo1 := [some (.ref 137), some (.int (Int32.ofInt a1)), some (.int (Int32.ofInt v1)), some (.int (Int32.ofInt v2)), o3, o4]) (st1 := [.int (Int32.ofInt 0), .ref 140, .int (Int32.ofInt v2)]) (H1 := mz_mk g x) rfl ?_
    refine mz_aI rfl (sh_140 _) (by omega) (by omega) (by decide) hI bt_140_0 (fun v11 e_v11 l_v11 u_v11 => ?_)
    have e_v11 : g 140 0 = v11 := e_v11
    replace hE := zf_tr hE (zf_le e_v11)
    refine mz_ic_ge (tgt := 83) rfl rfl (mz_rg l_v2 u_v2) (mz_rg l_v11 u_v11) (fun c11_11 => ?_) (fun c11_11 => ?_)
    · skip
      replace hE := zf_nl hE c11_11
      refine mm_g 1 (pc1 := 84) (lo1 := [some (.ref 137), some (.int (Int32.ofInt a1)), some (.int (Int32.ofInt v1)), some (.int (Int32.ofInt v2)), o3, o4]) (st1 := [.int (Int32.ofInt v1)]) (H1 := mz_mk g x) rfl ?_
      exact mm_rt rfl rfl (hQ _ (by omega) (by omega) hE)
    · skip
      replace hE := zf_ip hE c11_11
      refine mm_g 4 (pc1 := 20) (lo1 := [some (.ref 137), some (.int (Int32.ofInt a1)), some (.int (Int32.ofInt v1)), some (.int (Int32.ofInt v2)), some (.int (Int32.ofInt 1)), some (.int (Int32.ofInt 1))]) (st1 := []) (H1 := mz_mk g x) rfl ?_
      have hO17 := hE
      have L18 : ∀ n16 : Nat, ∀ (v12 : Int) (v13 : Int), (27 - v13).toNat = n16 → 0 ≤ v12 → v12 ≤ 1 → 1 ≤ v13 → v13 ≤ 27 → (∃ fk : Nat, (27 - v13).toNat < fk ∧ zf_E (zL_X12_anagramsOf_20 a1 g 3000000000 v1 v2 1 1) (zL_X12_anagramsOf_20 a1 g fk v1 v2 v12 v13)) → mm_W d mmX12_anagramsOf 20 [some (.ref 137), some (.int (Int32.ofInt a1)), some (.int (Int32.ofInt v1)), some (.int (Int32.ofInt v2)), some (.int (Int32.ofInt v12)), some (.int (Int32.ofInt v13))] [] (mz_mk g x) Q := by
        intro n16
        induction n16 using Nat.strongRecOn with
        | ind n16 ih15 =>
        intro v12 v13 hmn16 l_v12 u_v12 l_v13 u_v13 hF
        obtain ⟨fk, fl, hE⟩ := hF
        obtain ⟨fj19, rfl⟩ : ∃ fj, fk = fj + 1 := ⟨fk - 1, by omega⟩
        have fn20 : n16 ≤ fj19 := by omega
        replace hE := zf_tr hE zL_X12_anagramsOf_20_s
        refine mm_g 1 (pc1 := 22) (lo1 := [some (.ref 137), some (.int (Int32.ofInt a1)), some (.int (Int32.ofInt v1)), some (.int (Int32.ofInt v2)), some (.int (Int32.ofInt v12)), some (.int (Int32.ofInt v13))]) (st1 := [.int (Int32.ofInt v13)]) (H1 := mz_mk g x) rfl ?_
        refine mz_bip rfl bip_26 ?_
        refine mz_ic_gt (tgt := 62) rfl rfl (mz_rg l_v13 u_v13) ⟨by decide, by decide⟩ (fun c24_20 => ?_) (fun c24_20 => ?_)
        · skip
          replace hE := zf_ip hE c24_20
          replace hE := zf_t1 hO17 hE
          refine mm_g 2 (pc1 := 65) (lo1 := [some (.ref 137), some (.int (Int32.ofInt a1)), some (.int (Int32.ofInt v1)), some (.int (Int32.ofInt v2)), some (.int (Int32.ofInt v12)), some (.int (Int32.ofInt v13))]) (st1 := [.int (Int32.ofInt v12), .int (Int32.ofInt v1)]) (H1 := mz_mk g x) rfl ?_
          refine mz_if_eq (tgt := 74) rfl rfl (mz_rg l_v12 u_v12) (fun c65_20 => ?_) (fun c65_20 => ?_)
          · skip
            replace hE := zf_ip hE c65_20
            refine mm_g 1 (pc1 := 75) (lo1 := [some (.ref 137), some (.int (Int32.ofInt a1)), some (.int (Int32.ofInt v1)), some (.int (Int32.ofInt v2)), some (.int (Int32.ofInt v12)), some (.int (Int32.ofInt v13))]) (st1 := [.int (Int32.ofInt 0), .int (Int32.ofInt v1)]) (H1 := mz_mk g x) rfl ?_
            refine mz_ior rfl (fun v21 e_v21 hwv21 => ?_)
            have l_v21 := hwv21.1
            have u_v21 := hwv21.2
            replace hE := zf_tr hE (zf_le e_v21.symm)
            refine mm_g 1 (pc1 := 77) (lo1 := [some (.ref 137), some (.int (Int32.ofInt a1)), some (.int (Int32.ofInt v21)), some (.int (Int32.ofInt v2)), some (.int (Int32.ofInt v12)), some (.int (Int32.ofInt v13))]) (st1 := []) (H1 := mz_mk g x) rfl ?_
            refine mz_iincR (v := v2) (lo2 := [some (.ref 137), some (.int (Int32.ofInt a1)), some (.int (Int32.ofInt v21)), some (.int (Int32.ofInt (v2 + 1))), some (.int (Int32.ofInt v12)), some (.int (Int32.ofInt v13))]) rfl rfl rfl (Nat.le_of_ble_eq_true rfl) rfl ?_
            refine mz_gt (tgt := 4) rfl rfl ?_
            exact ih6 ((8 - (v2 + 1)).toNat) (by omega) v21 (v2 + 1) (some (.int (Int32.ofInt v12))) (some (.int (Int32.ofInt v13))) rfl (by omega) (by omega) (by omega) (by omega) (mz_nl_i _) (mz_nl_i _) ⟨fj9, Nat.lt_of_lt_of_le (show ((8 - (v2 + 1)).toNat) < n7 from (by omega)) fn10, hE⟩
          · skip
            replace hE := zf_in hE c65_20
            refine mm_g 2 (pc1 := 70) (lo1 := [some (.ref 137), some (.int (Int32.ofInt a1)), some (.int (Int32.ofInt v1)), some (.int (Int32.ofInt v2)), some (.int (Int32.ofInt v12)), some (.int (Int32.ofInt v13))]) (st1 := [.int (Int32.ofInt v2), .int (Int32.ofInt 1), .int (Int32.ofInt v1)]) (H1 := mz_mk g x) rfl ?_
            refine mz_ishl rfl (fun v22 e_v22 hwv22 => ?_)
            have b_v22 : 1 ≤ v22 ∧ v22 ≤ 128 := by rw [e_v22]; exact mz_shl_b (lx := 1) (hx := 1) (k := 7) (by decide) (by decide) (by omega) (by omega) (by omega) (by omega)
            have l_v22 := b_v22.1
            have u_v22 := b_v22.2
            replace hE := zf_tr hE (zf_le e_v22.symm)
            refine mz_gt (tgt := 75) rfl rfl ?_
            refine mz_ior rfl (fun v23 e_v23 hwv23 => ?_)
            have l_v23 := hwv23.1
            have u_v23 := hwv23.2
            replace hE := zf_tr hE (zf_le e_v23.symm)
            refine mm_g 1 (pc1 := 77) (lo1 := [some (.ref 137), some (.int (Int32.ofInt a1)), some (.int (Int32.ofInt v23)), some (.int (Int32.ofInt v2)), some (.int (Int32.ofInt v12)), some (.int (Int32.ofInt v13))]) (st1 := []) (H1 := mz_mk g x) rfl ?_
            refine mz_iincR (v := v2) (lo2 := [some (.ref 137), some (.int (Int32.ofInt a1)), some (.int (Int32.ofInt v23)), some (.int (Int32.ofInt (v2 + 1))), some (.int (Int32.ofInt v12)), some (.int (Int32.ofInt v13))]) rfl rfl rfl (Nat.le_of_ble_eq_true rfl) rfl ?_
            refine mz_gt (tgt := 4) rfl rfl ?_
            exact ih6 ((8 - (v2 + 1)).toNat) (by omega) v23 (v2 + 1) (some (.int (Int32.ofInt v12))) (some (.int (Int32.ofInt v13))) rfl (by omega) (by omega) (by omega) (by omega) (mz_nl_i _) (mz_nl_i _) ⟨fj9, Nat.lt_of_lt_of_le (show ((8 - (v2 + 1)).toNat) < n7 from (by omega)) fn10, hE⟩
        · skip
          replace hE := zf_nl hE c24_20
          refine mm_g 1 (pc1 := 29) (lo1 := [some (.ref 137), some (.int (Int32.ofInt a1)), some (.int (Int32.ofInt v1)), some (.int (Int32.ofInt v2)), some (.int (Int32.ofInt v12)), some (.int (Int32.ofInt v13))]) (st1 := [.int (Int32.ofInt v12)]) (H1 := mz_mk g x) rfl ?_
          refine mz_if_eq (tgt := 62) rfl rfl (mz_rg l_v12 u_v12) (fun c29_23 => ?_) (fun c29_23 => ?_)
          · skip
            replace hE := zf_ip hE c29_23
            replace hE := zf_t1 hO17 hE
            refine mm_g 2 (pc1 := 65) (lo1 := [some (.ref 137), some (.int (Int32.ofInt a1)), some (.int (Int32.ofInt v1)), some (.int (Int32.ofInt v2)), some (.int (Int32.ofInt v12)), some (.int (Int32.ofInt v13))]) (st1 := [.int (Int32.ofInt v12), .int (Int32.ofInt v1)]) (H1 := mz_mk g x) rfl ?_
            refine mz_if_eq (tgt := 74) rfl rfl (mz_rg l_v12 u_v12) (fun c65_23 => ?_) (fun c65_23 => ?_)
            · skip
              replace hE := zf_ip hE c65_23
              refine mm_g 1 (pc1 := 75) (lo1 := [some (.ref 137), some (.int (Int32.ofInt a1)), some (.int (Int32.ofInt v1)), some (.int (Int32.ofInt v2)), some (.int (Int32.ofInt v12)), some (.int (Int32.ofInt v13))]) (st1 := [.int (Int32.ofInt 0), .int (Int32.ofInt v1)]) (H1 := mz_mk g x) rfl ?_
              refine mz_ior rfl (fun v24 e_v24 hwv24 => ?_)
              have l_v24 := hwv24.1
              have u_v24 := hwv24.2
              replace hE := zf_tr hE (zf_le e_v24.symm)
              refine mm_g 1 (pc1 := 77) (lo1 := [some (.ref 137), some (.int (Int32.ofInt a1)), some (.int (Int32.ofInt v24)), some (.int (Int32.ofInt v2)), some (.int (Int32.ofInt v12)), some (.int (Int32.ofInt v13))]) (st1 := []) (H1 := mz_mk g x) rfl ?_
              refine mz_iincR (v := v2) (lo2 := [some (.ref 137), some (.int (Int32.ofInt a1)), some (.int (Int32.ofInt v24)), some (.int (Int32.ofInt (v2 + 1))), some (.int (Int32.ofInt v12)), some (.int (Int32.ofInt v13))]) rfl rfl rfl (Nat.le_of_ble_eq_true rfl) rfl ?_
              refine mz_gt (tgt := 4) rfl rfl ?_
              exact ih6 ((8 - (v2 + 1)).toNat) (by omega) v24 (v2 + 1) (some (.int (Int32.ofInt v12))) (some (.int (Int32.ofInt v13))) rfl (by omega) (by omega) (by omega) (by omega) (mz_nl_i _) (mz_nl_i _) ⟨fj9, Nat.lt_of_lt_of_le (show ((8 - (v2 + 1)).toNat) < n7 from (by omega)) fn10, hE⟩
            · exfalso; omega
          · skip
            replace hE := zf_in hE c29_23
            refine mm_g 3 (pc1 := 36) (lo1 := [some (.ref 137), some (.int (Int32.ofInt a1)), some (.int (Int32.ofInt v1)), some (.int (Int32.ofInt v2)), some (.int (Int32.ofInt v12)), some (.int (Int32.ofInt v13))]) (st1 := [.int (Int32.ofInt v13), .int (Int32.ofInt v2), .ref 137]) (H1 := mz_mk g x) rfl ?_
            refine mz_cv rfl mt_12_340 (by decide) (sc_137 _) rfl (Nat.le_of_ble_eq_true rfl) (by omega) (f_X12_manyOf (by omega) hx hI (by omega) (by omega) (by omega) (by omega) (fun v25 l_v25 u_v25 hc26 => ⟨_, rfl, ?_⟩))
            show mm_W d mmX12_anagramsOf 39 [some (.ref 137), some (.int (Int32.ofInt a1)), some (.int (Int32.ofInt v1)), some (.int (Int32.ofInt v2)), some (.int (Int32.ofInt v12)), some (.int (Int32.ofInt v13))] [.int (Int32.ofInt v25)] (mz_mk g x) Q
            replace hE := zf_t1 hE hc26
            refine mm_g 3 (pc1 := 43) (lo1 := [some (.ref 137), some (.int (Int32.ofInt a1)), some (.int (Int32.ofInt v1)), some (.int (Int32.ofInt v2)), some (.int (Int32.ofInt v12)), some (.int (Int32.ofInt v13))]) (st1 := [.int (Int32.ofInt v13), .int (Int32.ofInt a1), .ref 137, .int (Int32.ofInt v25)]) (H1 := mz_mk g x) rfl ?_
            refine mz_cv rfl mt_12_340 (by decide) (sc_137 _) rfl (Nat.le_of_ble_eq_true rfl) (by omega) (f_X12_manyOf (by omega) hx hI l_a1 u_a1 (by omega) (by omega) (fun v27 l_v27 u_v27 hc28 => ⟨_, rfl, ?_⟩))
            show mm_W d mmX12_anagramsOf 46 [some (.ref 137), some (.int (Int32.ofInt a1)), some (.int (Int32.ofInt v1)), some (.int (Int32.ofInt v2)), some (.int (Int32.ofInt v12)), some (.int (Int32.ofInt v13))] [.int (Int32.ofInt v27), .int (Int32.ofInt v25)] (mz_mk g x) Q
            replace hE := zf_t1 hE hc28
            refine mz_ic_ne (tgt := 53) rfl rfl (mz_rg l_v25 u_v25) (mz_rg l_v27 u_v27) (fun c46_28 => ?_) (fun c46_28 => ?_)
            · skip
              replace hE := zf_in hE c46_28
              refine mm_g 2 (pc1 := 56) (lo1 := [some (.ref 137), some (.int (Int32.ofInt a1)), some (.int (Int32.ofInt v1)), some (.int (Int32.ofInt v2)), some (.int (Int32.ofInt 0)), some (.int (Int32.ofInt v13))]) (st1 := []) (H1 := mz_mk g x) rfl ?_
              refine mz_iincR (v := v13) (lo2 := [some (.ref 137), some (.int (Int32.ofInt a1)), some (.int (Int32.ofInt v1)), some (.int (Int32.ofInt v2)), some (.int (Int32.ofInt 0)), some (.int (Int32.ofInt (v13 + 1)))]) rfl rfl rfl (Nat.le_of_ble_eq_true rfl) rfl ?_
              refine mz_gt (tgt := 20) rfl rfl ?_
              exact ih15 ((27 - (v13 + 1)).toNat) (by omega) 0 (v13 + 1) rfl (by decide) (by decide) (by omega) (by omega) ⟨fj19, Nat.lt_of_lt_of_le (show ((27 - (v13 + 1)).toNat) < n16 from (by omega)) fn20, hE⟩
            · skip
              replace hE := zf_ip hE c46_28
              refine mm_g 1 (pc1 := 50) (lo1 := [some (.ref 137), some (.int (Int32.ofInt a1)), some (.int (Int32.ofInt v1)), some (.int (Int32.ofInt v2)), some (.int (Int32.ofInt v12)), some (.int (Int32.ofInt v13))]) (st1 := [.int (Int32.ofInt 1)]) (H1 := mz_mk g x) rfl ?_
              refine mz_gt (tgt := 54) rfl rfl ?_
              refine mm_g 1 (pc1 := 56) (lo1 := [some (.ref 137), some (.int (Int32.ofInt a1)), some (.int (Int32.ofInt v1)), some (.int (Int32.ofInt v2)), some (.int (Int32.ofInt 1)), some (.int (Int32.ofInt v13))]) (st1 := []) (H1 := mz_mk g x) rfl ?_
              refine mz_iincR (v := v13) (lo2 := [some (.ref 137), some (.int (Int32.ofInt a1)), some (.int (Int32.ofInt v1)), some (.int (Int32.ofInt v2)), some (.int (Int32.ofInt 1)), some (.int (Int32.ofInt (v13 + 1)))]) rfl rfl rfl (Nat.le_of_ble_eq_true rfl) rfl ?_
              refine mz_gt (tgt := 20) rfl rfl ?_
              exact ih15 ((27 - (v13 + 1)).toNat) (by omega) 1 (v13 + 1) rfl (by decide) (by decide) (by omega) (by omega) ⟨fj19, Nat.lt_of_lt_of_le (show ((27 - (v13 + 1)).toNat) < n16 from (by omega)) fn20, hE⟩
      exact L18 _ 1 1 rfl (by decide) (by decide) (by decide) (by decide) ⟨3000000000, by omega, zf_rf⟩
  exact L8 _ 0 0 none none rfl (by decide) (by decide) (by decide) (by decide) mz_nl_n mz_nl_n ⟨3000000000, by omega, hE⟩
theorem f_X12_reckon {d : Nat} (hd : 1 ≤ d) {x : mm_X} (hx : mk_x x) {g : mz_G} (hI : mz_inv g) {a1 : Int} (l_a1 : (-2147483648) ≤ a1) (u_a1 : a1 ≤ 2147483647) {a2 : Int} (l_a2 : (-2147483648) ≤ a2) (u_a2 : a2 ≤ 2147483647) {a3 : Int} (l_a3 : (-2147483648) ≤ a3) (u_a3 : a3 ≤ 2147483647) {Q : (Option Value ⊕ Nat) → mm_H → Prop} (hQ : ∀ (r : Int), (-2147483648) ≤ r → r ≤ 2147483647 → zf_E (zF_X12_reckon a1 a2 a3 g) (r) → Q (.inl (some (.int (Int32.ofInt r)))) (mz_mk g x)) : mm_C d 231 [.int (Int32.ofInt a1), .int (Int32.ofInt a2), .int (Int32.ofInt a3)] (mz_mk g x) Q := by
  refine ⟨mmX12_reckon, [some (.int (Int32.ofInt a1)), some (.int (Int32.ofInt a2)), some (.int (Int32.ofInt a3))], rfl, rfl, ?_⟩
  have hE : zf_E (zF_X12_reckon a1 a2 a3 g) (zF_X12_reckon a1 a2 a3 g) := zf_rf
  refine mm_g 1 (pc1 := 1) (lo1 := [some (.int (Int32.ofInt a1)), some (.int (Int32.ofInt a2)), some (.int (Int32.ofInt a3))]) (st1 := [.int (Int32.ofInt a1)]) (H1 := mz_mk g x) rfl ?_
  by_cases c1_0 : a1 = (-26)
  · refine mz_tsi (tgt := 90) rfl (mz_rg l_a1 u_a1) (by omega) (by omega) (by rw [c1_0]; rfl) rfl ?_
    replace hE := zf_ip hE c1_0
    refine mm_g 1 (pc1 := 91) (lo1 := [some (.int (Int32.ofInt a1)), some (.int (Int32.ofInt a2)), some (.int (Int32.ofInt a3))]) (st1 := [.int (Int32.ofInt a2)]) (H1 := mz_mk g x) rfl ?_
    refine mz_if_eq (tgt := 102) rfl rfl (mz_rg l_a2 u_a2) (fun c91_0 => ?_) (fun c91_0 => ?_)
    · skip
      replace hE := zf_ip hE c91_0
      refine mm_g 1 (pc1 := 103) (lo1 := [some (.int (Int32.ofInt a1)), some (.int (Int32.ofInt a2)), some (.int (Int32.ofInt a3))]) (st1 := [.int (Int32.ofInt 0)]) (H1 := mz_mk g x) rfl ?_
      exact mm_rt rfl rfl (hQ _ (by decide) (by decide) hE)
    · skip
      replace hE := zf_in hE c91_0
      refine mm_g 1 (pc1 := 95) (lo1 := [some (.int (Int32.ofInt a1)), some (.int (Int32.ofInt a2)), some (.int (Int32.ofInt a3))]) (st1 := [.int (Int32.ofInt a3)]) (H1 := mz_mk g x) rfl ?_
      refine mz_if_eq (tgt := 102) rfl rfl (mz_rg l_a3 u_a3) (fun c95_0 => ?_) (fun c95_0 => ?_)
      · skip
        replace hE := zf_ip hE c95_0
        refine mm_g 1 (pc1 := 103) (lo1 := [some (.int (Int32.ofInt a1)), some (.int (Int32.ofInt a2)), some (.int (Int32.ofInt a3))]) (st1 := [.int (Int32.ofInt 0)]) (H1 := mz_mk g x) rfl ?_
        exact mm_rt rfl rfl (hQ _ (by decide) (by decide) hE)
      · skip
        replace hE := zf_in hE c95_0
        refine mm_g 1 (pc1 := 99) (lo1 := [some (.int (Int32.ofInt a1)), some (.int (Int32.ofInt a2)), some (.int (Int32.ofInt a3))]) (st1 := [.int (Int32.ofInt 1)]) (H1 := mz_mk g x) rfl ?_
        refine mz_gt (tgt := 103) rfl rfl ?_
        exact mm_rt rfl rfl (hQ _ (by decide) (by decide) hE)
  replace hE := zf_in hE c1_0
  by_cases c1_1 : a1 = (-25)
  · refine mz_tsi (tgt := 79) rfl (mz_rg l_a1 u_a1) (by omega) (by omega) (by rw [c1_1]; rfl) rfl ?_
    replace hE := zf_ip hE c1_1
    refine mm_g 2 (pc1 := 81) (lo1 := [some (.int (Int32.ofInt a1)), some (.int (Int32.ofInt a2)), some (.int (Int32.ofInt a3))]) (st1 := [.int (Int32.ofInt a3), .int (Int32.ofInt a2)]) (H1 := mz_mk g x) rfl ?_
    refine mz_ic_ne (tgt := 88) rfl rfl (mz_rg l_a2 u_a2) (mz_rg l_a3 u_a3) (fun c81_0 => ?_) (fun c81_0 => ?_)
    · skip
      replace hE := zf_in hE c81_0
      refine mm_g 1 (pc1 := 89) (lo1 := [some (.int (Int32.ofInt a1)), some (.int (Int32.ofInt a2)), some (.int (Int32.ofInt a3))]) (st1 := [.int (Int32.ofInt 0)]) (H1 := mz_mk g x) rfl ?_
      exact mm_rt rfl rfl (hQ _ (by decide) (by decide) hE)
    · skip
      replace hE := zf_ip hE c81_0
      refine mm_g 1 (pc1 := 85) (lo1 := [some (.int (Int32.ofInt a1)), some (.int (Int32.ofInt a2)), some (.int (Int32.ofInt a3))]) (st1 := [.int (Int32.ofInt 1)]) (H1 := mz_mk g x) rfl ?_
      refine mz_gt (tgt := 89) rfl rfl ?_
      exact mm_rt rfl rfl (hQ _ (by decide) (by decide) hE)
  replace hE := zf_in hE c1_1
  by_cases c1_2 : a1 = (-24)
  · refine mz_tsi (tgt := 68) rfl (mz_rg l_a1 u_a1) (by omega) (by omega) (by rw [c1_2]; rfl) rfl ?_
    replace hE := zf_ip hE c1_2
    refine mm_g 2 (pc1 := 70) (lo1 := [some (.int (Int32.ofInt a1)), some (.int (Int32.ofInt a2)), some (.int (Int32.ofInt a3))]) (st1 := [.int (Int32.ofInt a3), .int (Int32.ofInt a2)]) (H1 := mz_mk g x) rfl ?_
    refine mz_ic_ge (tgt := 77) rfl rfl (mz_rg l_a2 u_a2) (mz_rg l_a3 u_a3) (fun c70_0 => ?_) (fun c70_0 => ?_)
    · skip
      replace hE := zf_nl hE c70_0
      refine mm_g 1 (pc1 := 78) (lo1 := [some (.int (Int32.ofInt a1)), some (.int (Int32.ofInt a2)), some (.int (Int32.ofInt a3))]) (st1 := [.int (Int32.ofInt 0)]) (H1 := mz_mk g x) rfl ?_
      exact mm_rt rfl rfl (hQ _ (by decide) (by decide) hE)
    · skip
      replace hE := zf_ip hE c70_0
      refine mm_g 1 (pc1 := 74) (lo1 := [some (.int (Int32.ofInt a1)), some (.int (Int32.ofInt a2)), some (.int (Int32.ofInt a3))]) (st1 := [.int (Int32.ofInt 1)]) (H1 := mz_mk g x) rfl ?_
      refine mz_gt (tgt := 78) rfl rfl ?_
      exact mm_rt rfl rfl (hQ _ (by decide) (by decide) hE)
  replace hE := zf_in hE c1_2
  by_cases c1_3 : a1 = (-23)
  · refine mz_tsi (tgt := 56) rfl (mz_rg l_a1 u_a1) (by omega) (by omega) (by rw [c1_3]; rfl) rfl ?_
    replace hE := zf_ip hE c1_3
    refine mm_g 1 (pc1 := 57) (lo1 := [some (.int (Int32.ofInt a1)), some (.int (Int32.ofInt a2)), some (.int (Int32.ofInt a3))]) (st1 := [.int (Int32.ofInt a3)]) (H1 := mz_mk g x) rfl ?_
    refine mz_if_ne (tgt := 64) rfl rfl (mz_rg l_a3 u_a3) (fun c57_0 => ?_) (fun c57_0 => ?_)
    · skip
      replace hE := zf_in hE c57_0
      refine mm_g 2 (pc1 := 66) (lo1 := [some (.int (Int32.ofInt a1)), some (.int (Int32.ofInt a2)), some (.int (Int32.ofInt a3))]) (st1 := [.int (Int32.ofInt a3), .int (Int32.ofInt a2)]) (H1 := mz_mk g x) rfl ?_
      refine mz_idiv rfl (mz_rg l_a3 u_a3) (by omega) (fun v1 e_v1 hwv1 => ?_)
      replace hE := zf_tr hE (zf_le e_v1.symm)
      have l_v1 := hwv1.1
      have u_v1 := hwv1.2
      exact mm_rt rfl rfl (hQ _ (by omega) (by omega) hE)
    · skip
      replace hE := zf_ip hE c57_0
      refine mm_g 1 (pc1 := 61) (lo1 := [some (.int (Int32.ofInt a1)), some (.int (Int32.ofInt a2)), some (.int (Int32.ofInt a3))]) (st1 := [.int (Int32.ofInt 0)]) (H1 := mz_mk g x) rfl ?_
      refine mz_gt (tgt := 67) rfl rfl ?_
      exact mm_rt rfl rfl (hQ _ (by decide) (by decide) hE)
  replace hE := zf_in hE c1_3
  by_cases c1_4 : a1 = (-22)
  · refine mz_tsi (tgt := 52) rfl (mz_rg l_a1 u_a1) (by omega) (by omega) (by rw [c1_4]; rfl) rfl ?_
    replace hE := zf_ip hE c1_4
    refine mm_g 2 (pc1 := 54) (lo1 := [some (.int (Int32.ofInt a1)), some (.int (Int32.ofInt a2)), some (.int (Int32.ofInt a3))]) (st1 := [.int (Int32.ofInt a3), .int (Int32.ofInt a2)]) (H1 := mz_mk g x) rfl ?_
    refine mz_imul_w rfl (fun v2 e_v2 hwv2 => ?_)
    have l_v2 := hwv2.1
    have u_v2 := hwv2.2
    replace hE := zf_tr hE (zf_le e_v2.symm)
    exact mm_rt rfl rfl (hQ _ (by omega) (by omega) hE)
  replace hE := zf_in hE c1_4
  by_cases c1_5 : a1 = (-21)
  · refine mz_tsi (tgt := 48) rfl (mz_rg l_a1 u_a1) (by omega) (by omega) (by rw [c1_5]; rfl) rfl ?_
    replace hE := zf_ip hE c1_5
    refine mm_g 2 (pc1 := 50) (lo1 := [some (.int (Int32.ofInt a1)), some (.int (Int32.ofInt a2)), some (.int (Int32.ofInt a3))]) (st1 := [.int (Int32.ofInt a3), .int (Int32.ofInt a2)]) (H1 := mz_mk g x) rfl ?_
    refine mz_isub_w rfl (fun v3 e_v3 hwv3 => ?_)
    have l_v3 := hwv3.1
    have u_v3 := hwv3.2
    replace hE := zf_tr hE (zf_le e_v3.symm)
    exact mm_rt rfl rfl (hQ _ (by omega) (by omega) hE)
  replace hE := zf_in hE c1_5
  by_cases c1_6 : a1 = (-20)
  · refine mz_tsi (tgt := 44) rfl (mz_rg l_a1 u_a1) (by omega) (by omega) (by rw [c1_6]; rfl) rfl ?_
    replace hE := zf_ip hE c1_6
    refine mm_g 2 (pc1 := 46) (lo1 := [some (.int (Int32.ofInt a1)), some (.int (Int32.ofInt a2)), some (.int (Int32.ofInt a3))]) (st1 := [.int (Int32.ofInt a3), .int (Int32.ofInt a2)]) (H1 := mz_mk g x) rfl ?_
    refine mz_iadd_w rfl (fun v4 e_v4 hwv4 => ?_)
    have l_v4 := hwv4.1
    have u_v4 := hwv4.2
    replace hE := zf_tr hE (zf_le e_v4.symm)
    exact mm_rt rfl rfl (hQ _ (by omega) (by omega) hE)
  replace hE := zf_in hE c1_6
  refine mz_tso (tgt := 104) rfl (mz_rg l_a1 u_a1) (by omega) rfl ?_
  refine mm_g 1 (pc1 := 105) (lo1 := [some (.int (Int32.ofInt a1)), some (.int (Int32.ofInt a2)), some (.int (Int32.ofInt a3))]) (st1 := [.int (Int32.ofInt a2)]) (H1 := mz_mk g x) rfl ?_
  refine mz_if_ne (tgt := 112) rfl rfl (mz_rg l_a2 u_a2) (fun c105_4 => ?_) (fun c105_4 => ?_)
  · skip
    replace hE := zf_in hE c105_4
    refine mm_g 1 (pc1 := 113) (lo1 := [some (.int (Int32.ofInt a1)), some (.int (Int32.ofInt a2)), some (.int (Int32.ofInt a3))]) (st1 := [.int (Int32.ofInt 1)]) (H1 := mz_mk g x) rfl ?_
    refine mz_gt (tgt := 117) rfl rfl ?_
    exact mm_rt rfl rfl (hQ _ (by decide) (by decide) hE)
  · skip
    replace hE := zf_ip hE c105_4
    refine mm_g 1 (pc1 := 109) (lo1 := [some (.int (Int32.ofInt a1)), some (.int (Int32.ofInt a2)), some (.int (Int32.ofInt a3))]) (st1 := [.int (Int32.ofInt a3)]) (H1 := mz_mk g x) rfl ?_
    refine mz_if_eq (tgt := 116) rfl rfl (mz_rg l_a3 u_a3) (fun c109_4 => ?_) (fun c109_4 => ?_)
    · skip
      replace hE := zf_ip hE c109_4
      refine mm_g 1 (pc1 := 117) (lo1 := [some (.int (Int32.ofInt a1)), some (.int (Int32.ofInt a2)), some (.int (Int32.ofInt a3))]) (st1 := [.int (Int32.ofInt 0)]) (H1 := mz_mk g x) rfl ?_
      exact mm_rt rfl rfl (hQ _ (by decide) (by decide) hE)
    · skip
      replace hE := zf_in hE c109_4
      refine mm_g 1 (pc1 := 113) (lo1 := [some (.int (Int32.ofInt a1)), some (.int (Int32.ofInt a2)), some (.int (Int32.ofInt a3))]) (st1 := [.int (Int32.ofInt 1)]) (H1 := mz_mk g x) rfl ?_
      refine mz_gt (tgt := 117) rfl rfl ?_
      exact mm_rt rfl rfl (hQ _ (by decide) (by decide) hE)
def fl_X12_valueNow_4 (x : mm_X) : Nat → Nat → Prop := fun k j => k = 161
def fw_X12_valueNow (x : mm_X) : Nat → Nat → Prop := fun k j => k = 161
theorem f_X12_valueNow {d : Nat} (hd : 2 ≤ d) {x : mm_X} (hx : mk_x x) {g : mz_G} (hI : mz_inv g) (p1 : mz_pv g) {Q : (Option Value ⊕ Nat) → mm_H → Prop} (hQ : ∀ (r : Int) (g1 : mz_G), mz_inv g1 → mz_fr (fw_X12_valueNow x) g g1 → (-2147483648) ≤ r → r ≤ 2147483647 → zf_E (zF_X12_valueNow g) ((r, g1)) → Q (.inl (some (.int (Int32.ofInt r)))) (mz_mk g1 x)) : mm_C d 232 [.ref 137] (mz_mk g x) Q := by
  refine ⟨mmX12_valueNow, [some (.ref 137), none, none, none], rfl, rfl, ?_⟩
  have bz0 := mz_rd hI bt_140_3
  have hpv := p1
  have hE : zf_E (zF_X12_valueNow g) (zF_X12_valueNow g) := zf_rf
  refine mm_g 4 (pc1 := 4) (lo1 := [some (.ref 137), some (.int (Int32.ofInt 0)), some (.int (Int32.ofInt 0)), none]) (st1 := []) (H1 := mz_mk g x) rfl ?_
  have L7 : ∀ n6 : Nat, ∀ (v1 : Int) (v2 : Int) (o3 : Option Value) (g4 : mz_G), (700 - v2).toNat = n6 → 0 ≤ v1 → v1 ≤ 40 → 0 ≤ v2 → v2 ≤ 700 → mz_nl o3 → mz_inv g4 → mz_fr (fl_X12_valueNow_4 x) g g4 → (mz_dst (g4 149) v2.toNat = some v1.toNat) → (∃ fk : Nat, (700 - v2).toNat < fk ∧ zf_E (zF_X12_valueNow g) (zL_X12_valueNow_4 fk v1 v2 g4)) → mm_W d mmX12_valueNow 4 [some (.ref 137), some (.int (Int32.ofInt v1)), some (.int (Int32.ofInt v2)), o3] [] (mz_mk g4 x) Q := by
    intro n6
    induction n6 using Nat.strongRecOn with
    | ind n6 ih5 =>
    intro v1 v2 o3 g4 hmn6 l_v1 u_v1 l_v2 u_v2 h_o3 hIg4 hfg4 hv8 hF
    obtain ⟨fk, fl, hE⟩ := hF
    obtain ⟨fj9, rfl⟩ : ∃ fj, fk = fj + 1 := ⟨fk - 1, by omega⟩
    have fn10 : n6 ≤ fj9 := by omega
    replace hE := zf_tr hE zL_X12_valueNow_4_s
    refine mm_g 2 (pc1 := 6) (lo1 := [some (.ref 137), some (.int (Int32.ofInt v1)), some (.int (Int32.ofInt v2)), o3]) (st1 := [.ref 137, .int (Int32.ofInt v2)]) (H1 := mz_mk g4 x) rfl ?_
    refine mz_fgR (v := 140) rfl fd_12_36 (by decide) (sc_137 _) (rf_137_3 _ _ _) ?_
    refine mm_g 1 (pc1 := 10) (lo1 := [some (.ref 137), some (.int (Int32.ofInt v1)), some (.int (Int32.ofInt v2)), o3]) (st1 := [.int (Int32.ofInt 3), .ref 140, .int (Int32.ofInt v2)]) (H1 := mz_mk g4 x) rfl ?_
    refine mz_ia (v := (g 140 3)) rfl (sh_140 _) (by decide) (by decide) (by decide) (show g4 140 3 = (g 140 3) from ((hfg4 140 3 (fun h => (absurd (show 140 = 161 from h) (by decide)))).trans rfl)) ?_
    replace hE := zf_tr hE (zf_le (show g4 140 3 = (g 140 3) from ((hfg4 140 3 (fun h => (absurd (show 140 = 161 from h) (by decide)))).trans rfl)))
    refine mz_ic_ge (tgt := 123) rfl rfl (mz_rg l_v2 u_v2) ⟨by omega, by omega⟩ (fun c11_10 => ?_) (fun c11_10 => ?_)
    · skip
      replace hE := zf_nl hE c11_10
      refine mm_g 1 (pc1 := 124) (lo1 := [some (.ref 137), some (.int (Int32.ofInt v1)), some (.int (Int32.ofInt v2)), o3]) (st1 := [.ref 137]) (H1 := mz_mk g4 x) rfl ?_
      refine mz_fgR (v := 161) rfl fd_12_100 (by decide) (sc_137 _) (rf_137_39 _ _ _) ?_
      refine mm_g 1 (pc1 := 128) (lo1 := [some (.ref 137), some (.int (Int32.ofInt v1)), some (.int (Int32.ofInt v2)), o3]) (st1 := [.int (Int32.ofInt 0), .ref 161]) (H1 := mz_mk g4 x) rfl ?_
      refine mz_aI rfl (sh_161 _) (by omega) (by omega) (by decide) hIg4 (ba_161 _) (fun v11 e_v11 l_v11 u_v11 => ?_)
      have e_v11 : g4 161 0 = v11 := e_v11
      replace hE := zf_tr hE (zf_le e_v11)
      exact mm_rt rfl rfl (hQ _ _ hIg4 (fun k j hk => (hfg4 k j (fun h => hk h))) (by omega) (by omega) hE)
    · skip
      replace hE := zf_ip hE c11_10
      refine mm_g 1 (pc1 := 15) (lo1 := [some (.ref 137), some (.int (Int32.ofInt v1)), some (.int (Int32.ofInt v2)), o3]) (st1 := [.ref 137]) (H1 := mz_mk g4 x) rfl ?_
      refine mz_fgR (v := 149) rfl fd_12_63 (by decide) (sc_137 _) (rf_137_12 _ _ _) ?_
      refine mm_g 1 (pc1 := 19) (lo1 := [some (.ref 137), some (.int (Int32.ofInt v1)), some (.int (Int32.ofInt v2)), o3]) (st1 := [.int (Int32.ofInt v2), .ref 149]) (H1 := mz_mk g4 x) rfl ?_
      refine mz_aI rfl (sh_149 _) (by omega) (by omega) (by decide) hIg4 (ba_149 _) (fun v12 e_v12 l_v12 u_v12 => ?_)
      replace hE := zf_tr hE (zf_le e_v12)
      obtain ⟨hs1, hs2, hs3⟩ := mz_dst_next (g := g4) (mz_pv_fr hpv (fun _j => ((hfg4 149 _j (fun h => (absurd (show 149 = 161 from h) (by decide)))).trans rfl)) ((hfg4 140 3 (fun h => (absurd (show 140 = 161 from h) (by decide)))).trans rfl)) (k := v2) (n := v1) (by omega) hv8 (by omega) (show g4 140 3 = (g 140 3) from ((hfg4 140 3 (fun h => (absurd (show 140 = 161 from h) (by decide)))).trans rfl)) (by omega) e_v12
      have ha1 : -20 < v12 → -7 ≤ v12 ∧ v1 + 1 ≤ 40 := fun z => ⟨(hs1 z).1, (hs1 z).2.1⟩
      have ha2 : v12 = -28 → 1 ≤ v1 := fun z => (hs2 z).1
      have ha3 : v12 ≤ -20 ∧ v12 ≠ -28 → 2 ≤ v1 := fun z => (hs3 z).1
      refine mm_g 2 (pc1 := 22) (lo1 := [some (.ref 137), some (.int (Int32.ofInt v1)), some (.int (Int32.ofInt v2)), some (.int (Int32.ofInt v12))]) (st1 := [.int (Int32.ofInt v12)]) (H1 := mz_mk g4 x) rfl ?_
      refine mz_bip rfl bip_m20 ?_
      refine mz_ic_le (tgt := 55) rfl rfl (mz_rg l_v12 u_v12) ⟨by decide, by decide⟩ (fun c24_12 => ?_) (fun c24_12 => ?_)
      · skip
        replace hE := zf_nl hE c24_12
        refine mm_g 1 (pc1 := 56) (lo1 := [some (.ref 137), some (.int (Int32.ofInt v1)), some (.int (Int32.ofInt v2)), some (.int (Int32.ofInt v12))]) (st1 := [.int (Int32.ofInt v12)]) (H1 := mz_mk g4 x) rfl ?_
        refine mz_bip rfl bip_m28 ?_
        refine mz_ic_ne (tgt := 88) rfl rfl (mz_rg l_v12 u_v12) ⟨by decide, by decide⟩ (fun c58_12 => ?_) (fun c58_12 => ?_)
        · skip
          replace hE := zf_in hE c58_12
          refine mz_iincR (v := v1) (lo2 := [some (.ref 137), some (.int (Int32.ofInt (v1 + (-1)))), some (.int (Int32.ofInt v2)), some (.int (Int32.ofInt v12))]) rfl rfl rfl (Nat.le_of_ble_eq_true rfl) rfl ?_
          refine mm_g 1 (pc1 := 92) (lo1 := [some (.ref 137), some (.int (Int32.ofInt (v1 + (-1)))), some (.int (Int32.ofInt v2)), some (.int (Int32.ofInt v12))]) (st1 := [.ref 137]) (H1 := mz_mk g4 x) rfl ?_
          refine mz_fgR (v := 161) rfl fd_12_100 (by decide) (sc_137 _) (rf_137_39 _ _ _) ?_
          refine mm_g 2 (pc1 := 97) (lo1 := [some (.ref 137), some (.int (Int32.ofInt (v1 + (-1)))), some (.int (Int32.ofInt v2)), some (.int (Int32.ofInt v12))]) (st1 := [.int (Int32.ofInt 1), .int (Int32.ofInt (v1 + (-1))), .ref 161]) (H1 := mz_mk g4 x) rfl ?_
          refine mz_isub rfl ?_
          refine mm_g 2 (pc1 := 100) (lo1 := [some (.ref 137), some (.int (Int32.ofInt (v1 + (-1)))), some (.int (Int32.ofInt v2)), some (.int (Int32.ofInt v12))]) (st1 := [.ref 137, .int (Int32.ofInt v12), .int (Int32.ofInt ((v1 + (-1)) - 1)), .ref 161]) (H1 := mz_mk g4 x) rfl ?_
          refine mz_fgR (v := 161) rfl fd_12_100 (by decide) (sc_137 _) (rf_137_39 _ _ _) ?_
          refine mm_g 2 (pc1 := 105) (lo1 := [some (.ref 137), some (.int (Int32.ofInt (v1 + (-1)))), some (.int (Int32.ofInt v2)), some (.int (Int32.ofInt v12))]) (st1 := [.int (Int32.ofInt 1), .int (Int32.ofInt (v1 + (-1))), .ref 161, .int (Int32.ofInt v12), .int (Int32.ofInt ((v1 + (-1)) - 1)), .ref 161]) (H1 := mz_mk g4 x) rfl ?_
          refine mz_isub rfl ?_
          refine mz_aI rfl (sh_161 _) (by omega) (by omega) (by decide) hIg4 (ba_161 _) (fun v13 e_v13 l_v13 u_v13 => ?_)
          replace hE := zf_tr hE (zf_le e_v13)
          refine mm_g 1 (pc1 := 108) (lo1 := [some (.ref 137), some (.int (Int32.ofInt (v1 + (-1)))), some (.int (Int32.ofInt v2)), some (.int (Int32.ofInt v12))]) (st1 := [.ref 137, .int (Int32.ofInt v13), .int (Int32.ofInt v12), .int (Int32.ofInt ((v1 + (-1)) - 1)), .ref 161]) (H1 := mz_mk g4 x) rfl ?_
          refine mz_fgR (v := 161) rfl fd_12_100 (by decide) (sc_137 _) (rf_137_39 _ _ _) ?_
          refine mm_g 1 (pc1 := 112) (lo1 := [some (.ref 137), some (.int (Int32.ofInt (v1 + (-1)))), some (.int (Int32.ofInt v2)), some (.int (Int32.ofInt v12))]) (st1 := [.int (Int32.ofInt (v1 + (-1))), .ref 161, .int (Int32.ofInt v13), .int (Int32.ofInt v12), .int (Int32.ofInt ((v1 + (-1)) - 1)), .ref 161]) (H1 := mz_mk g4 x) rfl ?_
          refine mz_aI rfl (sh_161 _) (by omega) (by omega) (by decide) hIg4 (ba_161 _) (fun v14 e_v14 l_v14 u_v14 => ?_)
          replace hE := zf_tr hE (zf_le e_v14)
          refine mz_cs rfl mt_12_343 (by decide) rfl (Nat.le_of_ble_eq_true rfl) (by omega) (f_X12_reckon (by omega) hx hIg4 l_v12 u_v12 l_v13 u_v13 l_v14 u_v14 (fun v15 l_v15 u_v15 hc16 => ⟨_, rfl, ?_⟩))
          show mm_W d mmX12_valueNow 116 [some (.ref 137), some (.int (Int32.ofInt (v1 + (-1)))), some (.int (Int32.ofInt v2)), some (.int (Int32.ofInt v12))] [.int (Int32.ofInt v15), .int (Int32.ofInt ((v1 + (-1)) - 1)), .ref 161] (mz_mk g4 x) Q
          replace hE := zf_t1 hE hc16
          refine mz_sI rfl (sh_161 _) (by omega) (by omega) (by decide) hIg4 (ba_161 _) (by omega) (by omega) (fun g17 hIg17 hug17 => ?_)
          replace hE := zf_tr hE (zf_lg hug17)
          refine mz_iincR (v := v2) (lo2 := [some (.ref 137), some (.int (Int32.ofInt (v1 + (-1)))), some (.int (Int32.ofInt (v2 + 1))), some (.int (Int32.ofInt v12))]) rfl rfl rfl (Nat.le_of_ble_eq_true rfl) rfl ?_
          refine mz_gt (tgt := 4) rfl rfl ?_
          exact ih5 ((700 - (v2 + 1)).toNat) (by omega) (v1 + (-1)) (v2 + 1) (some (.int (Int32.ofInt v12))) g17 rfl (by omega) (by omega) (by omega) (by omega) (mz_nl_i _) hIg17 (fun k j hk => ((hug17.2 k j (fun h => hk h.1)).trans (hfg4 k j (fun h => hk h)))) (by rw [show g17 149 = g4 149 from funext (fun _j => ((hug17.2 149 _j (fun h => absurd h.1 (by decide))).trans rfl))]; first | exact (hs1 (by omega)).2.2 | exact (hs2 (by omega)).2 | exact (hs3 (by omega)).2) ⟨fj9, Nat.lt_of_lt_of_le (show ((700 - (v2 + 1)).toNat) < n6 from (by omega)) fn10, hE⟩
        · skip
          replace hE := zf_ip hE c58_12
          refine mm_g 1 (pc1 := 62) (lo1 := [some (.ref 137), some (.int (Int32.ofInt v1)), some (.int (Int32.ofInt v2)), some (.int (Int32.ofInt v12))]) (st1 := [.ref 137]) (H1 := mz_mk g4 x) rfl ?_
          refine mz_fgR (v := 161) rfl fd_12_100 (by decide) (sc_137 _) (rf_137_39 _ _ _) ?_
          refine mm_g 2 (pc1 := 67) (lo1 := [some (.ref 137), some (.int (Int32.ofInt v1)), some (.int (Int32.ofInt v2)), some (.int (Int32.ofInt v12))]) (st1 := [.int (Int32.ofInt 1), .int (Int32.ofInt v1), .ref 161]) (H1 := mz_mk g4 x) rfl ?_
          refine mz_isub rfl ?_
          refine mm_g 1 (pc1 := 69) (lo1 := [some (.ref 137), some (.int (Int32.ofInt v1)), some (.int (Int32.ofInt v2)), some (.int (Int32.ofInt v12))]) (st1 := [.ref 137, .int (Int32.ofInt (v1 - 1)), .ref 161]) (H1 := mz_mk g4 x) rfl ?_
          refine mz_fgR (v := 161) rfl fd_12_100 (by decide) (sc_137 _) (rf_137_39 _ _ _) ?_
          refine mm_g 2 (pc1 := 74) (lo1 := [some (.ref 137), some (.int (Int32.ofInt v1)), some (.int (Int32.ofInt v2)), some (.int (Int32.ofInt v12))]) (st1 := [.int (Int32.ofInt 1), .int (Int32.ofInt v1), .ref 161, .int (Int32.ofInt (v1 - 1)), .ref 161]) (H1 := mz_mk g4 x) rfl ?_
          refine mz_isub rfl ?_
          refine mz_aI rfl (sh_161 _) (by omega) (by omega) (by decide) hIg4 (ba_161 _) (fun v18 e_v18 l_v18 u_v18 => ?_)
          replace hE := zf_tr hE (zf_le e_v18)
          refine mz_if_eq (tgt := 83) rfl rfl (mz_rg l_v18 u_v18) (fun c76_18 => ?_) (fun c76_18 => ?_)
          · skip
            replace hE := zf_ip hE c76_18
            refine mm_g 1 (pc1 := 84) (lo1 := [some (.ref 137), some (.int (Int32.ofInt v1)), some (.int (Int32.ofInt v2)), some (.int (Int32.ofInt v12))]) (st1 := [.int (Int32.ofInt 1), .int (Int32.ofInt (v1 - 1)), .ref 161]) (H1 := mz_mk g4 x) rfl ?_
            refine mz_sI rfl (sh_161 _) (by omega) (by omega) (by decide) hIg4 (ba_161 _) (by omega) (by omega) (fun g19 hIg19 hug19 => ?_)
            replace hE := zf_tr hE (zf_lg hug19)
            refine mz_gt (tgt := 117) rfl rfl ?_
            refine mz_iincR (v := v2) (lo2 := [some (.ref 137), some (.int (Int32.ofInt v1)), some (.int (Int32.ofInt (v2 + 1))), some (.int (Int32.ofInt v12))]) rfl rfl rfl (Nat.le_of_ble_eq_true rfl) rfl ?_
            refine mz_gt (tgt := 4) rfl rfl ?_
            exact ih5 ((700 - (v2 + 1)).toNat) (by omega) v1 (v2 + 1) (some (.int (Int32.ofInt v12))) g19 rfl (by omega) (by omega) (by omega) (by omega) (mz_nl_i _) hIg19 (fun k j hk => ((hug19.2 k j (fun h => hk h.1)).trans (hfg4 k j (fun h => hk h)))) (by rw [show g19 149 = g4 149 from funext (fun _j => ((hug19.2 149 _j (fun h => absurd h.1 (by decide))).trans rfl))]; first | exact (hs1 (by omega)).2.2 | exact (hs2 (by omega)).2 | exact (hs3 (by omega)).2) ⟨fj9, Nat.lt_of_lt_of_le (show ((700 - (v2 + 1)).toNat) < n6 from (by omega)) fn10, hE⟩
          · skip
            replace hE := zf_in hE c76_18
            refine mm_g 1 (pc1 := 80) (lo1 := [some (.ref 137), some (.int (Int32.ofInt v1)), some (.int (Int32.ofInt v2)), some (.int (Int32.ofInt v12))]) (st1 := [.int (Int32.ofInt 0), .int (Int32.ofInt (v1 - 1)), .ref 161]) (H1 := mz_mk g4 x) rfl ?_
            refine mz_gt (tgt := 84) rfl rfl ?_
            refine mz_sI rfl (sh_161 _) (by omega) (by omega) (by decide) hIg4 (ba_161 _) (by omega) (by omega) (fun g20 hIg20 hug20 => ?_)
            replace hE := zf_tr hE (zf_lg hug20)
            refine mz_gt (tgt := 117) rfl rfl ?_
            refine mz_iincR (v := v2) (lo2 := [some (.ref 137), some (.int (Int32.ofInt v1)), some (.int (Int32.ofInt (v2 + 1))), some (.int (Int32.ofInt v12))]) rfl rfl rfl (Nat.le_of_ble_eq_true rfl) rfl ?_
            refine mz_gt (tgt := 4) rfl rfl ?_
            exact ih5 ((700 - (v2 + 1)).toNat) (by omega) v1 (v2 + 1) (some (.int (Int32.ofInt v12))) g20 rfl (by omega) (by omega) (by omega) (by omega) (mz_nl_i _) hIg20 (fun k j hk => ((hug20.2 k j (fun h => hk h.1)).trans (hfg4 k j (fun h => hk h)))) (by rw [show g20 149 = g4 149 from funext (fun _j => ((hug20.2 149 _j (fun h => absurd h.1 (by decide))).trans rfl))]; first | exact (hs1 (by omega)).2.2 | exact (hs2 (by omega)).2 | exact (hs3 (by omega)).2) ⟨fj9, Nat.lt_of_lt_of_le (show ((700 - (v2 + 1)).toNat) < n6 from (by omega)) fn10, hE⟩
      · skip
        replace hE := zf_ip hE c24_12
        refine mm_g 1 (pc1 := 28) (lo1 := [some (.ref 137), some (.int (Int32.ofInt v1)), some (.int (Int32.ofInt v2)), some (.int (Int32.ofInt v12))]) (st1 := [.ref 137]) (H1 := mz_mk g4 x) rfl ?_
        refine mz_fgR (v := 161) rfl fd_12_100 (by decide) (sc_137 _) (rf_137_39 _ _ _) ?_
        refine mm_g 2 (pc1 := 33) (lo1 := [some (.ref 137), some (.int (Int32.ofInt v1)), some (.int (Int32.ofInt v2)), some (.int (Int32.ofInt v12))]) (st1 := [.int (Int32.ofInt v12), .int (Int32.ofInt v1), .ref 161]) (H1 := mz_mk g4 x) rfl ?_
        refine mz_if_lt (tgt := 40) rfl rfl (mz_rg l_v12 u_v12) (fun c33_20 => ?_) (fun c33_20 => ?_)
        · skip
          replace hE := zf_ip hE c33_20
          refine mm_g 1 (pc1 := 41) (lo1 := [some (.ref 137), some (.int (Int32.ofInt v1)), some (.int (Int32.ofInt v2)), some (.int (Int32.ofInt v12))]) (st1 := [.ref 137, .int (Int32.ofInt v1), .ref 161]) (H1 := mz_mk g4 x) rfl ?_
          refine mz_fgR (v := 160) rfl fd_12_97 (by decide) (sc_137 _) (rf_137_38 _ _ _) ?_
          refine mm_g 2 (pc1 := 46) (lo1 := [some (.ref 137), some (.int (Int32.ofInt v1)), some (.int (Int32.ofInt v2)), some (.int (Int32.ofInt v12))]) (st1 := [.int (Int32.ofInt v12), .int (Int32.ofInt (-1)), .ref 160, .int (Int32.ofInt v1), .ref 161]) (H1 := mz_mk g4 x) rfl ?_
          refine mz_isub rfl ?_
          refine mz_aI rfl (sh_160 _) (by omega) (by omega) (by decide) hIg4 (ba_160 _) (fun v21 e_v21 l_v21 u_v21 => ?_)
          replace hE := zf_tr hE (zf_le e_v21)
          refine mz_sI rfl (sh_161 _) (by omega) (by omega) (by decide) hIg4 (ba_161 _) (by omega) (by omega) (fun g22 hIg22 hug22 => ?_)
          replace hE := zf_tr hE (zf_lg hug22)
          refine mz_iincR (v := v1) (lo2 := [some (.ref 137), some (.int (Int32.ofInt (v1 + 1))), some (.int (Int32.ofInt v2)), some (.int (Int32.ofInt v12))]) rfl rfl rfl (Nat.le_of_ble_eq_true rfl) rfl ?_
          refine mz_gt (tgt := 117) rfl rfl ?_
          refine mz_iincR (v := v2) (lo2 := [some (.ref 137), some (.int (Int32.ofInt (v1 + 1))), some (.int (Int32.ofInt (v2 + 1))), some (.int (Int32.ofInt v12))]) rfl rfl rfl (Nat.le_of_ble_eq_true rfl) rfl ?_
          refine mz_gt (tgt := 4) rfl rfl ?_
          exact ih5 ((700 - (v2 + 1)).toNat) (by omega) (v1 + 1) (v2 + 1) (some (.int (Int32.ofInt v12))) g22 rfl (by omega) (by omega) (by omega) (by omega) (mz_nl_i _) hIg22 (fun k j hk => ((hug22.2 k j (fun h => hk h.1)).trans (hfg4 k j (fun h => hk h)))) (by rw [show g22 149 = g4 149 from funext (fun _j => ((hug22.2 149 _j (fun h => absurd h.1 (by decide))).trans rfl))]; first | exact (hs1 (by omega)).2.2 | exact (hs2 (by omega)).2 | exact (hs3 (by omega)).2) ⟨fj9, Nat.lt_of_lt_of_le (show ((700 - (v2 + 1)).toNat) < n6 from (by omega)) fn10, hE⟩
        · skip
          replace hE := zf_nl hE c33_20
          refine mm_g 1 (pc1 := 37) (lo1 := [some (.ref 137), some (.int (Int32.ofInt v1)), some (.int (Int32.ofInt v2)), some (.int (Int32.ofInt v12))]) (st1 := [.int (Int32.ofInt v12), .int (Int32.ofInt v1), .ref 161]) (H1 := mz_mk g4 x) rfl ?_
          refine mz_gt (tgt := 48) rfl rfl ?_
          refine mz_sI rfl (sh_161 _) (by omega) (by omega) (by decide) hIg4 (ba_161 _) (by omega) (by omega) (fun g23 hIg23 hug23 => ?_)
          replace hE := zf_tr hE (zf_lg hug23)
          refine mz_iincR (v := v1) (lo2 := [some (.ref 137), some (.int (Int32.ofInt (v1 + 1))), some (.int (Int32.ofInt v2)), some (.int (Int32.ofInt v12))]) rfl rfl rfl (Nat.le_of_ble_eq_true rfl) rfl ?_
          refine mz_gt (tgt := 117) rfl rfl ?_
          refine mz_iincR (v := v2) (lo2 := [some (.ref 137), some (.int (Int32.ofInt (v1 + 1))), some (.int (Int32.ofInt (v2 + 1))), some (.int (Int32.ofInt v12))]) rfl rfl rfl (Nat.le_of_ble_eq_true rfl) rfl ?_
          refine mz_gt (tgt := 4) rfl rfl ?_
          exact ih5 ((700 - (v2 + 1)).toNat) (by omega) (v1 + 1) (v2 + 1) (some (.int (Int32.ofInt v12))) g23 rfl (by omega) (by omega) (by omega) (by omega) (mz_nl_i _) hIg23 (fun k j hk => ((hug23.2 k j (fun h => hk h.1)).trans (hfg4 k j (fun h => hk h)))) (by rw [show g23 149 = g4 149 from funext (fun _j => ((hug23.2 149 _j (fun h => absurd h.1 (by decide))).trans rfl))]; first | exact (hs1 (by omega)).2.2 | exact (hs2 (by omega)).2 | exact (hs3 (by omega)).2) ⟨fj9, Nat.lt_of_lt_of_le (show ((700 - (v2 + 1)).toNat) < n6 from (by omega)) fn10, hE⟩
  exact L7 _ 0 0 none g rfl (by decide) (by decide) (by decide) (by decide) mz_nl_n hI (fun _ _ _ => rfl) rfl ⟨3000000000, by omega, hE⟩
theorem f_X12_heatOf {d : Nat} (hd : 1 ≤ d) {x : mm_X} (hx : mk_x x) {g : mz_G} (hI : mz_inv g) {a1 : Int} (l_a1 : 0 ≤ a1) (u_a1 : a1 ≤ 1999) {Q : (Option Value ⊕ Nat) → mm_H → Prop} (hQ : ∀ (r : Int), (-2147483648) ≤ r → r ≤ 2147483647 → zf_E (zF_X12_heatOf a1 g) (r) → Q (.inl (some (.int (Int32.ofInt r)))) (mz_mk g x)) : mm_C d 233 [.ref 137, .int (Int32.ofInt a1)] (mz_mk g x) Q := by
  refine ⟨mmX12_heatOf, [some (.ref 137), some (.int (Int32.ofInt a1))], rfl, rfl, ?_⟩
  have hE : zf_E (zF_X12_heatOf a1 g) (zF_X12_heatOf a1 g) := zf_rf
  refine mm_g 1 (pc1 := 1) (lo1 := [some (.ref 137), some (.int (Int32.ofInt a1))]) (st1 := [.ref 137]) (H1 := mz_mk g x) rfl ?_
  refine mz_fgR (v := 140) rfl fd_12_36 (by decide) (sc_137 _) (rf_137_3 _ _ _) ?_
  refine mm_g 1 (pc1 := 5) (lo1 := [some (.ref 137), some (.int (Int32.ofInt a1))]) (st1 := [.int (Int32.ofInt 2), .ref 140]) (H1 := mz_mk g x) rfl ?_
  refine mz_aI rfl (sh_140 _) (by omega) (by omega) (by decide) hI bt_140_2 (fun v1 e_v1 l_v1 u_v1 => ?_)
  have e_v1 : g 140 2 = v1 := e_v1
  replace hE := zf_tr hE (zf_le e_v1)
  refine mz_if_ne (tgt := 13) rfl rfl (mz_rg l_v1 u_v1) (fun c6_1 => ?_) (fun c6_1 => ?_)
  · skip
    replace hE := zf_in hE c6_1
    refine mm_g 1 (pc1 := 14) (lo1 := [some (.ref 137), some (.int (Int32.ofInt a1))]) (st1 := [.ref 137]) (H1 := mz_mk g x) rfl ?_
    refine mz_fgR (v := 148) rfl fd_12_60 (by decide) (sc_137 _) (rf_137_11 _ _ _) ?_
    refine mm_g 2 (pc1 := 19) (lo1 := [some (.ref 137), some (.int (Int32.ofInt a1))]) (st1 := [.ref 137, .int (Int32.ofInt a1), .ref 148]) (H1 := mz_mk g x) rfl ?_
    refine mz_fgR (v := 140) rfl fd_12_36 (by decide) (sc_137 _) (rf_137_3 _ _ _) ?_
    refine mm_g 1 (pc1 := 23) (lo1 := [some (.ref 137), some (.int (Int32.ofInt a1))]) (st1 := [.int (Int32.ofInt 2), .ref 140, .int (Int32.ofInt a1), .ref 148]) (H1 := mz_mk g x) rfl ?_
    refine mz_ia (v := v1) rfl (sh_140 _) (by decide) (by decide) (by decide) e_v1 ?_
    replace hE := zf_tr hE (zf_le e_v1)
    refine mz_iremq rfl (mz_rg l_a1 u_a1) (mz_rg l_v1 u_v1) (by omega) (by omega) (fun v2 e_v2 l_v2 w_v2 z_v2 => ?_)
    have u_v2 : v2 ≤ 7 := by omega
    replace hE := zf_tr hE (zf_le e_v2.symm)
    refine mz_aI rfl (sh_148 _) (by omega) (by omega) (by decide) hI (ba_148 _) (fun v3 e_v3 l_v3 u_v3 => ?_)
    replace hE := zf_tr hE (zf_le e_v3)
    exact mm_rt rfl rfl (hQ _ (by omega) (by omega) hE)
  · skip
    replace hE := zf_ip hE c6_1
    refine mm_g 1 (pc1 := 10) (lo1 := [some (.ref 137), some (.int (Int32.ofInt a1))]) (st1 := [.int (Int32.ofInt 5)]) (H1 := mz_mk g x) rfl ?_
    refine mz_gt (tgt := 26) rfl rfl ?_
    exact mm_rt rfl rfl (hQ _ (by decide) (by decide) hE)
theorem f_X12_fullOf {d : Nat} (hd : 12 ≤ d) {x : mm_X} (hx : mk_x x) {g : mz_G} (hI : mz_inv g) {a1 : Int} (l_a1 : 0 ≤ a1) (u_a1 : a1 ≤ 5) {Q : (Option Value ⊕ Nat) → mm_H → Prop} (hQ : ∀ (r : Int), 0 ≤ r → r ≤ 8 → zf_E (zF_X12_fullOf a1 g) (r) → Q (.inl (some (.int (Int32.ofInt r)))) (mz_mk g x)) : mm_C d 234 [.ref 137, .int (Int32.ofInt a1)] (mz_mk g x) Q := by
  refine ⟨mmX12_fullOf, [some (.ref 137), some (.int (Int32.ofInt a1))], rfl, rfl, ?_⟩
  have hE : zf_E (zF_X12_fullOf a1 g) (zF_X12_fullOf a1 g) := zf_rf
  refine mm_g 1 (pc1 := 1) (lo1 := [some (.ref 137), some (.int (Int32.ofInt a1))]) (st1 := [.ref 137]) (H1 := mz_mk g x) rfl ?_
  refine mz_fgR (v := 142) rfl fd_12_43 (by decide) (sc_137 _) (rf_137_5 _ _ _) ?_
  refine mm_g 1 (pc1 := 5) (lo1 := [some (.ref 137), some (.int (Int32.ofInt a1))]) (st1 := [.ref 137, .ref 142]) (H1 := mz_mk g x) rfl ?_
  refine mz_fgR (v := 153) rfl fd_12_78 (by decide) (sc_137 _) (rf_137_26 _ _ _) ?_
  refine mm_g 1 (pc1 := 9) (lo1 := [some (.ref 137), some (.int (Int32.ofInt a1))]) (st1 := [.int (Int32.ofInt a1), .ref 153, .ref 142]) (H1 := mz_mk g x) rfl ?_
  refine mz_aI rfl (sh_153 _) (by omega) (by omega) (by decide) hI (ba_153 _) (fun v1 e_v1 l_v1 u_v1 => ?_)
  replace hE := zf_tr hE (zf_le e_v1)
  refine mz_aI rfl (sh_142 _) (by omega) (by omega) (by decide) hI (ba_142 _) (fun v2 e_v2 l_v2 u_v2 => ?_)
  replace hE := zf_tr hE (zf_le e_v2)
  refine mm_g 1 (pc1 := 12) (lo1 := [some (.ref 137), some (.int (Int32.ofInt a1))]) (st1 := [.ref 137, .int (Int32.ofInt v2)]) (H1 := mz_mk g x) rfl ?_
  refine mz_fgR (v := 142) rfl fd_12_43 (by decide) (sc_137 _) (rf_137_5 _ _ _) ?_
  refine mm_g 1 (pc1 := 16) (lo1 := [some (.ref 137), some (.int (Int32.ofInt a1))]) (st1 := [.ref 137, .ref 142, .int (Int32.ofInt v2)]) (H1 := mz_mk g x) rfl ?_
  refine mz_fgR (v := 154) rfl fd_12_80 (by decide) (sc_137 _) (rf_137_27 _ _ _) ?_
  refine mm_g 1 (pc1 := 20) (lo1 := [some (.ref 137), some (.int (Int32.ofInt a1))]) (st1 := [.int (Int32.ofInt a1), .ref 154, .ref 142, .int (Int32.ofInt v2)]) (H1 := mz_mk g x) rfl ?_
  refine mz_aI rfl (sh_154 _) (by omega) (by omega) (by decide) hI (ba_154 _) (fun v3 e_v3 l_v3 u_v3 => ?_)
  replace hE := zf_tr hE (zf_le e_v3)
  refine mz_aI rfl (sh_142 _) (by omega) (by omega) (by decide) hI (ba_142 _) (fun v4 e_v4 l_v4 u_v4 => ?_)
  replace hE := zf_tr hE (zf_le e_v4)
  refine mz_mn rfl mt_12_191 (Nat.le_of_ble_eq_true rfl) (by omega) (mz_rg l_v2 u_v2) (mz_rg l_v4 u_v4) (fun v5 e_v5 => ?_)
  have l_v5 : 0 ≤ v5 := by omega
  have u_v5 : v5 ≤ 8 := by omega
  replace hE := zf_tr hE (zf_le e_v5.symm)
  exact mm_rt rfl rfl (hQ _ (by omega) (by omega) hE)
theorem f_X12_isFull {d : Nat} (hd : 13 ≤ d) {x : mm_X} (hx : mk_x x) {g : mz_G} (hI : mz_inv g) {a1 : Int} (l_a1 : 0 ≤ a1) (u_a1 : a1 ≤ 5) {Q : (Option Value ⊕ Nat) → mm_H → Prop} (hQ : ∀ (r : Int), 0 ≤ r → r ≤ 1 → zf_E (zF_X12_isFull a1 g) (r) → Q (.inl (some (.int (Int32.ofInt r)))) (mz_mk g x)) : mm_C d 235 [.ref 137, .int (Int32.ofInt a1)] (mz_mk g x) Q := by
  refine ⟨mmX12_isFull, [some (.ref 137), some (.int (Int32.ofInt a1))], rfl, rfl, ?_⟩
  have hE : zf_E (zF_X12_isFull a1 g) (zF_X12_isFull a1 g) := zf_rf
  refine mm_g 1 (pc1 := 1) (lo1 := [some (.ref 137), some (.int (Int32.ofInt a1))]) (st1 := [.ref 137]) (H1 := mz_mk g x) rfl ?_
  refine mz_fgR (v := 152) rfl fd_12_76 (by decide) (sc_137 _) (rf_137_25 _ _ _) ?_
  refine mm_g 1 (pc1 := 5) (lo1 := [some (.ref 137), some (.int (Int32.ofInt a1))]) (st1 := [.int (Int32.ofInt a1), .ref 152]) (H1 := mz_mk g x) rfl ?_
  refine mz_aI rfl (sh_152 _) (by omega) (by omega) (by decide) hI (ba_152 _) (fun v1 e_v1 l_v1 u_v1 => ?_)
  replace hE := zf_tr hE (zf_le e_v1)
  refine mm_g 2 (pc1 := 8) (lo1 := [some (.ref 137), some (.int (Int32.ofInt a1))]) (st1 := [.int (Int32.ofInt a1), .ref 137, .int (Int32.ofInt v1)]) (H1 := mz_mk g x) rfl ?_
  refine mz_cv rfl mt_12_347 (by decide) (sc_137 _) rfl (Nat.le_of_ble_eq_true rfl) (by omega) (f_X12_fullOf (by omega) hx hI l_a1 u_a1 (fun v2 l_v2 u_v2 hc3 => ⟨_, rfl, ?_⟩))
  show mm_W d mmX12_isFull 11 [some (.ref 137), some (.int (Int32.ofInt a1))] [.int (Int32.ofInt v2), .int (Int32.ofInt v1)] (mz_mk g x) Q
  replace hE := zf_t1 hE hc3
  refine mz_ic_ne (tgt := 18) rfl rfl (mz_rg l_v1 u_v1) (mz_rg l_v2 u_v2) (fun c11_3 => ?_) (fun c11_3 => ?_)
  · skip
    replace hE := zf_in hE c11_3
    refine mm_g 1 (pc1 := 19) (lo1 := [some (.ref 137), some (.int (Int32.ofInt a1))]) (st1 := [.int (Int32.ofInt 0)]) (H1 := mz_mk g x) rfl ?_
    exact mz_rtZ rfl (by decide) (by omega) (hQ _ (by decide) (by decide) hE)
  · skip
    replace hE := zf_ip hE c11_3
    refine mm_g 1 (pc1 := 15) (lo1 := [some (.ref 137), some (.int (Int32.ofInt a1))]) (st1 := [.int (Int32.ofInt 1)]) (H1 := mz_mk g x) rfl ?_
    refine mz_gt (tgt := 19) rfl rfl ?_
    exact mz_rtZ rfl (by decide) (by omega) (hQ _ (by decide) (by decide) hE)
def fw_X12_growsOf (x : mm_X) (a1 : Int) (a2 : Int) : Nat → Nat → Prop := fun k j => (k = 160 ∧ j = 0) ∨ (k = 160 ∧ j = 1) ∨ (k = 160 ∧ j = 2) ∨ (k = 160 ∧ j = 3) ∨ (k = 160 ∧ j = 4) ∨ (k = 160 ∧ j = 5) ∨ (k = 160 ∧ j = 6) ∨ k = 161
theorem f_X12_growsOf {d : Nat} (hd : 13 ≤ d) {x : mm_X} (hx : mk_x x) {g : mz_G} (hI : mz_inv g) {a1 : Int} (l_a1 : 0 ≤ a1) (u_a1 : a1 ≤ 5) {a2 : Int} (l_a2 : (-2147483648) ≤ a2) (u_a2 : a2 ≤ 2147483647) (p1 : mz_pv g) {Q : (Option Value ⊕ Nat) → mm_H → Prop} (hQ : ∀ (r : Int) (g1 : mz_G), mz_inv g1 → mz_fr (fw_X12_growsOf x a1 a2) g g1 → 0 ≤ r → r ≤ 6 → zf_E (zF_X12_growsOf a1 a2 g) ((r, g1)) → Q (.inl (some (.int (Int32.ofInt r)))) (mz_mk g1 x)) : mm_C d 236 [.ref 137, .int (Int32.ofInt a1), .int (Int32.ofInt a2)] (mz_mk g x) Q := by
  refine ⟨mmX12_growsOf, [some (.ref 137), some (.int (Int32.ofInt a1)), some (.int (Int32.ofInt a2)), none], rfl, rfl, ?_⟩
  have hpv := p1
  have hE : zf_E (zF_X12_growsOf a1 a2 g) (zF_X12_growsOf a1 a2 g) := zf_rf
  refine mm_g 2 (pc1 := 2) (lo1 := [some (.ref 137), some (.int (Int32.ofInt a1)), some (.int (Int32.ofInt a2)), none]) (st1 := [.ref 137, .int (Int32.ofInt a2)]) (H1 := mz_mk g x) rfl ?_
  refine mz_fgR (v := 155) rfl fd_12_82 (by decide) (sc_137 _) (rf_137_28 _ _ _) ?_
  refine mm_g 1 (pc1 := 6) (lo1 := [some (.ref 137), some (.int (Int32.ofInt a1)), some (.int (Int32.ofInt a2)), none]) (st1 := [.int (Int32.ofInt a1), .ref 155, .int (Int32.ofInt a2)]) (H1 := mz_mk g x) rfl ?_
  refine mz_aI rfl (sh_155 _) (by omega) (by omega) (by decide) hI (ba_155 _) (fun v1 e_v1 l_v1 u_v1 => ?_)
  replace hE := zf_tr hE (zf_le e_v1)
  refine mz_ic_le (tgt := 14) rfl rfl (mz_rg l_a2 u_a2) (mz_rg l_v1 u_v1) (fun c7_1 => ?_) (fun c7_1 => ?_)
  · skip
    replace hE := zf_nl hE c7_1
    refine mm_g 3 (pc1 := 17) (lo1 := [some (.ref 137), some (.int (Int32.ofInt a1)), some (.int (Int32.ofInt a2)), some (.int (Int32.ofInt 0))]) (st1 := [.ref 137]) (H1 := mz_mk g x) rfl ?_
    refine mz_fgR (v := 140) rfl fd_12_36 (by decide) (sc_137 _) (rf_137_3 _ _ _) ?_
    refine mm_g 1 (pc1 := 21) (lo1 := [some (.ref 137), some (.int (Int32.ofInt a1)), some (.int (Int32.ofInt a2)), some (.int (Int32.ofInt 0))]) (st1 := [.int (Int32.ofInt 3), .ref 140]) (H1 := mz_mk g x) rfl ?_
    refine mz_aI rfl (sh_140 _) (by omega) (by omega) (by decide) hI bt_140_3 (fun v2 e_v2 l_v2 u_v2 => ?_)
    have e_v2 : g 140 3 = v2 := e_v2
    replace hE := zf_tr hE (zf_le e_v2)
    refine mz_if_le (tgt := 128) rfl rfl (mz_rg l_v2 u_v2) (fun c22_2 => ?_) (fun c22_2 => ?_)
    · skip
      replace hE := zf_nl hE c22_2
      refine mm_g 3 (pc1 := 131) (lo1 := [some (.ref 137), some (.int (Int32.ofInt a1)), some (.int (Int32.ofInt a2)), some (.int (Int32.ofInt 0))]) (st1 := [.int (Int32.ofInt 0), .int (Int32.ofInt 3), .int (Int32.ofInt 0)]) (H1 := mz_mk g x) rfl ?_
      refine mz_mn rfl mt_12_191 (Nat.le_of_ble_eq_true rfl) (by omega) ⟨by decide, by decide⟩ ⟨by decide, by decide⟩ (fun v3 e_v3 => ?_)
      have l_v3 : 0 ≤ v3 := by omega
      have u_v3 : v3 ≤ 0 := by omega
      replace hE := zf_tr hE (zf_le e_v3.symm)
      refine mz_mx rfl mt_12_329 (Nat.le_of_ble_eq_true rfl) (by omega) ⟨by decide, by decide⟩ (mz_rg l_v3 u_v3) (fun v4 e_v4 => ?_)
      have l_v4 : 0 ≤ v4 := by omega
      have u_v4 : v4 ≤ 0 := by omega
      replace hE := zf_tr hE (zf_le e_v4.symm)
      refine mm_g 2 (pc1 := 139) (lo1 := [some (.ref 137), some (.int (Int32.ofInt a1)), some (.int (Int32.ofInt a2)), some (.int (Int32.ofInt 0))]) (st1 := [.ref 137, .int (Int32.ofInt 1), .int (Int32.ofInt v4)]) (H1 := mz_mk g x) rfl ?_
      refine mz_fgR (v := 144) rfl fd_12_49 (by decide) (sc_137 _) (rf_137_7 _ _ _) ?_
      refine mm_g 1 (pc1 := 143) (lo1 := [some (.ref 137), some (.int (Int32.ofInt a1)), some (.int (Int32.ofInt a2)), some (.int (Int32.ofInt 0))]) (st1 := [.int (Int32.ofInt a1), .ref 144, .int (Int32.ofInt 1), .int (Int32.ofInt v4)]) (H1 := mz_mk g x) rfl ?_
      refine mz_aI rfl (sh_144 _) (by omega) (by omega) (by decide) hI (ba_144 _) (fun v5 e_v5 l_v5 u_v5 => ?_)
      replace hE := zf_tr hE (zf_le e_v5)
      refine mz_iadd rfl ?_
      refine mz_imulp (A := 0) (B := 2) rfl (by omega) (by omega) (by omega) (by omega) (by decide) (fun v6 e_v6 l_v6 u_v6 => ?_)
      have u_v6 : v6 ≤ 0 := u_v6
      replace hE := zf_tr hE (zf_le e_v6.symm)
      exact mm_rt rfl rfl (hQ _ _ hI (fun _ _ _ => rfl) (by omega) (by omega) hE)
    · skip
      replace hE := zf_ip hE c22_2
      refine mm_g 1 (pc1 := 26) (lo1 := [some (.ref 137), some (.int (Int32.ofInt a1)), some (.int (Int32.ofInt a2)), some (.int (Int32.ofInt 0))]) (st1 := [.ref 137]) (H1 := mz_mk g x) rfl ?_
      refine mz_fgR (v := 160) rfl fd_12_97 (by decide) (sc_137 _) (rf_137_38 _ _ _) ?_
      refine mm_g 2 (pc1 := 31) (lo1 := [some (.ref 137), some (.int (Int32.ofInt a1)), some (.int (Int32.ofInt a2)), some (.int (Int32.ofInt 0))]) (st1 := [.ref 137, .int (Int32.ofInt 0), .ref 160]) (H1 := mz_mk g x) rfl ?_
      refine mz_fgR (v := 155) rfl fd_12_82 (by decide) (sc_137 _) (rf_137_28 _ _ _) ?_
      refine mm_g 1 (pc1 := 35) (lo1 := [some (.ref 137), some (.int (Int32.ofInt a1)), some (.int (Int32.ofInt a2)), some (.int (Int32.ofInt 0))]) (st1 := [.int (Int32.ofInt a1), .ref 155, .int (Int32.ofInt 0), .ref 160]) (H1 := mz_mk g x) rfl ?_
      refine mz_ia (v := v1) rfl (sh_155 _) (by omega) (by omega) (by decide) e_v1 ?_
      replace hE := zf_tr hE (zf_le e_v1)
      refine mz_sI rfl (sh_160 _) (by omega) (by omega) (by decide) hI (ba_160 _) (by omega) (by omega) (fun g7 hIg7 hug7 => ?_)
      replace hE := zf_tr hE (zf_lg hug7)
      refine mm_g 1 (pc1 := 38) (lo1 := [some (.ref 137), some (.int (Int32.ofInt a1)), some (.int (Int32.ofInt a2)), some (.int (Int32.ofInt 0))]) (st1 := [.ref 137]) (H1 := mz_mk g7 x) rfl ?_
      refine mz_fgR (v := 160) rfl fd_12_97 (by decide) (sc_137 _) (rf_137_38 _ _ _) ?_
      refine mm_g 2 (pc1 := 43) (lo1 := [some (.ref 137), some (.int (Int32.ofInt a1)), some (.int (Int32.ofInt a2)), some (.int (Int32.ofInt 0))]) (st1 := [.int (Int32.ofInt a2), .int (Int32.ofInt 1), .ref 160]) (H1 := mz_mk g7 x) rfl ?_
      refine mz_sI rfl (sh_160 _) (by omega) (by omega) (by decide) hIg7 (ba_160 _) (by omega) (by omega) (fun g8 hIg8 hug8 => ?_)
      replace hE := zf_tr hE (zf_lg hug8)
      refine mm_g 1 (pc1 := 45) (lo1 := [some (.ref 137), some (.int (Int32.ofInt a1)), some (.int (Int32.ofInt a2)), some (.int (Int32.ofInt 0))]) (st1 := [.ref 137]) (H1 := mz_mk g8 x) rfl ?_
      refine mz_fgR (v := 160) rfl fd_12_97 (by decide) (sc_137 _) (rf_137_38 _ _ _) ?_
      refine mm_g 2 (pc1 := 50) (lo1 := [some (.ref 137), some (.int (Int32.ofInt a1)), some (.int (Int32.ofInt a2)), some (.int (Int32.ofInt 0))]) (st1 := [.ref 137, .int (Int32.ofInt 2), .ref 160]) (H1 := mz_mk g8 x) rfl ?_
      refine mz_fgR (v := 152) rfl fd_12_76 (by decide) (sc_137 _) (rf_137_25 _ _ _) ?_
      refine mm_g 1 (pc1 := 54) (lo1 := [some (.ref 137), some (.int (Int32.ofInt a1)), some (.int (Int32.ofInt a2)), some (.int (Int32.ofInt 0))]) (st1 := [.int (Int32.ofInt a1), .ref 152, .int (Int32.ofInt 2), .ref 160]) (H1 := mz_mk g8 x) rfl ?_
      refine mz_aI rfl (sh_152 _) (by omega) (by omega) (by decide) hIg8 (ba_152 _) (fun v9 e_v9 l_v9 u_v9 => ?_)
      replace hE := zf_tr hE (zf_le e_v9)
      refine mz_sI rfl (sh_160 _) (by omega) (by omega) (by decide) hIg8 (ba_160 _) (by omega) (by omega) (fun g10 hIg10 hug10 => ?_)
      replace hE := zf_tr hE (zf_lg hug10)
      refine mm_g 1 (pc1 := 57) (lo1 := [some (.ref 137), some (.int (Int32.ofInt a1)), some (.int (Int32.ofInt a2)), some (.int (Int32.ofInt 0))]) (st1 := [.ref 137]) (H1 := mz_mk g10 x) rfl ?_
      refine mz_fgR (v := 160) rfl fd_12_97 (by decide) (sc_137 _) (rf_137_38 _ _ _) ?_
      refine mm_g 2 (pc1 := 62) (lo1 := [some (.ref 137), some (.int (Int32.ofInt a1)), some (.int (Int32.ofInt a2)), some (.int (Int32.ofInt 0))]) (st1 := [.ref 137, .int (Int32.ofInt 3), .ref 160]) (H1 := mz_mk g10 x) rfl ?_
      refine mz_fgR (v := 143) rfl fd_12_46 (by decide) (sc_137 _) (rf_137_6 _ _ _) ?_
      refine mm_g 1 (pc1 := 66) (lo1 := [some (.ref 137), some (.int (Int32.ofInt a1)), some (.int (Int32.ofInt a2)), some (.int (Int32.ofInt 0))]) (st1 := [.ref 137, .ref 143, .int (Int32.ofInt 3), .ref 160]) (H1 := mz_mk g10 x) rfl ?_
      refine mz_fgR (v := 153) rfl fd_12_78 (by decide) (sc_137 _) (rf_137_26 _ _ _) ?_
      refine mm_g 1 (pc1 := 70) (lo1 := [some (.ref 137), some (.int (Int32.ofInt a1)), some (.int (Int32.ofInt a2)), some (.int (Int32.ofInt 0))]) (st1 := [.int (Int32.ofInt a1), .ref 153, .ref 143, .int (Int32.ofInt 3), .ref 160]) (H1 := mz_mk g10 x) rfl ?_
      refine mz_aI rfl (sh_153 _) (by omega) (by omega) (by decide) hIg10 (ba_153 _) (fun v11 e_v11 l_v11 u_v11 => ?_)
      replace hE := zf_tr hE (zf_le e_v11)
      refine mz_aI rfl (sh_143 _) (by omega) (by omega) (by decide) hIg10 (ba_143 _) (fun v12 e_v12 l_v12 u_v12 => ?_)
      replace hE := zf_tr hE (zf_le e_v12)
      refine mz_sI rfl (sh_160 _) (by omega) (by omega) (by decide) hIg10 (ba_160 _) (by omega) (by omega) (fun g13 hIg13 hug13 => ?_)
      replace hE := zf_tr hE (zf_lg hug13)
      refine mm_g 1 (pc1 := 74) (lo1 := [some (.ref 137), some (.int (Int32.ofInt a1)), some (.int (Int32.ofInt a2)), some (.int (Int32.ofInt 0))]) (st1 := [.ref 137]) (H1 := mz_mk g13 x) rfl ?_
      refine mz_fgR (v := 160) rfl fd_12_97 (by decide) (sc_137 _) (rf_137_38 _ _ _) ?_
      refine mm_g 2 (pc1 := 79) (lo1 := [some (.ref 137), some (.int (Int32.ofInt a1)), some (.int (Int32.ofInt a2)), some (.int (Int32.ofInt 0))]) (st1 := [.ref 137, .int (Int32.ofInt 4), .ref 160]) (H1 := mz_mk g13 x) rfl ?_
      refine mz_fgR (v := 143) rfl fd_12_46 (by decide) (sc_137 _) (rf_137_6 _ _ _) ?_
      refine mm_g 1 (pc1 := 83) (lo1 := [some (.ref 137), some (.int (Int32.ofInt a1)), some (.int (Int32.ofInt a2)), some (.int (Int32.ofInt 0))]) (st1 := [.ref 137, .ref 143, .int (Int32.ofInt 4), .ref 160]) (H1 := mz_mk g13 x) rfl ?_
      refine mz_fgR (v := 154) rfl fd_12_80 (by decide) (sc_137 _) (rf_137_27 _ _ _) ?_
      refine mm_g 1 (pc1 := 87) (lo1 := [some (.ref 137), some (.int (Int32.ofInt a1)), some (.int (Int32.ofInt a2)), some (.int (Int32.ofInt 0))]) (st1 := [.int (Int32.ofInt a1), .ref 154, .ref 143, .int (Int32.ofInt 4), .ref 160]) (H1 := mz_mk g13 x) rfl ?_
      refine mz_aI rfl (sh_154 _) (by omega) (by omega) (by decide) hIg13 (ba_154 _) (fun v14 e_v14 l_v14 u_v14 => ?_)
      replace hE := zf_tr hE (zf_le e_v14)
      refine mz_aI rfl (sh_143 _) (by omega) (by omega) (by decide) hIg13 (ba_143 _) (fun v15 e_v15 l_v15 u_v15 => ?_)
      replace hE := zf_tr hE (zf_le e_v15)
      refine mz_sI rfl (sh_160 _) (by omega) (by omega) (by decide) hIg13 (ba_160 _) (by omega) (by omega) (fun g16 hIg16 hug16 => ?_)
      replace hE := zf_tr hE (zf_lg hug16)
      refine mm_g 1 (pc1 := 91) (lo1 := [some (.ref 137), some (.int (Int32.ofInt a1)), some (.int (Int32.ofInt a2)), some (.int (Int32.ofInt 0))]) (st1 := [.ref 137]) (H1 := mz_mk g16 x) rfl ?_
      refine mz_fgR (v := 160) rfl fd_12_97 (by decide) (sc_137 _) (rf_137_38 _ _ _) ?_
      refine mm_g 3 (pc1 := 97) (lo1 := [some (.ref 137), some (.int (Int32.ofInt a1)), some (.int (Int32.ofInt a2)), some (.int (Int32.ofInt 0))]) (st1 := [.ref 137, .ref 137, .int (Int32.ofInt 5), .ref 160]) (H1 := mz_mk g16 x) rfl ?_
      refine mz_fgR (v := 153) rfl fd_12_78 (by decide) (sc_137 _) (rf_137_26 _ _ _) ?_
      refine mm_g 1 (pc1 := 101) (lo1 := [some (.ref 137), some (.int (Int32.ofInt a1)), some (.int (Int32.ofInt a2)), some (.int (Int32.ofInt 0))]) (st1 := [.int (Int32.ofInt a1), .ref 153, .ref 137, .int (Int32.ofInt 5), .ref 160]) (H1 := mz_mk g16 x) rfl ?_
      refine mz_ia (v := v11) rfl (sh_153 _) (by omega) (by omega) (by decide) (show g16 153 (a1 : Int).toNat = v11 from ((hug16.2 153 (a1 : Int).toNat (fun h => absurd h.1 (by decide))).trans ((hug13.2 153 (a1 : Int).toNat (fun h => absurd h.1 (by decide))).trans e_v11))) ?_
      replace hE := zf_tr hE (zf_le (show g16 153 (a1 : Int).toNat = v11 from ((hug16.2 153 (a1 : Int).toNat (fun h => absurd h.1 (by decide))).trans ((hug13.2 153 (a1 : Int).toNat (fun h => absurd h.1 (by decide))).trans e_v11))))
      refine mm_g 1 (pc1 := 103) (lo1 := [some (.ref 137), some (.int (Int32.ofInt a1)), some (.int (Int32.ofInt a2)), some (.int (Int32.ofInt 0))]) (st1 := [.ref 137, .int (Int32.ofInt v11), .ref 137, .int (Int32.ofInt 5), .ref 160]) (H1 := mz_mk g16 x) rfl ?_
      refine mz_fgR (v := 154) rfl fd_12_80 (by decide) (sc_137 _) (rf_137_27 _ _ _) ?_
      refine mm_g 1 (pc1 := 107) (lo1 := [some (.ref 137), some (.int (Int32.ofInt a1)), some (.int (Int32.ofInt a2)), some (.int (Int32.ofInt 0))]) (st1 := [.int (Int32.ofInt a1), .ref 154, .int (Int32.ofInt v11), .ref 137, .int (Int32.ofInt 5), .ref 160]) (H1 := mz_mk g16 x) rfl ?_
      refine mz_ia (v := v14) rfl (sh_154 _) (by omega) (by omega) (by decide) (show g16 154 (a1 : Int).toNat = v14 from ((hug16.2 154 (a1 : Int).toNat (fun h => absurd h.1 (by decide))).trans e_v14)) ?_
      replace hE := zf_tr hE (zf_le (show g16 154 (a1 : Int).toNat = v14 from ((hug16.2 154 (a1 : Int).toNat (fun h => absurd h.1 (by decide))).trans e_v14)))
      refine mz_cv rfl mt_12_350 (by decide) (sc_137 _) rfl (Nat.le_of_ble_eq_true rfl) (by omega) (f_X12_overlapOf (by omega) hx hIg16 l_v11 u_v11 l_v14 u_v14 (fun v17 l_v17 u_v17 hp18 hp19 hc20 => ⟨_, rfl, ?_⟩))
      show mm_W d mmX12_growsOf 111 [some (.ref 137), some (.int (Int32.ofInt a1)), some (.int (Int32.ofInt a2)), some (.int (Int32.ofInt 0))] [.int (Int32.ofInt v17), .int (Int32.ofInt 5), .ref 160] (mz_mk g16 x) Q
      replace hE := zf_t1 hE hc20
      refine mz_sI rfl (sh_160 _) (by omega) (by omega) (by decide) hIg16 (ba_160 _) (by omega) (by omega) (fun g21 hIg21 hug21 => ?_)
      replace hE := zf_tr hE (zf_lg hug21)
      refine mm_g 1 (pc1 := 113) (lo1 := [some (.ref 137), some (.int (Int32.ofInt a1)), some (.int (Int32.ofInt a2)), some (.int (Int32.ofInt 0))]) (st1 := [.ref 137]) (H1 := mz_mk g21 x) rfl ?_
      refine mz_fgR (v := 160) rfl fd_12_97 (by decide) (sc_137 _) (rf_137_38 _ _ _) ?_
      refine mz_bip rfl bip_6 ?_
      refine mm_g 1 (pc1 := 119) (lo1 := [some (.ref 137), some (.int (Int32.ofInt a1)), some (.int (Int32.ofInt a2)), some (.int (Int32.ofInt 0))]) (st1 := [.ref 137, .int (Int32.ofInt 6), .ref 160]) (H1 := mz_mk g21 x) rfl ?_
      refine mz_gI rfl fd_12_307 (by decide) (sc_137 _) hIg21 bd_137_30 (fun v22 e_v22 l_v22 u_v22 => ?_)
      replace hE := zf_tr hE (zf_le e_v22)
      refine mz_sI rfl (sh_160 _) (by omega) (by omega) (by decide) hIg21 (ba_160 _) (by omega) (by omega) (fun g23 hIg23 hug23 => ?_)
      replace hE := zf_tr hE (zf_lg hug23)
      refine mm_g 1 (pc1 := 124) (lo1 := [some (.ref 137), some (.int (Int32.ofInt a1)), some (.int (Int32.ofInt a2)), some (.int (Int32.ofInt 0))]) (st1 := [.ref 137]) (H1 := mz_mk g23 x) rfl ?_
      refine mz_cv rfl mt_12_353 (by decide) (sc_137 _) rfl (Nat.le_of_ble_eq_true rfl) (by omega) (f_X12_valueNow (by omega) hx hIg23 (mz_pv_fr hpv (fun _j => ((hug23.2 149 _j (fun h => absurd h.1 (by decide))).trans ((hug21.2 149 _j (fun h => absurd h.1 (by decide))).trans ((hug16.2 149 _j (fun h => absurd h.1 (by decide))).trans ((hug13.2 149 _j (fun h => absurd h.1 (by decide))).trans ((hug10.2 149 _j (fun h => absurd h.1 (by decide))).trans ((hug8.2 149 _j (fun h => absurd h.1 (by decide))).trans ((hug7.2 149 _j (fun h => absurd h.1 (by decide))).trans rfl)))))))) ((hug23.2 140 3 (fun h => absurd h.1 (by decide))).trans ((hug21.2 140 3 (fun h => absurd h.1 (by decide))).trans ((hug16.2 140 3 (fun h => absurd h.1 (by decide))).trans ((hug13.2 140 3 (fun h => absurd h.1 (by decide))).trans ((hug10.2 140 3 (fun h => absurd h.1 (by decide))).trans ((hug8.2 140 3 (fun h => absurd h.1 (by decide))).trans ((hug7.2 140 3 (fun h => absurd h.1 (by decide))).trans rfl)))))))) (fun v24 g25 hIg25 hfg25 l_v24 u_v24 hc26 => ⟨_, rfl, ?_⟩))
      show mm_W d mmX12_growsOf 127 [some (.ref 137), some (.int (Int32.ofInt a1)), some (.int (Int32.ofInt a2)), some (.int (Int32.ofInt 0))] [.int (Int32.ofInt v24)] (mz_mk g25 x) Q
      replace hE := zf_t2 hE hc26
      refine mm_g 4 (pc1 := 131) (lo1 := [some (.ref 137), some (.int (Int32.ofInt a1)), some (.int (Int32.ofInt a2)), some (.int (Int32.ofInt v24))]) (st1 := [.int (Int32.ofInt v24), .int (Int32.ofInt 3), .int (Int32.ofInt 0)]) (H1 := mz_mk g25 x) rfl ?_
      refine mz_mn rfl mt_12_191 (Nat.le_of_ble_eq_true rfl) (by omega) ⟨by decide, by decide⟩ (mz_rg l_v24 u_v24) (fun v27 e_v27 => ?_)
      have l_v27 : (-2147483648) ≤ v27 := by omega
      have u_v27 : v27 ≤ 3 := by omega
      replace hE := zf_tr hE (zf_le e_v27.symm)
      refine mz_mx rfl mt_12_329 (Nat.le_of_ble_eq_true rfl) (by omega) ⟨by decide, by decide⟩ (mz_rg l_v27 u_v27) (fun v28 e_v28 => ?_)
      have l_v28 : 0 ≤ v28 := by omega
      have u_v28 : v28 ≤ 3 := by omega
      replace hE := zf_tr hE (zf_le e_v28.symm)
      refine mm_g 2 (pc1 := 139) (lo1 := [some (.ref 137), some (.int (Int32.ofInt a1)), some (.int (Int32.ofInt a2)), some (.int (Int32.ofInt v24))]) (st1 := [.ref 137, .int (Int32.ofInt 1), .int (Int32.ofInt v28)]) (H1 := mz_mk g25 x) rfl ?_
      refine mz_fgR (v := 144) rfl fd_12_49 (by decide) (sc_137 _) (rf_137_7 _ _ _) ?_
      refine mm_g 1 (pc1 := 143) (lo1 := [some (.ref 137), some (.int (Int32.ofInt a1)), some (.int (Int32.ofInt a2)), some (.int (Int32.ofInt v24))]) (st1 := [.int (Int32.ofInt a1), .ref 144, .int (Int32.ofInt 1), .int (Int32.ofInt v28)]) (H1 := mz_mk g25 x) rfl ?_
      refine mz_aI rfl (sh_144 _) (by omega) (by omega) (by decide) hIg25 (ba_144 _) (fun v29 e_v29 l_v29 u_v29 => ?_)
      replace hE := zf_tr hE (zf_le e_v29)
      refine mz_iadd rfl ?_
      refine mz_imulp (A := 3) (B := 2) rfl (by omega) (by omega) (by omega) (by omega) (by decide) (fun v30 e_v30 l_v30 u_v30 => ?_)
      have u_v30 : v30 ≤ 6 := u_v30
      replace hE := zf_tr hE (zf_le e_v30.symm)
      exact mm_rt rfl rfl (hQ _ _ hIg25 (fun k j hk => ((hfg25 k j (fun h => hk (Or.inr (Or.inr (Or.inr (Or.inr (Or.inr (Or.inr (Or.inr h))))))))).trans ((hug23.2 k j (fun h => hk (Or.inr (Or.inr (Or.inr (Or.inr (Or.inr (Or.inr (Or.inl h))))))))).trans ((hug21.2 k j (fun h => hk (Or.inr (Or.inr (Or.inr (Or.inr (Or.inr (Or.inl h)))))))).trans ((hug16.2 k j (fun h => hk (Or.inr (Or.inr (Or.inr (Or.inr (Or.inl h))))))).trans ((hug13.2 k j (fun h => hk (Or.inr (Or.inr (Or.inr (Or.inl h)))))).trans ((hug10.2 k j (fun h => hk (Or.inr (Or.inr (Or.inl h))))).trans ((hug8.2 k j (fun h => hk (Or.inr (Or.inl h)))).trans (hug7.2 k j (fun h => hk (Or.inl h))))))))))) (by omega) (by omega) hE)
  · skip
    replace hE := zf_ip hE c7_1
    refine mm_g 1 (pc1 := 11) (lo1 := [some (.ref 137), some (.int (Int32.ofInt a1)), some (.int (Int32.ofInt a2)), none]) (st1 := [.int (Int32.ofInt 1)]) (H1 := mz_mk g x) rfl ?_
    refine mz_gt (tgt := 15) rfl rfl ?_
    refine mm_g 2 (pc1 := 17) (lo1 := [some (.ref 137), some (.int (Int32.ofInt a1)), some (.int (Int32.ofInt a2)), some (.int (Int32.ofInt 1))]) (st1 := [.ref 137]) (H1 := mz_mk g x) rfl ?_
    refine mz_fgR (v := 140) rfl fd_12_36 (by decide) (sc_137 _) (rf_137_3 _ _ _) ?_
    refine mm_g 1 (pc1 := 21) (lo1 := [some (.ref 137), some (.int (Int32.ofInt a1)), some (.int (Int32.ofInt a2)), some (.int (Int32.ofInt 1))]) (st1 := [.int (Int32.ofInt 3), .ref 140]) (H1 := mz_mk g x) rfl ?_
    refine mz_aI rfl (sh_140 _) (by omega) (by omega) (by decide) hI bt_140_3 (fun v31 e_v31 l_v31 u_v31 => ?_)
    have e_v31 : g 140 3 = v31 := e_v31
    replace hE := zf_tr hE (zf_le e_v31)
    refine mz_if_le (tgt := 128) rfl rfl (mz_rg l_v31 u_v31) (fun c22_31 => ?_) (fun c22_31 => ?_)
    · skip
      replace hE := zf_nl hE c22_31
      refine mm_g 3 (pc1 := 131) (lo1 := [some (.ref 137), some (.int (Int32.ofInt a1)), some (.int (Int32.ofInt a2)), some (.int (Int32.ofInt 1))]) (st1 := [.int (Int32.ofInt 1), .int (Int32.ofInt 3), .int (Int32.ofInt 0)]) (H1 := mz_mk g x) rfl ?_
      refine mz_mn rfl mt_12_191 (Nat.le_of_ble_eq_true rfl) (by omega) ⟨by decide, by decide⟩ ⟨by decide, by decide⟩ (fun v32 e_v32 => ?_)
      have l_v32 : 1 ≤ v32 := by omega
      have u_v32 : v32 ≤ 1 := by omega
      replace hE := zf_tr hE (zf_le e_v32.symm)
      refine mz_mx rfl mt_12_329 (Nat.le_of_ble_eq_true rfl) (by omega) ⟨by decide, by decide⟩ (mz_rg l_v32 u_v32) (fun v33 e_v33 => ?_)
      have l_v33 : 1 ≤ v33 := by omega
      have u_v33 : v33 ≤ 1 := by omega
      replace hE := zf_tr hE (zf_le e_v33.symm)
      refine mm_g 2 (pc1 := 139) (lo1 := [some (.ref 137), some (.int (Int32.ofInt a1)), some (.int (Int32.ofInt a2)), some (.int (Int32.ofInt 1))]) (st1 := [.ref 137, .int (Int32.ofInt 1), .int (Int32.ofInt v33)]) (H1 := mz_mk g x) rfl ?_
      refine mz_fgR (v := 144) rfl fd_12_49 (by decide) (sc_137 _) (rf_137_7 _ _ _) ?_
      refine mm_g 1 (pc1 := 143) (lo1 := [some (.ref 137), some (.int (Int32.ofInt a1)), some (.int (Int32.ofInt a2)), some (.int (Int32.ofInt 1))]) (st1 := [.int (Int32.ofInt a1), .ref 144, .int (Int32.ofInt 1), .int (Int32.ofInt v33)]) (H1 := mz_mk g x) rfl ?_
      refine mz_aI rfl (sh_144 _) (by omega) (by omega) (by decide) hI (ba_144 _) (fun v34 e_v34 l_v34 u_v34 => ?_)
      replace hE := zf_tr hE (zf_le e_v34)
      refine mz_iadd rfl ?_
      refine mz_imulp (A := 1) (B := 2) rfl (by omega) (by omega) (by omega) (by omega) (by decide) (fun v35 e_v35 l_v35 u_v35 => ?_)
      have u_v35 : v35 ≤ 2 := u_v35
      replace hE := zf_tr hE (zf_le e_v35.symm)
      exact mm_rt rfl rfl (hQ _ _ hI (fun _ _ _ => rfl) (by omega) (by omega) hE)
    · skip
      replace hE := zf_ip hE c22_31
      refine mm_g 1 (pc1 := 26) (lo1 := [some (.ref 137), some (.int (Int32.ofInt a1)), some (.int (Int32.ofInt a2)), some (.int (Int32.ofInt 1))]) (st1 := [.ref 137]) (H1 := mz_mk g x) rfl ?_
      refine mz_fgR (v := 160) rfl fd_12_97 (by decide) (sc_137 _) (rf_137_38 _ _ _) ?_
      refine mm_g 2 (pc1 := 31) (lo1 := [some (.ref 137), some (.int (Int32.ofInt a1)), some (.int (Int32.ofInt a2)), some (.int (Int32.ofInt 1))]) (st1 := [.ref 137, .int (Int32.ofInt 0), .ref 160]) (H1 := mz_mk g x) rfl ?_
      refine mz_fgR (v := 155) rfl fd_12_82 (by decide) (sc_137 _) (rf_137_28 _ _ _) ?_
      refine mm_g 1 (pc1 := 35) (lo1 := [some (.ref 137), some (.int (Int32.ofInt a1)), some (.int (Int32.ofInt a2)), some (.int (Int32.ofInt 1))]) (st1 := [.int (Int32.ofInt a1), .ref 155, .int (Int32.ofInt 0), .ref 160]) (H1 := mz_mk g x) rfl ?_
      refine mz_ia (v := v1) rfl (sh_155 _) (by omega) (by omega) (by decide) e_v1 ?_
      replace hE := zf_tr hE (zf_le e_v1)
      refine mz_sI rfl (sh_160 _) (by omega) (by omega) (by decide) hI (ba_160 _) (by omega) (by omega) (fun g36 hIg36 hug36 => ?_)
      replace hE := zf_tr hE (zf_lg hug36)
      refine mm_g 1 (pc1 := 38) (lo1 := [some (.ref 137), some (.int (Int32.ofInt a1)), some (.int (Int32.ofInt a2)), some (.int (Int32.ofInt 1))]) (st1 := [.ref 137]) (H1 := mz_mk g36 x) rfl ?_
      refine mz_fgR (v := 160) rfl fd_12_97 (by decide) (sc_137 _) (rf_137_38 _ _ _) ?_
      refine mm_g 2 (pc1 := 43) (lo1 := [some (.ref 137), some (.int (Int32.ofInt a1)), some (.int (Int32.ofInt a2)), some (.int (Int32.ofInt 1))]) (st1 := [.int (Int32.ofInt a2), .int (Int32.ofInt 1), .ref 160]) (H1 := mz_mk g36 x) rfl ?_
      refine mz_sI rfl (sh_160 _) (by omega) (by omega) (by decide) hIg36 (ba_160 _) (by omega) (by omega) (fun g37 hIg37 hug37 => ?_)
      replace hE := zf_tr hE (zf_lg hug37)
      refine mm_g 1 (pc1 := 45) (lo1 := [some (.ref 137), some (.int (Int32.ofInt a1)), some (.int (Int32.ofInt a2)), some (.int (Int32.ofInt 1))]) (st1 := [.ref 137]) (H1 := mz_mk g37 x) rfl ?_
      refine mz_fgR (v := 160) rfl fd_12_97 (by decide) (sc_137 _) (rf_137_38 _ _ _) ?_
      refine mm_g 2 (pc1 := 50) (lo1 := [some (.ref 137), some (.int (Int32.ofInt a1)), some (.int (Int32.ofInt a2)), some (.int (Int32.ofInt 1))]) (st1 := [.ref 137, .int (Int32.ofInt 2), .ref 160]) (H1 := mz_mk g37 x) rfl ?_
      refine mz_fgR (v := 152) rfl fd_12_76 (by decide) (sc_137 _) (rf_137_25 _ _ _) ?_
      refine mm_g 1 (pc1 := 54) (lo1 := [some (.ref 137), some (.int (Int32.ofInt a1)), some (.int (Int32.ofInt a2)), some (.int (Int32.ofInt 1))]) (st1 := [.int (Int32.ofInt a1), .ref 152, .int (Int32.ofInt 2), .ref 160]) (H1 := mz_mk g37 x) rfl ?_
      refine mz_aI rfl (sh_152 _) (by omega) (by omega) (by decide) hIg37 (ba_152 _) (fun v38 e_v38 l_v38 u_v38 => ?_)
      replace hE := zf_tr hE (zf_le e_v38)
      refine mz_sI rfl (sh_160 _) (by omega) (by omega) (by decide) hIg37 (ba_160 _) (by omega) (by omega) (fun g39 hIg39 hug39 => ?_)
      replace hE := zf_tr hE (zf_lg hug39)
      refine mm_g 1 (pc1 := 57) (lo1 := [some (.ref 137), some (.int (Int32.ofInt a1)), some (.int (Int32.ofInt a2)), some (.int (Int32.ofInt 1))]) (st1 := [.ref 137]) (H1 := mz_mk g39 x) rfl ?_
      refine mz_fgR (v := 160) rfl fd_12_97 (by decide) (sc_137 _) (rf_137_38 _ _ _) ?_
      refine mm_g 2 (pc1 := 62) (lo1 := [some (.ref 137), some (.int (Int32.ofInt a1)), some (.int (Int32.ofInt a2)), some (.int (Int32.ofInt 1))]) (st1 := [.ref 137, .int (Int32.ofInt 3), .ref 160]) (H1 := mz_mk g39 x) rfl ?_
      refine mz_fgR (v := 143) rfl fd_12_46 (by decide) (sc_137 _) (rf_137_6 _ _ _) ?_
      refine mm_g 1 (pc1 := 66) (lo1 := [some (.ref 137), some (.int (Int32.ofInt a1)), some (.int (Int32.ofInt a2)), some (.int (Int32.ofInt 1))]) (st1 := [.ref 137, .ref 143, .int (Int32.ofInt 3), .ref 160]) (H1 := mz_mk g39 x) rfl ?_
      refine mz_fgR (v := 153) rfl fd_12_78 (by decide) (sc_137 _) (rf_137_26 _ _ _) ?_
      refine mm_g 1 (pc1 := 70) (lo1 := [some (.ref 137), some (.int (Int32.ofInt a1)), some (.int (Int32.ofInt a2)), some (.int (Int32.ofInt 1))]) (st1 := [.int (Int32.ofInt a1), .ref 153, .ref 143, .int (Int32.ofInt 3), .ref 160]) (H1 := mz_mk g39 x) rfl ?_
      refine mz_aI rfl (sh_153 _) (by omega) (by omega) (by decide) hIg39 (ba_153 _) (fun v40 e_v40 l_v40 u_v40 => ?_)
      replace hE := zf_tr hE (zf_le e_v40)
      refine mz_aI rfl (sh_143 _) (by omega) (by omega) (by decide) hIg39 (ba_143 _) (fun v41 e_v41 l_v41 u_v41 => ?_)
      replace hE := zf_tr hE (zf_le e_v41)
      refine mz_sI rfl (sh_160 _) (by omega) (by omega) (by decide) hIg39 (ba_160 _) (by omega) (by omega) (fun g42 hIg42 hug42 => ?_)
      replace hE := zf_tr hE (zf_lg hug42)
      refine mm_g 1 (pc1 := 74) (lo1 := [some (.ref 137), some (.int (Int32.ofInt a1)), some (.int (Int32.ofInt a2)), some (.int (Int32.ofInt 1))]) (st1 := [.ref 137]) (H1 := mz_mk g42 x) rfl ?_
      refine mz_fgR (v := 160) rfl fd_12_97 (by decide) (sc_137 _) (rf_137_38 _ _ _) ?_
      refine mm_g 2 (pc1 := 79) (lo1 := [some (.ref 137), some (.int (Int32.ofInt a1)), some (.int (Int32.ofInt a2)), some (.int (Int32.ofInt 1))]) (st1 := [.ref 137, .int (Int32.ofInt 4), .ref 160]) (H1 := mz_mk g42 x) rfl ?_
      refine mz_fgR (v := 143) rfl fd_12_46 (by decide) (sc_137 _) (rf_137_6 _ _ _) ?_
      refine mm_g 1 (pc1 := 83) (lo1 := [some (.ref 137), some (.int (Int32.ofInt a1)), some (.int (Int32.ofInt a2)), some (.int (Int32.ofInt 1))]) (st1 := [.ref 137, .ref 143, .int (Int32.ofInt 4), .ref 160]) (H1 := mz_mk g42 x) rfl ?_
      refine mz_fgR (v := 154) rfl fd_12_80 (by decide) (sc_137 _) (rf_137_27 _ _ _) ?_
      refine mm_g 1 (pc1 := 87) (lo1 := [some (.ref 137), some (.int (Int32.ofInt a1)), some (.int (Int32.ofInt a2)), some (.int (Int32.ofInt 1))]) (st1 := [.int (Int32.ofInt a1), .ref 154, .ref 143, .int (Int32.ofInt 4), .ref 160]) (H1 := mz_mk g42 x) rfl ?_
      refine mz_aI rfl (sh_154 _) (by omega) (by omega) (by decide) hIg42 (ba_154 _) (fun v43 e_v43 l_v43 u_v43 => ?_)
      replace hE := zf_tr hE (zf_le e_v43)
      refine mz_aI rfl (sh_143 _) (by omega) (by omega) (by decide) hIg42 (ba_143 _) (fun v44 e_v44 l_v44 u_v44 => ?_)
      replace hE := zf_tr hE (zf_le e_v44)
      refine mz_sI rfl (sh_160 _) (by omega) (by omega) (by decide) hIg42 (ba_160 _) (by omega) (by omega) (fun g45 hIg45 hug45 => ?_)
      replace hE := zf_tr hE (zf_lg hug45)
      refine mm_g 1 (pc1 := 91) (lo1 := [some (.ref 137), some (.int (Int32.ofInt a1)), some (.int (Int32.ofInt a2)), some (.int (Int32.ofInt 1))]) (st1 := [.ref 137]) (H1 := mz_mk g45 x) rfl ?_
      refine mz_fgR (v := 160) rfl fd_12_97 (by decide) (sc_137 _) (rf_137_38 _ _ _) ?_
      refine mm_g 3 (pc1 := 97) (lo1 := [some (.ref 137), some (.int (Int32.ofInt a1)), some (.int (Int32.ofInt a2)), some (.int (Int32.ofInt 1))]) (st1 := [.ref 137, .ref 137, .int (Int32.ofInt 5), .ref 160]) (H1 := mz_mk g45 x) rfl ?_
      refine mz_fgR (v := 153) rfl fd_12_78 (by decide) (sc_137 _) (rf_137_26 _ _ _) ?_
      refine mm_g 1 (pc1 := 101) (lo1 := [some (.ref 137), some (.int (Int32.ofInt a1)), some (.int (Int32.ofInt a2)), some (.int (Int32.ofInt 1))]) (st1 := [.int (Int32.ofInt a1), .ref 153, .ref 137, .int (Int32.ofInt 5), .ref 160]) (H1 := mz_mk g45 x) rfl ?_
      refine mz_ia (v := v40) rfl (sh_153 _) (by omega) (by omega) (by decide) (show g45 153 (a1 : Int).toNat = v40 from ((hug45.2 153 (a1 : Int).toNat (fun h => absurd h.1 (by decide))).trans ((hug42.2 153 (a1 : Int).toNat (fun h => absurd h.1 (by decide))).trans e_v40))) ?_
      replace hE := zf_tr hE (zf_le (show g45 153 (a1 : Int).toNat = v40 from ((hug45.2 153 (a1 : Int).toNat (fun h => absurd h.1 (by decide))).trans ((hug42.2 153 (a1 : Int).toNat (fun h => absurd h.1 (by decide))).trans e_v40))))
      refine mm_g 1 (pc1 := 103) (lo1 := [some (.ref 137), some (.int (Int32.ofInt a1)), some (.int (Int32.ofInt a2)), some (.int (Int32.ofInt 1))]) (st1 := [.ref 137, .int (Int32.ofInt v40), .ref 137, .int (Int32.ofInt 5), .ref 160]) (H1 := mz_mk g45 x) rfl ?_
      refine mz_fgR (v := 154) rfl fd_12_80 (by decide) (sc_137 _) (rf_137_27 _ _ _) ?_
      refine mm_g 1 (pc1 := 107) (lo1 := [some (.ref 137), some (.int (Int32.ofInt a1)), some (.int (Int32.ofInt a2)), some (.int (Int32.ofInt 1))]) (st1 := [.int (Int32.ofInt a1), .ref 154, .int (Int32.ofInt v40), .ref 137, .int (Int32.ofInt 5), .ref 160]) (H1 := mz_mk g45 x) rfl ?_
      refine mz_ia (v := v43) rfl (sh_154 _) (by omega) (by omega) (by decide) (show g45 154 (a1 : Int).toNat = v43 from ((hug45.2 154 (a1 : Int).toNat (fun h => absurd h.1 (by decide))).trans e_v43)) ?_
      replace hE := zf_tr hE (zf_le (show g45 154 (a1 : Int).toNat = v43 from ((hug45.2 154 (a1 : Int).toNat (fun h => absurd h.1 (by decide))).trans e_v43)))
      refine mz_cv rfl mt_12_350 (by decide) (sc_137 _) rfl (Nat.le_of_ble_eq_true rfl) (by omega) (f_X12_overlapOf (by omega) hx hIg45 l_v40 u_v40 l_v43 u_v43 (fun v46 l_v46 u_v46 hp47 hp48 hc49 => ⟨_, rfl, ?_⟩))
      show mm_W d mmX12_growsOf 111 [some (.ref 137), some (.int (Int32.ofInt a1)), some (.int (Int32.ofInt a2)), some (.int (Int32.ofInt 1))] [.int (Int32.ofInt v46), .int (Int32.ofInt 5), .ref 160] (mz_mk g45 x) Q
      replace hE := zf_t1 hE hc49
      refine mz_sI rfl (sh_160 _) (by omega) (by omega) (by decide) hIg45 (ba_160 _) (by omega) (by omega) (fun g50 hIg50 hug50 => ?_)
      replace hE := zf_tr hE (zf_lg hug50)
      refine mm_g 1 (pc1 := 113) (lo1 := [some (.ref 137), some (.int (Int32.ofInt a1)), some (.int (Int32.ofInt a2)), some (.int (Int32.ofInt 1))]) (st1 := [.ref 137]) (H1 := mz_mk g50 x) rfl ?_
      refine mz_fgR (v := 160) rfl fd_12_97 (by decide) (sc_137 _) (rf_137_38 _ _ _) ?_
      refine mz_bip rfl bip_6 ?_
      refine mm_g 1 (pc1 := 119) (lo1 := [some (.ref 137), some (.int (Int32.ofInt a1)), some (.int (Int32.ofInt a2)), some (.int (Int32.ofInt 1))]) (st1 := [.ref 137, .int (Int32.ofInt 6), .ref 160]) (H1 := mz_mk g50 x) rfl ?_
      refine mz_gI rfl fd_12_307 (by decide) (sc_137 _) hIg50 bd_137_30 (fun v51 e_v51 l_v51 u_v51 => ?_)
      replace hE := zf_tr hE (zf_le e_v51)
      refine mz_sI rfl (sh_160 _) (by omega) (by omega) (by decide) hIg50 (ba_160 _) (by omega) (by omega) (fun g52 hIg52 hug52 => ?_)
      replace hE := zf_tr hE (zf_lg hug52)
      refine mm_g 1 (pc1 := 124) (lo1 := [some (.ref 137), some (.int (Int32.ofInt a1)), some (.int (Int32.ofInt a2)), some (.int (Int32.ofInt 1))]) (st1 := [.ref 137]) (H1 := mz_mk g52 x) rfl ?_
      refine mz_cv rfl mt_12_353 (by decide) (sc_137 _) rfl (Nat.le_of_ble_eq_true rfl) (by omega) (f_X12_valueNow (by omega) hx hIg52 (mz_pv_fr hpv (fun _j => ((hug52.2 149 _j (fun h => absurd h.1 (by decide))).trans ((hug50.2 149 _j (fun h => absurd h.1 (by decide))).trans ((hug45.2 149 _j (fun h => absurd h.1 (by decide))).trans ((hug42.2 149 _j (fun h => absurd h.1 (by decide))).trans ((hug39.2 149 _j (fun h => absurd h.1 (by decide))).trans ((hug37.2 149 _j (fun h => absurd h.1 (by decide))).trans ((hug36.2 149 _j (fun h => absurd h.1 (by decide))).trans rfl)))))))) ((hug52.2 140 3 (fun h => absurd h.1 (by decide))).trans ((hug50.2 140 3 (fun h => absurd h.1 (by decide))).trans ((hug45.2 140 3 (fun h => absurd h.1 (by decide))).trans ((hug42.2 140 3 (fun h => absurd h.1 (by decide))).trans ((hug39.2 140 3 (fun h => absurd h.1 (by decide))).trans ((hug37.2 140 3 (fun h => absurd h.1 (by decide))).trans ((hug36.2 140 3 (fun h => absurd h.1 (by decide))).trans rfl)))))))) (fun v53 g54 hIg54 hfg54 l_v53 u_v53 hc55 => ⟨_, rfl, ?_⟩))
      show mm_W d mmX12_growsOf 127 [some (.ref 137), some (.int (Int32.ofInt a1)), some (.int (Int32.ofInt a2)), some (.int (Int32.ofInt 1))] [.int (Int32.ofInt v53)] (mz_mk g54 x) Q
      replace hE := zf_t2 hE hc55
      refine mm_g 4 (pc1 := 131) (lo1 := [some (.ref 137), some (.int (Int32.ofInt a1)), some (.int (Int32.ofInt a2)), some (.int (Int32.ofInt v53))]) (st1 := [.int (Int32.ofInt v53), .int (Int32.ofInt 3), .int (Int32.ofInt 0)]) (H1 := mz_mk g54 x) rfl ?_
      refine mz_mn rfl mt_12_191 (Nat.le_of_ble_eq_true rfl) (by omega) ⟨by decide, by decide⟩ (mz_rg l_v53 u_v53) (fun v56 e_v56 => ?_)
      have l_v56 : (-2147483648) ≤ v56 := by omega
      have u_v56 : v56 ≤ 3 := by omega
      replace hE := zf_tr hE (zf_le e_v56.symm)
      refine mz_mx rfl mt_12_329 (Nat.le_of_ble_eq_true rfl) (by omega) ⟨by decide, by decide⟩ (mz_rg l_v56 u_v56) (fun v57 e_v57 => ?_)
      have l_v57 : 0 ≤ v57 := by omega
      have u_v57 : v57 ≤ 3 := by omega
      replace hE := zf_tr hE (zf_le e_v57.symm)
      refine mm_g 2 (pc1 := 139) (lo1 := [some (.ref 137), some (.int (Int32.ofInt a1)), some (.int (Int32.ofInt a2)), some (.int (Int32.ofInt v53))]) (st1 := [.ref 137, .int (Int32.ofInt 1), .int (Int32.ofInt v57)]) (H1 := mz_mk g54 x) rfl ?_
      refine mz_fgR (v := 144) rfl fd_12_49 (by decide) (sc_137 _) (rf_137_7 _ _ _) ?_
      refine mm_g 1 (pc1 := 143) (lo1 := [some (.ref 137), some (.int (Int32.ofInt a1)), some (.int (Int32.ofInt a2)), some (.int (Int32.ofInt v53))]) (st1 := [.int (Int32.ofInt a1), .ref 144, .int (Int32.ofInt 1), .int (Int32.ofInt v57)]) (H1 := mz_mk g54 x) rfl ?_
      refine mz_aI rfl (sh_144 _) (by omega) (by omega) (by decide) hIg54 (ba_144 _) (fun v58 e_v58 l_v58 u_v58 => ?_)
      replace hE := zf_tr hE (zf_le e_v58)
      refine mz_iadd rfl ?_
      refine mz_imulp (A := 3) (B := 2) rfl (by omega) (by omega) (by omega) (by omega) (by decide) (fun v59 e_v59 l_v59 u_v59 => ?_)
      have u_v59 : v59 ≤ 6 := u_v59
      replace hE := zf_tr hE (zf_le e_v59.symm)
      exact mm_rt rfl rfl (hQ _ _ hIg54 (fun k j hk => ((hfg54 k j (fun h => hk (Or.inr (Or.inr (Or.inr (Or.inr (Or.inr (Or.inr (Or.inr h))))))))).trans ((hug52.2 k j (fun h => hk (Or.inr (Or.inr (Or.inr (Or.inr (Or.inr (Or.inr (Or.inl h))))))))).trans ((hug50.2 k j (fun h => hk (Or.inr (Or.inr (Or.inr (Or.inr (Or.inr (Or.inl h)))))))).trans ((hug45.2 k j (fun h => hk (Or.inr (Or.inr (Or.inr (Or.inr (Or.inl h))))))).trans ((hug42.2 k j (fun h => hk (Or.inr (Or.inr (Or.inr (Or.inl h)))))).trans ((hug39.2 k j (fun h => hk (Or.inr (Or.inr (Or.inl h))))).trans ((hug37.2 k j (fun h => hk (Or.inr (Or.inl h)))).trans (hug36.2 k j (fun h => hk (Or.inl h))))))))))) (by omega) (by omega) hE)
def fl_X12_aDayOf_2 (x : mm_X) (a1 : Int) : Nat → Nat → Prop := fun k j => (k = 160 ∧ j = 0) ∨ (k = 160 ∧ j = 1) ∨ (k = 160 ∧ j = 2) ∨ (k = 160 ∧ j = 3) ∨ (k = 160 ∧ j = 4) ∨ (k = 160 ∧ j = 5) ∨ (k = 160 ∧ j = 6) ∨ k = 161 ∨ k = 152
def fw_X12_aDayOf (x : mm_X) (a1 : Int) : Nat → Nat → Prop := fun k j => (k = 160 ∧ j = 0) ∨ (k = 160 ∧ j = 1) ∨ (k = 160 ∧ j = 2) ∨ (k = 160 ∧ j = 3) ∨ (k = 160 ∧ j = 4) ∨ (k = 160 ∧ j = 5) ∨ (k = 160 ∧ j = 6) ∨ k = 161 ∨ k = 152 ∨ (k = 137 ∧ j = 30)
theorem f_X12_aDayOf {d : Nat} (hd : 14 ≤ d) {x : mm_X} (hx : mk_x x) {g : mz_G} (hI : mz_inv g) {a1 : Int} (l_a1 : (-2147483648) ≤ a1) (u_a1 : a1 ≤ 2147483647) (p1 : mz_pv g) (p2 : g 137 30 ≤ 1998) {Q : (Option Value ⊕ Nat) → mm_H → Prop} (hQ : ∀ (g1 : mz_G), mz_inv g1 → mz_fr (fw_X12_aDayOf x a1) g g1 → (g1 137 30 = g 137 30 + 1) → zf_E (zF_X12_aDayOf a1 g) (g1) → Q (.inl none) (mz_mk g1 x)) : mm_C d 237 [.ref 137, .int (Int32.ofInt a1)] (mz_mk g x) Q := by
  refine ⟨mmX12_aDayOf, [some (.ref 137), some (.int (Int32.ofInt a1)), none], rfl, rfl, ?_⟩
  have bz0 := mz_rd hI bd_137_30
  have hpv := p1
  have hE : zf_E (zF_X12_aDayOf a1 g) (zF_X12_aDayOf a1 g) := zf_rf
  refine mm_g 2 (pc1 := 2) (lo1 := [some (.ref 137), some (.int (Int32.ofInt a1)), some (.int (Int32.ofInt 0))]) (st1 := []) (H1 := mz_mk g x) rfl ?_
  have L5 : ∀ n4 : Nat, ∀ (v1 : Int) (g2 : mz_G), (6 - v1).toNat = n4 → 0 ≤ v1 → v1 ≤ 6 → mz_inv g2 → mz_fr (fl_X12_aDayOf_2 x a1) g g2 → (∃ fk : Nat, (6 - v1).toNat < fk ∧ zf_E (zF_X12_aDayOf a1 g) (zL_X12_aDayOf_2 a1 fk v1 g2)) → mm_W d mmX12_aDayOf 2 [some (.ref 137), some (.int (Int32.ofInt a1)), some (.int (Int32.ofInt v1))] [] (mz_mk g2 x) Q := by
    intro n4
    induction n4 using Nat.strongRecOn with
    | ind n4 ih3 =>
    intro v1 g2 hmn4 l_v1 u_v1 hIg2 hfg2 hF
    obtain ⟨fk, fl, hE⟩ := hF
    obtain ⟨fj6, rfl⟩ : ∃ fj, fk = fj + 1 := ⟨fk - 1, by omega⟩
    have fn7 : n4 ≤ fj6 := by omega
    replace hE := zf_tr hE zL_X12_aDayOf_2_s
    refine mm_g 2 (pc1 := 4) (lo1 := [some (.ref 137), some (.int (Int32.ofInt a1)), some (.int (Int32.ofInt v1))]) (st1 := [.ref 137, .int (Int32.ofInt v1)]) (H1 := mz_mk g2 x) rfl ?_
    refine mz_fgR (v := 140) rfl fd_12_36 (by decide) (sc_137 _) (rf_137_3 _ _ _) ?_
    refine mm_g 1 (pc1 := 8) (lo1 := [some (.ref 137), some (.int (Int32.ofInt a1)), some (.int (Int32.ofInt v1))]) (st1 := [.int (Int32.ofInt 1), .ref 140, .int (Int32.ofInt v1)]) (H1 := mz_mk g2 x) rfl ?_
    refine mz_aI rfl (sh_140 _) (by omega) (by omega) (by decide) hIg2 bt_140_1 (fun v8 e_v8 l_v8 u_v8 => ?_)
    have e_v8 : g2 140 1 = v8 := e_v8
    replace hE := zf_tr hE (zf_le e_v8)
    refine mz_ic_ge (tgt := 45) rfl rfl (mz_rg l_v1 u_v1) (mz_rg l_v8 u_v8) (fun c9_8 => ?_) (fun c9_8 => ?_)
    · skip
      replace hE := zf_nl hE c9_8
      refine mm_g 2 (pc1 := 47) (lo1 := [some (.ref 137), some (.int (Int32.ofInt a1)), some (.int (Int32.ofInt v1))]) (st1 := [.ref 137, .ref 137]) (H1 := mz_mk g2 x) rfl ?_
      refine mz_fgI (v := (g 137 30)) rfl fd_12_307 (by decide) (sc_137 _) (show g2 137 30 = (g 137 30) from ((hfg2 137 30 nj_20).trans rfl)) ?_
      replace hE := zf_tr hE (zf_le (show g2 137 30 = (g 137 30) from ((hfg2 137 30 nj_20).trans rfl)))
      refine mm_g 1 (pc1 := 51) (lo1 := [some (.ref 137), some (.int (Int32.ofInt a1)), some (.int (Int32.ofInt v1))]) (st1 := [.int (Int32.ofInt 1), .int (Int32.ofInt (g 137 30)), .ref 137]) (H1 := mz_mk g2 x) rfl ?_
      refine mz_iadd rfl ?_
      refine mz_pI rfl fd_12_307 (sc_137 _) hIg2 bd_137_30 (by omega) (by omega) (fun g9 hIg9 hug9 => ?_)
      replace hE := zf_tr hE (zf_lg hug9)
      exact mm_rt rfl rfl (hQ _ hIg9 (fun k j hk => ((hug9.2 k j (fun h => hk (Or.inr (Or.inr (Or.inr (Or.inr (Or.inr (Or.inr (Or.inr (Or.inr (Or.inr h))))))))))).trans (hfg2 k j (fun h => hk (Or.elim h (fun h => (Or.inl h)) (fun h => (Or.elim h (fun h => (Or.inr (Or.inl h))) (fun h => (Or.elim h (fun h => (Or.inr (Or.inr (Or.inl h)))) (fun h => (Or.elim h (fun h => (Or.inr (Or.inr (Or.inr (Or.inl h))))) (fun h => (Or.elim h (fun h => (Or.inr (Or.inr (Or.inr (Or.inr (Or.inl h)))))) (fun h => (Or.elim h (fun h => (Or.inr (Or.inr (Or.inr (Or.inr (Or.inr (Or.inl h))))))) (fun h => (Or.elim h (fun h => (Or.inr (Or.inr (Or.inr (Or.inr (Or.inr (Or.inr (Or.inl h)))))))) (fun h => (Or.elim h (fun h => (Or.inr (Or.inr (Or.inr (Or.inr (Or.inr (Or.inr (Or.inr (Or.inl h))))))))) (fun h => (Or.inr (Or.inr (Or.inr (Or.inr (Or.inr (Or.inr (Or.inr (Or.inr (Or.inl h))))))))))))))))))))))))))))) (by have h9 := (show g9 137 30 = ((g 137 30) + 1) from hug9.1); omega) hE)
    · skip
      replace hE := zf_ip hE c9_8
      refine mm_g 1 (pc1 := 13) (lo1 := [some (.ref 137), some (.int (Int32.ofInt a1)), some (.int (Int32.ofInt v1))]) (st1 := [.ref 137]) (H1 := mz_mk g2 x) rfl ?_
      refine mz_fgR (v := 152) rfl fd_12_76 (by decide) (sc_137 _) (rf_137_25 _ _ _) ?_
      refine mm_g 3 (pc1 := 19) (lo1 := [some (.ref 137), some (.int (Int32.ofInt a1)), some (.int (Int32.ofInt v1))]) (st1 := [.int (Int32.ofInt v1), .ref 137, .int (Int32.ofInt v1), .ref 152]) (H1 := mz_mk g2 x) rfl ?_
      refine mz_cv rfl mt_12_347 (by decide) (sc_137 _) rfl (Nat.le_of_ble_eq_true rfl) (by omega) (f_X12_fullOf (by omega) hx hIg2 (by omega) (by omega) (fun v10 l_v10 u_v10 hc11 => ⟨_, rfl, ?_⟩))
      show mm_W d mmX12_aDayOf 22 [some (.ref 137), some (.int (Int32.ofInt a1)), some (.int (Int32.ofInt v1))] [.int (Int32.ofInt v10), .int (Int32.ofInt v1), .ref 152] (mz_mk g2 x) Q
      replace hE := zf_t1 hE hc11
      refine mm_g 1 (pc1 := 23) (lo1 := [some (.ref 137), some (.int (Int32.ofInt a1)), some (.int (Int32.ofInt v1))]) (st1 := [.ref 137, .int (Int32.ofInt v10), .int (Int32.ofInt v1), .ref 152]) (H1 := mz_mk g2 x) rfl ?_
      refine mz_fgR (v := 152) rfl fd_12_76 (by decide) (sc_137 _) (rf_137_25 _ _ _) ?_
      refine mm_g 1 (pc1 := 27) (lo1 := [some (.ref 137), some (.int (Int32.ofInt a1)), some (.int (Int32.ofInt v1))]) (st1 := [.int (Int32.ofInt v1), .ref 152, .int (Int32.ofInt v10), .int (Int32.ofInt v1), .ref 152]) (H1 := mz_mk g2 x) rfl ?_
      refine mz_aI rfl (sh_152 _) (by omega) (by omega) (by decide) hIg2 (ba_152 _) (fun v12 e_v12 l_v12 u_v12 => ?_)
      replace hE := zf_tr hE (zf_le e_v12)
      refine mm_g 3 (pc1 := 31) (lo1 := [some (.ref 137), some (.int (Int32.ofInt a1)), some (.int (Int32.ofInt v1))]) (st1 := [.int (Int32.ofInt a1), .int (Int32.ofInt v1), .ref 137, .int (Int32.ofInt v12), .int (Int32.ofInt v10), .int (Int32.ofInt v1), .ref 152]) (H1 := mz_mk g2 x) rfl ?_
      refine mz_cv rfl mt_12_356 (by decide) (sc_137 _) rfl (Nat.le_of_ble_eq_true rfl) (by omega) (f_X12_growsOf (by omega) hx hIg2 (by omega) (by omega) l_a1 u_a1 (mz_pv_fr hpv (fun _j => ((hfg2 149 _j nj_21).trans rfl)) ((hfg2 140 3 nj_22).trans rfl)) (fun v13 g14 hIg14 hfg14 l_v13 u_v13 hc15 => ⟨_, rfl, ?_⟩))
      show mm_W d mmX12_aDayOf 34 [some (.ref 137), some (.int (Int32.ofInt a1)), some (.int (Int32.ofInt v1))] [.int (Int32.ofInt v13), .int (Int32.ofInt v12), .int (Int32.ofInt v10), .int (Int32.ofInt v1), .ref 152] (mz_mk g14 x) Q
      replace hE := zf_t2 hE hc15
      refine mz_iadd rfl ?_
      refine mz_mn rfl mt_12_191 (Nat.le_of_ble_eq_true rfl) (by omega) (mz_rg l_v10 u_v10) ⟨by omega, by omega⟩ (fun v16 e_v16 => ?_)
      have l_v16 : 0 ≤ v16 := by omega
      have u_v16 : v16 ≤ 8 := by omega
      replace hE := zf_tr hE (zf_le e_v16.symm)
      refine mz_sI rfl (sh_152 _) (by omega) (by omega) (by decide) hIg14 (ba_152 _) (by omega) (by omega) (fun g17 hIg17 hug17 => ?_)
      replace hE := zf_tr hE (zf_lg hug17)
      refine mz_iincR (v := v1) (lo2 := [some (.ref 137), some (.int (Int32.ofInt a1)), some (.int (Int32.ofInt (v1 + 1)))]) rfl rfl rfl (Nat.le_of_ble_eq_true rfl) rfl ?_
      refine mz_gt (tgt := 2) rfl rfl ?_
      exact ih3 ((6 - (v1 + 1)).toNat) (by omega) (v1 + 1) g17 rfl (by omega) (by omega) hIg17 (fun k j hk => ((hug17.2 k j (fun h => hk (Or.inr (Or.inr (Or.inr (Or.inr (Or.inr (Or.inr (Or.inr (Or.inr h.1)))))))))).trans ((hfg14 k j (fun h => hk (Or.elim h (fun h => (Or.inl h)) (fun h => (Or.elim h (fun h => (Or.inr (Or.inl h))) (fun h => (Or.elim h (fun h => (Or.inr (Or.inr (Or.inl h)))) (fun h => (Or.elim h (fun h => (Or.inr (Or.inr (Or.inr (Or.inl h))))) (fun h => (Or.elim h (fun h => (Or.inr (Or.inr (Or.inr (Or.inr (Or.inl h)))))) (fun h => (Or.elim h (fun h => (Or.inr (Or.inr (Or.inr (Or.inr (Or.inr (Or.inl h))))))) (fun h => (Or.elim h (fun h => (Or.inr (Or.inr (Or.inr (Or.inr (Or.inr (Or.inr (Or.inl h)))))))) (fun h => (Or.inr (Or.inr (Or.inr (Or.inr (Or.inr (Or.inr (Or.inr (Or.inl h)))))))))))))))))))))))).trans (hfg2 k j (fun h => hk (Or.elim h (fun h => (Or.inl h)) (fun h => (Or.elim h (fun h => (Or.inr (Or.inl h))) (fun h => (Or.elim h (fun h => (Or.inr (Or.inr (Or.inl h)))) (fun h => (Or.elim h (fun h => (Or.inr (Or.inr (Or.inr (Or.inl h))))) (fun h => (Or.elim h (fun h => (Or.inr (Or.inr (Or.inr (Or.inr (Or.inl h)))))) (fun h => (Or.elim h (fun h => (Or.inr (Or.inr (Or.inr (Or.inr (Or.inr (Or.inl h))))))) (fun h => (Or.elim h (fun h => (Or.inr (Or.inr (Or.inr (Or.inr (Or.inr (Or.inr (Or.inl h)))))))) (fun h => (Or.elim h (fun h => (Or.inr (Or.inr (Or.inr (Or.inr (Or.inr (Or.inr (Or.inr (Or.inl h))))))))) (fun h => (Or.inr (Or.inr (Or.inr (Or.inr (Or.inr (Or.inr (Or.inr (Or.inr h))))))))))))))))))))))))))))) ⟨fj6, Nat.lt_of_lt_of_le (show ((6 - (v1 + 1)).toNat) < n4 from (by omega)) fn7, hE⟩
  exact L5 _ 0 g rfl (by decide) (by decide) hI (fun _ _ _ => rfl) ⟨3000000000, by omega, hE⟩
def fl_X12_goOn_2 (x : mm_X) (a1 : Int) : Nat → Nat → Prop := fun k j => (k = 160 ∧ j = 0) ∨ (k = 160 ∧ j = 1) ∨ (k = 160 ∧ j = 2) ∨ (k = 160 ∧ j = 3) ∨ (k = 160 ∧ j = 4) ∨ (k = 160 ∧ j = 5) ∨ (k = 160 ∧ j = 6) ∨ k = 161 ∨ k = 152 ∨ (k = 137 ∧ j = 30)
def fw_X12_goOn (x : mm_X) (a1 : Int) : Nat → Nat → Prop := fun k j => (k = 160 ∧ j = 0) ∨ (k = 160 ∧ j = 1) ∨ (k = 160 ∧ j = 2) ∨ (k = 160 ∧ j = 3) ∨ (k = 160 ∧ j = 4) ∨ (k = 160 ∧ j = 5) ∨ (k = 160 ∧ j = 6) ∨ k = 161 ∨ k = 152 ∨ (k = 137 ∧ j = 30)
theorem f_X12_goOn {d : Nat} (hd : 15 ≤ d) {x : mm_X} (hx : mk_x x) {g : mz_G} (hI : mz_inv g) {a1 : Int} (l_a1 : 0 ≤ a1) (u_a1 : a1 ≤ 60) (p1 : mz_pv g) (p2 : g 137 30 + a1 ≤ 1999) {Q : (Option Value ⊕ Nat) → mm_H → Prop} (hQ : ∀ (g1 : mz_G), mz_inv g1 → mz_fr (fw_X12_goOn x a1) g g1 → (g1 137 30 = g 137 30 + a1) → zf_E (zF_X12_goOn a1 g) (g1) → Q (.inl none) (mz_mk g1 x)) : mm_C d 238 [.ref 137, .int (Int32.ofInt a1)] (mz_mk g x) Q := by
  refine ⟨mmX12_goOn, [some (.ref 137), some (.int (Int32.ofInt a1)), none], rfl, rfl, ?_⟩
  have bz0 := mz_rd hI bd_137_30
  have hpv := p1
  have hE : zf_E (zF_X12_goOn a1 g) (zF_X12_goOn a1 g) := zf_rf
  refine mm_g 2 (pc1 := 2) (lo1 := [some (.ref 137), some (.int (Int32.ofInt a1)), some (.int (Int32.ofInt 0))]) (st1 := []) (H1 := mz_mk g x) rfl ?_
  have L5 : ∀ n4 : Nat, ∀ (v1 : Int) (g2 : mz_G), (60 - v1).toNat = n4 → 0 ≤ v1 → v1 ≤ 60 → mz_inv g2 → mz_fr (fl_X12_goOn_2 x a1) g g2 → (g2 137 30 = g 137 30 + v1) → (v1 ≤ a1) → (∃ fk : Nat, (60 - v1).toNat < fk ∧ zf_E (zF_X12_goOn a1 g) (zL_X12_goOn_2 a1 fk v1 g2)) → mm_W d mmX12_goOn 2 [some (.ref 137), some (.int (Int32.ofInt a1)), some (.int (Int32.ofInt v1))] [] (mz_mk g2 x) Q := by
    intro n4
    induction n4 using Nat.strongRecOn with
    | ind n4 ih3 =>
    intro v1 g2 hmn4 l_v1 u_v1 hIg2 hfg2 hv6 hv7 hF
    obtain ⟨fk, fl, hE⟩ := hF
    obtain ⟨fj8, rfl⟩ : ∃ fj, fk = fj + 1 := ⟨fk - 1, by omega⟩
    have fn9 : n4 ≤ fj8 := by omega
    replace hE := zf_tr hE zL_X12_goOn_2_s
    have bz_g2_30 := mz_rd hIg2 bd_137_30
    refine mm_g 2 (pc1 := 4) (lo1 := [some (.ref 137), some (.int (Int32.ofInt a1)), some (.int (Int32.ofInt v1))]) (st1 := [.int (Int32.ofInt a1), .int (Int32.ofInt v1)]) (H1 := mz_mk g2 x) rfl ?_
    refine mz_ic_ge (tgt := 25) rfl rfl (mz_rg l_v1 u_v1) (mz_rg l_a1 u_a1) (fun c4_9 => ?_) (fun c4_9 => ?_)
    · skip
      replace hE := zf_nl hE c4_9
      exact mm_rt rfl rfl (hQ _ hIg2 (fun k j hk => (hfg2 k j (fun h => hk (Or.elim h (fun h => (Or.inl h)) (fun h => (Or.elim h (fun h => (Or.inr (Or.inl h))) (fun h => (Or.elim h (fun h => (Or.inr (Or.inr (Or.inl h)))) (fun h => (Or.elim h (fun h => (Or.inr (Or.inr (Or.inr (Or.inl h))))) (fun h => (Or.elim h (fun h => (Or.inr (Or.inr (Or.inr (Or.inr (Or.inl h)))))) (fun h => (Or.elim h (fun h => (Or.inr (Or.inr (Or.inr (Or.inr (Or.inr (Or.inl h))))))) (fun h => (Or.elim h (fun h => (Or.inr (Or.inr (Or.inr (Or.inr (Or.inr (Or.inr (Or.inl h)))))))) (fun h => (Or.elim h (fun h => (Or.inr (Or.inr (Or.inr (Or.inr (Or.inr (Or.inr (Or.inr (Or.inl h))))))))) (fun h => (Or.elim h (fun h => (Or.inr (Or.inr (Or.inr (Or.inr (Or.inr (Or.inr (Or.inr (Or.inr (Or.inl h)))))))))) (fun h => (Or.inr (Or.inr (Or.inr (Or.inr (Or.inr (Or.inr (Or.inr (Or.inr (Or.inr h)))))))))))))))))))))))))))))) (by have h9 := hv6; omega) hE)
    · skip
      replace hE := zf_ip hE c4_9
      refine mm_g 3 (pc1 := 10) (lo1 := [some (.ref 137), some (.int (Int32.ofInt a1)), some (.int (Int32.ofInt v1))]) (st1 := [.ref 137, .ref 137, .ref 137]) (H1 := mz_mk g2 x) rfl ?_
      refine mz_fgI (v := (g 137 30 + v1)) rfl fd_12_307 (by decide) (sc_137 _) hv6 ?_
      replace hE := zf_tr hE (zf_le hv6)
      refine mz_cv rfl mt_12_359 (by decide) (sc_137 _) rfl (Nat.le_of_ble_eq_true rfl) (by omega) (f_X12_heatOf (by omega) hx hIg2 (by omega) (by omega) (fun v10 l_v10 u_v10 hc11 => ⟨_, rfl, ?_⟩))
      show mm_W d mmX12_goOn 16 [some (.ref 137), some (.int (Int32.ofInt a1)), some (.int (Int32.ofInt v1))] [.int (Int32.ofInt v10), .ref 137] (mz_mk g2 x) Q
      replace hE := zf_t1 hE hc11
      have hq12 : g2 137 30 = (g 137 30 + v1) := hv6
      refine mz_cv rfl mt_12_362 (by decide) (sc_137 _) rfl (Nat.le_of_ble_eq_true rfl) (by omega) (f_X12_aDayOf (by omega) hx hIg2 l_v10 u_v10 (mz_pv_fr hpv (fun _j => ((hfg2 149 _j nj_23).trans rfl)) ((hfg2 140 3 nj_24).trans rfl)) (by have h9 := hv6; omega) (fun g13 hIg13 hfg13 hp14 hc15 => ⟨_, rfl, ?_⟩))
      show mm_W d mmX12_goOn 19 [some (.ref 137), some (.int (Int32.ofInt a1)), some (.int (Int32.ofInt v1))] [] (mz_mk g13 x) Q
      replace hE := zf_t1 hE hc15
      refine mz_iincR (v := v1) (lo2 := [some (.ref 137), some (.int (Int32.ofInt a1)), some (.int (Int32.ofInt (v1 + 1)))]) rfl rfl rfl (Nat.le_of_ble_eq_true rfl) rfl ?_
      refine mz_gt (tgt := 2) rfl rfl ?_
      exact ih3 ((60 - (v1 + 1)).toNat) (by omega) (v1 + 1) g13 rfl (by omega) (by omega) hIg13 (fun k j hk => ((hfg13 k j (fun h => hk (Or.elim h (fun h => (Or.inl h)) (fun h => (Or.elim h (fun h => (Or.inr (Or.inl h))) (fun h => (Or.elim h (fun h => (Or.inr (Or.inr (Or.inl h)))) (fun h => (Or.elim h (fun h => (Or.inr (Or.inr (Or.inr (Or.inl h))))) (fun h => (Or.elim h (fun h => (Or.inr (Or.inr (Or.inr (Or.inr (Or.inl h)))))) (fun h => (Or.elim h (fun h => (Or.inr (Or.inr (Or.inr (Or.inr (Or.inr (Or.inl h))))))) (fun h => (Or.elim h (fun h => (Or.inr (Or.inr (Or.inr (Or.inr (Or.inr (Or.inr (Or.inl h)))))))) (fun h => (Or.elim h (fun h => (Or.inr (Or.inr (Or.inr (Or.inr (Or.inr (Or.inr (Or.inr (Or.inl h))))))))) (fun h => (Or.elim h (fun h => (Or.inr (Or.inr (Or.inr (Or.inr (Or.inr (Or.inr (Or.inr (Or.inr (Or.inl h)))))))))) (fun h => (Or.inr (Or.inr (Or.inr (Or.inr (Or.inr (Or.inr (Or.inr (Or.inr (Or.inr h))))))))))))))))))))))))))))).trans (hfg2 k j (fun h => hk (Or.elim h (fun h => (Or.inl h)) (fun h => (Or.elim h (fun h => (Or.inr (Or.inl h))) (fun h => (Or.elim h (fun h => (Or.inr (Or.inr (Or.inl h)))) (fun h => (Or.elim h (fun h => (Or.inr (Or.inr (Or.inr (Or.inl h))))) (fun h => (Or.elim h (fun h => (Or.inr (Or.inr (Or.inr (Or.inr (Or.inl h)))))) (fun h => (Or.elim h (fun h => (Or.inr (Or.inr (Or.inr (Or.inr (Or.inr (Or.inl h))))))) (fun h => (Or.elim h (fun h => (Or.inr (Or.inr (Or.inr (Or.inr (Or.inr (Or.inr (Or.inl h)))))))) (fun h => (Or.elim h (fun h => (Or.inr (Or.inr (Or.inr (Or.inr (Or.inr (Or.inr (Or.inr (Or.inl h))))))))) (fun h => (Or.elim h (fun h => (Or.inr (Or.inr (Or.inr (Or.inr (Or.inr (Or.inr (Or.inr (Or.inr (Or.inl h)))))))))) (fun h => (Or.inr (Or.inr (Or.inr (Or.inr (Or.inr (Or.inr (Or.inr (Or.inr (Or.inr h))))))))))))))))))))))))))))))) (by omega) (by omega) ⟨fj8, Nat.lt_of_lt_of_le (show ((60 - (v1 + 1)).toNat) < n4 from (by omega)) fn9, hE⟩
  exact L5 _ 0 g rfl (by decide) (by decide) hI (fun _ _ _ => rfl) (by omega) (by omega) ⟨3000000000, by omega, hE⟩
theorem f_X12_fullOnes {d : Nat} (hd : 14 ≤ d) {x : mm_X} (hx : mk_x x) {g : mz_G} (hI : mz_inv g) {Q : (Option Value ⊕ Nat) → mm_H → Prop} (hQ : ∀ (r : Int), 0 ≤ r → r ≤ 63 → zf_E (zF_X12_fullOnes g) (r) → Q (.inl (some (.int (Int32.ofInt r)))) (mz_mk g x)) : mm_C d 239 [.ref 137] (mz_mk g x) Q := by
  refine ⟨mmX12_fullOnes, [some (.ref 137), none, none], rfl, rfl, ?_⟩
  have hE : zf_E (zF_X12_fullOnes g) (zF_X12_fullOnes g) := zf_rf
  refine mm_g 4 (pc1 := 4) (lo1 := [some (.ref 137), some (.int (Int32.ofInt 0)), some (.int (Int32.ofInt 0))]) (st1 := []) (H1 := mz_mk g x) rfl ?_
  have L6 : ∀ n5 : Nat, ∀ (v1 : Int) (v2 : Int), (6 - v2).toNat = n5 → 0 ≤ v1 → v1 ≤ 63 → 0 ≤ v2 → v2 ≤ 6 → (∃ fk : Nat, (6 - v2).toNat < fk ∧ zf_E (zF_X12_fullOnes g) (zL_X12_fullOnes_4 g fk v1 v2)) → mm_W d mmX12_fullOnes 4 [some (.ref 137), some (.int (Int32.ofInt v1)), some (.int (Int32.ofInt v2))] [] (mz_mk g x) Q := by
    intro n5
    induction n5 using Nat.strongRecOn with
    | ind n5 ih4 =>
    intro v1 v2 hmn5 l_v1 u_v1 l_v2 u_v2 hF
    obtain ⟨fk, fl, hE⟩ := hF
    obtain ⟨fj7, rfl⟩ : ∃ fj, fk = fj + 1 := ⟨fk - 1, by omega⟩
    have fn8 : n5 ≤ fj7 := by omega
    replace hE := zf_tr hE zL_X12_fullOnes_4_s
    refine mm_g 2 (pc1 := 6) (lo1 := [some (.ref 137), some (.int (Int32.ofInt v1)), some (.int (Int32.ofInt v2))]) (st1 := [.ref 137, .int (Int32.ofInt v2)]) (H1 := mz_mk g x) rfl ?_
    refine mz_fgR (v := 140) rfl fd_12_36 (by decide) (sc_137 _) (rf_137_3 _ _ _) ?_
    refine mm_g 1 (pc1 := 10) (lo1 := [some (.ref 137), some (.int (Int32.ofInt v1)), some (.int (Int32.ofInt v2))]) (st1 := [.int (Int32.ofInt 1), .ref 140, .int (Int32.ofInt v2)]) (H1 := mz_mk g x) rfl ?_
    refine mz_aI rfl (sh_140 _) (by omega) (by omega) (by decide) hI bt_140_1 (fun v9 e_v9 l_v9 u_v9 => ?_)
    have e_v9 : g 140 1 = v9 := e_v9
    replace hE := zf_tr hE (zf_le e_v9)
    refine mz_ic_ge (tgt := 38) rfl rfl (mz_rg l_v2 u_v2) (mz_rg l_v9 u_v9) (fun c11_9 => ?_) (fun c11_9 => ?_)
    · skip
      replace hE := zf_nl hE c11_9
      refine mm_g 1 (pc1 := 39) (lo1 := [some (.ref 137), some (.int (Int32.ofInt v1)), some (.int (Int32.ofInt v2))]) (st1 := [.int (Int32.ofInt v1)]) (H1 := mz_mk g x) rfl ?_
      exact mm_rt rfl rfl (hQ _ (by omega) (by omega) hE)
    · skip
      replace hE := zf_ip hE c11_9
      refine mm_g 3 (pc1 := 17) (lo1 := [some (.ref 137), some (.int (Int32.ofInt v1)), some (.int (Int32.ofInt v2))]) (st1 := [.int (Int32.ofInt v2), .ref 137, .int (Int32.ofInt v1)]) (H1 := mz_mk g x) rfl ?_
      refine mz_cv rfl mt_12_365 (by decide) (sc_137 _) rfl (Nat.le_of_ble_eq_true rfl) (by omega) (f_X12_isFull (by omega) hx hI (by omega) (by omega) (fun v10 l_v10 u_v10 hc11 => ⟨_, rfl, ?_⟩))
      show mm_W d mmX12_fullOnes 20 [some (.ref 137), some (.int (Int32.ofInt v1)), some (.int (Int32.ofInt v2))] [.int (Int32.ofInt v10), .int (Int32.ofInt v1)] (mz_mk g x) Q
      replace hE := zf_t1 hE hc11
      refine mz_if_eq (tgt := 29) rfl rfl (mz_rg l_v10 u_v10) (fun c20_11 => ?_) (fun c20_11 => ?_)
      · skip
        replace hE := zf_ip hE c20_11
        refine mm_g 1 (pc1 := 30) (lo1 := [some (.ref 137), some (.int (Int32.ofInt v1)), some (.int (Int32.ofInt v2))]) (st1 := [.int (Int32.ofInt 0), .int (Int32.ofInt v1)]) (H1 := mz_mk g x) rfl ?_
        refine mz_ior rfl (fun v12 e_v12 hwv12 => ?_)
        have b_v12 : 0 ≤ v12 ∧ v12 ≤ 63 := by rw [e_v12]; exact mz_or_lt (n := 6) (by decide) (by omega) (by omega) (by omega) (by omega)
        have l_v12 := b_v12.1
        have u_v12 := b_v12.2
        replace hE := zf_tr hE (zf_le e_v12.symm)
        refine mm_g 1 (pc1 := 32) (lo1 := [some (.ref 137), some (.int (Int32.ofInt v12)), some (.int (Int32.ofInt v2))]) (st1 := []) (H1 := mz_mk g x) rfl ?_
        refine mz_iincR (v := v2) (lo2 := [some (.ref 137), some (.int (Int32.ofInt v12)), some (.int (Int32.ofInt (v2 + 1)))]) rfl rfl rfl (Nat.le_of_ble_eq_true rfl) rfl ?_
        refine mz_gt (tgt := 4) rfl rfl ?_
        exact ih4 ((6 - (v2 + 1)).toNat) (by omega) v12 (v2 + 1) rfl (by omega) (by omega) (by omega) (by omega) ⟨fj7, Nat.lt_of_lt_of_le (show ((6 - (v2 + 1)).toNat) < n5 from (by omega)) fn8, hE⟩
      · skip
        replace hE := zf_in hE c20_11
        refine mm_g 2 (pc1 := 25) (lo1 := [some (.ref 137), some (.int (Int32.ofInt v1)), some (.int (Int32.ofInt v2))]) (st1 := [.int (Int32.ofInt v2), .int (Int32.ofInt 1), .int (Int32.ofInt v1)]) (H1 := mz_mk g x) rfl ?_
        refine mz_ishl rfl (fun v13 e_v13 hwv13 => ?_)
        have b_v13 : 1 ≤ v13 ∧ v13 ≤ 32 := by rw [e_v13]; exact mz_shl_b (lx := 1) (hx := 1) (k := 5) (by decide) (by decide) (by omega) (by omega) (by omega) (by omega)
        have l_v13 := b_v13.1
        have u_v13 := b_v13.2
        replace hE := zf_tr hE (zf_le e_v13.symm)
        refine mz_gt (tgt := 30) rfl rfl ?_
        refine mz_ior rfl (fun v14 e_v14 hwv14 => ?_)
        have b_v14 : 0 ≤ v14 ∧ v14 ≤ 63 := by rw [e_v14]; exact mz_or_lt (n := 6) (by decide) (by omega) (by omega) (by omega) (by omega)
        have l_v14 := b_v14.1
        have u_v14 := b_v14.2
        replace hE := zf_tr hE (zf_le e_v14.symm)
        refine mm_g 1 (pc1 := 32) (lo1 := [some (.ref 137), some (.int (Int32.ofInt v14)), some (.int (Int32.ofInt v2))]) (st1 := []) (H1 := mz_mk g x) rfl ?_
        refine mz_iincR (v := v2) (lo2 := [some (.ref 137), some (.int (Int32.ofInt v14)), some (.int (Int32.ofInt (v2 + 1)))]) rfl rfl rfl (Nat.le_of_ble_eq_true rfl) rfl ?_
        refine mz_gt (tgt := 4) rfl rfl ?_
        exact ih4 ((6 - (v2 + 1)).toNat) (by omega) v14 (v2 + 1) rfl (by omega) (by omega) (by omega) (by omega) ⟨fj7, Nat.lt_of_lt_of_le (show ((6 - (v2 + 1)).toNat) < n5 from (by omega)) fn8, hE⟩
  exact L6 _ 0 0 rfl (by decide) (by decide) (by decide) (by decide) ⟨3000000000, by omega, hE⟩
theorem f_X12_blendSize {d : Nat} (hd : 1 ≤ d) {x : mm_X} (hx : mk_x x) {g : mz_G} (hI : mz_inv g) {a1 : Int} (l_a1 : 0 ≤ a1) (u_a1 : a1 ≤ 5) {Q : (Option Value ⊕ Nat) → mm_H → Prop} (hQ : ∀ (r : Int), (-8) ≤ r → r ≤ 16 → zf_E (zF_X12_blendSize a1 g) (r) → Q (.inl (some (.int (Int32.ofInt r)))) (mz_mk g x)) : mm_C d 240 [.ref 137, .int (Int32.ofInt a1)] (mz_mk g x) Q := by
  refine ⟨mmX12_blendSize, [some (.ref 137), some (.int (Int32.ofInt a1))], rfl, rfl, ?_⟩
  have hE : zf_E (zF_X12_blendSize a1 g) (zF_X12_blendSize a1 g) := zf_rf
  refine mm_g 1 (pc1 := 1) (lo1 := [some (.ref 137), some (.int (Int32.ofInt a1))]) (st1 := [.ref 137]) (H1 := mz_mk g x) rfl ?_
  refine mz_fgR (v := 142) rfl fd_12_43 (by decide) (sc_137 _) (rf_137_5 _ _ _) ?_
  refine mm_g 1 (pc1 := 5) (lo1 := [some (.ref 137), some (.int (Int32.ofInt a1))]) (st1 := [.ref 137, .ref 142]) (H1 := mz_mk g x) rfl ?_
  refine mz_fgR (v := 153) rfl fd_12_78 (by decide) (sc_137 _) (rf_137_26 _ _ _) ?_
  refine mm_g 1 (pc1 := 9) (lo1 := [some (.ref 137), some (.int (Int32.ofInt a1))]) (st1 := [.int (Int32.ofInt a1), .ref 153, .ref 142]) (H1 := mz_mk g x) rfl ?_
  refine mz_aI rfl (sh_153 _) (by omega) (by omega) (by decide) hI (ba_153 _) (fun v1 e_v1 l_v1 u_v1 => ?_)
  replace hE := zf_tr hE (zf_le e_v1)
  refine mz_aI rfl (sh_142 _) (by omega) (by omega) (by decide) hI (ba_142 _) (fun v2 e_v2 l_v2 u_v2 => ?_)
  replace hE := zf_tr hE (zf_le e_v2)
  refine mm_g 1 (pc1 := 12) (lo1 := [some (.ref 137), some (.int (Int32.ofInt a1))]) (st1 := [.ref 137, .int (Int32.ofInt v2)]) (H1 := mz_mk g x) rfl ?_
  refine mz_fgR (v := 142) rfl fd_12_43 (by decide) (sc_137 _) (rf_137_5 _ _ _) ?_
  refine mm_g 1 (pc1 := 16) (lo1 := [some (.ref 137), some (.int (Int32.ofInt a1))]) (st1 := [.ref 137, .ref 142, .int (Int32.ofInt v2)]) (H1 := mz_mk g x) rfl ?_
  refine mz_fgR (v := 154) rfl fd_12_80 (by decide) (sc_137 _) (rf_137_27 _ _ _) ?_
  refine mm_g 1 (pc1 := 20) (lo1 := [some (.ref 137), some (.int (Int32.ofInt a1))]) (st1 := [.int (Int32.ofInt a1), .ref 154, .ref 142, .int (Int32.ofInt v2)]) (H1 := mz_mk g x) rfl ?_
  refine mz_aI rfl (sh_154 _) (by omega) (by omega) (by decide) hI (ba_154 _) (fun v3 e_v3 l_v3 u_v3 => ?_)
  replace hE := zf_tr hE (zf_le e_v3)
  refine mz_aI rfl (sh_142 _) (by omega) (by omega) (by decide) hI (ba_142 _) (fun v4 e_v4 l_v4 u_v4 => ?_)
  replace hE := zf_tr hE (zf_le e_v4)
  refine mz_iadd rfl ?_
  refine mm_g 1 (pc1 := 24) (lo1 := [some (.ref 137), some (.int (Int32.ofInt a1))]) (st1 := [.ref 137, .int (Int32.ofInt (v2 + v4))]) (H1 := mz_mk g x) rfl ?_
  refine mz_fgR (v := 152) rfl fd_12_76 (by decide) (sc_137 _) (rf_137_25 _ _ _) ?_
  refine mm_g 1 (pc1 := 28) (lo1 := [some (.ref 137), some (.int (Int32.ofInt a1))]) (st1 := [.int (Int32.ofInt a1), .ref 152, .int (Int32.ofInt (v2 + v4))]) (H1 := mz_mk g x) rfl ?_
  refine mz_aI rfl (sh_152 _) (by omega) (by omega) (by decide) hI (ba_152 _) (fun v5 e_v5 l_v5 u_v5 => ?_)
  replace hE := zf_tr hE (zf_le e_v5)
  refine mz_isub rfl ?_
  exact mm_rt rfl rfl (hQ _ (by omega) (by omega) hE)
