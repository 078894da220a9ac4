/-! EXACT: the reference (wip/p2/tools/gen50.py) -/
theorem nj_33 : ¬ ((137 : Nat) = 154 ∨ (137 : Nat) = 152 ∨ (137 : Nat) = 153) := (fun h => (Or.elim h (fun h => (absurd (show 137 = 154 from h) (by decide))) (fun h => (Or.elim h (fun h => (absurd (show 137 = 152 from h) (by decide))) (fun h => (absurd (show 137 = 153 from h) (by decide)))))))
theorem nj_34 : ¬ (((137 : Nat) = 137 ∧ (31 : Nat) = 30) ∨ (137 : Nat) = 152 ∨ (137 : Nat) = 153 ∨ (137 : Nat) = 154 ∨ (137 : Nat) = 155) := (fun h => (Or.elim h (fun h => (absurd (show (137 = 137 ∧ 31 = 30) from h) (by decide))) (fun h => (Or.elim h (fun h => (absurd (show 137 = 152 from h) (by decide))) (fun h => (Or.elim h (fun h => (absurd (show 137 = 153 from h) (by decide))) (fun h => (Or.elim h (fun h => (absurd (show 137 = 154 from h) (by decide))) (fun h => (absurd (show 137 = 155 from h) (by decide)))))))))))
theorem nj_35 : ¬ (((137 : Nat) = 137 ∧ (36 : Nat) = 30) ∨ (137 : Nat) = 152 ∨ (137 : Nat) = 153 ∨ (137 : Nat) = 154 ∨ (137 : Nat) = 155) := (fun h => (Or.elim h (fun h => (absurd (show (137 = 137 ∧ 36 = 30) from h) (by decide))) (fun h => (Or.elim h (fun h => (absurd (show 137 = 152 from h) (by decide))) (fun h => (Or.elim h (fun h => (absurd (show 137 = 153 from h) (by decide))) (fun h => (Or.elim h (fun h => (absurd (show 137 = 154 from h) (by decide))) (fun h => (absurd (show 137 = 155 from h) (by decide)))))))))))
theorem nj_36 {p1 p2 p3 p4 p5 p6 p7 p8 p9 : Prop} : ¬ ((149 : Nat) = 157 ∨ ((149 : Nat) = 137 ∧ p1) ∨ ((149 : Nat) = 160 ∧ p2) ∨ ((149 : Nat) = 160 ∧ p3) ∨ ((149 : Nat) = 160 ∧ p4) ∨ ((149 : Nat) = 160 ∧ p5) ∨ ((149 : Nat) = 160 ∧ p6) ∨ ((149 : Nat) = 160 ∧ p7) ∨ ((149 : Nat) = 160 ∧ p8) ∨ (149 : Nat) = 161 ∨ (149 : Nat) = 152 ∨ ((149 : Nat) = 137 ∧ p9)) := (fun h => (Or.elim h (fun h => (absurd (show 149 = 157 from h) (by decide))) (fun h => (Or.elim h (fun h => (absurd (show 149 = 137 from (h).1) (by decide))) (fun h => (Or.elim h (fun h => (absurd (show 149 = 160 from (h).1) (by decide))) (fun h => (Or.elim h (fun h => (absurd (show 149 = 160 from (h).1) (by decide))) (fun h => (Or.elim h (fun h => (absurd (show 149 = 160 from (h).1) (by decide))) (fun h => (Or.elim h (fun h => (absurd (show 149 = 160 from (h).1) (by decide))) (fun h => (Or.elim h (fun h => (absurd (show 149 = 160 from (h).1) (by decide))) (fun h => (Or.elim h (fun h => (absurd (show 149 = 160 from (h).1) (by decide))) (fun h => (Or.elim h (fun h => (absurd (show 149 = 160 from (h).1) (by decide))) (fun h => (Or.elim h (fun h => (absurd (show 149 = 161 from h) (by decide))) (fun h => (Or.elim h (fun h => (absurd (show 149 = 152 from h) (by decide))) (fun h => (absurd (show 149 = 137 from (h).1) (by decide)))))))))))))))))))))))))
theorem nj_37 {p1 p2 p3 p4 p5 p6 p7 p8 p9 : Prop} : ¬ ((140 : Nat) = 157 ∨ ((140 : Nat) = 137 ∧ p1) ∨ ((140 : Nat) = 160 ∧ p2) ∨ ((140 : Nat) = 160 ∧ p3) ∨ ((140 : Nat) = 160 ∧ p4) ∨ ((140 : Nat) = 160 ∧ p5) ∨ ((140 : Nat) = 160 ∧ p6) ∨ ((140 : Nat) = 160 ∧ p7) ∨ ((140 : Nat) = 160 ∧ p8) ∨ (140 : Nat) = 161 ∨ (140 : Nat) = 152 ∨ ((140 : Nat) = 137 ∧ p9)) := (fun h => (Or.elim h (fun h => (absurd (show 140 = 157 from h) (by decide))) (fun h => (Or.elim h (fun h => (absurd (show 140 = 137 from (h).1) (by decide))) (fun h => (Or.elim h (fun h => (absurd (show 140 = 160 from (h).1) (by decide))) (fun h => (Or.elim h (fun h => (absurd (show 140 = 160 from (h).1) (by decide))) (fun h => (Or.elim h (fun h => (absurd (show 140 = 160 from (h).1) (by decide))) (fun h => (Or.elim h (fun h => (absurd (show 140 = 160 from (h).1) (by decide))) (fun h => (Or.elim h (fun h => (absurd (show 140 = 160 from (h).1) (by decide))) (fun h => (Or.elim h (fun h => (absurd (show 140 = 160 from (h).1) (by decide))) (fun h => (Or.elim h (fun h => (absurd (show 140 = 160 from (h).1) (by decide))) (fun h => (Or.elim h (fun h => (absurd (show 140 = 161 from h) (by decide))) (fun h => (Or.elim h (fun h => (absurd (show 140 = 152 from h) (by decide))) (fun h => (absurd (show 140 = 137 from (h).1) (by decide)))))))))))))))))))))))))
theorem nj_38 {p1 p2 p3 p4 p5 p6 p7 p8 p9 p10 : Prop} : ¬ ((149 : Nat) = 157 ∨ ((149 : Nat) = 137 ∧ p1) ∨ (149 : Nat) = 158 ∨ ((149 : Nat) = 137 ∧ p2) ∨ ((149 : Nat) = 160 ∧ p3) ∨ ((149 : Nat) = 160 ∧ p4) ∨ ((149 : Nat) = 160 ∧ p5) ∨ ((149 : Nat) = 160 ∧ p6) ∨ ((149 : Nat) = 160 ∧ p7) ∨ ((149 : Nat) = 160 ∧ p8) ∨ ((149 : Nat) = 160 ∧ p9) ∨ (149 : Nat) = 161 ∨ (149 : Nat) = 152 ∨ ((149 : Nat) = 137 ∧ p10)) := (fun h => (Or.elim h (fun h => (absurd (show 149 = 157 from h) (by decide))) (fun h => (Or.elim h (fun h => (absurd (show 149 = 137 from (h).1) (by decide))) (fun h => (Or.elim h (fun h => (absurd (show 149 = 158 from h) (by decide))) (fun h => (Or.elim h (fun h => (absurd (show 149 = 137 from (h).1) (by decide))) (fun h => (Or.elim h (fun h => (absurd (show 149 = 160 from (h).1) (by decide))) (fun h => (Or.elim h (fun h => (absurd (show 149 = 160 from (h).1) (by decide))) (fun h => (Or.elim h (fun h => (absurd (show 149 = 160 from (h).1) (by decide))) (fun h => (Or.elim h (fun h => (absurd (show 149 = 160 from (h).1) (by decide))) (fun h => (Or.elim h (fun h => (absurd (show 149 = 160 from (h).1) (by decide))) (fun h => (Or.elim h (fun h => (absurd (show 149 = 160 from (h).1) (by decide))) (fun h => (Or.elim h (fun h => (absurd (show 149 = 160 from (h).1) (by decide))) (fun h => (Or.elim h (fun h => (absurd (show 149 = 161 from h) (by decide))) (fun h => (Or.elim h (fun h => (absurd (show 149 = 152 from h) (by decide))) (fun h => (absurd (show 149 = 137 from (h).1) (by decide)))))))))))))))))))))))))))))
theorem nj_39 {p1 p2 p3 p4 p5 p6 p7 p8 p9 p10 : Prop} : ¬ ((140 : Nat) = 157 ∨ ((140 : Nat) = 137 ∧ p1) ∨ (140 : Nat) = 158 ∨ ((140 : Nat) = 137 ∧ p2) ∨ ((140 : Nat) = 160 ∧ p3) ∨ ((140 : Nat) = 160 ∧ p4) ∨ ((140 : Nat) = 160 ∧ p5) ∨ ((140 : Nat) = 160 ∧ p6) ∨ ((140 : Nat) = 160 ∧ p7) ∨ ((140 : Nat) = 160 ∧ p8) ∨ ((140 : Nat) = 160 ∧ p9) ∨ (140 : Nat) = 161 ∨ (140 : Nat) = 152 ∨ ((140 : Nat) = 137 ∧ p10)) := (fun h => (Or.elim h (fun h => (absurd (show 140 = 157 from h) (by decide))) (fun h => (Or.elim h (fun h => (absurd (show 140 = 137 from (h).1) (by decide))) (fun h => (Or.elim h (fun h => (absurd (show 140 = 158 from h) (by decide))) (fun h => (Or.elim h (fun h => (absurd (show 140 = 137 from (h).1) (by decide))) (fun h => (Or.elim h (fun h => (absurd (show 140 = 160 from (h).1) (by decide))) (fun h => (Or.elim h (fun h => (absurd (show 140 = 160 from (h).1) (by decide))) (fun h => (Or.elim h (fun h => (absurd (show 140 = 160 from (h).1) (by decide))) (fun h => (Or.elim h (fun h => (absurd (show 140 = 160 from (h).1) (by decide))) (fun h => (Or.elim h (fun h => (absurd (show 140 = 160 from (h).1) (by decide))) (fun h => (Or.elim h (fun h => (absurd (show 140 = 160 from (h).1) (by decide))) (fun h => (Or.elim h (fun h => (absurd (show 140 = 160 from (h).1) (by decide))) (fun h => (Or.elim h (fun h => (absurd (show 140 = 161 from h) (by decide))) (fun h => (Or.elim h (fun h => (absurd (show 140 = 152 from h) (by decide))) (fun h => (absurd (show 140 = 137 from (h).1) (by decide)))))))))))))))))))))))))))))
theorem nj_40 {p1 p2 p3 p4 p5 p6 p7 p8 : Prop} : ¬ ((149 : Nat) = 155 ∨ ((149 : Nat) = 160 ∧ p1) ∨ ((149 : Nat) = 160 ∧ p2) ∨ ((149 : Nat) = 160 ∧ p3) ∨ ((149 : Nat) = 160 ∧ p4) ∨ ((149 : Nat) = 160 ∧ p5) ∨ ((149 : Nat) = 160 ∧ p6) ∨ ((149 : Nat) = 160 ∧ p7) ∨ (149 : Nat) = 161 ∨ (149 : Nat) = 152 ∨ ((149 : Nat) = 137 ∧ p8) ∨ (149 : Nat) = 153 ∨ (149 : Nat) = 154) := (fun h => (Or.elim h (fun h => (absurd (show 149 = 155 from h) (by decide))) (fun h => (Or.elim h (fun h => (absurd (show 149 = 160 from (h).1) (by decide))) (fun h => (Or.elim h (fun h => (absurd (show 149 = 160 from (h).1) (by decide))) (fun h => (Or.elim h (fun h => (absurd (show 149 = 160 from (h).1) (by decide))) (fun h => (Or.elim h (fun h => (absurd (show 149 = 160 from (h).1) (by decide))) (fun h => (Or.elim h (fun h => (absurd (show 149 = 160 from (h).1) (by decide))) (fun h => (Or.elim h (fun h => (absurd (show 149 = 160 from (h).1) (by decide))) (fun h => (Or.elim h (fun h => (absurd (show 149 = 160 from (h).1) (by decide))) (fun h => (Or.elim h (fun h => (absurd (show 149 = 161 from h) (by decide))) (fun h => (Or.elim h (fun h => (absurd (show 149 = 152 from h) (by decide))) (fun h => (Or.elim h (fun h => (absurd (show 149 = 137 from (h).1) (by decide))) (fun h => (Or.elim h (fun h => (absurd (show 149 = 153 from h) (by decide))) (fun h => (absurd (show 149 = 154 from h) (by decide)))))))))))))))))))))))))))
theorem nj_41 {p1 p2 p3 p4 p5 p6 p7 p8 : Prop} : ¬ ((140 : Nat) = 155 ∨ ((140 : Nat) = 160 ∧ p1) ∨ ((140 : Nat) = 160 ∧ p2) ∨ ((140 : Nat) = 160 ∧ p3) ∨ ((140 : Nat) = 160 ∧ p4) ∨ ((140 : Nat) = 160 ∧ p5) ∨ ((140 : Nat) = 160 ∧ p6) ∨ ((140 : Nat) = 160 ∧ p7) ∨ (140 : Nat) = 161 ∨ (140 : Nat) = 152 ∨ ((140 : Nat) = 137 ∧ p8) ∨ (140 : Nat) = 153 ∨ (140 : Nat) = 154) := (fun h => (Or.elim h (fun h => (absurd (show 140 = 155 from h) (by decide))) (fun h => (Or.elim h (fun h => (absurd (show 140 = 160 from (h).1) (by decide))) (fun h => (Or.elim h (fun h => (absurd (show 140 = 160 from (h).1) (by decide))) (fun h => (Or.elim h (fun h => (absurd (show 140 = 160 from (h).1) (by decide))) (fun h => (Or.elim h (fun h => (absurd (show 140 = 160 from (h).1) (by decide))) (fun h => (Or.elim h (fun h => (absurd (show 140 = 160 from (h).1) (by decide))) (fun h => (Or.elim h (fun h => (absurd (show 140 = 160 from (h).1) (by decide))) (fun h => (Or.elim h (fun h => (absurd (show 140 = 160 from (h).1) (by decide))) (fun h => (Or.elim h (fun h => (absurd (show 140 = 161 from h) (by decide))) (fun h => (Or.elim h (fun h => (absurd (show 140 = 152 from h) (by decide))) (fun h => (Or.elim h (fun h => (absurd (show 140 = 137 from (h).1) (by decide))) (fun h => (Or.elim h (fun h => (absurd (show 140 = 153 from h) (by decide))) (fun h => (absurd (show 140 = 154 from h) (by decide)))))))))))))))))))))))))))
theorem fd_12_103 : mm_tab mm_fldT 12 103 = some (12, 40, 0) ∧ mm_tab mm_ftT 12 40 = some 6 := ⟨rfl, rfl⟩
theorem fd_12_106 : mm_tab mm_fldT 12 106 = some (12, 41, 0) ∧ mm_tab mm_ftT 12 41 = some 6 := ⟨rfl, rfl⟩
theorem mt_12_417 : mm_tab mm_mthT 12 417 = some (1, 254, 3, 0, 12) := rfl
theorem mt_12_421 : mm_tab mm_mthT 12 421 = some (1, 220, 2, 0, 12) := rfl
theorem mt_12_435 : mm_tab mm_mthT 12 435 = some (1, 257, 2, 0, 12) := rfl
theorem mt_12_441 : mm_tab mm_mthT 12 441 = some (1, 260, 0, 0, 12) := rfl
theorem mt_12_444 : mm_tab mm_mthT 12 444 = some (1, 261, 0, 0, 12) := rfl
theorem mt_12_447 : mm_tab mm_mthT 12 447 = some (1, 227, 0, 0, 12) := rfl
theorem sh_162 (L : Nat) : mm_SH L 162 = (100, 25) := rfl
theorem sh_163 (L : Nat) : mm_SH L 163 = (100, 2048) := rfl
theorem ba_163 (j : Nat) : mz_bd 163 j = ((-2147483648), 2147483647) := rfl
theorem rf_137_40 (a b : Nat) (c : Option Nat) : mm_HR a b c 137 40 = some 162 := rfl
theorem rf_137_41 (a b : Nat) (c : Option Nat) : mm_HR a b c 137 41 = some 163 := rfl
def fw_X12_pack (x : mm_X) (a1 : Int) (a2 : Int) (a3 : Int) : Nat → Nat → Prop := fun k j => (k = 137 ∧ j = 2) ∨ k = 156 ∨ (k = 137 ∧ j = 31) ∨ k = 154 ∨ k = 152 ∨ k = 153 ∨ k = 150
theorem f_X12_pack {d : Nat} (hd : 3 ≤ d) {x : mm_X} (hx : mk_x x) {g : mz_G} (hI : mz_inv g) {a1 : Int} (l_a1 : (-2147483648) ≤ a1) (u_a1 : a1 ≤ 2147483647) {a2 : Int} (l_a2 : (-2147483648) ≤ a2) (u_a2 : a2 ≤ 2147483647) {a3 : Int} (l_a3 : (-2147483648) ≤ a3) (u_a3 : a3 ≤ 2147483647) (p1 : mz_pv g) (p2 : g 137 30 ≤ 999) {Q : (Option Value ⊕ Nat) → mm_H → Prop} (hQ : ∀ (r : Int) (g1 : mz_G), mz_inv g1 → mz_fr (fw_X12_pack x a1 a2 a3) g g1 → (-1) ≤ r → r ≤ 7 → (g1 137 30 ≤ 999) → zf_E (zF_X12_pack a1 a2 a3 g) ((r, g1)) → Q (.inl (some (.int (Int32.ofInt r)))) (mz_mk g1 x)) : mm_C d 255 [.ref 137, .int (Int32.ofInt a1), .int (Int32.ofInt a2), .int (Int32.ofInt a3)] (mz_mk g x) Q := by
  refine ⟨mmX12_pack, [some (.ref 137), some (.int (Int32.ofInt a1)), some (.int (Int32.ofInt a2)), some (.int (Int32.ofInt a3)), none], rfl, rfl, ?_⟩
  have bz0 := mz_rd hI bd_137_30
  have hpv := p1
  have hE : zf_E (zF_X12_pack a1 a2 a3 g) (zF_X12_pack a1 a2 a3 g) := zf_rf
  refine mm_g 2 (pc1 := 2) (lo1 := [some (.ref 137), some (.int (Int32.ofInt a1)), some (.int (Int32.ofInt a2)), some (.int (Int32.ofInt a3)), none]) (st1 := [.int (Int32.ofInt 0), .ref 137]) (H1 := mz_mk g x) rfl ?_
  refine mz_pI rfl fd_12_154 (sc_137 _) hI bd_137_2 (by omega) (by omega) (fun g1 hIg1 hug1 => ?_)
  replace hE := zf_tr hE (zf_lg hug1)
  refine mm_g 2 (pc1 := 7) (lo1 := [some (.ref 137), some (.int (Int32.ofInt a1)), some (.int (Int32.ofInt a2)), some (.int (Int32.ofInt a3)), none]) (st1 := [.int (Int32.ofInt a1), .ref 137]) (H1 := mz_mk g1 x) rfl ?_
  refine mz_cv rfl mt_12_391 (by decide) (sc_137 _) rfl (Nat.le_of_ble_eq_true rfl) (by omega) (f_X12_isTrunk (by omega) hx hIg1 l_a1 u_a1 (fun v2 l_v2 u_v2 hp3 hp4 hc5 => ⟨_, rfl, ?_⟩))
  show mm_W d mmX12_pack 10 [some (.ref 137), some (.int (Int32.ofInt a1)), some (.int (Int32.ofInt a2)), some (.int (Int32.ofInt a3)), none] [.int (Int32.ofInt v2)] (mz_mk g1 x) Q
  replace hE := zf_t1 hE hc5
  refine mz_if_eq (tgt := 31) rfl rfl (mz_rg l_v2 u_v2) (fun c10_5 => ?_) (fun c10_5 => ?_)
  · skip
    replace hE := zf_ip hE c10_5
    refine mm_g 2 (pc1 := 33) (lo1 := [some (.ref 137), some (.int (Int32.ofInt a1)), some (.int (Int32.ofInt a2)), some (.int (Int32.ofInt a3)), none]) (st1 := [.int (Int32.ofInt 1), .ref 137]) (H1 := mz_mk g1 x) rfl ?_
    refine mz_cv rfl mt_12_294 (by decide) (sc_137 _) rfl (Nat.le_of_ble_eq_true rfl) (by omega) (f_X12_fail (by omega) hx hIg1 (by decide) (by decide) (fun v6 g7 hIg7 hfg7 l_v6 u_v6 hc8 => ⟨_, rfl, ?_⟩))
    show mm_W d mmX12_pack 36 [some (.ref 137), some (.int (Int32.ofInt a1)), some (.int (Int32.ofInt a2)), some (.int (Int32.ofInt a3)), none] [.int (Int32.ofInt v6)] (mz_mk g7 x) Q
    replace hE := zf_t2 hE hc8
    exact mm_rt rfl rfl (hQ _ _ hIg7 (fun k j hk => ((hfg7 k j (fun h => hk (Or.inl h))).trans (hug1.2 k j (fun h => hk (Or.inl h))))) (by omega) (by omega) (by have h9 := (show g7 137 30 = (g 137 30) from ((hfg7 137 30 (fun h => (absurd (show (137 = 137 ∧ 30 = 2) from h) (by decide)))).trans ((hug1.2 137 30 (fun h => absurd h.2 (by decide))).trans rfl))); omega) hE)
  · skip
    replace hE := zf_in hE c10_5
    refine mm_g 1 (pc1 := 14) (lo1 := [some (.ref 137), some (.int (Int32.ofInt a1)), some (.int (Int32.ofInt a2)), some (.int (Int32.ofInt a3)), none]) (st1 := [.int (Int32.ofInt a2)]) (H1 := mz_mk g1 x) rfl ?_
    refine mz_i2l rfl (mz_rg l_a2 u_a2) ?_
    refine mz_lcst (c := 0) rfl rfl ?_
    refine mz_lcst (c := 1) rfl rfl ?_
    refine mz_cs rfl mt_12_157 (by decide) rfl (Nat.le_of_ble_eq_true rfl) (by omega) (f_X12_isIn (by omega) hx hIg1 (by omega) (by omega) (by omega) (by omega) (by omega) (by omega) (fun v9 l_v9 u_v9 hp10 hc11 => ⟨_, rfl, ?_⟩))
    show mm_W d mmX12_pack 20 [some (.ref 137), some (.int (Int32.ofInt a1)), some (.int (Int32.ofInt a2)), some (.int (Int32.ofInt a3)), none] [.int (Int32.ofInt v9)] (mz_mk g1 x) Q
    replace hE := zf_t1 hE hc11
    refine mz_if_eq (tgt := 31) rfl rfl (mz_rg l_v9 u_v9) (fun c20_11 => ?_) (fun c20_11 => ?_)
    · skip
      replace hE := zf_ip hE c20_11
      refine mm_g 2 (pc1 := 33) (lo1 := [some (.ref 137), some (.int (Int32.ofInt a1)), some (.int (Int32.ofInt a2)), some (.int (Int32.ofInt a3)), none]) (st1 := [.int (Int32.ofInt 1), .ref 137]) (H1 := mz_mk g1 x) rfl ?_
      refine mz_cv rfl mt_12_294 (by decide) (sc_137 _) rfl (Nat.le_of_ble_eq_true rfl) (by omega) (f_X12_fail (by omega) hx hIg1 (by decide) (by decide) (fun v12 g13 hIg13 hfg13 l_v12 u_v12 hc14 => ⟨_, rfl, ?_⟩))
      show mm_W d mmX12_pack 36 [some (.ref 137), some (.int (Int32.ofInt a1)), some (.int (Int32.ofInt a2)), some (.int (Int32.ofInt a3)), none] [.int (Int32.ofInt v12)] (mz_mk g13 x) Q
      replace hE := zf_t2 hE hc14
      exact mm_rt rfl rfl (hQ _ _ hIg13 (fun k j hk => ((hfg13 k j (fun h => hk (Or.inl h))).trans (hug1.2 k j (fun h => hk (Or.inl h))))) (by omega) (by omega) (by have h9 := (show g13 137 30 = (g 137 30) from ((hfg13 137 30 (fun h => (absurd (show (137 = 137 ∧ 30 = 2) from h) (by decide)))).trans ((hug1.2 137 30 (fun h => absurd h.2 (by decide))).trans rfl))); omega) hE)
    · skip
      replace hE := zf_in hE c20_11
      refine mm_g 2 (pc1 := 25) (lo1 := [some (.ref 137), some (.int (Int32.ofInt a1)), some (.int (Int32.ofInt a2)), some (.int (Int32.ofInt a3)), none]) (st1 := [.int (Int32.ofInt a3), .ref 137]) (H1 := mz_mk g1 x) rfl ?_
      refine mz_cv rfl mt_12_380 (by decide) (sc_137 _) rfl (Nat.le_of_ble_eq_true rfl) (by omega) (f_X12_isWord (by omega) hx hIg1 l_a3 u_a3 (fun v15 l_v15 u_v15 hp16 hp17 hc18 => ⟨_, rfl, ?_⟩))
      show mm_W d mmX12_pack 28 [some (.ref 137), some (.int (Int32.ofInt a1)), some (.int (Int32.ofInt a2)), some (.int (Int32.ofInt a3)), none] [.int (Int32.ofInt v15)] (mz_mk g1 x) Q
      replace hE := zf_t1 hE hc18
      refine mz_if_ne (tgt := 37) rfl rfl (mz_rg l_v15 u_v15) (fun c28_18 => ?_) (fun c28_18 => ?_)
      · skip
        replace hE := zf_in hE c28_18
        refine mm_g 1 (pc1 := 38) (lo1 := [some (.ref 137), some (.int (Int32.ofInt a1)), some (.int (Int32.ofInt a2)), some (.int (Int32.ofInt a3)), none]) (st1 := [.int (Int32.ofInt a2)]) (H1 := mz_mk g1 x) rfl ?_
        refine mz_if_ne (tgt := 50) rfl rfl (mz_rg l_a2 u_a2) (fun c38_18 => ?_) (fun c38_18 => ?_)
        · skip
          replace hE := zf_in hE c38_18
          refine mm_g 1 (pc1 := 51) (lo1 := [some (.ref 137), some (.int (Int32.ofInt a1)), some (.int (Int32.ofInt a2)), some (.int (Int32.ofInt a3)), none]) (st1 := [.ref 137]) (H1 := mz_mk g1 x) rfl ?_
          refine mz_fgR (v := 154) rfl fd_12_80 (by decide) (sc_137 _) (rf_137_27 _ _ _) ?_
          refine mm_g 1 (pc1 := 55) (lo1 := [some (.ref 137), some (.int (Int32.ofInt a1)), some (.int (Int32.ofInt a2)), some (.int (Int32.ofInt a3)), none]) (st1 := [.int (Int32.ofInt a1), .ref 154]) (H1 := mz_mk g1 x) rfl ?_
          refine mz_aI rfl (sh_154 _) (by omega) (by omega) (by decide) hIg1 (ba_154 _) (fun v19 e_v19 l_v19 u_v19 => ?_)
          replace hE := zf_tr hE (zf_le e_v19)
          refine mm_g 3 (pc1 := 61) (lo1 := [some (.ref 137), some (.int (Int32.ofInt a1)), some (.int (Int32.ofInt a2)), some (.int (Int32.ofInt a3)), some (.int (Int32.ofInt v19))]) (st1 := [.int (Int32.ofInt a3), .int (Int32.ofInt v19)]) (H1 := mz_mk g1 x) rfl ?_
          refine mz_ic_ne (tgt := 70) rfl rfl (mz_rg l_v19 u_v19) (mz_rg l_a3 u_a3) (fun c61_19 => ?_) (fun c61_19 => ?_)
          · skip
            replace hE := zf_in hE c61_19
            refine mm_g 1 (pc1 := 71) (lo1 := [some (.ref 137), some (.int (Int32.ofInt a1)), some (.int (Int32.ofInt a2)), some (.int (Int32.ofInt a3)), some (.int (Int32.ofInt v19))]) (st1 := [.ref 137]) (H1 := mz_mk g1 x) rfl ?_
            refine mz_cv rfl mt_12_406 (by decide) (sc_137 _) rfl (Nat.le_of_ble_eq_true rfl) (by omega) (f_X12_keep (by omega) hx hIg1 (by have h9 := (show g1 137 30 = (g 137 30) from ((hug1.2 137 30 (fun h => absurd h.2 (by decide))).trans rfl)); omega) (fun g20 hIg20 hfg20 hc21 => ⟨_, rfl, ?_⟩))
            show mm_W d mmX12_pack 74 [some (.ref 137), some (.int (Int32.ofInt a1)), some (.int (Int32.ofInt a2)), some (.int (Int32.ofInt a3)), some (.int (Int32.ofInt v19))] [] (mz_mk g20 x) Q
            replace hE := zf_t1 hE hc21
            refine mm_g 4 (pc1 := 78) (lo1 := [some (.ref 137), some (.int (Int32.ofInt a1)), some (.int (Int32.ofInt a2)), some (.int (Int32.ofInt a3)), some (.int (Int32.ofInt v19))]) (st1 := [.int (Int32.ofInt a3), .int (Int32.ofInt a2), .int (Int32.ofInt a1), .ref 137]) (H1 := mz_mk g20 x) rfl ?_
            refine mz_cv rfl mt_12_417 (by decide) (sc_137 _) rfl (Nat.le_of_ble_eq_true rfl) (by omega) (f_X12_packIn (by omega) hx hIg20 (by omega) (by omega) l_a2 u_a2 (by omega) (by omega) (fun g22 hIg22 hfg22 hc23 => ⟨_, rfl, ?_⟩))
            show mm_W d mmX12_pack 81 [some (.ref 137), some (.int (Int32.ofInt a1)), some (.int (Int32.ofInt a2)), some (.int (Int32.ofInt a3)), some (.int (Int32.ofInt v19))] [] (mz_mk g22 x) Q
            replace hE := zf_t1 hE hc23
            refine mm_g 1 (pc1 := 83) (lo1 := [some (.ref 137), some (.int (Int32.ofInt a1)), some (.int (Int32.ofInt a2)), some (.int (Int32.ofInt a3)), some (.int (Int32.ofInt v19))]) (st1 := [.int (Int32.ofInt v19)]) (H1 := mz_mk g22 x) rfl ?_
            exact mm_rt rfl rfl (hQ _ _ hIg22 (fun k j hk => ((hfg22 k j (fun h => hk (Or.elim h (fun h => (Or.inr (Or.inr (Or.inr (Or.inl h))))) (fun h => (Or.elim h (fun h => (Or.inr (Or.inr (Or.inr (Or.inr (Or.inl h)))))) (fun h => (Or.inr (Or.inr (Or.inr (Or.inr (Or.inr (Or.inl h)))))))))))).trans ((hfg20 k j (fun h => hk (Or.elim h (fun h => (Or.inr (Or.inl h))) (fun h => (Or.inr (Or.inr (Or.inl h))))))).trans (hug1.2 k j (fun h => hk (Or.inl h)))))) (by omega) (by omega) (by have h9 := (show g22 137 30 = (g 137 30) from ((hfg22 137 30 nj_33).trans ((hfg20 137 30 nj_28).trans ((hug1.2 137 30 (fun h => absurd h.2 (by decide))).trans rfl)))); omega) hE)
          · skip
            replace hE := zf_ip hE c61_19
            refine mm_g 2 (pc1 := 66) (lo1 := [some (.ref 137), some (.int (Int32.ofInt a1)), some (.int (Int32.ofInt a2)), some (.int (Int32.ofInt a3)), some (.int (Int32.ofInt v19))]) (st1 := [.int (Int32.ofInt 1), .ref 137]) (H1 := mz_mk g1 x) rfl ?_
            refine mz_cv rfl mt_12_403 (by decide) (sc_137 _) rfl (Nat.le_of_ble_eq_true rfl) (by omega) (f_X12_refuse (by omega) hx hIg1 (by decide) (by decide) (fun v24 g25 hIg25 hfg25 l_v24 u_v24 hc26 => ⟨_, rfl, ?_⟩))
            show mm_W d mmX12_pack 69 [some (.ref 137), some (.int (Int32.ofInt a1)), some (.int (Int32.ofInt a2)), some (.int (Int32.ofInt a3)), some (.int (Int32.ofInt v19))] [.int (Int32.ofInt v24)] (mz_mk g25 x) Q
            replace hE := zf_t2 hE hc26
            exact mm_rt rfl rfl (hQ _ _ hIg25 (fun k j hk => ((hfg25 k j (fun h => hk (Or.inr (Or.inr (Or.inr (Or.inr (Or.inr (Or.inr h)))))))).trans (hug1.2 k j (fun h => hk (Or.inl h))))) (by omega) (by omega) (by have h9 := (show g25 137 30 = (g 137 30) from ((hfg25 137 30 (fun h => (absurd (show 137 = 150 from h) (by decide)))).trans ((hug1.2 137 30 (fun h => absurd h.2 (by decide))).trans rfl))); omega) hE)
        · skip
          replace hE := zf_ip hE c38_18
          refine mm_g 1 (pc1 := 42) (lo1 := [some (.ref 137), some (.int (Int32.ofInt a1)), some (.int (Int32.ofInt a2)), some (.int (Int32.ofInt a3)), none]) (st1 := [.ref 137]) (H1 := mz_mk g1 x) rfl ?_
          refine mz_fgR (v := 153) rfl fd_12_78 (by decide) (sc_137 _) (rf_137_26 _ _ _) ?_
          refine mm_g 1 (pc1 := 46) (lo1 := [some (.ref 137), some (.int (Int32.ofInt a1)), some (.int (Int32.ofInt a2)), some (.int (Int32.ofInt a3)), none]) (st1 := [.int (Int32.ofInt a1), .ref 153]) (H1 := mz_mk g1 x) rfl ?_
          refine mz_aI rfl (sh_153 _) (by omega) (by omega) (by decide) hIg1 (ba_153 _) (fun v27 e_v27 l_v27 u_v27 => ?_)
          replace hE := zf_tr hE (zf_le e_v27)
          refine mz_gt (tgt := 56) rfl rfl ?_
          refine mm_g 3 (pc1 := 61) (lo1 := [some (.ref 137), some (.int (Int32.ofInt a1)), some (.int (Int32.ofInt a2)), some (.int (Int32.ofInt a3)), some (.int (Int32.ofInt v27))]) (st1 := [.int (Int32.ofInt a3), .int (Int32.ofInt v27)]) (H1 := mz_mk g1 x) rfl ?_
          refine mz_ic_ne (tgt := 70) rfl rfl (mz_rg l_v27 u_v27) (mz_rg l_a3 u_a3) (fun c61_27 => ?_) (fun c61_27 => ?_)
          · skip
            replace hE := zf_in hE c61_27
            refine mm_g 1 (pc1 := 71) (lo1 := [some (.ref 137), some (.int (Int32.ofInt a1)), some (.int (Int32.ofInt a2)), some (.int (Int32.ofInt a3)), some (.int (Int32.ofInt v27))]) (st1 := [.ref 137]) (H1 := mz_mk g1 x) rfl ?_
            refine mz_cv rfl mt_12_406 (by decide) (sc_137 _) rfl (Nat.le_of_ble_eq_true rfl) (by omega) (f_X12_keep (by omega) hx hIg1 (by have h9 := (show g1 137 30 = (g 137 30) from ((hug1.2 137 30 (fun h => absurd h.2 (by decide))).trans rfl)); omega) (fun g28 hIg28 hfg28 hc29 => ⟨_, rfl, ?_⟩))
            show mm_W d mmX12_pack 74 [some (.ref 137), some (.int (Int32.ofInt a1)), some (.int (Int32.ofInt a2)), some (.int (Int32.ofInt a3)), some (.int (Int32.ofInt v27))] [] (mz_mk g28 x) Q
            replace hE := zf_t1 hE hc29
            refine mm_g 4 (pc1 := 78) (lo1 := [some (.ref 137), some (.int (Int32.ofInt a1)), some (.int (Int32.ofInt a2)), some (.int (Int32.ofInt a3)), some (.int (Int32.ofInt v27))]) (st1 := [.int (Int32.ofInt a3), .int (Int32.ofInt a2), .int (Int32.ofInt a1), .ref 137]) (H1 := mz_mk g28 x) rfl ?_
            refine mz_cv rfl mt_12_417 (by decide) (sc_137 _) rfl (Nat.le_of_ble_eq_true rfl) (by omega) (f_X12_packIn (by omega) hx hIg28 (by omega) (by omega) l_a2 u_a2 (by omega) (by omega) (fun g30 hIg30 hfg30 hc31 => ⟨_, rfl, ?_⟩))
            show mm_W d mmX12_pack 81 [some (.ref 137), some (.int (Int32.ofInt a1)), some (.int (Int32.ofInt a2)), some (.int (Int32.ofInt a3)), some (.int (Int32.ofInt v27))] [] (mz_mk g30 x) Q
            replace hE := zf_t1 hE hc31
            refine mm_g 1 (pc1 := 83) (lo1 := [some (.ref 137), some (.int (Int32.ofInt a1)), some (.int (Int32.ofInt a2)), some (.int (Int32.ofInt a3)), some (.int (Int32.ofInt v27))]) (st1 := [.int (Int32.ofInt v27)]) (H1 := mz_mk g30 x) rfl ?_
            exact mm_rt rfl rfl (hQ _ _ hIg30 (fun k j hk => ((hfg30 k j (fun h => hk (Or.elim h (fun h => (Or.inr (Or.inr (Or.inr (Or.inl h))))) (fun h => (Or.elim h (fun h => (Or.inr (Or.inr (Or.inr (Or.inr (Or.inl h)))))) (fun h => (Or.inr (Or.inr (Or.inr (Or.inr (Or.inr (Or.inl h)))))))))))).trans ((hfg28 k j (fun h => hk (Or.elim h (fun h => (Or.inr (Or.inl h))) (fun h => (Or.inr (Or.inr (Or.inl h))))))).trans (hug1.2 k j (fun h => hk (Or.inl h)))))) (by omega) (by omega) (by have h9 := (show g30 137 30 = (g 137 30) from ((hfg30 137 30 nj_33).trans ((hfg28 137 30 nj_28).trans ((hug1.2 137 30 (fun h => absurd h.2 (by decide))).trans rfl)))); omega) hE)
          · skip
            replace hE := zf_ip hE c61_27
            refine mm_g 2 (pc1 := 66) (lo1 := [some (.ref 137), some (.int (Int32.ofInt a1)), some (.int (Int32.ofInt a2)), some (.int (Int32.ofInt a3)), some (.int (Int32.ofInt v27))]) (st1 := [.int (Int32.ofInt 1), .ref 137]) (H1 := mz_mk g1 x) rfl ?_
            refine mz_cv rfl mt_12_403 (by decide) (sc_137 _) rfl (Nat.le_of_ble_eq_true rfl) (by omega) (f_X12_refuse (by omega) hx hIg1 (by decide) (by decide) (fun v32 g33 hIg33 hfg33 l_v32 u_v32 hc34 => ⟨_, rfl, ?_⟩))
            show mm_W d mmX12_pack 69 [some (.ref 137), some (.int (Int32.ofInt a1)), some (.int (Int32.ofInt a2)), some (.int (Int32.ofInt a3)), some (.int (Int32.ofInt v27))] [.int (Int32.ofInt v32)] (mz_mk g33 x) Q
            replace hE := zf_t2 hE hc34
            exact mm_rt rfl rfl (hQ _ _ hIg33 (fun k j hk => ((hfg33 k j (fun h => hk (Or.inr (Or.inr (Or.inr (Or.inr (Or.inr (Or.inr h)))))))).trans (hug1.2 k j (fun h => hk (Or.inl h))))) (by omega) (by omega) (by have h9 := (show g33 137 30 = (g 137 30) from ((hfg33 137 30 (fun h => (absurd (show 137 = 150 from h) (by decide)))).trans ((hug1.2 137 30 (fun h => absurd h.2 (by decide))).trans rfl))); omega) hE)
      · skip
        replace hE := zf_ip hE c28_18
        refine mm_g 2 (pc1 := 33) (lo1 := [some (.ref 137), some (.int (Int32.ofInt a1)), some (.int (Int32.ofInt a2)), some (.int (Int32.ofInt a3)), none]) (st1 := [.int (Int32.ofInt 1), .ref 137]) (H1 := mz_mk g1 x) rfl ?_
        refine mz_cv rfl mt_12_294 (by decide) (sc_137 _) rfl (Nat.le_of_ble_eq_true rfl) (by omega) (f_X12_fail (by omega) hx hIg1 (by decide) (by decide) (fun v35 g36 hIg36 hfg36 l_v35 u_v35 hc37 => ⟨_, rfl, ?_⟩))
        show mm_W d mmX12_pack 36 [some (.ref 137), some (.int (Int32.ofInt a1)), some (.int (Int32.ofInt a2)), some (.int (Int32.ofInt a3)), none] [.int (Int32.ofInt v35)] (mz_mk g36 x) Q
        replace hE := zf_t2 hE hc37
        exact mm_rt rfl rfl (hQ _ _ hIg36 (fun k j hk => ((hfg36 k j (fun h => hk (Or.inl h))).trans (hug1.2 k j (fun h => hk (Or.inl h))))) (by omega) (by omega) (by have h9 := (show g36 137 30 = (g 137 30) from ((hfg36 137 30 (fun h => (absurd (show (137 = 137 ∧ 30 = 2) from h) (by decide)))).trans ((hug1.2 137 30 (fun h => absurd h.2 (by decide))).trans rfl))); omega) hE)
def fw_X12_undo (x : mm_X) : Nat → Nat → Prop := fun k j => (k = 137 ∧ j = 2) ∨ (k = 137 ∧ j = 31) ∨ (k = 137 ∧ j = 30) ∨ k = 152 ∨ k = 153 ∨ k = 154 ∨ k = 155
theorem f_X12_undo {d : Nat} (hd : 2 ≤ d) {x : mm_X} (hx : mk_x x) {g : mz_G} (hI : mz_inv g) (p1 : mz_pv g) (p2 : g 137 30 ≤ 999) {Q : (Option Value ⊕ Nat) → mm_H → Prop} (hQ : ∀ (r : Int) (g1 : mz_G), mz_inv g1 → mz_fr (fw_X12_undo x) g g1 → (-1) ≤ r → r ≤ 39 → (g1 137 30 ≤ 999) → zf_E (zF_X12_undo g) ((r, g1)) → Q (.inl (some (.int (Int32.ofInt r)))) (mz_mk g1 x)) : mm_C d 256 [.ref 137] (mz_mk g x) Q := by
  refine ⟨mmX12_undo, [some (.ref 137)], rfl, rfl, ?_⟩
  have bz0 := mz_rd hI bd_137_30
  have hpv := p1
  have hE : zf_E (zF_X12_undo g) (zF_X12_undo g) := zf_rf
  refine mm_g 2 (pc1 := 2) (lo1 := [some (.ref 137)]) (st1 := [.int (Int32.ofInt 0), .ref 137]) (H1 := mz_mk g x) rfl ?_
  refine mz_pI rfl fd_12_154 (sc_137 _) hI bd_137_2 (by omega) (by omega) (fun g1 hIg1 hug1 => ?_)
  replace hE := zf_tr hE (zf_lg hug1)
  refine mm_g 1 (pc1 := 6) (lo1 := [some (.ref 137)]) (st1 := [.ref 137]) (H1 := mz_mk g1 x) rfl ?_
  refine mz_gI rfl fd_12_310 (by decide) (sc_137 _) hIg1 bd_137_31 (fun v2 e_v2 l_v2 u_v2 => ?_)
  replace hE := zf_tr hE (zf_le e_v2)
  refine mz_if_ne (tgt := 14) rfl rfl (mz_rg l_v2 u_v2) (fun c9_2 => ?_) (fun c9_2 => ?_)
  · skip
    replace hE := zf_in hE c9_2
    refine mm_g 2 (pc1 := 16) (lo1 := [some (.ref 137)]) (st1 := [.ref 137, .ref 137]) (H1 := mz_mk g1 x) rfl ?_
    refine mz_fgI (v := v2) rfl fd_12_310 (by decide) (sc_137 _) e_v2 ?_
    replace hE := zf_tr hE (zf_le e_v2)
    refine mm_g 1 (pc1 := 20) (lo1 := [some (.ref 137)]) (st1 := [.int (Int32.ofInt 1), .int (Int32.ofInt v2), .ref 137]) (H1 := mz_mk g1 x) rfl ?_
    refine mz_isub rfl ?_
    refine mz_pI rfl fd_12_310 (sc_137 _) hIg1 bd_137_31 (by omega) (by omega) (fun g3 hIg3 hug3 => ?_)
    replace hE := zf_tr hE (zf_lg hug3)
    refine mm_g 2 (pc1 := 26) (lo1 := [some (.ref 137)]) (st1 := [.ref 137, .ref 137]) (H1 := mz_mk g3 x) rfl ?_
    refine mz_fgR (v := 156) rfl fd_12_85 (by decide) (sc_137 _) (rf_137_29 _ _ _) ?_
    refine mz_bip rfl bip_25 ?_
    refine mm_g 1 (pc1 := 32) (lo1 := [some (.ref 137)]) (st1 := [.ref 137, .int (Int32.ofInt 25), .ref 156, .ref 137]) (H1 := mz_mk g3 x) rfl ?_
    refine mz_fgI (v := (v2 - 1)) rfl fd_12_310 (by decide) (sc_137 _) (show g3 137 31 = (v2 - 1) from hug3.1) ?_
    replace hE := zf_tr hE (zf_le (show g3 137 31 = (v2 - 1) from hug3.1))
    refine mz_imul rfl ?_
    refine mz_cv rfl mt_12_421 (by decide) (sc_137 _) rfl (Nat.le_of_ble_eq_true rfl) (by omega) (f_X12_recall (by omega) hx hIg3 rwp_156 (by omega) (by omega) (by omega) (by omega) (fun g4 hIg4 hfg4 hp5 hc6 => ⟨_, rfl, ?_⟩))
    show mm_W d mmX12_undo 39 [some (.ref 137)] [] (mz_mk g4 x) Q
    replace hE := zf_t1 hE hc6
    refine mm_g 1 (pc1 := 40) (lo1 := [some (.ref 137)]) (st1 := [.ref 137]) (H1 := mz_mk g4 x) rfl ?_
    refine mz_fgI (v := (v2 - 1)) rfl fd_12_310 (by decide) (sc_137 _) (show g4 137 31 = (v2 - 1) from ((hfg4 137 31 nj_34).trans hug3.1)) ?_
    replace hE := zf_tr hE (zf_le (show g4 137 31 = (v2 - 1) from ((hfg4 137 31 nj_34).trans hug3.1)))
    exact mm_rt rfl rfl (hQ _ _ hIg4 (fun k j hk => ((hfg4 k j (fun h => hk (Or.elim h (fun h => (Or.inr (Or.inr (Or.inl h)))) (fun h => (Or.elim h (fun h => (Or.inr (Or.inr (Or.inr (Or.inl h))))) (fun h => (Or.elim h (fun h => (Or.inr (Or.inr (Or.inr (Or.inr (Or.inl h)))))) (fun h => (Or.elim h (fun h => (Or.inr (Or.inr (Or.inr (Or.inr (Or.inr (Or.inl h))))))) (fun h => (Or.inr (Or.inr (Or.inr (Or.inr (Or.inr (Or.inr h)))))))))))))))).trans ((hug3.2 k j (fun h => hk (Or.inr (Or.inl h)))).trans (hug1.2 k j (fun h => hk (Or.inl h)))))) (by omega) (by omega) (by omega) hE)
  · skip
    replace hE := zf_ip hE c9_2
    refine mm_g 1 (pc1 := 13) (lo1 := [some (.ref 137)]) (st1 := [.int (Int32.ofInt (-1))]) (H1 := mz_mk g1 x) rfl ?_
    exact mm_rt rfl rfl (hQ _ _ hIg1 (fun k j hk => (hug1.2 k j (fun h => hk (Or.inl h)))) (by decide) (by decide) (by have h9 := (show g1 137 30 = (g 137 30) from ((hug1.2 137 30 (fun h => absurd h.2 (by decide))).trans rfl)); omega) hE)
def fl_X12_nearest_22 (x : mm_X) (a1 : Int) (a2 : Int) : Nat → Nat → Prop := fun k j => k = 158 ∨ (k = 137 ∧ j = 37) ∨ k = 159
def fw_X12_nearest (x : mm_X) (a1 : Int) (a2 : Int) : Nat → Nat → Prop := fun k j => k = 157 ∨ (k = 137 ∧ j = 36) ∨ k = 158 ∨ (k = 137 ∧ j = 37) ∨ k = 159
theorem f_X12_nearest {d : Nat} (hd : 13 ≤ d) {x : mm_X} (hx : mk_x x) {g : mz_G} (hI : mz_inv g) {a1 : Int} (l_a1 : 0 ≤ a1) (u_a1 : a1 ≤ 5) {a2 : Int} (l_a2 : 0 ≤ a2) (u_a2 : a2 ≤ 1) {Q : (Option Value ⊕ Nat) → mm_H → Prop} (hQ : ∀ (r : Int) (g1 : mz_G), mz_inv g1 → mz_fr (fw_X12_nearest x a1 a2) g g1 → (-2147483648) ≤ r → r ≤ 100000 → zf_E (zF_X12_nearest a1 a2 g) ((r, g1)) → Q (.inl (some (.int (Int32.ofInt r)))) (mz_mk g1 x)) : mm_C d 257 [.ref 137, .int (Int32.ofInt a1), .int (Int32.ofInt a2)] (mz_mk g x) Q := by
  refine ⟨mmX12_nearest, [some (.ref 137), some (.int (Int32.ofInt a1)), some (.int (Int32.ofInt a2)), none, none, none, none], rfl, rfl, ?_⟩
  have hE : zf_E (zF_X12_nearest a1 a2 g) (zF_X12_nearest a1 a2 g) := zf_rf
  refine mm_g 2 (pc1 := 2) (lo1 := [some (.ref 137), some (.int (Int32.ofInt a1)), some (.int (Int32.ofInt a2)), some (.int (Int32.ofInt (-1))), none, none, none]) (st1 := []) (H1 := mz_mk g x) rfl ?_
  refine mz_ldcI (c := 100000) rfl rfl rfl ?_
  refine mm_g 4 (pc1 := 9) (lo1 := [some (.ref 137), some (.int (Int32.ofInt a1)), some (.int (Int32.ofInt a2)), some (.int (Int32.ofInt (-1))), some (.int (Int32.ofInt 100000)), none, none]) (st1 := [.ref 137, .ref 137, .ref 137]) (H1 := mz_mk g x) rfl ?_
  refine mz_fgR (v := 157) rfl fd_12_88 (by decide) (sc_137 _) (rf_137_33 _ _ _) ?_
  refine mm_g 1 (pc1 := 13) (lo1 := [some (.ref 137), some (.int (Int32.ofInt a1)), some (.int (Int32.ofInt a2)), some (.int (Int32.ofInt (-1))), some (.int (Int32.ofInt 100000)), none, none]) (st1 := [.int (Int32.ofInt a1), .ref 157, .ref 137, .ref 137]) (H1 := mz_mk g x) rfl ?_
  refine mz_cv rfl mt_12_424 (by decide) (sc_137 _) rfl (Nat.le_of_ble_eq_true rfl) (by omega) (f_X12_blendInto (by omega) hx hI (sh_157 _) (by decide) ba_157 l_a1 u_a1 (by omega) (fun v1 g2 hIg2 hfg2 l_v1 u_v1 hc3 => ⟨_, rfl, ?_⟩))
  show mm_W d mmX12_nearest 16 [some (.ref 137), some (.int (Int32.ofInt a1)), some (.int (Int32.ofInt a2)), some (.int (Int32.ofInt (-1))), some (.int (Int32.ofInt 100000)), none, none] [.int (Int32.ofInt v1), .ref 137] (mz_mk g2 x) Q
  replace hE := zf_t2 hE hc3
  refine mz_pI rfl fd_12_323 (sc_137 _) hIg2 bd_137_36 (by omega) (by omega) (fun g4 hIg4 hug4 => ?_)
  replace hE := zf_tr hE (zf_lg hug4)
  refine mm_g 2 (pc1 := 22) (lo1 := [some (.ref 137), some (.int (Int32.ofInt a1)), some (.int (Int32.ofInt a2)), some (.int (Int32.ofInt (-1))), some (.int (Int32.ofInt 100000)), some (.int (Int32.ofInt 0)), none]) (st1 := []) (H1 := mz_mk g4 x) rfl ?_
  have L12 : ∀ n11 : Nat, ∀ (v5 : Int) (v6 : Int) (v7 : Int) (o8 : Option Value) (g9 : mz_G), (8 - v7).toNat = n11 → (-1) ≤ v5 → v5 ≤ 16 → (-2147483648) ≤ v6 → v6 ≤ 100000 → 0 ≤ v7 → v7 ≤ 8 → mz_nl o8 → mz_inv g9 → mz_fr (fl_X12_nearest_22 x a1 a2) g4 g9 → (∃ fk : Nat, (8 - v7).toNat < fk ∧ zf_E (zF_X12_nearest a1 a2 g) (zL_X12_nearest_22 a1 a2 fk v5 v6 v7 g9)) → mm_W d mmX12_nearest 22 [some (.ref 137), some (.int (Int32.ofInt a1)), some (.int (Int32.ofInt a2)), some (.int (Int32.ofInt v5)), some (.int (Int32.ofInt v6)), some (.int (Int32.ofInt v7)), o8] [] (mz_mk g9 x) Q := by
    intro n11
    induction n11 using Nat.strongRecOn with
    | ind n11 ih10 =>
    intro v5 v6 v7 o8 g9 hmn11 l_v5 u_v5 l_v6 u_v6 l_v7 u_v7 h_o8 hIg9 hfg9 hF
    obtain ⟨fk, fl, hE⟩ := hF
    obtain ⟨fj13, rfl⟩ : ∃ fj, fk = fj + 1 := ⟨fk - 1, by omega⟩
    have fn14 : n11 ≤ fj13 := by omega
    replace hE := zf_tr hE zL_X12_nearest_22_s
    refine mm_g 2 (pc1 := 25) (lo1 := [some (.ref 137), some (.int (Int32.ofInt a1)), some (.int (Int32.ofInt a2)), some (.int (Int32.ofInt v5)), some (.int (Int32.ofInt v6)), some (.int (Int32.ofInt v7)), o8]) (st1 := [.ref 137, .int (Int32.ofInt v7)]) (H1 := mz_mk g9 x) rfl ?_
    refine mz_fgR (v := 140) rfl fd_12_36 (by decide) (sc_137 _) (rf_137_3 _ _ _) ?_
    refine mm_g 1 (pc1 := 29) (lo1 := [some (.ref 137), some (.int (Int32.ofInt a1)), some (.int (Int32.ofInt a2)), some (.int (Int32.ofInt v5)), some (.int (Int32.ofInt v6)), some (.int (Int32.ofInt v7)), o8]) (st1 := [.int (Int32.ofInt 0), .ref 140, .int (Int32.ofInt v7)]) (H1 := mz_mk g9 x) rfl ?_
    refine mz_aI rfl (sh_140 _) (by omega) (by omega) (by decide) hIg9 bt_140_0 (fun v15 e_v15 l_v15 u_v15 => ?_)
    have e_v15 : g9 140 0 = v15 := e_v15
    replace hE := zf_tr hE (zf_le e_v15)
    refine mz_ic_ge (tgt := 77) rfl rfl (mz_rg l_v7 u_v7) (mz_rg l_v15 u_v15) (fun c30_15 => ?_) (fun c30_15 => ?_)
    · skip
      replace hE := zf_nl hE c30_15
      refine mm_g 1 (pc1 := 78) (lo1 := [some (.ref 137), some (.int (Int32.ofInt a1)), some (.int (Int32.ofInt a2)), some (.int (Int32.ofInt v5)), some (.int (Int32.ofInt v6)), some (.int (Int32.ofInt v7)), o8]) (st1 := [.int (Int32.ofInt a2)]) (H1 := mz_mk g9 x) rfl ?_
      refine mz_if_eq (tgt := 85) rfl rfl (mz_rg l_a2 u_a2) (fun c78_15 => ?_) (fun c78_15 => ?_)
      · skip
        replace hE := zf_ip hE c78_15
        refine mm_g 1 (pc1 := 87) (lo1 := [some (.ref 137), some (.int (Int32.ofInt a1)), some (.int (Int32.ofInt a2)), some (.int (Int32.ofInt v5)), some (.int (Int32.ofInt v6)), some (.int (Int32.ofInt v7)), o8]) (st1 := [.int (Int32.ofInt v6)]) (H1 := mz_mk g9 x) rfl ?_
        exact mm_rt rfl rfl (hQ _ _ hIg9 (fun k j hk => ((hfg9 k j (fun h => hk (Or.elim h (fun h => (Or.inr (Or.inr (Or.inl h)))) (fun h => (Or.elim h (fun h => (Or.inr (Or.inr (Or.inr (Or.inl h))))) (fun h => (Or.inr (Or.inr (Or.inr (Or.inr h)))))))))).trans ((hug4.2 k j (fun h => hk (Or.inr (Or.inl h)))).trans (hfg2 k j (fun h => hk (Or.inl h)))))) (by omega) (by omega) hE)
      · skip
        replace hE := zf_in hE c78_15
        refine mm_g 1 (pc1 := 82) (lo1 := [some (.ref 137), some (.int (Int32.ofInt a1)), some (.int (Int32.ofInt a2)), some (.int (Int32.ofInt v5)), some (.int (Int32.ofInt v6)), some (.int (Int32.ofInt v7)), o8]) (st1 := [.int (Int32.ofInt v5)]) (H1 := mz_mk g9 x) rfl ?_
        refine mz_gt (tgt := 87) rfl rfl ?_
        exact mm_rt rfl rfl (hQ _ _ hIg9 (fun k j hk => ((hfg9 k j (fun h => hk (Or.elim h (fun h => (Or.inr (Or.inr (Or.inl h)))) (fun h => (Or.elim h (fun h => (Or.inr (Or.inr (Or.inr (Or.inl h))))) (fun h => (Or.inr (Or.inr (Or.inr (Or.inr h)))))))))).trans ((hug4.2 k j (fun h => hk (Or.inr (Or.inl h)))).trans (hfg2 k j (fun h => hk (Or.inl h)))))) (by omega) (by omega) hE)
    · skip
      replace hE := zf_ip hE c30_15
      refine mm_g 3 (pc1 := 36) (lo1 := [some (.ref 137), some (.int (Int32.ofInt a1)), some (.int (Int32.ofInt a2)), some (.int (Int32.ofInt v5)), some (.int (Int32.ofInt v6)), some (.int (Int32.ofInt v7)), o8]) (st1 := [.ref 137, .ref 137, .ref 137]) (H1 := mz_mk g9 x) rfl ?_
      refine mz_fgR (v := 158) rfl fd_12_91 (by decide) (sc_137 _) (rf_137_34 _ _ _) ?_
      refine mm_g 1 (pc1 := 41) (lo1 := [some (.ref 137), some (.int (Int32.ofInt a1)), some (.int (Int32.ofInt a2)), some (.int (Int32.ofInt v5)), some (.int (Int32.ofInt v6)), some (.int (Int32.ofInt v7)), o8]) (st1 := [.int (Int32.ofInt v7), .ref 158, .ref 137, .ref 137]) (H1 := mz_mk g9 x) rfl ?_
      refine mz_cv rfl mt_12_336 (by decide) (sc_137 _) rfl (Nat.le_of_ble_eq_true rfl) (by omega) (f_X12_wordInto (by omega) hx hIg9 (sh_158 _) (by decide) ba_158 (by omega) (by omega) (by omega) (fun v16 g17 hIg17 hfg17 l_v16 u_v16 hc18 => ⟨_, rfl, ?_⟩))
      show mm_W d mmX12_nearest 44 [some (.ref 137), some (.int (Int32.ofInt a1)), some (.int (Int32.ofInt a2)), some (.int (Int32.ofInt v5)), some (.int (Int32.ofInt v6)), some (.int (Int32.ofInt v7)), o8] [.int (Int32.ofInt v16), .ref 137] (mz_mk g17 x) Q
      replace hE := zf_t2 hE hc18
      refine mz_pI rfl fd_12_326 (sc_137 _) hIg17 bd_137_37 (by omega) (by omega) (fun g19 hIg19 hug19 => ?_)
      replace hE := zf_tr hE (zf_lg hug19)
      refine mm_g 2 (pc1 := 49) (lo1 := [some (.ref 137), some (.int (Int32.ofInt a1)), some (.int (Int32.ofInt a2)), some (.int (Int32.ofInt v5)), some (.int (Int32.ofInt v6)), some (.int (Int32.ofInt v7)), o8]) (st1 := [.int (Int32.ofInt 1), .ref 137]) (H1 := mz_mk g19 x) rfl ?_
      refine mz_cv rfl mt_12_427 (by decide) (sc_137 _) rfl (Nat.le_of_ble_eq_true rfl) (by omega) (f_X12_compared (by omega) hx hIg19 (by decide) (by decide) (fun v20 g21 hIg21 hfg21 l_v20 u_v20 hc22 => ⟨_, rfl, ?_⟩))
      show mm_W d mmX12_nearest 52 [some (.ref 137), some (.int (Int32.ofInt a1)), some (.int (Int32.ofInt a2)), some (.int (Int32.ofInt v5)), some (.int (Int32.ofInt v6)), some (.int (Int32.ofInt v7)), o8] [.int (Int32.ofInt v20)] (mz_mk g21 x) Q
      replace hE := zf_t2 hE hc22
      refine mm_g 3 (pc1 := 58) (lo1 := [some (.ref 137), some (.int (Int32.ofInt a1)), some (.int (Int32.ofInt a2)), some (.int (Int32.ofInt v5)), some (.int (Int32.ofInt v6)), some (.int (Int32.ofInt v7)), some (.int (Int32.ofInt v20))]) (st1 := [.int (Int32.ofInt v6), .int (Int32.ofInt v20)]) (H1 := mz_mk g21 x) rfl ?_
      refine mz_ic_lt (tgt := 64) rfl rfl (mz_rg l_v20 u_v20) (mz_rg l_v6 u_v6) (fun c58_22 => ?_) (fun c58_22 => ?_)
      · skip
        replace hE := zf_ip hE c58_22
        refine mm_g 4 (pc1 := 71) (lo1 := [some (.ref 137), some (.int (Int32.ofInt a1)), some (.int (Int32.ofInt a2)), some (.int (Int32.ofInt v7)), some (.int (Int32.ofInt v20)), some (.int (Int32.ofInt v7)), some (.int (Int32.ofInt v20))]) (st1 := []) (H1 := mz_mk g21 x) rfl ?_
        refine mz_iincR (v := v7) (lo2 := [some (.ref 137), some (.int (Int32.ofInt a1)), some (.int (Int32.ofInt a2)), some (.int (Int32.ofInt v7)), some (.int (Int32.ofInt v20)), some (.int (Int32.ofInt (v7 + 1))), some (.int (Int32.ofInt v20))]) rfl rfl rfl (Nat.le_of_ble_eq_true rfl) rfl ?_
        refine mz_gt (tgt := 22) rfl rfl ?_
        exact ih10 ((8 - (v7 + 1)).toNat) (by omega) v7 v20 (v7 + 1) (some (.int (Int32.ofInt v20))) g21 rfl (by omega) (by omega) (by omega) (by omega) (by omega) (by omega) (mz_nl_i _) hIg21 (fun k j hk => ((hfg21 k j (fun h => hk (Or.inr (Or.inr h)))).trans ((hug19.2 k j (fun h => hk (Or.inr (Or.inl h)))).trans ((hfg17 k j (fun h => hk (Or.inl h))).trans (hfg9 k j (fun h => hk (Or.elim h (fun h => (Or.inl h)) (fun h => (Or.elim h (fun h => (Or.inr (Or.inl h))) (fun h => (Or.inr (Or.inr h)))))))))))) ⟨fj13, Nat.lt_of_lt_of_le (show ((8 - (v7 + 1)).toNat) < n11 from (by omega)) fn14, hE⟩
      · skip
        replace hE := zf_nl hE c58_22
        refine mz_gt (tgt := 71) rfl rfl ?_
        refine mz_iincR (v := v7) (lo2 := [some (.ref 137), some (.int (Int32.ofInt a1)), some (.int (Int32.ofInt a2)), some (.int (Int32.ofInt v5)), some (.int (Int32.ofInt v6)), some (.int (Int32.ofInt (v7 + 1))), some (.int (Int32.ofInt v20))]) rfl rfl rfl (Nat.le_of_ble_eq_true rfl) rfl ?_
        refine mz_gt (tgt := 22) rfl rfl ?_
        exact ih10 ((8 - (v7 + 1)).toNat) (by omega) v5 v6 (v7 + 1) (some (.int (Int32.ofInt v20))) g21 rfl (by omega) (by omega) (by omega) (by omega) (by omega) (by omega) (mz_nl_i _) hIg21 (fun k j hk => ((hfg21 k j (fun h => hk (Or.inr (Or.inr h)))).trans ((hug19.2 k j (fun h => hk (Or.inr (Or.inl h)))).trans ((hfg17 k j (fun h => hk (Or.inl h))).trans (hfg9 k j (fun h => hk (Or.elim h (fun h => (Or.inl h)) (fun h => (Or.elim h (fun h => (Or.inr (Or.inl h))) (fun h => (Or.inr (Or.inr h)))))))))))) ⟨fj13, Nat.lt_of_lt_of_le (show ((8 - (v7 + 1)).toNat) < n11 from (by omega)) fn14, hE⟩
  exact L12 _ (-1) 100000 0 none g4 rfl (by decide) (by decide) (by decide) (by decide) (by decide) (by decide) mz_nl_n hIg4 (fun _ _ _ => rfl) ⟨3000000000, by omega, hE⟩
def fw_X12_then (x : mm_X) (a1 : Int) (a2 : Int) (a3 : Int) : Nat → Nat → Prop := fun k j => (k = 137 ∧ j = 2) ∨ k = 162 ∨ (k = 160 ∧ j = 0) ∨ (k = 160 ∧ j = 1) ∨ (k = 160 ∧ j = 2) ∨ (k = 160 ∧ j = 3) ∨ (k = 160 ∧ j = 4) ∨ (k = 160 ∧ j = 5) ∨ (k = 160 ∧ j = 6) ∨ k = 161 ∨ k = 152 ∨ (k = 137 ∧ j = 30) ∨ k = 157 ∨ (k = 137 ∧ j = 36) ∨ k = 158 ∨ (k = 137 ∧ j = 37) ∨ k = 159 ∨ k = 153 ∨ k = 154 ∨ k = 155
theorem f_X12_then {d : Nat} (hd : 16 ≤ d) {x : mm_X} (hx : mk_x x) {g : mz_G} (hI : mz_inv g) {a1 : Int} (l_a1 : (-2147483648) ≤ a1) (u_a1 : a1 ≤ 2147483647) {a2 : Int} (l_a2 : (-2147483648) ≤ a2) (u_a2 : a2 ≤ 2147483647) {a3 : Int} (l_a3 : (-2147483648) ≤ a3) (u_a3 : a3 ≤ 2147483647) (p1 : mz_pv g) (p2 : g 137 30 ≤ 999) {Q : (Option Value ⊕ Nat) → mm_H → Prop} (hQ : ∀ (r : Int) (g1 : mz_G), mz_inv g1 → mz_fr (fw_X12_then x a1 a2 a3) g g1 → (-2147483648) ≤ r → r ≤ 100000 → (g1 137 30 ≤ 999) → zf_E (zF_X12_then a1 a2 a3 g) ((r, g1)) → Q (.inl (some (.int (Int32.ofInt r)))) (mz_mk g1 x)) : mm_C d 258 [.ref 137, .int (Int32.ofInt a1), .int (Int32.ofInt a2), .int (Int32.ofInt a3)] (mz_mk g x) Q := by
  refine ⟨mmX12_then, [some (.ref 137), some (.int (Int32.ofInt a1)), some (.int (Int32.ofInt a2)), some (.int (Int32.ofInt a3)), none], rfl, rfl, ?_⟩
  have bz0 := mz_rd hI bd_137_30
  have hpv := p1
  have hE : zf_E (zF_X12_then a1 a2 a3 g) (zF_X12_then a1 a2 a3 g) := zf_rf
  refine mm_g 2 (pc1 := 2) (lo1 := [some (.ref 137), some (.int (Int32.ofInt a1)), some (.int (Int32.ofInt a2)), some (.int (Int32.ofInt a3)), none]) (st1 := [.int (Int32.ofInt 0), .ref 137]) (H1 := mz_mk g x) rfl ?_
  refine mz_pI rfl fd_12_154 (sc_137 _) hI bd_137_2 (by omega) (by omega) (fun g1 hIg1 hug1 => ?_)
  replace hE := zf_tr hE (zf_lg hug1)
  refine mm_g 2 (pc1 := 7) (lo1 := [some (.ref 137), some (.int (Int32.ofInt a1)), some (.int (Int32.ofInt a2)), some (.int (Int32.ofInt a3)), none]) (st1 := [.int (Int32.ofInt a1), .ref 137]) (H1 := mz_mk g1 x) rfl ?_
  refine mz_cv rfl mt_12_391 (by decide) (sc_137 _) rfl (Nat.le_of_ble_eq_true rfl) (by omega) (f_X12_isTrunk (by omega) hx hIg1 l_a1 u_a1 (fun v2 l_v2 u_v2 hp3 hp4 hc5 => ⟨_, rfl, ?_⟩))
  show mm_W d mmX12_then 10 [some (.ref 137), some (.int (Int32.ofInt a1)), some (.int (Int32.ofInt a2)), some (.int (Int32.ofInt a3)), none] [.int (Int32.ofInt v2)] (mz_mk g1 x) Q
  replace hE := zf_t1 hE hc5
  refine mz_if_eq (tgt := 25) rfl rfl (mz_rg l_v2 u_v2) (fun c10_5 => ?_) (fun c10_5 => ?_)
  · skip
    replace hE := zf_ip hE c10_5
    refine mm_g 2 (pc1 := 27) (lo1 := [some (.ref 137), some (.int (Int32.ofInt a1)), some (.int (Int32.ofInt a2)), some (.int (Int32.ofInt a3)), none]) (st1 := [.int (Int32.ofInt 1), .ref 137]) (H1 := mz_mk g1 x) rfl ?_
    refine mz_cv rfl mt_12_294 (by decide) (sc_137 _) rfl (Nat.le_of_ble_eq_true rfl) (by omega) (f_X12_fail (by omega) hx hIg1 (by decide) (by decide) (fun v6 g7 hIg7 hfg7 l_v6 u_v6 hc8 => ⟨_, rfl, ?_⟩))
    show mm_W d mmX12_then 30 [some (.ref 137), some (.int (Int32.ofInt a1)), some (.int (Int32.ofInt a2)), some (.int (Int32.ofInt a3)), none] [.int (Int32.ofInt v6)] (mz_mk g7 x) Q
    replace hE := zf_t2 hE hc8
    exact mm_rt rfl rfl (hQ _ _ hIg7 (fun k j hk => ((hfg7 k j (fun h => hk (Or.inl h))).trans (hug1.2 k j (fun h => hk (Or.inl h))))) (by omega) (by omega) (by have h9 := (show g7 137 30 = (g 137 30) from ((hfg7 137 30 (fun h => (absurd (show (137 = 137 ∧ 30 = 2) from h) (by decide)))).trans ((hug1.2 137 30 (fun h => absurd h.2 (by decide))).trans rfl))); omega) hE)
  · skip
    replace hE := zf_in hE c10_5
    refine mm_g 1 (pc1 := 14) (lo1 := [some (.ref 137), some (.int (Int32.ofInt a1)), some (.int (Int32.ofInt a2)), some (.int (Int32.ofInt a3)), none]) (st1 := [.int (Int32.ofInt a3)]) (H1 := mz_mk g1 x) rfl ?_
    refine mz_i2l rfl (mz_rg l_a3 u_a3) ?_
    refine mz_lcst (c := 0) rfl rfl ?_
    refine mz_l2w (c := 3) rfl rfl rfl ?_
    refine mz_cs rfl mt_12_157 (by decide) rfl (Nat.le_of_ble_eq_true rfl) (by omega) (f_X12_isIn (by omega) hx hIg1 (by omega) (by omega) (by omega) (by omega) (by omega) (by omega) (fun v9 l_v9 u_v9 hp10 hc11 => ⟨_, rfl, ?_⟩))
    show mm_W d mmX12_then 22 [some (.ref 137), some (.int (Int32.ofInt a1)), some (.int (Int32.ofInt a2)), some (.int (Int32.ofInt a3)), none] [.int (Int32.ofInt v9)] (mz_mk g1 x) Q
    replace hE := zf_t1 hE hc11
    refine mz_if_ne (tgt := 31) rfl rfl (mz_rg l_v9 u_v9) (fun c22_11 => ?_) (fun c22_11 => ?_)
    · skip
      replace hE := zf_in hE c22_11
      refine mm_g 1 (pc1 := 32) (lo1 := [some (.ref 137), some (.int (Int32.ofInt a1)), some (.int (Int32.ofInt a2)), some (.int (Int32.ofInt a3)), none]) (st1 := [.int (Int32.ofInt a2)]) (H1 := mz_mk g1 x) rfl ?_
      refine mz_i2l rfl (mz_rg l_a2 u_a2) ?_
      refine mz_lcst (c := 0) rfl rfl ?_
      refine mz_l2w (c := 60) rfl rfl rfl ?_
      refine mz_cs rfl mt_12_157 (by decide) rfl (Nat.le_of_ble_eq_true rfl) (by omega) (f_X12_isIn (by omega) hx hIg1 (by omega) (by omega) (by omega) (by omega) (by omega) (by omega) (fun v12 l_v12 u_v12 hp13 hc14 => ⟨_, rfl, ?_⟩))
      show mm_W d mmX12_then 40 [some (.ref 137), some (.int (Int32.ofInt a1)), some (.int (Int32.ofInt a2)), some (.int (Int32.ofInt a3)), none] [.int (Int32.ofInt v12)] (mz_mk g1 x) Q
      replace hE := zf_t1 hE hc14
      refine mz_if_ne (tgt := 49) rfl rfl (mz_rg l_v12 u_v12) (fun c40_14 => ?_) (fun c40_14 => ?_)
      · skip
        replace hE := zf_in hE c40_14
        refine mm_g 2 (pc1 := 51) (lo1 := [some (.ref 137), some (.int (Int32.ofInt a1)), some (.int (Int32.ofInt a2)), some (.int (Int32.ofInt a3)), none]) (st1 := [.ref 137, .ref 137]) (H1 := mz_mk g1 x) rfl ?_
        refine mz_fgR (v := 162) rfl fd_12_103 (by decide) (sc_137 _) (rf_137_40 _ _ _) ?_
        refine mm_g 1 (pc1 := 55) (lo1 := [some (.ref 137), some (.int (Int32.ofInt a1)), some (.int (Int32.ofInt a2)), some (.int (Int32.ofInt a3)), none]) (st1 := [.int (Int32.ofInt 0), .ref 162, .ref 137]) (H1 := mz_mk g1 x) rfl ?_
        refine mz_cv rfl mt_12_397 (by decide) (sc_137 _) rfl (Nat.le_of_ble_eq_true rfl) (by omega) (f_X12_store (by omega) hx hIg1 rwp_162 (by decide) (by decide) (by omega) (by omega) (by have h9 := (show g1 137 30 = (g 137 30) from ((hug1.2 137 30 (fun h => absurd h.2 (by decide))).trans rfl)); omega) (fun g15 hIg15 hfg15 hc16 => ⟨_, rfl, ?_⟩))
        show mm_W d mmX12_then 58 [some (.ref 137), some (.int (Int32.ofInt a1)), some (.int (Int32.ofInt a2)), some (.int (Int32.ofInt a3)), none] [] (mz_mk g15 x) Q
        replace hE := zf_t1 hE hc16
        refine mm_g 2 (pc1 := 60) (lo1 := [some (.ref 137), some (.int (Int32.ofInt a1)), some (.int (Int32.ofInt a2)), some (.int (Int32.ofInt a3)), none]) (st1 := [.int (Int32.ofInt a2), .ref 137]) (H1 := mz_mk g15 x) rfl ?_
        have hq17 : g15 137 30 = (g 137 30) := (show g15 137 30 = (g 137 30) from ((hfg15 137 30 (fun h => (absurd (show 137 = 162 from h) (by decide)))).trans ((hug1.2 137 30 (fun h => absurd h.2 (by decide))).trans rfl)))
        refine mz_cv rfl mt_12_409 (by decide) (sc_137 _) rfl (Nat.le_of_ble_eq_true rfl) (by omega) (f_X12_goOn (by omega) hx hIg15 (by omega) (by omega) (mz_pv_fr hpv (fun _j => ((hfg15 149 _j (fun h => (absurd (show 149 = 162 from h) (by decide)))).trans ((hug1.2 149 _j (fun h => absurd h.1 (by decide))).trans rfl))) ((hfg15 140 3 (fun h => (absurd (show 140 = 162 from h) (by decide)))).trans ((hug1.2 140 3 (fun h => absurd h.1 (by decide))).trans rfl))) (by have h9 := (show g15 137 30 = (g 137 30) from ((hfg15 137 30 (fun h => (absurd (show 137 = 162 from h) (by decide)))).trans ((hug1.2 137 30 (fun h => absurd h.2 (by decide))).trans rfl))); omega) (fun g18 hIg18 hfg18 hp19 hc20 => ⟨_, rfl, ?_⟩))
        show mm_W d mmX12_then 63 [some (.ref 137), some (.int (Int32.ofInt a1)), some (.int (Int32.ofInt a2)), some (.int (Int32.ofInt a3)), none] [] (mz_mk g18 x) Q
        replace hE := zf_t1 hE hc20
        refine mm_g 1 (pc1 := 64) (lo1 := [some (.ref 137), some (.int (Int32.ofInt a1)), some (.int (Int32.ofInt a2)), some (.int (Int32.ofInt a3)), none]) (st1 := [.int (Int32.ofInt a3)]) (H1 := mz_mk g18 x) rfl ?_
        refine mz_if_ne (tgt := 76) rfl rfl (mz_rg l_a3 u_a3) (fun c64_20 => ?_) (fun c64_20 => ?_)
        · skip
          replace hE := zf_in hE c64_20
          refine mm_g 2 (pc1 := 78) (lo1 := [some (.ref 137), some (.int (Int32.ofInt a1)), some (.int (Int32.ofInt a2)), some (.int (Int32.ofInt a3)), none]) (st1 := [.int (Int32.ofInt 1), .int (Int32.ofInt a3)]) (H1 := mz_mk g18 x) rfl ?_
          refine mz_ic_ne (tgt := 89) rfl rfl (mz_rg l_a3 u_a3) ⟨by decide, by decide⟩ (fun c78_20 => ?_) (fun c78_20 => ?_)
          · skip
            replace hE := zf_in hE c78_20
            refine mm_g 4 (pc1 := 93) (lo1 := [some (.ref 137), some (.int (Int32.ofInt a1)), some (.int (Int32.ofInt a2)), some (.int (Int32.ofInt a3)), none]) (st1 := [.int (Int32.ofInt 2), .int (Int32.ofInt a3), .int (Int32.ofInt a1), .ref 137]) (H1 := mz_mk g18 x) rfl ?_
            refine mz_ic_ne (tgt := 100) rfl rfl (mz_rg l_a3 u_a3) ⟨by decide, by decide⟩ (fun c93_20 => ?_) (fun c93_20 => ?_)
            · skip
              replace hE := zf_in hE c93_20
              refine mm_g 1 (pc1 := 101) (lo1 := [some (.ref 137), some (.int (Int32.ofInt a1)), some (.int (Int32.ofInt a2)), some (.int (Int32.ofInt a3)), none]) (st1 := [.int (Int32.ofInt 0), .int (Int32.ofInt a1), .ref 137]) (H1 := mz_mk g18 x) rfl ?_
              refine mz_cv rfl mt_12_435 (by decide) (sc_137 _) rfl (Nat.le_of_ble_eq_true rfl) (by omega) (f_X12_nearest (by omega) hx hIg18 (by omega) (by omega) (by decide) (by decide) (fun v21 g22 hIg22 hfg22 l_v21 u_v21 hc23 => ⟨_, rfl, ?_⟩))
              show mm_W d mmX12_then 104 [some (.ref 137), some (.int (Int32.ofInt a1)), some (.int (Int32.ofInt a2)), some (.int (Int32.ofInt a3)), none] [.int (Int32.ofInt v21)] (mz_mk g22 x) Q
              replace hE := zf_t2 hE hc23
              refine mm_g 3 (pc1 := 108) (lo1 := [some (.ref 137), some (.int (Int32.ofInt a1)), some (.int (Int32.ofInt a2)), some (.int (Int32.ofInt a3)), some (.int (Int32.ofInt v21))]) (st1 := [.ref 137, .ref 137]) (H1 := mz_mk g22 x) rfl ?_
              refine mz_fgR (v := 162) rfl fd_12_103 (by decide) (sc_137 _) (rf_137_40 _ _ _) ?_
              refine mm_g 1 (pc1 := 112) (lo1 := [some (.ref 137), some (.int (Int32.ofInt a1)), some (.int (Int32.ofInt a2)), some (.int (Int32.ofInt a3)), some (.int (Int32.ofInt v21))]) (st1 := [.int (Int32.ofInt 0), .ref 162, .ref 137]) (H1 := mz_mk g22 x) rfl ?_
              refine mz_cv rfl mt_12_421 (by decide) (sc_137 _) rfl (Nat.le_of_ble_eq_true rfl) (by omega) (f_X12_recall (by omega) hx hIg22 rwp_162 (by decide) (by decide) (by omega) (by omega) (fun g24 hIg24 hfg24 hp25 hc26 => ⟨_, rfl, ?_⟩))
              show mm_W d mmX12_then 115 [some (.ref 137), some (.int (Int32.ofInt a1)), some (.int (Int32.ofInt a2)), some (.int (Int32.ofInt a3)), some (.int (Int32.ofInt v21))] [] (mz_mk g24 x) Q
              replace hE := zf_t1 hE hc26
              refine mm_g 1 (pc1 := 117) (lo1 := [some (.ref 137), some (.int (Int32.ofInt a1)), some (.int (Int32.ofInt a2)), some (.int (Int32.ofInt a3)), some (.int (Int32.ofInt v21))]) (st1 := [.int (Int32.ofInt v21)]) (H1 := mz_mk g24 x) rfl ?_
              exact mm_rt rfl rfl (hQ _ _ hIg24 (fun k j hk => ((hfg24 k j (fun h => hk (Or.elim h (fun h => (Or.inr (Or.inr (Or.inr (Or.inr (Or.inr (Or.inr (Or.inr (Or.inr (Or.inr (Or.inr (Or.inr (Or.inl h))))))))))))) (fun h => (Or.elim h (fun h => (Or.inr (Or.inr (Or.inr (Or.inr (Or.inr (Or.inr (Or.inr (Or.inr (Or.inr (Or.inr (Or.inl h)))))))))))) (fun h => (Or.elim h (fun h => (Or.inr (Or.inr (Or.inr (Or.inr (Or.inr (Or.inr (Or.inr (Or.inr (Or.inr (Or.inr (Or.inr (Or.inr (Or.inr (Or.inr (Or.inr (Or.inr (Or.inr (Or.inl h))))))))))))))))))) (fun h => (Or.elim h (fun h => (Or.inr (Or.inr (Or.inr (Or.inr (Or.inr (Or.inr (Or.inr (Or.inr (Or.inr (Or.inr (Or.inr (Or.inr (Or.inr (Or.inr (Or.inr (Or.inr (Or.inr (Or.inr (Or.inl h)))))))))))))))))))) (fun h => (Or.inr (Or.inr (Or.inr (Or.inr (Or.inr (Or.inr (Or.inr (Or.inr (Or.inr (Or.inr (Or.inr (Or.inr (Or.inr (Or.inr (Or.inr (Or.inr (Or.inr (Or.inr (Or.inr h))))))))))))))))))))))))))))).trans ((hfg22 k j (fun h => hk (Or.elim h (fun h => (Or.inr (Or.inr (Or.inr (Or.inr (Or.inr (Or.inr (Or.inr (Or.inr (Or.inr (Or.inr (Or.inr (Or.inr (Or.inl h)))))))))))))) (fun h => (Or.elim h (fun h => (Or.inr (Or.inr (Or.inr (Or.inr (Or.inr (Or.inr (Or.inr (Or.inr (Or.inr (Or.inr (Or.inr (Or.inr (Or.inr (Or.inl h))))))))))))))) (fun h => (Or.elim h (fun h => (Or.inr (Or.inr (Or.inr (Or.inr (Or.inr (Or.inr (Or.inr (Or.inr (Or.inr (Or.inr (Or.inr (Or.inr (Or.inr (Or.inr (Or.inl h)))))))))))))))) (fun h => (Or.elim h (fun h => (Or.inr (Or.inr (Or.inr (Or.inr (Or.inr (Or.inr (Or.inr (Or.inr (Or.inr (Or.inr (Or.inr (Or.inr (Or.inr (Or.inr (Or.inr (Or.inl h))))))))))))))))) (fun h => (Or.inr (Or.inr (Or.inr (Or.inr (Or.inr (Or.inr (Or.inr (Or.inr (Or.inr (Or.inr (Or.inr (Or.inr (Or.inr (Or.inr (Or.inr (Or.inr (Or.inl h))))))))))))))))))))))))))).trans ((hfg18 k j (fun h => hk (Or.elim h (fun h => (Or.inr (Or.inr (Or.inl h)))) (fun h => (Or.elim h (fun h => (Or.inr (Or.inr (Or.inr (Or.inl h))))) (fun h => (Or.elim h (fun h => (Or.inr (Or.inr (Or.inr (Or.inr (Or.inl h)))))) (fun h => (Or.elim h (fun h => (Or.inr (Or.inr (Or.inr (Or.inr (Or.inr (Or.inl h))))))) (fun h => (Or.elim h (fun h => (Or.inr (Or.inr (Or.inr (Or.inr (Or.inr (Or.inr (Or.inl h)))))))) (fun h => (Or.elim h (fun h => (Or.inr (Or.inr (Or.inr (Or.inr (Or.inr (Or.inr (Or.inr (Or.inl h))))))))) (fun h => (Or.elim h (fun h => (Or.inr (Or.inr (Or.inr (Or.inr (Or.inr (Or.inr (Or.inr (Or.inr (Or.inl h)))))))))) (fun h => (Or.elim h (fun h => (Or.inr (Or.inr (Or.inr (Or.inr (Or.inr (Or.inr (Or.inr (Or.inr (Or.inr (Or.inl h))))))))))) (fun h => (Or.elim h (fun h => (Or.inr (Or.inr (Or.inr (Or.inr (Or.inr (Or.inr (Or.inr (Or.inr (Or.inr (Or.inr (Or.inl h)))))))))))) (fun h => (Or.inr (Or.inr (Or.inr (Or.inr (Or.inr (Or.inr (Or.inr (Or.inr (Or.inr (Or.inr (Or.inr (Or.inl h)))))))))))))))))))))))))))))))).trans ((hfg15 k j (fun h => hk (Or.inr (Or.inl h)))).trans (hug1.2 k j (fun h => hk (Or.inl h)))))))) (by omega) (by omega) (by omega) hE)
            · skip
              replace hE := zf_ip hE c93_20
              refine mm_g 1 (pc1 := 97) (lo1 := [some (.ref 137), some (.int (Int32.ofInt a1)), some (.int (Int32.ofInt a2)), some (.int (Int32.ofInt a3)), none]) (st1 := [.int (Int32.ofInt 1), .int (Int32.ofInt a1), .ref 137]) (H1 := mz_mk g18 x) rfl ?_
              refine mz_gt (tgt := 101) rfl rfl ?_
              refine mz_cv rfl mt_12_435 (by decide) (sc_137 _) rfl (Nat.le_of_ble_eq_true rfl) (by omega) (f_X12_nearest (by omega) hx hIg18 (by omega) (by omega) (by decide) (by decide) (fun v27 g28 hIg28 hfg28 l_v27 u_v27 hc29 => ⟨_, rfl, ?_⟩))
              show mm_W d mmX12_then 104 [some (.ref 137), some (.int (Int32.ofInt a1)), some (.int (Int32.ofInt a2)), some (.int (Int32.ofInt a3)), none] [.int (Int32.ofInt v27)] (mz_mk g28 x) Q
              replace hE := zf_t2 hE hc29
              refine mm_g 3 (pc1 := 108) (lo1 := [some (.ref 137), some (.int (Int32.ofInt a1)), some (.int (Int32.ofInt a2)), some (.int (Int32.ofInt a3)), some (.int (Int32.ofInt v27))]) (st1 := [.ref 137, .ref 137]) (H1 := mz_mk g28 x) rfl ?_
              refine mz_fgR (v := 162) rfl fd_12_103 (by decide) (sc_137 _) (rf_137_40 _ _ _) ?_
              refine mm_g 1 (pc1 := 112) (lo1 := [some (.ref 137), some (.int (Int32.ofInt a1)), some (.int (Int32.ofInt a2)), some (.int (Int32.ofInt a3)), some (.int (Int32.ofInt v27))]) (st1 := [.int (Int32.ofInt 0), .ref 162, .ref 137]) (H1 := mz_mk g28 x) rfl ?_
              refine mz_cv rfl mt_12_421 (by decide) (sc_137 _) rfl (Nat.le_of_ble_eq_true rfl) (by omega) (f_X12_recall (by omega) hx hIg28 rwp_162 (by decide) (by decide) (by omega) (by omega) (fun g30 hIg30 hfg30 hp31 hc32 => ⟨_, rfl, ?_⟩))
              show mm_W d mmX12_then 115 [some (.ref 137), some (.int (Int32.ofInt a1)), some (.int (Int32.ofInt a2)), some (.int (Int32.ofInt a3)), some (.int (Int32.ofInt v27))] [] (mz_mk g30 x) Q
              replace hE := zf_t1 hE hc32
              refine mm_g 1 (pc1 := 117) (lo1 := [some (.ref 137), some (.int (Int32.ofInt a1)), some (.int (Int32.ofInt a2)), some (.int (Int32.ofInt a3)), some (.int (Int32.ofInt v27))]) (st1 := [.int (Int32.ofInt v27)]) (H1 := mz_mk g30 x) rfl ?_
              exact mm_rt rfl rfl (hQ _ _ hIg30 (fun k j hk => ((hfg30 k j (fun h => hk (Or.elim h (fun h => (Or.inr (Or.inr (Or.inr (Or.inr (Or.inr (Or.inr (Or.inr (Or.inr (Or.inr (Or.inr (Or.inr (Or.inl h))))))))))))) (fun h => (Or.elim h (fun h => (Or.inr (Or.inr (Or.inr (Or.inr (Or.inr (Or.inr (Or.inr (Or.inr (Or.inr (Or.inr (Or.inl h)))))))))))) (fun h => (Or.elim h (fun h => (Or.inr (Or.inr (Or.inr (Or.inr (Or.inr (Or.inr (Or.inr (Or.inr (Or.inr (Or.inr (Or.inr (Or.inr (Or.inr (Or.inr (Or.inr (Or.inr (Or.inr (Or.inl h))))))))))))))))))) (fun h => (Or.elim h (fun h => (Or.inr (Or.inr (Or.inr (Or.inr (Or.inr (Or.inr (Or.inr (Or.inr (Or.inr (Or.inr (Or.inr (Or.inr (Or.inr (Or.inr (Or.inr (Or.inr (Or.inr (Or.inr (Or.inl h)))))))))))))))))))) (fun h => (Or.inr (Or.inr (Or.inr (Or.inr (Or.inr (Or.inr (Or.inr (Or.inr (Or.inr (Or.inr (Or.inr (Or.inr (Or.inr (Or.inr (Or.inr (Or.inr (Or.inr (Or.inr (Or.inr h))))))))))))))))))))))))))))).trans ((hfg28 k j (fun h => hk (Or.elim h (fun h => (Or.inr (Or.inr (Or.inr (Or.inr (Or.inr (Or.inr (Or.inr (Or.inr (Or.inr (Or.inr (Or.inr (Or.inr (Or.inl h)))))))))))))) (fun h => (Or.elim h (fun h => (Or.inr (Or.inr (Or.inr (Or.inr (Or.inr (Or.inr (Or.inr (Or.inr (Or.inr (Or.inr (Or.inr (Or.inr (Or.inr (Or.inl h))))))))))))))) (fun h => (Or.elim h (fun h => (Or.inr (Or.inr (Or.inr (Or.inr (Or.inr (Or.inr (Or.inr (Or.inr (Or.inr (Or.inr (Or.inr (Or.inr (Or.inr (Or.inr (Or.inl h)))))))))))))))) (fun h => (Or.elim h (fun h => (Or.inr (Or.inr (Or.inr (Or.inr (Or.inr (Or.inr (Or.inr (Or.inr (Or.inr (Or.inr (Or.inr (Or.inr (Or.inr (Or.inr (Or.inr (Or.inl h))))))))))))))))) (fun h => (Or.inr (Or.inr (Or.inr (Or.inr (Or.inr (Or.inr (Or.inr (Or.inr (Or.inr (Or.inr (Or.inr (Or.inr (Or.inr (Or.inr (Or.inr (Or.inr (Or.inl h))))))))))))))))))))))))))).trans ((hfg18 k j (fun h => hk (Or.elim h (fun h => (Or.inr (Or.inr (Or.inl h)))) (fun h => (Or.elim h (fun h => (Or.inr (Or.inr (Or.inr (Or.inl h))))) (fun h => (Or.elim h (fun h => (Or.inr (Or.inr (Or.inr (Or.inr (Or.inl h)))))) (fun h => (Or.elim h (fun h => (Or.inr (Or.inr (Or.inr (Or.inr (Or.inr (Or.inl h))))))) (fun h => (Or.elim h (fun h => (Or.inr (Or.inr (Or.inr (Or.inr (Or.inr (Or.inr (Or.inl h)))))))) (fun h => (Or.elim h (fun h => (Or.inr (Or.inr (Or.inr (Or.inr (Or.inr (Or.inr (Or.inr (Or.inl h))))))))) (fun h => (Or.elim h (fun h => (Or.inr (Or.inr (Or.inr (Or.inr (Or.inr (Or.inr (Or.inr (Or.inr (Or.inl h)))))))))) (fun h => (Or.elim h (fun h => (Or.inr (Or.inr (Or.inr (Or.inr (Or.inr (Or.inr (Or.inr (Or.inr (Or.inr (Or.inl h))))))))))) (fun h => (Or.elim h (fun h => (Or.inr (Or.inr (Or.inr (Or.inr (Or.inr (Or.inr (Or.inr (Or.inr (Or.inr (Or.inr (Or.inl h)))))))))))) (fun h => (Or.inr (Or.inr (Or.inr (Or.inr (Or.inr (Or.inr (Or.inr (Or.inr (Or.inr (Or.inr (Or.inr (Or.inl h)))))))))))))))))))))))))))))))).trans ((hfg15 k j (fun h => hk (Or.inr (Or.inl h)))).trans (hug1.2 k j (fun h => hk (Or.inl h)))))))) (by omega) (by omega) (by omega) hE)
          · skip
            replace hE := zf_ip hE c78_20
            refine mm_g 2 (pc1 := 83) (lo1 := [some (.ref 137), some (.int (Int32.ofInt a1)), some (.int (Int32.ofInt a2)), some (.int (Int32.ofInt a3)), none]) (st1 := [.int (Int32.ofInt a1), .ref 137]) (H1 := mz_mk g18 x) rfl ?_
            refine mz_cv rfl mt_12_368 (by decide) (sc_137 _) rfl (Nat.le_of_ble_eq_true rfl) (by omega) (f_X12_blendSize (by omega) hx hIg18 (by omega) (by omega) (fun v33 l_v33 u_v33 hc34 => ⟨_, rfl, ?_⟩))
            show mm_W d mmX12_then 86 [some (.ref 137), some (.int (Int32.ofInt a1)), some (.int (Int32.ofInt a2)), some (.int (Int32.ofInt a3)), none] [.int (Int32.ofInt v33)] (mz_mk g18 x) Q
            replace hE := zf_t1 hE hc34
            refine mz_gt (tgt := 104) rfl rfl ?_
            refine mm_g 3 (pc1 := 108) (lo1 := [some (.ref 137), some (.int (Int32.ofInt a1)), some (.int (Int32.ofInt a2)), some (.int (Int32.ofInt a3)), some (.int (Int32.ofInt v33))]) (st1 := [.ref 137, .ref 137]) (H1 := mz_mk g18 x) rfl ?_
            refine mz_fgR (v := 162) rfl fd_12_103 (by decide) (sc_137 _) (rf_137_40 _ _ _) ?_
            refine mm_g 1 (pc1 := 112) (lo1 := [some (.ref 137), some (.int (Int32.ofInt a1)), some (.int (Int32.ofInt a2)), some (.int (Int32.ofInt a3)), some (.int (Int32.ofInt v33))]) (st1 := [.int (Int32.ofInt 0), .ref 162, .ref 137]) (H1 := mz_mk g18 x) rfl ?_
            refine mz_cv rfl mt_12_421 (by decide) (sc_137 _) rfl (Nat.le_of_ble_eq_true rfl) (by omega) (f_X12_recall (by omega) hx hIg18 rwp_162 (by decide) (by decide) (by omega) (by omega) (fun g35 hIg35 hfg35 hp36 hc37 => ⟨_, rfl, ?_⟩))
            show mm_W d mmX12_then 115 [some (.ref 137), some (.int (Int32.ofInt a1)), some (.int (Int32.ofInt a2)), some (.int (Int32.ofInt a3)), some (.int (Int32.ofInt v33))] [] (mz_mk g35 x) Q
            replace hE := zf_t1 hE hc37
            refine mm_g 1 (pc1 := 117) (lo1 := [some (.ref 137), some (.int (Int32.ofInt a1)), some (.int (Int32.ofInt a2)), some (.int (Int32.ofInt a3)), some (.int (Int32.ofInt v33))]) (st1 := [.int (Int32.ofInt v33)]) (H1 := mz_mk g35 x) rfl ?_
            exact mm_rt rfl rfl (hQ _ _ hIg35 (fun k j hk => ((hfg35 k j (fun h => hk (Or.elim h (fun h => (Or.inr (Or.inr (Or.inr (Or.inr (Or.inr (Or.inr (Or.inr (Or.inr (Or.inr (Or.inr (Or.inr (Or.inl h))))))))))))) (fun h => (Or.elim h (fun h => (Or.inr (Or.inr (Or.inr (Or.inr (Or.inr (Or.inr (Or.inr (Or.inr (Or.inr (Or.inr (Or.inl h)))))))))))) (fun h => (Or.elim h (fun h => (Or.inr (Or.inr (Or.inr (Or.inr (Or.inr (Or.inr (Or.inr (Or.inr (Or.inr (Or.inr (Or.inr (Or.inr (Or.inr (Or.inr (Or.inr (Or.inr (Or.inr (Or.inl h))))))))))))))))))) (fun h => (Or.elim h (fun h => (Or.inr (Or.inr (Or.inr (Or.inr (Or.inr (Or.inr (Or.inr (Or.inr (Or.inr (Or.inr (Or.inr (Or.inr (Or.inr (Or.inr (Or.inr (Or.inr (Or.inr (Or.inr (Or.inl h)))))))))))))))))))) (fun h => (Or.inr (Or.inr (Or.inr (Or.inr (Or.inr (Or.inr (Or.inr (Or.inr (Or.inr (Or.inr (Or.inr (Or.inr (Or.inr (Or.inr (Or.inr (Or.inr (Or.inr (Or.inr (Or.inr h))))))))))))))))))))))))))))).trans ((hfg18 k j (fun h => hk (Or.elim h (fun h => (Or.inr (Or.inr (Or.inl h)))) (fun h => (Or.elim h (fun h => (Or.inr (Or.inr (Or.inr (Or.inl h))))) (fun h => (Or.elim h (fun h => (Or.inr (Or.inr (Or.inr (Or.inr (Or.inl h)))))) (fun h => (Or.elim h (fun h => (Or.inr (Or.inr (Or.inr (Or.inr (Or.inr (Or.inl h))))))) (fun h => (Or.elim h (fun h => (Or.inr (Or.inr (Or.inr (Or.inr (Or.inr (Or.inr (Or.inl h)))))))) (fun h => (Or.elim h (fun h => (Or.inr (Or.inr (Or.inr (Or.inr (Or.inr (Or.inr (Or.inr (Or.inl h))))))))) (fun h => (Or.elim h (fun h => (Or.inr (Or.inr (Or.inr (Or.inr (Or.inr (Or.inr (Or.inr (Or.inr (Or.inl h)))))))))) (fun h => (Or.elim h (fun h => (Or.inr (Or.inr (Or.inr (Or.inr (Or.inr (Or.inr (Or.inr (Or.inr (Or.inr (Or.inl h))))))))))) (fun h => (Or.elim h (fun h => (Or.inr (Or.inr (Or.inr (Or.inr (Or.inr (Or.inr (Or.inr (Or.inr (Or.inr (Or.inr (Or.inl h)))))))))))) (fun h => (Or.inr (Or.inr (Or.inr (Or.inr (Or.inr (Or.inr (Or.inr (Or.inr (Or.inr (Or.inr (Or.inr (Or.inl h)))))))))))))))))))))))))))))))).trans ((hfg15 k j (fun h => hk (Or.inr (Or.inl h)))).trans (hug1.2 k j (fun h => hk (Or.inl h))))))) (by omega) (by omega) (by omega) hE)
        · skip
          replace hE := zf_ip hE c64_20
          refine mm_g 1 (pc1 := 68) (lo1 := [some (.ref 137), some (.int (Int32.ofInt a1)), some (.int (Int32.ofInt a2)), some (.int (Int32.ofInt a3)), none]) (st1 := [.ref 137]) (H1 := mz_mk g18 x) rfl ?_
          refine mz_fgR (v := 152) rfl fd_12_76 (by decide) (sc_137 _) (rf_137_25 _ _ _) ?_
          refine mm_g 1 (pc1 := 72) (lo1 := [some (.ref 137), some (.int (Int32.ofInt a1)), some (.int (Int32.ofInt a2)), some (.int (Int32.ofInt a3)), none]) (st1 := [.int (Int32.ofInt a1), .ref 152]) (H1 := mz_mk g18 x) rfl ?_
          refine mz_aI rfl (sh_152 _) (by omega) (by omega) (by decide) hIg18 (ba_152 _) (fun v38 e_v38 l_v38 u_v38 => ?_)
          replace hE := zf_tr hE (zf_le e_v38)
          refine mz_gt (tgt := 104) rfl rfl ?_
          refine mm_g 3 (pc1 := 108) (lo1 := [some (.ref 137), some (.int (Int32.ofInt a1)), some (.int (Int32.ofInt a2)), some (.int (Int32.ofInt a3)), some (.int (Int32.ofInt v38))]) (st1 := [.ref 137, .ref 137]) (H1 := mz_mk g18 x) rfl ?_
          refine mz_fgR (v := 162) rfl fd_12_103 (by decide) (sc_137 _) (rf_137_40 _ _ _) ?_
          refine mm_g 1 (pc1 := 112) (lo1 := [some (.ref 137), some (.int (Int32.ofInt a1)), some (.int (Int32.ofInt a2)), some (.int (Int32.ofInt a3)), some (.int (Int32.ofInt v38))]) (st1 := [.int (Int32.ofInt 0), .ref 162, .ref 137]) (H1 := mz_mk g18 x) rfl ?_
          refine mz_cv rfl mt_12_421 (by decide) (sc_137 _) rfl (Nat.le_of_ble_eq_true rfl) (by omega) (f_X12_recall (by omega) hx hIg18 rwp_162 (by decide) (by decide) (by omega) (by omega) (fun g39 hIg39 hfg39 hp40 hc41 => ⟨_, rfl, ?_⟩))
          show mm_W d mmX12_then 115 [some (.ref 137), some (.int (Int32.ofInt a1)), some (.int (Int32.ofInt a2)), some (.int (Int32.ofInt a3)), some (.int (Int32.ofInt v38))] [] (mz_mk g39 x) Q
          replace hE := zf_t1 hE hc41
          refine mm_g 1 (pc1 := 117) (lo1 := [some (.ref 137), some (.int (Int32.ofInt a1)), some (.int (Int32.ofInt a2)), some (.int (Int32.ofInt a3)), some (.int (Int32.ofInt v38))]) (st1 := [.int (Int32.ofInt v38)]) (H1 := mz_mk g39 x) rfl ?_
          exact mm_rt rfl rfl (hQ _ _ hIg39 (fun k j hk => ((hfg39 k j (fun h => hk (Or.elim h (fun h => (Or.inr (Or.inr (Or.inr (Or.inr (Or.inr (Or.inr (Or.inr (Or.inr (Or.inr (Or.inr (Or.inr (Or.inl h))))))))))))) (fun h => (Or.elim h (fun h => (Or.inr (Or.inr (Or.inr (Or.inr (Or.inr (Or.inr (Or.inr (Or.inr (Or.inr (Or.inr (Or.inl h)))))))))))) (fun h => (Or.elim h (fun h => (Or.inr (Or.inr (Or.inr (Or.inr (Or.inr (Or.inr (Or.inr (Or.inr (Or.inr (Or.inr (Or.inr (Or.inr (Or.inr (Or.inr (Or.inr (Or.inr (Or.inr (Or.inl h))))))))))))))))))) (fun h => (Or.elim h (fun h => (Or.inr (Or.inr (Or.inr (Or.inr (Or.inr (Or.inr (Or.inr (Or.inr (Or.inr (Or.inr (Or.inr (Or.inr (Or.inr (Or.inr (Or.inr (Or.inr (Or.inr (Or.inr (Or.inl h)))))))))))))))))))) (fun h => (Or.inr (Or.inr (Or.inr (Or.inr (Or.inr (Or.inr (Or.inr (Or.inr (Or.inr (Or.inr (Or.inr (Or.inr (Or.inr (Or.inr (Or.inr (Or.inr (Or.inr (Or.inr (Or.inr h))))))))))))))))))))))))))))).trans ((hfg18 k j (fun h => hk (Or.elim h (fun h => (Or.inr (Or.inr (Or.inl h)))) (fun h => (Or.elim h (fun h => (Or.inr (Or.inr (Or.inr (Or.inl h))))) (fun h => (Or.elim h (fun h => (Or.inr (Or.inr (Or.inr (Or.inr (Or.inl h)))))) (fun h => (Or.elim h (fun h => (Or.inr (Or.inr (Or.inr (Or.inr (Or.inr (Or.inl h))))))) (fun h => (Or.elim h (fun h => (Or.inr (Or.inr (Or.inr (Or.inr (Or.inr (Or.inr (Or.inl h)))))))) (fun h => (Or.elim h (fun h => (Or.inr (Or.inr (Or.inr (Or.inr (Or.inr (Or.inr (Or.inr (Or.inl h))))))))) (fun h => (Or.elim h (fun h => (Or.inr (Or.inr (Or.inr (Or.inr (Or.inr (Or.inr (Or.inr (Or.inr (Or.inl h)))))))))) (fun h => (Or.elim h (fun h => (Or.inr (Or.inr (Or.inr (Or.inr (Or.inr (Or.inr (Or.inr (Or.inr (Or.inr (Or.inl h))))))))))) (fun h => (Or.elim h (fun h => (Or.inr (Or.inr (Or.inr (Or.inr (Or.inr (Or.inr (Or.inr (Or.inr (Or.inr (Or.inr (Or.inl h)))))))))))) (fun h => (Or.inr (Or.inr (Or.inr (Or.inr (Or.inr (Or.inr (Or.inr (Or.inr (Or.inr (Or.inr (Or.inr (Or.inl h)))))))))))))))))))))))))))))))).trans ((hfg15 k j (fun h => hk (Or.inr (Or.inl h)))).trans (hug1.2 k j (fun h => hk (Or.inl h))))))) (by omega) (by omega) (by omega) hE)
      · skip
        replace hE := zf_ip hE c40_14
        refine mm_g 2 (pc1 := 45) (lo1 := [some (.ref 137), some (.int (Int32.ofInt a1)), some (.int (Int32.ofInt a2)), some (.int (Int32.ofInt a3)), none]) (st1 := [.int (Int32.ofInt 2), .ref 137]) (H1 := mz_mk g1 x) rfl ?_
        refine mz_cv rfl mt_12_294 (by decide) (sc_137 _) rfl (Nat.le_of_ble_eq_true rfl) (by omega) (f_X12_fail (by omega) hx hIg1 (by decide) (by decide) (fun v42 g43 hIg43 hfg43 l_v42 u_v42 hc44 => ⟨_, rfl, ?_⟩))
        show mm_W d mmX12_then 48 [some (.ref 137), some (.int (Int32.ofInt a1)), some (.int (Int32.ofInt a2)), some (.int (Int32.ofInt a3)), none] [.int (Int32.ofInt v42)] (mz_mk g43 x) Q
        replace hE := zf_t2 hE hc44
        exact mm_rt rfl rfl (hQ _ _ hIg43 (fun k j hk => ((hfg43 k j (fun h => hk (Or.inl h))).trans (hug1.2 k j (fun h => hk (Or.inl h))))) (by omega) (by omega) (by have h9 := (show g43 137 30 = (g 137 30) from ((hfg43 137 30 (fun h => (absurd (show (137 = 137 ∧ 30 = 2) from h) (by decide)))).trans ((hug1.2 137 30 (fun h => absurd h.2 (by decide))).trans rfl))); omega) hE)
    · skip
      replace hE := zf_ip hE c22_11
      refine mm_g 2 (pc1 := 27) (lo1 := [some (.ref 137), some (.int (Int32.ofInt a1)), some (.int (Int32.ofInt a2)), some (.int (Int32.ofInt a3)), none]) (st1 := [.int (Int32.ofInt 1), .ref 137]) (H1 := mz_mk g1 x) rfl ?_
      refine mz_cv rfl mt_12_294 (by decide) (sc_137 _) rfl (Nat.le_of_ble_eq_true rfl) (by omega) (f_X12_fail (by omega) hx hIg1 (by decide) (by decide) (fun v45 g46 hIg46 hfg46 l_v45 u_v45 hc47 => ⟨_, rfl, ?_⟩))
      show mm_W d mmX12_then 30 [some (.ref 137), some (.int (Int32.ofInt a1)), some (.int (Int32.ofInt a2)), some (.int (Int32.ofInt a3)), none] [.int (Int32.ofInt v45)] (mz_mk g46 x) Q
      replace hE := zf_t2 hE hc47
      exact mm_rt rfl rfl (hQ _ _ hIg46 (fun k j hk => ((hfg46 k j (fun h => hk (Or.inl h))).trans (hug1.2 k j (fun h => hk (Or.inl h))))) (by omega) (by omega) (by have h9 := (show g46 137 30 = (g 137 30) from ((hfg46 137 30 (fun h => (absurd (show (137 = 137 ∧ 30 = 2) from h) (by decide)))).trans ((hug1.2 137 30 (fun h => absurd h.2 (by decide))).trans rfl))); omega) hE)
def fw_X12_blend (x : mm_X) (a1 : Int) (a2 : Int) (a3 : Int) : Nat → Nat → Prop := fun k j => (k = 137 ∧ j = 2) ∨ k = 162 ∨ (k = 160 ∧ j = 0) ∨ (k = 160 ∧ j = 1) ∨ (k = 160 ∧ j = 2) ∨ (k = 160 ∧ j = 3) ∨ (k = 160 ∧ j = 4) ∨ (k = 160 ∧ j = 5) ∨ (k = 160 ∧ j = 6) ∨ k = 161 ∨ k = 152 ∨ (k = 137 ∧ j = 30) ∨ k = 157 ∨ (k = 137 ∧ j = 36) ∨ k = 153 ∨ k = 154 ∨ k = 155
theorem f_X12_blend {d : Nat} (hd : 16 ≤ d) {x : mm_X} (hx : mk_x x) {g : mz_G} (hI : mz_inv g) {a1 : Int} (l_a1 : (-2147483648) ≤ a1) (u_a1 : a1 ≤ 2147483647) {a2 : Int} (l_a2 : (-2147483648) ≤ a2) (u_a2 : a2 ≤ 2147483647) {a3 : Int} (l_a3 : (-2147483648) ≤ a3) (u_a3 : a3 ≤ 2147483647) (p1 : mz_pv g) (p2 : g 137 30 ≤ 999) {Q : (Option Value ⊕ Nat) → mm_H → Prop} (hQ : ∀ (r : Int) (g1 : mz_G), mz_inv g1 → mz_fr (fw_X12_blend x a1 a2 a3) g g1 → (-2147483648) ≤ r → r ≤ 2147483647 → (g1 137 30 ≤ 999) → zf_E (zF_X12_blend a1 a2 a3 g) ((r, g1)) → Q (.inl (some (.int (Int32.ofInt r)))) (mz_mk g1 x)) : mm_C d 259 [.ref 137, .int (Int32.ofInt a1), .int (Int32.ofInt a2), .int (Int32.ofInt a3)] (mz_mk g x) Q := by
  refine ⟨mmX12_blend, [some (.ref 137), some (.int (Int32.ofInt a1)), some (.int (Int32.ofInt a2)), some (.int (Int32.ofInt a3))], rfl, rfl, ?_⟩
  have bz0 := mz_rd hI bd_137_30
  have hpv := p1
  have hE : zf_E (zF_X12_blend a1 a2 a3 g) (zF_X12_blend a1 a2 a3 g) := zf_rf
  refine mm_g 2 (pc1 := 2) (lo1 := [some (.ref 137), some (.int (Int32.ofInt a1)), some (.int (Int32.ofInt a2)), some (.int (Int32.ofInt a3))]) (st1 := [.int (Int32.ofInt 0), .ref 137]) (H1 := mz_mk g x) rfl ?_
  refine mz_pI rfl fd_12_154 (sc_137 _) hI bd_137_2 (by omega) (by omega) (fun g1 hIg1 hug1 => ?_)
  replace hE := zf_tr hE (zf_lg hug1)
  refine mm_g 2 (pc1 := 7) (lo1 := [some (.ref 137), some (.int (Int32.ofInt a1)), some (.int (Int32.ofInt a2)), some (.int (Int32.ofInt a3))]) (st1 := [.int (Int32.ofInt a1), .ref 137]) (H1 := mz_mk g1 x) rfl ?_
  refine mz_cv rfl mt_12_391 (by decide) (sc_137 _) rfl (Nat.le_of_ble_eq_true rfl) (by omega) (f_X12_isTrunk (by omega) hx hIg1 l_a1 u_a1 (fun v2 l_v2 u_v2 hp3 hp4 hc5 => ⟨_, rfl, ?_⟩))
  show mm_W d mmX12_blend 10 [some (.ref 137), some (.int (Int32.ofInt a1)), some (.int (Int32.ofInt a2)), some (.int (Int32.ofInt a3))] [.int (Int32.ofInt v2)] (mz_mk g1 x) Q
  replace hE := zf_t1 hE hc5
  refine mz_if_ne (tgt := 19) rfl rfl (mz_rg l_v2 u_v2) (fun c10_5 => ?_) (fun c10_5 => ?_)
  · skip
    replace hE := zf_in hE c10_5
    refine mm_g 1 (pc1 := 20) (lo1 := [some (.ref 137), some (.int (Int32.ofInt a1)), some (.int (Int32.ofInt a2)), some (.int (Int32.ofInt a3))]) (st1 := [.int (Int32.ofInt a3)]) (H1 := mz_mk g1 x) rfl ?_
    refine mz_i2l rfl (mz_rg l_a3 u_a3) ?_
    refine mz_lcst (c := 0) rfl rfl ?_
    refine mz_l2w (c := 60) rfl rfl rfl ?_
    refine mz_cs rfl mt_12_157 (by decide) rfl (Nat.le_of_ble_eq_true rfl) (by omega) (f_X12_isIn (by omega) hx hIg1 (by omega) (by omega) (by omega) (by omega) (by omega) (by omega) (fun v6 l_v6 u_v6 hp7 hc8 => ⟨_, rfl, ?_⟩))
    show mm_W d mmX12_blend 28 [some (.ref 137), some (.int (Int32.ofInt a1)), some (.int (Int32.ofInt a2)), some (.int (Int32.ofInt a3))] [.int (Int32.ofInt v6)] (mz_mk g1 x) Q
    replace hE := zf_t1 hE hc8
    refine mz_if_ne (tgt := 37) rfl rfl (mz_rg l_v6 u_v6) (fun c28_8 => ?_) (fun c28_8 => ?_)
    · skip
      replace hE := zf_in hE c28_8
      refine mm_g 2 (pc1 := 39) (lo1 := [some (.ref 137), some (.int (Int32.ofInt a1)), some (.int (Int32.ofInt a2)), some (.int (Int32.ofInt a3))]) (st1 := [.ref 137, .ref 137]) (H1 := mz_mk g1 x) rfl ?_
      refine mz_fgR (v := 162) rfl fd_12_103 (by decide) (sc_137 _) (rf_137_40 _ _ _) ?_
      refine mm_g 1 (pc1 := 43) (lo1 := [some (.ref 137), some (.int (Int32.ofInt a1)), some (.int (Int32.ofInt a2)), some (.int (Int32.ofInt a3))]) (st1 := [.int (Int32.ofInt 0), .ref 162, .ref 137]) (H1 := mz_mk g1 x) rfl ?_
      refine mz_cv rfl mt_12_397 (by decide) (sc_137 _) rfl (Nat.le_of_ble_eq_true rfl) (by omega) (f_X12_store (by omega) hx hIg1 rwp_162 (by decide) (by decide) (by omega) (by omega) (by have h9 := (show g1 137 30 = (g 137 30) from ((hug1.2 137 30 (fun h => absurd h.2 (by decide))).trans rfl)); omega) (fun g9 hIg9 hfg9 hc10 => ⟨_, rfl, ?_⟩))
      show mm_W d mmX12_blend 46 [some (.ref 137), some (.int (Int32.ofInt a1)), some (.int (Int32.ofInt a2)), some (.int (Int32.ofInt a3))] [] (mz_mk g9 x) Q
      replace hE := zf_t1 hE hc10
      refine mm_g 2 (pc1 := 48) (lo1 := [some (.ref 137), some (.int (Int32.ofInt a1)), some (.int (Int32.ofInt a2)), some (.int (Int32.ofInt a3))]) (st1 := [.int (Int32.ofInt a3), .ref 137]) (H1 := mz_mk g9 x) rfl ?_
      have hq11 : g9 137 30 = (g 137 30) := (show g9 137 30 = (g 137 30) from ((hfg9 137 30 (fun h => (absurd (show 137 = 162 from h) (by decide)))).trans ((hug1.2 137 30 (fun h => absurd h.2 (by decide))).trans rfl)))
      refine mz_cv rfl mt_12_409 (by decide) (sc_137 _) rfl (Nat.le_of_ble_eq_true rfl) (by omega) (f_X12_goOn (by omega) hx hIg9 (by omega) (by omega) (mz_pv_fr hpv (fun _j => ((hfg9 149 _j (fun h => (absurd (show 149 = 162 from h) (by decide)))).trans ((hug1.2 149 _j (fun h => absurd h.1 (by decide))).trans rfl))) ((hfg9 140 3 (fun h => (absurd (show 140 = 162 from h) (by decide)))).trans ((hug1.2 140 3 (fun h => absurd h.1 (by decide))).trans rfl))) (by have h9 := (show g9 137 30 = (g 137 30) from ((hfg9 137 30 (fun h => (absurd (show 137 = 162 from h) (by decide)))).trans ((hug1.2 137 30 (fun h => absurd h.2 (by decide))).trans rfl))); omega) (fun g12 hIg12 hfg12 hp13 hc14 => ⟨_, rfl, ?_⟩))
      show mm_W d mmX12_blend 51 [some (.ref 137), some (.int (Int32.ofInt a1)), some (.int (Int32.ofInt a2)), some (.int (Int32.ofInt a3))] [] (mz_mk g12 x) Q
      replace hE := zf_t1 hE hc14
      refine mm_g 3 (pc1 := 54) (lo1 := [some (.ref 137), some (.int (Int32.ofInt a1)), some (.int (Int32.ofInt a2)), some (.int (Int32.ofInt a3))]) (st1 := [.ref 137, .ref 137, .ref 137]) (H1 := mz_mk g12 x) rfl ?_
      refine mz_fgR (v := 157) rfl fd_12_88 (by decide) (sc_137 _) (rf_137_33 _ _ _) ?_
      refine mm_g 1 (pc1 := 58) (lo1 := [some (.ref 137), some (.int (Int32.ofInt a1)), some (.int (Int32.ofInt a2)), some (.int (Int32.ofInt a3))]) (st1 := [.int (Int32.ofInt a1), .ref 157, .ref 137, .ref 137]) (H1 := mz_mk g12 x) rfl ?_
      refine mz_cv rfl mt_12_424 (by decide) (sc_137 _) rfl (Nat.le_of_ble_eq_true rfl) (by omega) (f_X12_blendInto (by omega) hx hIg12 (sh_157 _) (by decide) ba_157 (by omega) (by omega) (by omega) (fun v15 g16 hIg16 hfg16 l_v15 u_v15 hc17 => ⟨_, rfl, ?_⟩))
      show mm_W d mmX12_blend 61 [some (.ref 137), some (.int (Int32.ofInt a1)), some (.int (Int32.ofInt a2)), some (.int (Int32.ofInt a3))] [.int (Int32.ofInt v15), .ref 137] (mz_mk g16 x) Q
      replace hE := zf_t2 hE hc17
      refine mz_pI rfl fd_12_323 (sc_137 _) hIg16 bd_137_36 (by omega) (by omega) (fun g18 hIg18 hug18 => ?_)
      replace hE := zf_tr hE (zf_lg hug18)
      refine mm_g 2 (pc1 := 66) (lo1 := [some (.ref 137), some (.int (Int32.ofInt a1)), some (.int (Int32.ofInt a2)), some (.int (Int32.ofInt a3))]) (st1 := [.ref 137, .ref 137]) (H1 := mz_mk g18 x) rfl ?_
      refine mz_fgR (v := 162) rfl fd_12_103 (by decide) (sc_137 _) (rf_137_40 _ _ _) ?_
      refine mm_g 1 (pc1 := 70) (lo1 := [some (.ref 137), some (.int (Int32.ofInt a1)), some (.int (Int32.ofInt a2)), some (.int (Int32.ofInt a3))]) (st1 := [.int (Int32.ofInt 0), .ref 162, .ref 137]) (H1 := mz_mk g18 x) rfl ?_
      refine mz_cv rfl mt_12_421 (by decide) (sc_137 _) rfl (Nat.le_of_ble_eq_true rfl) (by omega) (f_X12_recall (by omega) hx hIg18 rwp_162 (by decide) (by decide) (by omega) (by omega) (fun g19 hIg19 hfg19 hp20 hc21 => ⟨_, rfl, ?_⟩))
      show mm_W d mmX12_blend 73 [some (.ref 137), some (.int (Int32.ofInt a1)), some (.int (Int32.ofInt a2)), some (.int (Int32.ofInt a3))] [] (mz_mk g19 x) Q
      replace hE := zf_t1 hE hc21
      refine mm_g 1 (pc1 := 74) (lo1 := [some (.ref 137), some (.int (Int32.ofInt a1)), some (.int (Int32.ofInt a2)), some (.int (Int32.ofInt a3))]) (st1 := [.int (Int32.ofInt a2)]) (H1 := mz_mk g19 x) rfl ?_
      refine mz_i2l rfl (mz_rg l_a2 u_a2) ?_
      refine mz_lcst (c := 0) rfl rfl ?_
      refine mm_g 1 (pc1 := 77) (lo1 := [some (.ref 137), some (.int (Int32.ofInt a1)), some (.int (Int32.ofInt a2)), some (.int (Int32.ofInt a3))]) (st1 := [.ref 137, .long (Int64.ofInt 0), .long (Int64.ofInt a2)]) (H1 := mz_mk g19 x) rfl ?_
      refine mz_fgI (v := v15) rfl fd_12_323 (by decide) (sc_137 _) (show g19 137 36 = v15 from ((hfg19 137 36 nj_35).trans hug18.1)) ?_
      replace hE := zf_tr hE (zf_le (show g19 137 36 = v15 from ((hfg19 137 36 nj_35).trans hug18.1)))
      refine mm_g 1 (pc1 := 81) (lo1 := [some (.ref 137), some (.int (Int32.ofInt a1)), some (.int (Int32.ofInt a2)), some (.int (Int32.ofInt a3))]) (st1 := [.int (Int32.ofInt 1), .int (Int32.ofInt v15), .long (Int64.ofInt 0), .long (Int64.ofInt a2)]) (H1 := mz_mk g19 x) rfl ?_
      refine mz_isub rfl ?_
      refine mz_i2l rfl ⟨by omega, by omega⟩ ?_
      refine mz_cs rfl mt_12_157 (by decide) rfl (Nat.le_of_ble_eq_true rfl) (by omega) (f_X12_isIn (by omega) hx hIg19 (by omega) (by omega) (by omega) (by omega) (by omega) (by omega) (fun v22 l_v22 u_v22 hp23 hc24 => ⟨_, rfl, ?_⟩))
      show mm_W d mmX12_blend 86 [some (.ref 137), some (.int (Int32.ofInt a1)), some (.int (Int32.ofInt a2)), some (.int (Int32.ofInt a3))] [.int (Int32.ofInt v22)] (mz_mk g19 x) Q
      replace hE := zf_t1 hE hc24
      refine mz_if_eq (tgt := 98) rfl rfl (mz_rg l_v22 u_v22) (fun c86_24 => ?_) (fun c86_24 => ?_)
      · skip
        replace hE := zf_ip hE c86_24
        refine mm_g 1 (pc1 := 99) (lo1 := [some (.ref 137), some (.int (Int32.ofInt a1)), some (.int (Int32.ofInt a2)), some (.int (Int32.ofInt a3))]) (st1 := [.int (Int32.ofInt (-1))]) (H1 := mz_mk g19 x) rfl ?_
        exact mm_rt rfl rfl (hQ _ _ hIg19 (fun k j hk => ((hfg19 k j (fun h => hk (Or.elim h (fun h => (Or.inr (Or.inr (Or.inr (Or.inr (Or.inr (Or.inr (Or.inr (Or.inr (Or.inr (Or.inr (Or.inr (Or.inl h))))))))))))) (fun h => (Or.elim h (fun h => (Or.inr (Or.inr (Or.inr (Or.inr (Or.inr (Or.inr (Or.inr (Or.inr (Or.inr (Or.inr (Or.inl h)))))))))))) (fun h => (Or.elim h (fun h => (Or.inr (Or.inr (Or.inr (Or.inr (Or.inr (Or.inr (Or.inr (Or.inr (Or.inr (Or.inr (Or.inr (Or.inr (Or.inr (Or.inr (Or.inl h)))))))))))))))) (fun h => (Or.elim h (fun h => (Or.inr (Or.inr (Or.inr (Or.inr (Or.inr (Or.inr (Or.inr (Or.inr (Or.inr (Or.inr (Or.inr (Or.inr (Or.inr (Or.inr (Or.inr (Or.inl h))))))))))))))))) (fun h => (Or.inr (Or.inr (Or.inr (Or.inr (Or.inr (Or.inr (Or.inr (Or.inr (Or.inr (Or.inr (Or.inr (Or.inr (Or.inr (Or.inr (Or.inr (Or.inr h)))))))))))))))))))))))))).trans ((hug18.2 k j (fun h => hk (Or.inr (Or.inr (Or.inr (Or.inr (Or.inr (Or.inr (Or.inr (Or.inr (Or.inr (Or.inr (Or.inr (Or.inr (Or.inr (Or.inl h)))))))))))))))).trans ((hfg16 k j (fun h => hk (Or.inr (Or.inr (Or.inr (Or.inr (Or.inr (Or.inr (Or.inr (Or.inr (Or.inr (Or.inr (Or.inr (Or.inr (Or.inl h))))))))))))))).trans ((hfg12 k j (fun h => hk (Or.elim h (fun h => (Or.inr (Or.inr (Or.inl h)))) (fun h => (Or.elim h (fun h => (Or.inr (Or.inr (Or.inr (Or.inl h))))) (fun h => (Or.elim h (fun h => (Or.inr (Or.inr (Or.inr (Or.inr (Or.inl h)))))) (fun h => (Or.elim h (fun h => (Or.inr (Or.inr (Or.inr (Or.inr (Or.inr (Or.inl h))))))) (fun h => (Or.elim h (fun h => (Or.inr (Or.inr (Or.inr (Or.inr (Or.inr (Or.inr (Or.inl h)))))))) (fun h => (Or.elim h (fun h => (Or.inr (Or.inr (Or.inr (Or.inr (Or.inr (Or.inr (Or.inr (Or.inl h))))))))) (fun h => (Or.elim h (fun h => (Or.inr (Or.inr (Or.inr (Or.inr (Or.inr (Or.inr (Or.inr (Or.inr (Or.inl h)))))))))) (fun h => (Or.elim h (fun h => (Or.inr (Or.inr (Or.inr (Or.inr (Or.inr (Or.inr (Or.inr (Or.inr (Or.inr (Or.inl h))))))))))) (fun h => (Or.elim h (fun h => (Or.inr (Or.inr (Or.inr (Or.inr (Or.inr (Or.inr (Or.inr (Or.inr (Or.inr (Or.inr (Or.inl h)))))))))))) (fun h => (Or.inr (Or.inr (Or.inr (Or.inr (Or.inr (Or.inr (Or.inr (Or.inr (Or.inr (Or.inr (Or.inr (Or.inl h)))))))))))))))))))))))))))))))).trans ((hfg9 k j (fun h => hk (Or.inr (Or.inl h)))).trans (hug1.2 k j (fun h => hk (Or.inl h))))))))) (by decide) (by decide) (by omega) hE)
      · skip
        replace hE := zf_in hE c86_24
        refine mm_g 1 (pc1 := 90) (lo1 := [some (.ref 137), some (.int (Int32.ofInt a1)), some (.int (Int32.ofInt a2)), some (.int (Int32.ofInt a3))]) (st1 := [.ref 137]) (H1 := mz_mk g19 x) rfl ?_
        refine mz_fgR (v := 157) rfl fd_12_88 (by decide) (sc_137 _) (rf_137_33 _ _ _) ?_
        refine mm_g 1 (pc1 := 94) (lo1 := [some (.ref 137), some (.int (Int32.ofInt a1)), some (.int (Int32.ofInt a2)), some (.int (Int32.ofInt a3))]) (st1 := [.int (Int32.ofInt a2), .ref 157]) (H1 := mz_mk g19 x) rfl ?_
        refine mz_aI rfl (sh_157 _) (by omega) (by omega) (by decide) hIg19 (ba_157 _) (fun v25 e_v25 l_v25 u_v25 => ?_)
        replace hE := zf_tr hE (zf_le e_v25)
        refine mz_gt (tgt := 99) rfl rfl ?_
        exact mm_rt rfl rfl (hQ _ _ hIg19 (fun k j hk => ((hfg19 k j (fun h => hk (Or.elim h (fun h => (Or.inr (Or.inr (Or.inr (Or.inr (Or.inr (Or.inr (Or.inr (Or.inr (Or.inr (Or.inr (Or.inr (Or.inl h))))))))))))) (fun h => (Or.elim h (fun h => (Or.inr (Or.inr (Or.inr (Or.inr (Or.inr (Or.inr (Or.inr (Or.inr (Or.inr (Or.inr (Or.inl h)))))))))))) (fun h => (Or.elim h (fun h => (Or.inr (Or.inr (Or.inr (Or.inr (Or.inr (Or.inr (Or.inr (Or.inr (Or.inr (Or.inr (Or.inr (Or.inr (Or.inr (Or.inr (Or.inl h)))))))))))))))) (fun h => (Or.elim h (fun h => (Or.inr (Or.inr (Or.inr (Or.inr (Or.inr (Or.inr (Or.inr (Or.inr (Or.inr (Or.inr (Or.inr (Or.inr (Or.inr (Or.inr (Or.inr (Or.inl h))))))))))))))))) (fun h => (Or.inr (Or.inr (Or.inr (Or.inr (Or.inr (Or.inr (Or.inr (Or.inr (Or.inr (Or.inr (Or.inr (Or.inr (Or.inr (Or.inr (Or.inr (Or.inr h)))))))))))))))))))))))))).trans ((hug18.2 k j (fun h => hk (Or.inr (Or.inr (Or.inr (Or.inr (Or.inr (Or.inr (Or.inr (Or.inr (Or.inr (Or.inr (Or.inr (Or.inr (Or.inr (Or.inl h)))))))))))))))).trans ((hfg16 k j (fun h => hk (Or.inr (Or.inr (Or.inr (Or.inr (Or.inr (Or.inr (Or.inr (Or.inr (Or.inr (Or.inr (Or.inr (Or.inr (Or.inl h))))))))))))))).trans ((hfg12 k j (fun h => hk (Or.elim h (fun h => (Or.inr (Or.inr (Or.inl h)))) (fun h => (Or.elim h (fun h => (Or.inr (Or.inr (Or.inr (Or.inl h))))) (fun h => (Or.elim h (fun h => (Or.inr (Or.inr (Or.inr (Or.inr (Or.inl h)))))) (fun h => (Or.elim h (fun h => (Or.inr (Or.inr (Or.inr (Or.inr (Or.inr (Or.inl h))))))) (fun h => (Or.elim h (fun h => (Or.inr (Or.inr (Or.inr (Or.inr (Or.inr (Or.inr (Or.inl h)))))))) (fun h => (Or.elim h (fun h => (Or.inr (Or.inr (Or.inr (Or.inr (Or.inr (Or.inr (Or.inr (Or.inl h))))))))) (fun h => (Or.elim h (fun h => (Or.inr (Or.inr (Or.inr (Or.inr (Or.inr (Or.inr (Or.inr (Or.inr (Or.inl h)))))))))) (fun h => (Or.elim h (fun h => (Or.inr (Or.inr (Or.inr (Or.inr (Or.inr (Or.inr (Or.inr (Or.inr (Or.inr (Or.inl h))))))))))) (fun h => (Or.elim h (fun h => (Or.inr (Or.inr (Or.inr (Or.inr (Or.inr (Or.inr (Or.inr (Or.inr (Or.inr (Or.inr (Or.inl h)))))))))))) (fun h => (Or.inr (Or.inr (Or.inr (Or.inr (Or.inr (Or.inr (Or.inr (Or.inr (Or.inr (Or.inr (Or.inr (Or.inl h)))))))))))))))))))))))))))))))).trans ((hfg9 k j (fun h => hk (Or.inr (Or.inl h)))).trans (hug1.2 k j (fun h => hk (Or.inl h))))))))) (by omega) (by omega) (by omega) hE)
    · skip
      replace hE := zf_ip hE c28_8
      refine mm_g 2 (pc1 := 33) (lo1 := [some (.ref 137), some (.int (Int32.ofInt a1)), some (.int (Int32.ofInt a2)), some (.int (Int32.ofInt a3))]) (st1 := [.int (Int32.ofInt 2), .ref 137]) (H1 := mz_mk g1 x) rfl ?_
      refine mz_cv rfl mt_12_294 (by decide) (sc_137 _) rfl (Nat.le_of_ble_eq_true rfl) (by omega) (f_X12_fail (by omega) hx hIg1 (by decide) (by decide) (fun v26 g27 hIg27 hfg27 l_v26 u_v26 hc28 => ⟨_, rfl, ?_⟩))
      show mm_W d mmX12_blend 36 [some (.ref 137), some (.int (Int32.ofInt a1)), some (.int (Int32.ofInt a2)), some (.int (Int32.ofInt a3))] [.int (Int32.ofInt v26)] (mz_mk g27 x) Q
      replace hE := zf_t2 hE hc28
      exact mm_rt rfl rfl (hQ _ _ hIg27 (fun k j hk => ((hfg27 k j (fun h => hk (Or.inl h))).trans (hug1.2 k j (fun h => hk (Or.inl h))))) (by omega) (by omega) (by have h9 := (show g27 137 30 = (g 137 30) from ((hfg27 137 30 (fun h => (absurd (show (137 = 137 ∧ 30 = 2) from h) (by decide)))).trans ((hug1.2 137 30 (fun h => absurd h.2 (by decide))).trans rfl))); omega) hE)
  · skip
    replace hE := zf_ip hE c10_5
    refine mm_g 2 (pc1 := 15) (lo1 := [some (.ref 137), some (.int (Int32.ofInt a1)), some (.int (Int32.ofInt a2)), some (.int (Int32.ofInt a3))]) (st1 := [.int (Int32.ofInt 1), .ref 137]) (H1 := mz_mk g1 x) rfl ?_
    refine mz_cv rfl mt_12_294 (by decide) (sc_137 _) rfl (Nat.le_of_ble_eq_true rfl) (by omega) (f_X12_fail (by omega) hx hIg1 (by decide) (by decide) (fun v29 g30 hIg30 hfg30 l_v29 u_v29 hc31 => ⟨_, rfl, ?_⟩))
    show mm_W d mmX12_blend 18 [some (.ref 137), some (.int (Int32.ofInt a1)), some (.int (Int32.ofInt a2)), some (.int (Int32.ofInt a3))] [.int (Int32.ofInt v29)] (mz_mk g30 x) Q
    replace hE := zf_t2 hE hc31
    exact mm_rt rfl rfl (hQ _ _ hIg30 (fun k j hk => ((hfg30 k j (fun h => hk (Or.inl h))).trans (hug1.2 k j (fun h => hk (Or.inl h))))) (by omega) (by omega) (by have h9 := (show g30 137 30 = (g 137 30) from ((hfg30 137 30 (fun h => (absurd (show (137 = 137 ∧ 30 = 2) from h) (by decide)))).trans ((hug1.2 137 30 (fun h => absurd h.2 (by decide))).trans rfl))); omega) hE)
theorem f_X12_allGrown {d : Nat} (hd : 1 ≤ d) {x : mm_X} (hx : mk_x x) {g : mz_G} (hI : mz_inv g) {Q : (Option Value ⊕ Nat) → mm_H → Prop} (hQ : ∀ (r : Int), (-2147483648) ≤ r → r ≤ 2147483647 → zf_E (zF_X12_allGrown g) (r) → Q (.inl (some (.int (Int32.ofInt r)))) (mz_mk g x)) : mm_C d 260 [.ref 137] (mz_mk g x) Q := by
  refine ⟨mmX12_allGrown, [some (.ref 137), none, none], rfl, rfl, ?_⟩
  have hE : zf_E (zF_X12_allGrown g) (zF_X12_allGrown g) := zf_rf
  refine mm_g 4 (pc1 := 4) (lo1 := [some (.ref 137), some (.int (Int32.ofInt 0)), some (.int (Int32.ofInt 0))]) (st1 := []) (H1 := mz_mk g x) rfl ?_
  have L6 : ∀ n5 : Nat, ∀ (v1 : Int) (v2 : Int), (6 - v2).toNat = n5 → (-2147483648) ≤ v1 → v1 ≤ 2147483647 → 0 ≤ v2 → v2 ≤ 6 → (∃ fk : Nat, (6 - v2).toNat < fk ∧ zf_E (zF_X12_allGrown g) (zL_X12_allGrown_4 g fk v1 v2)) → mm_W d mmX12_allGrown 4 [some (.ref 137), some (.int (Int32.ofInt v1)), some (.int (Int32.ofInt v2))] [] (mz_mk g x) Q := by
    intro n5
    induction n5 using Nat.strongRecOn with
    | ind n5 ih4 =>
    intro v1 v2 hmn5 l_v1 u_v1 l_v2 u_v2 hF
    obtain ⟨fk, fl, hE⟩ := hF
    obtain ⟨fj7, rfl⟩ : ∃ fj, fk = fj + 1 := ⟨fk - 1, by omega⟩
    have fn8 : n5 ≤ fj7 := by omega
    replace hE := zf_tr hE zL_X12_allGrown_4_s
    refine mm_g 2 (pc1 := 6) (lo1 := [some (.ref 137), some (.int (Int32.ofInt v1)), some (.int (Int32.ofInt v2))]) (st1 := [.ref 137, .int (Int32.ofInt v2)]) (H1 := mz_mk g x) rfl ?_
    refine mz_fgR (v := 140) rfl fd_12_36 (by decide) (sc_137 _) (rf_137_3 _ _ _) ?_
    refine mm_g 1 (pc1 := 10) (lo1 := [some (.ref 137), some (.int (Int32.ofInt v1)), some (.int (Int32.ofInt v2))]) (st1 := [.int (Int32.ofInt 1), .ref 140, .int (Int32.ofInt v2)]) (H1 := mz_mk g x) rfl ?_
    refine mz_aI rfl (sh_140 _) (by omega) (by omega) (by decide) hI bt_140_1 (fun v9 e_v9 l_v9 u_v9 => ?_)
    have e_v9 : g 140 1 = v9 := e_v9
    replace hE := zf_tr hE (zf_le e_v9)
    refine mz_ic_ge (tgt := 29) rfl rfl (mz_rg l_v2 u_v2) (mz_rg l_v9 u_v9) (fun c11_9 => ?_) (fun c11_9 => ?_)
    · skip
      replace hE := zf_nl hE c11_9
      refine mm_g 1 (pc1 := 30) (lo1 := [some (.ref 137), some (.int (Int32.ofInt v1)), some (.int (Int32.ofInt v2))]) (st1 := [.int (Int32.ofInt v1)]) (H1 := mz_mk g x) rfl ?_
      exact mm_rt rfl rfl (hQ _ (by omega) (by omega) hE)
    · skip
      replace hE := zf_ip hE c11_9
      refine mm_g 2 (pc1 := 16) (lo1 := [some (.ref 137), some (.int (Int32.ofInt v1)), some (.int (Int32.ofInt v2))]) (st1 := [.ref 137, .int (Int32.ofInt v1)]) (H1 := mz_mk g x) rfl ?_
      refine mz_fgR (v := 152) rfl fd_12_76 (by decide) (sc_137 _) (rf_137_25 _ _ _) ?_
      refine mm_g 1 (pc1 := 20) (lo1 := [some (.ref 137), some (.int (Int32.ofInt v1)), some (.int (Int32.ofInt v2))]) (st1 := [.int (Int32.ofInt v2), .ref 152, .int (Int32.ofInt v1)]) (H1 := mz_mk g x) rfl ?_
      refine mz_aI rfl (sh_152 _) (by omega) (by omega) (by decide) hI (ba_152 _) (fun v10 e_v10 l_v10 u_v10 => ?_)
      replace hE := zf_tr hE (zf_le e_v10)
      refine mz_iadd_w rfl (fun v11 e_v11 hwv11 => ?_)
      have l_v11 := hwv11.1
      have u_v11 := hwv11.2
      replace hE := zf_tr hE (zf_le e_v11.symm)
      refine mm_g 1 (pc1 := 23) (lo1 := [some (.ref 137), some (.int (Int32.ofInt v11)), some (.int (Int32.ofInt v2))]) (st1 := []) (H1 := mz_mk g x) rfl ?_
      refine mz_iincR (v := v2) (lo2 := [some (.ref 137), some (.int (Int32.ofInt v11)), some (.int (Int32.ofInt (v2 + 1)))]) rfl rfl rfl (Nat.le_of_ble_eq_true rfl) rfl ?_
      refine mz_gt (tgt := 4) rfl rfl ?_
      exact ih4 ((6 - (v2 + 1)).toNat) (by omega) v11 (v2 + 1) rfl (by omega) (by omega) (by omega) (by omega) ⟨fj7, Nat.lt_of_lt_of_le (show ((6 - (v2 + 1)).toNat) < n5 from (by omega)) fn8, hE⟩
  exact L6 _ 0 0 rfl (by decide) (by decide) (by decide) (by decide) ⟨3000000000, by omega, hE⟩
theorem f_X12_longestNow {d : Nat} (hd : 2 ≤ d) {x : mm_X} (hx : mk_x x) {g : mz_G} (hI : mz_inv g) {Q : (Option Value ⊕ Nat) → mm_H → Prop} (hQ : ∀ (r : Int), (-1) ≤ r → r ≤ 5 → zf_E (zF_X12_longestNow g) (r) → Q (.inl (some (.int (Int32.ofInt r)))) (mz_mk g x)) : mm_C d 261 [.ref 137] (mz_mk g x) Q := by
  refine ⟨mmX12_longestNow, [some (.ref 137), none, none], rfl, rfl, ?_⟩
  have hE : zf_E (zF_X12_longestNow g) (zF_X12_longestNow g) := zf_rf
  refine mm_g 4 (pc1 := 4) (lo1 := [some (.ref 137), some (.int (Int32.ofInt (-1))), some (.int (Int32.ofInt 0))]) (st1 := []) (H1 := mz_mk g x) rfl ?_
  have L6 : ∀ n5 : Nat, ∀ (v1 : Int) (v2 : Int), (6 - v2).toNat = n5 → (-1) ≤ v1 → v1 ≤ 5 → 0 ≤ v2 → v2 ≤ 6 → (∃ fk : Nat, (6 - v2).toNat < fk ∧ zf_E (zF_X12_longestNow g) (zL_X12_longestNow_4 g fk v1 v2)) → mm_W d mmX12_longestNow 4 [some (.ref 137), some (.int (Int32.ofInt v1)), some (.int (Int32.ofInt v2))] [] (mz_mk g x) Q := by
    intro n5
    induction n5 using Nat.strongRecOn with
    | ind n5 ih4 =>
    intro v1 v2 hmn5 l_v1 u_v1 l_v2 u_v2 hF
    obtain ⟨fk, fl, hE⟩ := hF
    obtain ⟨fj7, rfl⟩ : ∃ fj, fk = fj + 1 := ⟨fk - 1, by omega⟩
    have fn8 : n5 ≤ fj7 := by omega
    replace hE := zf_tr hE zL_X12_longestNow_4_s
    refine mm_g 2 (pc1 := 6) (lo1 := [some (.ref 137), some (.int (Int32.ofInt v1)), some (.int (Int32.ofInt v2))]) (st1 := [.ref 137, .int (Int32.ofInt v2)]) (H1 := mz_mk g x) rfl ?_
    refine mz_fgR (v := 140) rfl fd_12_36 (by decide) (sc_137 _) (rf_137_3 _ _ _) ?_
    refine mm_g 1 (pc1 := 10) (lo1 := [some (.ref 137), some (.int (Int32.ofInt v1)), some (.int (Int32.ofInt v2))]) (st1 := [.int (Int32.ofInt 1), .ref 140, .int (Int32.ofInt v2)]) (H1 := mz_mk g x) rfl ?_
    refine mz_aI rfl (sh_140 _) (by omega) (by omega) (by decide) hI bt_140_1 (fun v9 e_v9 l_v9 u_v9 => ?_)
    have e_v9 : g 140 1 = v9 := e_v9
    replace hE := zf_tr hE (zf_le e_v9)
    refine mz_ic_ge (tgt := 40) rfl rfl (mz_rg l_v2 u_v2) (mz_rg l_v9 u_v9) (fun c11_9 => ?_) (fun c11_9 => ?_)
    · skip
      replace hE := zf_nl hE c11_9
      refine mm_g 1 (pc1 := 41) (lo1 := [some (.ref 137), some (.int (Int32.ofInt v1)), some (.int (Int32.ofInt v2))]) (st1 := [.int (Int32.ofInt v1)]) (H1 := mz_mk g x) rfl ?_
      exact mm_rt rfl rfl (hQ _ (by omega) (by omega) hE)
    · skip
      replace hE := zf_ip hE c11_9
      refine mm_g 2 (pc1 := 16) (lo1 := [some (.ref 137), some (.int (Int32.ofInt v1)), some (.int (Int32.ofInt v2))]) (st1 := [.int (Int32.ofInt (-1)), .int (Int32.ofInt v1)]) (H1 := mz_mk g x) rfl ?_
      refine mz_ic_eq (tgt := 32) rfl rfl (mz_rg l_v1 u_v1) ⟨by decide, by decide⟩ (fun c16_9 => ?_) (fun c16_9 => ?_)
      · skip
        replace hE := zf_ip hE c16_9
        refine mm_g 2 (pc1 := 34) (lo1 := [some (.ref 137), some (.int (Int32.ofInt v2)), some (.int (Int32.ofInt v2))]) (st1 := []) (H1 := mz_mk g x) rfl ?_
        refine mz_iincR (v := v2) (lo2 := [some (.ref 137), some (.int (Int32.ofInt v2)), some (.int (Int32.ofInt (v2 + 1)))]) rfl rfl rfl (Nat.le_of_ble_eq_true rfl) rfl ?_
        refine mz_gt (tgt := 4) rfl rfl ?_
        exact ih4 ((6 - (v2 + 1)).toNat) (by omega) v2 (v2 + 1) rfl (by omega) (by omega) (by omega) (by omega) ⟨fj7, Nat.lt_of_lt_of_le (show ((6 - (v2 + 1)).toNat) < n5 from (by omega)) fn8, hE⟩
      · skip
        replace hE := zf_in hE c16_9
        refine mm_g 2 (pc1 := 21) (lo1 := [some (.ref 137), some (.int (Int32.ofInt v1)), some (.int (Int32.ofInt v2))]) (st1 := [.int (Int32.ofInt v2), .ref 137]) (H1 := mz_mk g x) rfl ?_
        refine mz_cv rfl mt_12_368 (by decide) (sc_137 _) rfl (Nat.le_of_ble_eq_true rfl) (by omega) (f_X12_blendSize (by omega) hx hI (by omega) (by omega) (fun v10 l_v10 u_v10 hc11 => ⟨_, rfl, ?_⟩))
        show mm_W d mmX12_longestNow 24 [some (.ref 137), some (.int (Int32.ofInt v1)), some (.int (Int32.ofInt v2))] [.int (Int32.ofInt v10)] (mz_mk g x) Q
        replace hE := zf_t1 hE hc11
        refine mm_g 2 (pc1 := 26) (lo1 := [some (.ref 137), some (.int (Int32.ofInt v1)), some (.int (Int32.ofInt v2))]) (st1 := [.int (Int32.ofInt v1), .ref 137, .int (Int32.ofInt v10)]) (H1 := mz_mk g x) rfl ?_
        refine mz_cv rfl mt_12_368 (by decide) (sc_137 _) rfl (Nat.le_of_ble_eq_true rfl) (by omega) (f_X12_blendSize (by omega) hx hI (by omega) (by omega) (fun v12 l_v12 u_v12 hc13 => ⟨_, rfl, ?_⟩))
        show mm_W d mmX12_longestNow 29 [some (.ref 137), some (.int (Int32.ofInt v1)), some (.int (Int32.ofInt v2))] [.int (Int32.ofInt v12), .int (Int32.ofInt v10)] (mz_mk g x) Q
        replace hE := zf_t1 hE hc13
        refine mz_ic_le (tgt := 34) rfl rfl (mz_rg l_v10 u_v10) (mz_rg l_v12 u_v12) (fun c29_13 => ?_) (fun c29_13 => ?_)
        · skip
          replace hE := zf_nl hE c29_13
          refine mz_iincR (v := v2) (lo2 := [some (.ref 137), some (.int (Int32.ofInt v1)), some (.int (Int32.ofInt (v2 + 1)))]) rfl rfl rfl (Nat.le_of_ble_eq_true rfl) rfl ?_
          refine mz_gt (tgt := 4) rfl rfl ?_
          exact ih4 ((6 - (v2 + 1)).toNat) (by omega) v1 (v2 + 1) rfl (by omega) (by omega) (by omega) (by omega) ⟨fj7, Nat.lt_of_lt_of_le (show ((6 - (v2 + 1)).toNat) < n5 from (by omega)) fn8, hE⟩
        · skip
          replace hE := zf_ip hE c29_13
          refine mm_g 2 (pc1 := 34) (lo1 := [some (.ref 137), some (.int (Int32.ofInt v2)), some (.int (Int32.ofInt v2))]) (st1 := []) (H1 := mz_mk g x) rfl ?_
          refine mz_iincR (v := v2) (lo2 := [some (.ref 137), some (.int (Int32.ofInt v2)), some (.int (Int32.ofInt (v2 + 1)))]) rfl rfl rfl (Nat.le_of_ble_eq_true rfl) rfl ?_
          refine mz_gt (tgt := 4) rfl rfl ?_
          exact ih4 ((6 - (v2 + 1)).toNat) (by omega) v2 (v2 + 1) rfl (by omega) (by omega) (by omega) (by omega) ⟨fj7, Nat.lt_of_lt_of_le (show ((6 - (v2 + 1)).toNat) < n5 from (by omega)) fn8, hE⟩
  exact L6 _ (-1) 0 rfl (by decide) (by decide) (by decide) (by decide) ⟨3000000000, by omega, hE⟩
def fw_X12_later (x : mm_X) (a1 : Int) (a2 : Int) : Nat → Nat → Prop := fun k j => (k = 137 ∧ j = 2) ∨ k = 162 ∨ (k = 160 ∧ j = 0) ∨ (k = 160 ∧ j = 1) ∨ (k = 160 ∧ j = 2) ∨ (k = 160 ∧ j = 3) ∨ (k = 160 ∧ j = 4) ∨ (k = 160 ∧ j = 5) ∨ (k = 160 ∧ j = 6) ∨ k = 161 ∨ k = 152 ∨ (k = 137 ∧ j = 30) ∨ k = 153 ∨ k = 154 ∨ k = 155
theorem f_X12_later {d : Nat} (hd : 16 ≤ d) {x : mm_X} (hx : mk_x x) {g : mz_G} (hI : mz_inv g) {a1 : Int} (l_a1 : (-2147483648) ≤ a1) (u_a1 : a1 ≤ 2147483647) {a2 : Int} (l_a2 : (-2147483648) ≤ a2) (u_a2 : a2 ≤ 2147483647) (p1 : mz_pv g) (p2 : g 137 30 ≤ 999) {Q : (Option Value ⊕ Nat) → mm_H → Prop} (hQ : ∀ (r : Int) (g1 : mz_G), mz_inv g1 → mz_fr (fw_X12_later x a1 a2) g g1 → (-2147483648) ≤ r → r ≤ 2147483647 → (g1 137 30 ≤ 999) → zf_E (zF_X12_later a1 a2 g) ((r, g1)) → Q (.inl (some (.int (Int32.ofInt r)))) (mz_mk g1 x)) : mm_C d 262 [.ref 137, .int (Int32.ofInt a1), .int (Int32.ofInt a2)] (mz_mk g x) Q := by
  refine ⟨mmX12_later, [some (.ref 137), some (.int (Int32.ofInt a1)), some (.int (Int32.ofInt a2)), none, none], rfl, rfl, ?_⟩
  have bz0 := mz_rd hI bd_137_30
  have hpv := p1
  have hE : zf_E (zF_X12_later a1 a2 g) (zF_X12_later a1 a2 g) := zf_rf
  refine mm_g 2 (pc1 := 2) (lo1 := [some (.ref 137), some (.int (Int32.ofInt a1)), some (.int (Int32.ofInt a2)), none, none]) (st1 := [.int (Int32.ofInt 0), .ref 137]) (H1 := mz_mk g x) rfl ?_
  refine mz_pI rfl fd_12_154 (sc_137 _) hI bd_137_2 (by omega) (by omega) (fun g1 hIg1 hug1 => ?_)
  replace hE := zf_tr hE (zf_lg hug1)
  refine mm_g 1 (pc1 := 6) (lo1 := [some (.ref 137), some (.int (Int32.ofInt a1)), some (.int (Int32.ofInt a2)), none, none]) (st1 := [.int (Int32.ofInt a2)]) (H1 := mz_mk g1 x) rfl ?_
  refine mz_i2l rfl (mz_rg l_a2 u_a2) ?_
  refine mz_lcst (c := 0) rfl rfl ?_
  refine mz_l2w (c := 2) rfl rfl rfl ?_
  refine mz_cs rfl mt_12_157 (by decide) rfl (Nat.le_of_ble_eq_true rfl) (by omega) (f_X12_isIn (by omega) hx hIg1 (by omega) (by omega) (by omega) (by omega) (by omega) (by omega) (fun v2 l_v2 u_v2 hp3 hc4 => ⟨_, rfl, ?_⟩))
  show mm_W d mmX12_later 14 [some (.ref 137), some (.int (Int32.ofInt a1)), some (.int (Int32.ofInt a2)), none, none] [.int (Int32.ofInt v2)] (mz_mk g1 x) Q
  replace hE := zf_t1 hE hc4
  refine mz_if_ne (tgt := 23) rfl rfl (mz_rg l_v2 u_v2) (fun c14_4 => ?_) (fun c14_4 => ?_)
  · skip
    replace hE := zf_in hE c14_4
    refine mm_g 1 (pc1 := 24) (lo1 := [some (.ref 137), some (.int (Int32.ofInt a1)), some (.int (Int32.ofInt a2)), none, none]) (st1 := [.int (Int32.ofInt a1)]) (H1 := mz_mk g1 x) rfl ?_
    refine mz_i2l rfl (mz_rg l_a1 u_a1) ?_
    refine mz_lcst (c := 0) rfl rfl ?_
    refine mz_l2w (c := 60) rfl rfl rfl ?_
    refine mz_cs rfl mt_12_157 (by decide) rfl (Nat.le_of_ble_eq_true rfl) (by omega) (f_X12_isIn (by omega) hx hIg1 (by omega) (by omega) (by omega) (by omega) (by omega) (by omega) (fun v5 l_v5 u_v5 hp6 hc7 => ⟨_, rfl, ?_⟩))
    show mm_W d mmX12_later 32 [some (.ref 137), some (.int (Int32.ofInt a1)), some (.int (Int32.ofInt a2)), none, none] [.int (Int32.ofInt v5)] (mz_mk g1 x) Q
    replace hE := zf_t1 hE hc7
    refine mz_if_ne (tgt := 41) rfl rfl (mz_rg l_v5 u_v5) (fun c32_7 => ?_) (fun c32_7 => ?_)
    · skip
      replace hE := zf_in hE c32_7
      refine mm_g 1 (pc1 := 42) (lo1 := [some (.ref 137), some (.int (Int32.ofInt a1)), some (.int (Int32.ofInt a2)), none, none]) (st1 := [.ref 137]) (H1 := mz_mk g1 x) rfl ?_
      refine mz_cv rfl mt_12_441 (by decide) (sc_137 _) rfl (Nat.le_of_ble_eq_true rfl) (by omega) (f_X12_allGrown (by omega) hx hIg1 (fun v8 l_v8 u_v8 hc9 => ⟨_, rfl, ?_⟩))
      show mm_W d mmX12_later 45 [some (.ref 137), some (.int (Int32.ofInt a1)), some (.int (Int32.ofInt a2)), none, none] [.int (Int32.ofInt v8)] (mz_mk g1 x) Q
      replace hE := zf_t1 hE hc9
      refine mm_g 3 (pc1 := 48) (lo1 := [some (.ref 137), some (.int (Int32.ofInt a1)), some (.int (Int32.ofInt a2)), some (.int (Int32.ofInt v8)), none]) (st1 := [.ref 137, .ref 137]) (H1 := mz_mk g1 x) rfl ?_
      refine mz_fgR (v := 162) rfl fd_12_103 (by decide) (sc_137 _) (rf_137_40 _ _ _) ?_
      refine mm_g 1 (pc1 := 52) (lo1 := [some (.ref 137), some (.int (Int32.ofInt a1)), some (.int (Int32.ofInt a2)), some (.int (Int32.ofInt v8)), none]) (st1 := [.int (Int32.ofInt 0), .ref 162, .ref 137]) (H1 := mz_mk g1 x) rfl ?_
      refine mz_cv rfl mt_12_397 (by decide) (sc_137 _) rfl (Nat.le_of_ble_eq_true rfl) (by omega) (f_X12_store (by omega) hx hIg1 rwp_162 (by decide) (by decide) (by omega) (by omega) (by have h9 := (show g1 137 30 = (g 137 30) from ((hug1.2 137 30 (fun h => absurd h.2 (by decide))).trans rfl)); omega) (fun g10 hIg10 hfg10 hc11 => ⟨_, rfl, ?_⟩))
      show mm_W d mmX12_later 55 [some (.ref 137), some (.int (Int32.ofInt a1)), some (.int (Int32.ofInt a2)), some (.int (Int32.ofInt v8)), none] [] (mz_mk g10 x) Q
      replace hE := zf_t1 hE hc11
      refine mm_g 2 (pc1 := 57) (lo1 := [some (.ref 137), some (.int (Int32.ofInt a1)), some (.int (Int32.ofInt a2)), some (.int (Int32.ofInt v8)), none]) (st1 := [.int (Int32.ofInt a1), .ref 137]) (H1 := mz_mk g10 x) rfl ?_
      have hq12 : g10 137 30 = (g 137 30) := (show g10 137 30 = (g 137 30) from ((hfg10 137 30 (fun h => (absurd (show 137 = 162 from h) (by decide)))).trans ((hug1.2 137 30 (fun h => absurd h.2 (by decide))).trans rfl)))
      refine mz_cv rfl mt_12_409 (by decide) (sc_137 _) rfl (Nat.le_of_ble_eq_true rfl) (by omega) (f_X12_goOn (by omega) hx hIg10 (by omega) (by omega) (mz_pv_fr hpv (fun _j => ((hfg10 149 _j (fun h => (absurd (show 149 = 162 from h) (by decide)))).trans ((hug1.2 149 _j (fun h => absurd h.1 (by decide))).trans rfl))) ((hfg10 140 3 (fun h => (absurd (show 140 = 162 from h) (by decide)))).trans ((hug1.2 140 3 (fun h => absurd h.1 (by decide))).trans rfl))) (by have h9 := (show g10 137 30 = (g 137 30) from ((hfg10 137 30 (fun h => (absurd (show 137 = 162 from h) (by decide)))).trans ((hug1.2 137 30 (fun h => absurd h.2 (by decide))).trans rfl))); omega) (fun g13 hIg13 hfg13 hp14 hc15 => ⟨_, rfl, ?_⟩))
      show mm_W d mmX12_later 60 [some (.ref 137), some (.int (Int32.ofInt a1)), some (.int (Int32.ofInt a2)), some (.int (Int32.ofInt v8)), none] [] (mz_mk g13 x) Q
      replace hE := zf_t1 hE hc15
      refine mm_g 1 (pc1 := 61) (lo1 := [some (.ref 137), some (.int (Int32.ofInt a1)), some (.int (Int32.ofInt a2)), some (.int (Int32.ofInt v8)), none]) (st1 := [.int (Int32.ofInt a2)]) (H1 := mz_mk g13 x) rfl ?_
      refine mz_if_ne (tgt := 71) rfl rfl (mz_rg l_a2 u_a2) (fun c61_15 => ?_) (fun c61_15 => ?_)
      · skip
        replace hE := zf_in hE c61_15
        refine mm_g 2 (pc1 := 73) (lo1 := [some (.ref 137), some (.int (Int32.ofInt a1)), some (.int (Int32.ofInt a2)), some (.int (Int32.ofInt v8)), none]) (st1 := [.int (Int32.ofInt 1), .int (Int32.ofInt a2)]) (H1 := mz_mk g13 x) rfl ?_
        refine mz_ic_ne (tgt := 83) rfl rfl (mz_rg l_a2 u_a2) ⟨by decide, by decide⟩ (fun c73_15 => ?_) (fun c73_15 => ?_)
        · skip
          replace hE := zf_in hE c73_15
          refine mm_g 1 (pc1 := 84) (lo1 := [some (.ref 137), some (.int (Int32.ofInt a1)), some (.int (Int32.ofInt a2)), some (.int (Int32.ofInt v8)), none]) (st1 := [.ref 137]) (H1 := mz_mk g13 x) rfl ?_
          refine mz_cv rfl mt_12_441 (by decide) (sc_137 _) rfl (Nat.le_of_ble_eq_true rfl) (by omega) (f_X12_allGrown (by omega) hx hIg13 (fun v16 l_v16 u_v16 hc17 => ⟨_, rfl, ?_⟩))
          show mm_W d mmX12_later 87 [some (.ref 137), some (.int (Int32.ofInt a1)), some (.int (Int32.ofInt a2)), some (.int (Int32.ofInt v8)), none] [.int (Int32.ofInt v16)] (mz_mk g13 x) Q
          replace hE := zf_t1 hE hc17
          refine mm_g 1 (pc1 := 88) (lo1 := [some (.ref 137), some (.int (Int32.ofInt a1)), some (.int (Int32.ofInt a2)), some (.int (Int32.ofInt v8)), none]) (st1 := [.int (Int32.ofInt v8), .int (Int32.ofInt v16)]) (H1 := mz_mk g13 x) rfl ?_
          refine mz_isub_w rfl (fun v18 e_v18 hwv18 => ?_)
          have l_v18 := hwv18.1
          have u_v18 := hwv18.2
          replace hE := zf_tr hE (zf_le e_v18.symm)
          refine mm_g 3 (pc1 := 93) (lo1 := [some (.ref 137), some (.int (Int32.ofInt a1)), some (.int (Int32.ofInt a2)), some (.int (Int32.ofInt v8)), some (.int (Int32.ofInt v18))]) (st1 := [.ref 137, .ref 137]) (H1 := mz_mk g13 x) rfl ?_
          refine mz_fgR (v := 162) rfl fd_12_103 (by decide) (sc_137 _) (rf_137_40 _ _ _) ?_
          refine mm_g 1 (pc1 := 97) (lo1 := [some (.ref 137), some (.int (Int32.ofInt a1)), some (.int (Int32.ofInt a2)), some (.int (Int32.ofInt v8)), some (.int (Int32.ofInt v18))]) (st1 := [.int (Int32.ofInt 0), .ref 162, .ref 137]) (H1 := mz_mk g13 x) rfl ?_
          refine mz_cv rfl mt_12_421 (by decide) (sc_137 _) rfl (Nat.le_of_ble_eq_true rfl) (by omega) (f_X12_recall (by omega) hx hIg13 rwp_162 (by decide) (by decide) (by omega) (by omega) (fun g19 hIg19 hfg19 hp20 hc21 => ⟨_, rfl, ?_⟩))
          show mm_W d mmX12_later 100 [some (.ref 137), some (.int (Int32.ofInt a1)), some (.int (Int32.ofInt a2)), some (.int (Int32.ofInt v8)), some (.int (Int32.ofInt v18))] [] (mz_mk g19 x) Q
          replace hE := zf_t1 hE hc21
          refine mm_g 1 (pc1 := 102) (lo1 := [some (.ref 137), some (.int (Int32.ofInt a1)), some (.int (Int32.ofInt a2)), some (.int (Int32.ofInt v8)), some (.int (Int32.ofInt v18))]) (st1 := [.int (Int32.ofInt v18)]) (H1 := mz_mk g19 x) rfl ?_
          exact mm_rt rfl rfl (hQ _ _ hIg19 (fun k j hk => ((hfg19 k j (fun h => hk (Or.elim h (fun h => (Or.inr (Or.inr (Or.inr (Or.inr (Or.inr (Or.inr (Or.inr (Or.inr (Or.inr (Or.inr (Or.inr (Or.inl h))))))))))))) (fun h => (Or.elim h (fun h => (Or.inr (Or.inr (Or.inr (Or.inr (Or.inr (Or.inr (Or.inr (Or.inr (Or.inr (Or.inr (Or.inl h)))))))))))) (fun h => (Or.elim h (fun h => (Or.inr (Or.inr (Or.inr (Or.inr (Or.inr (Or.inr (Or.inr (Or.inr (Or.inr (Or.inr (Or.inr (Or.inr (Or.inl h)))))))))))))) (fun h => (Or.elim h (fun h => (Or.inr (Or.inr (Or.inr (Or.inr (Or.inr (Or.inr (Or.inr (Or.inr (Or.inr (Or.inr (Or.inr (Or.inr (Or.inr (Or.inl h))))))))))))))) (fun h => (Or.inr (Or.inr (Or.inr (Or.inr (Or.inr (Or.inr (Or.inr (Or.inr (Or.inr (Or.inr (Or.inr (Or.inr (Or.inr (Or.inr h)))))))))))))))))))))))).trans ((hfg13 k j (fun h => hk (Or.elim h (fun h => (Or.inr (Or.inr (Or.inl h)))) (fun h => (Or.elim h (fun h => (Or.inr (Or.inr (Or.inr (Or.inl h))))) (fun h => (Or.elim h (fun h => (Or.inr (Or.inr (Or.inr (Or.inr (Or.inl h)))))) (fun h => (Or.elim h (fun h => (Or.inr (Or.inr (Or.inr (Or.inr (Or.inr (Or.inl h))))))) (fun h => (Or.elim h (fun h => (Or.inr (Or.inr (Or.inr (Or.inr (Or.inr (Or.inr (Or.inl h)))))))) (fun h => (Or.elim h (fun h => (Or.inr (Or.inr (Or.inr (Or.inr (Or.inr (Or.inr (Or.inr (Or.inl h))))))))) (fun h => (Or.elim h (fun h => (Or.inr (Or.inr (Or.inr (Or.inr (Or.inr (Or.inr (Or.inr (Or.inr (Or.inl h)))))))))) (fun h => (Or.elim h (fun h => (Or.inr (Or.inr (Or.inr (Or.inr (Or.inr (Or.inr (Or.inr (Or.inr (Or.inr (Or.inl h))))))))))) (fun h => (Or.elim h (fun h => (Or.inr (Or.inr (Or.inr (Or.inr (Or.inr (Or.inr (Or.inr (Or.inr (Or.inr (Or.inr (Or.inl h)))))))))))) (fun h => (Or.inr (Or.inr (Or.inr (Or.inr (Or.inr (Or.inr (Or.inr (Or.inr (Or.inr (Or.inr (Or.inr (Or.inl h)))))))))))))))))))))))))))))))).trans ((hfg10 k j (fun h => hk (Or.inr (Or.inl h)))).trans (hug1.2 k j (fun h => hk (Or.inl h))))))) (by omega) (by omega) (by omega) hE)
        · skip
          replace hE := zf_ip hE c73_15
          refine mm_g 1 (pc1 := 77) (lo1 := [some (.ref 137), some (.int (Int32.ofInt a1)), some (.int (Int32.ofInt a2)), some (.int (Int32.ofInt v8)), none]) (st1 := [.ref 137]) (H1 := mz_mk g13 x) rfl ?_
          refine mz_cv rfl mt_12_444 (by decide) (sc_137 _) rfl (Nat.le_of_ble_eq_true rfl) (by omega) (f_X12_longestNow (by omega) hx hIg13 (fun v22 l_v22 u_v22 hc23 => ⟨_, rfl, ?_⟩))
          show mm_W d mmX12_later 80 [some (.ref 137), some (.int (Int32.ofInt a1)), some (.int (Int32.ofInt a2)), some (.int (Int32.ofInt v8)), none] [.int (Int32.ofInt v22)] (mz_mk g13 x) Q
          replace hE := zf_t1 hE hc23
          refine mz_gt (tgt := 89) rfl rfl ?_
          refine mm_g 3 (pc1 := 93) (lo1 := [some (.ref 137), some (.int (Int32.ofInt a1)), some (.int (Int32.ofInt a2)), some (.int (Int32.ofInt v8)), some (.int (Int32.ofInt v22))]) (st1 := [.ref 137, .ref 137]) (H1 := mz_mk g13 x) rfl ?_
          refine mz_fgR (v := 162) rfl fd_12_103 (by decide) (sc_137 _) (rf_137_40 _ _ _) ?_
          refine mm_g 1 (pc1 := 97) (lo1 := [some (.ref 137), some (.int (Int32.ofInt a1)), some (.int (Int32.ofInt a2)), some (.int (Int32.ofInt v8)), some (.int (Int32.ofInt v22))]) (st1 := [.int (Int32.ofInt 0), .ref 162, .ref 137]) (H1 := mz_mk g13 x) rfl ?_
          refine mz_cv rfl mt_12_421 (by decide) (sc_137 _) rfl (Nat.le_of_ble_eq_true rfl) (by omega) (f_X12_recall (by omega) hx hIg13 rwp_162 (by decide) (by decide) (by omega) (by omega) (fun g24 hIg24 hfg24 hp25 hc26 => ⟨_, rfl, ?_⟩))
          show mm_W d mmX12_later 100 [some (.ref 137), some (.int (Int32.ofInt a1)), some (.int (Int32.ofInt a2)), some (.int (Int32.ofInt v8)), some (.int (Int32.ofInt v22))] [] (mz_mk g24 x) Q
          replace hE := zf_t1 hE hc26
          refine mm_g 1 (pc1 := 102) (lo1 := [some (.ref 137), some (.int (Int32.ofInt a1)), some (.int (Int32.ofInt a2)), some (.int (Int32.ofInt v8)), some (.int (Int32.ofInt v22))]) (st1 := [.int (Int32.ofInt v22)]) (H1 := mz_mk g24 x) rfl ?_
          exact mm_rt rfl rfl (hQ _ _ hIg24 (fun k j hk => ((hfg24 k j (fun h => hk (Or.elim h (fun h => (Or.inr (Or.inr (Or.inr (Or.inr (Or.inr (Or.inr (Or.inr (Or.inr (Or.inr (Or.inr (Or.inr (Or.inl h))))))))))))) (fun h => (Or.elim h (fun h => (Or.inr (Or.inr (Or.inr (Or.inr (Or.inr (Or.inr (Or.inr (Or.inr (Or.inr (Or.inr (Or.inl h)))))))))))) (fun h => (Or.elim h (fun h => (Or.inr (Or.inr (Or.inr (Or.inr (Or.inr (Or.inr (Or.inr (Or.inr (Or.inr (Or.inr (Or.inr (Or.inr (Or.inl h)))))))))))))) (fun h => (Or.elim h (fun h => (Or.inr (Or.inr (Or.inr (Or.inr (Or.inr (Or.inr (Or.inr (Or.inr (Or.inr (Or.inr (Or.inr (Or.inr (Or.inr (Or.inl h))))))))))))))) (fun h => (Or.inr (Or.inr (Or.inr (Or.inr (Or.inr (Or.inr (Or.inr (Or.inr (Or.inr (Or.inr (Or.inr (Or.inr (Or.inr (Or.inr h)))))))))))))))))))))))).trans ((hfg13 k j (fun h => hk (Or.elim h (fun h => (Or.inr (Or.inr (Or.inl h)))) (fun h => (Or.elim h (fun h => (Or.inr (Or.inr (Or.inr (Or.inl h))))) (fun h => (Or.elim h (fun h => (Or.inr (Or.inr (Or.inr (Or.inr (Or.inl h)))))) (fun h => (Or.elim h (fun h => (Or.inr (Or.inr (Or.inr (Or.inr (Or.inr (Or.inl h))))))) (fun h => (Or.elim h (fun h => (Or.inr (Or.inr (Or.inr (Or.inr (Or.inr (Or.inr (Or.inl h)))))))) (fun h => (Or.elim h (fun h => (Or.inr (Or.inr (Or.inr (Or.inr (Or.inr (Or.inr (Or.inr (Or.inl h))))))))) (fun h => (Or.elim h (fun h => (Or.inr (Or.inr (Or.inr (Or.inr (Or.inr (Or.inr (Or.inr (Or.inr (Or.inl h)))))))))) (fun h => (Or.elim h (fun h => (Or.inr (Or.inr (Or.inr (Or.inr (Or.inr (Or.inr (Or.inr (Or.inr (Or.inr (Or.inl h))))))))))) (fun h => (Or.elim h (fun h => (Or.inr (Or.inr (Or.inr (Or.inr (Or.inr (Or.inr (Or.inr (Or.inr (Or.inr (Or.inr (Or.inl h)))))))))))) (fun h => (Or.inr (Or.inr (Or.inr (Or.inr (Or.inr (Or.inr (Or.inr (Or.inr (Or.inr (Or.inr (Or.inr (Or.inl h)))))))))))))))))))))))))))))))).trans ((hfg10 k j (fun h => hk (Or.inr (Or.inl h)))).trans (hug1.2 k j (fun h => hk (Or.inl h))))))) (by omega) (by omega) (by omega) hE)
      · skip
        replace hE := zf_ip hE c61_15
        refine mm_g 1 (pc1 := 65) (lo1 := [some (.ref 137), some (.int (Int32.ofInt a1)), some (.int (Int32.ofInt a2)), some (.int (Int32.ofInt v8)), none]) (st1 := [.ref 137]) (H1 := mz_mk g13 x) rfl ?_
        refine mz_cv rfl mt_12_371 (by decide) (sc_137 _) rfl (Nat.le_of_ble_eq_true rfl) (by omega) (f_X12_fullOnes (by omega) hx hIg13 (fun v27 l_v27 u_v27 hc28 => ⟨_, rfl, ?_⟩))
        show mm_W d mmX12_later 68 [some (.ref 137), some (.int (Int32.ofInt a1)), some (.int (Int32.ofInt a2)), some (.int (Int32.ofInt v8)), none] [.int (Int32.ofInt v27)] (mz_mk g13 x) Q
        replace hE := zf_t1 hE hc28
        refine mz_gt (tgt := 89) rfl rfl ?_
        refine mm_g 3 (pc1 := 93) (lo1 := [some (.ref 137), some (.int (Int32.ofInt a1)), some (.int (Int32.ofInt a2)), some (.int (Int32.ofInt v8)), some (.int (Int32.ofInt v27))]) (st1 := [.ref 137, .ref 137]) (H1 := mz_mk g13 x) rfl ?_
        refine mz_fgR (v := 162) rfl fd_12_103 (by decide) (sc_137 _) (rf_137_40 _ _ _) ?_
        refine mm_g 1 (pc1 := 97) (lo1 := [some (.ref 137), some (.int (Int32.ofInt a1)), some (.int (Int32.ofInt a2)), some (.int (Int32.ofInt v8)), some (.int (Int32.ofInt v27))]) (st1 := [.int (Int32.ofInt 0), .ref 162, .ref 137]) (H1 := mz_mk g13 x) rfl ?_
        refine mz_cv rfl mt_12_421 (by decide) (sc_137 _) rfl (Nat.le_of_ble_eq_true rfl) (by omega) (f_X12_recall (by omega) hx hIg13 rwp_162 (by decide) (by decide) (by omega) (by omega) (fun g29 hIg29 hfg29 hp30 hc31 => ⟨_, rfl, ?_⟩))
        show mm_W d mmX12_later 100 [some (.ref 137), some (.int (Int32.ofInt a1)), some (.int (Int32.ofInt a2)), some (.int (Int32.ofInt v8)), some (.int (Int32.ofInt v27))] [] (mz_mk g29 x) Q
        replace hE := zf_t1 hE hc31
        refine mm_g 1 (pc1 := 102) (lo1 := [some (.ref 137), some (.int (Int32.ofInt a1)), some (.int (Int32.ofInt a2)), some (.int (Int32.ofInt v8)), some (.int (Int32.ofInt v27))]) (st1 := [.int (Int32.ofInt v27)]) (H1 := mz_mk g29 x) rfl ?_
        exact mm_rt rfl rfl (hQ _ _ hIg29 (fun k j hk => ((hfg29 k j (fun h => hk (Or.elim h (fun h => (Or.inr (Or.inr (Or.inr (Or.inr (Or.inr (Or.inr (Or.inr (Or.inr (Or.inr (Or.inr (Or.inr (Or.inl h))))))))))))) (fun h => (Or.elim h (fun h => (Or.inr (Or.inr (Or.inr (Or.inr (Or.inr (Or.inr (Or.inr (Or.inr (Or.inr (Or.inr (Or.inl h)))))))))))) (fun h => (Or.elim h (fun h => (Or.inr (Or.inr (Or.inr (Or.inr (Or.inr (Or.inr (Or.inr (Or.inr (Or.inr (Or.inr (Or.inr (Or.inr (Or.inl h)))))))))))))) (fun h => (Or.elim h (fun h => (Or.inr (Or.inr (Or.inr (Or.inr (Or.inr (Or.inr (Or.inr (Or.inr (Or.inr (Or.inr (Or.inr (Or.inr (Or.inr (Or.inl h))))))))))))))) (fun h => (Or.inr (Or.inr (Or.inr (Or.inr (Or.inr (Or.inr (Or.inr (Or.inr (Or.inr (Or.inr (Or.inr (Or.inr (Or.inr (Or.inr h)))))))))))))))))))))))).trans ((hfg13 k j (fun h => hk (Or.elim h (fun h => (Or.inr (Or.inr (Or.inl h)))) (fun h => (Or.elim h (fun h => (Or.inr (Or.inr (Or.inr (Or.inl h))))) (fun h => (Or.elim h (fun h => (Or.inr (Or.inr (Or.inr (Or.inr (Or.inl h)))))) (fun h => (Or.elim h (fun h => (Or.inr (Or.inr (Or.inr (Or.inr (Or.inr (Or.inl h))))))) (fun h => (Or.elim h (fun h => (Or.inr (Or.inr (Or.inr (Or.inr (Or.inr (Or.inr (Or.inl h)))))))) (fun h => (Or.elim h (fun h => (Or.inr (Or.inr (Or.inr (Or.inr (Or.inr (Or.inr (Or.inr (Or.inl h))))))))) (fun h => (Or.elim h (fun h => (Or.inr (Or.inr (Or.inr (Or.inr (Or.inr (Or.inr (Or.inr (Or.inr (Or.inl h)))))))))) (fun h => (Or.elim h (fun h => (Or.inr (Or.inr (Or.inr (Or.inr (Or.inr (Or.inr (Or.inr (Or.inr (Or.inr (Or.inl h))))))))))) (fun h => (Or.elim h (fun h => (Or.inr (Or.inr (Or.inr (Or.inr (Or.inr (Or.inr (Or.inr (Or.inr (Or.inr (Or.inr (Or.inl h)))))))))))) (fun h => (Or.inr (Or.inr (Or.inr (Or.inr (Or.inr (Or.inr (Or.inr (Or.inr (Or.inr (Or.inr (Or.inr (Or.inl h)))))))))))))))))))))))))))))))).trans ((hfg10 k j (fun h => hk (Or.inr (Or.inl h)))).trans (hug1.2 k j (fun h => hk (Or.inl h))))))) (by omega) (by omega) (by omega) hE)
    · skip
      replace hE := zf_ip hE c32_7
      refine mm_g 2 (pc1 := 37) (lo1 := [some (.ref 137), some (.int (Int32.ofInt a1)), some (.int (Int32.ofInt a2)), none, none]) (st1 := [.int (Int32.ofInt 2), .ref 137]) (H1 := mz_mk g1 x) rfl ?_
      refine mz_cv rfl mt_12_294 (by decide) (sc_137 _) rfl (Nat.le_of_ble_eq_true rfl) (by omega) (f_X12_fail (by omega) hx hIg1 (by decide) (by decide) (fun v32 g33 hIg33 hfg33 l_v32 u_v32 hc34 => ⟨_, rfl, ?_⟩))
      show mm_W d mmX12_later 40 [some (.ref 137), some (.int (Int32.ofInt a1)), some (.int (Int32.ofInt a2)), none, none] [.int (Int32.ofInt v32)] (mz_mk g33 x) Q
      replace hE := zf_t2 hE hc34
      exact mm_rt rfl rfl (hQ _ _ hIg33 (fun k j hk => ((hfg33 k j (fun h => hk (Or.inl h))).trans (hug1.2 k j (fun h => hk (Or.inl h))))) (by omega) (by omega) (by have h9 := (show g33 137 30 = (g 137 30) from ((hfg33 137 30 (fun h => (absurd (show (137 = 137 ∧ 30 = 2) from h) (by decide)))).trans ((hug1.2 137 30 (fun h => absurd h.2 (by decide))).trans rfl))); omega) hE)
  · skip
    replace hE := zf_ip hE c14_4
    refine mm_g 2 (pc1 := 19) (lo1 := [some (.ref 137), some (.int (Int32.ofInt a1)), some (.int (Int32.ofInt a2)), none, none]) (st1 := [.int (Int32.ofInt 1), .ref 137]) (H1 := mz_mk g1 x) rfl ?_
    refine mz_cv rfl mt_12_294 (by decide) (sc_137 _) rfl (Nat.le_of_ble_eq_true rfl) (by omega) (f_X12_fail (by omega) hx hIg1 (by decide) (by decide) (fun v35 g36 hIg36 hfg36 l_v35 u_v35 hc37 => ⟨_, rfl, ?_⟩))
    show mm_W d mmX12_later 22 [some (.ref 137), some (.int (Int32.ofInt a1)), some (.int (Int32.ofInt a2)), none, none] [.int (Int32.ofInt v35)] (mz_mk g36 x) Q
    replace hE := zf_t2 hE hc37
    exact mm_rt rfl rfl (hQ _ _ hIg36 (fun k j hk => ((hfg36 k j (fun h => hk (Or.inl h))).trans (hug1.2 k j (fun h => hk (Or.inl h))))) (by omega) (by omega) (by have h9 := (show g36 137 30 = (g 137 30) from ((hfg36 137 30 (fun h => (absurd (show (137 = 137 ∧ 30 = 2) from h) (by decide)))).trans ((hug1.2 137 30 (fun h => absurd h.2 (by decide))).trans rfl))); omega) hE)
def fl_X12_full_32 (x : mm_X) (a1 : Int) : Nat → Nat → Prop := fun k j => (k = 160 ∧ j = 0) ∨ (k = 160 ∧ j = 1) ∨ (k = 160 ∧ j = 2) ∨ (k = 160 ∧ j = 3) ∨ (k = 160 ∧ j = 4) ∨ (k = 160 ∧ j = 5) ∨ (k = 160 ∧ j = 6) ∨ k = 161 ∨ k = 152 ∨ (k = 137 ∧ j = 30)
def fw_X12_full (x : mm_X) (a1 : Int) : Nat → Nat → Prop := fun k j => (k = 137 ∧ j = 2) ∨ k = 162 ∨ (k = 160 ∧ j = 0) ∨ (k = 160 ∧ j = 1) ∨ (k = 160 ∧ j = 2) ∨ (k = 160 ∧ j = 3) ∨ (k = 160 ∧ j = 4) ∨ (k = 160 ∧ j = 5) ∨ (k = 160 ∧ j = 6) ∨ k = 161 ∨ k = 152 ∨ (k = 137 ∧ j = 30) ∨ k = 153 ∨ k = 154 ∨ k = 155
theorem f_X12_full {d : Nat} (hd : 16 ≤ d) {x : mm_X} (hx : mk_x x) {g : mz_G} (hI : mz_inv g) {a1 : Int} (l_a1 : (-2147483648) ≤ a1) (u_a1 : a1 ≤ 2147483647) (p1 : mz_pv g) (p2 : g 137 30 ≤ 999) {Q : (Option Value ⊕ Nat) → mm_H → Prop} (hQ : ∀ (r : Int) (g1 : mz_G), mz_inv g1 → mz_fr (fw_X12_full x a1) g g1 → (-1) ≤ r → r ≤ 60 → (g1 137 30 ≤ 999) → zf_E (zF_X12_full a1 g) ((r, g1)) → Q (.inl (some (.int (Int32.ofInt r)))) (mz_mk g1 x)) : mm_C d 263 [.ref 137, .int (Int32.ofInt a1)] (mz_mk g x) Q := by
  refine ⟨mmX12_full, [some (.ref 137), some (.int (Int32.ofInt a1)), none, none], rfl, rfl, ?_⟩
  have bz0 := mz_rd hI bd_137_30
  have hpv := p1
  have hE : zf_E (zF_X12_full a1 g) (zF_X12_full a1 g) := zf_rf
  refine mm_g 2 (pc1 := 2) (lo1 := [some (.ref 137), some (.int (Int32.ofInt a1)), none, none]) (st1 := [.int (Int32.ofInt 0), .ref 137]) (H1 := mz_mk g x) rfl ?_
  refine mz_pI rfl fd_12_154 (sc_137 _) hI bd_137_2 (by omega) (by omega) (fun g1 hIg1 hug1 => ?_)
  replace hE := zf_tr hE (zf_lg hug1)
  refine mm_g 2 (pc1 := 7) (lo1 := [some (.ref 137), some (.int (Int32.ofInt a1)), none, none]) (st1 := [.int (Int32.ofInt a1), .ref 137]) (H1 := mz_mk g1 x) rfl ?_
  refine mz_cv rfl mt_12_391 (by decide) (sc_137 _) rfl (Nat.le_of_ble_eq_true rfl) (by omega) (f_X12_isTrunk (by omega) hx hIg1 l_a1 u_a1 (fun v2 l_v2 u_v2 hp3 hp4 hc5 => ⟨_, rfl, ?_⟩))
  show mm_W d mmX12_full 10 [some (.ref 137), some (.int (Int32.ofInt a1)), none, none] [.int (Int32.ofInt v2)] (mz_mk g1 x) Q
  replace hE := zf_t1 hE hc5
  refine mz_if_ne (tgt := 19) rfl rfl (mz_rg l_v2 u_v2) (fun c10_5 => ?_) (fun c10_5 => ?_)
  · skip
    replace hE := zf_in hE c10_5
    refine mm_g 2 (pc1 := 21) (lo1 := [some (.ref 137), some (.int (Int32.ofInt a1)), none, none]) (st1 := [.ref 137, .ref 137]) (H1 := mz_mk g1 x) rfl ?_
    refine mz_fgR (v := 162) rfl fd_12_103 (by decide) (sc_137 _) (rf_137_40 _ _ _) ?_
    refine mm_g 1 (pc1 := 25) (lo1 := [some (.ref 137), some (.int (Int32.ofInt a1)), none, none]) (st1 := [.int (Int32.ofInt 0), .ref 162, .ref 137]) (H1 := mz_mk g1 x) rfl ?_
    refine mz_cv rfl mt_12_397 (by decide) (sc_137 _) rfl (Nat.le_of_ble_eq_true rfl) (by omega) (f_X12_store (by omega) hx hIg1 rwp_162 (by decide) (by decide) (by omega) (by omega) (by have h9 := (show g1 137 30 = (g 137 30) from ((hug1.2 137 30 (fun h => absurd h.2 (by decide))).trans rfl)); omega) (fun g6 hIg6 hfg6 hc7 => ⟨_, rfl, ?_⟩))
    show mm_W d mmX12_full 28 [some (.ref 137), some (.int (Int32.ofInt a1)), none, none] [] (mz_mk g6 x) Q
    replace hE := zf_t1 hE hc7
    refine mm_g 4 (pc1 := 32) (lo1 := [some (.ref 137), some (.int (Int32.ofInt a1)), some (.int (Int32.ofInt (-1))), some (.int (Int32.ofInt 0))]) (st1 := []) (H1 := mz_mk g6 x) rfl ?_
    have L13 : ∀ n12 : Nat, ∀ (v8 : Int) (v9 : Int) (g10 : mz_G), (61 - v9).toNat = n12 → (-1) ≤ v8 → v8 ≤ 60 → 0 ≤ v9 → v9 ≤ 61 → mz_inv g10 → mz_fr (fl_X12_full_32 x a1) g6 g10 → (g10 137 30 ≤ 999 + v9) → (∃ fk : Nat, (61 - v9).toNat < fk ∧ zf_E (zF_X12_full a1 g) (zL_X12_full_32 a1 fk v8 v9 g10)) → mm_W d mmX12_full 32 [some (.ref 137), some (.int (Int32.ofInt a1)), some (.int (Int32.ofInt v8)), some (.int (Int32.ofInt v9))] [] (mz_mk g10 x) Q := by
      intro n12
      induction n12 using Nat.strongRecOn with
      | ind n12 ih11 =>
      intro v8 v9 g10 hmn12 l_v8 u_v8 l_v9 u_v9 hIg10 hfg10 hv14 hF
      obtain ⟨fk, fl, hE⟩ := hF
      obtain ⟨fj15, rfl⟩ : ∃ fj, fk = fj + 1 := ⟨fk - 1, by omega⟩
      have fn16 : n12 ≤ fj15 := by omega
      replace hE := zf_tr hE zL_X12_full_32_s
      have bz_g10_30 := mz_rd hIg10 bd_137_30
      refine mm_g 1 (pc1 := 33) (lo1 := [some (.ref 137), some (.int (Int32.ofInt a1)), some (.int (Int32.ofInt v8)), some (.int (Int32.ofInt v9))]) (st1 := [.int (Int32.ofInt v9)]) (H1 := mz_mk g10 x) rfl ?_
      refine mz_bip rfl bip_60 ?_
      refine mz_ic_gt (tgt := 64) rfl rfl (mz_rg l_v9 u_v9) ⟨by decide, by decide⟩ (fun c35_16 => ?_) (fun c35_16 => ?_)
      · skip
        replace hE := zf_ip hE c35_16
        refine mm_g 2 (pc1 := 66) (lo1 := [some (.ref 137), some (.int (Int32.ofInt a1)), some (.int (Int32.ofInt v8)), some (.int (Int32.ofInt v9))]) (st1 := [.ref 137, .ref 137]) (H1 := mz_mk g10 x) rfl ?_
        refine mz_fgR (v := 162) rfl fd_12_103 (by decide) (sc_137 _) (rf_137_40 _ _ _) ?_
        refine mm_g 1 (pc1 := 70) (lo1 := [some (.ref 137), some (.int (Int32.ofInt a1)), some (.int (Int32.ofInt v8)), some (.int (Int32.ofInt v9))]) (st1 := [.int (Int32.ofInt 0), .ref 162, .ref 137]) (H1 := mz_mk g10 x) rfl ?_
        refine mz_cv rfl mt_12_421 (by decide) (sc_137 _) rfl (Nat.le_of_ble_eq_true rfl) (by omega) (f_X12_recall (by omega) hx hIg10 rwp_162 (by decide) (by decide) (by omega) (by omega) (fun g17 hIg17 hfg17 hp18 hc19 => ⟨_, rfl, ?_⟩))
        show mm_W d mmX12_full 73 [some (.ref 137), some (.int (Int32.ofInt a1)), some (.int (Int32.ofInt v8)), some (.int (Int32.ofInt v9))] [] (mz_mk g17 x) Q
        replace hE := zf_t1 hE hc19
        refine mm_g 1 (pc1 := 74) (lo1 := [some (.ref 137), some (.int (Int32.ofInt a1)), some (.int (Int32.ofInt v8)), some (.int (Int32.ofInt v9))]) (st1 := [.int (Int32.ofInt v8)]) (H1 := mz_mk g17 x) rfl ?_
        exact mm_rt rfl rfl (hQ _ _ hIg17 (fun k j hk => ((hfg17 k j (fun h => hk (Or.elim h (fun h => (Or.inr (Or.inr (Or.inr (Or.inr (Or.inr (Or.inr (Or.inr (Or.inr (Or.inr (Or.inr (Or.inr (Or.inl h))))))))))))) (fun h => (Or.elim h (fun h => (Or.inr (Or.inr (Or.inr (Or.inr (Or.inr (Or.inr (Or.inr (Or.inr (Or.inr (Or.inr (Or.inl h)))))))))))) (fun h => (Or.elim h (fun h => (Or.inr (Or.inr (Or.inr (Or.inr (Or.inr (Or.inr (Or.inr (Or.inr (Or.inr (Or.inr (Or.inr (Or.inr (Or.inl h)))))))))))))) (fun h => (Or.elim h (fun h => (Or.inr (Or.inr (Or.inr (Or.inr (Or.inr (Or.inr (Or.inr (Or.inr (Or.inr (Or.inr (Or.inr (Or.inr (Or.inr (Or.inl h))))))))))))))) (fun h => (Or.inr (Or.inr (Or.inr (Or.inr (Or.inr (Or.inr (Or.inr (Or.inr (Or.inr (Or.inr (Or.inr (Or.inr (Or.inr (Or.inr h)))))))))))))))))))))))).trans ((hfg10 k j (fun h => hk (Or.elim h (fun h => (Or.inr (Or.inr (Or.inl h)))) (fun h => (Or.elim h (fun h => (Or.inr (Or.inr (Or.inr (Or.inl h))))) (fun h => (Or.elim h (fun h => (Or.inr (Or.inr (Or.inr (Or.inr (Or.inl h)))))) (fun h => (Or.elim h (fun h => (Or.inr (Or.inr (Or.inr (Or.inr (Or.inr (Or.inl h))))))) (fun h => (Or.elim h (fun h => (Or.inr (Or.inr (Or.inr (Or.inr (Or.inr (Or.inr (Or.inl h)))))))) (fun h => (Or.elim h (fun h => (Or.inr (Or.inr (Or.inr (Or.inr (Or.inr (Or.inr (Or.inr (Or.inl h))))))))) (fun h => (Or.elim h (fun h => (Or.inr (Or.inr (Or.inr (Or.inr (Or.inr (Or.inr (Or.inr (Or.inr (Or.inl h)))))))))) (fun h => (Or.elim h (fun h => (Or.inr (Or.inr (Or.inr (Or.inr (Or.inr (Or.inr (Or.inr (Or.inr (Or.inr (Or.inl h))))))))))) (fun h => (Or.elim h (fun h => (Or.inr (Or.inr (Or.inr (Or.inr (Or.inr (Or.inr (Or.inr (Or.inr (Or.inr (Or.inr (Or.inl h)))))))))))) (fun h => (Or.inr (Or.inr (Or.inr (Or.inr (Or.inr (Or.inr (Or.inr (Or.inr (Or.inr (Or.inr (Or.inr (Or.inl h)))))))))))))))))))))))))))))))).trans ((hfg6 k j (fun h => hk (Or.inr (Or.inl h)))).trans (hug1.2 k j (fun h => hk (Or.inl h))))))) (by omega) (by omega) (by omega) hE)
      · skip
        replace hE := zf_nl hE c35_16
        refine mm_g 2 (pc1 := 40) (lo1 := [some (.ref 137), some (.int (Int32.ofInt a1)), some (.int (Int32.ofInt v8)), some (.int (Int32.ofInt v9))]) (st1 := [.int (Int32.ofInt (-1)), .int (Int32.ofInt v8)]) (H1 := mz_mk g10 x) rfl ?_
        refine mz_ic_ne (tgt := 64) rfl rfl (mz_rg l_v8 u_v8) ⟨by decide, by decide⟩ (fun c40_19 => ?_) (fun c40_19 => ?_)
        · skip
          replace hE := zf_in hE c40_19
          refine mm_g 2 (pc1 := 66) (lo1 := [some (.ref 137), some (.int (Int32.ofInt a1)), some (.int (Int32.ofInt v8)), some (.int (Int32.ofInt v9))]) (st1 := [.ref 137, .ref 137]) (H1 := mz_mk g10 x) rfl ?_
          refine mz_fgR (v := 162) rfl fd_12_103 (by decide) (sc_137 _) (rf_137_40 _ _ _) ?_
          refine mm_g 1 (pc1 := 70) (lo1 := [some (.ref 137), some (.int (Int32.ofInt a1)), some (.int (Int32.ofInt v8)), some (.int (Int32.ofInt v9))]) (st1 := [.int (Int32.ofInt 0), .ref 162, .ref 137]) (H1 := mz_mk g10 x) rfl ?_
          refine mz_cv rfl mt_12_421 (by decide) (sc_137 _) rfl (Nat.le_of_ble_eq_true rfl) (by omega) (f_X12_recall (by omega) hx hIg10 rwp_162 (by decide) (by decide) (by omega) (by omega) (fun g20 hIg20 hfg20 hp21 hc22 => ⟨_, rfl, ?_⟩))
          show mm_W d mmX12_full 73 [some (.ref 137), some (.int (Int32.ofInt a1)), some (.int (Int32.ofInt v8)), some (.int (Int32.ofInt v9))] [] (mz_mk g20 x) Q
          replace hE := zf_t1 hE hc22
          refine mm_g 1 (pc1 := 74) (lo1 := [some (.ref 137), some (.int (Int32.ofInt a1)), some (.int (Int32.ofInt v8)), some (.int (Int32.ofInt v9))]) (st1 := [.int (Int32.ofInt v8)]) (H1 := mz_mk g20 x) rfl ?_
          exact mm_rt rfl rfl (hQ _ _ hIg20 (fun k j hk => ((hfg20 k j (fun h => hk (Or.elim h (fun h => (Or.inr (Or.inr (Or.inr (Or.inr (Or.inr (Or.inr (Or.inr (Or.inr (Or.inr (Or.inr (Or.inr (Or.inl h))))))))))))) (fun h => (Or.elim h (fun h => (Or.inr (Or.inr (Or.inr (Or.inr (Or.inr (Or.inr (Or.inr (Or.inr (Or.inr (Or.inr (Or.inl h)))))))))))) (fun h => (Or.elim h (fun h => (Or.inr (Or.inr (Or.inr (Or.inr (Or.inr (Or.inr (Or.inr (Or.inr (Or.inr (Or.inr (Or.inr (Or.inr (Or.inl h)))))))))))))) (fun h => (Or.elim h (fun h => (Or.inr (Or.inr (Or.inr (Or.inr (Or.inr (Or.inr (Or.inr (Or.inr (Or.inr (Or.inr (Or.inr (Or.inr (Or.inr (Or.inl h))))))))))))))) (fun h => (Or.inr (Or.inr (Or.inr (Or.inr (Or.inr (Or.inr (Or.inr (Or.inr (Or.inr (Or.inr (Or.inr (Or.inr (Or.inr (Or.inr h)))))))))))))))))))))))).trans ((hfg10 k j (fun h => hk (Or.elim h (fun h => (Or.inr (Or.inr (Or.inl h)))) (fun h => (Or.elim h (fun h => (Or.inr (Or.inr (Or.inr (Or.inl h))))) (fun h => (Or.elim h (fun h => (Or.inr (Or.inr (Or.inr (Or.inr (Or.inl h)))))) (fun h => (Or.elim h (fun h => (Or.inr (Or.inr (Or.inr (Or.inr (Or.inr (Or.inl h))))))) (fun h => (Or.elim h (fun h => (Or.inr (Or.inr (Or.inr (Or.inr (Or.inr (Or.inr (Or.inl h)))))))) (fun h => (Or.elim h (fun h => (Or.inr (Or.inr (Or.inr (Or.inr (Or.inr (Or.inr (Or.inr (Or.inl h))))))))) (fun h => (Or.elim h (fun h => (Or.inr (Or.inr (Or.inr (Or.inr (Or.inr (Or.inr (Or.inr (Or.inr (Or.inl h)))))))))) (fun h => (Or.elim h (fun h => (Or.inr (Or.inr (Or.inr (Or.inr (Or.inr (Or.inr (Or.inr (Or.inr (Or.inr (Or.inl h))))))))))) (fun h => (Or.elim h (fun h => (Or.inr (Or.inr (Or.inr (Or.inr (Or.inr (Or.inr (Or.inr (Or.inr (Or.inr (Or.inr (Or.inl h)))))))))))) (fun h => (Or.inr (Or.inr (Or.inr (Or.inr (Or.inr (Or.inr (Or.inr (Or.inr (Or.inr (Or.inr (Or.inr (Or.inl h)))))))))))))))))))))))))))))))).trans ((hfg6 k j (fun h => hk (Or.inr (Or.inl h)))).trans (hug1.2 k j (fun h => hk (Or.inl h))))))) (by omega) (by omega) (by omega) hE)
        · skip
          replace hE := zf_ip hE c40_19
          refine mm_g 2 (pc1 := 45) (lo1 := [some (.ref 137), some (.int (Int32.ofInt a1)), some (.int (Int32.ofInt v8)), some (.int (Int32.ofInt v9))]) (st1 := [.int (Int32.ofInt a1), .ref 137]) (H1 := mz_mk g10 x) rfl ?_
          refine mz_cv rfl mt_12_365 (by decide) (sc_137 _) rfl (Nat.le_of_ble_eq_true rfl) (by omega) (f_X12_isFull (by omega) hx hIg10 (by omega) (by omega) (fun v23 l_v23 u_v23 hc24 => ⟨_, rfl, ?_⟩))
          show mm_W d mmX12_full 48 [some (.ref 137), some (.int (Int32.ofInt a1)), some (.int (Int32.ofInt v8)), some (.int (Int32.ofInt v9))] [.int (Int32.ofInt v23)] (mz_mk g10 x) Q
          replace hE := zf_t1 hE hc24
          refine mz_if_eq (tgt := 53) rfl rfl (mz_rg l_v23 u_v23) (fun c48_24 => ?_) (fun c48_24 => ?_)
          · skip
            replace hE := zf_ip hE c48_24
            refine mm_g 2 (pc1 := 55) (lo1 := [some (.ref 137), some (.int (Int32.ofInt a1)), some (.int (Int32.ofInt v8)), some (.int (Int32.ofInt v9))]) (st1 := [.int (Int32.ofInt 1), .ref 137]) (H1 := mz_mk g10 x) rfl ?_
            refine mz_cv rfl mt_12_409 (by decide) (sc_137 _) rfl (Nat.le_of_ble_eq_true rfl) (by omega) (f_X12_goOn (by omega) hx hIg10 (by decide) (by decide) (mz_pv_fr hpv (fun _j => ((hfg10 149 _j nj_23).trans ((hfg6 149 _j (fun h => (absurd (show 149 = 162 from h) (by decide)))).trans ((hug1.2 149 _j (fun h => absurd h.1 (by decide))).trans rfl)))) ((hfg10 140 3 nj_24).trans ((hfg6 140 3 (fun h => (absurd (show 140 = 162 from h) (by decide)))).trans ((hug1.2 140 3 (fun h => absurd h.1 (by decide))).trans rfl)))) (by omega) (fun g26 hIg26 hfg26 hp27 hc28 => ⟨_, rfl, ?_⟩))
            show mm_W d mmX12_full 58 [some (.ref 137), some (.int (Int32.ofInt a1)), some (.int (Int32.ofInt v8)), some (.int (Int32.ofInt v9))] [] (mz_mk g26 x) Q
            replace hE := zf_t1 hE hc28
            refine mz_iincR (v := v9) (lo2 := [some (.ref 137), some (.int (Int32.ofInt a1)), some (.int (Int32.ofInt v8)), some (.int (Int32.ofInt (v9 + 1)))]) rfl rfl rfl (Nat.le_of_ble_eq_true rfl) rfl ?_
            refine mz_gt (tgt := 32) rfl rfl ?_
            exact ih11 ((61 - (v9 + 1)).toNat) (by omega) v8 (v9 + 1) g26 rfl (by omega) (by omega) (by omega) (by omega) hIg26 (fun k j hk => ((hfg26 k j (fun h => hk (Or.elim h (fun h => (Or.inl h)) (fun h => (Or.elim h (fun h => (Or.inr (Or.inl h))) (fun h => (Or.elim h (fun h => (Or.inr (Or.inr (Or.inl h)))) (fun h => (Or.elim h (fun h => (Or.inr (Or.inr (Or.inr (Or.inl h))))) (fun h => (Or.elim h (fun h => (Or.inr (Or.inr (Or.inr (Or.inr (Or.inl h)))))) (fun h => (Or.elim h (fun h => (Or.inr (Or.inr (Or.inr (Or.inr (Or.inr (Or.inl h))))))) (fun h => (Or.elim h (fun h => (Or.inr (Or.inr (Or.inr (Or.inr (Or.inr (Or.inr (Or.inl h)))))))) (fun h => (Or.elim h (fun h => (Or.inr (Or.inr (Or.inr (Or.inr (Or.inr (Or.inr (Or.inr (Or.inl h))))))))) (fun h => (Or.elim h (fun h => (Or.inr (Or.inr (Or.inr (Or.inr (Or.inr (Or.inr (Or.inr (Or.inr (Or.inl h)))))))))) (fun h => (Or.inr (Or.inr (Or.inr (Or.inr (Or.inr (Or.inr (Or.inr (Or.inr (Or.inr h))))))))))))))))))))))))))))).trans (hfg10 k j (fun h => hk (Or.elim h (fun h => (Or.inl h)) (fun h => (Or.elim h (fun h => (Or.inr (Or.inl h))) (fun h => (Or.elim h (fun h => (Or.inr (Or.inr (Or.inl h)))) (fun h => (Or.elim h (fun h => (Or.inr (Or.inr (Or.inr (Or.inl h))))) (fun h => (Or.elim h (fun h => (Or.inr (Or.inr (Or.inr (Or.inr (Or.inl h)))))) (fun h => (Or.elim h (fun h => (Or.inr (Or.inr (Or.inr (Or.inr (Or.inr (Or.inl h))))))) (fun h => (Or.elim h (fun h => (Or.inr (Or.inr (Or.inr (Or.inr (Or.inr (Or.inr (Or.inl h)))))))) (fun h => (Or.elim h (fun h => (Or.inr (Or.inr (Or.inr (Or.inr (Or.inr (Or.inr (Or.inr (Or.inl h))))))))) (fun h => (Or.elim h (fun h => (Or.inr (Or.inr (Or.inr (Or.inr (Or.inr (Or.inr (Or.inr (Or.inr (Or.inl h)))))))))) (fun h => (Or.inr (Or.inr (Or.inr (Or.inr (Or.inr (Or.inr (Or.inr (Or.inr (Or.inr h))))))))))))))))))))))))))))))) (by omega) ⟨fj15, Nat.lt_of_lt_of_le (show ((61 - (v9 + 1)).toNat) < n12 from (by omega)) fn16, hE⟩
          · skip
            replace hE := zf_in hE c48_24
            refine mm_g 4 (pc1 := 55) (lo1 := [some (.ref 137), some (.int (Int32.ofInt a1)), some (.int (Int32.ofInt v9)), some (.int (Int32.ofInt v9))]) (st1 := [.int (Int32.ofInt 1), .ref 137]) (H1 := mz_mk g10 x) rfl ?_
            refine mz_cv rfl mt_12_409 (by decide) (sc_137 _) rfl (Nat.le_of_ble_eq_true rfl) (by omega) (f_X12_goOn (by omega) hx hIg10 (by decide) (by decide) (mz_pv_fr hpv (fun _j => ((hfg10 149 _j nj_23).trans ((hfg6 149 _j (fun h => (absurd (show 149 = 162 from h) (by decide)))).trans ((hug1.2 149 _j (fun h => absurd h.1 (by decide))).trans rfl)))) ((hfg10 140 3 nj_24).trans ((hfg6 140 3 (fun h => (absurd (show 140 = 162 from h) (by decide)))).trans ((hug1.2 140 3 (fun h => absurd h.1 (by decide))).trans rfl)))) (by omega) (fun g30 hIg30 hfg30 hp31 hc32 => ⟨_, rfl, ?_⟩))
            show mm_W d mmX12_full 58 [some (.ref 137), some (.int (Int32.ofInt a1)), some (.int (Int32.ofInt v9)), some (.int (Int32.ofInt v9))] [] (mz_mk g30 x) Q
            replace hE := zf_t1 hE hc32
            refine mz_iincR (v := v9) (lo2 := [some (.ref 137), some (.int (Int32.ofInt a1)), some (.int (Int32.ofInt v9)), some (.int (Int32.ofInt (v9 + 1)))]) rfl rfl rfl (Nat.le_of_ble_eq_true rfl) rfl ?_
            refine mz_gt (tgt := 32) rfl rfl ?_
            exact ih11 ((61 - (v9 + 1)).toNat) (by omega) v9 (v9 + 1) g30 rfl (by omega) (by omega) (by omega) (by omega) hIg30 (fun k j hk => ((hfg30 k j (fun h => hk (Or.elim h (fun h => (Or.inl h)) (fun h => (Or.elim h (fun h => (Or.inr (Or.inl h))) (fun h => (Or.elim h (fun h => (Or.inr (Or.inr (Or.inl h)))) (fun h => (Or.elim h (fun h => (Or.inr (Or.inr (Or.inr (Or.inl h))))) (fun h => (Or.elim h (fun h => (Or.inr (Or.inr (Or.inr (Or.inr (Or.inl h)))))) (fun h => (Or.elim h (fun h => (Or.inr (Or.inr (Or.inr (Or.inr (Or.inr (Or.inl h))))))) (fun h => (Or.elim h (fun h => (Or.inr (Or.inr (Or.inr (Or.inr (Or.inr (Or.inr (Or.inl h)))))))) (fun h => (Or.elim h (fun h => (Or.inr (Or.inr (Or.inr (Or.inr (Or.inr (Or.inr (Or.inr (Or.inl h))))))))) (fun h => (Or.elim h (fun h => (Or.inr (Or.inr (Or.inr (Or.inr (Or.inr (Or.inr (Or.inr (Or.inr (Or.inl h)))))))))) (fun h => (Or.inr (Or.inr (Or.inr (Or.inr (Or.inr (Or.inr (Or.inr (Or.inr (Or.inr h))))))))))))))))))))))))))))).trans (hfg10 k j (fun h => hk (Or.elim h (fun h => (Or.inl h)) (fun h => (Or.elim h (fun h => (Or.inr (Or.inl h))) (fun h => (Or.elim h (fun h => (Or.inr (Or.inr (Or.inl h)))) (fun h => (Or.elim h (fun h => (Or.inr (Or.inr (Or.inr (Or.inl h))))) (fun h => (Or.elim h (fun h => (Or.inr (Or.inr (Or.inr (Or.inr (Or.inl h)))))) (fun h => (Or.elim h (fun h => (Or.inr (Or.inr (Or.inr (Or.inr (Or.inr (Or.inl h))))))) (fun h => (Or.elim h (fun h => (Or.inr (Or.inr (Or.inr (Or.inr (Or.inr (Or.inr (Or.inl h)))))))) (fun h => (Or.elim h (fun h => (Or.inr (Or.inr (Or.inr (Or.inr (Or.inr (Or.inr (Or.inr (Or.inl h))))))))) (fun h => (Or.elim h (fun h => (Or.inr (Or.inr (Or.inr (Or.inr (Or.inr (Or.inr (Or.inr (Or.inr (Or.inl h)))))))))) (fun h => (Or.inr (Or.inr (Or.inr (Or.inr (Or.inr (Or.inr (Or.inr (Or.inr (Or.inr h))))))))))))))))))))))))))))))) (by omega) ⟨fj15, Nat.lt_of_lt_of_le (show ((61 - (v9 + 1)).toNat) < n12 from (by omega)) fn16, hE⟩
    exact L13 _ (-1) 0 g6 rfl (by decide) (by decide) (by decide) (by decide) hIg6 (fun _ _ _ => rfl) (by have h9 := (show g6 137 30 = (g 137 30) from ((hfg6 137 30 (fun h => (absurd (show 137 = 162 from h) (by decide)))).trans ((hug1.2 137 30 (fun h => absurd h.2 (by decide))).trans rfl))); omega) ⟨3000000000, by omega, hE⟩
  · skip
    replace hE := zf_ip hE c10_5
    refine mm_g 2 (pc1 := 15) (lo1 := [some (.ref 137), some (.int (Int32.ofInt a1)), none, none]) (st1 := [.int (Int32.ofInt 1), .ref 137]) (H1 := mz_mk g1 x) rfl ?_
    refine mz_cv rfl mt_12_294 (by decide) (sc_137 _) rfl (Nat.le_of_ble_eq_true rfl) (by omega) (f_X12_fail (by omega) hx hIg1 (by decide) (by decide) (fun v33 g34 hIg34 hfg34 l_v33 u_v33 hc35 => ⟨_, rfl, ?_⟩))
    show mm_W d mmX12_full 18 [some (.ref 137), some (.int (Int32.ofInt a1)), none, none] [.int (Int32.ofInt v33)] (mz_mk g34 x) Q
    replace hE := zf_t2 hE hc35
    exact mm_rt rfl rfl (hQ _ _ hIg34 (fun k j hk => ((hfg34 k j (fun h => hk (Or.inl h))).trans (hug1.2 k j (fun h => hk (Or.inl h))))) (by omega) (by omega) (by have h9 := (show g34 137 30 = (g 137 30) from ((hfg34 137 30 (fun h => (absurd (show (137 = 137 ∧ 30 = 2) from h) (by decide)))).trans ((hug1.2 137 30 (fun h => absurd h.2 (by decide))).trans rfl))); omega) hE)
def fl_X12_read_54 (x : mm_X) (a1 : Int) (a2 : Int) : Nat → Nat → Prop := fun k j => k = 157 ∨ (k = 137 ∧ j = 36) ∨ (k = 160 ∧ j = 0) ∨ (k = 160 ∧ j = 1) ∨ (k = 160 ∧ j = 2) ∨ (k = 160 ∧ j = 3) ∨ (k = 160 ∧ j = 4) ∨ (k = 160 ∧ j = 5) ∨ (k = 160 ∧ j = 6) ∨ k = 161 ∨ k = 152 ∨ (k = 137 ∧ j = 30)
def fw_X12_read (x : mm_X) (a1 : Int) (a2 : Int) : Nat → Nat → Prop := fun k j => (k = 137 ∧ j = 2) ∨ k = 158 ∨ (k = 137 ∧ j = 37) ∨ k = 162 ∨ k = 157 ∨ (k = 137 ∧ j = 36) ∨ (k = 160 ∧ j = 0) ∨ (k = 160 ∧ j = 1) ∨ (k = 160 ∧ j = 2) ∨ (k = 160 ∧ j = 3) ∨ (k = 160 ∧ j = 4) ∨ (k = 160 ∧ j = 5) ∨ (k = 160 ∧ j = 6) ∨ k = 161 ∨ k = 152 ∨ (k = 137 ∧ j = 30) ∨ k = 153 ∨ k = 154 ∨ k = 155
theorem f_X12_read {d : Nat} (hd : 16 ≤ d) {x : mm_X} (hx : mk_x x) {g : mz_G} (hI : mz_inv g) {a1 : Int} (l_a1 : (-2147483648) ≤ a1) (u_a1 : a1 ≤ 2147483647) {a2 : Int} (l_a2 : (-2147483648) ≤ a2) (u_a2 : a2 ≤ 2147483647) (p1 : mz_pv g) (p2 : g 137 30 ≤ 999) {Q : (Option Value ⊕ Nat) → mm_H → Prop} (hQ : ∀ (r : Int) (g1 : mz_G), mz_inv g1 → mz_fr (fw_X12_read x a1 a2) g g1 → (-1) ≤ r → r ≤ 60 → (g1 137 30 ≤ 999) → zf_E (zF_X12_read a1 a2 g) ((r, g1)) → Q (.inl (some (.int (Int32.ofInt r)))) (mz_mk g1 x)) : mm_C d 264 [.ref 137, .int (Int32.ofInt a1), .int (Int32.ofInt a2)] (mz_mk g x) Q := by
  refine ⟨mmX12_read, [some (.ref 137), some (.int (Int32.ofInt a1)), some (.int (Int32.ofInt a2)), none, none], rfl, rfl, ?_⟩
  have bz0 := mz_rd hI bd_137_30
  have hpv := p1
  have hE : zf_E (zF_X12_read a1 a2 g) (zF_X12_read a1 a2 g) := zf_rf
  refine mm_g 2 (pc1 := 2) (lo1 := [some (.ref 137), some (.int (Int32.ofInt a1)), some (.int (Int32.ofInt a2)), none, none]) (st1 := [.int (Int32.ofInt 0), .ref 137]) (H1 := mz_mk g x) rfl ?_
  refine mz_pI rfl fd_12_154 (sc_137 _) hI bd_137_2 (by omega) (by omega) (fun g1 hIg1 hug1 => ?_)
  replace hE := zf_tr hE (zf_lg hug1)
  refine mm_g 2 (pc1 := 7) (lo1 := [some (.ref 137), some (.int (Int32.ofInt a1)), some (.int (Int32.ofInt a2)), none, none]) (st1 := [.int (Int32.ofInt a1), .ref 137]) (H1 := mz_mk g1 x) rfl ?_
  refine mz_cv rfl mt_12_391 (by decide) (sc_137 _) rfl (Nat.le_of_ble_eq_true rfl) (by omega) (f_X12_isTrunk (by omega) hx hIg1 l_a1 u_a1 (fun v2 l_v2 u_v2 hp3 hp4 hc5 => ⟨_, rfl, ?_⟩))
  show mm_W d mmX12_read 10 [some (.ref 137), some (.int (Int32.ofInt a1)), some (.int (Int32.ofInt a2)), none, none] [.int (Int32.ofInt v2)] (mz_mk g1 x) Q
  replace hE := zf_t1 hE hc5
  refine mz_if_eq (tgt := 21) rfl rfl (mz_rg l_v2 u_v2) (fun c10_5 => ?_) (fun c10_5 => ?_)
  · skip
    replace hE := zf_ip hE c10_5
    refine mm_g 2 (pc1 := 23) (lo1 := [some (.ref 137), some (.int (Int32.ofInt a1)), some (.int (Int32.ofInt a2)), none, none]) (st1 := [.int (Int32.ofInt 1), .ref 137]) (H1 := mz_mk g1 x) rfl ?_
    refine mz_cv rfl mt_12_294 (by decide) (sc_137 _) rfl (Nat.le_of_ble_eq_true rfl) (by omega) (f_X12_fail (by omega) hx hIg1 (by decide) (by decide) (fun v6 g7 hIg7 hfg7 l_v6 u_v6 hc8 => ⟨_, rfl, ?_⟩))
    show mm_W d mmX12_read 26 [some (.ref 137), some (.int (Int32.ofInt a1)), some (.int (Int32.ofInt a2)), none, none] [.int (Int32.ofInt v6)] (mz_mk g7 x) Q
    replace hE := zf_t2 hE hc8
    exact mm_rt rfl rfl (hQ _ _ hIg7 (fun k j hk => ((hfg7 k j (fun h => hk (Or.inl h))).trans (hug1.2 k j (fun h => hk (Or.inl h))))) (by omega) (by omega) (by have h9 := (show g7 137 30 = (g 137 30) from ((hfg7 137 30 (fun h => (absurd (show (137 = 137 ∧ 30 = 2) from h) (by decide)))).trans ((hug1.2 137 30 (fun h => absurd h.2 (by decide))).trans rfl))); omega) hE)
  · skip
    replace hE := zf_in hE c10_5
    refine mm_g 2 (pc1 := 15) (lo1 := [some (.ref 137), some (.int (Int32.ofInt a1)), some (.int (Int32.ofInt a2)), none, none]) (st1 := [.int (Int32.ofInt a2), .ref 137]) (H1 := mz_mk g1 x) rfl ?_
    refine mz_cv rfl mt_12_380 (by decide) (sc_137 _) rfl (Nat.le_of_ble_eq_true rfl) (by omega) (f_X12_isWord (by omega) hx hIg1 l_a2 u_a2 (fun v9 l_v9 u_v9 hp10 hp11 hc12 => ⟨_, rfl, ?_⟩))
    show mm_W d mmX12_read 18 [some (.ref 137), some (.int (Int32.ofInt a1)), some (.int (Int32.ofInt a2)), none, none] [.int (Int32.ofInt v9)] (mz_mk g1 x) Q
    replace hE := zf_t1 hE hc12
    refine mz_if_ne (tgt := 27) rfl rfl (mz_rg l_v9 u_v9) (fun c18_12 => ?_) (fun c18_12 => ?_)
    · skip
      replace hE := zf_in hE c18_12
      refine mm_g 3 (pc1 := 30) (lo1 := [some (.ref 137), some (.int (Int32.ofInt a1)), some (.int (Int32.ofInt a2)), none, none]) (st1 := [.ref 137, .ref 137, .ref 137]) (H1 := mz_mk g1 x) rfl ?_
      refine mz_fgR (v := 158) rfl fd_12_91 (by decide) (sc_137 _) (rf_137_34 _ _ _) ?_
      refine mm_g 1 (pc1 := 34) (lo1 := [some (.ref 137), some (.int (Int32.ofInt a1)), some (.int (Int32.ofInt a2)), none, none]) (st1 := [.int (Int32.ofInt a2), .ref 158, .ref 137, .ref 137]) (H1 := mz_mk g1 x) rfl ?_
      refine mz_cv rfl mt_12_336 (by decide) (sc_137 _) rfl (Nat.le_of_ble_eq_true rfl) (by omega) (f_X12_wordInto (by omega) hx hIg1 (sh_158 _) (by decide) ba_158 (by omega) (by omega) (by omega) (fun v13 g14 hIg14 hfg14 l_v13 u_v13 hc15 => ⟨_, rfl, ?_⟩))
      show mm_W d mmX12_read 37 [some (.ref 137), some (.int (Int32.ofInt a1)), some (.int (Int32.ofInt a2)), none, none] [.int (Int32.ofInt v13), .ref 137] (mz_mk g14 x) Q
      replace hE := zf_t2 hE hc15
      refine mz_pI rfl fd_12_326 (sc_137 _) hIg14 bd_137_37 (by omega) (by omega) (fun g16 hIg16 hug16 => ?_)
      replace hE := zf_tr hE (zf_lg hug16)
      refine mm_g 2 (pc1 := 42) (lo1 := [some (.ref 137), some (.int (Int32.ofInt a1)), some (.int (Int32.ofInt a2)), none, none]) (st1 := [.ref 137, .ref 137]) (H1 := mz_mk g16 x) rfl ?_
      refine mz_fgR (v := 162) rfl fd_12_103 (by decide) (sc_137 _) (rf_137_40 _ _ _) ?_
      refine mm_g 1 (pc1 := 46) (lo1 := [some (.ref 137), some (.int (Int32.ofInt a1)), some (.int (Int32.ofInt a2)), none, none]) (st1 := [.int (Int32.ofInt 0), .ref 162, .ref 137]) (H1 := mz_mk g16 x) rfl ?_
      refine mz_cv rfl mt_12_397 (by decide) (sc_137 _) rfl (Nat.le_of_ble_eq_true rfl) (by omega) (f_X12_store (by omega) hx hIg16 rwp_162 (by decide) (by decide) (by omega) (by omega) (by have h9 := (show g16 137 30 = (g 137 30) from ((hug16.2 137 30 (fun h => absurd h.2 (by decide))).trans ((hfg14 137 30 (fun h => (absurd (show 137 = 158 from h) (by decide)))).trans ((hug1.2 137 30 (fun h => absurd h.2 (by decide))).trans rfl)))); omega) (fun g17 hIg17 hfg17 hc18 => ⟨_, rfl, ?_⟩))
      show mm_W d mmX12_read 49 [some (.ref 137), some (.int (Int32.ofInt a1)), some (.int (Int32.ofInt a2)), none, none] [] (mz_mk g17 x) Q
      replace hE := zf_t1 hE hc18
      refine mm_g 4 (pc1 := 54) (lo1 := [some (.ref 137), some (.int (Int32.ofInt a1)), some (.int (Int32.ofInt a2)), some (.int (Int32.ofInt (-1))), some (.int (Int32.ofInt 0))]) (st1 := []) (H1 := mz_mk g17 x) rfl ?_
      have L24 : ∀ n23 : Nat, ∀ (v19 : Int) (v20 : Int) (g21 : mz_G), (61 - v20).toNat = n23 → (-1) ≤ v19 → v19 ≤ 60 → 0 ≤ v20 → v20 ≤ 61 → mz_inv g21 → mz_fr (fl_X12_read_54 x a1 a2) g17 g21 → (g21 137 30 ≤ 999 + v20) → (∃ fk : Nat, (61 - v20).toNat < fk ∧ zf_E (zF_X12_read a1 a2 g) (zL_X12_read_54 a1 a2 fk v19 v20 g21)) → mm_W d mmX12_read 54 [some (.ref 137), some (.int (Int32.ofInt a1)), some (.int (Int32.ofInt a2)), some (.int (Int32.ofInt v19)), some (.int (Int32.ofInt v20))] [] (mz_mk g21 x) Q := by
        intro n23
        induction n23 using Nat.strongRecOn with
        | ind n23 ih22 =>
        intro v19 v20 g21 hmn23 l_v19 u_v19 l_v20 u_v20 hIg21 hfg21 hv25 hF
        obtain ⟨fk, fl, hE⟩ := hF
        obtain ⟨fj26, rfl⟩ : ∃ fj, fk = fj + 1 := ⟨fk - 1, by omega⟩
        have fn27 : n23 ≤ fj26 := by omega
        replace hE := zf_tr hE zL_X12_read_54_s
        have bz_g21_30 := mz_rd hIg21 bd_137_30
        refine mm_g 1 (pc1 := 56) (lo1 := [some (.ref 137), some (.int (Int32.ofInt a1)), some (.int (Int32.ofInt a2)), some (.int (Int32.ofInt v19)), some (.int (Int32.ofInt v20))]) (st1 := [.int (Int32.ofInt v20)]) (H1 := mz_mk g21 x) rfl ?_
        refine mz_bip rfl bip_60 ?_
        refine mz_ic_gt (tgt := 100) rfl rfl (mz_rg l_v20 u_v20) ⟨by decide, by decide⟩ (fun c58_27 => ?_) (fun c58_27 => ?_)
        · skip
          replace hE := zf_ip hE c58_27
          refine mm_g 2 (pc1 := 102) (lo1 := [some (.ref 137), some (.int (Int32.ofInt a1)), some (.int (Int32.ofInt a2)), some (.int (Int32.ofInt v19)), some (.int (Int32.ofInt v20))]) (st1 := [.ref 137, .ref 137]) (H1 := mz_mk g21 x) rfl ?_
          refine mz_fgR (v := 162) rfl fd_12_103 (by decide) (sc_137 _) (rf_137_40 _ _ _) ?_
          refine mm_g 1 (pc1 := 106) (lo1 := [some (.ref 137), some (.int (Int32.ofInt a1)), some (.int (Int32.ofInt a2)), some (.int (Int32.ofInt v19)), some (.int (Int32.ofInt v20))]) (st1 := [.int (Int32.ofInt 0), .ref 162, .ref 137]) (H1 := mz_mk g21 x) rfl ?_
          refine mz_cv rfl mt_12_421 (by decide) (sc_137 _) rfl (Nat.le_of_ble_eq_true rfl) (by omega) (f_X12_recall (by omega) hx hIg21 rwp_162 (by decide) (by decide) (by omega) (by omega) (fun g28 hIg28 hfg28 hp29 hc30 => ⟨_, rfl, ?_⟩))
          show mm_W d mmX12_read 109 [some (.ref 137), some (.int (Int32.ofInt a1)), some (.int (Int32.ofInt a2)), some (.int (Int32.ofInt v19)), some (.int (Int32.ofInt v20))] [] (mz_mk g28 x) Q
          replace hE := zf_t1 hE hc30
          refine mm_g 1 (pc1 := 110) (lo1 := [some (.ref 137), some (.int (Int32.ofInt a1)), some (.int (Int32.ofInt a2)), some (.int (Int32.ofInt v19)), some (.int (Int32.ofInt v20))]) (st1 := [.int (Int32.ofInt v19)]) (H1 := mz_mk g28 x) rfl ?_
          exact mm_rt rfl rfl (hQ _ _ hIg28 (fun k j hk => ((hfg28 k j (fun h => hk (Or.elim h (fun h => (Or.inr (Or.inr (Or.inr (Or.inr (Or.inr (Or.inr (Or.inr (Or.inr (Or.inr (Or.inr (Or.inr (Or.inr (Or.inr (Or.inr (Or.inr (Or.inl h))))))))))))))))) (fun h => (Or.elim h (fun h => (Or.inr (Or.inr (Or.inr (Or.inr (Or.inr (Or.inr (Or.inr (Or.inr (Or.inr (Or.inr (Or.inr (Or.inr (Or.inr (Or.inr (Or.inl h)))))))))))))))) (fun h => (Or.elim h (fun h => (Or.inr (Or.inr (Or.inr (Or.inr (Or.inr (Or.inr (Or.inr (Or.inr (Or.inr (Or.inr (Or.inr (Or.inr (Or.inr (Or.inr (Or.inr (Or.inr (Or.inl h)))))))))))))))))) (fun h => (Or.elim h (fun h => (Or.inr (Or.inr (Or.inr (Or.inr (Or.inr (Or.inr (Or.inr (Or.inr (Or.inr (Or.inr (Or.inr (Or.inr (Or.inr (Or.inr (Or.inr (Or.inr (Or.inr (Or.inl h))))))))))))))))))) (fun h => (Or.inr (Or.inr (Or.inr (Or.inr (Or.inr (Or.inr (Or.inr (Or.inr (Or.inr (Or.inr (Or.inr (Or.inr (Or.inr (Or.inr (Or.inr (Or.inr (Or.inr (Or.inr h)))))))))))))))))))))))))))).trans ((hfg21 k j (fun h => hk (Or.elim h (fun h => (Or.inr (Or.inr (Or.inr (Or.inr (Or.inl h)))))) (fun h => (Or.elim h (fun h => (Or.inr (Or.inr (Or.inr (Or.inr (Or.inr (Or.inl h))))))) (fun h => (Or.elim h (fun h => (Or.inr (Or.inr (Or.inr (Or.inr (Or.inr (Or.inr (Or.inl h)))))))) (fun h => (Or.elim h (fun h => (Or.inr (Or.inr (Or.inr (Or.inr (Or.inr (Or.inr (Or.inr (Or.inl h))))))))) (fun h => (Or.elim h (fun h => (Or.inr (Or.inr (Or.inr (Or.inr (Or.inr (Or.inr (Or.inr (Or.inr (Or.inl h)))))))))) (fun h => (Or.elim h (fun h => (Or.inr (Or.inr (Or.inr (Or.inr (Or.inr (Or.inr (Or.inr (Or.inr (Or.inr (Or.inl h))))))))))) (fun h => (Or.elim h (fun h => (Or.inr (Or.inr (Or.inr (Or.inr (Or.inr (Or.inr (Or.inr (Or.inr (Or.inr (Or.inr (Or.inl h)))))))))))) (fun h => (Or.elim h (fun h => (Or.inr (Or.inr (Or.inr (Or.inr (Or.inr (Or.inr (Or.inr (Or.inr (Or.inr (Or.inr (Or.inr (Or.inl h))))))))))))) (fun h => (Or.elim h (fun h => (Or.inr (Or.inr (Or.inr (Or.inr (Or.inr (Or.inr (Or.inr (Or.inr (Or.inr (Or.inr (Or.inr (Or.inr (Or.inl h)))))))))))))) (fun h => (Or.elim h (fun h => (Or.inr (Or.inr (Or.inr (Or.inr (Or.inr (Or.inr (Or.inr (Or.inr (Or.inr (Or.inr (Or.inr (Or.inr (Or.inr (Or.inl h))))))))))))))) (fun h => (Or.elim h (fun h => (Or.inr (Or.inr (Or.inr (Or.inr (Or.inr (Or.inr (Or.inr (Or.inr (Or.inr (Or.inr (Or.inr (Or.inr (Or.inr (Or.inr (Or.inl h)))))))))))))))) (fun h => (Or.inr (Or.inr (Or.inr (Or.inr (Or.inr (Or.inr (Or.inr (Or.inr (Or.inr (Or.inr (Or.inr (Or.inr (Or.inr (Or.inr (Or.inr (Or.inl h)))))))))))))))))))))))))))))))))))))))).trans ((hfg17 k j (fun h => hk (Or.inr (Or.inr (Or.inr (Or.inl h)))))).trans ((hug16.2 k j (fun h => hk (Or.inr (Or.inr (Or.inl h))))).trans ((hfg14 k j (fun h => hk (Or.inr (Or.inl h)))).trans (hug1.2 k j (fun h => hk (Or.inl h))))))))) (by omega) (by omega) (by omega) hE)
        · skip
          replace hE := zf_nl hE c58_27
          refine mm_g 2 (pc1 := 63) (lo1 := [some (.ref 137), some (.int (Int32.ofInt a1)), some (.int (Int32.ofInt a2)), some (.int (Int32.ofInt v19)), some (.int (Int32.ofInt v20))]) (st1 := [.int (Int32.ofInt (-1)), .int (Int32.ofInt v19)]) (H1 := mz_mk g21 x) rfl ?_
          refine mz_ic_ne (tgt := 100) rfl rfl (mz_rg l_v19 u_v19) ⟨by decide, by decide⟩ (fun c63_30 => ?_) (fun c63_30 => ?_)
          · skip
            replace hE := zf_in hE c63_30
            refine mm_g 2 (pc1 := 102) (lo1 := [some (.ref 137), some (.int (Int32.ofInt a1)), some (.int (Int32.ofInt a2)), some (.int (Int32.ofInt v19)), some (.int (Int32.ofInt v20))]) (st1 := [.ref 137, .ref 137]) (H1 := mz_mk g21 x) rfl ?_
            refine mz_fgR (v := 162) rfl fd_12_103 (by decide) (sc_137 _) (rf_137_40 _ _ _) ?_
            refine mm_g 1 (pc1 := 106) (lo1 := [some (.ref 137), some (.int (Int32.ofInt a1)), some (.int (Int32.ofInt a2)), some (.int (Int32.ofInt v19)), some (.int (Int32.ofInt v20))]) (st1 := [.int (Int32.ofInt 0), .ref 162, .ref 137]) (H1 := mz_mk g21 x) rfl ?_
            refine mz_cv rfl mt_12_421 (by decide) (sc_137 _) rfl (Nat.le_of_ble_eq_true rfl) (by omega) (f_X12_recall (by omega) hx hIg21 rwp_162 (by decide) (by decide) (by omega) (by omega) (fun g31 hIg31 hfg31 hp32 hc33 => ⟨_, rfl, ?_⟩))
            show mm_W d mmX12_read 109 [some (.ref 137), some (.int (Int32.ofInt a1)), some (.int (Int32.ofInt a2)), some (.int (Int32.ofInt v19)), some (.int (Int32.ofInt v20))] [] (mz_mk g31 x) Q
            replace hE := zf_t1 hE hc33
            refine mm_g 1 (pc1 := 110) (lo1 := [some (.ref 137), some (.int (Int32.ofInt a1)), some (.int (Int32.ofInt a2)), some (.int (Int32.ofInt v19)), some (.int (Int32.ofInt v20))]) (st1 := [.int (Int32.ofInt v19)]) (H1 := mz_mk g31 x) rfl ?_
            exact mm_rt rfl rfl (hQ _ _ hIg31 (fun k j hk => ((hfg31 k j (fun h => hk (Or.elim h (fun h => (Or.inr (Or.inr (Or.inr (Or.inr (Or.inr (Or.inr (Or.inr (Or.inr (Or.inr (Or.inr (Or.inr (Or.inr (Or.inr (Or.inr (Or.inr (Or.inl h))))))))))))))))) (fun h => (Or.elim h (fun h => (Or.inr (Or.inr (Or.inr (Or.inr (Or.inr (Or.inr (Or.inr (Or.inr (Or.inr (Or.inr (Or.inr (Or.inr (Or.inr (Or.inr (Or.inl h)))))))))))))))) (fun h => (Or.elim h (fun h => (Or.inr (Or.inr (Or.inr (Or.inr (Or.inr (Or.inr (Or.inr (Or.inr (Or.inr (Or.inr (Or.inr (Or.inr (Or.inr (Or.inr (Or.inr (Or.inr (Or.inl h)))))))))))))))))) (fun h => (Or.elim h (fun h => (Or.inr (Or.inr (Or.inr (Or.inr (Or.inr (Or.inr (Or.inr (Or.inr (Or.inr (Or.inr (Or.inr (Or.inr (Or.inr (Or.inr (Or.inr (Or.inr (Or.inr (Or.inl h))))))))))))))))))) (fun h => (Or.inr (Or.inr (Or.inr (Or.inr (Or.inr (Or.inr (Or.inr (Or.inr (Or.inr (Or.inr (Or.inr (Or.inr (Or.inr (Or.inr (Or.inr (Or.inr (Or.inr (Or.inr h)))))))))))))))))))))))))))).trans ((hfg21 k j (fun h => hk (Or.elim h (fun h => (Or.inr (Or.inr (Or.inr (Or.inr (Or.inl h)))))) (fun h => (Or.elim h (fun h => (Or.inr (Or.inr (Or.inr (Or.inr (Or.inr (Or.inl h))))))) (fun h => (Or.elim h (fun h => (Or.inr (Or.inr (Or.inr (Or.inr (Or.inr (Or.inr (Or.inl h)))))))) (fun h => (Or.elim h (fun h => (Or.inr (Or.inr (Or.inr (Or.inr (Or.inr (Or.inr (Or.inr (Or.inl h))))))))) (fun h => (Or.elim h (fun h => (Or.inr (Or.inr (Or.inr (Or.inr (Or.inr (Or.inr (Or.inr (Or.inr (Or.inl h)))))))))) (fun h => (Or.elim h (fun h => (Or.inr (Or.inr (Or.inr (Or.inr (Or.inr (Or.inr (Or.inr (Or.inr (Or.inr (Or.inl h))))))))))) (fun h => (Or.elim h (fun h => (Or.inr (Or.inr (Or.inr (Or.inr (Or.inr (Or.inr (Or.inr (Or.inr (Or.inr (Or.inr (Or.inl h)))))))))))) (fun h => (Or.elim h (fun h => (Or.inr (Or.inr (Or.inr (Or.inr (Or.inr (Or.inr (Or.inr (Or.inr (Or.inr (Or.inr (Or.inr (Or.inl h))))))))))))) (fun h => (Or.elim h (fun h => (Or.inr (Or.inr (Or.inr (Or.inr (Or.inr (Or.inr (Or.inr (Or.inr (Or.inr (Or.inr (Or.inr (Or.inr (Or.inl h)))))))))))))) (fun h => (Or.elim h (fun h => (Or.inr (Or.inr (Or.inr (Or.inr (Or.inr (Or.inr (Or.inr (Or.inr (Or.inr (Or.inr (Or.inr (Or.inr (Or.inr (Or.inl h))))))))))))))) (fun h => (Or.elim h (fun h => (Or.inr (Or.inr (Or.inr (Or.inr (Or.inr (Or.inr (Or.inr (Or.inr (Or.inr (Or.inr (Or.inr (Or.inr (Or.inr (Or.inr (Or.inl h)))))))))))))))) (fun h => (Or.inr (Or.inr (Or.inr (Or.inr (Or.inr (Or.inr (Or.inr (Or.inr (Or.inr (Or.inr (Or.inr (Or.inr (Or.inr (Or.inr (Or.inr (Or.inl h)))))))))))))))))))))))))))))))))))))))).trans ((hfg17 k j (fun h => hk (Or.inr (Or.inr (Or.inr (Or.inl h)))))).trans ((hug16.2 k j (fun h => hk (Or.inr (Or.inr (Or.inl h))))).trans ((hfg14 k j (fun h => hk (Or.inr (Or.inl h)))).trans (hug1.2 k j (fun h => hk (Or.inl h))))))))) (by omega) (by omega) (by omega) hE)
          · skip
            replace hE := zf_ip hE c63_30
            refine mm_g 3 (pc1 := 69) (lo1 := [some (.ref 137), some (.int (Int32.ofInt a1)), some (.int (Int32.ofInt a2)), some (.int (Int32.ofInt v19)), some (.int (Int32.ofInt v20))]) (st1 := [.ref 137, .ref 137, .ref 137]) (H1 := mz_mk g21 x) rfl ?_
            refine mz_fgR (v := 157) rfl fd_12_88 (by decide) (sc_137 _) (rf_137_33 _ _ _) ?_
            refine mm_g 1 (pc1 := 73) (lo1 := [some (.ref 137), some (.int (Int32.ofInt a1)), some (.int (Int32.ofInt a2)), some (.int (Int32.ofInt v19)), some (.int (Int32.ofInt v20))]) (st1 := [.int (Int32.ofInt a1), .ref 157, .ref 137, .ref 137]) (H1 := mz_mk g21 x) rfl ?_
            refine mz_cv rfl mt_12_424 (by decide) (sc_137 _) rfl (Nat.le_of_ble_eq_true rfl) (by omega) (f_X12_blendInto (by omega) hx hIg21 (sh_157 _) (by decide) ba_157 (by omega) (by omega) (by omega) (fun v34 g35 hIg35 hfg35 l_v34 u_v34 hc36 => ⟨_, rfl, ?_⟩))
            show mm_W d mmX12_read 76 [some (.ref 137), some (.int (Int32.ofInt a1)), some (.int (Int32.ofInt a2)), some (.int (Int32.ofInt v19)), some (.int (Int32.ofInt v20))] [.int (Int32.ofInt v34), .ref 137] (mz_mk g35 x) Q
            replace hE := zf_t2 hE hc36
            refine mz_pI rfl fd_12_323 (sc_137 _) hIg35 bd_137_36 (by omega) (by omega) (fun g37 hIg37 hug37 => ?_)
            replace hE := zf_tr hE (zf_lg hug37)
            refine mm_g 1 (pc1 := 80) (lo1 := [some (.ref 137), some (.int (Int32.ofInt a1)), some (.int (Int32.ofInt a2)), some (.int (Int32.ofInt v19)), some (.int (Int32.ofInt v20))]) (st1 := [.ref 137]) (H1 := mz_mk g37 x) rfl ?_
            refine mz_cv rfl mt_12_332 (by decide) (sc_137 _) rfl (Nat.le_of_ble_eq_true rfl) (by omega) (f_X12_isWithin (by omega) hx hIg37 (fun v38 l_v38 u_v38 hc39 => ⟨_, rfl, ?_⟩))
            show mm_W d mmX12_read 83 [some (.ref 137), some (.int (Int32.ofInt a1)), some (.int (Int32.ofInt a2)), some (.int (Int32.ofInt v19)), some (.int (Int32.ofInt v20))] [.int (Int32.ofInt v38)] (mz_mk g37 x) Q
            replace hE := zf_t1 hE hc39
            refine mz_if_eq (tgt := 89) rfl rfl (mz_rg l_v38 u_v38) (fun c83_39 => ?_) (fun c83_39 => ?_)
            · skip
              replace hE := zf_ip hE c83_39
              refine mm_g 2 (pc1 := 91) (lo1 := [some (.ref 137), some (.int (Int32.ofInt a1)), some (.int (Int32.ofInt a2)), some (.int (Int32.ofInt v19)), some (.int (Int32.ofInt v20))]) (st1 := [.int (Int32.ofInt 1), .ref 137]) (H1 := mz_mk g37 x) rfl ?_
              have hq40 : g37 137 30 = (g21 137 30) := (show g37 137 30 = (g21 137 30) from ((hug37.2 137 30 (fun h => absurd h.2 (by decide))).trans ((hfg35 137 30 (fun h => (absurd (show 137 = 157 from h) (by decide)))).trans rfl)))
              refine mz_cv rfl mt_12_409 (by decide) (sc_137 _) rfl (Nat.le_of_ble_eq_true rfl) (by omega) (f_X12_goOn (by omega) hx hIg37 (by decide) (by decide) (mz_pv_fr hpv (fun _j => ((hug37.2 149 _j (fun h => absurd h.1 (by decide))).trans ((hfg35 149 _j (fun h => (absurd (show 149 = 157 from h) (by decide)))).trans ((hfg21 149 _j nj_36).trans ((hfg17 149 _j (fun h => (absurd (show 149 = 162 from h) (by decide)))).trans ((hug16.2 149 _j (fun h => absurd h.1 (by decide))).trans ((hfg14 149 _j (fun h => (absurd (show 149 = 158 from h) (by decide)))).trans ((hug1.2 149 _j (fun h => absurd h.1 (by decide))).trans rfl)))))))) ((hug37.2 140 3 (fun h => absurd h.1 (by decide))).trans ((hfg35 140 3 (fun h => (absurd (show 140 = 157 from h) (by decide)))).trans ((hfg21 140 3 nj_37).trans ((hfg17 140 3 (fun h => (absurd (show 140 = 162 from h) (by decide)))).trans ((hug16.2 140 3 (fun h => absurd h.1 (by decide))).trans ((hfg14 140 3 (fun h => (absurd (show 140 = 158 from h) (by decide)))).trans ((hug1.2 140 3 (fun h => absurd h.1 (by decide))).trans rfl)))))))) (by have h9 := (show g37 137 30 = (g21 137 30) from ((hug37.2 137 30 (fun h => absurd h.2 (by decide))).trans ((hfg35 137 30 (fun h => (absurd (show 137 = 157 from h) (by decide)))).trans rfl))); omega) (fun g41 hIg41 hfg41 hp42 hc43 => ⟨_, rfl, ?_⟩))
              show mm_W d mmX12_read 94 [some (.ref 137), some (.int (Int32.ofInt a1)), some (.int (Int32.ofInt a2)), some (.int (Int32.ofInt v19)), some (.int (Int32.ofInt v20))] [] (mz_mk g41 x) Q
              replace hE := zf_t1 hE hc43
              refine mz_iincR (v := v20) (lo2 := [some (.ref 137), some (.int (Int32.ofInt a1)), some (.int (Int32.ofInt a2)), some (.int (Int32.ofInt v19)), some (.int (Int32.ofInt (v20 + 1)))]) rfl rfl rfl (Nat.le_of_ble_eq_true rfl) rfl ?_
              refine mz_gt (tgt := 54) rfl rfl ?_
              exact ih22 ((61 - (v20 + 1)).toNat) (by omega) v19 (v20 + 1) g41 rfl (by omega) (by omega) (by omega) (by omega) hIg41 (fun k j hk => ((hfg41 k j (fun h => hk (Or.elim h (fun h => (Or.inr (Or.inr (Or.inl h)))) (fun h => (Or.elim h (fun h => (Or.inr (Or.inr (Or.inr (Or.inl h))))) (fun h => (Or.elim h (fun h => (Or.inr (Or.inr (Or.inr (Or.inr (Or.inl h)))))) (fun h => (Or.elim h (fun h => (Or.inr (Or.inr (Or.inr (Or.inr (Or.inr (Or.inl h))))))) (fun h => (Or.elim h (fun h => (Or.inr (Or.inr (Or.inr (Or.inr (Or.inr (Or.inr (Or.inl h)))))))) (fun h => (Or.elim h (fun h => (Or.inr (Or.inr (Or.inr (Or.inr (Or.inr (Or.inr (Or.inr (Or.inl h))))))))) (fun h => (Or.elim h (fun h => (Or.inr (Or.inr (Or.inr (Or.inr (Or.inr (Or.inr (Or.inr (Or.inr (Or.inl h)))))))))) (fun h => (Or.elim h (fun h => (Or.inr (Or.inr (Or.inr (Or.inr (Or.inr (Or.inr (Or.inr (Or.inr (Or.inr (Or.inl h))))))))))) (fun h => (Or.elim h (fun h => (Or.inr (Or.inr (Or.inr (Or.inr (Or.inr (Or.inr (Or.inr (Or.inr (Or.inr (Or.inr (Or.inl h)))))))))))) (fun h => (Or.inr (Or.inr (Or.inr (Or.inr (Or.inr (Or.inr (Or.inr (Or.inr (Or.inr (Or.inr (Or.inr h))))))))))))))))))))))))))))))).trans ((hug37.2 k j (fun h => hk (Or.inr (Or.inl h)))).trans ((hfg35 k j (fun h => hk (Or.inl h))).trans (hfg21 k j (fun h => hk (Or.elim h (fun h => (Or.inl h)) (fun h => (Or.elim h (fun h => (Or.inr (Or.inl h))) (fun h => (Or.elim h (fun h => (Or.inr (Or.inr (Or.inl h)))) (fun h => (Or.elim h (fun h => (Or.inr (Or.inr (Or.inr (Or.inl h))))) (fun h => (Or.elim h (fun h => (Or.inr (Or.inr (Or.inr (Or.inr (Or.inl h)))))) (fun h => (Or.elim h (fun h => (Or.inr (Or.inr (Or.inr (Or.inr (Or.inr (Or.inl h))))))) (fun h => (Or.elim h (fun h => (Or.inr (Or.inr (Or.inr (Or.inr (Or.inr (Or.inr (Or.inl h)))))))) (fun h => (Or.elim h (fun h => (Or.inr (Or.inr (Or.inr (Or.inr (Or.inr (Or.inr (Or.inr (Or.inl h))))))))) (fun h => (Or.elim h (fun h => (Or.inr (Or.inr (Or.inr (Or.inr (Or.inr (Or.inr (Or.inr (Or.inr (Or.inl h)))))))))) (fun h => (Or.elim h (fun h => (Or.inr (Or.inr (Or.inr (Or.inr (Or.inr (Or.inr (Or.inr (Or.inr (Or.inr (Or.inl h))))))))))) (fun h => (Or.elim h (fun h => (Or.inr (Or.inr (Or.inr (Or.inr (Or.inr (Or.inr (Or.inr (Or.inr (Or.inr (Or.inr (Or.inl h)))))))))))) (fun h => (Or.inr (Or.inr (Or.inr (Or.inr (Or.inr (Or.inr (Or.inr (Or.inr (Or.inr (Or.inr (Or.inr h))))))))))))))))))))))))))))))))))))))) (by omega) ⟨fj26, Nat.lt_of_lt_of_le (show ((61 - (v20 + 1)).toNat) < n23 from (by omega)) fn27, hE⟩
            · skip
              replace hE := zf_in hE c83_39
              refine mm_g 4 (pc1 := 91) (lo1 := [some (.ref 137), some (.int (Int32.ofInt a1)), some (.int (Int32.ofInt a2)), some (.int (Int32.ofInt v20)), some (.int (Int32.ofInt v20))]) (st1 := [.int (Int32.ofInt 1), .ref 137]) (H1 := mz_mk g37 x) rfl ?_
              have hq44 : g37 137 30 = (g21 137 30) := (show g37 137 30 = (g21 137 30) from ((hug37.2 137 30 (fun h => absurd h.2 (by decide))).trans ((hfg35 137 30 (fun h => (absurd (show 137 = 157 from h) (by decide)))).trans rfl)))
              refine mz_cv rfl mt_12_409 (by decide) (sc_137 _) rfl (Nat.le_of_ble_eq_true rfl) (by omega) (f_X12_goOn (by omega) hx hIg37 (by decide) (by decide) (mz_pv_fr hpv (fun _j => ((hug37.2 149 _j (fun h => absurd h.1 (by decide))).trans ((hfg35 149 _j (fun h => (absurd (show 149 = 157 from h) (by decide)))).trans ((hfg21 149 _j nj_36).trans ((hfg17 149 _j (fun h => (absurd (show 149 = 162 from h) (by decide)))).trans ((hug16.2 149 _j (fun h => absurd h.1 (by decide))).trans ((hfg14 149 _j (fun h => (absurd (show 149 = 158 from h) (by decide)))).trans ((hug1.2 149 _j (fun h => absurd h.1 (by decide))).trans rfl)))))))) ((hug37.2 140 3 (fun h => absurd h.1 (by decide))).trans ((hfg35 140 3 (fun h => (absurd (show 140 = 157 from h) (by decide)))).trans ((hfg21 140 3 nj_37).trans ((hfg17 140 3 (fun h => (absurd (show 140 = 162 from h) (by decide)))).trans ((hug16.2 140 3 (fun h => absurd h.1 (by decide))).trans ((hfg14 140 3 (fun h => (absurd (show 140 = 158 from h) (by decide)))).trans ((hug1.2 140 3 (fun h => absurd h.1 (by decide))).trans rfl)))))))) (by have h9 := (show g37 137 30 = (g21 137 30) from ((hug37.2 137 30 (fun h => absurd h.2 (by decide))).trans ((hfg35 137 30 (fun h => (absurd (show 137 = 157 from h) (by decide)))).trans rfl))); omega) (fun g45 hIg45 hfg45 hp46 hc47 => ⟨_, rfl, ?_⟩))
              show mm_W d mmX12_read 94 [some (.ref 137), some (.int (Int32.ofInt a1)), some (.int (Int32.ofInt a2)), some (.int (Int32.ofInt v20)), some (.int (Int32.ofInt v20))] [] (mz_mk g45 x) Q
              replace hE := zf_t1 hE hc47
              refine mz_iincR (v := v20) (lo2 := [some (.ref 137), some (.int (Int32.ofInt a1)), some (.int (Int32.ofInt a2)), some (.int (Int32.ofInt v20)), some (.int (Int32.ofInt (v20 + 1)))]) rfl rfl rfl (Nat.le_of_ble_eq_true rfl) rfl ?_
              refine mz_gt (tgt := 54) rfl rfl ?_
              exact ih22 ((61 - (v20 + 1)).toNat) (by omega) v20 (v20 + 1) g45 rfl (by omega) (by omega) (by omega) (by omega) hIg45 (fun k j hk => ((hfg45 k j (fun h => hk (Or.elim h (fun h => (Or.inr (Or.inr (Or.inl h)))) (fun h => (Or.elim h (fun h => (Or.inr (Or.inr (Or.inr (Or.inl h))))) (fun h => (Or.elim h (fun h => (Or.inr (Or.inr (Or.inr (Or.inr (Or.inl h)))))) (fun h => (Or.elim h (fun h => (Or.inr (Or.inr (Or.inr (Or.inr (Or.inr (Or.inl h))))))) (fun h => (Or.elim h (fun h => (Or.inr (Or.inr (Or.inr (Or.inr (Or.inr (Or.inr (Or.inl h)))))))) (fun h => (Or.elim h (fun h => (Or.inr (Or.inr (Or.inr (Or.inr (Or.inr (Or.inr (Or.inr (Or.inl h))))))))) (fun h => (Or.elim h (fun h => (Or.inr (Or.inr (Or.inr (Or.inr (Or.inr (Or.inr (Or.inr (Or.inr (Or.inl h)))))))))) (fun h => (Or.elim h (fun h => (Or.inr (Or.inr (Or.inr (Or.inr (Or.inr (Or.inr (Or.inr (Or.inr (Or.inr (Or.inl h))))))))))) (fun h => (Or.elim h (fun h => (Or.inr (Or.inr (Or.inr (Or.inr (Or.inr (Or.inr (Or.inr (Or.inr (Or.inr (Or.inr (Or.inl h)))))))))))) (fun h => (Or.inr (Or.inr (Or.inr (Or.inr (Or.inr (Or.inr (Or.inr (Or.inr (Or.inr (Or.inr (Or.inr h))))))))))))))))))))))))))))))).trans ((hug37.2 k j (fun h => hk (Or.inr (Or.inl h)))).trans ((hfg35 k j (fun h => hk (Or.inl h))).trans (hfg21 k j (fun h => hk (Or.elim h (fun h => (Or.inl h)) (fun h => (Or.elim h (fun h => (Or.inr (Or.inl h))) (fun h => (Or.elim h (fun h => (Or.inr (Or.inr (Or.inl h)))) (fun h => (Or.elim h (fun h => (Or.inr (Or.inr (Or.inr (Or.inl h))))) (fun h => (Or.elim h (fun h => (Or.inr (Or.inr (Or.inr (Or.inr (Or.inl h)))))) (fun h => (Or.elim h (fun h => (Or.inr (Or.inr (Or.inr (Or.inr (Or.inr (Or.inl h))))))) (fun h => (Or.elim h (fun h => (Or.inr (Or.inr (Or.inr (Or.inr (Or.inr (Or.inr (Or.inl h)))))))) (fun h => (Or.elim h (fun h => (Or.inr (Or.inr (Or.inr (Or.inr (Or.inr (Or.inr (Or.inr (Or.inl h))))))))) (fun h => (Or.elim h (fun h => (Or.inr (Or.inr (Or.inr (Or.inr (Or.inr (Or.inr (Or.inr (Or.inr (Or.inl h)))))))))) (fun h => (Or.elim h (fun h => (Or.inr (Or.inr (Or.inr (Or.inr (Or.inr (Or.inr (Or.inr (Or.inr (Or.inr (Or.inl h))))))))))) (fun h => (Or.elim h (fun h => (Or.inr (Or.inr (Or.inr (Or.inr (Or.inr (Or.inr (Or.inr (Or.inr (Or.inr (Or.inr (Or.inl h)))))))))))) (fun h => (Or.inr (Or.inr (Or.inr (Or.inr (Or.inr (Or.inr (Or.inr (Or.inr (Or.inr (Or.inr (Or.inr h))))))))))))))))))))))))))))))))))))))) (by omega) ⟨fj26, Nat.lt_of_lt_of_le (show ((61 - (v20 + 1)).toNat) < n23 from (by omega)) fn27, hE⟩
      exact L24 _ (-1) 0 g17 rfl (by decide) (by decide) (by decide) (by decide) hIg17 (fun _ _ _ => rfl) (by have h9 := (show g17 137 30 = (g 137 30) from ((hfg17 137 30 (fun h => (absurd (show 137 = 162 from h) (by decide)))).trans ((hug16.2 137 30 (fun h => absurd h.2 (by decide))).trans ((hfg14 137 30 (fun h => (absurd (show 137 = 158 from h) (by decide)))).trans ((hug1.2 137 30 (fun h => absurd h.2 (by decide))).trans rfl))))); omega) ⟨3000000000, by omega, hE⟩
    · skip
      replace hE := zf_ip hE c18_12
      refine mm_g 2 (pc1 := 23) (lo1 := [some (.ref 137), some (.int (Int32.ofInt a1)), some (.int (Int32.ofInt a2)), none, none]) (st1 := [.int (Int32.ofInt 1), .ref 137]) (H1 := mz_mk g1 x) rfl ?_
      refine mz_cv rfl mt_12_294 (by decide) (sc_137 _) rfl (Nat.le_of_ble_eq_true rfl) (by omega) (f_X12_fail (by omega) hx hIg1 (by decide) (by decide) (fun v48 g49 hIg49 hfg49 l_v48 u_v48 hc50 => ⟨_, rfl, ?_⟩))
      show mm_W d mmX12_read 26 [some (.ref 137), some (.int (Int32.ofInt a1)), some (.int (Int32.ofInt a2)), none, none] [.int (Int32.ofInt v48)] (mz_mk g49 x) Q
      replace hE := zf_t2 hE hc50
      exact mm_rt rfl rfl (hQ _ _ hIg49 (fun k j hk => ((hfg49 k j (fun h => hk (Or.inl h))).trans (hug1.2 k j (fun h => hk (Or.inl h))))) (by omega) (by omega) (by have h9 := (show g49 137 30 = (g 137 30) from ((hfg49 137 30 (fun h => (absurd (show (137 = 137 ∧ 30 = 2) from h) (by decide)))).trans ((hug1.2 137 30 (fun h => absurd h.2 (by decide))).trans rfl))); omega) hE)
def fl_X12_alike_41 (x : mm_X) (a1 : Int) (a2 : Int) : Nat → Nat → Prop := fun k j => k = 157 ∨ (k = 137 ∧ j = 36) ∨ k = 158 ∨ (k = 137 ∧ j = 37) ∨ (k = 160 ∧ j = 0) ∨ (k = 160 ∧ j = 1) ∨ (k = 160 ∧ j = 2) ∨ (k = 160 ∧ j = 3) ∨ (k = 160 ∧ j = 4) ∨ (k = 160 ∧ j = 5) ∨ (k = 160 ∧ j = 6) ∨ k = 161 ∨ k = 152 ∨ (k = 137 ∧ j = 30)
def fw_X12_alike (x : mm_X) (a1 : Int) (a2 : Int) : Nat → Nat → Prop := fun k j => (k = 137 ∧ j = 2) ∨ k = 162 ∨ k = 157 ∨ (k = 137 ∧ j = 36) ∨ k = 158 ∨ (k = 137 ∧ j = 37) ∨ (k = 160 ∧ j = 0) ∨ (k = 160 ∧ j = 1) ∨ (k = 160 ∧ j = 2) ∨ (k = 160 ∧ j = 3) ∨ (k = 160 ∧ j = 4) ∨ (k = 160 ∧ j = 5) ∨ (k = 160 ∧ j = 6) ∨ k = 161 ∨ k = 152 ∨ (k = 137 ∧ j = 30) ∨ k = 153 ∨ k = 154 ∨ k = 155
theorem f_X12_alike {d : Nat} (hd : 16 ≤ d) {x : mm_X} (hx : mk_x x) {g : mz_G} (hI : mz_inv g) {a1 : Int} (l_a1 : (-2147483648) ≤ a1) (u_a1 : a1 ≤ 2147483647) {a2 : Int} (l_a2 : (-2147483648) ≤ a2) (u_a2 : a2 ≤ 2147483647) (p1 : mz_pv g) (p2 : g 137 30 ≤ 999) {Q : (Option Value ⊕ Nat) → mm_H → Prop} (hQ : ∀ (r : Int) (g1 : mz_G), mz_inv g1 → mz_fr (fw_X12_alike x a1 a2) g g1 → (-1) ≤ r → r ≤ 60 → (g1 137 30 ≤ 999) → zf_E (zF_X12_alike a1 a2 g) ((r, g1)) → Q (.inl (some (.int (Int32.ofInt r)))) (mz_mk g1 x)) : mm_C d 265 [.ref 137, .int (Int32.ofInt a1), .int (Int32.ofInt a2)] (mz_mk g x) Q := by
  refine ⟨mmX12_alike, [some (.ref 137), some (.int (Int32.ofInt a1)), some (.int (Int32.ofInt a2)), none, none], rfl, rfl, ?_⟩
  have bz0 := mz_rd hI bd_137_30
  have hpv := p1
  have hE : zf_E (zF_X12_alike a1 a2 g) (zF_X12_alike a1 a2 g) := zf_rf
  refine mm_g 2 (pc1 := 2) (lo1 := [some (.ref 137), some (.int (Int32.ofInt a1)), some (.int (Int32.ofInt a2)), none, none]) (st1 := [.int (Int32.ofInt 0), .ref 137]) (H1 := mz_mk g x) rfl ?_
  refine mz_pI rfl fd_12_154 (sc_137 _) hI bd_137_2 (by omega) (by omega) (fun g1 hIg1 hug1 => ?_)
  replace hE := zf_tr hE (zf_lg hug1)
  refine mm_g 2 (pc1 := 7) (lo1 := [some (.ref 137), some (.int (Int32.ofInt a1)), some (.int (Int32.ofInt a2)), none, none]) (st1 := [.int (Int32.ofInt a1), .ref 137]) (H1 := mz_mk g1 x) rfl ?_
  refine mz_cv rfl mt_12_391 (by decide) (sc_137 _) rfl (Nat.le_of_ble_eq_true rfl) (by omega) (f_X12_isTrunk (by omega) hx hIg1 l_a1 u_a1 (fun v2 l_v2 u_v2 hp3 hp4 hc5 => ⟨_, rfl, ?_⟩))
  show mm_W d mmX12_alike 10 [some (.ref 137), some (.int (Int32.ofInt a1)), some (.int (Int32.ofInt a2)), none, none] [.int (Int32.ofInt v2)] (mz_mk g1 x) Q
  replace hE := zf_t1 hE hc5
  refine mz_if_eq (tgt := 21) rfl rfl (mz_rg l_v2 u_v2) (fun c10_5 => ?_) (fun c10_5 => ?_)
  · skip
    replace hE := zf_ip hE c10_5
    refine mm_g 2 (pc1 := 23) (lo1 := [some (.ref 137), some (.int (Int32.ofInt a1)), some (.int (Int32.ofInt a2)), none, none]) (st1 := [.int (Int32.ofInt 1), .ref 137]) (H1 := mz_mk g1 x) rfl ?_
    refine mz_cv rfl mt_12_294 (by decide) (sc_137 _) rfl (Nat.le_of_ble_eq_true rfl) (by omega) (f_X12_fail (by omega) hx hIg1 (by decide) (by decide) (fun v6 g7 hIg7 hfg7 l_v6 u_v6 hc8 => ⟨_, rfl, ?_⟩))
    show mm_W d mmX12_alike 26 [some (.ref 137), some (.int (Int32.ofInt a1)), some (.int (Int32.ofInt a2)), none, none] [.int (Int32.ofInt v6)] (mz_mk g7 x) Q
    replace hE := zf_t2 hE hc8
    exact mm_rt rfl rfl (hQ _ _ hIg7 (fun k j hk => ((hfg7 k j (fun h => hk (Or.inl h))).trans (hug1.2 k j (fun h => hk (Or.inl h))))) (by omega) (by omega) (by have h9 := (show g7 137 30 = (g 137 30) from ((hfg7 137 30 (fun h => (absurd (show (137 = 137 ∧ 30 = 2) from h) (by decide)))).trans ((hug1.2 137 30 (fun h => absurd h.2 (by decide))).trans rfl))); omega) hE)
  · skip
    replace hE := zf_in hE c10_5
    refine mm_g 2 (pc1 := 15) (lo1 := [some (.ref 137), some (.int (Int32.ofInt a1)), some (.int (Int32.ofInt a2)), none, none]) (st1 := [.int (Int32.ofInt a2), .ref 137]) (H1 := mz_mk g1 x) rfl ?_
    refine mz_cv rfl mt_12_391 (by decide) (sc_137 _) rfl (Nat.le_of_ble_eq_true rfl) (by omega) (f_X12_isTrunk (by omega) hx hIg1 l_a2 u_a2 (fun v9 l_v9 u_v9 hp10 hp11 hc12 => ⟨_, rfl, ?_⟩))
    show mm_W d mmX12_alike 18 [some (.ref 137), some (.int (Int32.ofInt a1)), some (.int (Int32.ofInt a2)), none, none] [.int (Int32.ofInt v9)] (mz_mk g1 x) Q
    replace hE := zf_t1 hE hc12
    refine mz_if_ne (tgt := 27) rfl rfl (mz_rg l_v9 u_v9) (fun c18_12 => ?_) (fun c18_12 => ?_)
    · skip
      replace hE := zf_in hE c18_12
      refine mm_g 2 (pc1 := 29) (lo1 := [some (.ref 137), some (.int (Int32.ofInt a1)), some (.int (Int32.ofInt a2)), none, none]) (st1 := [.ref 137, .ref 137]) (H1 := mz_mk g1 x) rfl ?_
      refine mz_fgR (v := 162) rfl fd_12_103 (by decide) (sc_137 _) (rf_137_40 _ _ _) ?_
      refine mm_g 1 (pc1 := 33) (lo1 := [some (.ref 137), some (.int (Int32.ofInt a1)), some (.int (Int32.ofInt a2)), none, none]) (st1 := [.int (Int32.ofInt 0), .ref 162, .ref 137]) (H1 := mz_mk g1 x) rfl ?_
      refine mz_cv rfl mt_12_397 (by decide) (sc_137 _) rfl (Nat.le_of_ble_eq_true rfl) (by omega) (f_X12_store (by omega) hx hIg1 rwp_162 (by decide) (by decide) (by omega) (by omega) (by have h9 := (show g1 137 30 = (g 137 30) from ((hug1.2 137 30 (fun h => absurd h.2 (by decide))).trans rfl)); omega) (fun g13 hIg13 hfg13 hc14 => ⟨_, rfl, ?_⟩))
      show mm_W d mmX12_alike 36 [some (.ref 137), some (.int (Int32.ofInt a1)), some (.int (Int32.ofInt a2)), none, none] [] (mz_mk g13 x) Q
      replace hE := zf_t1 hE hc14
      refine mm_g 4 (pc1 := 41) (lo1 := [some (.ref 137), some (.int (Int32.ofInt a1)), some (.int (Int32.ofInt a2)), some (.int (Int32.ofInt (-1))), some (.int (Int32.ofInt 0))]) (st1 := []) (H1 := mz_mk g13 x) rfl ?_
      have L20 : ∀ n19 : Nat, ∀ (v15 : Int) (v16 : Int) (g17 : mz_G), (61 - v16).toNat = n19 → (-1) ≤ v15 → v15 ≤ 60 → 0 ≤ v16 → v16 ≤ 61 → mz_inv g17 → mz_fr (fl_X12_alike_41 x a1 a2) g13 g17 → (g17 137 30 ≤ 999 + v16) → (∃ fk : Nat, (61 - v16).toNat < fk ∧ zf_E (zF_X12_alike a1 a2 g) (zL_X12_alike_41 a1 a2 fk v15 v16 g17)) → mm_W d mmX12_alike 41 [some (.ref 137), some (.int (Int32.ofInt a1)), some (.int (Int32.ofInt a2)), some (.int (Int32.ofInt v15)), some (.int (Int32.ofInt v16))] [] (mz_mk g17 x) Q := by
        intro n19
        induction n19 using Nat.strongRecOn with
        | ind n19 ih18 =>
        intro v15 v16 g17 hmn19 l_v15 u_v15 l_v16 u_v16 hIg17 hfg17 hv21 hF
        obtain ⟨fk, fl, hE⟩ := hF
        obtain ⟨fj22, rfl⟩ : ∃ fj, fk = fj + 1 := ⟨fk - 1, by omega⟩
        have fn23 : n19 ≤ fj22 := by omega
        replace hE := zf_tr hE zL_X12_alike_41_s
        have bz_g17_30 := mz_rd hIg17 bd_137_30
        refine mm_g 1 (pc1 := 43) (lo1 := [some (.ref 137), some (.int (Int32.ofInt a1)), some (.int (Int32.ofInt a2)), some (.int (Int32.ofInt v15)), some (.int (Int32.ofInt v16))]) (st1 := [.int (Int32.ofInt v16)]) (H1 := mz_mk g17 x) rfl ?_
        refine mz_bip rfl bip_60 ?_
        refine mz_ic_gt (tgt := 105) rfl rfl (mz_rg l_v16 u_v16) ⟨by decide, by decide⟩ (fun c45_23 => ?_) (fun c45_23 => ?_)
        · skip
          replace hE := zf_ip hE c45_23
          refine mm_g 2 (pc1 := 107) (lo1 := [some (.ref 137), some (.int (Int32.ofInt a1)), some (.int (Int32.ofInt a2)), some (.int (Int32.ofInt v15)), some (.int (Int32.ofInt v16))]) (st1 := [.ref 137, .ref 137]) (H1 := mz_mk g17 x) rfl ?_
          refine mz_fgR (v := 162) rfl fd_12_103 (by decide) (sc_137 _) (rf_137_40 _ _ _) ?_
          refine mm_g 1 (pc1 := 111) (lo1 := [some (.ref 137), some (.int (Int32.ofInt a1)), some (.int (Int32.ofInt a2)), some (.int (Int32.ofInt v15)), some (.int (Int32.ofInt v16))]) (st1 := [.int (Int32.ofInt 0), .ref 162, .ref 137]) (H1 := mz_mk g17 x) rfl ?_
          refine mz_cv rfl mt_12_421 (by decide) (sc_137 _) rfl (Nat.le_of_ble_eq_true rfl) (by omega) (f_X12_recall (by omega) hx hIg17 rwp_162 (by decide) (by decide) (by omega) (by omega) (fun g24 hIg24 hfg24 hp25 hc26 => ⟨_, rfl, ?_⟩))
          show mm_W d mmX12_alike 114 [some (.ref 137), some (.int (Int32.ofInt a1)), some (.int (Int32.ofInt a2)), some (.int (Int32.ofInt v15)), some (.int (Int32.ofInt v16))] [] (mz_mk g24 x) Q
          replace hE := zf_t1 hE hc26
          refine mm_g 1 (pc1 := 115) (lo1 := [some (.ref 137), some (.int (Int32.ofInt a1)), some (.int (Int32.ofInt a2)), some (.int (Int32.ofInt v15)), some (.int (Int32.ofInt v16))]) (st1 := [.int (Int32.ofInt v15)]) (H1 := mz_mk g24 x) rfl ?_
          exact mm_rt rfl rfl (hQ _ _ hIg24 (fun k j hk => ((hfg24 k j (fun h => hk (Or.elim h (fun h => (Or.inr (Or.inr (Or.inr (Or.inr (Or.inr (Or.inr (Or.inr (Or.inr (Or.inr (Or.inr (Or.inr (Or.inr (Or.inr (Or.inr (Or.inr (Or.inl h))))))))))))))))) (fun h => (Or.elim h (fun h => (Or.inr (Or.inr (Or.inr (Or.inr (Or.inr (Or.inr (Or.inr (Or.inr (Or.inr (Or.inr (Or.inr (Or.inr (Or.inr (Or.inr (Or.inl h)))))))))))))))) (fun h => (Or.elim h (fun h => (Or.inr (Or.inr (Or.inr (Or.inr (Or.inr (Or.inr (Or.inr (Or.inr (Or.inr (Or.inr (Or.inr (Or.inr (Or.inr (Or.inr (Or.inr (Or.inr (Or.inl h)))))))))))))))))) (fun h => (Or.elim h (fun h => (Or.inr (Or.inr (Or.inr (Or.inr (Or.inr (Or.inr (Or.inr (Or.inr (Or.inr (Or.inr (Or.inr (Or.inr (Or.inr (Or.inr (Or.inr (Or.inr (Or.inr (Or.inl h))))))))))))))))))) (fun h => (Or.inr (Or.inr (Or.inr (Or.inr (Or.inr (Or.inr (Or.inr (Or.inr (Or.inr (Or.inr (Or.inr (Or.inr (Or.inr (Or.inr (Or.inr (Or.inr (Or.inr (Or.inr h)))))))))))))))))))))))))))).trans ((hfg17 k j (fun h => hk (Or.elim h (fun h => (Or.inr (Or.inr (Or.inl h)))) (fun h => (Or.elim h (fun h => (Or.inr (Or.inr (Or.inr (Or.inl h))))) (fun h => (Or.elim h (fun h => (Or.inr (Or.inr (Or.inr (Or.inr (Or.inl h)))))) (fun h => (Or.elim h (fun h => (Or.inr (Or.inr (Or.inr (Or.inr (Or.inr (Or.inl h))))))) (fun h => (Or.elim h (fun h => (Or.inr (Or.inr (Or.inr (Or.inr (Or.inr (Or.inr (Or.inl h)))))))) (fun h => (Or.elim h (fun h => (Or.inr (Or.inr (Or.inr (Or.inr (Or.inr (Or.inr (Or.inr (Or.inl h))))))))) (fun h => (Or.elim h (fun h => (Or.inr (Or.inr (Or.inr (Or.inr (Or.inr (Or.inr (Or.inr (Or.inr (Or.inl h)))))))))) (fun h => (Or.elim h (fun h => (Or.inr (Or.inr (Or.inr (Or.inr (Or.inr (Or.inr (Or.inr (Or.inr (Or.inr (Or.inl h))))))))))) (fun h => (Or.elim h (fun h => (Or.inr (Or.inr (Or.inr (Or.inr (Or.inr (Or.inr (Or.inr (Or.inr (Or.inr (Or.inr (Or.inl h)))))))))))) (fun h => (Or.elim h (fun h => (Or.inr (Or.inr (Or.inr (Or.inr (Or.inr (Or.inr (Or.inr (Or.inr (Or.inr (Or.inr (Or.inr (Or.inl h))))))))))))) (fun h => (Or.elim h (fun h => (Or.inr (Or.inr (Or.inr (Or.inr (Or.inr (Or.inr (Or.inr (Or.inr (Or.inr (Or.inr (Or.inr (Or.inr (Or.inl h)))))))))))))) (fun h => (Or.elim h (fun h => (Or.inr (Or.inr (Or.inr (Or.inr (Or.inr (Or.inr (Or.inr (Or.inr (Or.inr (Or.inr (Or.inr (Or.inr (Or.inr (Or.inl h))))))))))))))) (fun h => (Or.elim h (fun h => (Or.inr (Or.inr (Or.inr (Or.inr (Or.inr (Or.inr (Or.inr (Or.inr (Or.inr (Or.inr (Or.inr (Or.inr (Or.inr (Or.inr (Or.inl h)))))))))))))))) (fun h => (Or.inr (Or.inr (Or.inr (Or.inr (Or.inr (Or.inr (Or.inr (Or.inr (Or.inr (Or.inr (Or.inr (Or.inr (Or.inr (Or.inr (Or.inr (Or.inl h)))))))))))))))))))))))))))))))))))))))))))).trans ((hfg13 k j (fun h => hk (Or.inr (Or.inl h)))).trans (hug1.2 k j (fun h => hk (Or.inl h))))))) (by omega) (by omega) (by omega) hE)
        · skip
          replace hE := zf_nl hE c45_23
          refine mm_g 2 (pc1 := 50) (lo1 := [some (.ref 137), some (.int (Int32.ofInt a1)), some (.int (Int32.ofInt a2)), some (.int (Int32.ofInt v15)), some (.int (Int32.ofInt v16))]) (st1 := [.int (Int32.ofInt (-1)), .int (Int32.ofInt v15)]) (H1 := mz_mk g17 x) rfl ?_
          refine mz_ic_ne (tgt := 105) rfl rfl (mz_rg l_v15 u_v15) ⟨by decide, by decide⟩ (fun c50_26 => ?_) (fun c50_26 => ?_)
          · skip
            replace hE := zf_in hE c50_26
            refine mm_g 2 (pc1 := 107) (lo1 := [some (.ref 137), some (.int (Int32.ofInt a1)), some (.int (Int32.ofInt a2)), some (.int (Int32.ofInt v15)), some (.int (Int32.ofInt v16))]) (st1 := [.ref 137, .ref 137]) (H1 := mz_mk g17 x) rfl ?_
            refine mz_fgR (v := 162) rfl fd_12_103 (by decide) (sc_137 _) (rf_137_40 _ _ _) ?_
            refine mm_g 1 (pc1 := 111) (lo1 := [some (.ref 137), some (.int (Int32.ofInt a1)), some (.int (Int32.ofInt a2)), some (.int (Int32.ofInt v15)), some (.int (Int32.ofInt v16))]) (st1 := [.int (Int32.ofInt 0), .ref 162, .ref 137]) (H1 := mz_mk g17 x) rfl ?_
            refine mz_cv rfl mt_12_421 (by decide) (sc_137 _) rfl (Nat.le_of_ble_eq_true rfl) (by omega) (f_X12_recall (by omega) hx hIg17 rwp_162 (by decide) (by decide) (by omega) (by omega) (fun g27 hIg27 hfg27 hp28 hc29 => ⟨_, rfl, ?_⟩))
            show mm_W d mmX12_alike 114 [some (.ref 137), some (.int (Int32.ofInt a1)), some (.int (Int32.ofInt a2)), some (.int (Int32.ofInt v15)), some (.int (Int32.ofInt v16))] [] (mz_mk g27 x) Q
            replace hE := zf_t1 hE hc29
            refine mm_g 1 (pc1 := 115) (lo1 := [some (.ref 137), some (.int (Int32.ofInt a1)), some (.int (Int32.ofInt a2)), some (.int (Int32.ofInt v15)), some (.int (Int32.ofInt v16))]) (st1 := [.int (Int32.ofInt v15)]) (H1 := mz_mk g27 x) rfl ?_
            exact mm_rt rfl rfl (hQ _ _ hIg27 (fun k j hk => ((hfg27 k j (fun h => hk (Or.elim h (fun h => (Or.inr (Or.inr (Or.inr (Or.inr (Or.inr (Or.inr (Or.inr (Or.inr (Or.inr (Or.inr (Or.inr (Or.inr (Or.inr (Or.inr (Or.inr (Or.inl h))))))))))))))))) (fun h => (Or.elim h (fun h => (Or.inr (Or.inr (Or.inr (Or.inr (Or.inr (Or.inr (Or.inr (Or.inr (Or.inr (Or.inr (Or.inr (Or.inr (Or.inr (Or.inr (Or.inl h)))))))))))))))) (fun h => (Or.elim h (fun h => (Or.inr (Or.inr (Or.inr (Or.inr (Or.inr (Or.inr (Or.inr (Or.inr (Or.inr (Or.inr (Or.inr (Or.inr (Or.inr (Or.inr (Or.inr (Or.inr (Or.inl h)))))))))))))))))) (fun h => (Or.elim h (fun h => (Or.inr (Or.inr (Or.inr (Or.inr (Or.inr (Or.inr (Or.inr (Or.inr (Or.inr (Or.inr (Or.inr (Or.inr (Or.inr (Or.inr (Or.inr (Or.inr (Or.inr (Or.inl h))))))))))))))))))) (fun h => (Or.inr (Or.inr (Or.inr (Or.inr (Or.inr (Or.inr (Or.inr (Or.inr (Or.inr (Or.inr (Or.inr (Or.inr (Or.inr (Or.inr (Or.inr (Or.inr (Or.inr (Or.inr h)))))))))))))))))))))))))))).trans ((hfg17 k j (fun h => hk (Or.elim h (fun h => (Or.inr (Or.inr (Or.inl h)))) (fun h => (Or.elim h (fun h => (Or.inr (Or.inr (Or.inr (Or.inl h))))) (fun h => (Or.elim h (fun h => (Or.inr (Or.inr (Or.inr (Or.inr (Or.inl h)))))) (fun h => (Or.elim h (fun h => (Or.inr (Or.inr (Or.inr (Or.inr (Or.inr (Or.inl h))))))) (fun h => (Or.elim h (fun h => (Or.inr (Or.inr (Or.inr (Or.inr (Or.inr (Or.inr (Or.inl h)))))))) (fun h => (Or.elim h (fun h => (Or.inr (Or.inr (Or.inr (Or.inr (Or.inr (Or.inr (Or.inr (Or.inl h))))))))) (fun h => (Or.elim h (fun h => (Or.inr (Or.inr (Or.inr (Or.inr (Or.inr (Or.inr (Or.inr (Or.inr (Or.inl h)))))))))) (fun h => (Or.elim h (fun h => (Or.inr (Or.inr (Or.inr (Or.inr (Or.inr (Or.inr (Or.inr (Or.inr (Or.inr (Or.inl h))))))))))) (fun h => (Or.elim h (fun h => (Or.inr (Or.inr (Or.inr (Or.inr (Or.inr (Or.inr (Or.inr (Or.inr (Or.inr (Or.inr (Or.inl h)))))))))))) (fun h => (Or.elim h (fun h => (Or.inr (Or.inr (Or.inr (Or.inr (Or.inr (Or.inr (Or.inr (Or.inr (Or.inr (Or.inr (Or.inr (Or.inl h))))))))))))) (fun h => (Or.elim h (fun h => (Or.inr (Or.inr (Or.inr (Or.inr (Or.inr (Or.inr (Or.inr (Or.inr (Or.inr (Or.inr (Or.inr (Or.inr (Or.inl h)))))))))))))) (fun h => (Or.elim h (fun h => (Or.inr (Or.inr (Or.inr (Or.inr (Or.inr (Or.inr (Or.inr (Or.inr (Or.inr (Or.inr (Or.inr (Or.inr (Or.inr (Or.inl h))))))))))))))) (fun h => (Or.elim h (fun h => (Or.inr (Or.inr (Or.inr (Or.inr (Or.inr (Or.inr (Or.inr (Or.inr (Or.inr (Or.inr (Or.inr (Or.inr (Or.inr (Or.inr (Or.inl h)))))))))))))))) (fun h => (Or.inr (Or.inr (Or.inr (Or.inr (Or.inr (Or.inr (Or.inr (Or.inr (Or.inr (Or.inr (Or.inr (Or.inr (Or.inr (Or.inr (Or.inr (Or.inl h)))))))))))))))))))))))))))))))))))))))))))).trans ((hfg13 k j (fun h => hk (Or.inr (Or.inl h)))).trans (hug1.2 k j (fun h => hk (Or.inl h))))))) (by omega) (by omega) (by omega) hE)
          · skip
            replace hE := zf_ip hE c50_26
            refine mm_g 2 (pc1 := 55) (lo1 := [some (.ref 137), some (.int (Int32.ofInt a1)), some (.int (Int32.ofInt a2)), some (.int (Int32.ofInt v15)), some (.int (Int32.ofInt v16))]) (st1 := [.int (Int32.ofInt a2), .int (Int32.ofInt a1)]) (H1 := mz_mk g17 x) rfl ?_
            refine mz_ic_eq (tgt := 105) rfl rfl (mz_rg l_a1 u_a1) (mz_rg l_a2 u_a2) (fun c55_29 => ?_) (fun c55_29 => ?_)
            · skip
              replace hE := zf_ip hE c55_29
              refine mm_g 2 (pc1 := 107) (lo1 := [some (.ref 137), some (.int (Int32.ofInt a1)), some (.int (Int32.ofInt a2)), some (.int (Int32.ofInt v15)), some (.int (Int32.ofInt v16))]) (st1 := [.ref 137, .ref 137]) (H1 := mz_mk g17 x) rfl ?_
              refine mz_fgR (v := 162) rfl fd_12_103 (by decide) (sc_137 _) (rf_137_40 _ _ _) ?_
              refine mm_g 1 (pc1 := 111) (lo1 := [some (.ref 137), some (.int (Int32.ofInt a1)), some (.int (Int32.ofInt a2)), some (.int (Int32.ofInt v15)), some (.int (Int32.ofInt v16))]) (st1 := [.int (Int32.ofInt 0), .ref 162, .ref 137]) (H1 := mz_mk g17 x) rfl ?_
              refine mz_cv rfl mt_12_421 (by decide) (sc_137 _) rfl (Nat.le_of_ble_eq_true rfl) (by omega) (f_X12_recall (by omega) hx hIg17 rwp_162 (by decide) (by decide) (by omega) (by omega) (fun g30 hIg30 hfg30 hp31 hc32 => ⟨_, rfl, ?_⟩))
              show mm_W d mmX12_alike 114 [some (.ref 137), some (.int (Int32.ofInt a1)), some (.int (Int32.ofInt a2)), some (.int (Int32.ofInt v15)), some (.int (Int32.ofInt v16))] [] (mz_mk g30 x) Q
              replace hE := zf_t1 hE hc32
              refine mm_g 1 (pc1 := 115) (lo1 := [some (.ref 137), some (.int (Int32.ofInt a1)), some (.int (Int32.ofInt a2)), some (.int (Int32.ofInt v15)), some (.int (Int32.ofInt v16))]) (st1 := [.int (Int32.ofInt v15)]) (H1 := mz_mk g30 x) rfl ?_
              exact mm_rt rfl rfl (hQ _ _ hIg30 (fun k j hk => ((hfg30 k j (fun h => hk (Or.elim h (fun h => (Or.inr (Or.inr (Or.inr (Or.inr (Or.inr (Or.inr (Or.inr (Or.inr (Or.inr (Or.inr (Or.inr (Or.inr (Or.inr (Or.inr (Or.inr (Or.inl h))))))))))))))))) (fun h => (Or.elim h (fun h => (Or.inr (Or.inr (Or.inr (Or.inr (Or.inr (Or.inr (Or.inr (Or.inr (Or.inr (Or.inr (Or.inr (Or.inr (Or.inr (Or.inr (Or.inl h)))))))))))))))) (fun h => (Or.elim h (fun h => (Or.inr (Or.inr (Or.inr (Or.inr (Or.inr (Or.inr (Or.inr (Or.inr (Or.inr (Or.inr (Or.inr (Or.inr (Or.inr (Or.inr (Or.inr (Or.inr (Or.inl h)))))))))))))))))) (fun h => (Or.elim h (fun h => (Or.inr (Or.inr (Or.inr (Or.inr (Or.inr (Or.inr (Or.inr (Or.inr (Or.inr (Or.inr (Or.inr (Or.inr (Or.inr (Or.inr (Or.inr (Or.inr (Or.inr (Or.inl h))))))))))))))))))) (fun h => (Or.inr (Or.inr (Or.inr (Or.inr (Or.inr (Or.inr (Or.inr (Or.inr (Or.inr (Or.inr (Or.inr (Or.inr (Or.inr (Or.inr (Or.inr (Or.inr (Or.inr (Or.inr h)))))))))))))))))))))))))))).trans ((hfg17 k j (fun h => hk (Or.elim h (fun h => (Or.inr (Or.inr (Or.inl h)))) (fun h => (Or.elim h (fun h => (Or.inr (Or.inr (Or.inr (Or.inl h))))) (fun h => (Or.elim h (fun h => (Or.inr (Or.inr (Or.inr (Or.inr (Or.inl h)))))) (fun h => (Or.elim h (fun h => (Or.inr (Or.inr (Or.inr (Or.inr (Or.inr (Or.inl h))))))) (fun h => (Or.elim h (fun h => (Or.inr (Or.inr (Or.inr (Or.inr (Or.inr (Or.inr (Or.inl h)))))))) (fun h => (Or.elim h (fun h => (Or.inr (Or.inr (Or.inr (Or.inr (Or.inr (Or.inr (Or.inr (Or.inl h))))))))) (fun h => (Or.elim h (fun h => (Or.inr (Or.inr (Or.inr (Or.inr (Or.inr (Or.inr (Or.inr (Or.inr (Or.inl h)))))))))) (fun h => (Or.elim h (fun h => (Or.inr (Or.inr (Or.inr (Or.inr (Or.inr (Or.inr (Or.inr (Or.inr (Or.inr (Or.inl h))))))))))) (fun h => (Or.elim h (fun h => (Or.inr (Or.inr (Or.inr (Or.inr (Or.inr (Or.inr (Or.inr (Or.inr (Or.inr (Or.inr (Or.inl h)))))))))))) (fun h => (Or.elim h (fun h => (Or.inr (Or.inr (Or.inr (Or.inr (Or.inr (Or.inr (Or.inr (Or.inr (Or.inr (Or.inr (Or.inr (Or.inl h))))))))))))) (fun h => (Or.elim h (fun h => (Or.inr (Or.inr (Or.inr (Or.inr (Or.inr (Or.inr (Or.inr (Or.inr (Or.inr (Or.inr (Or.inr (Or.inr (Or.inl h)))))))))))))) (fun h => (Or.elim h (fun h => (Or.inr (Or.inr (Or.inr (Or.inr (Or.inr (Or.inr (Or.inr (Or.inr (Or.inr (Or.inr (Or.inr (Or.inr (Or.inr (Or.inl h))))))))))))))) (fun h => (Or.elim h (fun h => (Or.inr (Or.inr (Or.inr (Or.inr (Or.inr (Or.inr (Or.inr (Or.inr (Or.inr (Or.inr (Or.inr (Or.inr (Or.inr (Or.inr (Or.inl h)))))))))))))))) (fun h => (Or.inr (Or.inr (Or.inr (Or.inr (Or.inr (Or.inr (Or.inr (Or.inr (Or.inr (Or.inr (Or.inr (Or.inr (Or.inr (Or.inr (Or.inr (Or.inl h)))))))))))))))))))))))))))))))))))))))))))).trans ((hfg13 k j (fun h => hk (Or.inr (Or.inl h)))).trans (hug1.2 k j (fun h => hk (Or.inl h))))))) (by omega) (by omega) (by omega) hE)
            · skip
              replace hE := zf_in hE c55_29
              refine mm_g 3 (pc1 := 61) (lo1 := [some (.ref 137), some (.int (Int32.ofInt a1)), some (.int (Int32.ofInt a2)), some (.int (Int32.ofInt v15)), some (.int (Int32.ofInt v16))]) (st1 := [.ref 137, .ref 137, .ref 137]) (H1 := mz_mk g17 x) rfl ?_
              refine mz_fgR (v := 157) rfl fd_12_88 (by decide) (sc_137 _) (rf_137_33 _ _ _) ?_
              refine mm_g 1 (pc1 := 65) (lo1 := [some (.ref 137), some (.int (Int32.ofInt a1)), some (.int (Int32.ofInt a2)), some (.int (Int32.ofInt v15)), some (.int (Int32.ofInt v16))]) (st1 := [.int (Int32.ofInt a1), .ref 157, .ref 137, .ref 137]) (H1 := mz_mk g17 x) rfl ?_
              refine mz_cv rfl mt_12_424 (by decide) (sc_137 _) rfl (Nat.le_of_ble_eq_true rfl) (by omega) (f_X12_blendInto (by omega) hx hIg17 (sh_157 _) (by decide) ba_157 (by omega) (by omega) (by omega) (fun v33 g34 hIg34 hfg34 l_v33 u_v33 hc35 => ⟨_, rfl, ?_⟩))
              show mm_W d mmX12_alike 68 [some (.ref 137), some (.int (Int32.ofInt a1)), some (.int (Int32.ofInt a2)), some (.int (Int32.ofInt v15)), some (.int (Int32.ofInt v16))] [.int (Int32.ofInt v33), .ref 137] (mz_mk g34 x) Q
              replace hE := zf_t2 hE hc35
              refine mz_pI rfl fd_12_323 (sc_137 _) hIg34 bd_137_36 (by omega) (by omega) (fun g36 hIg36 hug36 => ?_)
              replace hE := zf_tr hE (zf_lg hug36)
              refine mm_g 3 (pc1 := 74) (lo1 := [some (.ref 137), some (.int (Int32.ofInt a1)), some (.int (Int32.ofInt a2)), some (.int (Int32.ofInt v15)), some (.int (Int32.ofInt v16))]) (st1 := [.ref 137, .ref 137, .ref 137]) (H1 := mz_mk g36 x) rfl ?_
              refine mz_fgR (v := 158) rfl fd_12_91 (by decide) (sc_137 _) (rf_137_34 _ _ _) ?_
              refine mm_g 1 (pc1 := 78) (lo1 := [some (.ref 137), some (.int (Int32.ofInt a1)), some (.int (Int32.ofInt a2)), some (.int (Int32.ofInt v15)), some (.int (Int32.ofInt v16))]) (st1 := [.int (Int32.ofInt a2), .ref 158, .ref 137, .ref 137]) (H1 := mz_mk g36 x) rfl ?_
              refine mz_cv rfl mt_12_424 (by decide) (sc_137 _) rfl (Nat.le_of_ble_eq_true rfl) (by omega) (f_X12_blendInto (by omega) hx hIg36 (sh_158 _) (by decide) ba_158 (by omega) (by omega) (by omega) (fun v37 g38 hIg38 hfg38 l_v37 u_v37 hc39 => ⟨_, rfl, ?_⟩))
              show mm_W d mmX12_alike 81 [some (.ref 137), some (.int (Int32.ofInt a1)), some (.int (Int32.ofInt a2)), some (.int (Int32.ofInt v15)), some (.int (Int32.ofInt v16))] [.int (Int32.ofInt v37), .ref 137] (mz_mk g38 x) Q
              replace hE := zf_t2 hE hc39
              refine mz_pI rfl fd_12_326 (sc_137 _) hIg38 bd_137_37 (by omega) (by omega) (fun g40 hIg40 hug40 => ?_)
              replace hE := zf_tr hE (zf_lg hug40)
              refine mm_g 1 (pc1 := 85) (lo1 := [some (.ref 137), some (.int (Int32.ofInt a1)), some (.int (Int32.ofInt a2)), some (.int (Int32.ofInt v15)), some (.int (Int32.ofInt v16))]) (st1 := [.ref 137]) (H1 := mz_mk g40 x) rfl ?_
              refine mz_cv rfl mt_12_447 (by decide) (sc_137 _) rfl (Nat.le_of_ble_eq_true rfl) (by omega) (f_X12_areSame (by omega) hx hIg40 (fun v41 l_v41 u_v41 hc42 => ⟨_, rfl, ?_⟩))
              show mm_W d mmX12_alike 88 [some (.ref 137), some (.int (Int32.ofInt a1)), some (.int (Int32.ofInt a2)), some (.int (Int32.ofInt v15)), some (.int (Int32.ofInt v16))] [.int (Int32.ofInt v41)] (mz_mk g40 x) Q
              replace hE := zf_t1 hE hc42
              refine mz_if_eq (tgt := 94) rfl rfl (mz_rg l_v41 u_v41) (fun c88_42 => ?_) (fun c88_42 => ?_)
              · skip
                replace hE := zf_ip hE c88_42
                refine mm_g 2 (pc1 := 96) (lo1 := [some (.ref 137), some (.int (Int32.ofInt a1)), some (.int (Int32.ofInt a2)), some (.int (Int32.ofInt v15)), some (.int (Int32.ofInt v16))]) (st1 := [.int (Int32.ofInt 1), .ref 137]) (H1 := mz_mk g40 x) rfl ?_
                have hq43 : g40 137 30 = (g17 137 30) := (show g40 137 30 = (g17 137 30) from ((hug40.2 137 30 (fun h => absurd h.2 (by decide))).trans ((hfg38 137 30 (fun h => (absurd (show 137 = 158 from h) (by decide)))).trans ((hug36.2 137 30 (fun h => absurd h.2 (by decide))).trans ((hfg34 137 30 (fun h => (absurd (show 137 = 157 from h) (by decide)))).trans rfl)))))
                refine mz_cv rfl mt_12_409 (by decide) (sc_137 _) rfl (Nat.le_of_ble_eq_true rfl) (by omega) (f_X12_goOn (by omega) hx hIg40 (by decide) (by decide) (mz_pv_fr hpv (fun _j => ((hug40.2 149 _j (fun h => absurd h.1 (by decide))).trans ((hfg38 149 _j (fun h => (absurd (show 149 = 158 from h) (by decide)))).trans ((hug36.2 149 _j (fun h => absurd h.1 (by decide))).trans ((hfg34 149 _j (fun h => (absurd (show 149 = 157 from h) (by decide)))).trans ((hfg17 149 _j nj_38).trans ((hfg13 149 _j (fun h => (absurd (show 149 = 162 from h) (by decide)))).trans ((hug1.2 149 _j (fun h => absurd h.1 (by decide))).trans rfl)))))))) ((hug40.2 140 3 (fun h => absurd h.1 (by decide))).trans ((hfg38 140 3 (fun h => (absurd (show 140 = 158 from h) (by decide)))).trans ((hug36.2 140 3 (fun h => absurd h.1 (by decide))).trans ((hfg34 140 3 (fun h => (absurd (show 140 = 157 from h) (by decide)))).trans ((hfg17 140 3 nj_39).trans ((hfg13 140 3 (fun h => (absurd (show 140 = 162 from h) (by decide)))).trans ((hug1.2 140 3 (fun h => absurd h.1 (by decide))).trans rfl)))))))) (by have h9 := (show g40 137 30 = (g17 137 30) from ((hug40.2 137 30 (fun h => absurd h.2 (by decide))).trans ((hfg38 137 30 (fun h => (absurd (show 137 = 158 from h) (by decide)))).trans ((hug36.2 137 30 (fun h => absurd h.2 (by decide))).trans ((hfg34 137 30 (fun h => (absurd (show 137 = 157 from h) (by decide)))).trans rfl))))); omega) (fun g44 hIg44 hfg44 hp45 hc46 => ⟨_, rfl, ?_⟩))
                show mm_W d mmX12_alike 99 [some (.ref 137), some (.int (Int32.ofInt a1)), some (.int (Int32.ofInt a2)), some (.int (Int32.ofInt v15)), some (.int (Int32.ofInt v16))] [] (mz_mk g44 x) Q
                replace hE := zf_t1 hE hc46
                refine mz_iincR (v := v16) (lo2 := [some (.ref 137), some (.int (Int32.ofInt a1)), some (.int (Int32.ofInt a2)), some (.int (Int32.ofInt v15)), some (.int (Int32.ofInt (v16 + 1)))]) rfl rfl rfl (Nat.le_of_ble_eq_true rfl) rfl ?_
                refine mz_gt (tgt := 41) rfl rfl ?_
                exact ih18 ((61 - (v16 + 1)).toNat) (by omega) v15 (v16 + 1) g44 rfl (by omega) (by omega) (by omega) (by omega) hIg44 (fun k j hk => ((hfg44 k j (fun h => hk (Or.elim h (fun h => (Or.inr (Or.inr (Or.inr (Or.inr (Or.inl h)))))) (fun h => (Or.elim h (fun h => (Or.inr (Or.inr (Or.inr (Or.inr (Or.inr (Or.inl h))))))) (fun h => (Or.elim h (fun h => (Or.inr (Or.inr (Or.inr (Or.inr (Or.inr (Or.inr (Or.inl h)))))))) (fun h => (Or.elim h (fun h => (Or.inr (Or.inr (Or.inr (Or.inr (Or.inr (Or.inr (Or.inr (Or.inl h))))))))) (fun h => (Or.elim h (fun h => (Or.inr (Or.inr (Or.inr (Or.inr (Or.inr (Or.inr (Or.inr (Or.inr (Or.inl h)))))))))) (fun h => (Or.elim h (fun h => (Or.inr (Or.inr (Or.inr (Or.inr (Or.inr (Or.inr (Or.inr (Or.inr (Or.inr (Or.inl h))))))))))) (fun h => (Or.elim h (fun h => (Or.inr (Or.inr (Or.inr (Or.inr (Or.inr (Or.inr (Or.inr (Or.inr (Or.inr (Or.inr (Or.inl h)))))))))))) (fun h => (Or.elim h (fun h => (Or.inr (Or.inr (Or.inr (Or.inr (Or.inr (Or.inr (Or.inr (Or.inr (Or.inr (Or.inr (Or.inr (Or.inl h))))))))))))) (fun h => (Or.elim h (fun h => (Or.inr (Or.inr (Or.inr (Or.inr (Or.inr (Or.inr (Or.inr (Or.inr (Or.inr (Or.inr (Or.inr (Or.inr (Or.inl h)))))))))))))) (fun h => (Or.inr (Or.inr (Or.inr (Or.inr (Or.inr (Or.inr (Or.inr (Or.inr (Or.inr (Or.inr (Or.inr (Or.inr (Or.inr h))))))))))))))))))))))))))))))))).trans ((hug40.2 k j (fun h => hk (Or.inr (Or.inr (Or.inr (Or.inl h)))))).trans ((hfg38 k j (fun h => hk (Or.inr (Or.inr (Or.inl h))))).trans ((hug36.2 k j (fun h => hk (Or.inr (Or.inl h)))).trans ((hfg34 k j (fun h => hk (Or.inl h))).trans (hfg17 k j (fun h => hk (Or.elim h (fun h => (Or.inl h)) (fun h => (Or.elim h (fun h => (Or.inr (Or.inl h))) (fun h => (Or.elim h (fun h => (Or.inr (Or.inr (Or.inl h)))) (fun h => (Or.elim h (fun h => (Or.inr (Or.inr (Or.inr (Or.inl h))))) (fun h => (Or.elim h (fun h => (Or.inr (Or.inr (Or.inr (Or.inr (Or.inl h)))))) (fun h => (Or.elim h (fun h => (Or.inr (Or.inr (Or.inr (Or.inr (Or.inr (Or.inl h))))))) (fun h => (Or.elim h (fun h => (Or.inr (Or.inr (Or.inr (Or.inr (Or.inr (Or.inr (Or.inl h)))))))) (fun h => (Or.elim h (fun h => (Or.inr (Or.inr (Or.inr (Or.inr (Or.inr (Or.inr (Or.inr (Or.inl h))))))))) (fun h => (Or.elim h (fun h => (Or.inr (Or.inr (Or.inr (Or.inr (Or.inr (Or.inr (Or.inr (Or.inr (Or.inl h)))))))))) (fun h => (Or.elim h (fun h => (Or.inr (Or.inr (Or.inr (Or.inr (Or.inr (Or.inr (Or.inr (Or.inr (Or.inr (Or.inl h))))))))))) (fun h => (Or.elim h (fun h => (Or.inr (Or.inr (Or.inr (Or.inr (Or.inr (Or.inr (Or.inr (Or.inr (Or.inr (Or.inr (Or.inl h)))))))))))) (fun h => (Or.elim h (fun h => (Or.inr (Or.inr (Or.inr (Or.inr (Or.inr (Or.inr (Or.inr (Or.inr (Or.inr (Or.inr (Or.inr (Or.inl h))))))))))))) (fun h => (Or.elim h (fun h => (Or.inr (Or.inr (Or.inr (Or.inr (Or.inr (Or.inr (Or.inr (Or.inr (Or.inr (Or.inr (Or.inr (Or.inr (Or.inl h)))))))))))))) (fun h => (Or.inr (Or.inr (Or.inr (Or.inr (Or.inr (Or.inr (Or.inr (Or.inr (Or.inr (Or.inr (Or.inr (Or.inr (Or.inr h))))))))))))))))))))))))))))))))))))))))))))))) (by omega) ⟨fj22, Nat.lt_of_lt_of_le (show ((61 - (v16 + 1)).toNat) < n19 from (by omega)) fn23, hE⟩
              · skip
                replace hE := zf_in hE c88_42
                refine mm_g 4 (pc1 := 96) (lo1 := [some (.ref 137), some (.int (Int32.ofInt a1)), some (.int (Int32.ofInt a2)), some (.int (Int32.ofInt v16)), some (.int (Int32.ofInt v16))]) (st1 := [.int (Int32.ofInt 1), .ref 137]) (H1 := mz_mk g40 x) rfl ?_
                have hq47 : g40 137 30 = (g17 137 30) := (show g40 137 30 = (g17 137 30) from ((hug40.2 137 30 (fun h => absurd h.2 (by decide))).trans ((hfg38 137 30 (fun h => (absurd (show 137 = 158 from h) (by decide)))).trans ((hug36.2 137 30 (fun h => absurd h.2 (by decide))).trans ((hfg34 137 30 (fun h => (absurd (show 137 = 157 from h) (by decide)))).trans rfl)))))
                refine mz_cv rfl mt_12_409 (by decide) (sc_137 _) rfl (Nat.le_of_ble_eq_true rfl) (by omega) (f_X12_goOn (by omega) hx hIg40 (by decide) (by decide) (mz_pv_fr hpv (fun _j => ((hug40.2 149 _j (fun h => absurd h.1 (by decide))).trans ((hfg38 149 _j (fun h => (absurd (show 149 = 158 from h) (by decide)))).trans ((hug36.2 149 _j (fun h => absurd h.1 (by decide))).trans ((hfg34 149 _j (fun h => (absurd (show 149 = 157 from h) (by decide)))).trans ((hfg17 149 _j nj_38).trans ((hfg13 149 _j (fun h => (absurd (show 149 = 162 from h) (by decide)))).trans ((hug1.2 149 _j (fun h => absurd h.1 (by decide))).trans rfl)))))))) ((hug40.2 140 3 (fun h => absurd h.1 (by decide))).trans ((hfg38 140 3 (fun h => (absurd (show 140 = 158 from h) (by decide)))).trans ((hug36.2 140 3 (fun h => absurd h.1 (by decide))).trans ((hfg34 140 3 (fun h => (absurd (show 140 = 157 from h) (by decide)))).trans ((hfg17 140 3 nj_39).trans ((hfg13 140 3 (fun h => (absurd (show 140 = 162 from h) (by decide)))).trans ((hug1.2 140 3 (fun h => absurd h.1 (by decide))).trans rfl)))))))) (by have h9 := (show g40 137 30 = (g17 137 30) from ((hug40.2 137 30 (fun h => absurd h.2 (by decide))).trans ((hfg38 137 30 (fun h => (absurd (show 137 = 158 from h) (by decide)))).trans ((hug36.2 137 30 (fun h => absurd h.2 (by decide))).trans ((hfg34 137 30 (fun h => (absurd (show 137 = 157 from h) (by decide)))).trans rfl))))); omega) (fun g48 hIg48 hfg48 hp49 hc50 => ⟨_, rfl, ?_⟩))
                show mm_W d mmX12_alike 99 [some (.ref 137), some (.int (Int32.ofInt a1)), some (.int (Int32.ofInt a2)), some (.int (Int32.ofInt v16)), some (.int (Int32.ofInt v16))] [] (mz_mk g48 x) Q
                replace hE := zf_t1 hE hc50
                refine mz_iincR (v := v16) (lo2 := [some (.ref 137), some (.int (Int32.ofInt a1)), some (.int (Int32.ofInt a2)), some (.int (Int32.ofInt v16)), some (.int (Int32.ofInt (v16 + 1)))]) rfl rfl rfl (Nat.le_of_ble_eq_true rfl) rfl ?_
                refine mz_gt (tgt := 41) rfl rfl ?_
                exact ih18 ((61 - (v16 + 1)).toNat) (by omega) v16 (v16 + 1) g48 rfl (by omega) (by omega) (by omega) (by omega) hIg48 (fun k j hk => ((hfg48 k j (fun h => hk (Or.elim h (fun h => (Or.inr (Or.inr (Or.inr (Or.inr (Or.inl h)))))) (fun h => (Or.elim h (fun h => (Or.inr (Or.inr (Or.inr (Or.inr (Or.inr (Or.inl h))))))) (fun h => (Or.elim h (fun h => (Or.inr (Or.inr (Or.inr (Or.inr (Or.inr (Or.inr (Or.inl h)))))))) (fun h => (Or.elim h (fun h => (Or.inr (Or.inr (Or.inr (Or.inr (Or.inr (Or.inr (Or.inr (Or.inl h))))))))) (fun h => (Or.elim h (fun h => (Or.inr (Or.inr (Or.inr (Or.inr (Or.inr (Or.inr (Or.inr (Or.inr (Or.inl h)))))))))) (fun h => (Or.elim h (fun h => (Or.inr (Or.inr (Or.inr (Or.inr (Or.inr (Or.inr (Or.inr (Or.inr (Or.inr (Or.inl h))))))))))) (fun h => (Or.elim h (fun h => (Or.inr (Or.inr (Or.inr (Or.inr (Or.inr (Or.inr (Or.inr (Or.inr (Or.inr (Or.inr (Or.inl h)))))))))))) (fun h => (Or.elim h (fun h => (Or.inr (Or.inr (Or.inr (Or.inr (Or.inr (Or.inr (Or.inr (Or.inr (Or.inr (Or.inr (Or.inr (Or.inl h))))))))))))) (fun h => (Or.elim h (fun h => (Or.inr (Or.inr (Or.inr (Or.inr (Or.inr (Or.inr (Or.inr (Or.inr (Or.inr (Or.inr (Or.inr (Or.inr (Or.inl h)))))))))))))) (fun h => (Or.inr (Or.inr (Or.inr (Or.inr (Or.inr (Or.inr (Or.inr (Or.inr (Or.inr (Or.inr (Or.inr (Or.inr (Or.inr h))))))))))))))))))))))))))))))))).trans ((hug40.2 k j (fun h => hk (Or.inr (Or.inr (Or.inr (Or.inl h)))))).trans ((hfg38 k j (fun h => hk (Or.inr (Or.inr (Or.inl h))))).trans ((hug36.2 k j (fun h => hk (Or.inr (Or.inl h)))).trans ((hfg34 k j (fun h => hk (Or.inl h))).trans (hfg17 k j (fun h => hk (Or.elim h (fun h => (Or.inl h)) (fun h => (Or.elim h (fun h => (Or.inr (Or.inl h))) (fun h => (Or.elim h (fun h => (Or.inr (Or.inr (Or.inl h)))) (fun h => (Or.elim h (fun h => (Or.inr (Or.inr (Or.inr (Or.inl h))))) (fun h => (Or.elim h (fun h => (Or.inr (Or.inr (Or.inr (Or.inr (Or.inl h)))))) (fun h => (Or.elim h (fun h => (Or.inr (Or.inr (Or.inr (Or.inr (Or.inr (Or.inl h))))))) (fun h => (Or.elim h (fun h => (Or.inr (Or.inr (Or.inr (Or.inr (Or.inr (Or.inr (Or.inl h)))))))) (fun h => (Or.elim h (fun h => (Or.inr (Or.inr (Or.inr (Or.inr (Or.inr (Or.inr (Or.inr (Or.inl h))))))))) (fun h => (Or.elim h (fun h => (Or.inr (Or.inr (Or.inr (Or.inr (Or.inr (Or.inr (Or.inr (Or.inr (Or.inl h)))))))))) (fun h => (Or.elim h (fun h => (Or.inr (Or.inr (Or.inr (Or.inr (Or.inr (Or.inr (Or.inr (Or.inr (Or.inr (Or.inl h))))))))))) (fun h => (Or.elim h (fun h => (Or.inr (Or.inr (Or.inr (Or.inr (Or.inr (Or.inr (Or.inr (Or.inr (Or.inr (Or.inr (Or.inl h)))))))))))) (fun h => (Or.elim h (fun h => (Or.inr (Or.inr (Or.inr (Or.inr (Or.inr (Or.inr (Or.inr (Or.inr (Or.inr (Or.inr (Or.inr (Or.inl h))))))))))))) (fun h => (Or.elim h (fun h => (Or.inr (Or.inr (Or.inr (Or.inr (Or.inr (Or.inr (Or.inr (Or.inr (Or.inr (Or.inr (Or.inr (Or.inr (Or.inl h)))))))))))))) (fun h => (Or.inr (Or.inr (Or.inr (Or.inr (Or.inr (Or.inr (Or.inr (Or.inr (Or.inr (Or.inr (Or.inr (Or.inr (Or.inr h))))))))))))))))))))))))))))))))))))))))))))))) (by omega) ⟨fj22, Nat.lt_of_lt_of_le (show ((61 - (v16 + 1)).toNat) < n19 from (by omega)) fn23, hE⟩
      exact L20 _ (-1) 0 g13 rfl (by decide) (by decide) (by decide) (by decide) hIg13 (fun _ _ _ => rfl) (by have h9 := (show g13 137 30 = (g 137 30) from ((hfg13 137 30 (fun h => (absurd (show 137 = 162 from h) (by decide)))).trans ((hug1.2 137 30 (fun h => absurd h.2 (by decide))).trans rfl))); omega) ⟨3000000000, by omega, hE⟩
    · skip
      replace hE := zf_ip hE c18_12
      refine mm_g 2 (pc1 := 23) (lo1 := [some (.ref 137), some (.int (Int32.ofInt a1)), some (.int (Int32.ofInt a2)), none, none]) (st1 := [.int (Int32.ofInt 1), .ref 137]) (H1 := mz_mk g1 x) rfl ?_
      refine mz_cv rfl mt_12_294 (by decide) (sc_137 _) rfl (Nat.le_of_ble_eq_true rfl) (by omega) (f_X12_fail (by omega) hx hIg1 (by decide) (by decide) (fun v51 g52 hIg52 hfg52 l_v51 u_v51 hc53 => ⟨_, rfl, ?_⟩))
      show mm_W d mmX12_alike 26 [some (.ref 137), some (.int (Int32.ofInt a1)), some (.int (Int32.ofInt a2)), none, none] [.int (Int32.ofInt v51)] (mz_mk g52 x) Q
      replace hE := zf_t2 hE hc53
      exact mm_rt rfl rfl (hQ _ _ hIg52 (fun k j hk => ((hfg52 k j (fun h => hk (Or.inl h))).trans (hug1.2 k j (fun h => hk (Or.inl h))))) (by omega) (by omega) (by have h9 := (show g52 137 30 = (g 137 30) from ((hfg52 137 30 (fun h => (absurd (show (137 = 137 ∧ 30 = 2) from h) (by decide)))).trans ((hug1.2 137 30 (fun h => absurd h.2 (by decide))).trans rfl))); omega) hE)
def fw_X12_both (x : mm_X) (a1 : Int) (a2 : Int) (a3 : Int) : Nat → Nat → Prop := fun k j => (k = 137 ∧ j = 2) ∨ k = 157 ∨ (k = 137 ∧ j = 36) ∨ k = 158 ∨ (k = 137 ∧ j = 37) ∨ k = 159
theorem f_X12_both {d : Nat} (hd : 13 ≤ d) {x : mm_X} (hx : mk_x x) {g : mz_G} (hI : mz_inv g) {a1 : Int} (l_a1 : (-2147483648) ≤ a1) (u_a1 : a1 ≤ 2147483647) {a2 : Int} (l_a2 : (-2147483648) ≤ a2) (u_a2 : a2 ≤ 2147483647) {a3 : Int} (l_a3 : (-2147483648) ≤ a3) (u_a3 : a3 ≤ 2147483647) (p1 : mz_pv g) (p2 : g 137 30 ≤ 999) {Q : (Option Value ⊕ Nat) → mm_H → Prop} (hQ : ∀ (r : Int) (g1 : mz_G), mz_inv g1 → mz_fr (fw_X12_both x a1 a2 a3) g g1 → (-2147483648) ≤ r → r ≤ 2147483647 → (g1 137 30 ≤ 999) → zf_E (zF_X12_both a1 a2 a3 g) ((r, g1)) → Q (.inl (some (.int (Int32.ofInt r)))) (mz_mk g1 x)) : mm_C d 266 [.ref 137, .int (Int32.ofInt a1), .int (Int32.ofInt a2), .int (Int32.ofInt a3)] (mz_mk g x) Q := by
  refine ⟨mmX12_both, [some (.ref 137), some (.int (Int32.ofInt a1)), some (.int (Int32.ofInt a2)), some (.int (Int32.ofInt a3))], rfl, rfl, ?_⟩
  have bz0 := mz_rd hI bd_137_30
  have hpv := p1
  have hE : zf_E (zF_X12_both a1 a2 a3 g) (zF_X12_both a1 a2 a3 g) := zf_rf
  refine mm_g 2 (pc1 := 2) (lo1 := [some (.ref 137), some (.int (Int32.ofInt a1)), some (.int (Int32.ofInt a2)), some (.int (Int32.ofInt a3))]) (st1 := [.int (Int32.ofInt 0), .ref 137]) (H1 := mz_mk g x) rfl ?_
  refine mz_pI rfl fd_12_154 (sc_137 _) hI bd_137_2 (by omega) (by omega) (fun g1 hIg1 hug1 => ?_)
  replace hE := zf_tr hE (zf_lg hug1)
  refine mm_g 2 (pc1 := 7) (lo1 := [some (.ref 137), some (.int (Int32.ofInt a1)), some (.int (Int32.ofInt a2)), some (.int (Int32.ofInt a3))]) (st1 := [.int (Int32.ofInt a1), .ref 137]) (H1 := mz_mk g1 x) rfl ?_
  refine mz_cv rfl mt_12_380 (by decide) (sc_137 _) rfl (Nat.le_of_ble_eq_true rfl) (by omega) (f_X12_isWord (by omega) hx hIg1 l_a1 u_a1 (fun v2 l_v2 u_v2 hp3 hp4 hc5 => ⟨_, rfl, ?_⟩))
  show mm_W d mmX12_both 10 [some (.ref 137), some (.int (Int32.ofInt a1)), some (.int (Int32.ofInt a2)), some (.int (Int32.ofInt a3))] [.int (Int32.ofInt v2)] (mz_mk g1 x) Q
  replace hE := zf_t1 hE hc5
  refine mz_if_eq (tgt := 33) rfl rfl (mz_rg l_v2 u_v2) (fun c10_5 => ?_) (fun c10_5 => ?_)
  · skip
    replace hE := zf_ip hE c10_5
    refine mm_g 2 (pc1 := 35) (lo1 := [some (.ref 137), some (.int (Int32.ofInt a1)), some (.int (Int32.ofInt a2)), some (.int (Int32.ofInt a3))]) (st1 := [.int (Int32.ofInt 1), .ref 137]) (H1 := mz_mk g1 x) rfl ?_
    refine mz_cv rfl mt_12_294 (by decide) (sc_137 _) rfl (Nat.le_of_ble_eq_true rfl) (by omega) (f_X12_fail (by omega) hx hIg1 (by decide) (by decide) (fun v6 g7 hIg7 hfg7 l_v6 u_v6 hc8 => ⟨_, rfl, ?_⟩))
    show mm_W d mmX12_both 38 [some (.ref 137), some (.int (Int32.ofInt a1)), some (.int (Int32.ofInt a2)), some (.int (Int32.ofInt a3))] [.int (Int32.ofInt v6)] (mz_mk g7 x) Q
    replace hE := zf_t2 hE hc8
    exact mm_rt rfl rfl (hQ _ _ hIg7 (fun k j hk => ((hfg7 k j (fun h => hk (Or.inl h))).trans (hug1.2 k j (fun h => hk (Or.inl h))))) (by omega) (by omega) (by have h9 := (show g7 137 30 = (g 137 30) from ((hfg7 137 30 (fun h => (absurd (show (137 = 137 ∧ 30 = 2) from h) (by decide)))).trans ((hug1.2 137 30 (fun h => absurd h.2 (by decide))).trans rfl))); omega) hE)
  · skip
    replace hE := zf_in hE c10_5
    refine mm_g 2 (pc1 := 15) (lo1 := [some (.ref 137), some (.int (Int32.ofInt a1)), some (.int (Int32.ofInt a2)), some (.int (Int32.ofInt a3))]) (st1 := [.int (Int32.ofInt a2), .ref 137]) (H1 := mz_mk g1 x) rfl ?_
    refine mz_cv rfl mt_12_380 (by decide) (sc_137 _) rfl (Nat.le_of_ble_eq_true rfl) (by omega) (f_X12_isWord (by omega) hx hIg1 l_a2 u_a2 (fun v9 l_v9 u_v9 hp10 hp11 hc12 => ⟨_, rfl, ?_⟩))
    show mm_W d mmX12_both 18 [some (.ref 137), some (.int (Int32.ofInt a1)), some (.int (Int32.ofInt a2)), some (.int (Int32.ofInt a3))] [.int (Int32.ofInt v9)] (mz_mk g1 x) Q
    replace hE := zf_t1 hE hc12
    refine mz_if_eq (tgt := 33) rfl rfl (mz_rg l_v9 u_v9) (fun c18_12 => ?_) (fun c18_12 => ?_)
    · skip
      replace hE := zf_ip hE c18_12
      refine mm_g 2 (pc1 := 35) (lo1 := [some (.ref 137), some (.int (Int32.ofInt a1)), some (.int (Int32.ofInt a2)), some (.int (Int32.ofInt a3))]) (st1 := [.int (Int32.ofInt 1), .ref 137]) (H1 := mz_mk g1 x) rfl ?_
      refine mz_cv rfl mt_12_294 (by decide) (sc_137 _) rfl (Nat.le_of_ble_eq_true rfl) (by omega) (f_X12_fail (by omega) hx hIg1 (by decide) (by decide) (fun v13 g14 hIg14 hfg14 l_v13 u_v13 hc15 => ⟨_, rfl, ?_⟩))
      show mm_W d mmX12_both 38 [some (.ref 137), some (.int (Int32.ofInt a1)), some (.int (Int32.ofInt a2)), some (.int (Int32.ofInt a3))] [.int (Int32.ofInt v13)] (mz_mk g14 x) Q
      replace hE := zf_t2 hE hc15
      exact mm_rt rfl rfl (hQ _ _ hIg14 (fun k j hk => ((hfg14 k j (fun h => hk (Or.inl h))).trans (hug1.2 k j (fun h => hk (Or.inl h))))) (by omega) (by omega) (by have h9 := (show g14 137 30 = (g 137 30) from ((hfg14 137 30 (fun h => (absurd (show (137 = 137 ∧ 30 = 2) from h) (by decide)))).trans ((hug1.2 137 30 (fun h => absurd h.2 (by decide))).trans rfl))); omega) hE)
    · skip
      replace hE := zf_in hE c18_12
      refine mm_g 1 (pc1 := 22) (lo1 := [some (.ref 137), some (.int (Int32.ofInt a1)), some (.int (Int32.ofInt a2)), some (.int (Int32.ofInt a3))]) (st1 := [.int (Int32.ofInt a3)]) (H1 := mz_mk g1 x) rfl ?_
      refine mz_i2l rfl (mz_rg l_a3 u_a3) ?_
      refine mz_lcst (c := 0) rfl rfl ?_
      refine mz_l2w (c := 2) rfl rfl rfl ?_
      refine mz_cs rfl mt_12_157 (by decide) rfl (Nat.le_of_ble_eq_true rfl) (by omega) (f_X12_isIn (by omega) hx hIg1 (by omega) (by omega) (by omega) (by omega) (by omega) (by omega) (fun v16 l_v16 u_v16 hp17 hc18 => ⟨_, rfl, ?_⟩))
      show mm_W d mmX12_both 30 [some (.ref 137), some (.int (Int32.ofInt a1)), some (.int (Int32.ofInt a2)), some (.int (Int32.ofInt a3))] [.int (Int32.ofInt v16)] (mz_mk g1 x) Q
      replace hE := zf_t1 hE hc18
      refine mz_if_ne (tgt := 39) rfl rfl (mz_rg l_v16 u_v16) (fun c30_18 => ?_) (fun c30_18 => ?_)
      · skip
        replace hE := zf_in hE c30_18
        refine mm_g 1 (pc1 := 40) (lo1 := [some (.ref 137), some (.int (Int32.ofInt a1)), some (.int (Int32.ofInt a2)), some (.int (Int32.ofInt a3))]) (st1 := [.int (Int32.ofInt a3)]) (H1 := mz_mk g1 x) rfl ?_
        refine mz_if_ne (tgt := 50) rfl rfl (mz_rg l_a3 u_a3) (fun c40_18 => ?_) (fun c40_18 => ?_)
        · skip
          replace hE := zf_in hE c40_18
          refine mm_g 3 (pc1 := 53) (lo1 := [some (.ref 137), some (.int (Int32.ofInt a1)), some (.int (Int32.ofInt a2)), some (.int (Int32.ofInt a3))]) (st1 := [.ref 137, .ref 137, .ref 137]) (H1 := mz_mk g1 x) rfl ?_
          refine mz_fgR (v := 157) rfl fd_12_88 (by decide) (sc_137 _) (rf_137_33 _ _ _) ?_
          refine mm_g 1 (pc1 := 57) (lo1 := [some (.ref 137), some (.int (Int32.ofInt a1)), some (.int (Int32.ofInt a2)), some (.int (Int32.ofInt a3))]) (st1 := [.int (Int32.ofInt a1), .ref 157, .ref 137, .ref 137]) (H1 := mz_mk g1 x) rfl ?_
          refine mz_cv rfl mt_12_336 (by decide) (sc_137 _) rfl (Nat.le_of_ble_eq_true rfl) (by omega) (f_X12_wordInto (by omega) hx hIg1 (sh_157 _) (by decide) ba_157 (by omega) (by omega) (by omega) (fun v19 g20 hIg20 hfg20 l_v19 u_v19 hc21 => ⟨_, rfl, ?_⟩))
          show mm_W d mmX12_both 60 [some (.ref 137), some (.int (Int32.ofInt a1)), some (.int (Int32.ofInt a2)), some (.int (Int32.ofInt a3))] [.int (Int32.ofInt v19), .ref 137] (mz_mk g20 x) Q
          replace hE := zf_t2 hE hc21
          refine mz_pI rfl fd_12_323 (sc_137 _) hIg20 bd_137_36 (by omega) (by omega) (fun g22 hIg22 hug22 => ?_)
          replace hE := zf_tr hE (zf_lg hug22)
          refine mm_g 3 (pc1 := 66) (lo1 := [some (.ref 137), some (.int (Int32.ofInt a1)), some (.int (Int32.ofInt a2)), some (.int (Int32.ofInt a3))]) (st1 := [.ref 137, .ref 137, .ref 137]) (H1 := mz_mk g22 x) rfl ?_
          refine mz_fgR (v := 158) rfl fd_12_91 (by decide) (sc_137 _) (rf_137_34 _ _ _) ?_
          refine mm_g 1 (pc1 := 70) (lo1 := [some (.ref 137), some (.int (Int32.ofInt a1)), some (.int (Int32.ofInt a2)), some (.int (Int32.ofInt a3))]) (st1 := [.int (Int32.ofInt a2), .ref 158, .ref 137, .ref 137]) (H1 := mz_mk g22 x) rfl ?_
          refine mz_cv rfl mt_12_336 (by decide) (sc_137 _) rfl (Nat.le_of_ble_eq_true rfl) (by omega) (f_X12_wordInto (by omega) hx hIg22 (sh_158 _) (by decide) ba_158 (by omega) (by omega) (by omega) (fun v23 g24 hIg24 hfg24 l_v23 u_v23 hc25 => ⟨_, rfl, ?_⟩))
          show mm_W d mmX12_both 73 [some (.ref 137), some (.int (Int32.ofInt a1)), some (.int (Int32.ofInt a2)), some (.int (Int32.ofInt a3))] [.int (Int32.ofInt v23), .ref 137] (mz_mk g24 x) Q
          replace hE := zf_t2 hE hc25
          refine mz_pI rfl fd_12_326 (sc_137 _) hIg24 bd_137_37 (by omega) (by omega) (fun g26 hIg26 hug26 => ?_)
          replace hE := zf_tr hE (zf_lg hug26)
          refine mm_g 3 (pc1 := 79) (lo1 := [some (.ref 137), some (.int (Int32.ofInt a1)), some (.int (Int32.ofInt a2)), some (.int (Int32.ofInt a3))]) (st1 := [.int (Int32.ofInt 1), .int (Int32.ofInt a3), .ref 137]) (H1 := mz_mk g26 x) rfl ?_
          refine mz_ic_ne (tgt := 86) rfl rfl (mz_rg l_a3 u_a3) ⟨by decide, by decide⟩ (fun c79_26 => ?_) (fun c79_26 => ?_)
          · skip
            replace hE := zf_in hE c79_26
            refine mm_g 1 (pc1 := 87) (lo1 := [some (.ref 137), some (.int (Int32.ofInt a1)), some (.int (Int32.ofInt a2)), some (.int (Int32.ofInt a3))]) (st1 := [.int (Int32.ofInt 0), .ref 137]) (H1 := mz_mk g26 x) rfl ?_
            refine mz_cv rfl mt_12_427 (by decide) (sc_137 _) rfl (Nat.le_of_ble_eq_true rfl) (by omega) (f_X12_compared (by omega) hx hIg26 (by decide) (by decide) (fun v27 g28 hIg28 hfg28 l_v27 u_v27 hc29 => ⟨_, rfl, ?_⟩))
            show mm_W d mmX12_both 90 [some (.ref 137), some (.int (Int32.ofInt a1)), some (.int (Int32.ofInt a2)), some (.int (Int32.ofInt a3))] [.int (Int32.ofInt v27)] (mz_mk g28 x) Q
            replace hE := zf_t2 hE hc29
            exact mm_rt rfl rfl (hQ _ _ hIg28 (fun k j hk => ((hfg28 k j (fun h => hk (Or.inr (Or.inr (Or.inr (Or.inr (Or.inr h))))))).trans ((hug26.2 k j (fun h => hk (Or.inr (Or.inr (Or.inr (Or.inr (Or.inl h))))))).trans ((hfg24 k j (fun h => hk (Or.inr (Or.inr (Or.inr (Or.inl h)))))).trans ((hug22.2 k j (fun h => hk (Or.inr (Or.inr (Or.inl h))))).trans ((hfg20 k j (fun h => hk (Or.inr (Or.inl h)))).trans (hug1.2 k j (fun h => hk (Or.inl h))))))))) (by omega) (by omega) (by have h9 := (show g28 137 30 = (g 137 30) from ((hfg28 137 30 (fun h => (absurd (show 137 = 159 from h) (by decide)))).trans ((hug26.2 137 30 (fun h => absurd h.2 (by decide))).trans ((hfg24 137 30 (fun h => (absurd (show 137 = 158 from h) (by decide)))).trans ((hug22.2 137 30 (fun h => absurd h.2 (by decide))).trans ((hfg20 137 30 (fun h => (absurd (show 137 = 157 from h) (by decide)))).trans ((hug1.2 137 30 (fun h => absurd h.2 (by decide))).trans rfl))))))); omega) hE)
          · skip
            replace hE := zf_ip hE c79_26
            refine mm_g 1 (pc1 := 83) (lo1 := [some (.ref 137), some (.int (Int32.ofInt a1)), some (.int (Int32.ofInt a2)), some (.int (Int32.ofInt a3))]) (st1 := [.int (Int32.ofInt 1), .ref 137]) (H1 := mz_mk g26 x) rfl ?_
            refine mz_gt (tgt := 87) rfl rfl ?_
            refine mz_cv rfl mt_12_427 (by decide) (sc_137 _) rfl (Nat.le_of_ble_eq_true rfl) (by omega) (f_X12_compared (by omega) hx hIg26 (by decide) (by decide) (fun v30 g31 hIg31 hfg31 l_v30 u_v30 hc32 => ⟨_, rfl, ?_⟩))
            show mm_W d mmX12_both 90 [some (.ref 137), some (.int (Int32.ofInt a1)), some (.int (Int32.ofInt a2)), some (.int (Int32.ofInt a3))] [.int (Int32.ofInt v30)] (mz_mk g31 x) Q
            replace hE := zf_t2 hE hc32
            exact mm_rt rfl rfl (hQ _ _ hIg31 (fun k j hk => ((hfg31 k j (fun h => hk (Or.inr (Or.inr (Or.inr (Or.inr (Or.inr h))))))).trans ((hug26.2 k j (fun h => hk (Or.inr (Or.inr (Or.inr (Or.inr (Or.inl h))))))).trans ((hfg24 k j (fun h => hk (Or.inr (Or.inr (Or.inr (Or.inl h)))))).trans ((hug22.2 k j (fun h => hk (Or.inr (Or.inr (Or.inl h))))).trans ((hfg20 k j (fun h => hk (Or.inr (Or.inl h)))).trans (hug1.2 k j (fun h => hk (Or.inl h))))))))) (by omega) (by omega) (by have h9 := (show g31 137 30 = (g 137 30) from ((hfg31 137 30 (fun h => (absurd (show 137 = 159 from h) (by decide)))).trans ((hug26.2 137 30 (fun h => absurd h.2 (by decide))).trans ((hfg24 137 30 (fun h => (absurd (show 137 = 158 from h) (by decide)))).trans ((hug22.2 137 30 (fun h => absurd h.2 (by decide))).trans ((hfg20 137 30 (fun h => (absurd (show 137 = 157 from h) (by decide)))).trans ((hug1.2 137 30 (fun h => absurd h.2 (by decide))).trans rfl))))))); omega) hE)
        · skip
          replace hE := zf_ip hE c40_18
          refine mm_g 3 (pc1 := 46) (lo1 := [some (.ref 137), some (.int (Int32.ofInt a1)), some (.int (Int32.ofInt a2)), some (.int (Int32.ofInt a3))]) (st1 := [.int (Int32.ofInt a2), .int (Int32.ofInt a1), .ref 137]) (H1 := mz_mk g1 x) rfl ?_
          refine mz_cv rfl mt_12_350 (by decide) (sc_137 _) rfl (Nat.le_of_ble_eq_true rfl) (by omega) (f_X12_overlapOf (by omega) hx hIg1 (by omega) (by omega) (by omega) (by omega) (fun v33 l_v33 u_v33 hp34 hp35 hc36 => ⟨_, rfl, ?_⟩))
          show mm_W d mmX12_both 49 [some (.ref 137), some (.int (Int32.ofInt a1)), some (.int (Int32.ofInt a2)), some (.int (Int32.ofInt a3))] [.int (Int32.ofInt v33)] (mz_mk g1 x) Q
          replace hE := zf_t1 hE hc36
          exact mm_rt rfl rfl (hQ _ _ hIg1 (fun k j hk => (hug1.2 k j (fun h => hk (Or.inl h)))) (by omega) (by omega) (by have h9 := (show g1 137 30 = (g 137 30) from ((hug1.2 137 30 (fun h => absurd h.2 (by decide))).trans rfl)); omega) hE)
      · skip
        replace hE := zf_ip hE c30_18
        refine mm_g 2 (pc1 := 35) (lo1 := [some (.ref 137), some (.int (Int32.ofInt a1)), some (.int (Int32.ofInt a2)), some (.int (Int32.ofInt a3))]) (st1 := [.int (Int32.ofInt 1), .ref 137]) (H1 := mz_mk g1 x) rfl ?_
        refine mz_cv rfl mt_12_294 (by decide) (sc_137 _) rfl (Nat.le_of_ble_eq_true rfl) (by omega) (f_X12_fail (by omega) hx hIg1 (by decide) (by decide) (fun v37 g38 hIg38 hfg38 l_v37 u_v37 hc39 => ⟨_, rfl, ?_⟩))
        show mm_W d mmX12_both 38 [some (.ref 137), some (.int (Int32.ofInt a1)), some (.int (Int32.ofInt a2)), some (.int (Int32.ofInt a3))] [.int (Int32.ofInt v37)] (mz_mk g38 x) Q
        replace hE := zf_t2 hE hc39
        exact mm_rt rfl rfl (hQ _ _ hIg38 (fun k j hk => ((hfg38 k j (fun h => hk (Or.inl h))).trans (hug1.2 k j (fun h => hk (Or.inl h))))) (by omega) (by omega) (by have h9 := (show g38 137 30 = (g 137 30) from ((hfg38 137 30 (fun h => (absurd (show (137 = 137 ∧ 30 = 2) from h) (by decide)))).trans ((hug1.2 137 30 (fun h => absurd h.2 (by decide))).trans rfl))); omega) hE)
theorem f_X12_madeOn {d : Nat} (hd : 1 ≤ d) {x : mm_X} (hx : mk_x x) {g : mz_G} (hI : mz_inv g) {a1 : Int} (l_a1 : 0 ≤ a1) (u_a1 : a1 ≤ 7) {a2 : Int} (l_a2 : 0 ≤ a2) (u_a2 : a2 ≤ 255) {Q : (Option Value ⊕ Nat) → mm_H → Prop} (hQ : ∀ (r : Int), (-2147483648) ≤ r → r ≤ 2147483647 → (r = mz_go g a1 (mz_nx a2 a1)) → zf_E (zF_X12_madeOn a1 a2 g) (r) → Q (.inl (some (.int (Int32.ofInt r)))) (mz_mk g x)) : mm_C d 267 [.ref 137, .int (Int32.ofInt a1), .int (Int32.ofInt a2)] (mz_mk g x) Q := by
  refine ⟨mmX12_madeOn, [some (.ref 137), some (.int (Int32.ofInt a1)), some (.int (Int32.ofInt a2))], rfl, rfl, ?_⟩
  have hE : zf_E (zF_X12_madeOn a1 a2 g) (zF_X12_madeOn a1 a2 g) := zf_rf
  refine mm_g 1 (pc1 := 1) (lo1 := [some (.ref 137), some (.int (Int32.ofInt a1)), some (.int (Int32.ofInt a2))]) (st1 := [.ref 137]) (H1 := mz_mk g x) rfl ?_
  refine mz_fgR (v := 163) rfl fd_12_106 (by decide) (sc_137 _) (rf_137_41 _ _ _) ?_
  refine mm_g 1 (pc1 := 5) (lo1 := [some (.ref 137), some (.int (Int32.ofInt a1)), some (.int (Int32.ofInt a2))]) (st1 := [.int (Int32.ofInt a1), .ref 163]) (H1 := mz_mk g x) rfl ?_
  refine mz_bip rfl bip_8 ?_
  refine mz_ishl rfl (fun v1 e_v1 hwv1 => ?_)
  have b_v1 : 0 ≤ v1 ∧ v1 ≤ 1792 := by rw [e_v1]; exact mz_shl_b (lx := 0) (hx := 7) (k := 8) (by decide) (by decide) (by omega) (by omega) (by omega) (by omega)
  have l_v1 := b_v1.1
  have u_v1 := b_v1.2
  replace hE := zf_tr hE (zf_le e_v1.symm)
  refine mm_g 3 (pc1 := 11) (lo1 := [some (.ref 137), some (.int (Int32.ofInt a1)), some (.int (Int32.ofInt a2))]) (st1 := [.int (Int32.ofInt a1), .int (Int32.ofInt 1), .int (Int32.ofInt a2), .int (Int32.ofInt v1), .ref 163]) (H1 := mz_mk g x) rfl ?_
  refine mz_ishl rfl (fun v2 e_v2 hwv2 => ?_)
  have b_v2 : 1 ≤ v2 ∧ v2 ≤ 128 := by rw [e_v2]; exact mz_shl_b (lx := 1) (hx := 1) (k := 7) (by decide) (by decide) (by omega) (by omega) (by omega) (by omega)
  have l_v2 := b_v2.1
  have u_v2 := b_v2.2
  replace hE := zf_tr hE (zf_le e_v2.symm)
  refine mz_ior rfl (fun v3 e_v3 hwv3 => ?_)
  have b_v3 : 0 ≤ v3 ∧ v3 ≤ 255 := by rw [e_v3]; exact mz_or_lt (n := 8) (by decide) (by omega) (by omega) (by omega) (by omega)
  have l_v3 := b_v3.1
  have u_v3 := b_v3.2
  replace hE := zf_tr hE (zf_le e_v3.symm)
  refine mz_iadd rfl ?_
  refine mz_aI rfl (sh_163 _) (by omega) (by omega) (by decide) hI (ba_163 _) (fun v4 e_v4 l_v4 u_v4 => ?_)
  replace hE := zf_tr hE (zf_le e_v4)
  exact mm_rt rfl rfl (hQ _ (by omega) (by omega) (by show _ = g 163 (256 * a1 + mz_orI a2 (mz_shlI 1 a1)).toNat; rw [← e_v2, ← e_v3, ← mz_sh8 (by omega) (by omega), ← e_v1]; exact e_v4.symm) hE)
theorem f_X12_pushed {d : Nat} (hd : 13 ≤ d) {x : mm_X} (hx : mk_x x) {g : mz_G} (hI : mz_inv g) {a1 : Int} (l_a1 : 0 ≤ a1) (u_a1 : a1 ≤ 7) {a2 : Int} (l_a2 : 0 ≤ a2) (u_a2 : a2 ≤ 7) {Q : (Option Value ⊕ Nat) → mm_H → Prop} (hQ : ∀ (r : Int), (-7) ≤ r → r ≤ 8 → (r = mz_pu (g 141) (g 142) a1 a2) → (0 ≤ r) → zf_E (zF_X12_pushed a1 a2 g) (r) → Q (.inl (some (.int (Int32.ofInt r)))) (mz_mk g x)) : mm_C d 269 [.ref 137, .int (Int32.ofInt a1), .int (Int32.ofInt a2)] (mz_mk g x) Q := by
  refine ⟨mmX12_pushed, [some (.ref 137), some (.int (Int32.ofInt a1)), some (.int (Int32.ofInt a2))], rfl, rfl, ?_⟩
  have hE : zf_E (zF_X12_pushed a1 a2 g) (zF_X12_pushed a1 a2 g) := zf_rf
  refine mm_g 1 (pc1 := 1) (lo1 := [some (.ref 137), some (.int (Int32.ofInt a1)), some (.int (Int32.ofInt a2))]) (st1 := [.ref 137]) (H1 := mz_mk g x) rfl ?_
  refine mz_fgR (v := 142) rfl fd_12_43 (by decide) (sc_137 _) (rf_137_5 _ _ _) ?_
  refine mm_g 1 (pc1 := 5) (lo1 := [some (.ref 137), some (.int (Int32.ofInt a1)), some (.int (Int32.ofInt a2))]) (st1 := [.int (Int32.ofInt a2), .ref 142]) (H1 := mz_mk g x) rfl ?_
  refine mz_aI rfl (sh_142 _) (by omega) (by omega) (by decide) hI (ba_142 _) (fun v1 e_v1 l_v1 u_v1 => ?_)
  replace hE := zf_tr hE (zf_le e_v1)
  refine mm_g 3 (pc1 := 9) (lo1 := [some (.ref 137), some (.int (Int32.ofInt a1)), some (.int (Int32.ofInt a2))]) (st1 := [.int (Int32.ofInt a2), .int (Int32.ofInt a1), .ref 137, .int (Int32.ofInt v1)]) (H1 := mz_mk g x) rfl ?_
  refine mz_cv rfl mt_12_350 (by decide) (sc_137 _) rfl (Nat.le_of_ble_eq_true rfl) (by omega) (f_X12_overlapOf (by omega) hx hI l_a1 u_a1 l_a2 u_a2 (fun v2 l_v2 u_v2 hp3 hp4 hc5 => ⟨_, rfl, ?_⟩))
  show mm_W d mmX12_pushed 12 [some (.ref 137), some (.int (Int32.ofInt a1)), some (.int (Int32.ofInt a2))] [.int (Int32.ofInt v2), .int (Int32.ofInt v1)] (mz_mk g x) Q
  replace hE := zf_t1 hE hc5
  refine mz_isub rfl ?_
  exact mm_rt rfl rfl (hQ _ (by omega) (by omega) (by unfold mz_pu; omega) (by omega) hE)
def fl_X12_toDraw_52 (x : mm_X) (a1 : Int) (a2 : Int) : Nat → Nat → Prop := fun k j => k = 155 ∨ (k = 160 ∧ j = 0) ∨ (k = 160 ∧ j = 1) ∨ (k = 160 ∧ j = 2) ∨ (k = 160 ∧ j = 3) ∨ (k = 160 ∧ j = 4) ∨ (k = 160 ∧ j = 5) ∨ (k = 160 ∧ j = 6) ∨ k = 161 ∨ k = 152 ∨ (k = 137 ∧ j = 30) ∨ k = 153 ∨ k = 154
def fw_X12_toDraw (x : mm_X) (a1 : Int) (a2 : Int) : Nat → Nat → Prop := fun k j => (k = 137 ∧ j = 2) ∨ k = 162 ∨ k = 155 ∨ (k = 160 ∧ j = 0) ∨ (k = 160 ∧ j = 1) ∨ (k = 160 ∧ j = 2) ∨ (k = 160 ∧ j = 3) ∨ (k = 160 ∧ j = 4) ∨ (k = 160 ∧ j = 5) ∨ (k = 160 ∧ j = 6) ∨ k = 161 ∨ k = 152 ∨ (k = 137 ∧ j = 30) ∨ k = 153 ∨ k = 154
theorem f_X12_toDraw {d : Nat} (hd : 16 ≤ d) {x : mm_X} (hx : mk_x x) {g : mz_G} (hI : mz_inv g) {a1 : Int} (l_a1 : (-2147483648) ≤ a1) (u_a1 : a1 ≤ 2147483647) {a2 : Int} (l_a2 : (-2147483648) ≤ a2) (u_a2 : a2 ≤ 2147483647) (p1 : mz_pv g) (p2 : g 137 30 ≤ 999) {Q : (Option Value ⊕ Nat) → mm_H → Prop} (hQ : ∀ (r : Int) (g1 : mz_G), mz_inv g1 → mz_fr (fw_X12_toDraw x a1 a2) g g1 → (-1) ≤ r → r ≤ 9 → (g1 137 30 ≤ 999) → zf_E (zF_X12_toDraw a1 a2 g) ((r, g1)) → Q (.inl (some (.int (Int32.ofInt r)))) (mz_mk g1 x)) : mm_C d 274 [.ref 137, .int (Int32.ofInt a1), .int (Int32.ofInt a2)] (mz_mk g x) Q := by
  refine ⟨mmX12_toDraw, [some (.ref 137), some (.int (Int32.ofInt a1)), some (.int (Int32.ofInt a2)), none, none], rfl, rfl, ?_⟩
  have bz0 := mz_rd hI bd_137_30
  have hpv := p1
  have hE : zf_E (zF_X12_toDraw a1 a2 g) (zF_X12_toDraw a1 a2 g) := zf_rf
  refine mm_g 2 (pc1 := 2) (lo1 := [some (.ref 137), some (.int (Int32.ofInt a1)), some (.int (Int32.ofInt a2)), none, none]) (st1 := [.int (Int32.ofInt 0), .ref 137]) (H1 := mz_mk g x) rfl ?_
  refine mz_pI rfl fd_12_154 (sc_137 _) hI bd_137_2 (by omega) (by omega) (fun g1 hIg1 hug1 => ?_)
  replace hE := zf_tr hE (zf_lg hug1)
  refine mm_g 2 (pc1 := 7) (lo1 := [some (.ref 137), some (.int (Int32.ofInt a1)), some (.int (Int32.ofInt a2)), none, none]) (st1 := [.int (Int32.ofInt a1), .ref 137]) (H1 := mz_mk g1 x) rfl ?_
  refine mz_cv rfl mt_12_391 (by decide) (sc_137 _) rfl (Nat.le_of_ble_eq_true rfl) (by omega) (f_X12_isTrunk (by omega) hx hIg1 l_a1 u_a1 (fun v2 l_v2 u_v2 hp3 hp4 hc5 => ⟨_, rfl, ?_⟩))
  show mm_W d mmX12_toDraw 10 [some (.ref 137), some (.int (Int32.ofInt a1)), some (.int (Int32.ofInt a2)), none, none] [.int (Int32.ofInt v2)] (mz_mk g1 x) Q
  replace hE := zf_t1 hE hc5
  refine mz_if_ne (tgt := 19) rfl rfl (mz_rg l_v2 u_v2) (fun c10_5 => ?_) (fun c10_5 => ?_)
  · skip
    replace hE := zf_in hE c10_5
    refine mm_g 1 (pc1 := 20) (lo1 := [some (.ref 137), some (.int (Int32.ofInt a1)), some (.int (Int32.ofInt a2)), none, none]) (st1 := [.int (Int32.ofInt a2)]) (H1 := mz_mk g1 x) rfl ?_
    refine mz_i2l rfl (mz_rg l_a2 u_a2) ?_
    refine mz_lcst (c := 0) rfl rfl ?_
    refine mz_l2w (c := 60) rfl rfl rfl ?_
    refine mz_cs rfl mt_12_157 (by decide) rfl (Nat.le_of_ble_eq_true rfl) (by omega) (f_X12_isIn (by omega) hx hIg1 (by omega) (by omega) (by omega) (by omega) (by omega) (by omega) (fun v6 l_v6 u_v6 hp7 hc8 => ⟨_, rfl, ?_⟩))
    show mm_W d mmX12_toDraw 28 [some (.ref 137), some (.int (Int32.ofInt a1)), some (.int (Int32.ofInt a2)), none, none] [.int (Int32.ofInt v6)] (mz_mk g1 x) Q
    replace hE := zf_t1 hE hc8
    refine mz_if_ne (tgt := 37) rfl rfl (mz_rg l_v6 u_v6) (fun c28_8 => ?_) (fun c28_8 => ?_)
    · skip
      replace hE := zf_in hE c28_8
      refine mm_g 2 (pc1 := 39) (lo1 := [some (.ref 137), some (.int (Int32.ofInt a1)), some (.int (Int32.ofInt a2)), none, none]) (st1 := [.ref 137, .ref 137]) (H1 := mz_mk g1 x) rfl ?_
      refine mz_fgR (v := 162) rfl fd_12_103 (by decide) (sc_137 _) (rf_137_40 _ _ _) ?_
      refine mm_g 1 (pc1 := 43) (lo1 := [some (.ref 137), some (.int (Int32.ofInt a1)), some (.int (Int32.ofInt a2)), none, none]) (st1 := [.int (Int32.ofInt 0), .ref 162, .ref 137]) (H1 := mz_mk g1 x) rfl ?_
      refine mz_cv rfl mt_12_397 (by decide) (sc_137 _) rfl (Nat.le_of_ble_eq_true rfl) (by omega) (f_X12_store (by omega) hx hIg1 rwp_162 (by decide) (by decide) (by omega) (by omega) (by have h9 := (show g1 137 30 = (g 137 30) from ((hug1.2 137 30 (fun h => absurd h.2 (by decide))).trans rfl)); omega) (fun g9 hIg9 hfg9 hc10 => ⟨_, rfl, ?_⟩))
      show mm_W d mmX12_toDraw 46 [some (.ref 137), some (.int (Int32.ofInt a1)), some (.int (Int32.ofInt a2)), none, none] [] (mz_mk g9 x) Q
      replace hE := zf_t1 hE hc10
      refine mm_g 2 (pc1 := 48) (lo1 := [some (.ref 137), some (.int (Int32.ofInt a1)), some (.int (Int32.ofInt a2)), some (.int (Int32.ofInt (-1))), none]) (st1 := []) (H1 := mz_mk g9 x) rfl ?_
      refine mz_bip rfl bip_9 ?_
      refine mm_g 1 (pc1 := 52) (lo1 := [some (.ref 137), some (.int (Int32.ofInt a1)), some (.int (Int32.ofInt a2)), some (.int (Int32.ofInt (-1))), some (.int (Int32.ofInt 9))]) (st1 := []) (H1 := mz_mk g9 x) rfl ?_
      have L16 : ∀ n15 : Nat, ∀ (v11 : Int) (v12 : Int) (g13 : mz_G), (v12 - (-1)).toNat = n15 → (-1) ≤ v11 → v11 ≤ 9 → (-1) ≤ v12 → v12 ≤ 9 → mz_inv g13 → mz_fr (fl_X12_toDraw_52 x a1 a2) g9 g13 → (g13 137 30 ≤ 999) → (∃ fk : Nat, (v12 - (-1)).toNat < fk ∧ zf_E (zF_X12_toDraw a1 a2 g) (zL_X12_toDraw_52 a1 a2 fk v11 v12 g13)) → mm_W d mmX12_toDraw 52 [some (.ref 137), some (.int (Int32.ofInt a1)), some (.int (Int32.ofInt a2)), some (.int (Int32.ofInt v11)), some (.int (Int32.ofInt v12))] [] (mz_mk g13 x) Q := by
        intro n15
        induction n15 using Nat.strongRecOn with
        | ind n15 ih14 =>
        intro v11 v12 g13 hmn15 l_v11 u_v11 l_v12 u_v12 hIg13 hfg13 hv17 hF
        obtain ⟨fk, fl, hE⟩ := hF
        obtain ⟨fj18, rfl⟩ : ∃ fj, fk = fj + 1 := ⟨fk - 1, by omega⟩
        have fn19 : n15 ≤ fj18 := by omega
        replace hE := zf_tr hE zL_X12_toDraw_52_s
        have bz_g13_30 := mz_rd hIg13 bd_137_30
        refine mm_g 1 (pc1 := 54) (lo1 := [some (.ref 137), some (.int (Int32.ofInt a1)), some (.int (Int32.ofInt a2)), some (.int (Int32.ofInt v11)), some (.int (Int32.ofInt v12))]) (st1 := [.int (Int32.ofInt v12)]) (H1 := mz_mk g13 x) rfl ?_
        refine mz_if_lt (tgt := 101) rfl rfl (mz_rg l_v12 u_v12) (fun c54_19 => ?_) (fun c54_19 => ?_)
        · skip
          replace hE := zf_ip hE c54_19
          refine mm_g 1 (pc1 := 102) (lo1 := [some (.ref 137), some (.int (Int32.ofInt a1)), some (.int (Int32.ofInt a2)), some (.int (Int32.ofInt v11)), some (.int (Int32.ofInt v12))]) (st1 := [.int (Int32.ofInt v11)]) (H1 := mz_mk g13 x) rfl ?_
          exact mm_rt rfl rfl (hQ _ _ hIg13 (fun k j hk => ((hfg13 k j (fun h => hk (Or.elim h (fun h => (Or.inr (Or.inr (Or.inl h)))) (fun h => (Or.elim h (fun h => (Or.inr (Or.inr (Or.inr (Or.inl h))))) (fun h => (Or.elim h (fun h => (Or.inr (Or.inr (Or.inr (Or.inr (Or.inl h)))))) (fun h => (Or.elim h (fun h => (Or.inr (Or.inr (Or.inr (Or.inr (Or.inr (Or.inl h))))))) (fun h => (Or.elim h (fun h => (Or.inr (Or.inr (Or.inr (Or.inr (Or.inr (Or.inr (Or.inl h)))))))) (fun h => (Or.elim h (fun h => (Or.inr (Or.inr (Or.inr (Or.inr (Or.inr (Or.inr (Or.inr (Or.inl h))))))))) (fun h => (Or.elim h (fun h => (Or.inr (Or.inr (Or.inr (Or.inr (Or.inr (Or.inr (Or.inr (Or.inr (Or.inl h)))))))))) (fun h => (Or.elim h (fun h => (Or.inr (Or.inr (Or.inr (Or.inr (Or.inr (Or.inr (Or.inr (Or.inr (Or.inr (Or.inl h))))))))))) (fun h => (Or.elim h (fun h => (Or.inr (Or.inr (Or.inr (Or.inr (Or.inr (Or.inr (Or.inr (Or.inr (Or.inr (Or.inr (Or.inl h)))))))))))) (fun h => (Or.elim h (fun h => (Or.inr (Or.inr (Or.inr (Or.inr (Or.inr (Or.inr (Or.inr (Or.inr (Or.inr (Or.inr (Or.inr (Or.inl h))))))))))))) (fun h => (Or.elim h (fun h => (Or.inr (Or.inr (Or.inr (Or.inr (Or.inr (Or.inr (Or.inr (Or.inr (Or.inr (Or.inr (Or.inr (Or.inr (Or.inl h)))))))))))))) (fun h => (Or.elim h (fun h => (Or.inr (Or.inr (Or.inr (Or.inr (Or.inr (Or.inr (Or.inr (Or.inr (Or.inr (Or.inr (Or.inr (Or.inr (Or.inr (Or.inl h))))))))))))))) (fun h => (Or.inr (Or.inr (Or.inr (Or.inr (Or.inr (Or.inr (Or.inr (Or.inr (Or.inr (Or.inr (Or.inr (Or.inr (Or.inr (Or.inr h)))))))))))))))))))))))))))))))))))))))).trans ((hfg9 k j (fun h => hk (Or.inr (Or.inl h)))).trans (hug1.2 k j (fun h => hk (Or.inl h)))))) (by omega) (by omega) (by omega) hE)
        · skip
          replace hE := zf_nl hE c54_19
          refine mm_g 2 (pc1 := 59) (lo1 := [some (.ref 137), some (.int (Int32.ofInt a1)), some (.int (Int32.ofInt a2)), some (.int (Int32.ofInt v11)), some (.int (Int32.ofInt v12))]) (st1 := [.int (Int32.ofInt (-1)), .int (Int32.ofInt v11)]) (H1 := mz_mk g13 x) rfl ?_
          refine mz_ic_ne (tgt := 101) rfl rfl (mz_rg l_v11 u_v11) ⟨by decide, by decide⟩ (fun c59_19 => ?_) (fun c59_19 => ?_)
          · skip
            replace hE := zf_in hE c59_19
            refine mm_g 1 (pc1 := 102) (lo1 := [some (.ref 137), some (.int (Int32.ofInt a1)), some (.int (Int32.ofInt a2)), some (.int (Int32.ofInt v11)), some (.int (Int32.ofInt v12))]) (st1 := [.int (Int32.ofInt v11)]) (H1 := mz_mk g13 x) rfl ?_
            exact mm_rt rfl rfl (hQ _ _ hIg13 (fun k j hk => ((hfg13 k j (fun h => hk (Or.elim h (fun h => (Or.inr (Or.inr (Or.inl h)))) (fun h => (Or.elim h (fun h => (Or.inr (Or.inr (Or.inr (Or.inl h))))) (fun h => (Or.elim h (fun h => (Or.inr (Or.inr (Or.inr (Or.inr (Or.inl h)))))) (fun h => (Or.elim h (fun h => (Or.inr (Or.inr (Or.inr (Or.inr (Or.inr (Or.inl h))))))) (fun h => (Or.elim h (fun h => (Or.inr (Or.inr (Or.inr (Or.inr (Or.inr (Or.inr (Or.inl h)))))))) (fun h => (Or.elim h (fun h => (Or.inr (Or.inr (Or.inr (Or.inr (Or.inr (Or.inr (Or.inr (Or.inl h))))))))) (fun h => (Or.elim h (fun h => (Or.inr (Or.inr (Or.inr (Or.inr (Or.inr (Or.inr (Or.inr (Or.inr (Or.inl h)))))))))) (fun h => (Or.elim h (fun h => (Or.inr (Or.inr (Or.inr (Or.inr (Or.inr (Or.inr (Or.inr (Or.inr (Or.inr (Or.inl h))))))))))) (fun h => (Or.elim h (fun h => (Or.inr (Or.inr (Or.inr (Or.inr (Or.inr (Or.inr (Or.inr (Or.inr (Or.inr (Or.inr (Or.inl h)))))))))))) (fun h => (Or.elim h (fun h => (Or.inr (Or.inr (Or.inr (Or.inr (Or.inr (Or.inr (Or.inr (Or.inr (Or.inr (Or.inr (Or.inr (Or.inl h))))))))))))) (fun h => (Or.elim h (fun h => (Or.inr (Or.inr (Or.inr (Or.inr (Or.inr (Or.inr (Or.inr (Or.inr (Or.inr (Or.inr (Or.inr (Or.inr (Or.inl h)))))))))))))) (fun h => (Or.elim h (fun h => (Or.inr (Or.inr (Or.inr (Or.inr (Or.inr (Or.inr (Or.inr (Or.inr (Or.inr (Or.inr (Or.inr (Or.inr (Or.inr (Or.inl h))))))))))))))) (fun h => (Or.inr (Or.inr (Or.inr (Or.inr (Or.inr (Or.inr (Or.inr (Or.inr (Or.inr (Or.inr (Or.inr (Or.inr (Or.inr (Or.inr h)))))))))))))))))))))))))))))))))))))))).trans ((hfg9 k j (fun h => hk (Or.inr (Or.inl h)))).trans (hug1.2 k j (fun h => hk (Or.inl h)))))) (by omega) (by omega) (by omega) hE)
          · skip
            replace hE := zf_ip hE c59_19
            refine mm_g 1 (pc1 := 63) (lo1 := [some (.ref 137), some (.int (Int32.ofInt a1)), some (.int (Int32.ofInt a2)), some (.int (Int32.ofInt v11)), some (.int (Int32.ofInt v12))]) (st1 := [.ref 137]) (H1 := mz_mk g13 x) rfl ?_
            refine mz_fgR (v := 155) rfl fd_12_82 (by decide) (sc_137 _) (rf_137_28 _ _ _) ?_
            refine mm_g 2 (pc1 := 69) (lo1 := [some (.ref 137), some (.int (Int32.ofInt a1)), some (.int (Int32.ofInt a2)), some (.int (Int32.ofInt v11)), some (.int (Int32.ofInt v12))]) (st1 := [.int (Int32.ofInt v12), .int (Int32.ofInt a1), .ref 155]) (H1 := mz_mk g13 x) rfl ?_
            refine mz_sI rfl (sh_155 _) (by omega) (by omega) (by decide) hIg13 (ba_155 _) (by omega) (by omega) (fun g20 hIg20 hug20 => ?_)
            replace hE := zf_tr hE (zf_lg hug20)
            refine mm_g 2 (pc1 := 72) (lo1 := [some (.ref 137), some (.int (Int32.ofInt a1)), some (.int (Int32.ofInt a2)), some (.int (Int32.ofInt v11)), some (.int (Int32.ofInt v12))]) (st1 := [.int (Int32.ofInt a2), .ref 137]) (H1 := mz_mk g20 x) rfl ?_
            have hq21 : g20 137 30 = (g13 137 30) := (show g20 137 30 = (g13 137 30) from ((hug20.2 137 30 (fun h => absurd h.1 (by decide))).trans rfl))
            refine mz_cv rfl mt_12_409 (by decide) (sc_137 _) rfl (Nat.le_of_ble_eq_true rfl) (by omega) (f_X12_goOn (by omega) hx hIg20 (by omega) (by omega) (mz_pv_fr hpv (fun _j => ((hug20.2 149 _j (fun h => absurd h.1 (by decide))).trans ((hfg13 149 _j nj_40).trans ((hfg9 149 _j (fun h => (absurd (show 149 = 162 from h) (by decide)))).trans ((hug1.2 149 _j (fun h => absurd h.1 (by decide))).trans rfl))))) ((hug20.2 140 3 (fun h => absurd h.1 (by decide))).trans ((hfg13 140 3 nj_41).trans ((hfg9 140 3 (fun h => (absurd (show 140 = 162 from h) (by decide)))).trans ((hug1.2 140 3 (fun h => absurd h.1 (by decide))).trans rfl))))) (by have h9 := (show g20 137 30 = (g13 137 30) from ((hug20.2 137 30 (fun h => absurd h.1 (by decide))).trans rfl)); omega) (fun g22 hIg22 hfg22 hp23 hc24 => ⟨_, rfl, ?_⟩))
            show mm_W d mmX12_toDraw 75 [some (.ref 137), some (.int (Int32.ofInt a1)), some (.int (Int32.ofInt a2)), some (.int (Int32.ofInt v11)), some (.int (Int32.ofInt v12))] [] (mz_mk g22 x) Q
            replace hE := zf_t1 hE hc24
            refine mm_g 2 (pc1 := 77) (lo1 := [some (.ref 137), some (.int (Int32.ofInt a1)), some (.int (Int32.ofInt a2)), some (.int (Int32.ofInt v11)), some (.int (Int32.ofInt v12))]) (st1 := [.int (Int32.ofInt a1), .ref 137]) (H1 := mz_mk g22 x) rfl ?_
            refine mz_cv rfl mt_12_365 (by decide) (sc_137 _) rfl (Nat.le_of_ble_eq_true rfl) (by omega) (f_X12_isFull (by omega) hx hIg22 (by omega) (by omega) (fun v25 l_v25 u_v25 hc26 => ⟨_, rfl, ?_⟩))
            show mm_W d mmX12_toDraw 80 [some (.ref 137), some (.int (Int32.ofInt a1)), some (.int (Int32.ofInt a2)), some (.int (Int32.ofInt v11)), some (.int (Int32.ofInt v12))] [.int (Int32.ofInt v25)] (mz_mk g22 x) Q
            replace hE := zf_t1 hE hc26
            refine mz_if_eq (tgt := 86) rfl rfl (mz_rg l_v25 u_v25) (fun c80_26 => ?_) (fun c80_26 => ?_)
            · skip
              replace hE := zf_ip hE c80_26
              refine mm_g 2 (pc1 := 88) (lo1 := [some (.ref 137), some (.int (Int32.ofInt a1)), some (.int (Int32.ofInt a2)), some (.int (Int32.ofInt v11)), some (.int (Int32.ofInt v12))]) (st1 := [.ref 137, .ref 137]) (H1 := mz_mk g22 x) rfl ?_
              refine mz_fgR (v := 162) rfl fd_12_103 (by decide) (sc_137 _) (rf_137_40 _ _ _) ?_
              refine mm_g 1 (pc1 := 92) (lo1 := [some (.ref 137), some (.int (Int32.ofInt a1)), some (.int (Int32.ofInt a2)), some (.int (Int32.ofInt v11)), some (.int (Int32.ofInt v12))]) (st1 := [.int (Int32.ofInt 0), .ref 162, .ref 137]) (H1 := mz_mk g22 x) rfl ?_
              refine mz_cv rfl mt_12_421 (by decide) (sc_137 _) rfl (Nat.le_of_ble_eq_true rfl) (by omega) (f_X12_recall (by omega) hx hIg22 rwp_162 (by decide) (by decide) (by omega) (by omega) (fun g27 hIg27 hfg27 hp28 hc29 => ⟨_, rfl, ?_⟩))
              show mm_W d mmX12_toDraw 95 [some (.ref 137), some (.int (Int32.ofInt a1)), some (.int (Int32.ofInt a2)), some (.int (Int32.ofInt v11)), some (.int (Int32.ofInt v12))] [] (mz_mk g27 x) Q
              replace hE := zf_t1 hE hc29
              refine mz_iincR (v := v12) (lo2 := [some (.ref 137), some (.int (Int32.ofInt a1)), some (.int (Int32.ofInt a2)), some (.int (Int32.ofInt v11)), some (.int (Int32.ofInt (v12 + (-1))))]) rfl rfl rfl (Nat.le_of_ble_eq_true rfl) rfl ?_
              refine mz_gt (tgt := 52) rfl rfl ?_
              exact ih14 (((v12 + (-1)) - (-1)).toNat) (by omega) v11 (v12 + (-1)) g27 rfl (by omega) (by omega) (by omega) (by omega) hIg27 (fun k j hk => ((hfg27 k j (fun h => hk (Or.elim h (fun h => (Or.inr (Or.inr (Or.inr (Or.inr (Or.inr (Or.inr (Or.inr (Or.inr (Or.inr (Or.inr (Or.inl h)))))))))))) (fun h => (Or.elim h (fun h => (Or.inr (Or.inr (Or.inr (Or.inr (Or.inr (Or.inr (Or.inr (Or.inr (Or.inr (Or.inl h))))))))))) (fun h => (Or.elim h (fun h => (Or.inr (Or.inr (Or.inr (Or.inr (Or.inr (Or.inr (Or.inr (Or.inr (Or.inr (Or.inr (Or.inr (Or.inl h))))))))))))) (fun h => (Or.elim h (fun h => (Or.inr (Or.inr (Or.inr (Or.inr (Or.inr (Or.inr (Or.inr (Or.inr (Or.inr (Or.inr (Or.inr (Or.inr h))))))))))))) (fun h => (Or.inl h))))))))))).trans ((hfg22 k j (fun h => hk (Or.elim h (fun h => (Or.inr (Or.inl h))) (fun h => (Or.elim h (fun h => (Or.inr (Or.inr (Or.inl h)))) (fun h => (Or.elim h (fun h => (Or.inr (Or.inr (Or.inr (Or.inl h))))) (fun h => (Or.elim h (fun h => (Or.inr (Or.inr (Or.inr (Or.inr (Or.inl h)))))) (fun h => (Or.elim h (fun h => (Or.inr (Or.inr (Or.inr (Or.inr (Or.inr (Or.inl h))))))) (fun h => (Or.elim h (fun h => (Or.inr (Or.inr (Or.inr (Or.inr (Or.inr (Or.inr (Or.inl h)))))))) (fun h => (Or.elim h (fun h => (Or.inr (Or.inr (Or.inr (Or.inr (Or.inr (Or.inr (Or.inr (Or.inl h))))))))) (fun h => (Or.elim h (fun h => (Or.inr (Or.inr (Or.inr (Or.inr (Or.inr (Or.inr (Or.inr (Or.inr (Or.inl h)))))))))) (fun h => (Or.elim h (fun h => (Or.inr (Or.inr (Or.inr (Or.inr (Or.inr (Or.inr (Or.inr (Or.inr (Or.inr (Or.inl h))))))))))) (fun h => (Or.inr (Or.inr (Or.inr (Or.inr (Or.inr (Or.inr (Or.inr (Or.inr (Or.inr (Or.inr (Or.inl h))))))))))))))))))))))))))))))).trans ((hug20.2 k j (fun h => hk (Or.inl h.1))).trans (hfg13 k j (fun h => hk (Or.elim h (fun h => (Or.inl h)) (fun h => (Or.elim h (fun h => (Or.inr (Or.inl h))) (fun h => (Or.elim h (fun h => (Or.inr (Or.inr (Or.inl h)))) (fun h => (Or.elim h (fun h => (Or.inr (Or.inr (Or.inr (Or.inl h))))) (fun h => (Or.elim h (fun h => (Or.inr (Or.inr (Or.inr (Or.inr (Or.inl h)))))) (fun h => (Or.elim h (fun h => (Or.inr (Or.inr (Or.inr (Or.inr (Or.inr (Or.inl h))))))) (fun h => (Or.elim h (fun h => (Or.inr (Or.inr (Or.inr (Or.inr (Or.inr (Or.inr (Or.inl h)))))))) (fun h => (Or.elim h (fun h => (Or.inr (Or.inr (Or.inr (Or.inr (Or.inr (Or.inr (Or.inr (Or.inl h))))))))) (fun h => (Or.elim h (fun h => (Or.inr (Or.inr (Or.inr (Or.inr (Or.inr (Or.inr (Or.inr (Or.inr (Or.inl h)))))))))) (fun h => (Or.elim h (fun h => (Or.inr (Or.inr (Or.inr (Or.inr (Or.inr (Or.inr (Or.inr (Or.inr (Or.inr (Or.inl h))))))))))) (fun h => (Or.elim h (fun h => (Or.inr (Or.inr (Or.inr (Or.inr (Or.inr (Or.inr (Or.inr (Or.inr (Or.inr (Or.inr (Or.inl h)))))))))))) (fun h => (Or.elim h (fun h => (Or.inr (Or.inr (Or.inr (Or.inr (Or.inr (Or.inr (Or.inr (Or.inr (Or.inr (Or.inr (Or.inr (Or.inl h))))))))))))) (fun h => (Or.inr (Or.inr (Or.inr (Or.inr (Or.inr (Or.inr (Or.inr (Or.inr (Or.inr (Or.inr (Or.inr (Or.inr h)))))))))))))))))))))))))))))))))))))))))) (by omega) ⟨fj18, Nat.lt_of_lt_of_le (show (((v12 + (-1)) - (-1)).toNat) < n15 from (by omega)) fn19, hE⟩
            · skip
              replace hE := zf_in hE c80_26
              refine mm_g 4 (pc1 := 88) (lo1 := [some (.ref 137), some (.int (Int32.ofInt a1)), some (.int (Int32.ofInt a2)), some (.int (Int32.ofInt v12)), some (.int (Int32.ofInt v12))]) (st1 := [.ref 137, .ref 137]) (H1 := mz_mk g22 x) rfl ?_
              refine mz_fgR (v := 162) rfl fd_12_103 (by decide) (sc_137 _) (rf_137_40 _ _ _) ?_
              refine mm_g 1 (pc1 := 92) (lo1 := [some (.ref 137), some (.int (Int32.ofInt a1)), some (.int (Int32.ofInt a2)), some (.int (Int32.ofInt v12)), some (.int (Int32.ofInt v12))]) (st1 := [.int (Int32.ofInt 0), .ref 162, .ref 137]) (H1 := mz_mk g22 x) rfl ?_
              refine mz_cv rfl mt_12_421 (by decide) (sc_137 _) rfl (Nat.le_of_ble_eq_true rfl) (by omega) (f_X12_recall (by omega) hx hIg22 rwp_162 (by decide) (by decide) (by omega) (by omega) (fun g30 hIg30 hfg30 hp31 hc32 => ⟨_, rfl, ?_⟩))
              show mm_W d mmX12_toDraw 95 [some (.ref 137), some (.int (Int32.ofInt a1)), some (.int (Int32.ofInt a2)), some (.int (Int32.ofInt v12)), some (.int (Int32.ofInt v12))] [] (mz_mk g30 x) Q
              replace hE := zf_t1 hE hc32
              refine mz_iincR (v := v12) (lo2 := [some (.ref 137), some (.int (Int32.ofInt a1)), some (.int (Int32.ofInt a2)), some (.int (Int32.ofInt v12)), some (.int (Int32.ofInt (v12 + (-1))))]) rfl rfl rfl (Nat.le_of_ble_eq_true rfl) rfl ?_
              refine mz_gt (tgt := 52) rfl rfl ?_
              exact ih14 (((v12 + (-1)) - (-1)).toNat) (by omega) v12 (v12 + (-1)) g30 rfl (by omega) (by omega) (by omega) (by omega) hIg30 (fun k j hk => ((hfg30 k j (fun h => hk (Or.elim h (fun h => (Or.inr (Or.inr (Or.inr (Or.inr (Or.inr (Or.inr (Or.inr (Or.inr (Or.inr (Or.inr (Or.inl h)))))))))))) (fun h => (Or.elim h (fun h => (Or.inr (Or.inr (Or.inr (Or.inr (Or.inr (Or.inr (Or.inr (Or.inr (Or.inr (Or.inl h))))))))))) (fun h => (Or.elim h (fun h => (Or.inr (Or.inr (Or.inr (Or.inr (Or.inr (Or.inr (Or.inr (Or.inr (Or.inr (Or.inr (Or.inr (Or.inl h))))))))))))) (fun h => (Or.elim h (fun h => (Or.inr (Or.inr (Or.inr (Or.inr (Or.inr (Or.inr (Or.inr (Or.inr (Or.inr (Or.inr (Or.inr (Or.inr h))))))))))))) (fun h => (Or.inl h))))))))))).trans ((hfg22 k j (fun h => hk (Or.elim h (fun h => (Or.inr (Or.inl h))) (fun h => (Or.elim h (fun h => (Or.inr (Or.inr (Or.inl h)))) (fun h => (Or.elim h (fun h => (Or.inr (Or.inr (Or.inr (Or.inl h))))) (fun h => (Or.elim h (fun h => (Or.inr (Or.inr (Or.inr (Or.inr (Or.inl h)))))) (fun h => (Or.elim h (fun h => (Or.inr (Or.inr (Or.inr (Or.inr (Or.inr (Or.inl h))))))) (fun h => (Or.elim h (fun h => (Or.inr (Or.inr (Or.inr (Or.inr (Or.inr (Or.inr (Or.inl h)))))))) (fun h => (Or.elim h (fun h => (Or.inr (Or.inr (Or.inr (Or.inr (Or.inr (Or.inr (Or.inr (Or.inl h))))))))) (fun h => (Or.elim h (fun h => (Or.inr (Or.inr (Or.inr (Or.inr (Or.inr (Or.inr (Or.inr (Or.inr (Or.inl h)))))))))) (fun h => (Or.elim h (fun h => (Or.inr (Or.inr (Or.inr (Or.inr (Or.inr (Or.inr (Or.inr (Or.inr (Or.inr (Or.inl h))))))))))) (fun h => (Or.inr (Or.inr (Or.inr (Or.inr (Or.inr (Or.inr (Or.inr (Or.inr (Or.inr (Or.inr (Or.inl h))))))))))))))))))))))))))))))).trans ((hug20.2 k j (fun h => hk (Or.inl h.1))).trans (hfg13 k j (fun h => hk (Or.elim h (fun h => (Or.inl h)) (fun h => (Or.elim h (fun h => (Or.inr (Or.inl h))) (fun h => (Or.elim h (fun h => (Or.inr (Or.inr (Or.inl h)))) (fun h => (Or.elim h (fun h => (Or.inr (Or.inr (Or.inr (Or.inl h))))) (fun h => (Or.elim h (fun h => (Or.inr (Or.inr (Or.inr (Or.inr (Or.inl h)))))) (fun h => (Or.elim h (fun h => (Or.inr (Or.inr (Or.inr (Or.inr (Or.inr (Or.inl h))))))) (fun h => (Or.elim h (fun h => (Or.inr (Or.inr (Or.inr (Or.inr (Or.inr (Or.inr (Or.inl h)))))))) (fun h => (Or.elim h (fun h => (Or.inr (Or.inr (Or.inr (Or.inr (Or.inr (Or.inr (Or.inr (Or.inl h))))))))) (fun h => (Or.elim h (fun h => (Or.inr (Or.inr (Or.inr (Or.inr (Or.inr (Or.inr (Or.inr (Or.inr (Or.inl h)))))))))) (fun h => (Or.elim h (fun h => (Or.inr (Or.inr (Or.inr (Or.inr (Or.inr (Or.inr (Or.inr (Or.inr (Or.inr (Or.inl h))))))))))) (fun h => (Or.elim h (fun h => (Or.inr (Or.inr (Or.inr (Or.inr (Or.inr (Or.inr (Or.inr (Or.inr (Or.inr (Or.inr (Or.inl h)))))))))))) (fun h => (Or.elim h (fun h => (Or.inr (Or.inr (Or.inr (Or.inr (Or.inr (Or.inr (Or.inr (Or.inr (Or.inr (Or.inr (Or.inr (Or.inl h))))))))))))) (fun h => (Or.inr (Or.inr (Or.inr (Or.inr (Or.inr (Or.inr (Or.inr (Or.inr (Or.inr (Or.inr (Or.inr (Or.inr h)))))))))))))))))))))))))))))))))))))))))) (by omega) ⟨fj18, Nat.lt_of_lt_of_le (show (((v12 + (-1)) - (-1)).toNat) < n15 from (by omega)) fn19, hE⟩
      exact L16 _ (-1) 9 g9 rfl (by decide) (by decide) (by decide) (by decide) hIg9 (fun _ _ _ => rfl) (by have h9 := (show g9 137 30 = (g 137 30) from ((hfg9 137 30 (fun h => (absurd (show 137 = 162 from h) (by decide)))).trans ((hug1.2 137 30 (fun h => absurd h.2 (by decide))).trans rfl))); omega) ⟨3000000000, by omega, hE⟩
    · skip
      replace hE := zf_ip hE c28_8
      refine mm_g 2 (pc1 := 33) (lo1 := [some (.ref 137), some (.int (Int32.ofInt a1)), some (.int (Int32.ofInt a2)), none, none]) (st1 := [.int (Int32.ofInt 2), .ref 137]) (H1 := mz_mk g1 x) rfl ?_
      refine mz_cv rfl mt_12_294 (by decide) (sc_137 _) rfl (Nat.le_of_ble_eq_true rfl) (by omega) (f_X12_fail (by omega) hx hIg1 (by decide) (by decide) (fun v33 g34 hIg34 hfg34 l_v33 u_v33 hc35 => ⟨_, rfl, ?_⟩))
      show mm_W d mmX12_toDraw 36 [some (.ref 137), some (.int (Int32.ofInt a1)), some (.int (Int32.ofInt a2)), none, none] [.int (Int32.ofInt v33)] (mz_mk g34 x) Q
      replace hE := zf_t2 hE hc35
      exact mm_rt rfl rfl (hQ _ _ hIg34 (fun k j hk => ((hfg34 k j (fun h => hk (Or.inl h))).trans (hug1.2 k j (fun h => hk (Or.inl h))))) (by omega) (by omega) (by have h9 := (show g34 137 30 = (g 137 30) from ((hfg34 137 30 (fun h => (absurd (show (137 = 137 ∧ 30 = 2) from h) (by decide)))).trans ((hug1.2 137 30 (fun h => absurd h.2 (by decide))).trans rfl))); omega) hE)
  · skip
    replace hE := zf_ip hE c10_5
    refine mm_g 2 (pc1 := 15) (lo1 := [some (.ref 137), some (.int (Int32.ofInt a1)), some (.int (Int32.ofInt a2)), none, none]) (st1 := [.int (Int32.ofInt 1), .ref 137]) (H1 := mz_mk g1 x) rfl ?_
    refine mz_cv rfl mt_12_294 (by decide) (sc_137 _) rfl (Nat.le_of_ble_eq_true rfl) (by omega) (f_X12_fail (by omega) hx hIg1 (by decide) (by decide) (fun v36 g37 hIg37 hfg37 l_v36 u_v36 hc38 => ⟨_, rfl, ?_⟩))
    show mm_W d mmX12_toDraw 18 [some (.ref 137), some (.int (Int32.ofInt a1)), some (.int (Int32.ofInt a2)), none, none] [.int (Int32.ofInt v36)] (mz_mk g37 x) Q
    replace hE := zf_t2 hE hc38
    exact mm_rt rfl rfl (hQ _ _ hIg37 (fun k j hk => ((hfg37 k j (fun h => hk (Or.inl h))).trans (hug1.2 k j (fun h => hk (Or.inl h))))) (by omega) (by omega) (by have h9 := (show g37 137 30 = (g 137 30) from ((hfg37 137 30 (fun h => (absurd (show (137 = 137 ∧ 30 = 2) from h) (by decide)))).trans ((hug1.2 137 30 (fun h => absurd h.2 (by decide))).trans rfl))); omega) hE)
def fw_X12_couples (x : mm_X) : Nat → Nat → Prop := fun k j => (k = 137 ∧ j = 2) ∨ k = 157 ∨ (k = 137 ∧ j = 36) ∨ k = 158 ∨ (k = 137 ∧ j = 37) ∨ k = 159 ∨ k = 164 ∨ k = 165
theorem f_X12_couples {d : Nat} (hd : 14 ≤ d) {x : mm_X} (hx : mk_x x) {g : mz_G} (hI : mz_inv g) (p1 : mz_pv g) (p2 : g 137 30 ≤ 999) {Q : (Option Value ⊕ Nat) → mm_H → Prop} (hQ : ∀ (r : Int) (g1 : mz_G), mz_inv g1 → mz_fr (fw_X12_couples x) g g1 → (-2147483648) ≤ r → r ≤ 2147483647 → (g1 137 30 ≤ 999) → zf_E (zF_X12_couples g) ((r, g1)) → Q (.inl (some (.int (Int32.ofInt r)))) (mz_mk g1 x)) : mm_C d 276 [.ref 137] (mz_mk g x) Q := by
  refine ⟨mmX12_couples, [some (.ref 137)], rfl, rfl, ?_⟩
  have bz0 := mz_rd hI bd_137_30
  have hpv := p1
  have hE : zf_E (zF_X12_couples g) (zF_X12_couples g) := zf_rf
  refine mm_g 2 (pc1 := 2) (lo1 := [some (.ref 137)]) (st1 := [.int (Int32.ofInt 0), .ref 137]) (H1 := mz_mk g x) rfl ?_
  refine mz_pI rfl fd_12_154 (sc_137 _) hI bd_137_2 (by omega) (by omega) (fun g1 hIg1 hug1 => ?_)
  replace hE := zf_tr hE (zf_lg hug1)
  refine mm_g 1 (pc1 := 6) (lo1 := [some (.ref 137)]) (st1 := [.ref 137]) (H1 := mz_mk g1 x) rfl ?_
  refine mz_cv rfl mt_12_470 (by decide) (sc_137 _) rfl (Nat.le_of_ble_eq_true rfl) (by omega) (f_X12_tellCouples (by omega) hx hIg1 (fun g2 hIg2 hfg2 hc3 => ⟨_, rfl, ?_⟩))
  show mm_W d mmX12_couples 9 [some (.ref 137)] [] (mz_mk g2 x) Q
  replace hE := zf_t1 hE hc3
  refine mm_g 1 (pc1 := 10) (lo1 := [some (.ref 137)]) (st1 := [.ref 137]) (H1 := mz_mk g2 x) rfl ?_
  refine mz_fgR (v := 165) rfl fd_12_112 (by decide) (sc_137 _) (rf_137_43 _ _ _) ?_
  refine mm_g 2 (pc1 := 15) (lo1 := [some (.ref 137)]) (st1 := [.ref 137, .int (Int32.ofInt 1), .ref 165]) (H1 := mz_mk g2 x) rfl ?_
  refine mz_fgR (v := 140) rfl fd_12_36 (by decide) (sc_137 _) (rf_137_3 _ _ _) ?_
  refine mm_g 1 (pc1 := 19) (lo1 := [some (.ref 137)]) (st1 := [.int (Int32.ofInt 1), .ref 140, .int (Int32.ofInt 1), .ref 165]) (H1 := mz_mk g2 x) rfl ?_
  refine mz_aI rfl (sh_140 _) (by omega) (by omega) (by decide) hIg2 bt_140_1 (fun v4 e_v4 l_v4 u_v4 => ?_)
  have e_v4 : g2 140 1 = v4 := e_v4
  replace hE := zf_tr hE (zf_le e_v4)
  refine mz_ishl rfl (fun v5 e_v5 hwv5 => ?_)
  have b_v5 : 1 ≤ v5 ∧ v5 ≤ 64 := by rw [e_v5]; exact mz_shl_b (lx := 1) (hx := 1) (k := 6) (by decide) (by decide) (by omega) (by omega) (by omega) (by omega)
  have l_v5 := b_v5.1
  have u_v5 := b_v5.2
  replace hE := zf_tr hE (zf_le e_v5.symm)
  refine mm_g 1 (pc1 := 22) (lo1 := [some (.ref 137)]) (st1 := [.int (Int32.ofInt 1), .int (Int32.ofInt v5), .ref 165]) (H1 := mz_mk g2 x) rfl ?_
  refine mz_isub rfl ?_
  refine mz_aI rfl (sh_165 _) (by omega) (by omega) (by decide) hIg2 (ba_165 _) (fun v6 e_v6 l_v6 u_v6 => ?_)
  replace hE := zf_tr hE (zf_le e_v6)
  refine mz_sip rfl sip_1000 ?_
  refine zf_irem rfl ⟨by decide, by decide⟩ (by decide) (fun v7 e_v7 hwv7 => ?_)
  replace hE := zf_tr hE (zf_le e_v7.symm)
  have l_v7 := hwv7.1
  have u_v7 := hwv7.2
  exact mm_rt rfl rfl (hQ _ _ hIg2 (fun k j hk => ((hfg2 k j (fun h => hk (Or.elim h (fun h => (Or.inr (Or.inl h))) (fun h => (Or.elim h (fun h => (Or.inr (Or.inr (Or.inl h)))) (fun h => (Or.elim h (fun h => (Or.inr (Or.inr (Or.inr (Or.inl h))))) (fun h => (Or.elim h (fun h => (Or.inr (Or.inr (Or.inr (Or.inr (Or.inl h)))))) (fun h => (Or.elim h (fun h => (Or.inr (Or.inr (Or.inr (Or.inr (Or.inr (Or.inl h))))))) (fun h => (Or.elim h (fun h => (Or.inr (Or.inr (Or.inr (Or.inr (Or.inr (Or.inr (Or.inl h)))))))) (fun h => (Or.inr (Or.inr (Or.inr (Or.inr (Or.inr (Or.inr (Or.inr h))))))))))))))))))))).trans (hug1.2 k j (fun h => hk (Or.inl h))))) (by omega) (by omega) (by have h9 := (show g2 137 30 = (g 137 30) from ((hfg2 137 30 nj_27).trans ((hug1.2 137 30 (fun h => absurd h.2 (by decide))).trans rfl))); omega) hE)
