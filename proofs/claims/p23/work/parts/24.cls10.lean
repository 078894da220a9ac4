/-! EXACT: the class (wip/p2/tools/gen50.py) -/
theorem nj_5 : ¬ (((87 : Nat) ≤ 0 ∧ (0 : Nat) < 96) ∨ (0 : Nat) = 96 ∨ (0 : Nat) = 86 ∨ (0 : Nat) = 97 ∨ (0 : Nat) = 98 ∨ (0 : Nat) = 99 ∨ (0 : Nat) = 100) := (fun h => (Or.elim h (fun h => (absurd (show (87 ≤ 0 ∧ 0 < 96) from h) (by decide))) (fun h => (Or.elim h (fun h => (absurd (show 0 = 96 from h) (by decide))) (fun h => (Or.elim h (fun h => (absurd (show 0 = 86 from h) (by decide))) (fun h => (Or.elim h (fun h => (absurd (show 0 = 97 from h) (by decide))) (fun h => (Or.elim h (fun h => (absurd (show 0 = 98 from h) (by decide))) (fun h => (Or.elim h (fun h => (absurd (show 0 = 99 from h) (by decide))) (fun h => (absurd (show 0 = 100 from h) (by decide)))))))))))))))
theorem sip_12345 : (Int16.ofInt 12345).toInt32 = Int32.ofInt 12345 := by decide
theorem sip_32767 : (Int16.ofInt 32767).toInt32 = Int32.ofInt 32767 := by decide
theorem fd_11_41 : mm_tab mm_fldT 11 41 = some (11, 6, 0) ∧ mm_tab mm_ftT 11 6 = some 6 := ⟨rfl, rfl⟩
theorem fd_11_75 : mm_tab mm_fldT 11 75 = some (11, 12, 0) ∧ mm_tab mm_ftT 11 12 = some 6 := ⟨rfl, rfl⟩
theorem fd_11_91 : mm_tab mm_fldT 11 91 = some (11, 15, 0) ∧ mm_tab mm_ftT 11 15 = some 0 := ⟨rfl, rfl⟩
theorem mt_6_48 : mm_tab mm_mthT 6 48 = some (0, 178, 2, 1, 11) := rfl
theorem mt_11_346 : mm_tab mm_mthT 11 346 = some (1, 159, 0, 0, 11) := rfl
theorem mt_11_349 : mm_tab mm_mthT 11 349 = some (1, 158, 0, 0, 11) := rfl
theorem mt_11_352 : mm_tab mm_mthT 11 352 = some (1, 160, 2, 0, 11) := rfl
theorem mt_11_355 : mm_tab mm_mthT 11 355 = some (0, 179, 1, 0, 11) := rfl
theorem mt_11_358 : mm_tab mm_mthT 11 358 = some (0, 293, 1, 0, 14) := rfl
theorem mt_11_363 : mm_tab mm_mthT 11 363 = some (1, 162, 3, 0, 11) := rfl
theorem mt_11_367 : mm_tab mm_mthT 11 367 = some (1, 75, 0, 0, 6) := rfl
theorem mt_11_381 : mm_tab mm_mthT 11 381 = some (1, 165, 2, 0, 11) := rfl
theorem mt_11_384 : mm_tab mm_mthT 11 384 = some (1, 101, 1, 0, 9) := rfl
theorem mt_11_387 : mm_tab mm_mthT 11 387 = some (1, 167, 0, 0, 11) := rfl
theorem mt_11_390 : mm_tab mm_mthT 11 390 = some (1, 168, 1, 0, 11) := rfl
theorem mt_11_394 : mm_tab mm_mthT 11 394 = some (1, 66, 1, 0, 6) := rfl
theorem sc_101 (L : Nat) : (mm_SH L 101).1 = 6 := rfl
theorem sc_124 (L : Nat) : (mm_SH L 124).1 = 9 := rfl
theorem bd_0_15 : mz_bd 0 15 = ((-2147483648), 2147483647) := rfl
theorem bd_124_2 : mz_bd 124 2 = (0, 6) := rfl
theorem rf_0_6 (a b : Nat) (c : Option Nat) : mm_HR a b c 0 6 = some 101 := rfl
theorem rf_0_12 (a b : Nat) (c : Option Nat) : mm_HR a b c 0 12 = some 124 := rfl
theorem kp_story_101 : kd_story 101 := by unfold kd_story; decide
theorem kp_tks_124 : kd_tks 124 := by unfold kd_tks; decide
def fl_X11_looseStraps_19 (x : mm_X) (a1 : Int) (a2 : Int) : Nat → Nat → Prop := fun k j => k = 122 ∨ k = ((x.1 + 36) + 2) ∨ k = ((x.1 + 36) + 3)
def fw_X11_looseStraps (x : mm_X) (a1 : Int) (a2 : Int) : Nat → Nat → Prop := fun k j => k = 122 ∨ k = ((x.1 + 36) + 2) ∨ k = ((x.1 + 36) + 3)
theorem f_X11_looseStraps {d : Nat} (hd : 16 ≤ d) {x : mm_X} (hx : mk_x x) {g : mz_G} (hI : mz_inv g) {a1 : Int} (l_a1 : (-2147483648) ≤ a1) (u_a1 : a1 ≤ 2147483647) {a2 : Int} (l_a2 : (-2147483648) ≤ a2) (u_a2 : a2 ≤ 2147483647) {Q : (Option Value ⊕ Nat) → mm_H → Prop} (hQ : ∀ (r : Int) (g1 : mz_G), mz_inv g1 → mz_fr (fw_X11_looseStraps x a1 a2) g g1 → (-2147483648) ≤ r → r ≤ 2147483647 → zf_E (zF_X11_looseStraps x a1 a2 g) ((r, g1)) → Q (.inl (some (.int (Int32.ofInt r)))) (mz_mk g1 x)) : mm_C d 160 [.ref 0, .int (Int32.ofInt a1), .int (Int32.ofInt a2)] (mz_mk g x) Q := by
  have kx := kn_x hx
  refine ⟨mmX11_looseStraps, [some (.ref 0), some (.int (Int32.ofInt a1)), some (.int (Int32.ofInt a2)), none, none], rfl, rfl, ?_⟩
  have hE : zf_E (zF_X11_looseStraps x a1 a2 g) (zF_X11_looseStraps x a1 a2 g) := zf_rf
  refine mm_g 3 (pc1 := 3) (lo1 := [some (.ref 0), some (.int (Int32.ofInt a1)), some (.int (Int32.ofInt a2)), none, none]) (st1 := [.int (Int32.ofInt a1), .int (Int32.ofInt 1), .int (Int32.ofInt a2)]) (H1 := mz_mk g x) rfl ?_
  refine mz_ishl rfl (fun v1 e_v1 hwv1 => ?_)
  have l_v1 := hwv1.1
  have u_v1 := hwv1.2
  replace hE := zf_tr hE (zf_le e_v1.symm)
  refine mz_ior rfl (fun v2 e_v2 hwv2 => ?_)
  have l_v2 := hwv2.1
  have u_v2 := hwv2.2
  replace hE := zf_tr hE (zf_le e_v2.symm)
  refine mm_g 1 (pc1 := 6) (lo1 := [some (.ref 0), some (.int (Int32.ofInt a1)), some (.int (Int32.ofInt a2)), none, none]) (st1 := [.ref 0, .int (Int32.ofInt v2)]) (H1 := mz_mk g x) rfl ?_
  refine mz_cv rfl mt_11_349 (by decide) (sc_0 _) rfl (Nat.le_of_ble_eq_true rfl) (by omega) (f_X11_allTrunks (by omega) hx hI (fun v3 l_v3 u_v3 hc4 => ⟨_, rfl, ?_⟩))
  show mm_W d mmX11_looseStraps 9 [some (.ref 0), some (.int (Int32.ofInt a1)), some (.int (Int32.ofInt a2)), none, none] [.int (Int32.ofInt v3), .int (Int32.ofInt v2)] (mz_mk g x) Q
  replace hE := zf_t1 hE hc4
  refine mz_ic_eq (tgt := 14) rfl rfl (mz_rg l_v2 u_v2) (mz_rg l_v3 u_v3) (fun c9_4 => ?_) (fun c9_4 => ?_)
  · skip
    replace hE := zf_ip hE c9_4
    refine mm_g 4 (pc1 := 19) (lo1 := [some (.ref 0), some (.int (Int32.ofInt a1)), some (.int (Int32.ofInt a2)), some (.int (Int32.ofInt 0)), some (.int (Int32.ofInt 0))]) (st1 := []) (H1 := mz_mk g x) rfl ?_
    have L10 : ∀ n9 : Nat, ∀ (v5 : Int) (v6 : Int) (g7 : mz_G), (10 - v6).toNat = n9 → (-2147483648) ≤ v5 → v5 ≤ 2147483647 → 0 ≤ v6 → v6 ≤ 10 → mz_inv g7 → mz_fr (fl_X11_looseStraps_19 x a1 a2) g g7 → (∃ fk : Nat, (10 - v6).toNat < fk ∧ zf_E (zF_X11_looseStraps x a1 a2 g) (zL_X11_looseStraps_19 x a1 a2 fk v5 v6 g7)) → mm_W d mmX11_looseStraps 19 [some (.ref 0), some (.int (Int32.ofInt a1)), some (.int (Int32.ofInt a2)), some (.int (Int32.ofInt v5)), some (.int (Int32.ofInt v6))] [] (mz_mk g7 x) Q := by
      intro n9
      induction n9 using Nat.strongRecOn with
      | ind n9 ih8 =>
      intro v5 v6 g7 hmn9 l_v5 u_v5 l_v6 u_v6 hIg7 hfg7 hF
      obtain ⟨fk, fl, hE⟩ := hF
      obtain ⟨fj11, rfl⟩ : ∃ fj, fk = fj + 1 := ⟨fk - 1, by omega⟩
      have fn12 : n9 ≤ fj11 := by omega
      replace hE := zf_tr hE zL_X11_looseStraps_19_s
      refine mm_g 1 (pc1 := 21) (lo1 := [some (.ref 0), some (.int (Int32.ofInt a1)), some (.int (Int32.ofInt a2)), some (.int (Int32.ofInt v5)), some (.int (Int32.ofInt v6))]) (st1 := [.int (Int32.ofInt v6)]) (H1 := mz_mk g7 x) rfl ?_
      refine mz_bip rfl bip_9 ?_
      refine mz_ic_gt (tgt := 68) rfl rfl (mz_rg l_v6 u_v6) ⟨by decide, by decide⟩ (fun c23_12 => ?_) (fun c23_12 => ?_)
      · skip
        replace hE := zf_ip hE c23_12
        refine mm_g 1 (pc1 := 69) (lo1 := [some (.ref 0), some (.int (Int32.ofInt a1)), some (.int (Int32.ofInt a2)), some (.int (Int32.ofInt v5)), some (.int (Int32.ofInt v6))]) (st1 := [.int (Int32.ofInt v5)]) (H1 := mz_mk g7 x) rfl ?_
        exact mm_rt rfl rfl (hQ _ _ hIg7 (fun k j hk => (hfg7 k j (fun h => hk (Or.elim h (fun h => (Or.inl h)) (fun h => (Or.elim h (fun h => (Or.inr (Or.inl h))) (fun h => (Or.inr (Or.inr h))))))))) (by omega) (by omega) hE)
      · skip
        replace hE := zf_nl hE c23_12
        refine mm_g 2 (pc1 := 29) (lo1 := [some (.ref 0), some (.int (Int32.ofInt a1)), some (.int (Int32.ofInt a2)), some (.int (Int32.ofInt v5)), some (.int (Int32.ofInt v6))]) (st1 := [.ref 0, .int (Int32.ofInt v6)]) (H1 := mz_mk g7 x) rfl ?_
        refine mz_fgR (v := 86) rfl fd_11_37 (by decide) (sc_0 _) (rf_0_5 _ _ _) ?_
        refine mz_fgR (v := 87) rfl fd_11_158 (by decide) (sc_86 _) (rf_86_0 _ _ _) ?_
        refine mm_g 1 (pc1 := 36) (lo1 := [some (.ref 0), some (.int (Int32.ofInt a1)), some (.int (Int32.ofInt a2)), some (.int (Int32.ofInt v5)), some (.int (Int32.ofInt v6))]) (st1 := [.int (Int32.ofInt a1), .ref 87, .int (Int32.ofInt v6)]) (H1 := mz_mk g7 x) rfl ?_
        refine mz_cv rfl mt_11_192 (by decide) (sc_87 _) rfl (Nat.le_of_ble_eq_true rfl) (by omega) (f_X9_get (by omega) hx hIg7 kp_tks_87 l_a1 u_a1 (fun u13 k_u13 hp14 hc15 => ⟨_, rfl, ?_⟩))
        show mm_W d mmX11_looseStraps 39 [some (.ref 0), some (.int (Int32.ofInt a1)), some (.int (Int32.ofInt a2)), some (.int (Int32.ofInt v5)), some (.int (Int32.ofInt v6))] [.ref u13, .int (Int32.ofInt v6)] (mz_mk g7 x) Q
        replace hE := zf_t1 hE hc15
        refine mz_gI rfl fd_11_234 (by decide) (kc_trunk k_u13 _) hIg7 (kb_trunk_2 k_u13) (fun v16 e_v16 l_v16 u_v16 => ?_)
        replace hE := zf_tr hE (zf_le e_v16)
        refine mz_ic_eq (tgt := 62) rfl rfl (mz_rg l_v6 u_v6) (mz_rg l_v16 u_v16) (fun c42_16 => ?_) (fun c42_16 => ?_)
        · skip
          replace hE := zf_ip hE c42_16
          refine mz_iincR (v := v6) (lo2 := [some (.ref 0), some (.int (Int32.ofInt a1)), some (.int (Int32.ofInt a2)), some (.int (Int32.ofInt v5)), some (.int (Int32.ofInt (v6 + 1)))]) rfl rfl rfl (Nat.le_of_ble_eq_true rfl) rfl ?_
          refine mz_gt (tgt := 19) rfl rfl ?_
          exact ih8 ((10 - (v6 + 1)).toNat) (by omega) v5 (v6 + 1) g7 rfl (by omega) (by omega) (by omega) (by omega) hIg7 (fun k j hk => (hfg7 k j (fun h => hk (Or.elim h (fun h => (Or.inl h)) (fun h => (Or.elim h (fun h => (Or.inr (Or.inl h))) (fun h => (Or.inr (Or.inr h))))))))) ⟨fj11, Nat.lt_of_lt_of_le (show ((10 - (v6 + 1)).toNat) < n9 from (by omega)) fn12, hE⟩
        · skip
          replace hE := zf_in hE c42_16
          refine mm_g 3 (pc1 := 49) (lo1 := [some (.ref 0), some (.int (Int32.ofInt a1)), some (.int (Int32.ofInt a2)), some (.int (Int32.ofInt v5)), some (.int (Int32.ofInt v6))]) (st1 := [.int (Int32.ofInt v6), .int (Int32.ofInt a1), .ref 0]) (H1 := mz_mk g7 x) rfl ?_
          refine mz_cv rfl mt_11_370 (by decide) (sc_0 _) rfl (Nat.le_of_ble_eq_true rfl) (by omega) (f_X11_fitsSeen (by omega) hx hIg7 l_a1 u_a1 (by omega) (by omega) (fun v17 g18 hIg18 hfg18 l_v17 u_v17 hc19 => ⟨_, rfl, ?_⟩))
          show mm_W d mmX11_looseStraps 52 [some (.ref 0), some (.int (Int32.ofInt a1)), some (.int (Int32.ofInt a2)), some (.int (Int32.ofInt v5)), some (.int (Int32.ofInt v6))] [.int (Int32.ofInt v17)] (mz_mk g18 x) Q
          replace hE := zf_t2 hE hc19
          refine mz_if_eq (tgt := 62) rfl rfl (mz_rg l_v17 u_v17) (fun c52_19 => ?_) (fun c52_19 => ?_)
          · skip
            replace hE := zf_ip hE c52_19
            refine mz_iincR (v := v6) (lo2 := [some (.ref 0), some (.int (Int32.ofInt a1)), some (.int (Int32.ofInt a2)), some (.int (Int32.ofInt v5)), some (.int (Int32.ofInt (v6 + 1)))]) rfl rfl rfl (Nat.le_of_ble_eq_true rfl) rfl ?_
            refine mz_gt (tgt := 19) rfl rfl ?_
            exact ih8 ((10 - (v6 + 1)).toNat) (by omega) v5 (v6 + 1) g18 rfl (by omega) (by omega) (by omega) (by omega) hIg18 (fun k j hk => ((hfg18 k j (fun h => hk (Or.elim h (fun h => (Or.inl h)) (fun h => (Or.elim h (fun h => (Or.inr (Or.inl h))) (fun h => (Or.inr (Or.inr h)))))))).trans (hfg7 k j (fun h => hk (Or.elim h (fun h => (Or.inl h)) (fun h => (Or.elim h (fun h => (Or.inr (Or.inl h))) (fun h => (Or.inr (Or.inr h)))))))))) ⟨fj11, Nat.lt_of_lt_of_le (show ((10 - (v6 + 1)).toNat) < n9 from (by omega)) fn12, hE⟩
          · skip
            replace hE := zf_in hE c52_19
            refine mm_g 3 (pc1 := 59) (lo1 := [some (.ref 0), some (.int (Int32.ofInt a1)), some (.int (Int32.ofInt a2)), some (.int (Int32.ofInt v5)), some (.int (Int32.ofInt v6))]) (st1 := [.int (Int32.ofInt v6), .int (Int32.ofInt 1), .int (Int32.ofInt v5)]) (H1 := mz_mk g18 x) rfl ?_
            refine mz_ishl rfl (fun v20 e_v20 hwv20 => ?_)
            have b_v20 : 1 ≤ v20 ∧ v20 ≤ 512 := by rw [e_v20]; exact mz_shl_b (lx := 1) (hx := 1) (k := 9) (by decide) (by decide) (by omega) (by omega) (by omega) (by omega)
            have l_v20 := b_v20.1
            have u_v20 := b_v20.2
            replace hE := zf_tr hE (zf_le e_v20.symm)
            refine mz_ior rfl (fun v21 e_v21 hwv21 => ?_)
            have l_v21 := hwv21.1
            have u_v21 := hwv21.2
            replace hE := zf_tr hE (zf_le e_v21.symm)
            refine mm_g 1 (pc1 := 62) (lo1 := [some (.ref 0), some (.int (Int32.ofInt a1)), some (.int (Int32.ofInt a2)), some (.int (Int32.ofInt v21)), some (.int (Int32.ofInt v6))]) (st1 := []) (H1 := mz_mk g18 x) rfl ?_
            refine mz_iincR (v := v6) (lo2 := [some (.ref 0), some (.int (Int32.ofInt a1)), some (.int (Int32.ofInt a2)), some (.int (Int32.ofInt v21)), some (.int (Int32.ofInt (v6 + 1)))]) rfl rfl rfl (Nat.le_of_ble_eq_true rfl) rfl ?_
            refine mz_gt (tgt := 19) rfl rfl ?_
            exact ih8 ((10 - (v6 + 1)).toNat) (by omega) v21 (v6 + 1) g18 rfl (by omega) (by omega) (by omega) (by omega) hIg18 (fun k j hk => ((hfg18 k j (fun h => hk (Or.elim h (fun h => (Or.inl h)) (fun h => (Or.elim h (fun h => (Or.inr (Or.inl h))) (fun h => (Or.inr (Or.inr h)))))))).trans (hfg7 k j (fun h => hk (Or.elim h (fun h => (Or.inl h)) (fun h => (Or.elim h (fun h => (Or.inr (Or.inl h))) (fun h => (Or.inr (Or.inr h)))))))))) ⟨fj11, Nat.lt_of_lt_of_le (show ((10 - (v6 + 1)).toNat) < n9 from (by omega)) fn12, hE⟩
    exact L10 _ 0 0 g rfl (by decide) (by decide) (by decide) (by decide) hI (fun _ _ _ => rfl) ⟨3000000000, by omega, hE⟩
  · skip
    replace hE := zf_in hE c9_4
    refine mm_g 1 (pc1 := 13) (lo1 := [some (.ref 0), some (.int (Int32.ofInt a1)), some (.int (Int32.ofInt a2)), none, none]) (st1 := [.int (Int32.ofInt 0)]) (H1 := mz_mk g x) rfl ?_
    exact mm_rt rfl rfl (hQ _ _ hI (fun _ _ _ => rfl) (by decide) (by decide) hE)
def fl_X11_loose_49 (x : mm_X) (a1 : Int) : Nat → Nat → Prop := fun k j => k = 122 ∨ k = ((x.1 + 36) + 2) ∨ k = ((x.1 + 36) + 3)
def fw_X11_loose (x : mm_X) (a1 : Int) : Nat → Nat → Prop := fun k j => k = 122 ∨ k = ((x.1 + 36) + 2) ∨ k = ((x.1 + 36) + 3)
theorem f_X11_loose {d : Nat} (hd : 17 ≤ d) {x : mm_X} (hx : mk_x x) {g : mz_G} (hI : mz_inv g) {a1 : Int} (l_a1 : (-2147483648) ≤ a1) (u_a1 : a1 ≤ 2147483647) {Q : (Option Value ⊕ Nat) → mm_H → Prop} (hQ : ∀ (r : Int) (g1 : mz_G), mz_inv g1 → mz_fr (fw_X11_loose x a1) g g1 → (-2147483648) ≤ r → r ≤ 2147483647 → zf_E (zF_X11_loose x a1 g) ((0, r, g1)) → Q (.inl (some (.int (Int32.ofInt r)))) (mz_mk g1 x)) (hX0 : (zf_E (zF_X11_loose x a1 g) ((1, 0, g))) → Q (.inr 0) (mz_mk g (mz_tx x))) : mm_C d 155 [.ref 0, .int (Int32.ofInt a1)] (mz_mk g x) Q := by
  have kx := kn_x hx
  refine ⟨mmX11_loose, [some (.ref 0), some (.int (Int32.ofInt a1)), none, none, none, none, none], rfl, rfl, ?_⟩
  have hE : zf_E (zF_X11_loose x a1 g) (zF_X11_loose x a1 g) := zf_rf
  refine mm_g 1 (pc1 := 1) (lo1 := [some (.ref 0), some (.int (Int32.ofInt a1)), none, none, none, none, none]) (st1 := [.int (Int32.ofInt a1)]) (H1 := mz_mk g x) rfl ?_
  refine mz_if_lt (tgt := 13) rfl rfl (mz_rg l_a1 u_a1) (fun c1_0 => ?_) (fun c1_0 => ?_)
  · skip
    replace hE := zf_ip hE c1_0
    refine mm_g 1 (pc1 := 14) (lo1 := [some (.ref 0), some (.int (Int32.ofInt a1)), none, none, none, none, none]) (st1 := [.int (Int32.ofInt 0)]) (H1 := mz_mk g x) rfl ?_
    (try unfold zJ_X11_loose_13 at hE)
    (try unfold zJ_X11_loose_14 at hE)
    (try unfold zJ_X11_loose_91 at hE)
    (try unfold zJ_X11_loose_13 at hE)
    (try unfold zJ_X11_loose_14 at hE)
    (try unfold zJ_X11_loose_91 at hE)
    refine mz_csx rfl mt_11_183 rfl (Nat.le_of_ble_eq_true rfl) (by omega) rfl nh_X11_mustBe (f_X11_mustBe (by omega) hx hI (by decide) (by decide) (fun hp1 hc2 => ?_) (fun hc => hX0 (zf_x2 hE hc (by decide))))
    show mm_W d mmX11_loose 17 [some (.ref 0), some (.int (Int32.ofInt a1)), none, none, none, none, none] [] (mz_mk g x) Q
    replace hE := zf_x1 hE hc2
    exfalso; omega
  · skip
    replace hE := zf_nl hE c1_0
    refine mm_g 2 (pc1 := 6) (lo1 := [some (.ref 0), some (.int (Int32.ofInt a1)), none, none, none, none, none]) (st1 := [.int (Int32.ofInt 2), .int (Int32.ofInt a1)]) (H1 := mz_mk g x) rfl ?_
    refine mz_ic_gt (tgt := 13) rfl rfl (mz_rg l_a1 u_a1) ⟨by decide, by decide⟩ (fun c6_2 => ?_) (fun c6_2 => ?_)
    · skip
      replace hE := zf_ip hE c6_2
      refine mm_g 1 (pc1 := 14) (lo1 := [some (.ref 0), some (.int (Int32.ofInt a1)), none, none, none, none, none]) (st1 := [.int (Int32.ofInt 0)]) (H1 := mz_mk g x) rfl ?_
      (try unfold zJ_X11_loose_13 at hE)
      (try unfold zJ_X11_loose_14 at hE)
      (try unfold zJ_X11_loose_91 at hE)
      (try unfold zJ_X11_loose_13 at hE)
      (try unfold zJ_X11_loose_14 at hE)
      (try unfold zJ_X11_loose_91 at hE)
      refine mz_csx rfl mt_11_183 rfl (Nat.le_of_ble_eq_true rfl) (by omega) rfl nh_X11_mustBe (f_X11_mustBe (by omega) hx hI (by decide) (by decide) (fun hp3 hc4 => ?_) (fun hc => hX0 (zf_x2 hE hc (by decide))))
      show mm_W d mmX11_loose 17 [some (.ref 0), some (.int (Int32.ofInt a1)), none, none, none, none, none] [] (mz_mk g x) Q
      replace hE := zf_x1 hE hc4
      exfalso; omega
    · skip
      replace hE := zf_nl hE c6_2
      refine mm_g 1 (pc1 := 10) (lo1 := [some (.ref 0), some (.int (Int32.ofInt a1)), none, none, none, none, none]) (st1 := [.int (Int32.ofInt 1)]) (H1 := mz_mk g x) rfl ?_
      refine mz_gt (tgt := 14) rfl rfl ?_
      (try unfold zJ_X11_loose_13 at hE)
      (try unfold zJ_X11_loose_14 at hE)
      (try unfold zJ_X11_loose_91 at hE)
      (try unfold zJ_X11_loose_13 at hE)
      (try unfold zJ_X11_loose_14 at hE)
      (try unfold zJ_X11_loose_91 at hE)
      refine mz_csx rfl mt_11_183 rfl (Nat.le_of_ble_eq_true rfl) (by omega) rfl nh_X11_mustBe (f_X11_mustBe (by omega) hx hI (by decide) (by decide) (fun hp5 hc6 => ?_) (fun hc => hX0 (zf_x2 hE hc (by decide))))
      show mm_W d mmX11_loose 17 [some (.ref 0), some (.int (Int32.ofInt a1)), none, none, none, none, none] [] (mz_mk g x) Q
      replace hE := zf_x1 hE hc6
      refine mm_g 1 (pc1 := 18) (lo1 := [some (.ref 0), some (.int (Int32.ofInt a1)), none, none, none, none, none]) (st1 := [.ref 0]) (H1 := mz_mk g x) rfl ?_
      refine mz_cv rfl mt_11_346 (by decide) (sc_0 _) rfl (Nat.le_of_ble_eq_true rfl) (by omega) (f_X11_fittingTrunks (by omega) hx hI (fun v7 g8 hIg8 hfg8 l_v7 u_v7 hc9 => ⟨_, rfl, ?_⟩))
      show mm_W d mmX11_loose 21 [some (.ref 0), some (.int (Int32.ofInt a1)), none, none, none, none, none] [.int (Int32.ofInt v7)] (mz_mk g8 x) Q
      replace hE := zf_t2 hE hc9
      refine mm_g 3 (pc1 := 24) (lo1 := [some (.ref 0), some (.int (Int32.ofInt a1)), some (.int (Int32.ofInt v7)), none, none, none, none]) (st1 := [.int (Int32.ofInt 2), .int (Int32.ofInt a1)]) (H1 := mz_mk g8 x) rfl ?_
      refine mz_ic_ne (tgt := 41) rfl rfl (mz_rg l_a1 u_a1) ⟨by decide, by decide⟩ (fun c24_9 => ?_) (fun c24_9 => ?_)
      · skip
        replace hE := zf_in hE c24_9
        refine mm_g 6 (pc1 := 49) (lo1 := [some (.ref 0), some (.int (Int32.ofInt a1)), some (.int (Int32.ofInt v7)), some (.int (Int32.ofInt 0)), some (.int (Int32.ofInt (-1))), some (.int (Int32.ofInt 0)), none]) (st1 := []) (H1 := mz_mk g8 x) rfl ?_
        have L17 : ∀ n16 : Nat, ∀ (v10 : Int) (v11 : Int) (v12 : Int) (o13 : Option Value) (g14 : mz_G), (6 - v12).toNat = n16 → (-2147483648) ≤ v10 → v10 ≤ 2147483647 → (-1) ≤ v11 → v11 ≤ 99 → 0 ≤ v12 → v12 ≤ 6 → mz_nl o13 → mz_inv g14 → mz_fr (fl_X11_loose_49 x a1) g8 g14 → (∃ fk : Nat, (6 - v12).toNat < fk ∧ zf_E (zF_X11_loose x a1 g) (zL_X11_loose_49 x a1 fk v7 v10 v11 v12 g14)) → mm_W d mmX11_loose 49 [some (.ref 0), some (.int (Int32.ofInt a1)), some (.int (Int32.ofInt v7)), some (.int (Int32.ofInt v10)), some (.int (Int32.ofInt v11)), some (.int (Int32.ofInt v12)), o13] [] (mz_mk g14 x) Q := by
          intro n16
          induction n16 using Nat.strongRecOn with
          | ind n16 ih15 =>
          intro v10 v11 v12 o13 g14 hmn16 l_v10 u_v10 l_v11 u_v11 l_v12 u_v12 h_o13 hIg14 hfg14 hF
          obtain ⟨fk, fl, hE⟩ := hF
          obtain ⟨fj18, rfl⟩ : ∃ fj, fk = fj + 1 := ⟨fk - 1, by omega⟩
          have fn19 : n16 ≤ fj18 := by omega
          replace hE := zf_tr hE zL_X11_loose_49_s
          refine mm_g 2 (pc1 := 52) (lo1 := [some (.ref 0), some (.int (Int32.ofInt a1)), some (.int (Int32.ofInt v7)), some (.int (Int32.ofInt v10)), some (.int (Int32.ofInt v11)), some (.int (Int32.ofInt v12)), o13]) (st1 := [.ref 0, .int (Int32.ofInt v12)]) (H1 := mz_mk g14 x) rfl ?_
          refine mz_cv rfl mt_11_155 (by decide) (sc_0 _) rfl (Nat.le_of_ble_eq_true rfl) (by omega) (f_X11_trunkCount (by omega) hx hIg14 (fun v20 l_v20 u_v20 hc21 => ⟨_, rfl, ?_⟩))
          show mm_W d mmX11_loose 55 [some (.ref 0), some (.int (Int32.ofInt a1)), some (.int (Int32.ofInt v7)), some (.int (Int32.ofInt v10)), some (.int (Int32.ofInt v11)), some (.int (Int32.ofInt v12)), o13] [.int (Int32.ofInt v20), .int (Int32.ofInt v12)] (mz_mk g14 x) Q
          replace hE := zf_t1 hE hc21
          refine mz_ic_ge (tgt := 105) rfl rfl (mz_rg l_v12 u_v12) (mz_rg l_v20 u_v20) (fun c55_21 => ?_) (fun c55_21 => ?_)
          · skip
            replace hE := zf_nl hE c55_21
            refine mm_g 1 (pc1 := 106) (lo1 := [some (.ref 0), some (.int (Int32.ofInt a1)), some (.int (Int32.ofInt v7)), some (.int (Int32.ofInt v10)), some (.int (Int32.ofInt v11)), some (.int (Int32.ofInt v12)), o13]) (st1 := [.int (Int32.ofInt a1)]) (H1 := mz_mk g14 x) rfl ?_
            refine mz_if_ne (tgt := 113) rfl rfl (mz_rg l_a1 u_a1) (fun c106_21 => ?_) (fun c106_21 => ?_)
            · skip
              replace hE := zf_in hE c106_21
              refine mm_g 1 (pc1 := 115) (lo1 := [some (.ref 0), some (.int (Int32.ofInt a1)), some (.int (Int32.ofInt v7)), some (.int (Int32.ofInt v10)), some (.int (Int32.ofInt v11)), some (.int (Int32.ofInt v12)), o13]) (st1 := [.int (Int32.ofInt v11)]) (H1 := mz_mk g14 x) rfl ?_
              exact mm_rt rfl rfl (hQ _ _ hIg14 (fun k j hk => ((hfg14 k j (fun h => hk (Or.elim h (fun h => (Or.inl h)) (fun h => (Or.elim h (fun h => (Or.inr (Or.inl h))) (fun h => (Or.inr (Or.inr h)))))))).trans (hfg8 k j (fun h => hk (Or.elim h (fun h => (Or.inl h)) (fun h => (Or.elim h (fun h => (Or.inr (Or.inl h))) (fun h => (Or.inr (Or.inr h)))))))))) (by omega) (by omega) hE)
            · skip
              replace hE := zf_ip hE c106_21
              refine mm_g 1 (pc1 := 110) (lo1 := [some (.ref 0), some (.int (Int32.ofInt a1)), some (.int (Int32.ofInt v7)), some (.int (Int32.ofInt v10)), some (.int (Int32.ofInt v11)), some (.int (Int32.ofInt v12)), o13]) (st1 := [.int (Int32.ofInt v10)]) (H1 := mz_mk g14 x) rfl ?_
              refine mz_gt (tgt := 115) rfl rfl ?_
              exact mm_rt rfl rfl (hQ _ _ hIg14 (fun k j hk => ((hfg14 k j (fun h => hk (Or.elim h (fun h => (Or.inl h)) (fun h => (Or.elim h (fun h => (Or.inr (Or.inl h))) (fun h => (Or.inr (Or.inr h)))))))).trans (hfg8 k j (fun h => hk (Or.elim h (fun h => (Or.inl h)) (fun h => (Or.elim h (fun h => (Or.inr (Or.inl h))) (fun h => (Or.inr (Or.inr h)))))))))) (by omega) (by omega) hE)
          · skip
            replace hE := zf_ip hE c55_21
            refine mm_g 3 (pc1 := 62) (lo1 := [some (.ref 0), some (.int (Int32.ofInt a1)), some (.int (Int32.ofInt v7)), some (.int (Int32.ofInt v10)), some (.int (Int32.ofInt v11)), some (.int (Int32.ofInt v12)), o13]) (st1 := [.int (Int32.ofInt v7), .int (Int32.ofInt v12), .ref 0]) (H1 := mz_mk g14 x) rfl ?_
            refine mz_cv rfl mt_11_352 (by decide) (sc_0 _) rfl (Nat.le_of_ble_eq_true rfl) (by omega) (f_X11_looseStraps (by omega) hx hIg14 (by omega) (by omega) (by omega) (by omega) (fun v22 g23 hIg23 hfg23 l_v22 u_v22 hc24 => ⟨_, rfl, ?_⟩))
            show mm_W d mmX11_loose 65 [some (.ref 0), some (.int (Int32.ofInt a1)), some (.int (Int32.ofInt v7)), some (.int (Int32.ofInt v10)), some (.int (Int32.ofInt v11)), some (.int (Int32.ofInt v12)), o13] [.int (Int32.ofInt v22)] (mz_mk g23 x) Q
            replace hE := zf_t2 hE hc24
            refine mm_g 2 (pc1 := 69) (lo1 := [some (.ref 0), some (.int (Int32.ofInt a1)), some (.int (Int32.ofInt v7)), some (.int (Int32.ofInt v10)), some (.int (Int32.ofInt v11)), some (.int (Int32.ofInt v12)), some (.int (Int32.ofInt v22))]) (st1 := [.int (Int32.ofInt v22)]) (H1 := mz_mk g23 x) rfl ?_
            refine mz_if_eq (tgt := 91) rfl rfl (mz_rg l_v22 u_v22) (fun c69_24 => ?_) (fun c69_24 => ?_)
            · skip
              replace hE := zf_ip hE c69_24
              refine mm_g 2 (pc1 := 94) (lo1 := [some (.ref 0), some (.int (Int32.ofInt a1)), some (.int (Int32.ofInt v7)), some (.int (Int32.ofInt v10)), some (.int (Int32.ofInt v11)), some (.int (Int32.ofInt v12)), some (.int (Int32.ofInt v22))]) (st1 := [.int (Int32.ofInt v22), .int (Int32.ofInt v10)]) (H1 := mz_mk g23 x) rfl ?_
              refine mz_cs rfl mt_11_358 (by decide) rfl (Nat.le_of_ble_eq_true rfl) (by omega) (f_J6_bitCount (by omega) hx hIg23 l_v22 u_v22 (fun v25 l_v25 u_v25 hc26 => ⟨_, rfl, ?_⟩))
              show mm_W d mmX11_loose 97 [some (.ref 0), some (.int (Int32.ofInt a1)), some (.int (Int32.ofInt v7)), some (.int (Int32.ofInt v10)), some (.int (Int32.ofInt v11)), some (.int (Int32.ofInt v12)), some (.int (Int32.ofInt v22))] [.int (Int32.ofInt v25), .int (Int32.ofInt v10)] (mz_mk g23 x) Q
              replace hE := zf_t1 hE hc26
              refine mz_iadd_w rfl (fun v27 e_v27 hwv27 => ?_)
              have l_v27 := hwv27.1
              have u_v27 := hwv27.2
              replace hE := zf_tr hE (zf_le e_v27.symm)
              refine mm_g 1 (pc1 := 99) (lo1 := [some (.ref 0), some (.int (Int32.ofInt a1)), some (.int (Int32.ofInt v7)), some (.int (Int32.ofInt v27)), some (.int (Int32.ofInt v11)), some (.int (Int32.ofInt v12)), some (.int (Int32.ofInt v22))]) (st1 := []) (H1 := mz_mk g23 x) rfl ?_
              refine mz_iincR (v := v12) (lo2 := [some (.ref 0), some (.int (Int32.ofInt a1)), some (.int (Int32.ofInt v7)), some (.int (Int32.ofInt v27)), some (.int (Int32.ofInt v11)), some (.int (Int32.ofInt (v12 + 1))), some (.int (Int32.ofInt v22))]) rfl rfl rfl (Nat.le_of_ble_eq_true rfl) rfl ?_
              refine mz_gt (tgt := 49) rfl rfl ?_
              exact ih15 ((6 - (v12 + 1)).toNat) (by omega) v27 v11 (v12 + 1) (some (.int (Int32.ofInt v22))) g23 rfl (by omega) (by omega) (by omega) (by omega) (by omega) (by omega) (mz_nl_i _) hIg23 (fun k j hk => ((hfg23 k j (fun h => hk (Or.elim h (fun h => (Or.inl h)) (fun h => (Or.elim h (fun h => (Or.inr (Or.inl h))) (fun h => (Or.inr (Or.inr h)))))))).trans (hfg14 k j (fun h => hk (Or.elim h (fun h => (Or.inl h)) (fun h => (Or.elim h (fun h => (Or.inr (Or.inl h))) (fun h => (Or.inr (Or.inr h)))))))))) ⟨fj18, Nat.lt_of_lt_of_le (show ((6 - (v12 + 1)).toNat) < n16 from (by omega)) fn19, hE⟩
            · skip
              replace hE := zf_in hE c69_24
              refine mm_g 2 (pc1 := 75) (lo1 := [some (.ref 0), some (.int (Int32.ofInt a1)), some (.int (Int32.ofInt v7)), some (.int (Int32.ofInt v10)), some (.int (Int32.ofInt v11)), some (.int (Int32.ofInt v12)), some (.int (Int32.ofInt v22))]) (st1 := [.int (Int32.ofInt (-1)), .int (Int32.ofInt v11)]) (H1 := mz_mk g23 x) rfl ?_
              refine mz_ic_ne (tgt := 91) rfl rfl (mz_rg l_v11 u_v11) ⟨by decide, by decide⟩ (fun c75_27 => ?_) (fun c75_27 => ?_)
              · skip
                replace hE := zf_in hE c75_27
                refine mm_g 2 (pc1 := 94) (lo1 := [some (.ref 0), some (.int (Int32.ofInt a1)), some (.int (Int32.ofInt v7)), some (.int (Int32.ofInt v10)), some (.int (Int32.ofInt v11)), some (.int (Int32.ofInt v12)), some (.int (Int32.ofInt v22))]) (st1 := [.int (Int32.ofInt v22), .int (Int32.ofInt v10)]) (H1 := mz_mk g23 x) rfl ?_
                refine mz_cs rfl mt_11_358 (by decide) rfl (Nat.le_of_ble_eq_true rfl) (by omega) (f_J6_bitCount (by omega) hx hIg23 l_v22 u_v22 (fun v28 l_v28 u_v28 hc29 => ⟨_, rfl, ?_⟩))
                show mm_W d mmX11_loose 97 [some (.ref 0), some (.int (Int32.ofInt a1)), some (.int (Int32.ofInt v7)), some (.int (Int32.ofInt v10)), some (.int (Int32.ofInt v11)), some (.int (Int32.ofInt v12)), some (.int (Int32.ofInt v22))] [.int (Int32.ofInt v28), .int (Int32.ofInt v10)] (mz_mk g23 x) Q
                replace hE := zf_t1 hE hc29
                refine mz_iadd_w rfl (fun v30 e_v30 hwv30 => ?_)
                have l_v30 := hwv30.1
                have u_v30 := hwv30.2
                replace hE := zf_tr hE (zf_le e_v30.symm)
                refine mm_g 1 (pc1 := 99) (lo1 := [some (.ref 0), some (.int (Int32.ofInt a1)), some (.int (Int32.ofInt v7)), some (.int (Int32.ofInt v30)), some (.int (Int32.ofInt v11)), some (.int (Int32.ofInt v12)), some (.int (Int32.ofInt v22))]) (st1 := []) (H1 := mz_mk g23 x) rfl ?_
                refine mz_iincR (v := v12) (lo2 := [some (.ref 0), some (.int (Int32.ofInt a1)), some (.int (Int32.ofInt v7)), some (.int (Int32.ofInt v30)), some (.int (Int32.ofInt v11)), some (.int (Int32.ofInt (v12 + 1))), some (.int (Int32.ofInt v22))]) rfl rfl rfl (Nat.le_of_ble_eq_true rfl) rfl ?_
                refine mz_gt (tgt := 49) rfl rfl ?_
                exact ih15 ((6 - (v12 + 1)).toNat) (by omega) v30 v11 (v12 + 1) (some (.int (Int32.ofInt v22))) g23 rfl (by omega) (by omega) (by omega) (by omega) (by omega) (by omega) (mz_nl_i _) hIg23 (fun k j hk => ((hfg23 k j (fun h => hk (Or.elim h (fun h => (Or.inl h)) (fun h => (Or.elim h (fun h => (Or.inr (Or.inl h))) (fun h => (Or.inr (Or.inr h)))))))).trans (hfg14 k j (fun h => hk (Or.elim h (fun h => (Or.inl h)) (fun h => (Or.elim h (fun h => (Or.inr (Or.inl h))) (fun h => (Or.inr (Or.inr h)))))))))) ⟨fj18, Nat.lt_of_lt_of_le (show ((6 - (v12 + 1)).toNat) < n16 from (by omega)) fn19, hE⟩
              · skip
                replace hE := zf_ip hE c75_27
                refine mz_bip rfl bip_10 ?_
                refine mm_g 1 (pc1 := 82) (lo1 := [some (.ref 0), some (.int (Int32.ofInt a1)), some (.int (Int32.ofInt v7)), some (.int (Int32.ofInt v10)), some (.int (Int32.ofInt v11)), some (.int (Int32.ofInt v12)), some (.int (Int32.ofInt v22))]) (st1 := [.int (Int32.ofInt v12), .int (Int32.ofInt 10)]) (H1 := mz_mk g23 x) rfl ?_
                refine mz_imul rfl ?_
                refine mm_g 1 (pc1 := 85) (lo1 := [some (.ref 0), some (.int (Int32.ofInt a1)), some (.int (Int32.ofInt v7)), some (.int (Int32.ofInt v10)), some (.int (Int32.ofInt v11)), some (.int (Int32.ofInt v12)), some (.int (Int32.ofInt v22))]) (st1 := [.int (Int32.ofInt v22), .int (Int32.ofInt (10 * v12))]) (H1 := mz_mk g23 x) rfl ?_
                refine mz_cs rfl mt_11_355 (by decide) rfl (Nat.le_of_ble_eq_true rfl) (by omega) (f_X11_lowestBit (by omega) hx hIg23 l_v22 u_v22 (fun v31 l_v31 u_v31 hc32 => ⟨_, rfl, ?_⟩))
                show mm_W d mmX11_loose 88 [some (.ref 0), some (.int (Int32.ofInt a1)), some (.int (Int32.ofInt v7)), some (.int (Int32.ofInt v10)), some (.int (Int32.ofInt v11)), some (.int (Int32.ofInt v12)), some (.int (Int32.ofInt v22))] [.int (Int32.ofInt v31), .int (Int32.ofInt (10 * v12))] (mz_mk g23 x) Q
                replace hE := zf_t1 hE hc32
                refine mz_iadd rfl ?_
                refine mm_g 3 (pc1 := 94) (lo1 := [some (.ref 0), some (.int (Int32.ofInt a1)), some (.int (Int32.ofInt v7)), some (.int (Int32.ofInt v10)), some (.int (Int32.ofInt ((10 * v12) + v31))), some (.int (Int32.ofInt v12)), some (.int (Int32.ofInt v22))]) (st1 := [.int (Int32.ofInt v22), .int (Int32.ofInt v10)]) (H1 := mz_mk g23 x) rfl ?_
                refine mz_cs rfl mt_11_358 (by decide) rfl (Nat.le_of_ble_eq_true rfl) (by omega) (f_J6_bitCount (by omega) hx hIg23 l_v22 u_v22 (fun v33 l_v33 u_v33 hc34 => ⟨_, rfl, ?_⟩))
                show mm_W d mmX11_loose 97 [some (.ref 0), some (.int (Int32.ofInt a1)), some (.int (Int32.ofInt v7)), some (.int (Int32.ofInt v10)), some (.int (Int32.ofInt ((10 * v12) + v31))), some (.int (Int32.ofInt v12)), some (.int (Int32.ofInt v22))] [.int (Int32.ofInt v33), .int (Int32.ofInt v10)] (mz_mk g23 x) Q
                replace hE := zf_t1 hE hc34
                refine mz_iadd_w rfl (fun v35 e_v35 hwv35 => ?_)
                have l_v35 := hwv35.1
                have u_v35 := hwv35.2
                replace hE := zf_tr hE (zf_le e_v35.symm)
                refine mm_g 1 (pc1 := 99) (lo1 := [some (.ref 0), some (.int (Int32.ofInt a1)), some (.int (Int32.ofInt v7)), some (.int (Int32.ofInt v35)), some (.int (Int32.ofInt ((10 * v12) + v31))), some (.int (Int32.ofInt v12)), some (.int (Int32.ofInt v22))]) (st1 := []) (H1 := mz_mk g23 x) rfl ?_
                refine mz_iincR (v := v12) (lo2 := [some (.ref 0), some (.int (Int32.ofInt a1)), some (.int (Int32.ofInt v7)), some (.int (Int32.ofInt v35)), some (.int (Int32.ofInt ((10 * v12) + v31))), some (.int (Int32.ofInt (v12 + 1))), some (.int (Int32.ofInt v22))]) rfl rfl rfl (Nat.le_of_ble_eq_true rfl) rfl ?_
                refine mz_gt (tgt := 49) rfl rfl ?_
                exact ih15 ((6 - (v12 + 1)).toNat) (by omega) v35 ((10 * v12) + v31) (v12 + 1) (some (.int (Int32.ofInt v22))) g23 rfl (by omega) (by omega) (by omega) (by omega) (by omega) (by omega) (mz_nl_i _) hIg23 (fun k j hk => ((hfg23 k j (fun h => hk (Or.elim h (fun h => (Or.inl h)) (fun h => (Or.elim h (fun h => (Or.inr (Or.inl h))) (fun h => (Or.inr (Or.inr h)))))))).trans (hfg14 k j (fun h => hk (Or.elim h (fun h => (Or.inl h)) (fun h => (Or.elim h (fun h => (Or.inr (Or.inl h))) (fun h => (Or.inr (Or.inr h)))))))))) ⟨fj18, Nat.lt_of_lt_of_le (show ((6 - (v12 + 1)).toNat) < n16 from (by omega)) fn19, hE⟩
        exact L17 _ 0 (-1) 0 none g8 rfl (by decide) (by decide) (by decide) (by decide) (by decide) (by decide) mz_nl_n hIg8 (fun _ _ _ => rfl) ⟨3000000000, by omega, hE⟩
      · skip
        replace hE := zf_ip hE c24_9
        refine mm_g 2 (pc1 := 29) (lo1 := [some (.ref 0), some (.int (Int32.ofInt a1)), some (.int (Int32.ofInt v7)), none, none, none, none]) (st1 := [.ref 0, .int (Int32.ofInt v7)]) (H1 := mz_mk g8 x) rfl ?_
        refine mz_cv rfl mt_11_349 (by decide) (sc_0 _) rfl (Nat.le_of_ble_eq_true rfl) (by omega) (f_X11_allTrunks (by omega) hx hIg8 (fun v36 l_v36 u_v36 hc37 => ⟨_, rfl, ?_⟩))
        show mm_W d mmX11_loose 32 [some (.ref 0), some (.int (Int32.ofInt a1)), some (.int (Int32.ofInt v7)), none, none, none, none] [.int (Int32.ofInt v36), .int (Int32.ofInt v7)] (mz_mk g8 x) Q
        replace hE := zf_t1 hE hc37
        refine mz_ic_ne (tgt := 39) rfl rfl (mz_rg l_v7 u_v7) (mz_rg l_v36 u_v36) (fun c32_37 => ?_) (fun c32_37 => ?_)
        · skip
          replace hE := zf_in hE c32_37
          refine mm_g 1 (pc1 := 40) (lo1 := [some (.ref 0), some (.int (Int32.ofInt a1)), some (.int (Int32.ofInt v7)), none, none, none, none]) (st1 := [.int (Int32.ofInt 0)]) (H1 := mz_mk g8 x) rfl ?_
          exact mm_rt rfl rfl (hQ _ _ hIg8 (fun k j hk => (hfg8 k j (fun h => hk (Or.elim h (fun h => (Or.inl h)) (fun h => (Or.elim h (fun h => (Or.inr (Or.inl h))) (fun h => (Or.inr (Or.inr h))))))))) (by decide) (by decide) hE)
        · skip
          replace hE := zf_ip hE c32_37
          refine mm_g 1 (pc1 := 36) (lo1 := [some (.ref 0), some (.int (Int32.ofInt a1)), some (.int (Int32.ofInt v7)), none, none, none, none]) (st1 := [.int (Int32.ofInt 1)]) (H1 := mz_mk g8 x) rfl ?_
          refine mz_gt (tgt := 40) rfl rfl ?_
          exact mm_rt rfl rfl (hQ _ _ hIg8 (fun k j hk => (hfg8 k j (fun h => hk (Or.elim h (fun h => (Or.inl h)) (fun h => (Or.elim h (fun h => (Or.inr (Or.inl h))) (fun h => (Or.inr (Or.inr h))))))))) (by decide) (by decide) hE)
def fl_X11_unlikeNumbers_22 (x : mm_X) (a1 : Int) (a2 : Int) (a3 : Int) : Nat → Nat → Prop := fun k j => k = 122 ∨ k = ((x.1 + 36) + 2) ∨ k = ((x.1 + 36) + 3)
def fw_X11_unlikeNumbers (x : mm_X) (a1 : Int) (a2 : Int) (a3 : Int) : Nat → Nat → Prop := fun k j => k = 122 ∨ k = ((x.1 + 36) + 2) ∨ k = ((x.1 + 36) + 3)
theorem f_X11_unlikeNumbers {d : Nat} (hd : 16 ≤ d) {x : mm_X} (hx : mk_x x) {g : mz_G} (hI : mz_inv g) {a1 : Int} (l_a1 : (-2147483648) ≤ a1) (u_a1 : a1 ≤ 2147483647) {a2 : Int} (l_a2 : (-2147483648) ≤ a2) (u_a2 : a2 ≤ 2147483647) {a3 : Int} (l_a3 : 0 ≤ a3) (u_a3 : a3 ≤ 1) {Q : (Option Value ⊕ Nat) → mm_H → Prop} (hQ : ∀ (r : Int) (g1 : mz_G), mz_inv g1 → mz_fr (fw_X11_unlikeNumbers x a1 a2 a3) g g1 → (-2147483648) ≤ r → r ≤ 2147483647 → zf_E (zF_X11_unlikeNumbers x a1 a2 a3 g) ((r, g1)) → Q (.inl (some (.int (Int32.ofInt r)))) (mz_mk g1 x)) : mm_C d 162 [.ref 0, .int (Int32.ofInt a1), .int (Int32.ofInt a2), .int (Int32.ofInt a3)] (mz_mk g x) Q := by
  have kx := kn_x hx
  refine ⟨mmX11_unlikeNumbers, [some (.ref 0), some (.int (Int32.ofInt a1)), some (.int (Int32.ofInt a2)), some (.int (Int32.ofInt a3)), none, none, none], rfl, rfl, ?_⟩
  have hE : zf_E (zF_X11_unlikeNumbers x a1 a2 a3 g) (zF_X11_unlikeNumbers x a1 a2 a3 g) := zf_rf
  refine mm_g 1 (pc1 := 1) (lo1 := [some (.ref 0), some (.int (Int32.ofInt a1)), some (.int (Int32.ofInt a2)), some (.int (Int32.ofInt a3)), none, none, none]) (st1 := [.ref 0]) (H1 := mz_mk g x) rfl ?_
  refine mz_fgR (v := 86) rfl fd_11_37 (by decide) (sc_0 _) (rf_0_5 _ _ _) ?_
  refine mz_fgR (v := 87) rfl fd_11_158 (by decide) (sc_86 _) (rf_86_0 _ _ _) ?_
  refine mm_g 1 (pc1 := 8) (lo1 := [some (.ref 0), some (.int (Int32.ofInt a1)), some (.int (Int32.ofInt a2)), some (.int (Int32.ofInt a3)), none, none, none]) (st1 := [.int (Int32.ofInt a1), .ref 87]) (H1 := mz_mk g x) rfl ?_
  refine mz_cv rfl mt_11_192 (by decide) (sc_87 _) rfl (Nat.le_of_ble_eq_true rfl) (by omega) (f_X9_get (by omega) hx hI kp_tks_87 l_a1 u_a1 (fun u1 k_u1 hp2 hc3 => ⟨_, rfl, ?_⟩))
  show mm_W d mmX11_unlikeNumbers 11 [some (.ref 0), some (.int (Int32.ofInt a1)), some (.int (Int32.ofInt a2)), some (.int (Int32.ofInt a3)), none, none, none] [.ref u1] (mz_mk g x) Q
  replace hE := zf_t1 hE hc3
  refine mz_gI rfl fd_11_234 (by decide) (kc_trunk k_u1 _) hI (kb_trunk_2 k_u1) (fun v4 e_v4 l_v4 u_v4 => ?_)
  replace hE := zf_tr hE (zf_le e_v4)
  refine mm_g 5 (pc1 := 22) (lo1 := [some (.ref 0), some (.int (Int32.ofInt a1)), some (.int (Int32.ofInt a2)), some (.int (Int32.ofInt a3)), some (.int (Int32.ofInt v4)), some (.int (Int32.ofInt 0)), some (.int (Int32.ofInt 0))]) (st1 := []) (H1 := mz_mk g x) rfl ?_
  have L10 : ∀ n9 : Nat, ∀ (v5 : Int) (v6 : Int) (g7 : mz_G), (10 - v6).toNat = n9 → (-2147483648) ≤ v5 → v5 ≤ 2147483647 → 0 ≤ v6 → v6 ≤ 10 → mz_inv g7 → mz_fr (fl_X11_unlikeNumbers_22 x a1 a2 a3) g g7 → (∃ fk : Nat, (10 - v6).toNat < fk ∧ zf_E (zF_X11_unlikeNumbers x a1 a2 a3 g) (zL_X11_unlikeNumbers_22 x a1 a2 a3 fk v4 v5 v6 g7)) → mm_W d mmX11_unlikeNumbers 22 [some (.ref 0), some (.int (Int32.ofInt a1)), some (.int (Int32.ofInt a2)), some (.int (Int32.ofInt a3)), some (.int (Int32.ofInt v4)), some (.int (Int32.ofInt v5)), some (.int (Int32.ofInt v6))] [] (mz_mk g7 x) Q := by
    intro n9
    induction n9 using Nat.strongRecOn with
    | ind n9 ih8 =>
    intro v5 v6 g7 hmn9 l_v5 u_v5 l_v6 u_v6 hIg7 hfg7 hF
    obtain ⟨fk, fl, hE⟩ := hF
    obtain ⟨fj11, rfl⟩ : ∃ fj, fk = fj + 1 := ⟨fk - 1, by omega⟩
    have fn12 : n9 ≤ fj11 := by omega
    replace hE := zf_tr hE zL_X11_unlikeNumbers_22_s
    refine mm_g 1 (pc1 := 24) (lo1 := [some (.ref 0), some (.int (Int32.ofInt a1)), some (.int (Int32.ofInt a2)), some (.int (Int32.ofInt a3)), some (.int (Int32.ofInt v4)), some (.int (Int32.ofInt v5)), some (.int (Int32.ofInt v6))]) (st1 := [.int (Int32.ofInt v6)]) (H1 := mz_mk g7 x) rfl ?_
    refine mz_bip rfl bip_9 ?_
    refine mz_ic_gt (tgt := 78) rfl rfl (mz_rg l_v6 u_v6) ⟨by decide, by decide⟩ (fun c26_12 => ?_) (fun c26_12 => ?_)
    · skip
      replace hE := zf_ip hE c26_12
      refine mm_g 1 (pc1 := 80) (lo1 := [some (.ref 0), some (.int (Int32.ofInt a1)), some (.int (Int32.ofInt a2)), some (.int (Int32.ofInt a3)), some (.int (Int32.ofInt v4)), some (.int (Int32.ofInt v5)), some (.int (Int32.ofInt v6))]) (st1 := [.int (Int32.ofInt v5)]) (H1 := mz_mk g7 x) rfl ?_
      exact mm_rt rfl rfl (hQ _ _ hIg7 (fun k j hk => (hfg7 k j (fun h => hk (Or.elim h (fun h => (Or.inl h)) (fun h => (Or.elim h (fun h => (Or.inr (Or.inl h))) (fun h => (Or.inr (Or.inr h))))))))) (by omega) (by omega) hE)
    · skip
      replace hE := zf_nl hE c26_12
      refine mm_g 3 (pc1 := 33) (lo1 := [some (.ref 0), some (.int (Int32.ofInt a1)), some (.int (Int32.ofInt a2)), some (.int (Int32.ofInt a3)), some (.int (Int32.ofInt v4)), some (.int (Int32.ofInt v5)), some (.int (Int32.ofInt v6))]) (st1 := [.int (Int32.ofInt v6), .int (Int32.ofInt 1), .int (Int32.ofInt a2)]) (H1 := mz_mk g7 x) rfl ?_
      refine mz_ishl rfl (fun v13 e_v13 hwv13 => ?_)
      have b_v13 : 1 ≤ v13 ∧ v13 ≤ 512 := by rw [e_v13]; exact mz_shl_b (lx := 1) (hx := 1) (k := 9) (by decide) (by decide) (by omega) (by omega) (by omega) (by omega)
      have l_v13 := b_v13.1
      have u_v13 := b_v13.2
      replace hE := zf_tr hE (zf_le e_v13.symm)
      refine mz_iand rfl (fun v14 e_v14 hwv14 => ?_)
      have b_v14 : 0 ≤ v14 ∧ v14 ≤ 512 := by rw [e_v14]; exact mz_and_r (by omega) (by omega) (mz_rg l_a2 u_a2)
      have l_v14 := b_v14.1
      have u_v14 := b_v14.2
      have w_v14 : v14 ≤ v13 := by rw [e_v14]; exact (mz_and_r (hi := v13) (by omega) (Int.le_refl _) (mz_rg l_a2 u_a2) (by omega)).2
      replace hE := zf_tr hE (zf_le e_v14.symm)
      refine mz_if_ne (tgt := 49) rfl rfl (mz_rg l_v14 u_v14) (fun c35_14 => ?_) (fun c35_14 => ?_)
      · skip
        replace hE := zf_in hE c35_14
        refine mm_g 3 (pc1 := 53) (lo1 := [some (.ref 0), some (.int (Int32.ofInt a1)), some (.int (Int32.ofInt a2)), some (.int (Int32.ofInt a3)), some (.int (Int32.ofInt v4)), some (.int (Int32.ofInt v5)), some (.int (Int32.ofInt v6))]) (st1 := [.int (Int32.ofInt v6), .int (Int32.ofInt a1), .ref 0]) (H1 := mz_mk g7 x) rfl ?_
        refine mz_bip rfl bip_6 ?_
        refine mz_cv rfl mt_11_282 (by decide) (sc_0 _) rfl (Nat.le_of_ble_eq_true rfl) (by omega) (f_X11_growProbe (by omega) hx hIg7 l_a1 u_a1 (by omega) (by omega) (by decide) (by decide) (fun g15 hIg15 hfg15 hc16 => ⟨_, rfl, ?_⟩))
        show mm_W d mmX11_unlikeNumbers 58 [some (.ref 0), some (.int (Int32.ofInt a1)), some (.int (Int32.ofInt a2)), some (.int (Int32.ofInt a3)), some (.int (Int32.ofInt v4)), some (.int (Int32.ofInt v5)), some (.int (Int32.ofInt v6))] [] (mz_mk g15 x) Q
        replace hE := zf_t1 hE hc16
        refine mm_g 3 (pc1 := 62) (lo1 := [some (.ref 0), some (.int (Int32.ofInt a1)), some (.int (Int32.ofInt a2)), some (.int (Int32.ofInt a3)), some (.int (Int32.ofInt v4)), some (.int (Int32.ofInt v5)), some (.int (Int32.ofInt v6))]) (st1 := [.ref 0, .int (Int32.ofInt 1), .int (Int32.ofInt v5)]) (H1 := mz_mk g15 x) rfl ?_
        refine mz_fgR (v := 122) rfl fd_11_65 (by decide) (sc_0 _) (rf_0_10 _ _ _) ?_
        refine mz_gI rfl fd_11_237 (by decide) (sc_122 _) hIg15 bd_122_3 (fun v17 e_v17 l_v17 u_v17 => ?_)
        replace hE := zf_tr hE (zf_le e_v17)
        refine mz_ishl rfl (fun v18 e_v18 hwv18 => ?_)
        have l_v18 := hwv18.1
        have u_v18 := hwv18.2
        replace hE := zf_tr hE (zf_le e_v18.symm)
        refine mz_ior rfl (fun v19 e_v19 hwv19 => ?_)
        have l_v19 := hwv19.1
        have u_v19 := hwv19.2
        replace hE := zf_tr hE (zf_le e_v19.symm)
        refine mm_g 1 (pc1 := 72) (lo1 := [some (.ref 0), some (.int (Int32.ofInt a1)), some (.int (Int32.ofInt a2)), some (.int (Int32.ofInt a3)), some (.int (Int32.ofInt v4)), some (.int (Int32.ofInt v19)), some (.int (Int32.ofInt v6))]) (st1 := []) (H1 := mz_mk g15 x) rfl ?_
        refine mz_iincR (v := v6) (lo2 := [some (.ref 0), some (.int (Int32.ofInt a1)), some (.int (Int32.ofInt a2)), some (.int (Int32.ofInt a3)), some (.int (Int32.ofInt v4)), some (.int (Int32.ofInt v19)), some (.int (Int32.ofInt (v6 + 1)))]) rfl rfl rfl (Nat.le_of_ble_eq_true rfl) rfl ?_
        refine mz_gt (tgt := 22) rfl rfl ?_
        exact ih8 ((10 - (v6 + 1)).toNat) (by omega) v19 (v6 + 1) g15 rfl (by omega) (by omega) (by omega) (by omega) hIg15 (fun k j hk => ((hfg15 k j (fun h => hk (Or.elim h (fun h => (Or.inl h)) (fun h => (Or.elim h (fun h => (Or.inr (Or.inl h))) (fun h => (Or.inr (Or.inr h)))))))).trans (hfg7 k j (fun h => hk (Or.elim h (fun h => (Or.inl h)) (fun h => (Or.elim h (fun h => (Or.inr (Or.inl h))) (fun h => (Or.inr (Or.inr h)))))))))) ⟨fj11, Nat.lt_of_lt_of_le (show ((10 - (v6 + 1)).toNat) < n9 from (by omega)) fn12, hE⟩
      · skip
        replace hE := zf_ip hE c35_14
        refine mm_g 1 (pc1 := 39) (lo1 := [some (.ref 0), some (.int (Int32.ofInt a1)), some (.int (Int32.ofInt a2)), some (.int (Int32.ofInt a3)), some (.int (Int32.ofInt v4)), some (.int (Int32.ofInt v5)), some (.int (Int32.ofInt v6))]) (st1 := [.int (Int32.ofInt a3)]) (H1 := mz_mk g7 x) rfl ?_
        refine mz_if_eq (tgt := 72) rfl rfl (mz_rg l_a3 u_a3) (fun c39_19 => ?_) (fun c39_19 => ?_)
        · skip
          replace hE := zf_ip hE c39_19
          refine mz_iincR (v := v6) (lo2 := [some (.ref 0), some (.int (Int32.ofInt a1)), some (.int (Int32.ofInt a2)), some (.int (Int32.ofInt a3)), some (.int (Int32.ofInt v4)), some (.int (Int32.ofInt v5)), some (.int (Int32.ofInt (v6 + 1)))]) rfl rfl rfl (Nat.le_of_ble_eq_true rfl) rfl ?_
          refine mz_gt (tgt := 22) rfl rfl ?_
          exact ih8 ((10 - (v6 + 1)).toNat) (by omega) v5 (v6 + 1) g7 rfl (by omega) (by omega) (by omega) (by omega) hIg7 (fun k j hk => (hfg7 k j (fun h => hk (Or.elim h (fun h => (Or.inl h)) (fun h => (Or.elim h (fun h => (Or.inr (Or.inl h))) (fun h => (Or.inr (Or.inr h))))))))) ⟨fj11, Nat.lt_of_lt_of_le (show ((10 - (v6 + 1)).toNat) < n9 from (by omega)) fn12, hE⟩
        · skip
          replace hE := zf_in hE c39_19
          refine mm_g 2 (pc1 := 46) (lo1 := [some (.ref 0), some (.int (Int32.ofInt a1)), some (.int (Int32.ofInt a2)), some (.int (Int32.ofInt a3)), some (.int (Int32.ofInt v4)), some (.int (Int32.ofInt v5)), some (.int (Int32.ofInt v6))]) (st1 := [.int (Int32.ofInt v4), .int (Int32.ofInt v6)]) (H1 := mz_mk g7 x) rfl ?_
          refine mz_ic_ne (tgt := 72) rfl rfl (mz_rg l_v6 u_v6) (mz_rg l_v4 u_v4) (fun c46_19 => ?_) (fun c46_19 => ?_)
          · skip
            replace hE := zf_in hE c46_19
            refine mz_iincR (v := v6) (lo2 := [some (.ref 0), some (.int (Int32.ofInt a1)), some (.int (Int32.ofInt a2)), some (.int (Int32.ofInt a3)), some (.int (Int32.ofInt v4)), some (.int (Int32.ofInt v5)), some (.int (Int32.ofInt (v6 + 1)))]) rfl rfl rfl (Nat.le_of_ble_eq_true rfl) rfl ?_
            refine mz_gt (tgt := 22) rfl rfl ?_
            exact ih8 ((10 - (v6 + 1)).toNat) (by omega) v5 (v6 + 1) g7 rfl (by omega) (by omega) (by omega) (by omega) hIg7 (fun k j hk => (hfg7 k j (fun h => hk (Or.elim h (fun h => (Or.inl h)) (fun h => (Or.elim h (fun h => (Or.inr (Or.inl h))) (fun h => (Or.inr (Or.inr h))))))))) ⟨fj11, Nat.lt_of_lt_of_le (show ((10 - (v6 + 1)).toNat) < n9 from (by omega)) fn12, hE⟩
          · skip
            replace hE := zf_ip hE c46_19
            refine mm_g 3 (pc1 := 53) (lo1 := [some (.ref 0), some (.int (Int32.ofInt a1)), some (.int (Int32.ofInt a2)), some (.int (Int32.ofInt a3)), some (.int (Int32.ofInt v4)), some (.int (Int32.ofInt v5)), some (.int (Int32.ofInt v6))]) (st1 := [.int (Int32.ofInt v6), .int (Int32.ofInt a1), .ref 0]) (H1 := mz_mk g7 x) rfl ?_
            refine mz_bip rfl bip_6 ?_
            refine mz_cv rfl mt_11_282 (by decide) (sc_0 _) rfl (Nat.le_of_ble_eq_true rfl) (by omega) (f_X11_growProbe (by omega) hx hIg7 l_a1 u_a1 (by omega) (by omega) (by decide) (by decide) (fun g20 hIg20 hfg20 hc21 => ⟨_, rfl, ?_⟩))
            show mm_W d mmX11_unlikeNumbers 58 [some (.ref 0), some (.int (Int32.ofInt a1)), some (.int (Int32.ofInt a2)), some (.int (Int32.ofInt a3)), some (.int (Int32.ofInt v4)), some (.int (Int32.ofInt v5)), some (.int (Int32.ofInt v6))] [] (mz_mk g20 x) Q
            replace hE := zf_t1 hE hc21
            refine mm_g 3 (pc1 := 62) (lo1 := [some (.ref 0), some (.int (Int32.ofInt a1)), some (.int (Int32.ofInt a2)), some (.int (Int32.ofInt a3)), some (.int (Int32.ofInt v4)), some (.int (Int32.ofInt v5)), some (.int (Int32.ofInt v6))]) (st1 := [.ref 0, .int (Int32.ofInt 1), .int (Int32.ofInt v5)]) (H1 := mz_mk g20 x) rfl ?_
            refine mz_fgR (v := 122) rfl fd_11_65 (by decide) (sc_0 _) (rf_0_10 _ _ _) ?_
            refine mz_gI rfl fd_11_237 (by decide) (sc_122 _) hIg20 bd_122_3 (fun v22 e_v22 l_v22 u_v22 => ?_)
            replace hE := zf_tr hE (zf_le e_v22)
            refine mz_ishl rfl (fun v23 e_v23 hwv23 => ?_)
            have l_v23 := hwv23.1
            have u_v23 := hwv23.2
            replace hE := zf_tr hE (zf_le e_v23.symm)
            refine mz_ior rfl (fun v24 e_v24 hwv24 => ?_)
            have l_v24 := hwv24.1
            have u_v24 := hwv24.2
            replace hE := zf_tr hE (zf_le e_v24.symm)
            refine mm_g 1 (pc1 := 72) (lo1 := [some (.ref 0), some (.int (Int32.ofInt a1)), some (.int (Int32.ofInt a2)), some (.int (Int32.ofInt a3)), some (.int (Int32.ofInt v4)), some (.int (Int32.ofInt v24)), some (.int (Int32.ofInt v6))]) (st1 := []) (H1 := mz_mk g20 x) rfl ?_
            refine mz_iincR (v := v6) (lo2 := [some (.ref 0), some (.int (Int32.ofInt a1)), some (.int (Int32.ofInt a2)), some (.int (Int32.ofInt a3)), some (.int (Int32.ofInt v4)), some (.int (Int32.ofInt v24)), some (.int (Int32.ofInt (v6 + 1)))]) rfl rfl rfl (Nat.le_of_ble_eq_true rfl) rfl ?_
            refine mz_gt (tgt := 22) rfl rfl ?_
            exact ih8 ((10 - (v6 + 1)).toNat) (by omega) v24 (v6 + 1) g20 rfl (by omega) (by omega) (by omega) (by omega) hIg20 (fun k j hk => ((hfg20 k j (fun h => hk (Or.elim h (fun h => (Or.inl h)) (fun h => (Or.elim h (fun h => (Or.inr (Or.inl h))) (fun h => (Or.inr (Or.inr h)))))))).trans (hfg7 k j (fun h => hk (Or.elim h (fun h => (Or.inl h)) (fun h => (Or.elim h (fun h => (Or.inr (Or.inl h))) (fun h => (Or.inr (Or.inr h)))))))))) ⟨fj11, Nat.lt_of_lt_of_le (show ((10 - (v6 + 1)).toNat) < n9 from (by omega)) fn12, hE⟩
  exact L10 _ 0 0 g rfl (by decide) (by decide) (by decide) (by decide) hI (fun _ _ _ => rfl) ⟨3000000000, by omega, hE⟩
def fl_X11_look_27 (x : mm_X) (a1 : Int) : Nat → Nat → Prop := fun k j => k = 122 ∨ k = ((x.1 + 36) + 2) ∨ k = ((x.1 + 36) + 3)
def fl_X11_look_64 (x : mm_X) (a1 : Int) : Nat → Nat → Prop := fun k j => k = 122 ∨ k = ((x.1 + 36) + 2) ∨ k = ((x.1 + 36) + 3)
def fw_X11_look (x : mm_X) (a1 : Int) : Nat → Nat → Prop := fun k j => k = 122 ∨ k = ((x.1 + 36) + 2) ∨ k = ((x.1 + 36) + 3)
theorem f_X11_look {d : Nat} (hd : 17 ≤ d) {x : mm_X} (hx : mk_x x) {g : mz_G} (hI : mz_inv g) {a1 : Int} (l_a1 : (-2147483648) ≤ a1) (u_a1 : a1 ≤ 2147483647) {Q : (Option Value ⊕ Nat) → mm_H → Prop} (hQ : ∀ (r : Int) (g1 : mz_G), mz_inv g1 → mz_fr (fw_X11_look x a1) g g1 → (-1) ≤ r → r ≤ 63 → zf_E (zF_X11_look x a1 g) ((0, r, g1)) → Q (.inl (some (.int (Int32.ofInt r)))) (mz_mk g1 x)) (hX0 : (zf_E (zF_X11_look x a1 g) ((1, 0, g))) → Q (.inr 0) (mz_mk g (mz_tx x))) : mm_C d 156 [.ref 0, .int (Int32.ofInt a1)] (mz_mk g x) Q := by
  have kx := kn_x hx
  refine ⟨mmX11_look, [some (.ref 0), some (.int (Int32.ofInt a1)), none, none, none, none, none, none, none, none], rfl, rfl, ?_⟩
  have hE : zf_E (zF_X11_look x a1 g) (zF_X11_look x a1 g) := zf_rf
  refine mm_g 1 (pc1 := 1) (lo1 := [some (.ref 0), some (.int (Int32.ofInt a1)), none, none, none, none, none, none, none, none]) (st1 := [.int (Int32.ofInt a1)]) (H1 := mz_mk g x) rfl ?_
  refine mz_if_eq (tgt := 9) rfl rfl (mz_rg l_a1 u_a1) (fun c1_0 => ?_) (fun c1_0 => ?_)
  · skip
    replace hE := zf_ip hE c1_0
    refine mm_g 1 (pc1 := 10) (lo1 := [some (.ref 0), some (.int (Int32.ofInt a1)), none, none, none, none, none, none, none, none]) (st1 := [.int (Int32.ofInt 1)]) (H1 := mz_mk g x) rfl ?_
    refine mz_gt (tgt := 14) rfl rfl ?_
    (try unfold zJ_X11_look_9 at hE)
    (try unfold zJ_X11_look_14 at hE)
    (try unfold zJ_X11_look_96 at hE)
    (try unfold zJ_X11_look_128 at hE)
    (try unfold zJ_X11_look_9 at hE)
    (try unfold zJ_X11_look_14 at hE)
    (try unfold zJ_X11_look_96 at hE)
    (try unfold zJ_X11_look_128 at hE)
    refine mz_csx rfl mt_11_183 rfl (Nat.le_of_ble_eq_true rfl) (by omega) rfl nh_X11_mustBe (f_X11_mustBe (by omega) hx hI (by decide) (by decide) (fun hp1 hc2 => ?_) (fun hc => hX0 (zf_x2 hE hc (by decide))))
    show mm_W d mmX11_look 17 [some (.ref 0), some (.int (Int32.ofInt a1)), none, none, none, none, none, none, none, none] [] (mz_mk g x) Q
    replace hE := zf_x1 hE hc2
    refine mm_g 1 (pc1 := 18) (lo1 := [some (.ref 0), some (.int (Int32.ofInt a1)), none, none, none, none, none, none, none, none]) (st1 := [.ref 0]) (H1 := mz_mk g x) rfl ?_
    refine mz_cv rfl mt_11_346 (by decide) (sc_0 _) rfl (Nat.le_of_ble_eq_true rfl) (by omega) (f_X11_fittingTrunks (by omega) hx hI (fun v3 g4 hIg4 hfg4 l_v3 u_v3 hc5 => ⟨_, rfl, ?_⟩))
    show mm_W d mmX11_look 21 [some (.ref 0), some (.int (Int32.ofInt a1)), none, none, none, none, none, none, none, none] [.int (Int32.ofInt v3)] (mz_mk g4 x) Q
    replace hE := zf_t2 hE hc5
    refine mm_g 5 (pc1 := 27) (lo1 := [some (.ref 0), some (.int (Int32.ofInt a1)), some (.int (Int32.ofInt v3)), some (.int (Int32.ofInt 0)), some (.int (Int32.ofInt 0)), none, none, none, none, none]) (st1 := []) (H1 := mz_mk g4 x) rfl ?_
    have L11 : ∀ n10 : Nat, ∀ (v6 : Int) (v7 : Int) (g8 : mz_G), (6 - v7).toNat = n10 → (-2147483648) ≤ v6 → v6 ≤ 2147483647 → 0 ≤ v7 → v7 ≤ 6 → mz_inv g8 → mz_fr (fl_X11_look_27 x a1) g4 g8 → (∃ fk : Nat, (6 - v7).toNat < fk ∧ zf_E (zF_X11_look x a1 g) (zL_X11_look_27 x a1 fk v3 v6 v7 g8)) → mm_W d mmX11_look 27 [some (.ref 0), some (.int (Int32.ofInt a1)), some (.int (Int32.ofInt v3)), some (.int (Int32.ofInt v6)), some (.int (Int32.ofInt v7)), none, none, none, none, none] [] (mz_mk g8 x) Q := by
      intro n10
      induction n10 using Nat.strongRecOn with
      | ind n10 ih9 =>
      intro v6 v7 g8 hmn10 l_v6 u_v6 l_v7 u_v7 hIg8 hfg8 hF
      obtain ⟨fk, fl, hE⟩ := hF
      obtain ⟨fj12, rfl⟩ : ∃ fj, fk = fj + 1 := ⟨fk - 1, by omega⟩
      have fn13 : n10 ≤ fj12 := by omega
      replace hE := zf_tr hE zL_X11_look_27_s
      refine mm_g 2 (pc1 := 30) (lo1 := [some (.ref 0), some (.int (Int32.ofInt a1)), some (.int (Int32.ofInt v3)), some (.int (Int32.ofInt v6)), some (.int (Int32.ofInt v7)), none, none, none, none, none]) (st1 := [.ref 0, .int (Int32.ofInt v7)]) (H1 := mz_mk g8 x) rfl ?_
      refine mz_cv rfl mt_11_155 (by decide) (sc_0 _) rfl (Nat.le_of_ble_eq_true rfl) (by omega) (f_X11_trunkCount (by omega) hx hIg8 (fun v14 l_v14 u_v14 hc15 => ⟨_, rfl, ?_⟩))
      show mm_W d mmX11_look 33 [some (.ref 0), some (.int (Int32.ofInt a1)), some (.int (Int32.ofInt v3)), some (.int (Int32.ofInt v6)), some (.int (Int32.ofInt v7)), none, none, none, none, none] [.int (Int32.ofInt v14), .int (Int32.ofInt v7)] (mz_mk g8 x) Q
      replace hE := zf_t1 hE hc15
      refine mz_ic_ge (tgt := 55) rfl rfl (mz_rg l_v7 u_v7) (mz_rg l_v14 u_v14) (fun c33_15 => ?_) (fun c33_15 => ?_)
      · skip
        replace hE := zf_nl hE c33_15
        refine mm_g 6 (pc1 := 64) (lo1 := [some (.ref 0), some (.int (Int32.ofInt a1)), some (.int (Int32.ofInt v3)), some (.int (Int32.ofInt v6)), some (.int (Int32.ofInt (-1))), some (.int (Int32.ofInt 0)), some (.int (Int32.ofInt 0)), none, none, none]) (st1 := []) (H1 := mz_mk g8 x) rfl ?_
        have L25 : ∀ n24 : Nat, ∀ (v16 : Int) (v17 : Int) (v18 : Int) (o19 : Option Value) (o20 : Option Value) (o21 : Option Value) (g22 : mz_G), (6 - v18).toNat = n24 → (-1) ≤ v16 → v16 ≤ 5 → 0 ≤ v17 → v17 ≤ 63 → 0 ≤ v18 → v18 ≤ 6 → mz_nl o19 → mz_nl o20 → mz_nl o21 → mz_inv g22 → mz_fr (fl_X11_look_64 x a1) g8 g22 → (∃ fk : Nat, (6 - v18).toNat < fk ∧ zf_E (zF_X11_look x a1 g) (zL_X11_look_64 x a1 fk v3 v6 v16 v17 v18 g22)) → mm_W d mmX11_look 64 [some (.ref 0), some (.int (Int32.ofInt a1)), some (.int (Int32.ofInt v3)), some (.int (Int32.ofInt v6)), some (.int (Int32.ofInt v16)), some (.int (Int32.ofInt v17)), some (.int (Int32.ofInt v18)), o19, o20, o21] [] (mz_mk g22 x) Q := by
          intro n24
          induction n24 using Nat.strongRecOn with
          | ind n24 ih23 =>
          intro v16 v17 v18 o19 o20 o21 g22 hmn24 l_v16 u_v16 l_v17 u_v17 l_v18 u_v18 h_o19 h_o20 h_o21 hIg22 hfg22 hF
          obtain ⟨fk, fl, hE⟩ := hF
          obtain ⟨fj26, rfl⟩ : ∃ fj, fk = fj + 1 := ⟨fk - 1, by omega⟩
          have fn27 : n24 ≤ fj26 := by omega
          replace hE := zf_tr hE zL_X11_look_64_s
          refine mm_g 2 (pc1 := 67) (lo1 := [some (.ref 0), some (.int (Int32.ofInt a1)), some (.int (Int32.ofInt v3)), some (.int (Int32.ofInt v6)), some (.int (Int32.ofInt v16)), some (.int (Int32.ofInt v17)), some (.int (Int32.ofInt v18)), o19, o20, o21]) (st1 := [.ref 0, .int (Int32.ofInt v18)]) (H1 := mz_mk g22 x) rfl ?_
          refine mz_cv rfl mt_11_155 (by decide) (sc_0 _) rfl (Nat.le_of_ble_eq_true rfl) (by omega) (f_X11_trunkCount (by omega) hx hIg22 (fun v28 l_v28 u_v28 hc29 => ⟨_, rfl, ?_⟩))
          show mm_W d mmX11_look 70 [some (.ref 0), some (.int (Int32.ofInt a1)), some (.int (Int32.ofInt v3)), some (.int (Int32.ofInt v6)), some (.int (Int32.ofInt v16)), some (.int (Int32.ofInt v17)), some (.int (Int32.ofInt v18)), o19, o20, o21] [.int (Int32.ofInt v28), .int (Int32.ofInt v18)] (mz_mk g22 x) Q
          replace hE := zf_t1 hE hc29
          refine mz_ic_ge (tgt := 134) rfl rfl (mz_rg l_v18 u_v18) (mz_rg l_v28 u_v28) (fun c70_29 => ?_) (fun c70_29 => ?_)
          · skip
            replace hE := zf_nl hE c70_29
            refine mm_g 1 (pc1 := 135) (lo1 := [some (.ref 0), some (.int (Int32.ofInt a1)), some (.int (Int32.ofInt v3)), some (.int (Int32.ofInt v6)), some (.int (Int32.ofInt v16)), some (.int (Int32.ofInt v17)), some (.int (Int32.ofInt v18)), o19, o20, o21]) (st1 := [.int (Int32.ofInt a1)]) (H1 := mz_mk g22 x) rfl ?_
            refine mz_if_ne (tgt := 143) rfl rfl (mz_rg l_a1 u_a1) (fun c135_29 => ?_) (fun c135_29 => ?_)
            · exfalso; omega
            · skip
              replace hE := zf_ip hE c135_29
              refine mm_g 1 (pc1 := 140) (lo1 := [some (.ref 0), some (.int (Int32.ofInt a1)), some (.int (Int32.ofInt v3)), some (.int (Int32.ofInt v6)), some (.int (Int32.ofInt v16)), some (.int (Int32.ofInt v17)), some (.int (Int32.ofInt v18)), o19, o20, o21]) (st1 := [.int (Int32.ofInt v16)]) (H1 := mz_mk g22 x) rfl ?_
              refine mz_gt (tgt := 145) rfl rfl ?_
              exact mm_rt rfl rfl (hQ _ _ hIg22 (fun k j hk => ((hfg22 k j (fun h => hk (Or.elim h (fun h => (Or.inl h)) (fun h => (Or.elim h (fun h => (Or.inr (Or.inl h))) (fun h => (Or.inr (Or.inr h)))))))).trans ((hfg8 k j (fun h => hk (Or.elim h (fun h => (Or.inl h)) (fun h => (Or.elim h (fun h => (Or.inr (Or.inl h))) (fun h => (Or.inr (Or.inr h)))))))).trans (hfg4 k j (fun h => hk (Or.elim h (fun h => (Or.inl h)) (fun h => (Or.elim h (fun h => (Or.inr (Or.inl h))) (fun h => (Or.inr (Or.inr h))))))))))) (by omega) (by omega) hE)
          · skip
            replace hE := zf_ip hE c70_29
            refine mm_g 3 (pc1 := 77) (lo1 := [some (.ref 0), some (.int (Int32.ofInt a1)), some (.int (Int32.ofInt v3)), some (.int (Int32.ofInt v6)), some (.int (Int32.ofInt v16)), some (.int (Int32.ofInt v17)), some (.int (Int32.ofInt v18)), o19, o20, o21]) (st1 := [.int (Int32.ofInt v3), .int (Int32.ofInt v18), .ref 0]) (H1 := mz_mk g22 x) rfl ?_
            refine mz_cv rfl mt_11_352 (by decide) (sc_0 _) rfl (Nat.le_of_ble_eq_true rfl) (by omega) (f_X11_looseStraps (by omega) hx hIg22 (by omega) (by omega) (by omega) (by omega) (fun v30 g31 hIg31 hfg31 l_v30 u_v30 hc32 => ⟨_, rfl, ?_⟩))
            show mm_W d mmX11_look 80 [some (.ref 0), some (.int (Int32.ofInt a1)), some (.int (Int32.ofInt v3)), some (.int (Int32.ofInt v6)), some (.int (Int32.ofInt v16)), some (.int (Int32.ofInt v17)), some (.int (Int32.ofInt v18)), o19, o20, o21] [.int (Int32.ofInt v30)] (mz_mk g31 x) Q
            replace hE := zf_t2 hE hc32
            refine mm_g 3 (pc1 := 85) (lo1 := [some (.ref 0), some (.int (Int32.ofInt a1)), some (.int (Int32.ofInt v3)), some (.int (Int32.ofInt v6)), some (.int (Int32.ofInt v16)), some (.int (Int32.ofInt v17)), some (.int (Int32.ofInt v18)), some (.int (Int32.ofInt v30)), o20, o21]) (st1 := [.int (Int32.ofInt v30), .int (Int32.ofInt v6)]) (H1 := mz_mk g31 x) rfl ?_
            refine mz_cs rfl mt_11_358 (by decide) rfl (Nat.le_of_ble_eq_true rfl) (by omega) (f_J6_bitCount (by omega) hx hIg31 l_v30 u_v30 (fun v33 l_v33 u_v33 hc34 => ⟨_, rfl, ?_⟩))
            show mm_W d mmX11_look 88 [some (.ref 0), some (.int (Int32.ofInt a1)), some (.int (Int32.ofInt v3)), some (.int (Int32.ofInt v6)), some (.int (Int32.ofInt v16)), some (.int (Int32.ofInt v17)), some (.int (Int32.ofInt v18)), some (.int (Int32.ofInt v30)), o20, o21] [.int (Int32.ofInt v33), .int (Int32.ofInt v6)] (mz_mk g31 x) Q
            replace hE := zf_t1 hE hc34
            refine mz_ic_le (tgt := 95) rfl rfl (mz_rg l_v6 u_v6) (mz_rg l_v33 u_v33) (fun c88_34 => ?_) (fun c88_34 => ?_)
            · skip
              replace hE := zf_nl hE c88_34
              refine mm_g 6 (pc1 := 105) (lo1 := [some (.ref 0), some (.int (Int32.ofInt a1)), some (.int (Int32.ofInt v3)), some (.int (Int32.ofInt v6)), some (.int (Int32.ofInt v16)), some (.int (Int32.ofInt v17)), some (.int (Int32.ofInt v18)), some (.int (Int32.ofInt v30)), some (.int (Int32.ofInt 0)), o21]) (st1 := [.int (Int32.ofInt 0), .int (Int32.ofInt v30), .int (Int32.ofInt v18), .ref 0]) (H1 := mz_mk g31 x) rfl ?_
              refine mz_cv rfl mt_11_363 (by decide) (sc_0 _) rfl (Nat.le_of_ble_eq_true rfl) (by omega) (f_X11_unlikeNumbers (by omega) hx hIg31 (by omega) (by omega) l_v30 u_v30 (by decide) (by decide) (fun v35 g36 hIg36 hfg36 l_v35 u_v35 hc37 => ⟨_, rfl, ?_⟩))
              show mm_W d mmX11_look 108 [some (.ref 0), some (.int (Int32.ofInt a1)), some (.int (Int32.ofInt v3)), some (.int (Int32.ofInt v6)), some (.int (Int32.ofInt v16)), some (.int (Int32.ofInt v17)), some (.int (Int32.ofInt v18)), some (.int (Int32.ofInt v30)), some (.int (Int32.ofInt 0)), o21] [.int (Int32.ofInt v35)] (mz_mk g36 x) Q
              replace hE := zf_t2 hE hc37
              refine mz_cs rfl mt_11_358 (by decide) rfl (Nat.le_of_ble_eq_true rfl) (by omega) (f_J6_bitCount (by omega) hx hIg36 l_v35 u_v35 (fun v38 l_v38 u_v38 hc39 => ⟨_, rfl, ?_⟩))
              show mm_W d mmX11_look 111 [some (.ref 0), some (.int (Int32.ofInt a1)), some (.int (Int32.ofInt v3)), some (.int (Int32.ofInt v6)), some (.int (Int32.ofInt v16)), some (.int (Int32.ofInt v17)), some (.int (Int32.ofInt v18)), some (.int (Int32.ofInt v30)), some (.int (Int32.ofInt 0)), o21] [.int (Int32.ofInt v38)] (mz_mk g36 x) Q
              replace hE := zf_t1 hE hc39
              refine mm_g 3 (pc1 := 117) (lo1 := [some (.ref 0), some (.int (Int32.ofInt a1)), some (.int (Int32.ofInt v3)), some (.int (Int32.ofInt v6)), some (.int (Int32.ofInt v16)), some (.int (Int32.ofInt v17)), some (.int (Int32.ofInt v18)), some (.int (Int32.ofInt v30)), some (.int (Int32.ofInt 0)), some (.int (Int32.ofInt v38))]) (st1 := [.int (Int32.ofInt v17), .int (Int32.ofInt v38)]) (H1 := mz_mk g36 x) rfl ?_
              refine mz_ic_le (tgt := 128) rfl rfl (mz_rg l_v38 u_v38) (mz_rg l_v17 u_v17) (fun c117_39 => ?_) (fun c117_39 => ?_)
              · skip
                replace hE := zf_nl hE c117_39
                refine mz_iincR (v := v18) (lo2 := [some (.ref 0), some (.int (Int32.ofInt a1)), some (.int (Int32.ofInt v3)), some (.int (Int32.ofInt v6)), some (.int (Int32.ofInt v16)), some (.int (Int32.ofInt v17)), some (.int (Int32.ofInt (v18 + 1))), some (.int (Int32.ofInt v30)), some (.int (Int32.ofInt 0)), some (.int (Int32.ofInt v38))]) rfl rfl rfl (Nat.le_of_ble_eq_true rfl) rfl ?_
                refine mz_gt (tgt := 64) rfl rfl ?_
                exact ih23 ((6 - (v18 + 1)).toNat) (by omega) v16 v17 (v18 + 1) (some (.int (Int32.ofInt v30))) (some (.int (Int32.ofInt 0))) (some (.int (Int32.ofInt v38))) g36 rfl (by omega) (by omega) (by omega) (by omega) (by omega) (by omega) (mz_nl_i _) (mz_nl_i _) (mz_nl_i _) hIg36 (fun k j hk => ((hfg36 k j (fun h => hk (Or.elim h (fun h => (Or.inl h)) (fun h => (Or.elim h (fun h => (Or.inr (Or.inl h))) (fun h => (Or.inr (Or.inr h)))))))).trans ((hfg31 k j (fun h => hk (Or.elim h (fun h => (Or.inl h)) (fun h => (Or.elim h (fun h => (Or.inr (Or.inl h))) (fun h => (Or.inr (Or.inr h)))))))).trans (hfg22 k j (fun h => hk (Or.elim h (fun h => (Or.inl h)) (fun h => (Or.elim h (fun h => (Or.inr (Or.inl h))) (fun h => (Or.inr (Or.inr h))))))))))) ⟨fj26, Nat.lt_of_lt_of_le (show ((6 - (v18 + 1)).toNat) < n24 from (by omega)) fn27, hE⟩
              · skip
                replace hE := zf_ip hE c117_39
                refine mm_g 4 (pc1 := 128) (lo1 := [some (.ref 0), some (.int (Int32.ofInt a1)), some (.int (Int32.ofInt v3)), some (.int (Int32.ofInt v6)), some (.int (Int32.ofInt v18)), some (.int (Int32.ofInt v38)), some (.int (Int32.ofInt v18)), some (.int (Int32.ofInt v30)), some (.int (Int32.ofInt 0)), some (.int (Int32.ofInt v38))]) (st1 := []) (H1 := mz_mk g36 x) rfl ?_
                refine mz_iincR (v := v18) (lo2 := [some (.ref 0), some (.int (Int32.ofInt a1)), some (.int (Int32.ofInt v3)), some (.int (Int32.ofInt v6)), some (.int (Int32.ofInt v18)), some (.int (Int32.ofInt v38)), some (.int (Int32.ofInt (v18 + 1))), some (.int (Int32.ofInt v30)), some (.int (Int32.ofInt 0)), some (.int (Int32.ofInt v38))]) rfl rfl rfl (Nat.le_of_ble_eq_true rfl) rfl ?_
                refine mz_gt (tgt := 64) rfl rfl ?_
                exact ih23 ((6 - (v18 + 1)).toNat) (by omega) v18 v38 (v18 + 1) (some (.int (Int32.ofInt v30))) (some (.int (Int32.ofInt 0))) (some (.int (Int32.ofInt v38))) g36 rfl (by omega) (by omega) (by omega) (by omega) (by omega) (by omega) (mz_nl_i _) (mz_nl_i _) (mz_nl_i _) hIg36 (fun k j hk => ((hfg36 k j (fun h => hk (Or.elim h (fun h => (Or.inl h)) (fun h => (Or.elim h (fun h => (Or.inr (Or.inl h))) (fun h => (Or.inr (Or.inr h)))))))).trans ((hfg31 k j (fun h => hk (Or.elim h (fun h => (Or.inl h)) (fun h => (Or.elim h (fun h => (Or.inr (Or.inl h))) (fun h => (Or.inr (Or.inr h)))))))).trans (hfg22 k j (fun h => hk (Or.elim h (fun h => (Or.inl h)) (fun h => (Or.elim h (fun h => (Or.inr (Or.inl h))) (fun h => (Or.inr (Or.inr h))))))))))) ⟨fj26, Nat.lt_of_lt_of_le (show ((6 - (v18 + 1)).toNat) < n24 from (by omega)) fn27, hE⟩
            · skip
              replace hE := zf_ip hE c88_34
              refine mm_g 1 (pc1 := 92) (lo1 := [some (.ref 0), some (.int (Int32.ofInt a1)), some (.int (Int32.ofInt v3)), some (.int (Int32.ofInt v6)), some (.int (Int32.ofInt v16)), some (.int (Int32.ofInt v17)), some (.int (Int32.ofInt v18)), some (.int (Int32.ofInt v30)), o20, o21]) (st1 := [.int (Int32.ofInt 1)]) (H1 := mz_mk g31 x) rfl ?_
              refine mz_gt (tgt := 96) rfl rfl ?_
              refine mm_g 5 (pc1 := 105) (lo1 := [some (.ref 0), some (.int (Int32.ofInt a1)), some (.int (Int32.ofInt v3)), some (.int (Int32.ofInt v6)), some (.int (Int32.ofInt v16)), some (.int (Int32.ofInt v17)), some (.int (Int32.ofInt v18)), some (.int (Int32.ofInt v30)), some (.int (Int32.ofInt 1)), o21]) (st1 := [.int (Int32.ofInt 1), .int (Int32.ofInt v30), .int (Int32.ofInt v18), .ref 0]) (H1 := mz_mk g31 x) rfl ?_
              refine mz_cv rfl mt_11_363 (by decide) (sc_0 _) rfl (Nat.le_of_ble_eq_true rfl) (by omega) (f_X11_unlikeNumbers (by omega) hx hIg31 (by omega) (by omega) l_v30 u_v30 (by decide) (by decide) (fun v40 g41 hIg41 hfg41 l_v40 u_v40 hc42 => ⟨_, rfl, ?_⟩))
              show mm_W d mmX11_look 108 [some (.ref 0), some (.int (Int32.ofInt a1)), some (.int (Int32.ofInt v3)), some (.int (Int32.ofInt v6)), some (.int (Int32.ofInt v16)), some (.int (Int32.ofInt v17)), some (.int (Int32.ofInt v18)), some (.int (Int32.ofInt v30)), some (.int (Int32.ofInt 1)), o21] [.int (Int32.ofInt v40)] (mz_mk g41 x) Q
              replace hE := zf_t2 hE hc42
              refine mz_cs rfl mt_11_358 (by decide) rfl (Nat.le_of_ble_eq_true rfl) (by omega) (f_J6_bitCount (by omega) hx hIg41 l_v40 u_v40 (fun v43 l_v43 u_v43 hc44 => ⟨_, rfl, ?_⟩))
              show mm_W d mmX11_look 111 [some (.ref 0), some (.int (Int32.ofInt a1)), some (.int (Int32.ofInt v3)), some (.int (Int32.ofInt v6)), some (.int (Int32.ofInt v16)), some (.int (Int32.ofInt v17)), some (.int (Int32.ofInt v18)), some (.int (Int32.ofInt v30)), some (.int (Int32.ofInt 1)), o21] [.int (Int32.ofInt v43)] (mz_mk g41 x) Q
              replace hE := zf_t1 hE hc44
              refine mm_g 3 (pc1 := 117) (lo1 := [some (.ref 0), some (.int (Int32.ofInt a1)), some (.int (Int32.ofInt v3)), some (.int (Int32.ofInt v6)), some (.int (Int32.ofInt v16)), some (.int (Int32.ofInt v17)), some (.int (Int32.ofInt v18)), some (.int (Int32.ofInt v30)), some (.int (Int32.ofInt 1)), some (.int (Int32.ofInt v43))]) (st1 := [.int (Int32.ofInt v17), .int (Int32.ofInt v43)]) (H1 := mz_mk g41 x) rfl ?_
              refine mz_ic_le (tgt := 128) rfl rfl (mz_rg l_v43 u_v43) (mz_rg l_v17 u_v17) (fun c117_44 => ?_) (fun c117_44 => ?_)
              · skip
                replace hE := zf_nl hE c117_44
                refine mz_iincR (v := v18) (lo2 := [some (.ref 0), some (.int (Int32.ofInt a1)), some (.int (Int32.ofInt v3)), some (.int (Int32.ofInt v6)), some (.int (Int32.ofInt v16)), some (.int (Int32.ofInt v17)), some (.int (Int32.ofInt (v18 + 1))), some (.int (Int32.ofInt v30)), some (.int (Int32.ofInt 1)), some (.int (Int32.ofInt v43))]) rfl rfl rfl (Nat.le_of_ble_eq_true rfl) rfl ?_
                refine mz_gt (tgt := 64) rfl rfl ?_
                exact ih23 ((6 - (v18 + 1)).toNat) (by omega) v16 v17 (v18 + 1) (some (.int (Int32.ofInt v30))) (some (.int (Int32.ofInt 1))) (some (.int (Int32.ofInt v43))) g41 rfl (by omega) (by omega) (by omega) (by omega) (by omega) (by omega) (mz_nl_i _) (mz_nl_i _) (mz_nl_i _) hIg41 (fun k j hk => ((hfg41 k j (fun h => hk (Or.elim h (fun h => (Or.inl h)) (fun h => (Or.elim h (fun h => (Or.inr (Or.inl h))) (fun h => (Or.inr (Or.inr h)))))))).trans ((hfg31 k j (fun h => hk (Or.elim h (fun h => (Or.inl h)) (fun h => (Or.elim h (fun h => (Or.inr (Or.inl h))) (fun h => (Or.inr (Or.inr h)))))))).trans (hfg22 k j (fun h => hk (Or.elim h (fun h => (Or.inl h)) (fun h => (Or.elim h (fun h => (Or.inr (Or.inl h))) (fun h => (Or.inr (Or.inr h))))))))))) ⟨fj26, Nat.lt_of_lt_of_le (show ((6 - (v18 + 1)).toNat) < n24 from (by omega)) fn27, hE⟩
              · skip
                replace hE := zf_ip hE c117_44
                refine mm_g 4 (pc1 := 128) (lo1 := [some (.ref 0), some (.int (Int32.ofInt a1)), some (.int (Int32.ofInt v3)), some (.int (Int32.ofInt v6)), some (.int (Int32.ofInt v18)), some (.int (Int32.ofInt v43)), some (.int (Int32.ofInt v18)), some (.int (Int32.ofInt v30)), some (.int (Int32.ofInt 1)), some (.int (Int32.ofInt v43))]) (st1 := []) (H1 := mz_mk g41 x) rfl ?_
                refine mz_iincR (v := v18) (lo2 := [some (.ref 0), some (.int (Int32.ofInt a1)), some (.int (Int32.ofInt v3)), some (.int (Int32.ofInt v6)), some (.int (Int32.ofInt v18)), some (.int (Int32.ofInt v43)), some (.int (Int32.ofInt (v18 + 1))), some (.int (Int32.ofInt v30)), some (.int (Int32.ofInt 1)), some (.int (Int32.ofInt v43))]) rfl rfl rfl (Nat.le_of_ble_eq_true rfl) rfl ?_
                refine mz_gt (tgt := 64) rfl rfl ?_
                exact ih23 ((6 - (v18 + 1)).toNat) (by omega) v18 v43 (v18 + 1) (some (.int (Int32.ofInt v30))) (some (.int (Int32.ofInt 1))) (some (.int (Int32.ofInt v43))) g41 rfl (by omega) (by omega) (by omega) (by omega) (by omega) (by omega) (mz_nl_i _) (mz_nl_i _) (mz_nl_i _) hIg41 (fun k j hk => ((hfg41 k j (fun h => hk (Or.elim h (fun h => (Or.inl h)) (fun h => (Or.elim h (fun h => (Or.inr (Or.inl h))) (fun h => (Or.inr (Or.inr h)))))))).trans ((hfg31 k j (fun h => hk (Or.elim h (fun h => (Or.inl h)) (fun h => (Or.elim h (fun h => (Or.inr (Or.inl h))) (fun h => (Or.inr (Or.inr h)))))))).trans (hfg22 k j (fun h => hk (Or.elim h (fun h => (Or.inl h)) (fun h => (Or.elim h (fun h => (Or.inr (Or.inl h))) (fun h => (Or.inr (Or.inr h))))))))))) ⟨fj26, Nat.lt_of_lt_of_le (show ((6 - (v18 + 1)).toNat) < n24 from (by omega)) fn27, hE⟩
        exact L25 _ (-1) 0 0 none none none g8 rfl (by decide) (by decide) (by decide) (by decide) (by decide) (by decide) mz_nl_n mz_nl_n mz_nl_n hIg8 (fun _ _ _ => rfl) ⟨3000000000, by omega, hE⟩
      · skip
        replace hE := zf_ip hE c33_15
        refine mm_g 4 (pc1 := 41) (lo1 := [some (.ref 0), some (.int (Int32.ofInt a1)), some (.int (Int32.ofInt v3)), some (.int (Int32.ofInt v6)), some (.int (Int32.ofInt v7)), none, none, none, none, none]) (st1 := [.int (Int32.ofInt v3), .int (Int32.ofInt v7), .ref 0, .int (Int32.ofInt v6)]) (H1 := mz_mk g8 x) rfl ?_
        refine mz_cv rfl mt_11_352 (by decide) (sc_0 _) rfl (Nat.le_of_ble_eq_true rfl) (by omega) (f_X11_looseStraps (by omega) hx hIg8 (by omega) (by omega) (by omega) (by omega) (fun v45 g46 hIg46 hfg46 l_v45 u_v45 hc47 => ⟨_, rfl, ?_⟩))
        show mm_W d mmX11_look 44 [some (.ref 0), some (.int (Int32.ofInt a1)), some (.int (Int32.ofInt v3)), some (.int (Int32.ofInt v6)), some (.int (Int32.ofInt v7)), none, none, none, none, none] [.int (Int32.ofInt v45), .int (Int32.ofInt v6)] (mz_mk g46 x) Q
        replace hE := zf_t2 hE hc47
        refine mz_cs rfl mt_11_358 (by decide) rfl (Nat.le_of_ble_eq_true rfl) (by omega) (f_J6_bitCount (by omega) hx hIg46 l_v45 u_v45 (fun v48 l_v48 u_v48 hc49 => ⟨_, rfl, ?_⟩))
        show mm_W d mmX11_look 47 [some (.ref 0), some (.int (Int32.ofInt a1)), some (.int (Int32.ofInt v3)), some (.int (Int32.ofInt v6)), some (.int (Int32.ofInt v7)), none, none, none, none, none] [.int (Int32.ofInt v48), .int (Int32.ofInt v6)] (mz_mk g46 x) Q
        replace hE := zf_t1 hE hc49
        refine mz_iadd_w rfl (fun v50 e_v50 hwv50 => ?_)
        have l_v50 := hwv50.1
        have u_v50 := hwv50.2
        replace hE := zf_tr hE (zf_le e_v50.symm)
        refine mm_g 1 (pc1 := 49) (lo1 := [some (.ref 0), some (.int (Int32.ofInt a1)), some (.int (Int32.ofInt v3)), some (.int (Int32.ofInt v50)), some (.int (Int32.ofInt v7)), none, none, none, none, none]) (st1 := []) (H1 := mz_mk g46 x) rfl ?_
        refine mz_iincR (v := v7) (lo2 := [some (.ref 0), some (.int (Int32.ofInt a1)), some (.int (Int32.ofInt v3)), some (.int (Int32.ofInt v50)), some (.int (Int32.ofInt (v7 + 1))), none, none, none, none, none]) rfl rfl rfl (Nat.le_of_ble_eq_true rfl) rfl ?_
        refine mz_gt (tgt := 27) rfl rfl ?_
        exact ih9 ((6 - (v7 + 1)).toNat) (by omega) v50 (v7 + 1) g46 rfl (by omega) (by omega) (by omega) (by omega) hIg46 (fun k j hk => ((hfg46 k j (fun h => hk (Or.elim h (fun h => (Or.inl h)) (fun h => (Or.elim h (fun h => (Or.inr (Or.inl h))) (fun h => (Or.inr (Or.inr h)))))))).trans (hfg8 k j (fun h => hk (Or.elim h (fun h => (Or.inl h)) (fun h => (Or.elim h (fun h => (Or.inr (Or.inl h))) (fun h => (Or.inr (Or.inr h)))))))))) ⟨fj12, Nat.lt_of_lt_of_le (show ((6 - (v7 + 1)).toNat) < n10 from (by omega)) fn13, hE⟩
    exact L11 _ 0 0 g4 rfl (by decide) (by decide) (by decide) (by decide) hIg4 (fun _ _ _ => rfl) ⟨3000000000, by omega, hE⟩
  · skip
    replace hE := zf_in hE c1_0
    refine mm_g 2 (pc1 := 6) (lo1 := [some (.ref 0), some (.int (Int32.ofInt a1)), none, none, none, none, none, none, none, none]) (st1 := [.int (Int32.ofInt 1), .int (Int32.ofInt a1)]) (H1 := mz_mk g x) rfl ?_
    refine mz_ic_ne (tgt := 13) rfl rfl (mz_rg l_a1 u_a1) ⟨by decide, by decide⟩ (fun c6_50 => ?_) (fun c6_50 => ?_)
    · skip
      replace hE := zf_in hE c6_50
      refine mm_g 1 (pc1 := 14) (lo1 := [some (.ref 0), some (.int (Int32.ofInt a1)), none, none, none, none, none, none, none, none]) (st1 := [.int (Int32.ofInt 0)]) (H1 := mz_mk g x) rfl ?_
      (try unfold zJ_X11_look_9 at hE)
      (try unfold zJ_X11_look_14 at hE)
      (try unfold zJ_X11_look_96 at hE)
      (try unfold zJ_X11_look_128 at hE)
      (try unfold zJ_X11_look_9 at hE)
      (try unfold zJ_X11_look_14 at hE)
      (try unfold zJ_X11_look_96 at hE)
      (try unfold zJ_X11_look_128 at hE)
      refine mz_csx rfl mt_11_183 rfl (Nat.le_of_ble_eq_true rfl) (by omega) rfl nh_X11_mustBe (f_X11_mustBe (by omega) hx hI (by decide) (by decide) (fun hp51 hc52 => ?_) (fun hc => hX0 (zf_x2 hE hc (by decide))))
      show mm_W d mmX11_look 17 [some (.ref 0), some (.int (Int32.ofInt a1)), none, none, none, none, none, none, none, none] [] (mz_mk g x) Q
      replace hE := zf_x1 hE hc52
      exfalso; omega
    · skip
      replace hE := zf_ip hE c6_50
      refine mm_g 1 (pc1 := 10) (lo1 := [some (.ref 0), some (.int (Int32.ofInt a1)), none, none, none, none, none, none, none, none]) (st1 := [.int (Int32.ofInt 1)]) (H1 := mz_mk g x) rfl ?_
      refine mz_gt (tgt := 14) rfl rfl ?_
      (try unfold zJ_X11_look_9 at hE)
      (try unfold zJ_X11_look_14 at hE)
      (try unfold zJ_X11_look_96 at hE)
      (try unfold zJ_X11_look_128 at hE)
      (try unfold zJ_X11_look_9 at hE)
      (try unfold zJ_X11_look_14 at hE)
      (try unfold zJ_X11_look_96 at hE)
      (try unfold zJ_X11_look_128 at hE)
      refine mz_csx rfl mt_11_183 rfl (Nat.le_of_ble_eq_true rfl) (by omega) rfl nh_X11_mustBe (f_X11_mustBe (by omega) hx hI (by decide) (by decide) (fun hp53 hc54 => ?_) (fun hc => hX0 (zf_x2 hE hc (by decide))))
      show mm_W d mmX11_look 17 [some (.ref 0), some (.int (Int32.ofInt a1)), none, none, none, none, none, none, none, none] [] (mz_mk g x) Q
      replace hE := zf_x1 hE hc54
      refine mm_g 1 (pc1 := 18) (lo1 := [some (.ref 0), some (.int (Int32.ofInt a1)), none, none, none, none, none, none, none, none]) (st1 := [.ref 0]) (H1 := mz_mk g x) rfl ?_
      refine mz_cv rfl mt_11_346 (by decide) (sc_0 _) rfl (Nat.le_of_ble_eq_true rfl) (by omega) (f_X11_fittingTrunks (by omega) hx hI (fun v55 g56 hIg56 hfg56 l_v55 u_v55 hc57 => ⟨_, rfl, ?_⟩))
      show mm_W d mmX11_look 21 [some (.ref 0), some (.int (Int32.ofInt a1)), none, none, none, none, none, none, none, none] [.int (Int32.ofInt v55)] (mz_mk g56 x) Q
      replace hE := zf_t2 hE hc57
      refine mm_g 5 (pc1 := 27) (lo1 := [some (.ref 0), some (.int (Int32.ofInt a1)), some (.int (Int32.ofInt v55)), some (.int (Int32.ofInt 0)), some (.int (Int32.ofInt 0)), none, none, none, none, none]) (st1 := []) (H1 := mz_mk g56 x) rfl ?_
      have L63 : ∀ n62 : Nat, ∀ (v58 : Int) (v59 : Int) (g60 : mz_G), (6 - v59).toNat = n62 → (-2147483648) ≤ v58 → v58 ≤ 2147483647 → 0 ≤ v59 → v59 ≤ 6 → mz_inv g60 → mz_fr (fl_X11_look_27 x a1) g56 g60 → (∃ fk : Nat, (6 - v59).toNat < fk ∧ zf_E (zF_X11_look x a1 g) (zL_X11_look_27 x a1 fk v55 v58 v59 g60)) → mm_W d mmX11_look 27 [some (.ref 0), some (.int (Int32.ofInt a1)), some (.int (Int32.ofInt v55)), some (.int (Int32.ofInt v58)), some (.int (Int32.ofInt v59)), none, none, none, none, none] [] (mz_mk g60 x) Q := by
        intro n62
        induction n62 using Nat.strongRecOn with
        | ind n62 ih61 =>
        intro v58 v59 g60 hmn62 l_v58 u_v58 l_v59 u_v59 hIg60 hfg60 hF
        obtain ⟨fk, fl, hE⟩ := hF
        obtain ⟨fj64, rfl⟩ : ∃ fj, fk = fj + 1 := ⟨fk - 1, by omega⟩
        have fn65 : n62 ≤ fj64 := by omega
        replace hE := zf_tr hE zL_X11_look_27_s
        refine mm_g 2 (pc1 := 30) (lo1 := [some (.ref 0), some (.int (Int32.ofInt a1)), some (.int (Int32.ofInt v55)), some (.int (Int32.ofInt v58)), some (.int (Int32.ofInt v59)), none, none, none, none, none]) (st1 := [.ref 0, .int (Int32.ofInt v59)]) (H1 := mz_mk g60 x) rfl ?_
        refine mz_cv rfl mt_11_155 (by decide) (sc_0 _) rfl (Nat.le_of_ble_eq_true rfl) (by omega) (f_X11_trunkCount (by omega) hx hIg60 (fun v66 l_v66 u_v66 hc67 => ⟨_, rfl, ?_⟩))
        show mm_W d mmX11_look 33 [some (.ref 0), some (.int (Int32.ofInt a1)), some (.int (Int32.ofInt v55)), some (.int (Int32.ofInt v58)), some (.int (Int32.ofInt v59)), none, none, none, none, none] [.int (Int32.ofInt v66), .int (Int32.ofInt v59)] (mz_mk g60 x) Q
        replace hE := zf_t1 hE hc67
        refine mz_ic_ge (tgt := 55) rfl rfl (mz_rg l_v59 u_v59) (mz_rg l_v66 u_v66) (fun c33_67 => ?_) (fun c33_67 => ?_)
        · skip
          replace hE := zf_nl hE c33_67
          refine mm_g 6 (pc1 := 64) (lo1 := [some (.ref 0), some (.int (Int32.ofInt a1)), some (.int (Int32.ofInt v55)), some (.int (Int32.ofInt v58)), some (.int (Int32.ofInt (-1))), some (.int (Int32.ofInt 0)), some (.int (Int32.ofInt 0)), none, none, none]) (st1 := []) (H1 := mz_mk g60 x) rfl ?_
          have L77 : ∀ n76 : Nat, ∀ (v68 : Int) (v69 : Int) (v70 : Int) (o71 : Option Value) (o72 : Option Value) (o73 : Option Value) (g74 : mz_G), (6 - v70).toNat = n76 → (-1) ≤ v68 → v68 ≤ 5 → 0 ≤ v69 → v69 ≤ 63 → 0 ≤ v70 → v70 ≤ 6 → mz_nl o71 → mz_nl o72 → mz_nl o73 → mz_inv g74 → mz_fr (fl_X11_look_64 x a1) g60 g74 → (∃ fk : Nat, (6 - v70).toNat < fk ∧ zf_E (zF_X11_look x a1 g) (zL_X11_look_64 x a1 fk v55 v58 v68 v69 v70 g74)) → mm_W d mmX11_look 64 [some (.ref 0), some (.int (Int32.ofInt a1)), some (.int (Int32.ofInt v55)), some (.int (Int32.ofInt v58)), some (.int (Int32.ofInt v68)), some (.int (Int32.ofInt v69)), some (.int (Int32.ofInt v70)), o71, o72, o73] [] (mz_mk g74 x) Q := by
            intro n76
            induction n76 using Nat.strongRecOn with
            | ind n76 ih75 =>
            intro v68 v69 v70 o71 o72 o73 g74 hmn76 l_v68 u_v68 l_v69 u_v69 l_v70 u_v70 h_o71 h_o72 h_o73 hIg74 hfg74 hF
            obtain ⟨fk, fl, hE⟩ := hF
            obtain ⟨fj78, rfl⟩ : ∃ fj, fk = fj + 1 := ⟨fk - 1, by omega⟩
            have fn79 : n76 ≤ fj78 := by omega
            replace hE := zf_tr hE zL_X11_look_64_s
            refine mm_g 2 (pc1 := 67) (lo1 := [some (.ref 0), some (.int (Int32.ofInt a1)), some (.int (Int32.ofInt v55)), some (.int (Int32.ofInt v58)), some (.int (Int32.ofInt v68)), some (.int (Int32.ofInt v69)), some (.int (Int32.ofInt v70)), o71, o72, o73]) (st1 := [.ref 0, .int (Int32.ofInt v70)]) (H1 := mz_mk g74 x) rfl ?_
            refine mz_cv rfl mt_11_155 (by decide) (sc_0 _) rfl (Nat.le_of_ble_eq_true rfl) (by omega) (f_X11_trunkCount (by omega) hx hIg74 (fun v80 l_v80 u_v80 hc81 => ⟨_, rfl, ?_⟩))
            show mm_W d mmX11_look 70 [some (.ref 0), some (.int (Int32.ofInt a1)), some (.int (Int32.ofInt v55)), some (.int (Int32.ofInt v58)), some (.int (Int32.ofInt v68)), some (.int (Int32.ofInt v69)), some (.int (Int32.ofInt v70)), o71, o72, o73] [.int (Int32.ofInt v80), .int (Int32.ofInt v70)] (mz_mk g74 x) Q
            replace hE := zf_t1 hE hc81
            refine mz_ic_ge (tgt := 134) rfl rfl (mz_rg l_v70 u_v70) (mz_rg l_v80 u_v80) (fun c70_81 => ?_) (fun c70_81 => ?_)
            · skip
              replace hE := zf_nl hE c70_81
              refine mm_g 1 (pc1 := 135) (lo1 := [some (.ref 0), some (.int (Int32.ofInt a1)), some (.int (Int32.ofInt v55)), some (.int (Int32.ofInt v58)), some (.int (Int32.ofInt v68)), some (.int (Int32.ofInt v69)), some (.int (Int32.ofInt v70)), o71, o72, o73]) (st1 := [.int (Int32.ofInt a1)]) (H1 := mz_mk g74 x) rfl ?_
              refine mz_if_ne (tgt := 143) rfl rfl (mz_rg l_a1 u_a1) (fun c135_81 => ?_) (fun c135_81 => ?_)
              · skip
                replace hE := zf_in hE c135_81
                refine mm_g 1 (pc1 := 145) (lo1 := [some (.ref 0), some (.int (Int32.ofInt a1)), some (.int (Int32.ofInt v55)), some (.int (Int32.ofInt v58)), some (.int (Int32.ofInt v68)), some (.int (Int32.ofInt v69)), some (.int (Int32.ofInt v70)), o71, o72, o73]) (st1 := [.int (Int32.ofInt v69)]) (H1 := mz_mk g74 x) rfl ?_
                exact mm_rt rfl rfl (hQ _ _ hIg74 (fun k j hk => ((hfg74 k j (fun h => hk (Or.elim h (fun h => (Or.inl h)) (fun h => (Or.elim h (fun h => (Or.inr (Or.inl h))) (fun h => (Or.inr (Or.inr h)))))))).trans ((hfg60 k j (fun h => hk (Or.elim h (fun h => (Or.inl h)) (fun h => (Or.elim h (fun h => (Or.inr (Or.inl h))) (fun h => (Or.inr (Or.inr h)))))))).trans (hfg56 k j (fun h => hk (Or.elim h (fun h => (Or.inl h)) (fun h => (Or.elim h (fun h => (Or.inr (Or.inl h))) (fun h => (Or.inr (Or.inr h))))))))))) (by omega) (by omega) hE)
              · exfalso; omega
            · skip
              replace hE := zf_ip hE c70_81
              refine mm_g 3 (pc1 := 77) (lo1 := [some (.ref 0), some (.int (Int32.ofInt a1)), some (.int (Int32.ofInt v55)), some (.int (Int32.ofInt v58)), some (.int (Int32.ofInt v68)), some (.int (Int32.ofInt v69)), some (.int (Int32.ofInt v70)), o71, o72, o73]) (st1 := [.int (Int32.ofInt v55), .int (Int32.ofInt v70), .ref 0]) (H1 := mz_mk g74 x) rfl ?_
              refine mz_cv rfl mt_11_352 (by decide) (sc_0 _) rfl (Nat.le_of_ble_eq_true rfl) (by omega) (f_X11_looseStraps (by omega) hx hIg74 (by omega) (by omega) (by omega) (by omega) (fun v82 g83 hIg83 hfg83 l_v82 u_v82 hc84 => ⟨_, rfl, ?_⟩))
              show mm_W d mmX11_look 80 [some (.ref 0), some (.int (Int32.ofInt a1)), some (.int (Int32.ofInt v55)), some (.int (Int32.ofInt v58)), some (.int (Int32.ofInt v68)), some (.int (Int32.ofInt v69)), some (.int (Int32.ofInt v70)), o71, o72, o73] [.int (Int32.ofInt v82)] (mz_mk g83 x) Q
              replace hE := zf_t2 hE hc84
              refine mm_g 3 (pc1 := 85) (lo1 := [some (.ref 0), some (.int (Int32.ofInt a1)), some (.int (Int32.ofInt v55)), some (.int (Int32.ofInt v58)), some (.int (Int32.ofInt v68)), some (.int (Int32.ofInt v69)), some (.int (Int32.ofInt v70)), some (.int (Int32.ofInt v82)), o72, o73]) (st1 := [.int (Int32.ofInt v82), .int (Int32.ofInt v58)]) (H1 := mz_mk g83 x) rfl ?_
              refine mz_cs rfl mt_11_358 (by decide) rfl (Nat.le_of_ble_eq_true rfl) (by omega) (f_J6_bitCount (by omega) hx hIg83 l_v82 u_v82 (fun v85 l_v85 u_v85 hc86 => ⟨_, rfl, ?_⟩))
              show mm_W d mmX11_look 88 [some (.ref 0), some (.int (Int32.ofInt a1)), some (.int (Int32.ofInt v55)), some (.int (Int32.ofInt v58)), some (.int (Int32.ofInt v68)), some (.int (Int32.ofInt v69)), some (.int (Int32.ofInt v70)), some (.int (Int32.ofInt v82)), o72, o73] [.int (Int32.ofInt v85), .int (Int32.ofInt v58)] (mz_mk g83 x) Q
              replace hE := zf_t1 hE hc86
              refine mz_ic_le (tgt := 95) rfl rfl (mz_rg l_v58 u_v58) (mz_rg l_v85 u_v85) (fun c88_86 => ?_) (fun c88_86 => ?_)
              · skip
                replace hE := zf_nl hE c88_86
                refine mm_g 6 (pc1 := 105) (lo1 := [some (.ref 0), some (.int (Int32.ofInt a1)), some (.int (Int32.ofInt v55)), some (.int (Int32.ofInt v58)), some (.int (Int32.ofInt v68)), some (.int (Int32.ofInt v69)), some (.int (Int32.ofInt v70)), some (.int (Int32.ofInt v82)), some (.int (Int32.ofInt 0)), o73]) (st1 := [.int (Int32.ofInt 0), .int (Int32.ofInt v82), .int (Int32.ofInt v70), .ref 0]) (H1 := mz_mk g83 x) rfl ?_
                refine mz_cv rfl mt_11_363 (by decide) (sc_0 _) rfl (Nat.le_of_ble_eq_true rfl) (by omega) (f_X11_unlikeNumbers (by omega) hx hIg83 (by omega) (by omega) l_v82 u_v82 (by decide) (by decide) (fun v87 g88 hIg88 hfg88 l_v87 u_v87 hc89 => ⟨_, rfl, ?_⟩))
                show mm_W d mmX11_look 108 [some (.ref 0), some (.int (Int32.ofInt a1)), some (.int (Int32.ofInt v55)), some (.int (Int32.ofInt v58)), some (.int (Int32.ofInt v68)), some (.int (Int32.ofInt v69)), some (.int (Int32.ofInt v70)), some (.int (Int32.ofInt v82)), some (.int (Int32.ofInt 0)), o73] [.int (Int32.ofInt v87)] (mz_mk g88 x) Q
                replace hE := zf_t2 hE hc89
                refine mz_cs rfl mt_11_358 (by decide) rfl (Nat.le_of_ble_eq_true rfl) (by omega) (f_J6_bitCount (by omega) hx hIg88 l_v87 u_v87 (fun v90 l_v90 u_v90 hc91 => ⟨_, rfl, ?_⟩))
                show mm_W d mmX11_look 111 [some (.ref 0), some (.int (Int32.ofInt a1)), some (.int (Int32.ofInt v55)), some (.int (Int32.ofInt v58)), some (.int (Int32.ofInt v68)), some (.int (Int32.ofInt v69)), some (.int (Int32.ofInt v70)), some (.int (Int32.ofInt v82)), some (.int (Int32.ofInt 0)), o73] [.int (Int32.ofInt v90)] (mz_mk g88 x) Q
                replace hE := zf_t1 hE hc91
                refine mm_g 3 (pc1 := 117) (lo1 := [some (.ref 0), some (.int (Int32.ofInt a1)), some (.int (Int32.ofInt v55)), some (.int (Int32.ofInt v58)), some (.int (Int32.ofInt v68)), some (.int (Int32.ofInt v69)), some (.int (Int32.ofInt v70)), some (.int (Int32.ofInt v82)), some (.int (Int32.ofInt 0)), some (.int (Int32.ofInt v90))]) (st1 := [.int (Int32.ofInt v69), .int (Int32.ofInt v90)]) (H1 := mz_mk g88 x) rfl ?_
                refine mz_ic_le (tgt := 128) rfl rfl (mz_rg l_v90 u_v90) (mz_rg l_v69 u_v69) (fun c117_91 => ?_) (fun c117_91 => ?_)
                · skip
                  replace hE := zf_nl hE c117_91
                  refine mz_iincR (v := v70) (lo2 := [some (.ref 0), some (.int (Int32.ofInt a1)), some (.int (Int32.ofInt v55)), some (.int (Int32.ofInt v58)), some (.int (Int32.ofInt v68)), some (.int (Int32.ofInt v69)), some (.int (Int32.ofInt (v70 + 1))), some (.int (Int32.ofInt v82)), some (.int (Int32.ofInt 0)), some (.int (Int32.ofInt v90))]) rfl rfl rfl (Nat.le_of_ble_eq_true rfl) rfl ?_
                  refine mz_gt (tgt := 64) rfl rfl ?_
                  exact ih75 ((6 - (v70 + 1)).toNat) (by omega) v68 v69 (v70 + 1) (some (.int (Int32.ofInt v82))) (some (.int (Int32.ofInt 0))) (some (.int (Int32.ofInt v90))) g88 rfl (by omega) (by omega) (by omega) (by omega) (by omega) (by omega) (mz_nl_i _) (mz_nl_i _) (mz_nl_i _) hIg88 (fun k j hk => ((hfg88 k j (fun h => hk (Or.elim h (fun h => (Or.inl h)) (fun h => (Or.elim h (fun h => (Or.inr (Or.inl h))) (fun h => (Or.inr (Or.inr h)))))))).trans ((hfg83 k j (fun h => hk (Or.elim h (fun h => (Or.inl h)) (fun h => (Or.elim h (fun h => (Or.inr (Or.inl h))) (fun h => (Or.inr (Or.inr h)))))))).trans (hfg74 k j (fun h => hk (Or.elim h (fun h => (Or.inl h)) (fun h => (Or.elim h (fun h => (Or.inr (Or.inl h))) (fun h => (Or.inr (Or.inr h))))))))))) ⟨fj78, Nat.lt_of_lt_of_le (show ((6 - (v70 + 1)).toNat) < n76 from (by omega)) fn79, hE⟩
                · skip
                  replace hE := zf_ip hE c117_91
                  refine mm_g 4 (pc1 := 128) (lo1 := [some (.ref 0), some (.int (Int32.ofInt a1)), some (.int (Int32.ofInt v55)), some (.int (Int32.ofInt v58)), some (.int (Int32.ofInt v70)), some (.int (Int32.ofInt v90)), some (.int (Int32.ofInt v70)), some (.int (Int32.ofInt v82)), some (.int (Int32.ofInt 0)), some (.int (Int32.ofInt v90))]) (st1 := []) (H1 := mz_mk g88 x) rfl ?_
                  refine mz_iincR (v := v70) (lo2 := [some (.ref 0), some (.int (Int32.ofInt a1)), some (.int (Int32.ofInt v55)), some (.int (Int32.ofInt v58)), some (.int (Int32.ofInt v70)), some (.int (Int32.ofInt v90)), some (.int (Int32.ofInt (v70 + 1))), some (.int (Int32.ofInt v82)), some (.int (Int32.ofInt 0)), some (.int (Int32.ofInt v90))]) rfl rfl rfl (Nat.le_of_ble_eq_true rfl) rfl ?_
                  refine mz_gt (tgt := 64) rfl rfl ?_
                  exact ih75 ((6 - (v70 + 1)).toNat) (by omega) v70 v90 (v70 + 1) (some (.int (Int32.ofInt v82))) (some (.int (Int32.ofInt 0))) (some (.int (Int32.ofInt v90))) g88 rfl (by omega) (by omega) (by omega) (by omega) (by omega) (by omega) (mz_nl_i _) (mz_nl_i _) (mz_nl_i _) hIg88 (fun k j hk => ((hfg88 k j (fun h => hk (Or.elim h (fun h => (Or.inl h)) (fun h => (Or.elim h (fun h => (Or.inr (Or.inl h))) (fun h => (Or.inr (Or.inr h)))))))).trans ((hfg83 k j (fun h => hk (Or.elim h (fun h => (Or.inl h)) (fun h => (Or.elim h (fun h => (Or.inr (Or.inl h))) (fun h => (Or.inr (Or.inr h)))))))).trans (hfg74 k j (fun h => hk (Or.elim h (fun h => (Or.inl h)) (fun h => (Or.elim h (fun h => (Or.inr (Or.inl h))) (fun h => (Or.inr (Or.inr h))))))))))) ⟨fj78, Nat.lt_of_lt_of_le (show ((6 - (v70 + 1)).toNat) < n76 from (by omega)) fn79, hE⟩
              · skip
                replace hE := zf_ip hE c88_86
                refine mm_g 1 (pc1 := 92) (lo1 := [some (.ref 0), some (.int (Int32.ofInt a1)), some (.int (Int32.ofInt v55)), some (.int (Int32.ofInt v58)), some (.int (Int32.ofInt v68)), some (.int (Int32.ofInt v69)), some (.int (Int32.ofInt v70)), some (.int (Int32.ofInt v82)), o72, o73]) (st1 := [.int (Int32.ofInt 1)]) (H1 := mz_mk g83 x) rfl ?_
                refine mz_gt (tgt := 96) rfl rfl ?_
                refine mm_g 5 (pc1 := 105) (lo1 := [some (.ref 0), some (.int (Int32.ofInt a1)), some (.int (Int32.ofInt v55)), some (.int (Int32.ofInt v58)), some (.int (Int32.ofInt v68)), some (.int (Int32.ofInt v69)), some (.int (Int32.ofInt v70)), some (.int (Int32.ofInt v82)), some (.int (Int32.ofInt 1)), o73]) (st1 := [.int (Int32.ofInt 1), .int (Int32.ofInt v82), .int (Int32.ofInt v70), .ref 0]) (H1 := mz_mk g83 x) rfl ?_
                refine mz_cv rfl mt_11_363 (by decide) (sc_0 _) rfl (Nat.le_of_ble_eq_true rfl) (by omega) (f_X11_unlikeNumbers (by omega) hx hIg83 (by omega) (by omega) l_v82 u_v82 (by decide) (by decide) (fun v92 g93 hIg93 hfg93 l_v92 u_v92 hc94 => ⟨_, rfl, ?_⟩))
                show mm_W d mmX11_look 108 [some (.ref 0), some (.int (Int32.ofInt a1)), some (.int (Int32.ofInt v55)), some (.int (Int32.ofInt v58)), some (.int (Int32.ofInt v68)), some (.int (Int32.ofInt v69)), some (.int (Int32.ofInt v70)), some (.int (Int32.ofInt v82)), some (.int (Int32.ofInt 1)), o73] [.int (Int32.ofInt v92)] (mz_mk g93 x) Q
                replace hE := zf_t2 hE hc94
                refine mz_cs rfl mt_11_358 (by decide) rfl (Nat.le_of_ble_eq_true rfl) (by omega) (f_J6_bitCount (by omega) hx hIg93 l_v92 u_v92 (fun v95 l_v95 u_v95 hc96 => ⟨_, rfl, ?_⟩))
                show mm_W d mmX11_look 111 [some (.ref 0), some (.int (Int32.ofInt a1)), some (.int (Int32.ofInt v55)), some (.int (Int32.ofInt v58)), some (.int (Int32.ofInt v68)), some (.int (Int32.ofInt v69)), some (.int (Int32.ofInt v70)), some (.int (Int32.ofInt v82)), some (.int (Int32.ofInt 1)), o73] [.int (Int32.ofInt v95)] (mz_mk g93 x) Q
                replace hE := zf_t1 hE hc96
                refine mm_g 3 (pc1 := 117) (lo1 := [some (.ref 0), some (.int (Int32.ofInt a1)), some (.int (Int32.ofInt v55)), some (.int (Int32.ofInt v58)), some (.int (Int32.ofInt v68)), some (.int (Int32.ofInt v69)), some (.int (Int32.ofInt v70)), some (.int (Int32.ofInt v82)), some (.int (Int32.ofInt 1)), some (.int (Int32.ofInt v95))]) (st1 := [.int (Int32.ofInt v69), .int (Int32.ofInt v95)]) (H1 := mz_mk g93 x) rfl ?_
                refine mz_ic_le (tgt := 128) rfl rfl (mz_rg l_v95 u_v95) (mz_rg l_v69 u_v69) (fun c117_96 => ?_) (fun c117_96 => ?_)
                · skip
                  replace hE := zf_nl hE c117_96
                  refine mz_iincR (v := v70) (lo2 := [some (.ref 0), some (.int (Int32.ofInt a1)), some (.int (Int32.ofInt v55)), some (.int (Int32.ofInt v58)), some (.int (Int32.ofInt v68)), some (.int (Int32.ofInt v69)), some (.int (Int32.ofInt (v70 + 1))), some (.int (Int32.ofInt v82)), some (.int (Int32.ofInt 1)), some (.int (Int32.ofInt v95))]) rfl rfl rfl (Nat.le_of_ble_eq_true rfl) rfl ?_
                  refine mz_gt (tgt := 64) rfl rfl ?_
                  exact ih75 ((6 - (v70 + 1)).toNat) (by omega) v68 v69 (v70 + 1) (some (.int (Int32.ofInt v82))) (some (.int (Int32.ofInt 1))) (some (.int (Int32.ofInt v95))) g93 rfl (by omega) (by omega) (by omega) (by omega) (by omega) (by omega) (mz_nl_i _) (mz_nl_i _) (mz_nl_i _) hIg93 (fun k j hk => ((hfg93 k j (fun h => hk (Or.elim h (fun h => (Or.inl h)) (fun h => (Or.elim h (fun h => (Or.inr (Or.inl h))) (fun h => (Or.inr (Or.inr h)))))))).trans ((hfg83 k j (fun h => hk (Or.elim h (fun h => (Or.inl h)) (fun h => (Or.elim h (fun h => (Or.inr (Or.inl h))) (fun h => (Or.inr (Or.inr h)))))))).trans (hfg74 k j (fun h => hk (Or.elim h (fun h => (Or.inl h)) (fun h => (Or.elim h (fun h => (Or.inr (Or.inl h))) (fun h => (Or.inr (Or.inr h))))))))))) ⟨fj78, Nat.lt_of_lt_of_le (show ((6 - (v70 + 1)).toNat) < n76 from (by omega)) fn79, hE⟩
                · skip
                  replace hE := zf_ip hE c117_96
                  refine mm_g 4 (pc1 := 128) (lo1 := [some (.ref 0), some (.int (Int32.ofInt a1)), some (.int (Int32.ofInt v55)), some (.int (Int32.ofInt v58)), some (.int (Int32.ofInt v70)), some (.int (Int32.ofInt v95)), some (.int (Int32.ofInt v70)), some (.int (Int32.ofInt v82)), some (.int (Int32.ofInt 1)), some (.int (Int32.ofInt v95))]) (st1 := []) (H1 := mz_mk g93 x) rfl ?_
                  refine mz_iincR (v := v70) (lo2 := [some (.ref 0), some (.int (Int32.ofInt a1)), some (.int (Int32.ofInt v55)), some (.int (Int32.ofInt v58)), some (.int (Int32.ofInt v70)), some (.int (Int32.ofInt v95)), some (.int (Int32.ofInt (v70 + 1))), some (.int (Int32.ofInt v82)), some (.int (Int32.ofInt 1)), some (.int (Int32.ofInt v95))]) rfl rfl rfl (Nat.le_of_ble_eq_true rfl) rfl ?_
                  refine mz_gt (tgt := 64) rfl rfl ?_
                  exact ih75 ((6 - (v70 + 1)).toNat) (by omega) v70 v95 (v70 + 1) (some (.int (Int32.ofInt v82))) (some (.int (Int32.ofInt 1))) (some (.int (Int32.ofInt v95))) g93 rfl (by omega) (by omega) (by omega) (by omega) (by omega) (by omega) (mz_nl_i _) (mz_nl_i _) (mz_nl_i _) hIg93 (fun k j hk => ((hfg93 k j (fun h => hk (Or.elim h (fun h => (Or.inl h)) (fun h => (Or.elim h (fun h => (Or.inr (Or.inl h))) (fun h => (Or.inr (Or.inr h)))))))).trans ((hfg83 k j (fun h => hk (Or.elim h (fun h => (Or.inl h)) (fun h => (Or.elim h (fun h => (Or.inr (Or.inl h))) (fun h => (Or.inr (Or.inr h)))))))).trans (hfg74 k j (fun h => hk (Or.elim h (fun h => (Or.inl h)) (fun h => (Or.elim h (fun h => (Or.inr (Or.inl h))) (fun h => (Or.inr (Or.inr h))))))))))) ⟨fj78, Nat.lt_of_lt_of_le (show ((6 - (v70 + 1)).toNat) < n76 from (by omega)) fn79, hE⟩
          exact L77 _ (-1) 0 0 none none none g60 rfl (by decide) (by decide) (by decide) (by decide) (by decide) (by decide) mz_nl_n mz_nl_n mz_nl_n hIg60 (fun _ _ _ => rfl) ⟨3000000000, by omega, hE⟩
        · skip
          replace hE := zf_ip hE c33_67
          refine mm_g 4 (pc1 := 41) (lo1 := [some (.ref 0), some (.int (Int32.ofInt a1)), some (.int (Int32.ofInt v55)), some (.int (Int32.ofInt v58)), some (.int (Int32.ofInt v59)), none, none, none, none, none]) (st1 := [.int (Int32.ofInt v55), .int (Int32.ofInt v59), .ref 0, .int (Int32.ofInt v58)]) (H1 := mz_mk g60 x) rfl ?_
          refine mz_cv rfl mt_11_352 (by decide) (sc_0 _) rfl (Nat.le_of_ble_eq_true rfl) (by omega) (f_X11_looseStraps (by omega) hx hIg60 (by omega) (by omega) (by omega) (by omega) (fun v97 g98 hIg98 hfg98 l_v97 u_v97 hc99 => ⟨_, rfl, ?_⟩))
          show mm_W d mmX11_look 44 [some (.ref 0), some (.int (Int32.ofInt a1)), some (.int (Int32.ofInt v55)), some (.int (Int32.ofInt v58)), some (.int (Int32.ofInt v59)), none, none, none, none, none] [.int (Int32.ofInt v97), .int (Int32.ofInt v58)] (mz_mk g98 x) Q
          replace hE := zf_t2 hE hc99
          refine mz_cs rfl mt_11_358 (by decide) rfl (Nat.le_of_ble_eq_true rfl) (by omega) (f_J6_bitCount (by omega) hx hIg98 l_v97 u_v97 (fun v100 l_v100 u_v100 hc101 => ⟨_, rfl, ?_⟩))
          show mm_W d mmX11_look 47 [some (.ref 0), some (.int (Int32.ofInt a1)), some (.int (Int32.ofInt v55)), some (.int (Int32.ofInt v58)), some (.int (Int32.ofInt v59)), none, none, none, none, none] [.int (Int32.ofInt v100), .int (Int32.ofInt v58)] (mz_mk g98 x) Q
          replace hE := zf_t1 hE hc101
          refine mz_iadd_w rfl (fun v102 e_v102 hwv102 => ?_)
          have l_v102 := hwv102.1
          have u_v102 := hwv102.2
          replace hE := zf_tr hE (zf_le e_v102.symm)
          refine mm_g 1 (pc1 := 49) (lo1 := [some (.ref 0), some (.int (Int32.ofInt a1)), some (.int (Int32.ofInt v55)), some (.int (Int32.ofInt v102)), some (.int (Int32.ofInt v59)), none, none, none, none, none]) (st1 := []) (H1 := mz_mk g98 x) rfl ?_
          refine mz_iincR (v := v59) (lo2 := [some (.ref 0), some (.int (Int32.ofInt a1)), some (.int (Int32.ofInt v55)), some (.int (Int32.ofInt v102)), some (.int (Int32.ofInt (v59 + 1))), none, none, none, none, none]) rfl rfl rfl (Nat.le_of_ble_eq_true rfl) rfl ?_
          refine mz_gt (tgt := 27) rfl rfl ?_
          exact ih61 ((6 - (v59 + 1)).toNat) (by omega) v102 (v59 + 1) g98 rfl (by omega) (by omega) (by omega) (by omega) hIg98 (fun k j hk => ((hfg98 k j (fun h => hk (Or.elim h (fun h => (Or.inl h)) (fun h => (Or.elim h (fun h => (Or.inr (Or.inl h))) (fun h => (Or.inr (Or.inr h)))))))).trans (hfg60 k j (fun h => hk (Or.elim h (fun h => (Or.inl h)) (fun h => (Or.elim h (fun h => (Or.inr (Or.inl h))) (fun h => (Or.inr (Or.inr h)))))))))) ⟨fj64, Nat.lt_of_lt_of_le (show ((6 - (v59 + 1)).toNat) < n62 from (by omega)) fn65, hE⟩
      exact L63 _ 0 0 g56 rfl (by decide) (by decide) (by decide) (by decide) hIg56 (fun _ _ _ => rfl) ⟨3000000000, by omega, hE⟩
def fw_X6_forgetSeen (x : mm_X) (q0 : Nat) : Nat → Nat → Prop := fun k j => k = q0
theorem f_X6_forgetSeen {d : Nat} (hd : 1 ≤ d) {x : mm_X} (hx : mk_x x) {g : mz_G} (hI : mz_inv g) {q0 : Nat} (h_q0 : kd_story q0) {Q : (Option Value ⊕ Nat) → mm_H → Prop} (hQ : ∀ (g1 : mz_G), mz_inv g1 → mz_fr (fw_X6_forgetSeen x q0) g g1 → zf_E (zF_X6_forgetSeen q0 g) (g1) → Q (.inl none) (mz_mk g1 x)) : mm_C d 75 [.ref q0] (mz_mk g x) Q := by
  have kn_q0 := kn_story h_q0
  refine ⟨mmX6_forgetSeen, [some (.ref q0)], rfl, rfl, ?_⟩
  have hE : zf_E (zF_X6_forgetSeen q0 g) (zF_X6_forgetSeen q0 g) := zf_rf
  refine mm_g 2 (pc1 := 2) (lo1 := [some (.ref q0)]) (st1 := [.int (Int32.ofInt 0), .ref q0]) (H1 := mz_mk g x) rfl ?_
  refine mz_pI rfl fd_6_38 (kc_story h_q0 _) hI (kb_story_7 h_q0) (by omega) (by omega) (fun g1 hIg1 hug1 => ?_)
  replace hE := zf_tr hE (zf_lg hug1)
  exact mm_rt rfl rfl (hQ _ hIg1 (fun k j hk => (hug1.2 k j (fun h => hk h.1))) hE)
def fw_X11_forget (x : mm_X) : Nat → Nat → Prop := fun k j => k = 86
theorem f_X11_forget {d : Nat} (hd : 2 ≤ d) {x : mm_X} (hx : mk_x x) {g : mz_G} (hI : mz_inv g) {Q : (Option Value ⊕ Nat) → mm_H → Prop} (hQ : ∀ (g1 : mz_G), mz_inv g1 → mz_fr (fw_X11_forget x) g g1 → zf_E (zF_X11_forget x g) (g1) → Q (.inl none) (mz_mk g1 x)) : mm_C d 157 [.ref 0] (mz_mk g x) Q := by
  have kx := kn_x hx
  refine ⟨mmX11_forget, [some (.ref 0)], rfl, rfl, ?_⟩
  have hE : zf_E (zF_X11_forget x g) (zF_X11_forget x g) := zf_rf
  refine mm_g 1 (pc1 := 1) (lo1 := [some (.ref 0)]) (st1 := [.ref 0]) (H1 := mz_mk g x) rfl ?_
  refine mz_fgR (v := 86) rfl fd_11_37 (by decide) (sc_0 _) (rf_0_5 _ _ _) ?_
  refine mz_cv rfl mt_11_367 (by decide) (sc_86 _) rfl (Nat.le_of_ble_eq_true rfl) (by omega) (f_X6_forgetSeen (by omega) hx hI kp_story_86 (fun g1 hIg1 hfg1 hc2 => ⟨_, rfl, ?_⟩))
  show mm_W d mmX11_forget 7 [some (.ref 0)] [] (mz_mk g1 x) Q
  replace hE := zf_t1 hE hc2
  exact mm_rt rfl rfl (hQ _ hIg1 (fun k j hk => (hfg1 k j (fun h => hk h))) hE)
def fl_X11_seasons_42 (x : mm_X) (a1 : Int) (a2 : Int) (a3 : Int) : Nat → Nat → Prop := fun k j => k = 122 ∨ k = ((x.1 + 36) + 2) ∨ k = ((x.1 + 36) + 3)
def fl_X11_seasons_74 (x : mm_X) (a1 : Int) (a2 : Int) (a3 : Int) : Nat → Nat → Prop := fun k j => k = 122 ∨ k = ((x.1 + 36) + 2) ∨ k = ((x.1 + 36) + 3)
def fw_X11_seasons (x : mm_X) (a1 : Int) (a2 : Int) (a3 : Int) : Nat → Nat → Prop := fun k j => k = 122 ∨ k = ((x.1 + 36) + 2) ∨ k = ((x.1 + 36) + 3)
theorem f_X11_seasons {d : Nat} (hd : 14 ≤ d) {x : mm_X} (hx : mk_x x) {g : mz_G} (hI : mz_inv g) {a1 : Int} (l_a1 : (-2147483648) ≤ a1) (u_a1 : a1 ≤ 2147483647) {a2 : Int} (l_a2 : (-2147483648) ≤ a2) (u_a2 : a2 ≤ 2147483647) {a3 : Int} (l_a3 : (-2147483648) ≤ a3) (u_a3 : a3 ≤ 2147483647) {Q : (Option Value ⊕ Nat) → mm_H → Prop} (hQ : ∀ (r : Int) (g1 : mz_G), mz_inv g1 → mz_fr (fw_X11_seasons x a1 a2 a3) g g1 → (-2147483648) ≤ r → r ≤ 2147483647 → zf_E (zF_X11_seasons x a1 a2 a3 g) ((0, r, g1)) → Q (.inl (some (.int (Int32.ofInt r)))) (mz_mk g1 x)) (hX0 : (zf_E (zF_X11_seasons x a1 a2 a3 g) ((1, 0, g))) → Q (.inr 0) (mz_mk g (mz_tx x))) (hX1 : (zf_E (zF_X11_seasons x a1 a2 a3 g) ((2, 0, g))) → Q (.inr 1) (mz_mk g (mz_tx x))) : mm_C d 163 [.ref 0, .int (Int32.ofInt a1), .int (Int32.ofInt a2), .int (Int32.ofInt a3)] (mz_mk g x) Q := by
  have kx := kn_x hx
  refine ⟨mmX11_seasons, [some (.ref 0), some (.int (Int32.ofInt a1)), some (.int (Int32.ofInt a2)), some (.int (Int32.ofInt a3)), none, none, none, none, none], rfl, rfl, ?_⟩
  have hE : zf_E (zF_X11_seasons x a1 a2 a3 g) (zF_X11_seasons x a1 a2 a3 g) := zf_rf
  refine mm_g 2 (pc1 := 2) (lo1 := [some (.ref 0), some (.int (Int32.ofInt a1)), some (.int (Int32.ofInt a2)), some (.int (Int32.ofInt a3)), none, none, none, none, none]) (st1 := [.int (Int32.ofInt a1), .ref 0]) (H1 := mz_mk g x) rfl ?_
  refine mz_cv rfl mt_11_231 (by decide) (sc_0 _) rfl (Nat.le_of_ble_eq_true rfl) (by omega) (f_X11_isTrunk (by omega) hx hI l_a1 u_a1 (fun v1 l_v1 u_v1 hc2 => ⟨_, rfl, ?_⟩))
  show mm_W d mmX11_seasons 5 [some (.ref 0), some (.int (Int32.ofInt a1)), some (.int (Int32.ofInt a2)), some (.int (Int32.ofInt a3)), none, none, none, none, none] [.int (Int32.ofInt v1)] (mz_mk g x) Q
  replace hE := zf_t1 hE hc2
  (try unfold zJ_X11_seasons_32 at hE)
  (try unfold zJ_X11_seasons_33 at hE)
  (try unfold zJ_X11_seasons_95 at hE)
  (try unfold zJ_X11_seasons_129 at hE)
  (try unfold zJ_X11_seasons_147 at hE)
  (try unfold zJ_X11_seasons_178 at hE)
  (try unfold zJ_X11_seasons_32 at hE)
  (try unfold zJ_X11_seasons_33 at hE)
  (try unfold zJ_X11_seasons_95 at hE)
  (try unfold zJ_X11_seasons_129 at hE)
  (try unfold zJ_X11_seasons_147 at hE)
  (try unfold zJ_X11_seasons_178 at hE)
  refine mz_csx rfl mt_11_183 rfl (Nat.le_of_ble_eq_true rfl) (by omega) rfl nh_X11_mustBe (f_X11_mustBe (by omega) hx hI l_v1 u_v1 (fun hp3 hc4 => ?_) (fun hc => hX0 (zf_x2 hE hc (by decide))))
  show mm_W d mmX11_seasons 8 [some (.ref 0), some (.int (Int32.ofInt a1)), some (.int (Int32.ofInt a2)), some (.int (Int32.ofInt a3)), none, none, none, none, none] [] (mz_mk g x) Q
  replace hE := zf_x1 hE hc4
  refine mm_g 2 (pc1 := 10) (lo1 := [some (.ref 0), some (.int (Int32.ofInt a1)), some (.int (Int32.ofInt a2)), some (.int (Int32.ofInt a3)), none, none, none, none, none]) (st1 := [.int (Int32.ofInt 1), .int (Int32.ofInt a2)]) (H1 := mz_mk g x) rfl ?_
  refine mz_ic_lt (tgt := 32) rfl rfl (mz_rg l_a2 u_a2) ⟨by decide, by decide⟩ (fun c10_4 => ?_) (fun c10_4 => ?_)
  · skip
    replace hE := zf_ip hE c10_4
    refine mm_g 1 (pc1 := 33) (lo1 := [some (.ref 0), some (.int (Int32.ofInt a1)), some (.int (Int32.ofInt a2)), some (.int (Int32.ofInt a3)), none, none, none, none, none]) (st1 := [.int (Int32.ofInt 0)]) (H1 := mz_mk g x) rfl ?_
    (try unfold zJ_X11_seasons_32 at hE)
    (try unfold zJ_X11_seasons_33 at hE)
    (try unfold zJ_X11_seasons_95 at hE)
    (try unfold zJ_X11_seasons_129 at hE)
    (try unfold zJ_X11_seasons_147 at hE)
    (try unfold zJ_X11_seasons_178 at hE)
    (try unfold zJ_X11_seasons_32 at hE)
    (try unfold zJ_X11_seasons_33 at hE)
    (try unfold zJ_X11_seasons_95 at hE)
    (try unfold zJ_X11_seasons_129 at hE)
    (try unfold zJ_X11_seasons_147 at hE)
    (try unfold zJ_X11_seasons_178 at hE)
    refine mz_csx rfl mt_11_106 rfl (Nat.le_of_ble_eq_true rfl) (by omega) rfl nh_X11_mustFit (f_X11_mustFit (by omega) hx hI (by decide) (by decide) (fun hp5 hc6 => ?_) (fun hc => hX1 (zf_x2 hE hc (by decide))))
    show mm_W d mmX11_seasons 36 [some (.ref 0), some (.int (Int32.ofInt a1)), some (.int (Int32.ofInt a2)), some (.int (Int32.ofInt a3)), none, none, none, none, none] [] (mz_mk g x) Q
    replace hE := zf_x1 hE hc6
    exfalso; omega
  · skip
    replace hE := zf_nl hE c10_4
    refine mm_g 2 (pc1 := 15) (lo1 := [some (.ref 0), some (.int (Int32.ofInt a1)), some (.int (Int32.ofInt a2)), some (.int (Int32.ofInt a3)), none, none, none, none, none]) (st1 := [.int (Int32.ofInt 5), .int (Int32.ofInt a2)]) (H1 := mz_mk g x) rfl ?_
    refine mz_ic_gt (tgt := 32) rfl rfl (mz_rg l_a2 u_a2) ⟨by decide, by decide⟩ (fun c15_6 => ?_) (fun c15_6 => ?_)
    · skip
      replace hE := zf_ip hE c15_6
      refine mm_g 1 (pc1 := 33) (lo1 := [some (.ref 0), some (.int (Int32.ofInt a1)), some (.int (Int32.ofInt a2)), some (.int (Int32.ofInt a3)), none, none, none, none, none]) (st1 := [.int (Int32.ofInt 0)]) (H1 := mz_mk g x) rfl ?_
      (try unfold zJ_X11_seasons_32 at hE)
      (try unfold zJ_X11_seasons_33 at hE)
      (try unfold zJ_X11_seasons_95 at hE)
      (try unfold zJ_X11_seasons_129 at hE)
      (try unfold zJ_X11_seasons_147 at hE)
      (try unfold zJ_X11_seasons_178 at hE)
      (try unfold zJ_X11_seasons_32 at hE)
      (try unfold zJ_X11_seasons_33 at hE)
      (try unfold zJ_X11_seasons_95 at hE)
      (try unfold zJ_X11_seasons_129 at hE)
      (try unfold zJ_X11_seasons_147 at hE)
      (try unfold zJ_X11_seasons_178 at hE)
      refine mz_csx rfl mt_11_106 rfl (Nat.le_of_ble_eq_true rfl) (by omega) rfl nh_X11_mustFit (f_X11_mustFit (by omega) hx hI (by decide) (by decide) (fun hp7 hc8 => ?_) (fun hc => hX1 (zf_x2 hE hc (by decide))))
      show mm_W d mmX11_seasons 36 [some (.ref 0), some (.int (Int32.ofInt a1)), some (.int (Int32.ofInt a2)), some (.int (Int32.ofInt a3)), none, none, none, none, none] [] (mz_mk g x) Q
      replace hE := zf_x1 hE hc8
      exfalso; omega
    · skip
      replace hE := zf_nl hE c15_6
      refine mm_g 1 (pc1 := 19) (lo1 := [some (.ref 0), some (.int (Int32.ofInt a1)), some (.int (Int32.ofInt a2)), some (.int (Int32.ofInt a3)), none, none, none, none, none]) (st1 := [.int (Int32.ofInt a3)]) (H1 := mz_mk g x) rfl ?_
      refine mz_if_lt (tgt := 32) rfl rfl (mz_rg l_a3 u_a3) (fun c19_8 => ?_) (fun c19_8 => ?_)
      · skip
        replace hE := zf_ip hE c19_8
        refine mm_g 1 (pc1 := 33) (lo1 := [some (.ref 0), some (.int (Int32.ofInt a1)), some (.int (Int32.ofInt a2)), some (.int (Int32.ofInt a3)), none, none, none, none, none]) (st1 := [.int (Int32.ofInt 0)]) (H1 := mz_mk g x) rfl ?_
        (try unfold zJ_X11_seasons_32 at hE)
        (try unfold zJ_X11_seasons_33 at hE)
        (try unfold zJ_X11_seasons_95 at hE)
        (try unfold zJ_X11_seasons_129 at hE)
        (try unfold zJ_X11_seasons_147 at hE)
        (try unfold zJ_X11_seasons_178 at hE)
        (try unfold zJ_X11_seasons_32 at hE)
        (try unfold zJ_X11_seasons_33 at hE)
        (try unfold zJ_X11_seasons_95 at hE)
        (try unfold zJ_X11_seasons_129 at hE)
        (try unfold zJ_X11_seasons_147 at hE)
        (try unfold zJ_X11_seasons_178 at hE)
        refine mz_csx rfl mt_11_106 rfl (Nat.le_of_ble_eq_true rfl) (by omega) rfl nh_X11_mustFit (f_X11_mustFit (by omega) hx hI (by decide) (by decide) (fun hp9 hc10 => ?_) (fun hc => hX1 (zf_x2 hE hc (by decide))))
        show mm_W d mmX11_seasons 36 [some (.ref 0), some (.int (Int32.ofInt a1)), some (.int (Int32.ofInt a2)), some (.int (Int32.ofInt a3)), none, none, none, none, none] [] (mz_mk g x) Q
        replace hE := zf_x1 hE hc10
        exfalso; omega
      · skip
        replace hE := zf_nl hE c19_8
        refine mm_g 1 (pc1 := 23) (lo1 := [some (.ref 0), some (.int (Int32.ofInt a1)), some (.int (Int32.ofInt a2)), some (.int (Int32.ofInt a3)), none, none, none, none, none]) (st1 := [.int (Int32.ofInt a3)]) (H1 := mz_mk g x) rfl ?_
        refine mz_bip rfl bip_10 ?_
        refine mz_ic_gt (tgt := 32) rfl rfl (mz_rg l_a3 u_a3) ⟨by decide, by decide⟩ (fun c25_10 => ?_) (fun c25_10 => ?_)
        · skip
          replace hE := zf_ip hE c25_10
          refine mm_g 1 (pc1 := 33) (lo1 := [some (.ref 0), some (.int (Int32.ofInt a1)), some (.int (Int32.ofInt a2)), some (.int (Int32.ofInt a3)), none, none, none, none, none]) (st1 := [.int (Int32.ofInt 0)]) (H1 := mz_mk g x) rfl ?_
          (try unfold zJ_X11_seasons_32 at hE)
          (try unfold zJ_X11_seasons_33 at hE)
          (try unfold zJ_X11_seasons_95 at hE)
          (try unfold zJ_X11_seasons_129 at hE)
          (try unfold zJ_X11_seasons_147 at hE)
          (try unfold zJ_X11_seasons_178 at hE)
          (try unfold zJ_X11_seasons_32 at hE)
          (try unfold zJ_X11_seasons_33 at hE)
          (try unfold zJ_X11_seasons_95 at hE)
          (try unfold zJ_X11_seasons_129 at hE)
          (try unfold zJ_X11_seasons_147 at hE)
          (try unfold zJ_X11_seasons_178 at hE)
          refine mz_csx rfl mt_11_106 rfl (Nat.le_of_ble_eq_true rfl) (by omega) rfl nh_X11_mustFit (f_X11_mustFit (by omega) hx hI (by decide) (by decide) (fun hp11 hc12 => ?_) (fun hc => hX1 (zf_x2 hE hc (by decide))))
          show mm_W d mmX11_seasons 36 [some (.ref 0), some (.int (Int32.ofInt a1)), some (.int (Int32.ofInt a2)), some (.int (Int32.ofInt a3)), none, none, none, none, none] [] (mz_mk g x) Q
          replace hE := zf_x1 hE hc12
          exfalso; omega
        · skip
          replace hE := zf_nl hE c25_10
          refine mm_g 1 (pc1 := 29) (lo1 := [some (.ref 0), some (.int (Int32.ofInt a1)), some (.int (Int32.ofInt a2)), some (.int (Int32.ofInt a3)), none, none, none, none, none]) (st1 := [.int (Int32.ofInt 1)]) (H1 := mz_mk g x) rfl ?_
          refine mz_gt (tgt := 33) rfl rfl ?_
          (try unfold zJ_X11_seasons_32 at hE)
          (try unfold zJ_X11_seasons_33 at hE)
          (try unfold zJ_X11_seasons_95 at hE)
          (try unfold zJ_X11_seasons_129 at hE)
          (try unfold zJ_X11_seasons_147 at hE)
          (try unfold zJ_X11_seasons_178 at hE)
          (try unfold zJ_X11_seasons_32 at hE)
          (try unfold zJ_X11_seasons_33 at hE)
          (try unfold zJ_X11_seasons_95 at hE)
          (try unfold zJ_X11_seasons_129 at hE)
          (try unfold zJ_X11_seasons_147 at hE)
          (try unfold zJ_X11_seasons_178 at hE)
          refine mz_csx rfl mt_11_106 rfl (Nat.le_of_ble_eq_true rfl) (by omega) rfl nh_X11_mustFit (f_X11_mustFit (by omega) hx hI (by decide) (by decide) (fun hp13 hc14 => ?_) (fun hc => hX1 (zf_x2 hE hc (by decide))))
          show mm_W d mmX11_seasons 36 [some (.ref 0), some (.int (Int32.ofInt a1)), some (.int (Int32.ofInt a2)), some (.int (Int32.ofInt a3)), none, none, none, none, none] [] (mz_mk g x) Q
          replace hE := zf_x1 hE hc14
          refine mm_g 4 (pc1 := 42) (lo1 := [some (.ref 0), some (.int (Int32.ofInt a1)), some (.int (Int32.ofInt a2)), some (.int (Int32.ofInt a3)), some (.int (Int32.ofInt 0)), some (.int (Int32.ofInt 0)), none, none, none]) (st1 := []) (H1 := mz_mk g x) rfl ?_
          have L23 : ∀ n22 : Nat, ∀ (v15 : Int) (v16 : Int) (o17 : Option Value) (o18 : Option Value) (o19 : Option Value) (g20 : mz_G), (32 - v16).toNat = n22 → (-2147483648) ≤ v15 → v15 ≤ 2147483647 → 0 ≤ v16 → v16 ≤ 32 → mz_nl o17 → mz_nl o18 → mz_nl o19 → mz_inv g20 → mz_fr (fl_X11_seasons_42 x a1 a2 a3) g g20 → (∃ fk : Nat, (32 - v16).toNat < fk ∧ zf_E (zF_X11_seasons x a1 a2 a3 g) (zL_X11_seasons_42 x a1 a2 a3 fk v15 v16 g20)) → mm_W d mmX11_seasons 42 [some (.ref 0), some (.int (Int32.ofInt a1)), some (.int (Int32.ofInt a2)), some (.int (Int32.ofInt a3)), some (.int (Int32.ofInt v15)), some (.int (Int32.ofInt v16)), o17, o18, o19] [] (mz_mk g20 x) Q := by
            intro n22
            induction n22 using Nat.strongRecOn with
            | ind n22 ih21 =>
            intro v15 v16 o17 o18 o19 g20 hmn22 l_v15 u_v15 l_v16 u_v16 h_o17 h_o18 h_o19 hIg20 hfg20 hF
            obtain ⟨fk, fl, hE⟩ := hF
            obtain ⟨fj24, rfl⟩ : ∃ fj, fk = fj + 1 := ⟨fk - 1, by omega⟩
            have fn25 : n22 ≤ fj24 := by omega
            replace hE := zf_tr hE zL_X11_seasons_42_s
            refine mm_g 3 (pc1 := 46) (lo1 := [some (.ref 0), some (.int (Int32.ofInt a1)), some (.int (Int32.ofInt a2)), some (.int (Int32.ofInt a3)), some (.int (Int32.ofInt v15)), some (.int (Int32.ofInt v16)), o17, o18, o19]) (st1 := [.int (Int32.ofInt a2), .int (Int32.ofInt 1), .int (Int32.ofInt v16)]) (H1 := mz_mk g20 x) rfl ?_
            refine mz_ishl rfl (fun v26 e_v26 hwv26 => ?_)
            have b_v26 : 1 ≤ v26 ∧ v26 ≤ 32 := by rw [e_v26]; exact mz_shl_b (lx := 1) (hx := 1) (k := 5) (by decide) (by decide) (by omega) (by omega) (by omega) (by omega)
            have l_v26 := b_v26.1
            have u_v26 := b_v26.2
            replace hE := zf_tr hE (zf_le e_v26.symm)
            refine mz_ic_ge (tgt := 187) rfl rfl (mz_rg l_v16 u_v16) (mz_rg l_v26 u_v26) (fun c47_26 => ?_) (fun c47_26 => ?_)
            · skip
              replace hE := zf_nl hE c47_26
              refine mm_g 1 (pc1 := 189) (lo1 := [some (.ref 0), some (.int (Int32.ofInt a1)), some (.int (Int32.ofInt a2)), some (.int (Int32.ofInt a3)), some (.int (Int32.ofInt v15)), some (.int (Int32.ofInt v16)), o17, o18, o19]) (st1 := [.int (Int32.ofInt v15)]) (H1 := mz_mk g20 x) rfl ?_
              exact mm_rt rfl rfl (hQ _ _ hIg20 (fun k j hk => (hfg20 k j (fun h => hk (Or.elim h (fun h => (Or.inl h)) (fun h => (Or.elim h (fun h => (Or.inr (Or.inl h))) (fun h => (Or.inr (Or.inr h))))))))) (by omega) (by omega) hE)
            · skip
              replace hE := zf_ip hE c47_26
              refine mm_g 1 (pc1 := 51) (lo1 := [some (.ref 0), some (.int (Int32.ofInt a1)), some (.int (Int32.ofInt a2)), some (.int (Int32.ofInt a3)), some (.int (Int32.ofInt v15)), some (.int (Int32.ofInt v16)), o17, o18, o19]) (st1 := [.ref 0]) (H1 := mz_mk g20 x) rfl ?_
              refine mz_fgR (v := 122) rfl fd_11_65 (by decide) (sc_0 _) (rf_0_10 _ _ _) ?_
              refine mm_g 1 (pc1 := 55) (lo1 := [some (.ref 0), some (.int (Int32.ofInt a1)), some (.int (Int32.ofInt a2)), some (.int (Int32.ofInt a3)), some (.int (Int32.ofInt v15)), some (.int (Int32.ofInt v16)), o17, o18, o19]) (st1 := [.ref 0, .ref 122]) (H1 := mz_mk g20 x) rfl ?_
              refine mz_fgR (v := 86) rfl fd_11_37 (by decide) (sc_0 _) (rf_0_5 _ _ _) ?_
              refine mz_fgR (v := 87) rfl fd_11_158 (by decide) (sc_86 _) (rf_86_0 _ _ _) ?_
              refine mm_g 1 (pc1 := 62) (lo1 := [some (.ref 0), some (.int (Int32.ofInt a1)), some (.int (Int32.ofInt a2)), some (.int (Int32.ofInt a3)), some (.int (Int32.ofInt v15)), some (.int (Int32.ofInt v16)), o17, o18, o19]) (st1 := [.int (Int32.ofInt a1), .ref 87, .ref 122]) (H1 := mz_mk g20 x) rfl ?_
              refine mz_cv rfl mt_11_192 (by decide) (sc_87 _) rfl (Nat.le_of_ble_eq_true rfl) (by omega) (f_X9_get (by omega) hx hIg20 kp_tks_87 l_a1 u_a1 (fun u27 k_u27 hp28 hc29 => ⟨_, rfl, ?_⟩))
              show mm_W d mmX11_seasons 65 [some (.ref 0), some (.int (Int32.ofInt a1)), some (.int (Int32.ofInt a2)), some (.int (Int32.ofInt a3)), some (.int (Int32.ofInt v15)), some (.int (Int32.ofInt v16)), o17, o18, o19] [.ref u27, .ref 122] (mz_mk g20 x) Q
              replace hE := zf_t1 hE hc29
              refine mz_cv rfl mt_11_297 (by decide) (sc_122 _) rfl (Nat.le_of_ble_eq_true rfl) (by omega) (f_X8_becomeAs (by omega) hx hIg20 kp_trunk_122 k_u27 (fun g30 hIg30 hfg30 hc31 => ⟨_, rfl, ?_⟩))
              show mm_W d mmX11_seasons 68 [some (.ref 0), some (.int (Int32.ofInt a1)), some (.int (Int32.ofInt a2)), some (.int (Int32.ofInt a3)), some (.int (Int32.ofInt v15)), some (.int (Int32.ofInt v16)), o17, o18, o19] [] (mz_mk g30 x) Q
              replace hE := zf_t1 hE hc31
              refine mm_g 4 (pc1 := 74) (lo1 := [some (.ref 0), some (.int (Int32.ofInt a1)), some (.int (Int32.ofInt a2)), some (.int (Int32.ofInt a3)), some (.int (Int32.ofInt v15)), some (.int (Int32.ofInt v16)), some (.int (Int32.ofInt 1)), some (.int (Int32.ofInt 0)), o19]) (st1 := []) (H1 := mz_mk g30 x) rfl ?_
              have hO38 := hE
              have L39 : ∀ n37 : Nat, ∀ (v32 : Int) (v33 : Int) (o34 : Option Value) (g35 : mz_G), (5 - v33).toNat = n37 → (-2147483648) ≤ v32 → v32 ≤ 2147483647 → 0 ≤ v33 → v33 ≤ 5 → mz_nl o34 → mz_inv g35 → mz_fr (fl_X11_seasons_74 x a1 a2 a3) g30 g35 → (∃ fk : Nat, (5 - v33).toNat < fk ∧ zf_E (zL_X11_seasons_74 x a1 a2 a3 3000000000 v15 v16 1 0 g30) (zL_X11_seasons_74 x a1 a2 a3 fk v15 v16 v32 v33 g35)) → mm_W d mmX11_seasons 74 [some (.ref 0), some (.int (Int32.ofInt a1)), some (.int (Int32.ofInt a2)), some (.int (Int32.ofInt a3)), some (.int (Int32.ofInt v15)), some (.int (Int32.ofInt v16)), some (.int (Int32.ofInt v32)), some (.int (Int32.ofInt v33)), o34] [] (mz_mk g35 x) Q := by
                intro n37
                induction n37 using Nat.strongRecOn with
                | ind n37 ih36 =>
                intro v32 v33 o34 g35 hmn37 l_v32 u_v32 l_v33 u_v33 h_o34 hIg35 hfg35 hF
                obtain ⟨fk, fl, hE⟩ := hF
                obtain ⟨fj40, rfl⟩ : ∃ fj, fk = fj + 1 := ⟨fk - 1, by omega⟩
                have fn41 : n37 ≤ fj40 := by omega
                replace hE := zf_tr hE zL_X11_seasons_74_s
                refine mm_g 2 (pc1 := 77) (lo1 := [some (.ref 0), some (.int (Int32.ofInt a1)), some (.int (Int32.ofInt a2)), some (.int (Int32.ofInt a3)), some (.int (Int32.ofInt v15)), some (.int (Int32.ofInt v16)), some (.int (Int32.ofInt v32)), some (.int (Int32.ofInt v33)), o34]) (st1 := [.int (Int32.ofInt a2), .int (Int32.ofInt v33)]) (H1 := mz_mk g35 x) rfl ?_
                refine mz_ic_ge (tgt := 156) rfl rfl (mz_rg l_v33 u_v33) (mz_rg l_a2 u_a2) (fun c77_41 => ?_) (fun c77_41 => ?_)
                · skip
                  replace hE := zf_nl hE c77_41
                  replace hE := zf_t2 hO38 hE
                  refine mm_g 2 (pc1 := 159) (lo1 := [some (.ref 0), some (.int (Int32.ofInt a1)), some (.int (Int32.ofInt a2)), some (.int (Int32.ofInt a3)), some (.int (Int32.ofInt v15)), some (.int (Int32.ofInt v16)), some (.int (Int32.ofInt v32)), some (.int (Int32.ofInt v33)), o34]) (st1 := [.ref 0, .int (Int32.ofInt v15)]) (H1 := mz_mk g35 x) rfl ?_
                  refine mz_fgR (v := x.1) rfl fd_11_16 (by decide) (sc_0 _) rfl ?_
                  refine mm_g 1 (pc1 := 163) (lo1 := [some (.ref 0), some (.int (Int32.ofInt a1)), some (.int (Int32.ofInt a2)), some (.int (Int32.ofInt a3)), some (.int (Int32.ofInt v15)), some (.int (Int32.ofInt v16)), some (.int (Int32.ofInt v32)), some (.int (Int32.ofInt v33)), o34]) (st1 := [.ref 0, .ref x.1, .int (Int32.ofInt v15)]) (H1 := mz_mk g35 x) rfl ?_
                  refine mz_fgR (v := 122) rfl fd_11_65 (by decide) (sc_0 _) (rf_0_10 _ _ _) ?_
                  refine mz_cv rfl mt_11_259 (by decide) (kc_load (kx_1 hx) _) rfl (Nat.le_of_ble_eq_true rfl) (by omega) (f_X1_isFull (by omega) hx hIg35 (kx_1 hx) kp_trunk_122 (fun v42 l_v42 u_v42 hc43 => ⟨_, rfl, ?_⟩))
                  show mm_W d mmX11_seasons 169 [some (.ref 0), some (.int (Int32.ofInt a1)), some (.int (Int32.ofInt a2)), some (.int (Int32.ofInt a3)), some (.int (Int32.ofInt v15)), some (.int (Int32.ofInt v16)), some (.int (Int32.ofInt v32)), some (.int (Int32.ofInt v33)), o34] [.int (Int32.ofInt v42), .int (Int32.ofInt v15)] (mz_mk g35 x) Q
                  replace hE := zf_t1 hE hc43
                  refine mz_if_eq (tgt := 177) rfl rfl (mz_rg l_v42 u_v42) (fun c169_43 => ?_) (fun c169_43 => ?_)
                  · skip
                    replace hE := zf_ip hE c169_43
                    refine mm_g 1 (pc1 := 178) (lo1 := [some (.ref 0), some (.int (Int32.ofInt a1)), some (.int (Int32.ofInt a2)), some (.int (Int32.ofInt a3)), some (.int (Int32.ofInt v15)), some (.int (Int32.ofInt v16)), some (.int (Int32.ofInt v32)), some (.int (Int32.ofInt v33)), o34]) (st1 := [.int (Int32.ofInt 0), .int (Int32.ofInt v15)]) (H1 := mz_mk g35 x) rfl ?_
                    refine mz_iadd rfl ?_
                    replace hE := zf_tr hE (zf_lw ⟨by omega, by omega⟩)
                    refine mm_g 1 (pc1 := 181) (lo1 := [some (.ref 0), some (.int (Int32.ofInt a1)), some (.int (Int32.ofInt a2)), some (.int (Int32.ofInt a3)), some (.int (Int32.ofInt (v15 + 0))), some (.int (Int32.ofInt v16)), some (.int (Int32.ofInt v32)), some (.int (Int32.ofInt v33)), o34]) (st1 := []) (H1 := mz_mk g35 x) rfl ?_
                    refine mz_iincR (v := v16) (lo2 := [some (.ref 0), some (.int (Int32.ofInt a1)), some (.int (Int32.ofInt a2)), some (.int (Int32.ofInt a3)), some (.int (Int32.ofInt (v15 + 0))), some (.int (Int32.ofInt (v16 + 1))), some (.int (Int32.ofInt v32)), some (.int (Int32.ofInt v33)), o34]) rfl rfl rfl (Nat.le_of_ble_eq_true rfl) rfl ?_
                    refine mz_gt (tgt := 42) rfl rfl ?_
                    exact ih21 ((32 - (v16 + 1)).toNat) (by omega) (v15 + 0) (v16 + 1) (some (.int (Int32.ofInt v32))) (some (.int (Int32.ofInt v33))) o34 g35 rfl (by omega) (by omega) (by omega) (by omega) (mz_nl_i _) (mz_nl_i _) h_o34 hIg35 (fun k j hk => ((hfg35 k j (fun h => hk (Or.elim h (fun h => (Or.inl h)) (fun h => (Or.elim h (fun h => (Or.inr (Or.inl h))) (fun h => (Or.inr (Or.inr h)))))))).trans ((hfg30 k j (fun h => hk (Or.inl h))).trans (hfg20 k j (fun h => hk (Or.elim h (fun h => (Or.inl h)) (fun h => (Or.elim h (fun h => (Or.inr (Or.inl h))) (fun h => (Or.inr (Or.inr h))))))))))) ⟨fj24, Nat.lt_of_lt_of_le (show ((32 - (v16 + 1)).toNat) < n22 from (by omega)) fn25, hE⟩
                  · skip
                    replace hE := zf_in hE c169_43
                    refine mm_g 1 (pc1 := 174) (lo1 := [some (.ref 0), some (.int (Int32.ofInt a1)), some (.int (Int32.ofInt a2)), some (.int (Int32.ofInt a3)), some (.int (Int32.ofInt v15)), some (.int (Int32.ofInt v16)), some (.int (Int32.ofInt v32)), some (.int (Int32.ofInt v33)), o34]) (st1 := [.int (Int32.ofInt v32), .int (Int32.ofInt v15)]) (H1 := mz_mk g35 x) rfl ?_
                    refine mz_gt (tgt := 178) rfl rfl ?_
                    refine mz_iadd_w rfl (fun v44 e_v44 hwv44 => ?_)
                    have l_v44 := hwv44.1
                    have u_v44 := hwv44.2
                    replace hE := zf_tr hE (zf_le e_v44.symm)
                    refine mm_g 1 (pc1 := 181) (lo1 := [some (.ref 0), some (.int (Int32.ofInt a1)), some (.int (Int32.ofInt a2)), some (.int (Int32.ofInt a3)), some (.int (Int32.ofInt v44)), some (.int (Int32.ofInt v16)), some (.int (Int32.ofInt v32)), some (.int (Int32.ofInt v33)), o34]) (st1 := []) (H1 := mz_mk g35 x) rfl ?_
                    refine mz_iincR (v := v16) (lo2 := [some (.ref 0), some (.int (Int32.ofInt a1)), some (.int (Int32.ofInt a2)), some (.int (Int32.ofInt a3)), some (.int (Int32.ofInt v44)), some (.int (Int32.ofInt (v16 + 1))), some (.int (Int32.ofInt v32)), some (.int (Int32.ofInt v33)), o34]) rfl rfl rfl (Nat.le_of_ble_eq_true rfl) rfl ?_
                    refine mz_gt (tgt := 42) rfl rfl ?_
                    exact ih21 ((32 - (v16 + 1)).toNat) (by omega) v44 (v16 + 1) (some (.int (Int32.ofInt v32))) (some (.int (Int32.ofInt v33))) o34 g35 rfl (by omega) (by omega) (by omega) (by omega) (mz_nl_i _) (mz_nl_i _) h_o34 hIg35 (fun k j hk => ((hfg35 k j (fun h => hk (Or.elim h (fun h => (Or.inl h)) (fun h => (Or.elim h (fun h => (Or.inr (Or.inl h))) (fun h => (Or.inr (Or.inr h)))))))).trans ((hfg30 k j (fun h => hk (Or.inl h))).trans (hfg20 k j (fun h => hk (Or.elim h (fun h => (Or.inl h)) (fun h => (Or.elim h (fun h => (Or.inr (Or.inl h))) (fun h => (Or.inr (Or.inr h))))))))))) ⟨fj24, Nat.lt_of_lt_of_le (show ((32 - (v16 + 1)).toNat) < n22 from (by omega)) fn25, hE⟩
                · skip
                  replace hE := zf_ip hE c77_41
                  refine mm_g 3 (pc1 := 85) (lo1 := [some (.ref 0), some (.int (Int32.ofInt a1)), some (.int (Int32.ofInt a2)), some (.int (Int32.ofInt a3)), some (.int (Int32.ofInt v15)), some (.int (Int32.ofInt v16)), some (.int (Int32.ofInt v32)), some (.int (Int32.ofInt v33)), o34]) (st1 := [.int (Int32.ofInt v33), .int (Int32.ofInt 1), .int (Int32.ofInt v16)]) (H1 := mz_mk g35 x) rfl ?_
                  refine mz_ishl rfl (fun v45 e_v45 hwv45 => ?_)
                  have b_v45 : 1 ≤ v45 ∧ v45 ≤ 16 := by rw [e_v45]; exact mz_shl_b (lx := 1) (hx := 1) (k := 4) (by decide) (by decide) (by omega) (by omega) (by omega) (by omega)
                  have l_v45 := b_v45.1
                  have u_v45 := b_v45.2
                  replace hE := zf_tr hE (zf_le e_v45.symm)
                  refine mz_iand rfl (fun v46 e_v46 hwv46 => ?_)
                  have b_v46 : 0 ≤ v46 ∧ v46 ≤ 16 := by rw [e_v46]; exact mz_and_r (by omega) (by omega) (mz_rg l_v16 u_v16)
                  have l_v46 := b_v46.1
                  have u_v46 := b_v46.2
                  have w_v46 : v46 ≤ v45 := by rw [e_v46]; exact (mz_and_r (hi := v45) (by omega) (Int.le_refl _) (mz_rg l_v16 u_v16) (by omega)).2
                  replace hE := zf_tr hE (zf_le e_v46.symm)
                  refine mz_if_eq (tgt := 94) rfl rfl (mz_rg l_v46 u_v46) (fun c87_46 => ?_) (fun c87_46 => ?_)
                  · skip
                    replace hE := zf_ip hE c87_46
                    refine mm_g 3 (pc1 := 98) (lo1 := [some (.ref 0), some (.int (Int32.ofInt a1)), some (.int (Int32.ofInt a2)), some (.int (Int32.ofInt a3)), some (.int (Int32.ofInt v15)), some (.int (Int32.ofInt v16)), some (.int (Int32.ofInt v32)), some (.int (Int32.ofInt v33)), some (.int (Int32.ofInt 0))]) (st1 := [.ref 0]) (H1 := mz_mk g35 x) rfl ?_
                    refine mz_fgR (v := x.1) rfl fd_11_16 (by decide) (sc_0 _) rfl ?_
                    refine mm_g 1 (pc1 := 102) (lo1 := [some (.ref 0), some (.int (Int32.ofInt a1)), some (.int (Int32.ofInt a2)), some (.int (Int32.ofInt a3)), some (.int (Int32.ofInt v15)), some (.int (Int32.ofInt v16)), some (.int (Int32.ofInt v32)), some (.int (Int32.ofInt v33)), some (.int (Int32.ofInt 0))]) (st1 := [.ref 0, .ref x.1]) (H1 := mz_mk g35 x) rfl ?_
                    refine mz_fgR (v := 122) rfl fd_11_65 (by decide) (sc_0 _) (rf_0_10 _ _ _) ?_
                    refine mm_g 1 (pc1 := 106) (lo1 := [some (.ref 0), some (.int (Int32.ofInt a1)), some (.int (Int32.ofInt a2)), some (.int (Int32.ofInt a3)), some (.int (Int32.ofInt v15)), some (.int (Int32.ofInt v16)), some (.int (Int32.ofInt v32)), some (.int (Int32.ofInt v33)), some (.int (Int32.ofInt 0))]) (st1 := [.ref 0, .ref 122, .ref x.1]) (H1 := mz_mk g35 x) rfl ?_
                    refine mz_fgR (v := 86) rfl fd_11_37 (by decide) (sc_0 _) (rf_0_5 _ _ _) ?_
                    refine mz_fgR (v := 87) rfl fd_11_158 (by decide) (sc_86 _) (rf_86_0 _ _ _) ?_
                    refine mz_gI rfl fd_11_161 (by decide) (sc_87 _) hIg35 bd_87_3 (fun v47 e_v47 l_v47 u_v47 => ?_)
                    replace hE := zf_tr hE (zf_le e_v47)
                    refine mm_g 1 (pc1 := 117) (lo1 := [some (.ref 0), some (.int (Int32.ofInt a1)), some (.int (Int32.ofInt a2)), some (.int (Int32.ofInt a3)), some (.int (Int32.ofInt v15)), some (.int (Int32.ofInt v16)), some (.int (Int32.ofInt v32)), some (.int (Int32.ofInt v33)), some (.int (Int32.ofInt 0))]) (st1 := [.int (Int32.ofInt v33), .int (Int32.ofInt v47), .ref 122, .ref x.1]) (H1 := mz_mk g35 x) rfl ?_
                    refine mz_iadd_w rfl (fun v48 e_v48 hwv48 => ?_)
                    have l_v48 := hwv48.1
                    have u_v48 := hwv48.2
                    replace hE := zf_tr hE (zf_le e_v48.symm)
                    refine mm_g 1 (pc1 := 120) (lo1 := [some (.ref 0), some (.int (Int32.ofInt a1)), some (.int (Int32.ofInt a2)), some (.int (Int32.ofInt a3)), some (.int (Int32.ofInt v15)), some (.int (Int32.ofInt v16)), some (.int (Int32.ofInt v32)), some (.int (Int32.ofInt v33)), some (.int (Int32.ofInt 0))]) (st1 := [.int (Int32.ofInt 0), .int (Int32.ofInt v48), .ref 122, .ref x.1]) (H1 := mz_mk g35 x) rfl ?_
                    refine mz_if_eq (tgt := 128) rfl rfl ⟨by decide, by decide⟩ (fun c120_48 => ?_) (fun c120_48 => ?_)
                    · skip
                      (try unfold zJ_X11_seasons_32 at hE)
                      (try unfold zJ_X11_seasons_33 at hE)
                      (try unfold zJ_X11_seasons_95 at hE)
                      (try unfold zJ_X11_seasons_129 at hE)
                      (try unfold zJ_X11_seasons_147 at hE)
                      (try unfold zJ_X11_seasons_178 at hE)
                      (try unfold zJ_X11_seasons_32 at hE)
                      (try unfold zJ_X11_seasons_33 at hE)
                      (try unfold zJ_X11_seasons_95 at hE)
                      (try unfold zJ_X11_seasons_129 at hE)
                      (try unfold zJ_X11_seasons_147 at hE)
                      (try unfold zJ_X11_seasons_178 at hE)
                      replace hE := zf_ip hE c120_48
                      refine mm_g 1 (pc1 := 129) (lo1 := [some (.ref 0), some (.int (Int32.ofInt a1)), some (.int (Int32.ofInt a2)), some (.int (Int32.ofInt a3)), some (.int (Int32.ofInt v15)), some (.int (Int32.ofInt v16)), some (.int (Int32.ofInt v32)), some (.int (Int32.ofInt v33)), some (.int (Int32.ofInt 0))]) (st1 := [.int (Int32.ofInt 0), .int (Int32.ofInt v48), .ref 122, .ref x.1]) (H1 := mz_mk g35 x) rfl ?_
                      refine mz_cv rfl mt_11_312 (by decide) (kc_load (kx_1 hx) _) rfl (Nat.le_of_ble_eq_true rfl) (by omega) (f_X1_grow (by omega) hx hIg35 (kx_1 hx) kp_trunk_122 l_v48 u_v48 (by decide) (by decide) (fun g49 hIg49 hfg49 hc50 => ⟨_, rfl, ?_⟩))
                      show mm_W d mmX11_seasons 132 [some (.ref 0), some (.int (Int32.ofInt a1)), some (.int (Int32.ofInt a2)), some (.int (Int32.ofInt a3)), some (.int (Int32.ofInt v15)), some (.int (Int32.ofInt v16)), some (.int (Int32.ofInt v32)), some (.int (Int32.ofInt v33)), some (.int (Int32.ofInt 0))] [] (mz_mk g49 x) Q
                      replace hE := zf_t1 hE hc50
                      refine mm_g 2 (pc1 := 136) (lo1 := [some (.ref 0), some (.int (Int32.ofInt a1)), some (.int (Int32.ofInt a2)), some (.int (Int32.ofInt a3)), some (.int (Int32.ofInt v15)), some (.int (Int32.ofInt v16)), some (.int (Int32.ofInt v32)), some (.int (Int32.ofInt v33)), some (.int (Int32.ofInt 0))]) (st1 := [.int (Int32.ofInt 0), .int (Int32.ofInt v32)]) (H1 := mz_mk g49 x) rfl ?_
                      refine mz_if_eq (tgt := 143) rfl rfl ⟨by decide, by decide⟩ (fun c136_50 => ?_) (fun c136_50 => ?_)
                      · skip
                        (try unfold zJ_X11_seasons_32 at hE)
                        (try unfold zJ_X11_seasons_33 at hE)
                        (try unfold zJ_X11_seasons_95 at hE)
                        (try unfold zJ_X11_seasons_129 at hE)
                        (try unfold zJ_X11_seasons_147 at hE)
                        (try unfold zJ_X11_seasons_178 at hE)
                        (try unfold zJ_X11_seasons_32 at hE)
                        (try unfold zJ_X11_seasons_33 at hE)
                        (try unfold zJ_X11_seasons_95 at hE)
                        (try unfold zJ_X11_seasons_129 at hE)
                        (try unfold zJ_X11_seasons_147 at hE)
                        (try unfold zJ_X11_seasons_178 at hE)
                        replace hE := zf_ip hE c136_50
                        refine mz_bip rfl bip_10 ?_
                        refine mm_g 1 (pc1 := 146) (lo1 := [some (.ref 0), some (.int (Int32.ofInt a1)), some (.int (Int32.ofInt a2)), some (.int (Int32.ofInt a3)), some (.int (Int32.ofInt v15)), some (.int (Int32.ofInt v16)), some (.int (Int32.ofInt v32)), some (.int (Int32.ofInt v33)), some (.int (Int32.ofInt 0))]) (st1 := [.int (Int32.ofInt a3), .int (Int32.ofInt 10), .int (Int32.ofInt v32)]) (H1 := mz_mk g49 x) rfl ?_
                        refine mz_isub rfl ?_
                        refine mz_imul_w rfl (fun v51 e_v51 hwv51 => ?_)
                        have l_v51 := hwv51.1
                        have u_v51 := hwv51.2
                        replace hE := zf_tr hE (zf_le e_v51.symm)
                        refine mm_g 1 (pc1 := 150) (lo1 := [some (.ref 0), some (.int (Int32.ofInt a1)), some (.int (Int32.ofInt a2)), some (.int (Int32.ofInt a3)), some (.int (Int32.ofInt v15)), some (.int (Int32.ofInt v16)), some (.int (Int32.ofInt v51)), some (.int (Int32.ofInt v33)), some (.int (Int32.ofInt 0))]) (st1 := []) (H1 := mz_mk g49 x) rfl ?_
                        refine mz_iincR (v := v33) (lo2 := [some (.ref 0), some (.int (Int32.ofInt a1)), some (.int (Int32.ofInt a2)), some (.int (Int32.ofInt a3)), some (.int (Int32.ofInt v15)), some (.int (Int32.ofInt v16)), some (.int (Int32.ofInt v51)), some (.int (Int32.ofInt (v33 + 1))), some (.int (Int32.ofInt 0))]) rfl rfl rfl (Nat.le_of_ble_eq_true rfl) rfl ?_
                        refine mz_gt (tgt := 74) rfl rfl ?_
                        exact ih36 ((5 - (v33 + 1)).toNat) (by omega) v51 (v33 + 1) (some (.int (Int32.ofInt 0))) g49 rfl (by omega) (by omega) (by omega) (by omega) (mz_nl_i _) hIg49 (fun k j hk => ((hfg49 k j (fun h => hk (Or.elim h (fun h => (Or.inl h)) (fun h => (Or.elim h (fun h => (Or.inr (Or.inl h))) (fun h => (Or.inr (Or.inr h)))))))).trans (hfg35 k j (fun h => hk (Or.elim h (fun h => (Or.inl h)) (fun h => (Or.elim h (fun h => (Or.inr (Or.inl h))) (fun h => (Or.inr (Or.inr h)))))))))) ⟨fj40, Nat.lt_of_lt_of_le (show ((5 - (v33 + 1)).toNat) < n37 from (by omega)) fn41, hE⟩
                      · exfalso; omega
                    · exfalso; omega
                  · skip
                    replace hE := zf_in hE c87_46
                    refine mm_g 1 (pc1 := 91) (lo1 := [some (.ref 0), some (.int (Int32.ofInt a1)), some (.int (Int32.ofInt a2)), some (.int (Int32.ofInt a3)), some (.int (Int32.ofInt v15)), some (.int (Int32.ofInt v16)), some (.int (Int32.ofInt v32)), some (.int (Int32.ofInt v33)), o34]) (st1 := [.int (Int32.ofInt 1)]) (H1 := mz_mk g35 x) rfl ?_
                    refine mz_gt (tgt := 95) rfl rfl ?_
                    refine mm_g 2 (pc1 := 98) (lo1 := [some (.ref 0), some (.int (Int32.ofInt a1)), some (.int (Int32.ofInt a2)), some (.int (Int32.ofInt a3)), some (.int (Int32.ofInt v15)), some (.int (Int32.ofInt v16)), some (.int (Int32.ofInt v32)), some (.int (Int32.ofInt v33)), some (.int (Int32.ofInt 1))]) (st1 := [.ref 0]) (H1 := mz_mk g35 x) rfl ?_
                    refine mz_fgR (v := x.1) rfl fd_11_16 (by decide) (sc_0 _) rfl ?_
                    refine mm_g 1 (pc1 := 102) (lo1 := [some (.ref 0), some (.int (Int32.ofInt a1)), some (.int (Int32.ofInt a2)), some (.int (Int32.ofInt a3)), some (.int (Int32.ofInt v15)), some (.int (Int32.ofInt v16)), some (.int (Int32.ofInt v32)), some (.int (Int32.ofInt v33)), some (.int (Int32.ofInt 1))]) (st1 := [.ref 0, .ref x.1]) (H1 := mz_mk g35 x) rfl ?_
                    refine mz_fgR (v := 122) rfl fd_11_65 (by decide) (sc_0 _) (rf_0_10 _ _ _) ?_
                    refine mm_g 1 (pc1 := 106) (lo1 := [some (.ref 0), some (.int (Int32.ofInt a1)), some (.int (Int32.ofInt a2)), some (.int (Int32.ofInt a3)), some (.int (Int32.ofInt v15)), some (.int (Int32.ofInt v16)), some (.int (Int32.ofInt v32)), some (.int (Int32.ofInt v33)), some (.int (Int32.ofInt 1))]) (st1 := [.ref 0, .ref 122, .ref x.1]) (H1 := mz_mk g35 x) rfl ?_
                    refine mz_fgR (v := 86) rfl fd_11_37 (by decide) (sc_0 _) (rf_0_5 _ _ _) ?_
                    refine mz_fgR (v := 87) rfl fd_11_158 (by decide) (sc_86 _) (rf_86_0 _ _ _) ?_
                    refine mz_gI rfl fd_11_161 (by decide) (sc_87 _) hIg35 bd_87_3 (fun v52 e_v52 l_v52 u_v52 => ?_)
                    replace hE := zf_tr hE (zf_le e_v52)
                    refine mm_g 1 (pc1 := 117) (lo1 := [some (.ref 0), some (.int (Int32.ofInt a1)), some (.int (Int32.ofInt a2)), some (.int (Int32.ofInt a3)), some (.int (Int32.ofInt v15)), some (.int (Int32.ofInt v16)), some (.int (Int32.ofInt v32)), some (.int (Int32.ofInt v33)), some (.int (Int32.ofInt 1))]) (st1 := [.int (Int32.ofInt v33), .int (Int32.ofInt v52), .ref 122, .ref x.1]) (H1 := mz_mk g35 x) rfl ?_
                    refine mz_iadd_w rfl (fun v53 e_v53 hwv53 => ?_)
                    have l_v53 := hwv53.1
                    have u_v53 := hwv53.2
                    replace hE := zf_tr hE (zf_le e_v53.symm)
                    refine mm_g 1 (pc1 := 120) (lo1 := [some (.ref 0), some (.int (Int32.ofInt a1)), some (.int (Int32.ofInt a2)), some (.int (Int32.ofInt a3)), some (.int (Int32.ofInt v15)), some (.int (Int32.ofInt v16)), some (.int (Int32.ofInt v32)), some (.int (Int32.ofInt v33)), some (.int (Int32.ofInt 1))]) (st1 := [.int (Int32.ofInt 1), .int (Int32.ofInt v53), .ref 122, .ref x.1]) (H1 := mz_mk g35 x) rfl ?_
                    refine mz_if_eq (tgt := 128) rfl rfl ⟨by decide, by decide⟩ (fun c120_53 => ?_) (fun c120_53 => ?_)
                    · exfalso; omega
                    · skip
                      (try unfold zJ_X11_seasons_32 at hE)
                      (try unfold zJ_X11_seasons_33 at hE)
                      (try unfold zJ_X11_seasons_95 at hE)
                      (try unfold zJ_X11_seasons_129 at hE)
                      (try unfold zJ_X11_seasons_147 at hE)
                      (try unfold zJ_X11_seasons_178 at hE)
                      (try unfold zJ_X11_seasons_32 at hE)
                      (try unfold zJ_X11_seasons_33 at hE)
                      (try unfold zJ_X11_seasons_95 at hE)
                      (try unfold zJ_X11_seasons_129 at hE)
                      (try unfold zJ_X11_seasons_147 at hE)
                      (try unfold zJ_X11_seasons_178 at hE)
                      replace hE := zf_in hE c120_53
                      refine mz_bip rfl bip_9 ?_
                      refine mz_gt (tgt := 129) rfl rfl ?_
                      refine mz_cv rfl mt_11_312 (by decide) (kc_load (kx_1 hx) _) rfl (Nat.le_of_ble_eq_true rfl) (by omega) (f_X1_grow (by omega) hx hIg35 (kx_1 hx) kp_trunk_122 l_v53 u_v53 (by decide) (by decide) (fun g54 hIg54 hfg54 hc55 => ⟨_, rfl, ?_⟩))
                      show mm_W d mmX11_seasons 132 [some (.ref 0), some (.int (Int32.ofInt a1)), some (.int (Int32.ofInt a2)), some (.int (Int32.ofInt a3)), some (.int (Int32.ofInt v15)), some (.int (Int32.ofInt v16)), some (.int (Int32.ofInt v32)), some (.int (Int32.ofInt v33)), some (.int (Int32.ofInt 1))] [] (mz_mk g54 x) Q
                      replace hE := zf_t1 hE hc55
                      refine mm_g 2 (pc1 := 136) (lo1 := [some (.ref 0), some (.int (Int32.ofInt a1)), some (.int (Int32.ofInt a2)), some (.int (Int32.ofInt a3)), some (.int (Int32.ofInt v15)), some (.int (Int32.ofInt v16)), some (.int (Int32.ofInt v32)), some (.int (Int32.ofInt v33)), some (.int (Int32.ofInt 1))]) (st1 := [.int (Int32.ofInt 1), .int (Int32.ofInt v32)]) (H1 := mz_mk g54 x) rfl ?_
                      refine mz_if_eq (tgt := 143) rfl rfl ⟨by decide, by decide⟩ (fun c136_55 => ?_) (fun c136_55 => ?_)
                      · exfalso; omega
                      · skip
                        (try unfold zJ_X11_seasons_32 at hE)
                        (try unfold zJ_X11_seasons_33 at hE)
                        (try unfold zJ_X11_seasons_95 at hE)
                        (try unfold zJ_X11_seasons_129 at hE)
                        (try unfold zJ_X11_seasons_147 at hE)
                        (try unfold zJ_X11_seasons_178 at hE)
                        (try unfold zJ_X11_seasons_32 at hE)
                        (try unfold zJ_X11_seasons_33 at hE)
                        (try unfold zJ_X11_seasons_95 at hE)
                        (try unfold zJ_X11_seasons_129 at hE)
                        (try unfold zJ_X11_seasons_147 at hE)
                        (try unfold zJ_X11_seasons_178 at hE)
                        replace hE := zf_in hE c136_55
                        refine mm_g 1 (pc1 := 140) (lo1 := [some (.ref 0), some (.int (Int32.ofInt a1)), some (.int (Int32.ofInt a2)), some (.int (Int32.ofInt a3)), some (.int (Int32.ofInt v15)), some (.int (Int32.ofInt v16)), some (.int (Int32.ofInt v32)), some (.int (Int32.ofInt v33)), some (.int (Int32.ofInt 1))]) (st1 := [.int (Int32.ofInt a3), .int (Int32.ofInt v32)]) (H1 := mz_mk g54 x) rfl ?_
                        refine mz_gt (tgt := 147) rfl rfl ?_
                        refine mz_imul_w rfl (fun v56 e_v56 hwv56 => ?_)
                        have l_v56 := hwv56.1
                        have u_v56 := hwv56.2
                        replace hE := zf_tr hE (zf_le e_v56.symm)
                        refine mm_g 1 (pc1 := 150) (lo1 := [some (.ref 0), some (.int (Int32.ofInt a1)), some (.int (Int32.ofInt a2)), some (.int (Int32.ofInt a3)), some (.int (Int32.ofInt v15)), some (.int (Int32.ofInt v16)), some (.int (Int32.ofInt v56)), some (.int (Int32.ofInt v33)), some (.int (Int32.ofInt 1))]) (st1 := []) (H1 := mz_mk g54 x) rfl ?_
                        refine mz_iincR (v := v33) (lo2 := [some (.ref 0), some (.int (Int32.ofInt a1)), some (.int (Int32.ofInt a2)), some (.int (Int32.ofInt a3)), some (.int (Int32.ofInt v15)), some (.int (Int32.ofInt v16)), some (.int (Int32.ofInt v56)), some (.int (Int32.ofInt (v33 + 1))), some (.int (Int32.ofInt 1))]) rfl rfl rfl (Nat.le_of_ble_eq_true rfl) rfl ?_
                        refine mz_gt (tgt := 74) rfl rfl ?_
                        exact ih36 ((5 - (v33 + 1)).toNat) (by omega) v56 (v33 + 1) (some (.int (Int32.ofInt 1))) g54 rfl (by omega) (by omega) (by omega) (by omega) (mz_nl_i _) hIg54 (fun k j hk => ((hfg54 k j (fun h => hk (Or.elim h (fun h => (Or.inl h)) (fun h => (Or.elim h (fun h => (Or.inr (Or.inl h))) (fun h => (Or.inr (Or.inr h)))))))).trans (hfg35 k j (fun h => hk (Or.elim h (fun h => (Or.inl h)) (fun h => (Or.elim h (fun h => (Or.inr (Or.inl h))) (fun h => (Or.inr (Or.inr h)))))))))) ⟨fj40, Nat.lt_of_lt_of_le (show ((5 - (v33 + 1)).toNat) < n37 from (by omega)) fn41, hE⟩
              exact L39 _ 1 0 o19 g30 rfl (by decide) (by decide) (by decide) (by decide) h_o19 hIg30 (fun _ _ _ => rfl) ⟨3000000000, by omega, zf_rf⟩
          exact L23 _ 0 0 none none none g rfl (by decide) (by decide) (by decide) (by decide) mz_nl_n mz_nl_n mz_nl_n hI (fun _ _ _ => rfl) ⟨3000000000, by omega, hE⟩
def fw_X11_ownGain (x : mm_X) (a1 : Int) (a2 : Int) : Nat → Nat → Prop := fun k j => k = 122 ∨ k = ((x.1 + 36) + 2) ∨ k = ((x.1 + 36) + 3)
theorem f_X11_ownGain {d : Nat} (hd : 16 ≤ d) {x : mm_X} (hx : mk_x x) {g : mz_G} (hI : mz_inv g) {a1 : Int} (l_a1 : (-2147483648) ≤ a1) (u_a1 : a1 ≤ 2147483647) {a2 : Int} (l_a2 : (-2147483648) ≤ a2) (u_a2 : a2 ≤ 2147483647) {Q : (Option Value ⊕ Nat) → mm_H → Prop} (hQ : ∀ (r : Int) (g1 : mz_G), mz_inv g1 → mz_fr (fw_X11_ownGain x a1 a2) g g1 → (-2147483648) ≤ r → r ≤ 2147483647 → zf_E (zF_X11_ownGain x a1 a2 g) ((r, g1)) → Q (.inl (some (.int (Int32.ofInt r)))) (mz_mk g1 x)) : mm_C d 165 [.ref 0, .int (Int32.ofInt a1), .int (Int32.ofInt a2)] (mz_mk g x) Q := by
  have kx := kn_x hx
  refine ⟨mmX11_ownGain, [some (.ref 0), some (.int (Int32.ofInt a1)), some (.int (Int32.ofInt a2))], rfl, rfl, ?_⟩
  have hE : zf_E (zF_X11_ownGain x a1 a2 g) (zF_X11_ownGain x a1 a2 g) := zf_rf
  refine mm_g 4 (pc1 := 4) (lo1 := [some (.ref 0), some (.int (Int32.ofInt a1)), some (.int (Int32.ofInt a2))]) (st1 := [.int (Int32.ofInt 1), .int (Int32.ofInt a2), .int (Int32.ofInt a1), .ref 0]) (H1 := mz_mk g x) rfl ?_
  refine mz_ic_ne (tgt := 12) rfl rfl (mz_rg l_a2 u_a2) ⟨by decide, by decide⟩ (fun c4_0 => ?_) (fun c4_0 => ?_)
  · skip
    replace hE := zf_in hE c4_0
    refine mm_g 1 (pc1 := 13) (lo1 := [some (.ref 0), some (.int (Int32.ofInt a1)), some (.int (Int32.ofInt a2))]) (st1 := [.ref 0, .int (Int32.ofInt a1), .ref 0]) (H1 := mz_mk g x) rfl ?_
    refine mz_fgR (v := 86) rfl fd_11_37 (by decide) (sc_0 _) (rf_0_5 _ _ _) ?_
    refine mz_fgR (v := 87) rfl fd_11_158 (by decide) (sc_86 _) (rf_86_0 _ _ _) ?_
    refine mm_g 1 (pc1 := 20) (lo1 := [some (.ref 0), some (.int (Int32.ofInt a1)), some (.int (Int32.ofInt a2))]) (st1 := [.int (Int32.ofInt a1), .ref 87, .int (Int32.ofInt a1), .ref 0]) (H1 := mz_mk g x) rfl ?_
    refine mz_cv rfl mt_11_192 (by decide) (sc_87 _) rfl (Nat.le_of_ble_eq_true rfl) (by omega) (f_X9_get (by omega) hx hI kp_tks_87 l_a1 u_a1 (fun u1 k_u1 hp2 hc3 => ⟨_, rfl, ?_⟩))
    show mm_W d mmX11_ownGain 23 [some (.ref 0), some (.int (Int32.ofInt a1)), some (.int (Int32.ofInt a2))] [.ref u1, .int (Int32.ofInt a1), .ref 0] (mz_mk g x) Q
    replace hE := zf_t1 hE hc3
    refine mz_gI rfl fd_11_234 (by decide) (kc_trunk k_u1 _) hI (kb_trunk_2 k_u1) (fun v4 e_v4 l_v4 u_v4 => ?_)
    replace hE := zf_tr hE (zf_le e_v4)
    refine mm_g 1 (pc1 := 27) (lo1 := [some (.ref 0), some (.int (Int32.ofInt a1)), some (.int (Int32.ofInt a2))]) (st1 := [.int (Int32.ofInt 4), .int (Int32.ofInt v4), .int (Int32.ofInt a1), .ref 0]) (H1 := mz_mk g x) rfl ?_
    refine mz_cv rfl mt_11_282 (by decide) (sc_0 _) rfl (Nat.le_of_ble_eq_true rfl) (by omega) (f_X11_growProbe (by omega) hx hI l_a1 u_a1 l_v4 u_v4 (by decide) (by decide) (fun g5 hIg5 hfg5 hc6 => ⟨_, rfl, ?_⟩))
    show mm_W d mmX11_ownGain 30 [some (.ref 0), some (.int (Int32.ofInt a1)), some (.int (Int32.ofInt a2))] [] (mz_mk g5 x) Q
    replace hE := zf_t1 hE hc6
    refine mm_g 1 (pc1 := 31) (lo1 := [some (.ref 0), some (.int (Int32.ofInt a1)), some (.int (Int32.ofInt a2))]) (st1 := [.ref 0]) (H1 := mz_mk g5 x) rfl ?_
    refine mz_fgR (v := x.1) rfl fd_11_16 (by decide) (sc_0 _) rfl ?_
    refine mm_g 1 (pc1 := 35) (lo1 := [some (.ref 0), some (.int (Int32.ofInt a1)), some (.int (Int32.ofInt a2))]) (st1 := [.ref 0, .ref x.1]) (H1 := mz_mk g5 x) rfl ?_
    refine mz_fgR (v := 122) rfl fd_11_65 (by decide) (sc_0 _) (rf_0_10 _ _ _) ?_
    refine mz_cv rfl mt_11_244 (by decide) (kc_load (kx_1 hx) _) rfl (Nat.le_of_ble_eq_true rfl) (by omega) (f_X1_blendSize (by omega) hx hIg5 (kx_1 hx) kp_trunk_122 (fun v7 l_v7 u_v7 hc8 => ⟨_, rfl, ?_⟩))
    show mm_W d mmX11_ownGain 41 [some (.ref 0), some (.int (Int32.ofInt a1)), some (.int (Int32.ofInt a2))] [.int (Int32.ofInt v7)] (mz_mk g5 x) Q
    replace hE := zf_t1 hE hc8
    refine mm_g 1 (pc1 := 42) (lo1 := [some (.ref 0), some (.int (Int32.ofInt a1)), some (.int (Int32.ofInt a2))]) (st1 := [.int (Int32.ofInt a2), .int (Int32.ofInt v7)]) (H1 := mz_mk g5 x) rfl ?_
    refine mz_isub_w rfl (fun v9 e_v9 hwv9 => ?_)
    have l_v9 := hwv9.1
    have u_v9 := hwv9.2
    replace hE := zf_tr hE (zf_le e_v9.symm)
    exact mm_rt rfl rfl (hQ _ _ hIg5 (fun k j hk => (hfg5 k j (fun h => hk (Or.elim h (fun h => (Or.inl h)) (fun h => (Or.elim h (fun h => (Or.inr (Or.inl h))) (fun h => (Or.inr (Or.inr h))))))))) (by omega) (by omega) hE)
  · skip
    replace hE := zf_ip hE c4_0
    refine mz_bip rfl bip_9 ?_
    refine mz_gt (tgt := 26) rfl rfl ?_
    refine mm_g 1 (pc1 := 27) (lo1 := [some (.ref 0), some (.int (Int32.ofInt a1)), some (.int (Int32.ofInt a2))]) (st1 := [.int (Int32.ofInt 4), .int (Int32.ofInt 9), .int (Int32.ofInt a1), .ref 0]) (H1 := mz_mk g x) rfl ?_
    refine mz_cv rfl mt_11_282 (by decide) (sc_0 _) rfl (Nat.le_of_ble_eq_true rfl) (by omega) (f_X11_growProbe (by omega) hx hI l_a1 u_a1 (by decide) (by decide) (by decide) (by decide) (fun g10 hIg10 hfg10 hc11 => ⟨_, rfl, ?_⟩))
    show mm_W d mmX11_ownGain 30 [some (.ref 0), some (.int (Int32.ofInt a1)), some (.int (Int32.ofInt a2))] [] (mz_mk g10 x) Q
    replace hE := zf_t1 hE hc11
    refine mm_g 1 (pc1 := 31) (lo1 := [some (.ref 0), some (.int (Int32.ofInt a1)), some (.int (Int32.ofInt a2))]) (st1 := [.ref 0]) (H1 := mz_mk g10 x) rfl ?_
    refine mz_fgR (v := x.1) rfl fd_11_16 (by decide) (sc_0 _) rfl ?_
    refine mm_g 1 (pc1 := 35) (lo1 := [some (.ref 0), some (.int (Int32.ofInt a1)), some (.int (Int32.ofInt a2))]) (st1 := [.ref 0, .ref x.1]) (H1 := mz_mk g10 x) rfl ?_
    refine mz_fgR (v := 122) rfl fd_11_65 (by decide) (sc_0 _) (rf_0_10 _ _ _) ?_
    refine mz_cv rfl mt_11_244 (by decide) (kc_load (kx_1 hx) _) rfl (Nat.le_of_ble_eq_true rfl) (by omega) (f_X1_blendSize (by omega) hx hIg10 (kx_1 hx) kp_trunk_122 (fun v12 l_v12 u_v12 hc13 => ⟨_, rfl, ?_⟩))
    show mm_W d mmX11_ownGain 41 [some (.ref 0), some (.int (Int32.ofInt a1)), some (.int (Int32.ofInt a2))] [.int (Int32.ofInt v12)] (mz_mk g10 x) Q
    replace hE := zf_t1 hE hc13
    refine mm_g 1 (pc1 := 42) (lo1 := [some (.ref 0), some (.int (Int32.ofInt a1)), some (.int (Int32.ofInt a2))]) (st1 := [.int (Int32.ofInt a2), .int (Int32.ofInt v12)]) (H1 := mz_mk g10 x) rfl ?_
    refine mz_isub_w rfl (fun v14 e_v14 hwv14 => ?_)
    have l_v14 := hwv14.1
    have u_v14 := hwv14.2
    replace hE := zf_tr hE (zf_le e_v14.symm)
    exact mm_rt rfl rfl (hQ _ _ hIg10 (fun k j hk => (hfg10 k j (fun h => hk (Or.elim h (fun h => (Or.inl h)) (fun h => (Or.elim h (fun h => (Or.inr (Or.inl h))) (fun h => (Or.inr (Or.inr h))))))))) (by omega) (by omega) hE)
def fl_X11_game_55 (x : mm_X) (a1 : Int) (a2 : Int) (a3 : Int) : Nat → Nat → Prop := fun k j => k = 122 ∨ k = ((x.1 + 36) + 2) ∨ k = ((x.1 + 36) + 3)
def fl_X11_game_64 (x : mm_X) (a1 : Int) (a2 : Int) (a3 : Int) : Nat → Nat → Prop := fun k j => k = 122 ∨ k = ((x.1 + 36) + 2) ∨ k = ((x.1 + 36) + 3)
def fw_X11_game (x : mm_X) (a1 : Int) (a2 : Int) (a3 : Int) : Nat → Nat → Prop := fun k j => k = 122 ∨ k = ((x.1 + 36) + 2) ∨ k = ((x.1 + 36) + 3)
theorem f_X11_game {d : Nat} (hd : 17 ≤ d) {x : mm_X} (hx : mk_x x) {g : mz_G} (hI : mz_inv g) {a1 : Int} (l_a1 : (-2147483648) ≤ a1) (u_a1 : a1 ≤ 2147483647) {a2 : Int} (l_a2 : (-2147483648) ≤ a2) (u_a2 : a2 ≤ 2147483647) {a3 : Int} (l_a3 : (-2147483648) ≤ a3) (u_a3 : a3 ≤ 2147483647) {Q : (Option Value ⊕ Nat) → mm_H → Prop} (hQ : ∀ (r : Int) (g1 : mz_G), mz_inv g1 → mz_fr (fw_X11_game x a1 a2 a3) g g1 → (-2147483648) ≤ r → r ≤ 2147483647 → zf_E (zF_X11_game x a1 a2 a3 g) ((0, r, g1)) → Q (.inl (some (.int (Int32.ofInt r)))) (mz_mk g1 x)) (hX0 : (zf_E (zF_X11_game x a1 a2 a3 g) ((1, 0, g))) → Q (.inr 0) (mz_mk g (mz_tx x))) (hX1 : (zf_E (zF_X11_game x a1 a2 a3 g) ((2, 0, g))) → Q (.inr 1) (mz_mk g (mz_tx x))) : mm_C d 164 [.ref 0, .int (Int32.ofInt a1), .int (Int32.ofInt a2), .int (Int32.ofInt a3)] (mz_mk g x) Q := by
  have kx := kn_x hx
  refine ⟨mmX11_game, [some (.ref 0), some (.int (Int32.ofInt a1)), some (.int (Int32.ofInt a2)), some (.int (Int32.ofInt a3)), none, none, none, none], rfl, rfl, ?_⟩
  have hE : zf_E (zF_X11_game x a1 a2 a3 g) (zF_X11_game x a1 a2 a3 g) := zf_rf
  refine mm_g 2 (pc1 := 2) (lo1 := [some (.ref 0), some (.int (Int32.ofInt a1)), some (.int (Int32.ofInt a2)), some (.int (Int32.ofInt a3)), none, none, none, none]) (st1 := [.int (Int32.ofInt a1), .ref 0]) (H1 := mz_mk g x) rfl ?_
  refine mz_cv rfl mt_11_231 (by decide) (sc_0 _) rfl (Nat.le_of_ble_eq_true rfl) (by omega) (f_X11_isTrunk (by omega) hx hI l_a1 u_a1 (fun v1 l_v1 u_v1 hc2 => ⟨_, rfl, ?_⟩))
  show mm_W d mmX11_game 5 [some (.ref 0), some (.int (Int32.ofInt a1)), some (.int (Int32.ofInt a2)), some (.int (Int32.ofInt a3)), none, none, none, none] [.int (Int32.ofInt v1)] (mz_mk g x) Q
  replace hE := zf_t1 hE hc2
  refine mz_if_eq (tgt := 29) rfl rfl (mz_rg l_v1 u_v1) (fun c5_2 => ?_) (fun c5_2 => ?_)
  · skip
    replace hE := zf_ip hE c5_2
    refine mm_g 1 (pc1 := 30) (lo1 := [some (.ref 0), some (.int (Int32.ofInt a1)), some (.int (Int32.ofInt a2)), some (.int (Int32.ofInt a3)), none, none, none, none]) (st1 := [.int (Int32.ofInt 0)]) (H1 := mz_mk g x) rfl ?_
    (try unfold zJ_X11_game_29 at hE)
    (try unfold zJ_X11_game_30 at hE)
    (try unfold zJ_X11_game_43 at hE)
    (try unfold zJ_X11_game_132 at hE)
    (try unfold zJ_X11_game_127 at hE)
    (try unfold zJ_X11_game_25 at hE)
    (try unfold zJ_X11_game_29 at hE)
    (try unfold zJ_X11_game_30 at hE)
    (try unfold zJ_X11_game_43 at hE)
    (try unfold zJ_X11_game_132 at hE)
    (try unfold zJ_X11_game_127 at hE)
    (try unfold zJ_X11_game_25 at hE)
    refine mz_csx rfl mt_11_183 rfl (Nat.le_of_ble_eq_true rfl) (by omega) rfl nh_X11_mustBe (f_X11_mustBe (by omega) hx hI (by decide) (by decide) (fun hp3 hc4 => ?_) (fun hc => hX0 (zf_x2 hE hc (by decide))))
    show mm_W d mmX11_game 33 [some (.ref 0), some (.int (Int32.ofInt a1)), some (.int (Int32.ofInt a2)), some (.int (Int32.ofInt a3)), none, none, none, none] [] (mz_mk g x) Q
    replace hE := zf_x1 hE hc4
    exfalso; omega
  · skip
    replace hE := zf_in hE c5_2
    refine mm_g 2 (pc1 := 10) (lo1 := [some (.ref 0), some (.int (Int32.ofInt a1)), some (.int (Int32.ofInt a2)), some (.int (Int32.ofInt a3)), none, none, none, none]) (st1 := [.int (Int32.ofInt a2), .ref 0]) (H1 := mz_mk g x) rfl ?_
    refine mz_cv rfl mt_11_231 (by decide) (sc_0 _) rfl (Nat.le_of_ble_eq_true rfl) (by omega) (f_X11_isTrunk (by omega) hx hI l_a2 u_a2 (fun v5 l_v5 u_v5 hc6 => ⟨_, rfl, ?_⟩))
    show mm_W d mmX11_game 13 [some (.ref 0), some (.int (Int32.ofInt a1)), some (.int (Int32.ofInt a2)), some (.int (Int32.ofInt a3)), none, none, none, none] [.int (Int32.ofInt v5)] (mz_mk g x) Q
    replace hE := zf_t1 hE hc6
    refine mz_if_eq (tgt := 29) rfl rfl (mz_rg l_v5 u_v5) (fun c13_6 => ?_) (fun c13_6 => ?_)
    · skip
      replace hE := zf_ip hE c13_6
      refine mm_g 1 (pc1 := 30) (lo1 := [some (.ref 0), some (.int (Int32.ofInt a1)), some (.int (Int32.ofInt a2)), some (.int (Int32.ofInt a3)), none, none, none, none]) (st1 := [.int (Int32.ofInt 0)]) (H1 := mz_mk g x) rfl ?_
      (try unfold zJ_X11_game_29 at hE)
      (try unfold zJ_X11_game_30 at hE)
      (try unfold zJ_X11_game_43 at hE)
      (try unfold zJ_X11_game_132 at hE)
      (try unfold zJ_X11_game_127 at hE)
      (try unfold zJ_X11_game_25 at hE)
      (try unfold zJ_X11_game_29 at hE)
      (try unfold zJ_X11_game_30 at hE)
      (try unfold zJ_X11_game_43 at hE)
      (try unfold zJ_X11_game_132 at hE)
      (try unfold zJ_X11_game_127 at hE)
      (try unfold zJ_X11_game_25 at hE)
      refine mz_csx rfl mt_11_183 rfl (Nat.le_of_ble_eq_true rfl) (by omega) rfl nh_X11_mustBe (f_X11_mustBe (by omega) hx hI (by decide) (by decide) (fun hp7 hc8 => ?_) (fun hc => hX0 (zf_x2 hE hc (by decide))))
      show mm_W d mmX11_game 33 [some (.ref 0), some (.int (Int32.ofInt a1)), some (.int (Int32.ofInt a2)), some (.int (Int32.ofInt a3)), none, none, none, none] [] (mz_mk g x) Q
      replace hE := zf_x1 hE hc8
      exfalso; omega
    · skip
      replace hE := zf_in hE c13_6
      refine mm_g 1 (pc1 := 17) (lo1 := [some (.ref 0), some (.int (Int32.ofInt a1)), some (.int (Int32.ofInt a2)), some (.int (Int32.ofInt a3)), none, none, none, none]) (st1 := [.int (Int32.ofInt a3)]) (H1 := mz_mk g x) rfl ?_
      refine mz_if_eq (tgt := 25) rfl rfl (mz_rg l_a3 u_a3) (fun c17_8 => ?_) (fun c17_8 => ?_)
      · skip
        replace hE := zf_ip hE c17_8
        refine mm_g 1 (pc1 := 26) (lo1 := [some (.ref 0), some (.int (Int32.ofInt a1)), some (.int (Int32.ofInt a2)), some (.int (Int32.ofInt a3)), none, none, none, none]) (st1 := [.int (Int32.ofInt 1)]) (H1 := mz_mk g x) rfl ?_
        refine mz_gt (tgt := 30) rfl rfl ?_
        (try unfold zJ_X11_game_29 at hE)
        (try unfold zJ_X11_game_30 at hE)
        (try unfold zJ_X11_game_43 at hE)
        (try unfold zJ_X11_game_132 at hE)
        (try unfold zJ_X11_game_127 at hE)
        (try unfold zJ_X11_game_25 at hE)
        (try unfold zJ_X11_game_29 at hE)
        (try unfold zJ_X11_game_30 at hE)
        (try unfold zJ_X11_game_43 at hE)
        (try unfold zJ_X11_game_132 at hE)
        (try unfold zJ_X11_game_127 at hE)
        (try unfold zJ_X11_game_25 at hE)
        refine mz_csx rfl mt_11_183 rfl (Nat.le_of_ble_eq_true rfl) (by omega) rfl nh_X11_mustBe (f_X11_mustBe (by omega) hx hI (by decide) (by decide) (fun hp9 hc10 => ?_) (fun hc => hX0 (zf_x2 hE hc (by decide))))
        show mm_W d mmX11_game 33 [some (.ref 0), some (.int (Int32.ofInt a1)), some (.int (Int32.ofInt a2)), some (.int (Int32.ofInt a3)), none, none, none, none] [] (mz_mk g x) Q
        replace hE := zf_x1 hE hc10
        refine mm_g 2 (pc1 := 35) (lo1 := [some (.ref 0), some (.int (Int32.ofInt a1)), some (.int (Int32.ofInt a2)), some (.int (Int32.ofInt a3)), none, none, none, none]) (st1 := [.int (Int32.ofInt a2), .int (Int32.ofInt a1)]) (H1 := mz_mk g x) rfl ?_
        refine mz_ic_eq (tgt := 42) rfl rfl (mz_rg l_a1 u_a1) (mz_rg l_a2 u_a2) (fun c35_10 => ?_) (fun c35_10 => ?_)
        · skip
          replace hE := zf_ip hE c35_10
          refine mm_g 1 (pc1 := 43) (lo1 := [some (.ref 0), some (.int (Int32.ofInt a1)), some (.int (Int32.ofInt a2)), some (.int (Int32.ofInt a3)), none, none, none, none]) (st1 := [.int (Int32.ofInt 0)]) (H1 := mz_mk g x) rfl ?_
          (try unfold zJ_X11_game_29 at hE)
          (try unfold zJ_X11_game_30 at hE)
          (try unfold zJ_X11_game_43 at hE)
          (try unfold zJ_X11_game_132 at hE)
          (try unfold zJ_X11_game_127 at hE)
          (try unfold zJ_X11_game_25 at hE)
          (try unfold zJ_X11_game_29 at hE)
          (try unfold zJ_X11_game_30 at hE)
          (try unfold zJ_X11_game_43 at hE)
          (try unfold zJ_X11_game_132 at hE)
          (try unfold zJ_X11_game_127 at hE)
          (try unfold zJ_X11_game_25 at hE)
          refine mz_csx rfl mt_11_106 rfl (Nat.le_of_ble_eq_true rfl) (by omega) rfl nh_X11_mustFit (f_X11_mustFit (by omega) hx hI (by decide) (by decide) (fun hp11 hc12 => ?_) (fun hc => hX1 (zf_x2 hE hc (by decide))))
          show mm_W d mmX11_game 46 [some (.ref 0), some (.int (Int32.ofInt a1)), some (.int (Int32.ofInt a2)), some (.int (Int32.ofInt a3)), none, none, none, none] [] (mz_mk g x) Q
          replace hE := zf_x1 hE hc12
          exfalso; omega
        · skip
          replace hE := zf_in hE c35_10
          refine mm_g 1 (pc1 := 39) (lo1 := [some (.ref 0), some (.int (Int32.ofInt a1)), some (.int (Int32.ofInt a2)), some (.int (Int32.ofInt a3)), none, none, none, none]) (st1 := [.int (Int32.ofInt 1)]) (H1 := mz_mk g x) rfl ?_
          refine mz_gt (tgt := 43) rfl rfl ?_
          (try unfold zJ_X11_game_29 at hE)
          (try unfold zJ_X11_game_30 at hE)
          (try unfold zJ_X11_game_43 at hE)
          (try unfold zJ_X11_game_132 at hE)
          (try unfold zJ_X11_game_127 at hE)
          (try unfold zJ_X11_game_25 at hE)
          (try unfold zJ_X11_game_29 at hE)
          (try unfold zJ_X11_game_30 at hE)
          (try unfold zJ_X11_game_43 at hE)
          (try unfold zJ_X11_game_132 at hE)
          (try unfold zJ_X11_game_127 at hE)
          (try unfold zJ_X11_game_25 at hE)
          refine mz_csx rfl mt_11_106 rfl (Nat.le_of_ble_eq_true rfl) (by omega) rfl nh_X11_mustFit (f_X11_mustFit (by omega) hx hI (by decide) (by decide) (fun hp13 hc14 => ?_) (fun hc => hX1 (zf_x2 hE hc (by decide))))
          show mm_W d mmX11_game 46 [some (.ref 0), some (.int (Int32.ofInt a1)), some (.int (Int32.ofInt a2)), some (.int (Int32.ofInt a3)), none, none, none, none] [] (mz_mk g x) Q
          replace hE := zf_x1 hE hc14
          refine mm_g 6 (pc1 := 55) (lo1 := [some (.ref 0), some (.int (Int32.ofInt a1)), some (.int (Int32.ofInt a2)), some (.int (Int32.ofInt a3)), some (.int (Int32.ofInt 0)), some (.int (Int32.ofInt (-1))), some (.int (Int32.ofInt 0)), none]) (st1 := []) (H1 := mz_mk g x) rfl ?_
          have L22 : ∀ n21 : Nat, ∀ (v15 : Int) (v16 : Int) (v17 : Int) (o18 : Option Value) (g19 : mz_G), (2 - v17).toNat = n21 → (-2147483648) ≤ v15 → v15 ≤ 2147483647 → (-1) ≤ v16 → v16 ≤ 15 → 0 ≤ v17 → v17 ≤ 2 → mz_nl o18 → mz_inv g19 → mz_fr (fl_X11_game_55 x a1 a2 a3) g g19 → (∃ fk : Nat, (2 - v17).toNat < fk ∧ zf_E (zF_X11_game x a1 a2 a3 g) (zL_X11_game_55 x a1 a2 a3 fk v15 v16 v17 g19)) → mm_W d mmX11_game 55 [some (.ref 0), some (.int (Int32.ofInt a1)), some (.int (Int32.ofInt a2)), some (.int (Int32.ofInt a3)), some (.int (Int32.ofInt v15)), some (.int (Int32.ofInt v16)), some (.int (Int32.ofInt v17)), o18] [] (mz_mk g19 x) Q := by
            intro n21
            induction n21 using Nat.strongRecOn with
            | ind n21 ih20 =>
            intro v15 v16 v17 o18 g19 hmn21 l_v15 u_v15 l_v16 u_v16 l_v17 u_v17 h_o18 hIg19 hfg19 hF
            obtain ⟨fk, fl, hE⟩ := hF
            obtain ⟨fj23, rfl⟩ : ∃ fj, fk = fj + 1 := ⟨fk - 1, by omega⟩
            have fn24 : n21 ≤ fj23 := by omega
            replace hE := zf_tr hE zL_X11_game_55_s
            refine mm_g 2 (pc1 := 58) (lo1 := [some (.ref 0), some (.int (Int32.ofInt a1)), some (.int (Int32.ofInt a2)), some (.int (Int32.ofInt a3)), some (.int (Int32.ofInt v15)), some (.int (Int32.ofInt v16)), some (.int (Int32.ofInt v17)), o18]) (st1 := [.int (Int32.ofInt 1), .int (Int32.ofInt v17)]) (H1 := mz_mk g19 x) rfl ?_
            refine mz_ic_gt (tgt := 144) rfl rfl (mz_rg l_v17 u_v17) ⟨by decide, by decide⟩ (fun c58_24 => ?_) (fun c58_24 => ?_)
            · skip
              replace hE := zf_ip hE c58_24
              refine mm_g 1 (pc1 := 145) (lo1 := [some (.ref 0), some (.int (Int32.ofInt a1)), some (.int (Int32.ofInt a2)), some (.int (Int32.ofInt a3)), some (.int (Int32.ofInt v15)), some (.int (Int32.ofInt v16)), some (.int (Int32.ofInt v17)), o18]) (st1 := [.int (Int32.ofInt a3)]) (H1 := mz_mk g19 x) rfl ?_
              refine mz_if_ne (tgt := 153) rfl rfl (mz_rg l_a3 u_a3) (fun c145_24 => ?_) (fun c145_24 => ?_)
              · exfalso; omega
              · skip
                replace hE := zf_ip hE c145_24
                refine mm_g 1 (pc1 := 150) (lo1 := [some (.ref 0), some (.int (Int32.ofInt a1)), some (.int (Int32.ofInt a2)), some (.int (Int32.ofInt a3)), some (.int (Int32.ofInt v15)), some (.int (Int32.ofInt v16)), some (.int (Int32.ofInt v17)), o18]) (st1 := [.int (Int32.ofInt v15)]) (H1 := mz_mk g19 x) rfl ?_
                refine mz_gt (tgt := 155) rfl rfl ?_
                exact mm_rt rfl rfl (hQ _ _ hIg19 (fun k j hk => (hfg19 k j (fun h => hk (Or.elim h (fun h => (Or.inl h)) (fun h => (Or.elim h (fun h => (Or.inr (Or.inl h))) (fun h => (Or.inr (Or.inr h))))))))) (by omega) (by omega) hE)
            · skip
              replace hE := zf_nl hE c58_24
              refine mm_g 2 (pc1 := 64) (lo1 := [some (.ref 0), some (.int (Int32.ofInt a1)), some (.int (Int32.ofInt a2)), some (.int (Int32.ofInt a3)), some (.int (Int32.ofInt v15)), some (.int (Int32.ofInt v16)), some (.int (Int32.ofInt v17)), some (.int (Int32.ofInt 0))]) (st1 := []) (H1 := mz_mk g19 x) rfl ?_
              have hO31 := hE
              have L32 : ∀ n30 : Nat, ∀ (v25 : Int) (v26 : Int) (v27 : Int) (g28 : mz_G), (2 - v27).toNat = n30 → (-2147483648) ≤ v25 → v25 ≤ 2147483647 → (-1) ≤ v26 → v26 ≤ 15 → 0 ≤ v27 → v27 ≤ 2 → mz_inv g28 → mz_fr (fl_X11_game_64 x a1 a2 a3) g19 g28 → (∃ fk : Nat, (2 - v27).toNat < fk ∧ zf_E (zL_X11_game_64 x a1 a2 a3 3000000000 v15 v16 v17 0 g19) (zL_X11_game_64 x a1 a2 a3 fk v25 v26 v17 v27 g28)) → mm_W d mmX11_game 64 [some (.ref 0), some (.int (Int32.ofInt a1)), some (.int (Int32.ofInt a2)), some (.int (Int32.ofInt a3)), some (.int (Int32.ofInt v25)), some (.int (Int32.ofInt v26)), some (.int (Int32.ofInt v17)), some (.int (Int32.ofInt v27))] [] (mz_mk g28 x) Q := by
                intro n30
                induction n30 using Nat.strongRecOn with
                | ind n30 ih29 =>
                intro v25 v26 v27 g28 hmn30 l_v25 u_v25 l_v26 u_v26 l_v27 u_v27 hIg28 hfg28 hF
                obtain ⟨fk, fl, hE⟩ := hF
                obtain ⟨fj33, rfl⟩ : ∃ fj, fk = fj + 1 := ⟨fk - 1, by omega⟩
                have fn34 : n30 ≤ fj33 := by omega
                replace hE := zf_tr hE zL_X11_game_64_s
                refine mm_g 2 (pc1 := 67) (lo1 := [some (.ref 0), some (.int (Int32.ofInt a1)), some (.int (Int32.ofInt a2)), some (.int (Int32.ofInt a3)), some (.int (Int32.ofInt v25)), some (.int (Int32.ofInt v26)), some (.int (Int32.ofInt v17)), some (.int (Int32.ofInt v27))]) (st1 := [.int (Int32.ofInt 1), .int (Int32.ofInt v27)]) (H1 := mz_mk g28 x) rfl ?_
                refine mz_ic_gt (tgt := 138) rfl rfl (mz_rg l_v27 u_v27) ⟨by decide, by decide⟩ (fun c67_34 => ?_) (fun c67_34 => ?_)
                · skip
                  replace hE := zf_ip hE c67_34
                  replace hE := zf_t3 hO31 hE
                  refine mz_iincR (v := v17) (lo2 := [some (.ref 0), some (.int (Int32.ofInt a1)), some (.int (Int32.ofInt a2)), some (.int (Int32.ofInt a3)), some (.int (Int32.ofInt v25)), some (.int (Int32.ofInt v26)), some (.int (Int32.ofInt (v17 + 1))), some (.int (Int32.ofInt v27))]) rfl rfl rfl (Nat.le_of_ble_eq_true rfl) rfl ?_
                  refine mz_gt (tgt := 55) rfl rfl ?_
                  exact ih20 ((2 - (v17 + 1)).toNat) (by omega) v25 v26 (v17 + 1) (some (.int (Int32.ofInt v27))) g28 rfl (by omega) (by omega) (by omega) (by omega) (by omega) (by omega) (mz_nl_i _) hIg28 (fun k j hk => ((hfg28 k j (fun h => hk (Or.elim h (fun h => (Or.inl h)) (fun h => (Or.elim h (fun h => (Or.inr (Or.inl h))) (fun h => (Or.inr (Or.inr h)))))))).trans (hfg19 k j (fun h => hk (Or.elim h (fun h => (Or.inl h)) (fun h => (Or.elim h (fun h => (Or.inr (Or.inl h))) (fun h => (Or.inr (Or.inr h)))))))))) ⟨fj23, Nat.lt_of_lt_of_le (show ((2 - (v17 + 1)).toNat) < n21 from (by omega)) fn24, hE⟩
                · skip
                  replace hE := zf_nl hE c67_34
                  refine mm_g 3 (pc1 := 74) (lo1 := [some (.ref 0), some (.int (Int32.ofInt a1)), some (.int (Int32.ofInt a2)), some (.int (Int32.ofInt a3)), some (.int (Int32.ofInt v25)), some (.int (Int32.ofInt v26)), some (.int (Int32.ofInt v17)), some (.int (Int32.ofInt v27))]) (st1 := [.int (Int32.ofInt v17), .int (Int32.ofInt a1), .ref 0]) (H1 := mz_mk g28 x) rfl ?_
                  refine mz_cv rfl mt_11_381 (by decide) (sc_0 _) rfl (Nat.le_of_ble_eq_true rfl) (by omega) (f_X11_ownGain (by omega) hx hIg28 l_a1 u_a1 (by omega) (by omega) (fun v35 g36 hIg36 hfg36 l_v35 u_v35 hc37 => ⟨_, rfl, ?_⟩))
                  show mm_W d mmX11_game 77 [some (.ref 0), some (.int (Int32.ofInt a1)), some (.int (Int32.ofInt a2)), some (.int (Int32.ofInt a3)), some (.int (Int32.ofInt v25)), some (.int (Int32.ofInt v26)), some (.int (Int32.ofInt v17)), some (.int (Int32.ofInt v27))] [.int (Int32.ofInt v35)] (mz_mk g36 x) Q
                  replace hE := zf_t2 hE hc37
                  refine mm_g 4 (pc1 := 82) (lo1 := [some (.ref 0), some (.int (Int32.ofInt a1)), some (.int (Int32.ofInt a2)), some (.int (Int32.ofInt a3)), some (.int (Int32.ofInt v25)), some (.int (Int32.ofInt v26)), some (.int (Int32.ofInt v17)), some (.int (Int32.ofInt v27))]) (st1 := [.int (Int32.ofInt v17), .int (Int32.ofInt 1), .int (Int32.ofInt a1), .ref 0, .int (Int32.ofInt v35)]) (H1 := mz_mk g36 x) rfl ?_
                  refine mz_isub rfl ?_
                  refine mz_cv rfl mt_11_381 (by decide) (sc_0 _) rfl (Nat.le_of_ble_eq_true rfl) (by omega) (f_X11_ownGain (by omega) hx hIg36 l_a1 u_a1 (by omega) (by omega) (fun v38 g39 hIg39 hfg39 l_v38 u_v38 hc40 => ⟨_, rfl, ?_⟩))
                  show mm_W d mmX11_game 86 [some (.ref 0), some (.int (Int32.ofInt a1)), some (.int (Int32.ofInt a2)), some (.int (Int32.ofInt a3)), some (.int (Int32.ofInt v25)), some (.int (Int32.ofInt v26)), some (.int (Int32.ofInt v17)), some (.int (Int32.ofInt v27))] [.int (Int32.ofInt v38), .int (Int32.ofInt v35)] (mz_mk g39 x) Q
                  replace hE := zf_t2 hE hc40
                  refine mz_ic_lt (tgt := 132) rfl rfl (mz_rg l_v35 u_v35) (mz_rg l_v38 u_v38) (fun c86_40 => ?_) (fun c86_40 => ?_)
                  · skip
                    replace hE := zf_ip hE c86_40
                    refine mz_iincR (v := v27) (lo2 := [some (.ref 0), some (.int (Int32.ofInt a1)), some (.int (Int32.ofInt a2)), some (.int (Int32.ofInt a3)), some (.int (Int32.ofInt v25)), some (.int (Int32.ofInt v26)), some (.int (Int32.ofInt v17)), some (.int (Int32.ofInt (v27 + 1)))]) rfl rfl rfl (Nat.le_of_ble_eq_true rfl) rfl ?_
                    refine mz_gt (tgt := 64) rfl rfl ?_
                    exact ih29 ((2 - (v27 + 1)).toNat) (by omega) v25 v26 (v27 + 1) g39 rfl (by omega) (by omega) (by omega) (by omega) (by omega) (by omega) hIg39 (fun k j hk => ((hfg39 k j (fun h => hk (Or.elim h (fun h => (Or.inl h)) (fun h => (Or.elim h (fun h => (Or.inr (Or.inl h))) (fun h => (Or.inr (Or.inr h)))))))).trans ((hfg36 k j (fun h => hk (Or.elim h (fun h => (Or.inl h)) (fun h => (Or.elim h (fun h => (Or.inr (Or.inl h))) (fun h => (Or.inr (Or.inr h)))))))).trans (hfg28 k j (fun h => hk (Or.elim h (fun h => (Or.inl h)) (fun h => (Or.elim h (fun h => (Or.inr (Or.inl h))) (fun h => (Or.inr (Or.inr h))))))))))) ⟨fj33, Nat.lt_of_lt_of_le (show ((2 - (v27 + 1)).toNat) < n30 from (by omega)) fn34, hE⟩
                  · skip
                    replace hE := zf_nl hE c86_40
                    refine mm_g 3 (pc1 := 93) (lo1 := [some (.ref 0), some (.int (Int32.ofInt a1)), some (.int (Int32.ofInt a2)), some (.int (Int32.ofInt a3)), some (.int (Int32.ofInt v25)), some (.int (Int32.ofInt v26)), some (.int (Int32.ofInt v17)), some (.int (Int32.ofInt v27))]) (st1 := [.int (Int32.ofInt v27), .int (Int32.ofInt a2), .ref 0]) (H1 := mz_mk g39 x) rfl ?_
                    refine mz_cv rfl mt_11_381 (by decide) (sc_0 _) rfl (Nat.le_of_ble_eq_true rfl) (by omega) (f_X11_ownGain (by omega) hx hIg39 l_a2 u_a2 (by omega) (by omega) (fun v41 g42 hIg42 hfg42 l_v41 u_v41 hc43 => ⟨_, rfl, ?_⟩))
                    show mm_W d mmX11_game 96 [some (.ref 0), some (.int (Int32.ofInt a1)), some (.int (Int32.ofInt a2)), some (.int (Int32.ofInt a3)), some (.int (Int32.ofInt v25)), some (.int (Int32.ofInt v26)), some (.int (Int32.ofInt v17)), some (.int (Int32.ofInt v27))] [.int (Int32.ofInt v41)] (mz_mk g42 x) Q
                    replace hE := zf_t2 hE hc43
                    refine mm_g 4 (pc1 := 101) (lo1 := [some (.ref 0), some (.int (Int32.ofInt a1)), some (.int (Int32.ofInt a2)), some (.int (Int32.ofInt a3)), some (.int (Int32.ofInt v25)), some (.int (Int32.ofInt v26)), some (.int (Int32.ofInt v17)), some (.int (Int32.ofInt v27))]) (st1 := [.int (Int32.ofInt v27), .int (Int32.ofInt 1), .int (Int32.ofInt a2), .ref 0, .int (Int32.ofInt v41)]) (H1 := mz_mk g42 x) rfl ?_
                    refine mz_isub rfl ?_
                    refine mz_cv rfl mt_11_381 (by decide) (sc_0 _) rfl (Nat.le_of_ble_eq_true rfl) (by omega) (f_X11_ownGain (by omega) hx hIg42 l_a2 u_a2 (by omega) (by omega) (fun v44 g45 hIg45 hfg45 l_v44 u_v44 hc46 => ⟨_, rfl, ?_⟩))
                    show mm_W d mmX11_game 105 [some (.ref 0), some (.int (Int32.ofInt a1)), some (.int (Int32.ofInt a2)), some (.int (Int32.ofInt a3)), some (.int (Int32.ofInt v25)), some (.int (Int32.ofInt v26)), some (.int (Int32.ofInt v17)), some (.int (Int32.ofInt v27))] [.int (Int32.ofInt v44), .int (Int32.ofInt v41)] (mz_mk g45 x) Q
                    replace hE := zf_t2 hE hc46
                    refine mz_ic_lt (tgt := 132) rfl rfl (mz_rg l_v41 u_v41) (mz_rg l_v44 u_v44) (fun c105_46 => ?_) (fun c105_46 => ?_)
                    · skip
                      replace hE := zf_ip hE c105_46
                      refine mz_iincR (v := v27) (lo2 := [some (.ref 0), some (.int (Int32.ofInt a1)), some (.int (Int32.ofInt a2)), some (.int (Int32.ofInt a3)), some (.int (Int32.ofInt v25)), some (.int (Int32.ofInt v26)), some (.int (Int32.ofInt v17)), some (.int (Int32.ofInt (v27 + 1)))]) rfl rfl rfl (Nat.le_of_ble_eq_true rfl) rfl ?_
                      refine mz_gt (tgt := 64) rfl rfl ?_
                      exact ih29 ((2 - (v27 + 1)).toNat) (by omega) v25 v26 (v27 + 1) g45 rfl (by omega) (by omega) (by omega) (by omega) (by omega) (by omega) hIg45 (fun k j hk => ((hfg45 k j (fun h => hk (Or.elim h (fun h => (Or.inl h)) (fun h => (Or.elim h (fun h => (Or.inr (Or.inl h))) (fun h => (Or.inr (Or.inr h)))))))).trans ((hfg42 k j (fun h => hk (Or.elim h (fun h => (Or.inl h)) (fun h => (Or.elim h (fun h => (Or.inr (Or.inl h))) (fun h => (Or.inr (Or.inr h)))))))).trans ((hfg39 k j (fun h => hk (Or.elim h (fun h => (Or.inl h)) (fun h => (Or.elim h (fun h => (Or.inr (Or.inl h))) (fun h => (Or.inr (Or.inr h)))))))).trans ((hfg36 k j (fun h => hk (Or.elim h (fun h => (Or.inl h)) (fun h => (Or.elim h (fun h => (Or.inr (Or.inl h))) (fun h => (Or.inr (Or.inr h)))))))).trans (hfg28 k j (fun h => hk (Or.elim h (fun h => (Or.inl h)) (fun h => (Or.elim h (fun h => (Or.inr (Or.inl h))) (fun h => (Or.inr (Or.inr h))))))))))))) ⟨fj33, Nat.lt_of_lt_of_le (show ((2 - (v27 + 1)).toNat) < n30 from (by omega)) fn34, hE⟩
                    · skip
                      replace hE := zf_nl hE c105_46
                      refine mm_g 2 (pc1 := 111) (lo1 := [some (.ref 0), some (.int (Int32.ofInt a1)), some (.int (Int32.ofInt a2)), some (.int (Int32.ofInt a3)), some (.int (Int32.ofInt v25)), some (.int (Int32.ofInt v26)), some (.int (Int32.ofInt v17)), some (.int (Int32.ofInt v27))]) (st1 := [.int (Int32.ofInt (-1)), .int (Int32.ofInt v26)]) (H1 := mz_mk g45 x) rfl ?_
                      refine mz_ic_ne (tgt := 125) rfl rfl (mz_rg l_v26 u_v26) ⟨by decide, by decide⟩ (fun c111_46 => ?_) (fun c111_46 => ?_)
                      · skip
                        replace hE := zf_in hE c111_46
                        refine mm_g 2 (pc1 := 129) (lo1 := [some (.ref 0), some (.int (Int32.ofInt a1)), some (.int (Int32.ofInt a2)), some (.int (Int32.ofInt a3)), some (.int (Int32.ofInt v25)), some (.int (Int32.ofInt v26)), some (.int (Int32.ofInt v17)), some (.int (Int32.ofInt v27))]) (st1 := []) (H1 := mz_mk g45 x) rfl ?_
                        refine mz_iincW (v := v25) (lo2 := fun v47 => [some (.ref 0), some (.int (Int32.ofInt a1)), some (.int (Int32.ofInt a2)), some (.int (Int32.ofInt a3)), some (.int (Int32.ofInt v47)), some (.int (Int32.ofInt v26)), some (.int (Int32.ofInt v17)), some (.int (Int32.ofInt v27))]) rfl rfl rfl (Nat.le_of_ble_eq_true rfl) (fun _ => rfl) (fun v47 e_v47 hwv47 => ?_)
                        have l_v47 := hwv47.1
                        have u_v47 := hwv47.2
                        replace hE := zf_tr hE (zf_le e_v47.symm)
                        refine mz_iincR (v := v27) (lo2 := [some (.ref 0), some (.int (Int32.ofInt a1)), some (.int (Int32.ofInt a2)), some (.int (Int32.ofInt a3)), some (.int (Int32.ofInt v47)), some (.int (Int32.ofInt v26)), some (.int (Int32.ofInt v17)), some (.int (Int32.ofInt (v27 + 1)))]) rfl rfl rfl (Nat.le_of_ble_eq_true rfl) rfl ?_
                        refine mz_gt (tgt := 64) rfl rfl ?_
                        exact ih29 ((2 - (v27 + 1)).toNat) (by omega) v47 v26 (v27 + 1) g45 rfl (by omega) (by omega) (by omega) (by omega) (by omega) (by omega) hIg45 (fun k j hk => ((hfg45 k j (fun h => hk (Or.elim h (fun h => (Or.inl h)) (fun h => (Or.elim h (fun h => (Or.inr (Or.inl h))) (fun h => (Or.inr (Or.inr h)))))))).trans ((hfg42 k j (fun h => hk (Or.elim h (fun h => (Or.inl h)) (fun h => (Or.elim h (fun h => (Or.inr (Or.inl h))) (fun h => (Or.inr (Or.inr h)))))))).trans ((hfg39 k j (fun h => hk (Or.elim h (fun h => (Or.inl h)) (fun h => (Or.elim h (fun h => (Or.inr (Or.inl h))) (fun h => (Or.inr (Or.inr h)))))))).trans ((hfg36 k j (fun h => hk (Or.elim h (fun h => (Or.inl h)) (fun h => (Or.elim h (fun h => (Or.inr (Or.inl h))) (fun h => (Or.inr (Or.inr h)))))))).trans (hfg28 k j (fun h => hk (Or.elim h (fun h => (Or.inl h)) (fun h => (Or.elim h (fun h => (Or.inr (Or.inl h))) (fun h => (Or.inr (Or.inr h))))))))))))) ⟨fj33, Nat.lt_of_lt_of_le (show ((2 - (v27 + 1)).toNat) < n30 from (by omega)) fn34, hE⟩
                      · skip
                        replace hE := zf_ip hE c111_46
                        refine mz_bip rfl bip_10 ?_
                        refine mm_g 1 (pc1 := 118) (lo1 := [some (.ref 0), some (.int (Int32.ofInt a1)), some (.int (Int32.ofInt a2)), some (.int (Int32.ofInt a3)), some (.int (Int32.ofInt v25)), some (.int (Int32.ofInt v26)), some (.int (Int32.ofInt v17)), some (.int (Int32.ofInt v27))]) (st1 := [.int (Int32.ofInt v17), .int (Int32.ofInt 10)]) (H1 := mz_mk g45 x) rfl ?_
                        refine mz_imul rfl ?_
                        refine mm_g 1 (pc1 := 121) (lo1 := [some (.ref 0), some (.int (Int32.ofInt a1)), some (.int (Int32.ofInt a2)), some (.int (Int32.ofInt a3)), some (.int (Int32.ofInt v25)), some (.int (Int32.ofInt v26)), some (.int (Int32.ofInt v17)), some (.int (Int32.ofInt v27))]) (st1 := [.int (Int32.ofInt v27), .int (Int32.ofInt (10 * v17))]) (H1 := mz_mk g45 x) rfl ?_
                        refine mz_iadd rfl ?_
                        refine mz_gt (tgt := 127) rfl rfl ?_
                        refine mm_g 1 (pc1 := 129) (lo1 := [some (.ref 0), some (.int (Int32.ofInt a1)), some (.int (Int32.ofInt a2)), some (.int (Int32.ofInt a3)), some (.int (Int32.ofInt v25)), some (.int (Int32.ofInt ((10 * v17) + v27))), some (.int (Int32.ofInt v17)), some (.int (Int32.ofInt v27))]) (st1 := []) (H1 := mz_mk g45 x) rfl ?_
                        refine mz_iincW (v := v25) (lo2 := fun v48 => [some (.ref 0), some (.int (Int32.ofInt a1)), some (.int (Int32.ofInt a2)), some (.int (Int32.ofInt a3)), some (.int (Int32.ofInt v48)), some (.int (Int32.ofInt ((10 * v17) + v27))), some (.int (Int32.ofInt v17)), some (.int (Int32.ofInt v27))]) rfl rfl rfl (Nat.le_of_ble_eq_true rfl) (fun _ => rfl) (fun v48 e_v48 hwv48 => ?_)
                        have l_v48 := hwv48.1
                        have u_v48 := hwv48.2
                        replace hE := zf_tr hE (zf_le e_v48.symm)
                        refine mz_iincR (v := v27) (lo2 := [some (.ref 0), some (.int (Int32.ofInt a1)), some (.int (Int32.ofInt a2)), some (.int (Int32.ofInt a3)), some (.int (Int32.ofInt v48)), some (.int (Int32.ofInt ((10 * v17) + v27))), some (.int (Int32.ofInt v17)), some (.int (Int32.ofInt (v27 + 1)))]) rfl rfl rfl (Nat.le_of_ble_eq_true rfl) rfl ?_
                        refine mz_gt (tgt := 64) rfl rfl ?_
                        exact ih29 ((2 - (v27 + 1)).toNat) (by omega) v48 ((10 * v17) + v27) (v27 + 1) g45 rfl (by omega) (by omega) (by omega) (by omega) (by omega) (by omega) hIg45 (fun k j hk => ((hfg45 k j (fun h => hk (Or.elim h (fun h => (Or.inl h)) (fun h => (Or.elim h (fun h => (Or.inr (Or.inl h))) (fun h => (Or.inr (Or.inr h)))))))).trans ((hfg42 k j (fun h => hk (Or.elim h (fun h => (Or.inl h)) (fun h => (Or.elim h (fun h => (Or.inr (Or.inl h))) (fun h => (Or.inr (Or.inr h)))))))).trans ((hfg39 k j (fun h => hk (Or.elim h (fun h => (Or.inl h)) (fun h => (Or.elim h (fun h => (Or.inr (Or.inl h))) (fun h => (Or.inr (Or.inr h)))))))).trans ((hfg36 k j (fun h => hk (Or.elim h (fun h => (Or.inl h)) (fun h => (Or.elim h (fun h => (Or.inr (Or.inl h))) (fun h => (Or.inr (Or.inr h)))))))).trans (hfg28 k j (fun h => hk (Or.elim h (fun h => (Or.inl h)) (fun h => (Or.elim h (fun h => (Or.inr (Or.inl h))) (fun h => (Or.inr (Or.inr h))))))))))))) ⟨fj33, Nat.lt_of_lt_of_le (show ((2 - (v27 + 1)).toNat) < n30 from (by omega)) fn34, hE⟩
              exact L32 _ v15 v16 0 g19 rfl (by omega) (by omega) (by omega) (by omega) (by decide) (by decide) hIg19 (fun _ _ _ => rfl) ⟨3000000000, by omega, zf_rf⟩
          exact L22 _ 0 (-1) 0 none g rfl (by decide) (by decide) (by decide) (by decide) (by decide) (by decide) mz_nl_n hI (fun _ _ _ => rfl) ⟨3000000000, by omega, hE⟩
      · skip
        replace hE := zf_in hE c17_8
        refine mm_g 2 (pc1 := 22) (lo1 := [some (.ref 0), some (.int (Int32.ofInt a1)), some (.int (Int32.ofInt a2)), some (.int (Int32.ofInt a3)), none, none, none, none]) (st1 := [.int (Int32.ofInt 1), .int (Int32.ofInt a3)]) (H1 := mz_mk g x) rfl ?_
        refine mz_ic_ne (tgt := 29) rfl rfl (mz_rg l_a3 u_a3) ⟨by decide, by decide⟩ (fun c22_48 => ?_) (fun c22_48 => ?_)
        · skip
          replace hE := zf_in hE c22_48
          refine mm_g 1 (pc1 := 30) (lo1 := [some (.ref 0), some (.int (Int32.ofInt a1)), some (.int (Int32.ofInt a2)), some (.int (Int32.ofInt a3)), none, none, none, none]) (st1 := [.int (Int32.ofInt 0)]) (H1 := mz_mk g x) rfl ?_
          (try unfold zJ_X11_game_29 at hE)
          (try unfold zJ_X11_game_30 at hE)
          (try unfold zJ_X11_game_43 at hE)
          (try unfold zJ_X11_game_132 at hE)
          (try unfold zJ_X11_game_127 at hE)
          (try unfold zJ_X11_game_25 at hE)
          (try unfold zJ_X11_game_29 at hE)
          (try unfold zJ_X11_game_30 at hE)
          (try unfold zJ_X11_game_43 at hE)
          (try unfold zJ_X11_game_132 at hE)
          (try unfold zJ_X11_game_127 at hE)
          (try unfold zJ_X11_game_25 at hE)
          refine mz_csx rfl mt_11_183 rfl (Nat.le_of_ble_eq_true rfl) (by omega) rfl nh_X11_mustBe (f_X11_mustBe (by omega) hx hI (by decide) (by decide) (fun hp49 hc50 => ?_) (fun hc => hX0 (zf_x2 hE hc (by decide))))
          show mm_W d mmX11_game 33 [some (.ref 0), some (.int (Int32.ofInt a1)), some (.int (Int32.ofInt a2)), some (.int (Int32.ofInt a3)), none, none, none, none] [] (mz_mk g x) Q
          replace hE := zf_x1 hE hc50
          exfalso; omega
        · skip
          replace hE := zf_ip hE c22_48
          refine mm_g 1 (pc1 := 26) (lo1 := [some (.ref 0), some (.int (Int32.ofInt a1)), some (.int (Int32.ofInt a2)), some (.int (Int32.ofInt a3)), none, none, none, none]) (st1 := [.int (Int32.ofInt 1)]) (H1 := mz_mk g x) rfl ?_
          refine mz_gt (tgt := 30) rfl rfl ?_
          (try unfold zJ_X11_game_29 at hE)
          (try unfold zJ_X11_game_30 at hE)
          (try unfold zJ_X11_game_43 at hE)
          (try unfold zJ_X11_game_132 at hE)
          (try unfold zJ_X11_game_127 at hE)
          (try unfold zJ_X11_game_25 at hE)
          (try unfold zJ_X11_game_29 at hE)
          (try unfold zJ_X11_game_30 at hE)
          (try unfold zJ_X11_game_43 at hE)
          (try unfold zJ_X11_game_132 at hE)
          (try unfold zJ_X11_game_127 at hE)
          (try unfold zJ_X11_game_25 at hE)
          refine mz_csx rfl mt_11_183 rfl (Nat.le_of_ble_eq_true rfl) (by omega) rfl nh_X11_mustBe (f_X11_mustBe (by omega) hx hI (by decide) (by decide) (fun hp51 hc52 => ?_) (fun hc => hX0 (zf_x2 hE hc (by decide))))
          show mm_W d mmX11_game 33 [some (.ref 0), some (.int (Int32.ofInt a1)), some (.int (Int32.ofInt a2)), some (.int (Int32.ofInt a3)), none, none, none, none] [] (mz_mk g x) Q
          replace hE := zf_x1 hE hc52
          refine mm_g 2 (pc1 := 35) (lo1 := [some (.ref 0), some (.int (Int32.ofInt a1)), some (.int (Int32.ofInt a2)), some (.int (Int32.ofInt a3)), none, none, none, none]) (st1 := [.int (Int32.ofInt a2), .int (Int32.ofInt a1)]) (H1 := mz_mk g x) rfl ?_
          refine mz_ic_eq (tgt := 42) rfl rfl (mz_rg l_a1 u_a1) (mz_rg l_a2 u_a2) (fun c35_52 => ?_) (fun c35_52 => ?_)
          · skip
            replace hE := zf_ip hE c35_52
            refine mm_g 1 (pc1 := 43) (lo1 := [some (.ref 0), some (.int (Int32.ofInt a1)), some (.int (Int32.ofInt a2)), some (.int (Int32.ofInt a3)), none, none, none, none]) (st1 := [.int (Int32.ofInt 0)]) (H1 := mz_mk g x) rfl ?_
            (try unfold zJ_X11_game_29 at hE)
            (try unfold zJ_X11_game_30 at hE)
            (try unfold zJ_X11_game_43 at hE)
            (try unfold zJ_X11_game_132 at hE)
            (try unfold zJ_X11_game_127 at hE)
            (try unfold zJ_X11_game_25 at hE)
            (try unfold zJ_X11_game_29 at hE)
            (try unfold zJ_X11_game_30 at hE)
            (try unfold zJ_X11_game_43 at hE)
            (try unfold zJ_X11_game_132 at hE)
            (try unfold zJ_X11_game_127 at hE)
            (try unfold zJ_X11_game_25 at hE)
            refine mz_csx rfl mt_11_106 rfl (Nat.le_of_ble_eq_true rfl) (by omega) rfl nh_X11_mustFit (f_X11_mustFit (by omega) hx hI (by decide) (by decide) (fun hp53 hc54 => ?_) (fun hc => hX1 (zf_x2 hE hc (by decide))))
            show mm_W d mmX11_game 46 [some (.ref 0), some (.int (Int32.ofInt a1)), some (.int (Int32.ofInt a2)), some (.int (Int32.ofInt a3)), none, none, none, none] [] (mz_mk g x) Q
            replace hE := zf_x1 hE hc54
            exfalso; omega
          · skip
            replace hE := zf_in hE c35_52
            refine mm_g 1 (pc1 := 39) (lo1 := [some (.ref 0), some (.int (Int32.ofInt a1)), some (.int (Int32.ofInt a2)), some (.int (Int32.ofInt a3)), none, none, none, none]) (st1 := [.int (Int32.ofInt 1)]) (H1 := mz_mk g x) rfl ?_
            refine mz_gt (tgt := 43) rfl rfl ?_
            (try unfold zJ_X11_game_29 at hE)
            (try unfold zJ_X11_game_30 at hE)
            (try unfold zJ_X11_game_43 at hE)
            (try unfold zJ_X11_game_132 at hE)
            (try unfold zJ_X11_game_127 at hE)
            (try unfold zJ_X11_game_25 at hE)
            (try unfold zJ_X11_game_29 at hE)
            (try unfold zJ_X11_game_30 at hE)
            (try unfold zJ_X11_game_43 at hE)
            (try unfold zJ_X11_game_132 at hE)
            (try unfold zJ_X11_game_127 at hE)
            (try unfold zJ_X11_game_25 at hE)
            refine mz_csx rfl mt_11_106 rfl (Nat.le_of_ble_eq_true rfl) (by omega) rfl nh_X11_mustFit (f_X11_mustFit (by omega) hx hI (by decide) (by decide) (fun hp55 hc56 => ?_) (fun hc => hX1 (zf_x2 hE hc (by decide))))
            show mm_W d mmX11_game 46 [some (.ref 0), some (.int (Int32.ofInt a1)), some (.int (Int32.ofInt a2)), some (.int (Int32.ofInt a3)), none, none, none, none] [] (mz_mk g x) Q
            replace hE := zf_x1 hE hc56
            refine mm_g 6 (pc1 := 55) (lo1 := [some (.ref 0), some (.int (Int32.ofInt a1)), some (.int (Int32.ofInt a2)), some (.int (Int32.ofInt a3)), some (.int (Int32.ofInt 0)), some (.int (Int32.ofInt (-1))), some (.int (Int32.ofInt 0)), none]) (st1 := []) (H1 := mz_mk g x) rfl ?_
            have L64 : ∀ n63 : Nat, ∀ (v57 : Int) (v58 : Int) (v59 : Int) (o60 : Option Value) (g61 : mz_G), (2 - v59).toNat = n63 → (-2147483648) ≤ v57 → v57 ≤ 2147483647 → (-1) ≤ v58 → v58 ≤ 15 → 0 ≤ v59 → v59 ≤ 2 → mz_nl o60 → mz_inv g61 → mz_fr (fl_X11_game_55 x a1 a2 a3) g g61 → (∃ fk : Nat, (2 - v59).toNat < fk ∧ zf_E (zF_X11_game x a1 a2 a3 g) (zL_X11_game_55 x a1 a2 a3 fk v57 v58 v59 g61)) → mm_W d mmX11_game 55 [some (.ref 0), some (.int (Int32.ofInt a1)), some (.int (Int32.ofInt a2)), some (.int (Int32.ofInt a3)), some (.int (Int32.ofInt v57)), some (.int (Int32.ofInt v58)), some (.int (Int32.ofInt v59)), o60] [] (mz_mk g61 x) Q := by
              intro n63
              induction n63 using Nat.strongRecOn with
              | ind n63 ih62 =>
              intro v57 v58 v59 o60 g61 hmn63 l_v57 u_v57 l_v58 u_v58 l_v59 u_v59 h_o60 hIg61 hfg61 hF
              obtain ⟨fk, fl, hE⟩ := hF
              obtain ⟨fj65, rfl⟩ : ∃ fj, fk = fj + 1 := ⟨fk - 1, by omega⟩
              have fn66 : n63 ≤ fj65 := by omega
              replace hE := zf_tr hE zL_X11_game_55_s
              refine mm_g 2 (pc1 := 58) (lo1 := [some (.ref 0), some (.int (Int32.ofInt a1)), some (.int (Int32.ofInt a2)), some (.int (Int32.ofInt a3)), some (.int (Int32.ofInt v57)), some (.int (Int32.ofInt v58)), some (.int (Int32.ofInt v59)), o60]) (st1 := [.int (Int32.ofInt 1), .int (Int32.ofInt v59)]) (H1 := mz_mk g61 x) rfl ?_
              refine mz_ic_gt (tgt := 144) rfl rfl (mz_rg l_v59 u_v59) ⟨by decide, by decide⟩ (fun c58_66 => ?_) (fun c58_66 => ?_)
              · skip
                replace hE := zf_ip hE c58_66
                refine mm_g 1 (pc1 := 145) (lo1 := [some (.ref 0), some (.int (Int32.ofInt a1)), some (.int (Int32.ofInt a2)), some (.int (Int32.ofInt a3)), some (.int (Int32.ofInt v57)), some (.int (Int32.ofInt v58)), some (.int (Int32.ofInt v59)), o60]) (st1 := [.int (Int32.ofInt a3)]) (H1 := mz_mk g61 x) rfl ?_
                refine mz_if_ne (tgt := 153) rfl rfl (mz_rg l_a3 u_a3) (fun c145_66 => ?_) (fun c145_66 => ?_)
                · skip
                  replace hE := zf_in hE c145_66
                  refine mm_g 1 (pc1 := 155) (lo1 := [some (.ref 0), some (.int (Int32.ofInt a1)), some (.int (Int32.ofInt a2)), some (.int (Int32.ofInt a3)), some (.int (Int32.ofInt v57)), some (.int (Int32.ofInt v58)), some (.int (Int32.ofInt v59)), o60]) (st1 := [.int (Int32.ofInt v58)]) (H1 := mz_mk g61 x) rfl ?_
                  exact mm_rt rfl rfl (hQ _ _ hIg61 (fun k j hk => (hfg61 k j (fun h => hk (Or.elim h (fun h => (Or.inl h)) (fun h => (Or.elim h (fun h => (Or.inr (Or.inl h))) (fun h => (Or.inr (Or.inr h))))))))) (by omega) (by omega) hE)
                · exfalso; omega
              · skip
                replace hE := zf_nl hE c58_66
                refine mm_g 2 (pc1 := 64) (lo1 := [some (.ref 0), some (.int (Int32.ofInt a1)), some (.int (Int32.ofInt a2)), some (.int (Int32.ofInt a3)), some (.int (Int32.ofInt v57)), some (.int (Int32.ofInt v58)), some (.int (Int32.ofInt v59)), some (.int (Int32.ofInt 0))]) (st1 := []) (H1 := mz_mk g61 x) rfl ?_
                have hO73 := hE
                have L74 : ∀ n72 : Nat, ∀ (v67 : Int) (v68 : Int) (v69 : Int) (g70 : mz_G), (2 - v69).toNat = n72 → (-2147483648) ≤ v67 → v67 ≤ 2147483647 → (-1) ≤ v68 → v68 ≤ 15 → 0 ≤ v69 → v69 ≤ 2 → mz_inv g70 → mz_fr (fl_X11_game_64 x a1 a2 a3) g61 g70 → (∃ fk : Nat, (2 - v69).toNat < fk ∧ zf_E (zL_X11_game_64 x a1 a2 a3 3000000000 v57 v58 v59 0 g61) (zL_X11_game_64 x a1 a2 a3 fk v67 v68 v59 v69 g70)) → mm_W d mmX11_game 64 [some (.ref 0), some (.int (Int32.ofInt a1)), some (.int (Int32.ofInt a2)), some (.int (Int32.ofInt a3)), some (.int (Int32.ofInt v67)), some (.int (Int32.ofInt v68)), some (.int (Int32.ofInt v59)), some (.int (Int32.ofInt v69))] [] (mz_mk g70 x) Q := by
                  intro n72
                  induction n72 using Nat.strongRecOn with
                  | ind n72 ih71 =>
                  intro v67 v68 v69 g70 hmn72 l_v67 u_v67 l_v68 u_v68 l_v69 u_v69 hIg70 hfg70 hF
                  obtain ⟨fk, fl, hE⟩ := hF
                  obtain ⟨fj75, rfl⟩ : ∃ fj, fk = fj + 1 := ⟨fk - 1, by omega⟩
                  have fn76 : n72 ≤ fj75 := by omega
                  replace hE := zf_tr hE zL_X11_game_64_s
                  refine mm_g 2 (pc1 := 67) (lo1 := [some (.ref 0), some (.int (Int32.ofInt a1)), some (.int (Int32.ofInt a2)), some (.int (Int32.ofInt a3)), some (.int (Int32.ofInt v67)), some (.int (Int32.ofInt v68)), some (.int (Int32.ofInt v59)), some (.int (Int32.ofInt v69))]) (st1 := [.int (Int32.ofInt 1), .int (Int32.ofInt v69)]) (H1 := mz_mk g70 x) rfl ?_
                  refine mz_ic_gt (tgt := 138) rfl rfl (mz_rg l_v69 u_v69) ⟨by decide, by decide⟩ (fun c67_76 => ?_) (fun c67_76 => ?_)
                  · skip
                    replace hE := zf_ip hE c67_76
                    replace hE := zf_t3 hO73 hE
                    refine mz_iincR (v := v59) (lo2 := [some (.ref 0), some (.int (Int32.ofInt a1)), some (.int (Int32.ofInt a2)), some (.int (Int32.ofInt a3)), some (.int (Int32.ofInt v67)), some (.int (Int32.ofInt v68)), some (.int (Int32.ofInt (v59 + 1))), some (.int (Int32.ofInt v69))]) rfl rfl rfl (Nat.le_of_ble_eq_true rfl) rfl ?_
                    refine mz_gt (tgt := 55) rfl rfl ?_
                    exact ih62 ((2 - (v59 + 1)).toNat) (by omega) v67 v68 (v59 + 1) (some (.int (Int32.ofInt v69))) g70 rfl (by omega) (by omega) (by omega) (by omega) (by omega) (by omega) (mz_nl_i _) hIg70 (fun k j hk => ((hfg70 k j (fun h => hk (Or.elim h (fun h => (Or.inl h)) (fun h => (Or.elim h (fun h => (Or.inr (Or.inl h))) (fun h => (Or.inr (Or.inr h)))))))).trans (hfg61 k j (fun h => hk (Or.elim h (fun h => (Or.inl h)) (fun h => (Or.elim h (fun h => (Or.inr (Or.inl h))) (fun h => (Or.inr (Or.inr h)))))))))) ⟨fj65, Nat.lt_of_lt_of_le (show ((2 - (v59 + 1)).toNat) < n63 from (by omega)) fn66, hE⟩
                  · skip
                    replace hE := zf_nl hE c67_76
                    refine mm_g 3 (pc1 := 74) (lo1 := [some (.ref 0), some (.int (Int32.ofInt a1)), some (.int (Int32.ofInt a2)), some (.int (Int32.ofInt a3)), some (.int (Int32.ofInt v67)), some (.int (Int32.ofInt v68)), some (.int (Int32.ofInt v59)), some (.int (Int32.ofInt v69))]) (st1 := [.int (Int32.ofInt v59), .int (Int32.ofInt a1), .ref 0]) (H1 := mz_mk g70 x) rfl ?_
                    refine mz_cv rfl mt_11_381 (by decide) (sc_0 _) rfl (Nat.le_of_ble_eq_true rfl) (by omega) (f_X11_ownGain (by omega) hx hIg70 l_a1 u_a1 (by omega) (by omega) (fun v77 g78 hIg78 hfg78 l_v77 u_v77 hc79 => ⟨_, rfl, ?_⟩))
                    show mm_W d mmX11_game 77 [some (.ref 0), some (.int (Int32.ofInt a1)), some (.int (Int32.ofInt a2)), some (.int (Int32.ofInt a3)), some (.int (Int32.ofInt v67)), some (.int (Int32.ofInt v68)), some (.int (Int32.ofInt v59)), some (.int (Int32.ofInt v69))] [.int (Int32.ofInt v77)] (mz_mk g78 x) Q
                    replace hE := zf_t2 hE hc79
                    refine mm_g 4 (pc1 := 82) (lo1 := [some (.ref 0), some (.int (Int32.ofInt a1)), some (.int (Int32.ofInt a2)), some (.int (Int32.ofInt a3)), some (.int (Int32.ofInt v67)), some (.int (Int32.ofInt v68)), some (.int (Int32.ofInt v59)), some (.int (Int32.ofInt v69))]) (st1 := [.int (Int32.ofInt v59), .int (Int32.ofInt 1), .int (Int32.ofInt a1), .ref 0, .int (Int32.ofInt v77)]) (H1 := mz_mk g78 x) rfl ?_
                    refine mz_isub rfl ?_
                    refine mz_cv rfl mt_11_381 (by decide) (sc_0 _) rfl (Nat.le_of_ble_eq_true rfl) (by omega) (f_X11_ownGain (by omega) hx hIg78 l_a1 u_a1 (by omega) (by omega) (fun v80 g81 hIg81 hfg81 l_v80 u_v80 hc82 => ⟨_, rfl, ?_⟩))
                    show mm_W d mmX11_game 86 [some (.ref 0), some (.int (Int32.ofInt a1)), some (.int (Int32.ofInt a2)), some (.int (Int32.ofInt a3)), some (.int (Int32.ofInt v67)), some (.int (Int32.ofInt v68)), some (.int (Int32.ofInt v59)), some (.int (Int32.ofInt v69))] [.int (Int32.ofInt v80), .int (Int32.ofInt v77)] (mz_mk g81 x) Q
                    replace hE := zf_t2 hE hc82
                    refine mz_ic_lt (tgt := 132) rfl rfl (mz_rg l_v77 u_v77) (mz_rg l_v80 u_v80) (fun c86_82 => ?_) (fun c86_82 => ?_)
                    · skip
                      replace hE := zf_ip hE c86_82
                      refine mz_iincR (v := v69) (lo2 := [some (.ref 0), some (.int (Int32.ofInt a1)), some (.int (Int32.ofInt a2)), some (.int (Int32.ofInt a3)), some (.int (Int32.ofInt v67)), some (.int (Int32.ofInt v68)), some (.int (Int32.ofInt v59)), some (.int (Int32.ofInt (v69 + 1)))]) rfl rfl rfl (Nat.le_of_ble_eq_true rfl) rfl ?_
                      refine mz_gt (tgt := 64) rfl rfl ?_
                      exact ih71 ((2 - (v69 + 1)).toNat) (by omega) v67 v68 (v69 + 1) g81 rfl (by omega) (by omega) (by omega) (by omega) (by omega) (by omega) hIg81 (fun k j hk => ((hfg81 k j (fun h => hk (Or.elim h (fun h => (Or.inl h)) (fun h => (Or.elim h (fun h => (Or.inr (Or.inl h))) (fun h => (Or.inr (Or.inr h)))))))).trans ((hfg78 k j (fun h => hk (Or.elim h (fun h => (Or.inl h)) (fun h => (Or.elim h (fun h => (Or.inr (Or.inl h))) (fun h => (Or.inr (Or.inr h)))))))).trans (hfg70 k j (fun h => hk (Or.elim h (fun h => (Or.inl h)) (fun h => (Or.elim h (fun h => (Or.inr (Or.inl h))) (fun h => (Or.inr (Or.inr h))))))))))) ⟨fj75, Nat.lt_of_lt_of_le (show ((2 - (v69 + 1)).toNat) < n72 from (by omega)) fn76, hE⟩
                    · skip
                      replace hE := zf_nl hE c86_82
                      refine mm_g 3 (pc1 := 93) (lo1 := [some (.ref 0), some (.int (Int32.ofInt a1)), some (.int (Int32.ofInt a2)), some (.int (Int32.ofInt a3)), some (.int (Int32.ofInt v67)), some (.int (Int32.ofInt v68)), some (.int (Int32.ofInt v59)), some (.int (Int32.ofInt v69))]) (st1 := [.int (Int32.ofInt v69), .int (Int32.ofInt a2), .ref 0]) (H1 := mz_mk g81 x) rfl ?_
                      refine mz_cv rfl mt_11_381 (by decide) (sc_0 _) rfl (Nat.le_of_ble_eq_true rfl) (by omega) (f_X11_ownGain (by omega) hx hIg81 l_a2 u_a2 (by omega) (by omega) (fun v83 g84 hIg84 hfg84 l_v83 u_v83 hc85 => ⟨_, rfl, ?_⟩))
                      show mm_W d mmX11_game 96 [some (.ref 0), some (.int (Int32.ofInt a1)), some (.int (Int32.ofInt a2)), some (.int (Int32.ofInt a3)), some (.int (Int32.ofInt v67)), some (.int (Int32.ofInt v68)), some (.int (Int32.ofInt v59)), some (.int (Int32.ofInt v69))] [.int (Int32.ofInt v83)] (mz_mk g84 x) Q
                      replace hE := zf_t2 hE hc85
                      refine mm_g 4 (pc1 := 101) (lo1 := [some (.ref 0), some (.int (Int32.ofInt a1)), some (.int (Int32.ofInt a2)), some (.int (Int32.ofInt a3)), some (.int (Int32.ofInt v67)), some (.int (Int32.ofInt v68)), some (.int (Int32.ofInt v59)), some (.int (Int32.ofInt v69))]) (st1 := [.int (Int32.ofInt v69), .int (Int32.ofInt 1), .int (Int32.ofInt a2), .ref 0, .int (Int32.ofInt v83)]) (H1 := mz_mk g84 x) rfl ?_
                      refine mz_isub rfl ?_
                      refine mz_cv rfl mt_11_381 (by decide) (sc_0 _) rfl (Nat.le_of_ble_eq_true rfl) (by omega) (f_X11_ownGain (by omega) hx hIg84 l_a2 u_a2 (by omega) (by omega) (fun v86 g87 hIg87 hfg87 l_v86 u_v86 hc88 => ⟨_, rfl, ?_⟩))
                      show mm_W d mmX11_game 105 [some (.ref 0), some (.int (Int32.ofInt a1)), some (.int (Int32.ofInt a2)), some (.int (Int32.ofInt a3)), some (.int (Int32.ofInt v67)), some (.int (Int32.ofInt v68)), some (.int (Int32.ofInt v59)), some (.int (Int32.ofInt v69))] [.int (Int32.ofInt v86), .int (Int32.ofInt v83)] (mz_mk g87 x) Q
                      replace hE := zf_t2 hE hc88
                      refine mz_ic_lt (tgt := 132) rfl rfl (mz_rg l_v83 u_v83) (mz_rg l_v86 u_v86) (fun c105_88 => ?_) (fun c105_88 => ?_)
                      · skip
                        replace hE := zf_ip hE c105_88
                        refine mz_iincR (v := v69) (lo2 := [some (.ref 0), some (.int (Int32.ofInt a1)), some (.int (Int32.ofInt a2)), some (.int (Int32.ofInt a3)), some (.int (Int32.ofInt v67)), some (.int (Int32.ofInt v68)), some (.int (Int32.ofInt v59)), some (.int (Int32.ofInt (v69 + 1)))]) rfl rfl rfl (Nat.le_of_ble_eq_true rfl) rfl ?_
                        refine mz_gt (tgt := 64) rfl rfl ?_
                        exact ih71 ((2 - (v69 + 1)).toNat) (by omega) v67 v68 (v69 + 1) g87 rfl (by omega) (by omega) (by omega) (by omega) (by omega) (by omega) hIg87 (fun k j hk => ((hfg87 k j (fun h => hk (Or.elim h (fun h => (Or.inl h)) (fun h => (Or.elim h (fun h => (Or.inr (Or.inl h))) (fun h => (Or.inr (Or.inr h)))))))).trans ((hfg84 k j (fun h => hk (Or.elim h (fun h => (Or.inl h)) (fun h => (Or.elim h (fun h => (Or.inr (Or.inl h))) (fun h => (Or.inr (Or.inr h)))))))).trans ((hfg81 k j (fun h => hk (Or.elim h (fun h => (Or.inl h)) (fun h => (Or.elim h (fun h => (Or.inr (Or.inl h))) (fun h => (Or.inr (Or.inr h)))))))).trans ((hfg78 k j (fun h => hk (Or.elim h (fun h => (Or.inl h)) (fun h => (Or.elim h (fun h => (Or.inr (Or.inl h))) (fun h => (Or.inr (Or.inr h)))))))).trans (hfg70 k j (fun h => hk (Or.elim h (fun h => (Or.inl h)) (fun h => (Or.elim h (fun h => (Or.inr (Or.inl h))) (fun h => (Or.inr (Or.inr h))))))))))))) ⟨fj75, Nat.lt_of_lt_of_le (show ((2 - (v69 + 1)).toNat) < n72 from (by omega)) fn76, hE⟩
                      · skip
                        replace hE := zf_nl hE c105_88
                        refine mm_g 2 (pc1 := 111) (lo1 := [some (.ref 0), some (.int (Int32.ofInt a1)), some (.int (Int32.ofInt a2)), some (.int (Int32.ofInt a3)), some (.int (Int32.ofInt v67)), some (.int (Int32.ofInt v68)), some (.int (Int32.ofInt v59)), some (.int (Int32.ofInt v69))]) (st1 := [.int (Int32.ofInt (-1)), .int (Int32.ofInt v68)]) (H1 := mz_mk g87 x) rfl ?_
                        refine mz_ic_ne (tgt := 125) rfl rfl (mz_rg l_v68 u_v68) ⟨by decide, by decide⟩ (fun c111_88 => ?_) (fun c111_88 => ?_)
                        · skip
                          replace hE := zf_in hE c111_88
                          refine mm_g 2 (pc1 := 129) (lo1 := [some (.ref 0), some (.int (Int32.ofInt a1)), some (.int (Int32.ofInt a2)), some (.int (Int32.ofInt a3)), some (.int (Int32.ofInt v67)), some (.int (Int32.ofInt v68)), some (.int (Int32.ofInt v59)), some (.int (Int32.ofInt v69))]) (st1 := []) (H1 := mz_mk g87 x) rfl ?_
                          refine mz_iincW (v := v67) (lo2 := fun v89 => [some (.ref 0), some (.int (Int32.ofInt a1)), some (.int (Int32.ofInt a2)), some (.int (Int32.ofInt a3)), some (.int (Int32.ofInt v89)), some (.int (Int32.ofInt v68)), some (.int (Int32.ofInt v59)), some (.int (Int32.ofInt v69))]) rfl rfl rfl (Nat.le_of_ble_eq_true rfl) (fun _ => rfl) (fun v89 e_v89 hwv89 => ?_)
                          have l_v89 := hwv89.1
                          have u_v89 := hwv89.2
                          replace hE := zf_tr hE (zf_le e_v89.symm)
                          refine mz_iincR (v := v69) (lo2 := [some (.ref 0), some (.int (Int32.ofInt a1)), some (.int (Int32.ofInt a2)), some (.int (Int32.ofInt a3)), some (.int (Int32.ofInt v89)), some (.int (Int32.ofInt v68)), some (.int (Int32.ofInt v59)), some (.int (Int32.ofInt (v69 + 1)))]) rfl rfl rfl (Nat.le_of_ble_eq_true rfl) rfl ?_
                          refine mz_gt (tgt := 64) rfl rfl ?_
                          exact ih71 ((2 - (v69 + 1)).toNat) (by omega) v89 v68 (v69 + 1) g87 rfl (by omega) (by omega) (by omega) (by omega) (by omega) (by omega) hIg87 (fun k j hk => ((hfg87 k j (fun h => hk (Or.elim h (fun h => (Or.inl h)) (fun h => (Or.elim h (fun h => (Or.inr (Or.inl h))) (fun h => (Or.inr (Or.inr h)))))))).trans ((hfg84 k j (fun h => hk (Or.elim h (fun h => (Or.inl h)) (fun h => (Or.elim h (fun h => (Or.inr (Or.inl h))) (fun h => (Or.inr (Or.inr h)))))))).trans ((hfg81 k j (fun h => hk (Or.elim h (fun h => (Or.inl h)) (fun h => (Or.elim h (fun h => (Or.inr (Or.inl h))) (fun h => (Or.inr (Or.inr h)))))))).trans ((hfg78 k j (fun h => hk (Or.elim h (fun h => (Or.inl h)) (fun h => (Or.elim h (fun h => (Or.inr (Or.inl h))) (fun h => (Or.inr (Or.inr h)))))))).trans (hfg70 k j (fun h => hk (Or.elim h (fun h => (Or.inl h)) (fun h => (Or.elim h (fun h => (Or.inr (Or.inl h))) (fun h => (Or.inr (Or.inr h))))))))))))) ⟨fj75, Nat.lt_of_lt_of_le (show ((2 - (v69 + 1)).toNat) < n72 from (by omega)) fn76, hE⟩
                        · skip
                          replace hE := zf_ip hE c111_88
                          refine mz_bip rfl bip_10 ?_
                          refine mm_g 1 (pc1 := 118) (lo1 := [some (.ref 0), some (.int (Int32.ofInt a1)), some (.int (Int32.ofInt a2)), some (.int (Int32.ofInt a3)), some (.int (Int32.ofInt v67)), some (.int (Int32.ofInt v68)), some (.int (Int32.ofInt v59)), some (.int (Int32.ofInt v69))]) (st1 := [.int (Int32.ofInt v59), .int (Int32.ofInt 10)]) (H1 := mz_mk g87 x) rfl ?_
                          refine mz_imul rfl ?_
                          refine mm_g 1 (pc1 := 121) (lo1 := [some (.ref 0), some (.int (Int32.ofInt a1)), some (.int (Int32.ofInt a2)), some (.int (Int32.ofInt a3)), some (.int (Int32.ofInt v67)), some (.int (Int32.ofInt v68)), some (.int (Int32.ofInt v59)), some (.int (Int32.ofInt v69))]) (st1 := [.int (Int32.ofInt v69), .int (Int32.ofInt (10 * v59))]) (H1 := mz_mk g87 x) rfl ?_
                          refine mz_iadd rfl ?_
                          refine mz_gt (tgt := 127) rfl rfl ?_
                          refine mm_g 1 (pc1 := 129) (lo1 := [some (.ref 0), some (.int (Int32.ofInt a1)), some (.int (Int32.ofInt a2)), some (.int (Int32.ofInt a3)), some (.int (Int32.ofInt v67)), some (.int (Int32.ofInt ((10 * v59) + v69))), some (.int (Int32.ofInt v59)), some (.int (Int32.ofInt v69))]) (st1 := []) (H1 := mz_mk g87 x) rfl ?_
                          refine mz_iincW (v := v67) (lo2 := fun v90 => [some (.ref 0), some (.int (Int32.ofInt a1)), some (.int (Int32.ofInt a2)), some (.int (Int32.ofInt a3)), some (.int (Int32.ofInt v90)), some (.int (Int32.ofInt ((10 * v59) + v69))), some (.int (Int32.ofInt v59)), some (.int (Int32.ofInt v69))]) rfl rfl rfl (Nat.le_of_ble_eq_true rfl) (fun _ => rfl) (fun v90 e_v90 hwv90 => ?_)
                          have l_v90 := hwv90.1
                          have u_v90 := hwv90.2
                          replace hE := zf_tr hE (zf_le e_v90.symm)
                          refine mz_iincR (v := v69) (lo2 := [some (.ref 0), some (.int (Int32.ofInt a1)), some (.int (Int32.ofInt a2)), some (.int (Int32.ofInt a3)), some (.int (Int32.ofInt v90)), some (.int (Int32.ofInt ((10 * v59) + v69))), some (.int (Int32.ofInt v59)), some (.int (Int32.ofInt (v69 + 1)))]) rfl rfl rfl (Nat.le_of_ble_eq_true rfl) rfl ?_
                          refine mz_gt (tgt := 64) rfl rfl ?_
                          exact ih71 ((2 - (v69 + 1)).toNat) (by omega) v90 ((10 * v59) + v69) (v69 + 1) g87 rfl (by omega) (by omega) (by omega) (by omega) (by omega) (by omega) hIg87 (fun k j hk => ((hfg87 k j (fun h => hk (Or.elim h (fun h => (Or.inl h)) (fun h => (Or.elim h (fun h => (Or.inr (Or.inl h))) (fun h => (Or.inr (Or.inr h)))))))).trans ((hfg84 k j (fun h => hk (Or.elim h (fun h => (Or.inl h)) (fun h => (Or.elim h (fun h => (Or.inr (Or.inl h))) (fun h => (Or.inr (Or.inr h)))))))).trans ((hfg81 k j (fun h => hk (Or.elim h (fun h => (Or.inl h)) (fun h => (Or.elim h (fun h => (Or.inr (Or.inl h))) (fun h => (Or.inr (Or.inr h)))))))).trans ((hfg78 k j (fun h => hk (Or.elim h (fun h => (Or.inl h)) (fun h => (Or.elim h (fun h => (Or.inr (Or.inl h))) (fun h => (Or.inr (Or.inr h)))))))).trans (hfg70 k j (fun h => hk (Or.elim h (fun h => (Or.inl h)) (fun h => (Or.elim h (fun h => (Or.inr (Or.inl h))) (fun h => (Or.inr (Or.inr h))))))))))))) ⟨fj75, Nat.lt_of_lt_of_le (show ((2 - (v69 + 1)).toNat) < n72 from (by omega)) fn76, hE⟩
                exact L74 _ v57 v58 0 g61 rfl (by omega) (by omega) (by omega) (by omega) (by decide) (by decide) hIg61 (fun _ _ _ => rfl) ⟨3000000000, by omega, zf_rf⟩
            exact L64 _ 0 (-1) 0 none g rfl (by decide) (by decide) (by decide) (by decide) (by decide) (by decide) mz_nl_n hI (fun _ _ _ => rfl) ⟨3000000000, by omega, hE⟩
def fw_X11_drawOf (x : mm_X) (a1 : Int) : Nat → Nat → Prop := fun k j => (k = 0 ∧ j = 15)
theorem f_X11_drawOf {d : Nat} (hd : 1 ≤ d) {x : mm_X} (hx : mk_x x) {g : mz_G} (hI : mz_inv g) {a1 : Int} (l_a1 : (-2147483648) ≤ a1) (u_a1 : a1 ≤ 2147483647) {Q : (Option Value ⊕ Nat) → mm_H → Prop} (hQ : ∀ (r : Int) (g1 : mz_G), mz_inv g1 → mz_fr (fw_X11_drawOf x a1) g g1 → 0 ≤ r → r ≤ 32767 → zf_E (zF_X11_drawOf x a1 g) ((r, g1)) → Q (.inl (some (.int (Int32.ofInt r)))) (mz_mk g1 x)) : mm_C d 168 [.ref 0, .int (Int32.ofInt a1)] (mz_mk g x) Q := by
  have kx := kn_x hx
  refine ⟨mmX11_drawOf, [some (.ref 0), some (.int (Int32.ofInt a1))], rfl, rfl, ?_⟩
  have hE : zf_E (zF_X11_drawOf x a1 g) (zF_X11_drawOf x a1 g) := zf_rf
  refine mm_g 2 (pc1 := 2) (lo1 := [some (.ref 0), some (.int (Int32.ofInt a1))]) (st1 := [.ref 0, .ref 0]) (H1 := mz_mk g x) rfl ?_
  refine mz_gI rfl fd_11_91 (by decide) (sc_0 _) hI bd_0_15 (fun v1 e_v1 l_v1 u_v1 => ?_)
  replace hE := zf_tr hE (zf_le e_v1)
  refine mz_ldcwI (c := 1103515245) rfl rfl rfl ?_
  refine mz_imul_w rfl (fun v2 e_v2 hwv2 => ?_)
  have l_v2 := hwv2.1
  have u_v2 := hwv2.2
  replace hE := zf_tr hE (zf_le e_v2.symm)
  refine mz_sip rfl sip_12345 ?_
  refine mz_iadd_w rfl (fun v3 e_v3 hwv3 => ?_)
  have l_v3 := hwv3.1
  have u_v3 := hwv3.2
  replace hE := zf_tr hE (zf_le e_v3.symm)
  refine mz_pI rfl fd_11_91 (sc_0 _) hI bd_0_15 (by omega) (by omega) (fun g4 hIg4 hug4 => ?_)
  replace hE := zf_tr hE (zf_lg hug4)
  refine mm_g 1 (pc1 := 17) (lo1 := [some (.ref 0), some (.int (Int32.ofInt a1))]) (st1 := [.int (Int32.ofInt a1)]) (H1 := mz_mk g4 x) rfl ?_
  refine mz_if_le (tgt := 36) rfl rfl (mz_rg l_a1 u_a1) (fun c17_4 => ?_) (fun c17_4 => ?_)
  · skip
    replace hE := zf_nl hE c17_4
    refine mm_g 1 (pc1 := 37) (lo1 := [some (.ref 0), some (.int (Int32.ofInt a1))]) (st1 := [.int (Int32.ofInt 0)]) (H1 := mz_mk g4 x) rfl ?_
    exact mm_rt rfl rfl (hQ _ _ hIg4 (fun k j hk => (hug4.2 k j (fun h => hk h))) (by decide) (by decide) hE)
  · skip
    replace hE := zf_ip hE c17_4
    refine mm_g 1 (pc1 := 21) (lo1 := [some (.ref 0), some (.int (Int32.ofInt a1))]) (st1 := [.ref 0]) (H1 := mz_mk g4 x) rfl ?_
    refine mz_fgI (v := v3) rfl fd_11_91 (by decide) (sc_0 _) (show g4 0 15 = v3 from hug4.1) ?_
    replace hE := zf_tr hE (zf_le (show g4 0 15 = v3 from hug4.1))
    refine mz_bip rfl bip_16 ?_
    refine mz_iushr rfl (fun v5 e_v5 hwv5 => ?_)
    have l_v5 := hwv5.1
    have u_v5 := hwv5.2
    replace hE := zf_tr hE (zf_le e_v5.symm)
    refine mz_sip rfl sip_32767 ?_
    refine mz_iand rfl (fun v6 e_v6 hwv6 => ?_)
    have b_v6 : 0 ≤ v6 ∧ v6 ≤ 32767 := by rw [e_v6]; exact mz_and_r (by omega) (by omega) (mz_rg l_v5 u_v5)
    have l_v6 := b_v6.1
    have u_v6 := b_v6.2
    replace hE := zf_tr hE (zf_le e_v6.symm)
    refine mm_g 1 (pc1 := 32) (lo1 := [some (.ref 0), some (.int (Int32.ofInt a1))]) (st1 := [.int (Int32.ofInt a1), .int (Int32.ofInt v6)]) (H1 := mz_mk g4 x) rfl ?_
    refine mz_iremq rfl (mz_rg l_v6 u_v6) (mz_rg l_a1 u_a1) (by omega) (by omega) (fun v7 e_v7 l_v7 w_v7 z_v7 => ?_)
    have u_v7 : v7 ≤ 32767 := by omega
    replace hE := zf_tr hE (zf_le e_v7.symm)
    refine mz_gt (tgt := 37) rfl rfl ?_
    exact mm_rt rfl rfl (hQ _ _ hIg4 (fun k j hk => (hug4.2 k j (fun h => hk h))) (by omega) (by omega) hE)
def fw_X11_drawAhead (x : mm_X) : Nat → Nat → Prop := fun k j => (k = 0 ∧ j = 15) ∨ (124 ≤ k ∧ k < 133)
theorem f_X11_drawAhead {d : Nat} (hd : 2 ≤ d) {x : mm_X} (hx : mk_x x) {g : mz_G} (hI : mz_inv g) {Q : (Option Value ⊕ Nat) → mm_H → Prop} (hQ : ∀ (g1 : mz_G), mz_inv g1 → mz_fr (fw_X11_drawAhead x) g g1 → zf_E (zF_X11_drawAhead x g) (g1) → Q (.inl none) (mz_mk g1 x)) : mm_C d 167 [.ref 0] (mz_mk g x) Q := by
  have kx := kn_x hx
  refine ⟨mmX11_drawAhead, [some (.ref 0), none, none, none], rfl, rfl, ?_⟩
  have hE : zf_E (zF_X11_drawAhead x g) (zF_X11_drawAhead x g) := zf_rf
  refine mm_g 1 (pc1 := 1) (lo1 := [some (.ref 0), none, none, none]) (st1 := [.ref 0]) (H1 := mz_mk g x) rfl ?_
  refine mz_bip rfl bip_6 ?_
  refine mz_cv rfl mt_11_390 (by decide) (sc_0 _) rfl (Nat.le_of_ble_eq_true rfl) (by omega) (f_X11_drawOf (by omega) hx hI (by decide) (by decide) (fun v1 g2 hIg2 hfg2 l_v1 u_v1 hc3 => ⟨_, rfl, ?_⟩))
  show mm_W d mmX11_drawAhead 6 [some (.ref 0), none, none, none] [.int (Int32.ofInt v1)] (mz_mk g2 x) Q
  replace hE := zf_t2 hE hc3
  refine mm_g 2 (pc1 := 8) (lo1 := [some (.ref 0), some (.int (Int32.ofInt v1)), none, none]) (st1 := [.ref 0]) (H1 := mz_mk g2 x) rfl ?_
  refine mz_fgR (v := 124) rfl fd_11_75 (by decide) (sc_0 _) (rf_0_12 _ _ _) ?_
  refine mz_gI rfl fd_11_189 (by decide) (sc_124 _) hIg2 bd_124_2 (fun v4 e_v4 l_v4 u_v4 => ?_)
  replace hE := zf_tr hE (zf_le e_v4)
  refine mz_if_eq (tgt := 22) rfl rfl (mz_rg l_v4 u_v4) (fun c14_4 => ?_) (fun c14_4 => ?_)
  · skip
    replace hE := zf_ip hE c14_4
    exact mm_rt rfl rfl (hQ _ hIg2 (fun k j hk => (hfg2 k j (fun h => hk (Or.inl h)))) hE)
  · skip
    replace hE := zf_in hE c14_4
    refine mm_g 2 (pc1 := 19) (lo1 := [some (.ref 0), some (.int (Int32.ofInt v1)), none, none]) (st1 := [.int (Int32.ofInt 2), .int (Int32.ofInt v1)]) (H1 := mz_mk g2 x) rfl ?_
    refine mz_ic_le (tgt := 23) rfl rfl (mz_rg l_v1 u_v1) ⟨by decide, by decide⟩ (fun c19_4 => ?_) (fun c19_4 => ?_)
    · skip
      replace hE := zf_nl hE c19_4
      refine mm_g 1 (pc1 := 24) (lo1 := [some (.ref 0), some (.int (Int32.ofInt v1)), none, none]) (st1 := [.ref 0]) (H1 := mz_mk g2 x) rfl ?_
      refine mz_fgR (v := 124) rfl fd_11_75 (by decide) (sc_0 _) (rf_0_12 _ _ _) ?_
      refine mm_g 2 (pc1 := 29) (lo1 := [some (.ref 0), some (.int (Int32.ofInt v1)), none, none]) (st1 := [.ref 0, .ref 0, .ref 124]) (H1 := mz_mk g2 x) rfl ?_
      refine mz_fgR (v := 124) rfl fd_11_75 (by decide) (sc_0 _) (rf_0_12 _ _ _) ?_
      refine mz_fgI (v := v4) rfl fd_11_189 (by decide) (sc_124 _) e_v4 ?_
      replace hE := zf_tr hE (zf_le e_v4)
      refine mz_cv rfl mt_11_390 (by decide) (sc_0 _) rfl (Nat.le_of_ble_eq_true rfl) (by omega) (f_X11_drawOf (by omega) hx hIg2 (by omega) (by omega) (fun v5 g6 hIg6 hfg6 l_v5 u_v5 hc7 => ⟨_, rfl, ?_⟩))
      show mm_W d mmX11_drawAhead 38 [some (.ref 0), some (.int (Int32.ofInt v1)), none, none] [.int (Int32.ofInt v5), .ref 124] (mz_mk g6 x) Q
      replace hE := zf_t2 hE hc7
      refine mz_cv rfl mt_11_192 (by decide) (sc_124 _) rfl (Nat.le_of_ble_eq_true rfl) (by omega) (f_X9_get (by omega) hx hIg6 kp_tks_124 (by omega) (by omega) (fun u8 k_u8 hp9 hc10 => ⟨_, rfl, ?_⟩))
      show mm_W d mmX11_drawAhead 41 [some (.ref 0), some (.int (Int32.ofInt v1)), none, none] [.ref u8] (mz_mk g6 x) Q
      replace hE := zf_t1 hE hc10
      refine mm_g 2 (pc1 := 43) (lo1 := [some (.ref 0), some (.int (Int32.ofInt v1)), some (.ref u8), none]) (st1 := [.int (Int32.ofInt v1)]) (H1 := mz_mk g6 x) rfl ?_
      refine mz_if_ne (tgt := 53) rfl rfl (mz_rg l_v1 u_v1) (fun c43_10 => ?_) (fun c43_10 => ?_)
      · skip
        replace hE := zf_in hE c43_10
        refine mm_g 2 (pc1 := 55) (lo1 := [some (.ref 0), some (.int (Int32.ofInt v1)), some (.ref u8), none]) (st1 := [.int (Int32.ofInt 1), .int (Int32.ofInt v1)]) (H1 := mz_mk g6 x) rfl ?_
        refine mz_ic_ne (tgt := 71) rfl rfl (mz_rg l_v1 u_v1) ⟨by decide, by decide⟩ (fun c55_10 => ?_) (fun c55_10 => ?_)
        · skip
          replace hE := zf_in hE c55_10
          refine mm_g 2 (pc1 := 73) (lo1 := [some (.ref 0), some (.int (Int32.ofInt v1)), some (.ref u8), none]) (st1 := [.ref 0, .ref 0]) (H1 := mz_mk g6 x) rfl ?_
          refine mz_fgR (v := x.1) rfl fd_11_16 (by decide) (sc_0 _) rfl ?_
          refine mz_fgR (v := (x.1 + 1)) rfl fd_11_135 (by decide) (kc_load (kx_1 hx) _) (kr_load_0 (kx_1 hx) _ _ _) ?_
          refine mz_cv rfl mt_11_152 (by decide) (kc_words (ks_load_0 (kx_1 hx)) _) rfl (Nat.le_of_ble_eq_true rfl) (by omega) (f_X10_many (by omega) hx hIg6 (ks_load_0 (kx_1 hx)) (fun v11 l_v11 u_v11 hc12 => ⟨_, rfl, ?_⟩))
          show mm_W d mmX11_drawAhead 82 [some (.ref 0), some (.int (Int32.ofInt v1)), some (.ref u8), none] [.int (Int32.ofInt v11), .ref 0] (mz_mk g6 x) Q
          replace hE := zf_t1 hE hc12
          refine mz_cv rfl mt_11_390 (by decide) (sc_0 _) rfl (Nat.le_of_ble_eq_true rfl) (by omega) (f_X11_drawOf (by omega) hx hIg6 (by omega) (by omega) (fun v13 g14 hIg14 hfg14 l_v13 u_v13 hc15 => ⟨_, rfl, ?_⟩))
          show mm_W d mmX11_drawAhead 85 [some (.ref 0), some (.int (Int32.ofInt v1)), some (.ref u8), none] [.int (Int32.ofInt v13)] (mz_mk g14 x) Q
          replace hE := zf_t2 hE hc15
          refine mm_g 4 (pc1 := 89) (lo1 := [some (.ref 0), some (.int (Int32.ofInt v1)), some (.ref u8), some (.int (Int32.ofInt v13))]) (st1 := [.int (Int32.ofInt 2), .ref 0, .ref u8]) (H1 := mz_mk g14 x) rfl ?_
          refine mz_cv rfl mt_11_390 (by decide) (sc_0 _) rfl (Nat.le_of_ble_eq_true rfl) (by omega) (f_X11_drawOf (by omega) hx hIg14 (by decide) (by decide) (fun v16 g17 hIg17 hfg17 l_v16 u_v16 hc18 => ⟨_, rfl, ?_⟩))
          show mm_W d mmX11_drawAhead 92 [some (.ref 0), some (.int (Int32.ofInt v1)), some (.ref u8), some (.int (Int32.ofInt v13))] [.int (Int32.ofInt v16), .ref u8] (mz_mk g17 x) Q
          replace hE := zf_t2 hE hc18
          refine mm_g 1 (pc1 := 93) (lo1 := [some (.ref 0), some (.int (Int32.ofInt v1)), some (.ref u8), some (.int (Int32.ofInt v13))]) (st1 := [.int (Int32.ofInt v13), .int (Int32.ofInt v16), .ref u8]) (H1 := mz_mk g17 x) rfl ?_
          refine mz_cv rfl mt_11_272 (by decide) (kc_trunk k_u8 _) rfl (Nat.le_of_ble_eq_true rfl) (by omega) (f_X8_packIn (by omega) hx hIg17 k_u8 (by omega) (by omega) (by omega) (by omega) (fun g19 hIg19 hfg19 hc20 => ⟨_, rfl, ?_⟩))
          show mm_W d mmX11_drawAhead 96 [some (.ref 0), some (.int (Int32.ofInt v1)), some (.ref u8), some (.int (Int32.ofInt v13))] [] (mz_mk g19 x) Q
          replace hE := zf_t1 hE hc20
          exact mm_rt rfl rfl (hQ _ hIg19 (fun k j hk => ((hfg19 k j (fun h => hk (Or.inr (show (124 ≤ k ∧ k < 133) by have h9 : k = u8 := h; omega)))).trans ((hfg17 k j (fun h => hk (Or.inl h))).trans ((hfg14 k j (fun h => hk (Or.inl h))).trans ((hfg6 k j (fun h => hk (Or.inl h))).trans (hfg2 k j (fun h => hk (Or.inl h)))))))) hE)
        · skip
          replace hE := zf_ip hE c55_10
          refine mm_g 2 (pc1 := 60) (lo1 := [some (.ref 0), some (.int (Int32.ofInt v1)), some (.ref u8), none]) (st1 := [.ref 0, .ref u8]) (H1 := mz_mk g6 x) rfl ?_
          refine mz_bip rfl bip_10 ?_
          refine mz_cv rfl mt_11_390 (by decide) (sc_0 _) rfl (Nat.le_of_ble_eq_true rfl) (by omega) (f_X11_drawOf (by omega) hx hIg6 (by decide) (by decide) (fun v21 g22 hIg22 hfg22 l_v21 u_v21 hc23 => ⟨_, rfl, ?_⟩))
          show mm_W d mmX11_drawAhead 65 [some (.ref 0), some (.int (Int32.ofInt v1)), some (.ref u8), none] [.int (Int32.ofInt v21), .ref u8] (mz_mk g22 x) Q
          replace hE := zf_t2 hE hc23
          refine mz_pI rfl fd_11_234 (kc_trunk k_u8 _) hIg22 (kb_trunk_2 k_u8) (by omega) (by omega) (fun g24 hIg24 hug24 => ?_)
          replace hE := zf_tr hE (zf_lg hug24)
          refine mz_gt (tgt := 96) rfl rfl ?_
          exact mm_rt rfl rfl (hQ _ hIg24 (fun k j hk => ((hug24.2 k j (fun h => hk (Or.inr (show (124 ≤ k ∧ k < 133) by have h9 : k = u8 ∧ j = 2 := h; omega)))).trans ((hfg22 k j (fun h => hk (Or.inl h))).trans ((hfg6 k j (fun h => hk (Or.inl h))).trans (hfg2 k j (fun h => hk (Or.inl h))))))) hE)
      · skip
        replace hE := zf_ip hE c43_10
        refine mm_g 1 (pc1 := 47) (lo1 := [some (.ref 0), some (.int (Int32.ofInt v1)), some (.ref u8), none]) (st1 := [.ref u8]) (H1 := mz_mk g6 x) rfl ?_
        refine mz_cv rfl mt_11_269 (by decide) (kc_trunk k_u8 _) rfl (Nat.le_of_ble_eq_true rfl) (by omega) (f_X8_turnRound (by omega) hx hIg6 k_u8 (fun g25 hIg25 hfg25 hc26 => ⟨_, rfl, ?_⟩))
        show mm_W d mmX11_drawAhead 50 [some (.ref 0), some (.int (Int32.ofInt v1)), some (.ref u8), none] [] (mz_mk g25 x) Q
        replace hE := zf_t1 hE hc26
        refine mz_gt (tgt := 96) rfl rfl ?_
        exact mm_rt rfl rfl (hQ _ hIg25 (fun k j hk => ((hfg25 k j (fun h => hk (Or.inr (show (124 ≤ k ∧ k < 133) by have h9 : k = u8 := h; omega)))).trans ((hfg6 k j (fun h => hk (Or.inl h))).trans (hfg2 k j (fun h => hk (Or.inl h)))))) hE)
    · skip
      replace hE := zf_ip hE c19_4
      exact mm_rt rfl rfl (hQ _ hIg2 (fun k j hk => (hfg2 k j (fun h => hk (Or.inl h)))) hE)
def fl_X11_years_49 (x : mm_X) (a1 : Int) (a2 : Int) (a3 : Int) : Nat → Nat → Prop := fun k j => (k = 0 ∧ j = 15) ∨ (124 ≤ k ∧ k < 133) ∨ k = ((x.1 + 36) + 2) ∨ k = ((x.1 + 36) + 3)
def fw_X11_years (x : mm_X) (a1 : Int) (a2 : Int) (a3 : Int) : Nat → Nat → Prop := fun k j => (k = 0 ∧ j = 15) ∨ (124 ≤ k ∧ k < 133) ∨ k = ((x.1 + 36) + 2) ∨ k = ((x.1 + 36) + 3)
theorem f_X11_years {d : Nat} (hd : 15 ≤ d) {x : mm_X} (hx : mk_x x) {g : mz_G} (hI : mz_inv g) {a1 : Int} (l_a1 : (-2147483648) ≤ a1) (u_a1 : a1 ≤ 2147483647) {a2 : Int} (l_a2 : (-2147483648) ≤ a2) (u_a2 : a2 ≤ 2147483647) {a3 : Int} (l_a3 : (-2147483648) ≤ a3) (u_a3 : a3 ≤ 2147483647) {Q : (Option Value ⊕ Nat) → mm_H → Prop} (hQ : ∀ (r : Int) (g1 : mz_G), mz_inv g1 → mz_fr (fw_X11_years x a1 a2 a3) g g1 → (-2147483648) ≤ r → r ≤ 2147483647 → zf_E (zF_X11_years x a1 a2 a3 g) ((0, r, g1)) → Q (.inl (some (.int (Int32.ofInt r)))) (mz_mk g1 x)) (hX0 : (zf_E (zF_X11_years x a1 a2 a3 g) ((1, 0, g))) → Q (.inr 0) (mz_mk g (mz_tx x))) (hX1 : (zf_E (zF_X11_years x a1 a2 a3 g) ((2, 0, g))) → Q (.inr 1) (mz_mk g (mz_tx x))) : mm_C d 166 [.ref 0, .int (Int32.ofInt a1), .int (Int32.ofInt a2), .int (Int32.ofInt a3)] (mz_mk g x) Q := by
  have kx := kn_x hx
  refine ⟨mmX11_years, [some (.ref 0), some (.int (Int32.ofInt a1)), some (.int (Int32.ofInt a2)), some (.int (Int32.ofInt a3)), none, none, none], rfl, rfl, ?_⟩
  have hE : zf_E (zF_X11_years x a1 a2 a3 g) (zF_X11_years x a1 a2 a3 g) := zf_rf
  refine mm_g 1 (pc1 := 1) (lo1 := [some (.ref 0), some (.int (Int32.ofInt a1)), some (.int (Int32.ofInt a2)), some (.int (Int32.ofInt a3)), none, none, none]) (st1 := [.int (Int32.ofInt a3)]) (H1 := mz_mk g x) rfl ?_
  refine mz_if_lt (tgt := 13) rfl rfl (mz_rg l_a3 u_a3) (fun c1_0 => ?_) (fun c1_0 => ?_)
  · skip
    replace hE := zf_ip hE c1_0
    refine mm_g 1 (pc1 := 14) (lo1 := [some (.ref 0), some (.int (Int32.ofInt a1)), some (.int (Int32.ofInt a2)), some (.int (Int32.ofInt a3)), none, none, none]) (st1 := [.int (Int32.ofInt 0)]) (H1 := mz_mk g x) rfl ?_
    (try unfold zJ_X11_years_13 at hE)
    (try unfold zJ_X11_years_14 at hE)
    (try unfold zJ_X11_years_13 at hE)
    (try unfold zJ_X11_years_14 at hE)
    refine mz_csx rfl mt_11_183 rfl (Nat.le_of_ble_eq_true rfl) (by omega) rfl nh_X11_mustBe (f_X11_mustBe (by omega) hx hI (by decide) (by decide) (fun hp1 hc2 => ?_) (fun hc => hX0 (zf_x2 hE hc (by decide))))
    show mm_W d mmX11_years 17 [some (.ref 0), some (.int (Int32.ofInt a1)), some (.int (Int32.ofInt a2)), some (.int (Int32.ofInt a3)), none, none, none] [] (mz_mk g x) Q
    replace hE := zf_x1 hE hc2
    exfalso; omega
  · skip
    replace hE := zf_nl hE c1_0
    refine mm_g 2 (pc1 := 6) (lo1 := [some (.ref 0), some (.int (Int32.ofInt a1)), some (.int (Int32.ofInt a2)), some (.int (Int32.ofInt a3)), none, none, none]) (st1 := [.int (Int32.ofInt 2), .int (Int32.ofInt a3)]) (H1 := mz_mk g x) rfl ?_
    refine mz_ic_gt (tgt := 13) rfl rfl (mz_rg l_a3 u_a3) ⟨by decide, by decide⟩ (fun c6_2 => ?_) (fun c6_2 => ?_)
    · skip
      replace hE := zf_ip hE c6_2
      refine mm_g 1 (pc1 := 14) (lo1 := [some (.ref 0), some (.int (Int32.ofInt a1)), some (.int (Int32.ofInt a2)), some (.int (Int32.ofInt a3)), none, none, none]) (st1 := [.int (Int32.ofInt 0)]) (H1 := mz_mk g x) rfl ?_
      (try unfold zJ_X11_years_13 at hE)
      (try unfold zJ_X11_years_14 at hE)
      (try unfold zJ_X11_years_13 at hE)
      (try unfold zJ_X11_years_14 at hE)
      refine mz_csx rfl mt_11_183 rfl (Nat.le_of_ble_eq_true rfl) (by omega) rfl nh_X11_mustBe (f_X11_mustBe (by omega) hx hI (by decide) (by decide) (fun hp3 hc4 => ?_) (fun hc => hX0 (zf_x2 hE hc (by decide))))
      show mm_W d mmX11_years 17 [some (.ref 0), some (.int (Int32.ofInt a1)), some (.int (Int32.ofInt a2)), some (.int (Int32.ofInt a3)), none, none, none] [] (mz_mk g x) Q
      replace hE := zf_x1 hE hc4
      exfalso; omega
    · skip
      replace hE := zf_nl hE c6_2
      refine mm_g 1 (pc1 := 10) (lo1 := [some (.ref 0), some (.int (Int32.ofInt a1)), some (.int (Int32.ofInt a2)), some (.int (Int32.ofInt a3)), none, none, none]) (st1 := [.int (Int32.ofInt 1)]) (H1 := mz_mk g x) rfl ?_
      refine mz_gt (tgt := 14) rfl rfl ?_
      (try unfold zJ_X11_years_13 at hE)
      (try unfold zJ_X11_years_14 at hE)
      (try unfold zJ_X11_years_13 at hE)
      (try unfold zJ_X11_years_14 at hE)
      refine mz_csx rfl mt_11_183 rfl (Nat.le_of_ble_eq_true rfl) (by omega) rfl nh_X11_mustBe (f_X11_mustBe (by omega) hx hI (by decide) (by decide) (fun hp5 hc6 => ?_) (fun hc => hX0 (zf_x2 hE hc (by decide))))
      show mm_W d mmX11_years 17 [some (.ref 0), some (.int (Int32.ofInt a1)), some (.int (Int32.ofInt a2)), some (.int (Int32.ofInt a3)), none, none, none] [] (mz_mk g x) Q
      replace hE := zf_x1 hE hc6
      refine mm_g 1 (pc1 := 18) (lo1 := [some (.ref 0), some (.int (Int32.ofInt a1)), some (.int (Int32.ofInt a2)), some (.int (Int32.ofInt a3)), none, none, none]) (st1 := [.int (Int32.ofInt a2)]) (H1 := mz_mk g x) rfl ?_
      refine mz_cs rfl mt_11_279 (by decide) rfl (Nat.le_of_ble_eq_true rfl) (by omega) (f_X11_isAhead (by omega) hx hI l_a2 u_a2 (fun v7 l_v7 u_v7 hc8 => ⟨_, rfl, ?_⟩))
      show mm_W d mmX11_years 21 [some (.ref 0), some (.int (Int32.ofInt a1)), some (.int (Int32.ofInt a2)), some (.int (Int32.ofInt a3)), none, none, none] [.int (Int32.ofInt v7)] (mz_mk g x) Q
      replace hE := zf_t1 hE hc8
      (try unfold zJ_X11_years_13 at hE)
      (try unfold zJ_X11_years_14 at hE)
      (try unfold zJ_X11_years_13 at hE)
      (try unfold zJ_X11_years_14 at hE)
      refine mz_csx rfl mt_11_106 rfl (Nat.le_of_ble_eq_true rfl) (by omega) rfl nh_X11_mustFit (f_X11_mustFit (by omega) hx hI l_v7 u_v7 (fun hp9 hc10 => ?_) (fun hc => hX1 (zf_x2 hE hc (by decide))))
      show mm_W d mmX11_years 24 [some (.ref 0), some (.int (Int32.ofInt a1)), some (.int (Int32.ofInt a2)), some (.int (Int32.ofInt a3)), none, none, none] [] (mz_mk g x) Q
      replace hE := zf_x1 hE hc10
      refine mm_g 2 (pc1 := 26) (lo1 := [some (.ref 0), some (.int (Int32.ofInt a1)), some (.int (Int32.ofInt a2)), some (.int (Int32.ofInt a3)), none, none, none]) (st1 := [.int (Int32.ofInt a1), .ref 0]) (H1 := mz_mk g x) rfl ?_
      refine mz_pI rfl fd_11_91 (sc_0 _) hI bd_0_15 (by omega) (by omega) (fun g11 hIg11 hug11 => ?_)
      replace hE := zf_tr hE (zf_lg hug11)
      refine mm_g 1 (pc1 := 30) (lo1 := [some (.ref 0), some (.int (Int32.ofInt a1)), some (.int (Int32.ofInt a2)), some (.int (Int32.ofInt a3)), none, none, none]) (st1 := [.ref 0]) (H1 := mz_mk g11 x) rfl ?_
      refine mz_fgR (v := 124) rfl fd_11_75 (by decide) (sc_0 _) (rf_0_12 _ _ _) ?_
      refine mm_g 1 (pc1 := 34) (lo1 := [some (.ref 0), some (.int (Int32.ofInt a1)), some (.int (Int32.ofInt a2)), some (.int (Int32.ofInt a3)), none, none, none]) (st1 := [.ref 0, .ref 124]) (H1 := mz_mk g11 x) rfl ?_
      refine mz_fgR (v := 86) rfl fd_11_37 (by decide) (sc_0 _) (rf_0_5 _ _ _) ?_
      refine mz_fgR (v := 87) rfl fd_11_158 (by decide) (sc_86 _) (rf_86_0 _ _ _) ?_
      refine mz_cv rfl mt_11_384 (by decide) (sc_124 _) rfl (Nat.le_of_ble_eq_true rfl) (by omega) (f_X9_copyAll (by omega) hx hIg11 kp_tks_124 kp_tks_87 (fun g12 hIg12 hfg12 hc13 => ⟨_, rfl, ?_⟩))
      show mm_W d mmX11_years 43 [some (.ref 0), some (.int (Int32.ofInt a1)), some (.int (Int32.ofInt a2)), some (.int (Int32.ofInt a3)), none, none, none] [] (mz_mk g12 x) Q
      replace hE := zf_t1 hE hc13
      refine mm_g 4 (pc1 := 49) (lo1 := [some (.ref 0), some (.int (Int32.ofInt a1)), some (.int (Int32.ofInt a2)), some (.int (Int32.ofInt a3)), some (.int (Int32.ofInt 0)), some (.int (Int32.ofInt 0)), none]) (st1 := []) (H1 := mz_mk g12 x) rfl ?_
      have L20 : ∀ n19 : Nat, ∀ (v14 : Int) (v15 : Int) (o16 : Option Value) (g17 : mz_G), (2147483647 - v15).toNat = n19 → (-2147483648) ≤ v14 → v14 ≤ 2147483647 → 0 ≤ v15 → v15 ≤ 2147483647 → mz_nl o16 → mz_inv g17 → mz_fr (fl_X11_years_49 x a1 a2 a3) g12 g17 → (∃ fk : Nat, (2147483647 - v15).toNat < fk ∧ zf_E (zF_X11_years x a1 a2 a3 g) (zL_X11_years_49 x a1 a2 a3 fk v14 v15 g17)) → mm_W d mmX11_years 49 [some (.ref 0), some (.int (Int32.ofInt a1)), some (.int (Int32.ofInt a2)), some (.int (Int32.ofInt a3)), some (.int (Int32.ofInt v14)), some (.int (Int32.ofInt v15)), o16] [] (mz_mk g17 x) Q := by
        intro n19
        induction n19 using Nat.strongRecOn with
        | ind n19 ih18 =>
        intro v14 v15 o16 g17 hmn19 l_v14 u_v14 l_v15 u_v15 h_o16 hIg17 hfg17 hF
        obtain ⟨fk, fl, hE⟩ := hF
        obtain ⟨fj21, rfl⟩ : ∃ fj, fk = fj + 1 := ⟨fk - 1, by omega⟩
        have fn22 : n19 ≤ fj21 := by omega
        replace hE := zf_tr hE zL_X11_years_49_s
        refine mm_g 2 (pc1 := 52) (lo1 := [some (.ref 0), some (.int (Int32.ofInt a1)), some (.int (Int32.ofInt a2)), some (.int (Int32.ofInt a3)), some (.int (Int32.ofInt v14)), some (.int (Int32.ofInt v15)), o16]) (st1 := [.int (Int32.ofInt a2), .int (Int32.ofInt v15)]) (H1 := mz_mk g17 x) rfl ?_
        refine mz_ic_ge (tgt := 108) rfl rfl (mz_rg l_v15 u_v15) (mz_rg l_a2 u_a2) (fun c52_22 => ?_) (fun c52_22 => ?_)
        · skip
          replace hE := zf_nl hE c52_22
          refine mm_g 1 (pc1 := 109) (lo1 := [some (.ref 0), some (.int (Int32.ofInt a1)), some (.int (Int32.ofInt a2)), some (.int (Int32.ofInt a3)), some (.int (Int32.ofInt v14)), some (.int (Int32.ofInt v15)), o16]) (st1 := [.int (Int32.ofInt a3)]) (H1 := mz_mk g17 x) rfl ?_
          refine mz_if_ne (tgt := 117) rfl rfl (mz_rg l_a3 u_a3) (fun c109_22 => ?_) (fun c109_22 => ?_)
          · skip
            replace hE := zf_in hE c109_22
            refine mm_g 2 (pc1 := 119) (lo1 := [some (.ref 0), some (.int (Int32.ofInt a1)), some (.int (Int32.ofInt a2)), some (.int (Int32.ofInt a3)), some (.int (Int32.ofInt v14)), some (.int (Int32.ofInt v15)), o16]) (st1 := [.int (Int32.ofInt 1), .int (Int32.ofInt a3)]) (H1 := mz_mk g17 x) rfl ?_
            refine mz_ic_ne (tgt := 136) rfl rfl (mz_rg l_a3 u_a3) ⟨by decide, by decide⟩ (fun c119_22 => ?_) (fun c119_22 => ?_)
            · skip
              replace hE := zf_in hE c119_22
              refine mm_g 1 (pc1 := 137) (lo1 := [some (.ref 0), some (.int (Int32.ofInt a1)), some (.int (Int32.ofInt a2)), some (.int (Int32.ofInt a3)), some (.int (Int32.ofInt v14)), some (.int (Int32.ofInt v15)), o16]) (st1 := [.ref 0]) (H1 := mz_mk g17 x) rfl ?_
              refine mz_fgR (v := x.1) rfl fd_11_16 (by decide) (sc_0 _) rfl ?_
              refine mm_g 1 (pc1 := 141) (lo1 := [some (.ref 0), some (.int (Int32.ofInt a1)), some (.int (Int32.ofInt a2)), some (.int (Int32.ofInt a3)), some (.int (Int32.ofInt v14)), some (.int (Int32.ofInt v15)), o16]) (st1 := [.ref 0, .ref x.1]) (H1 := mz_mk g17 x) rfl ?_
              refine mz_fgR (v := 124) rfl fd_11_75 (by decide) (sc_0 _) (rf_0_12 _ _ _) ?_
              refine mz_cv rfl mt_11_174 (by decide) (kc_load (kx_1 hx) _) rfl (Nat.le_of_ble_eq_true rfl) (by omega) (f_X1_lettersOfAll (by omega) hx hIg17 (kx_1 hx) kp_tks_124 (fun v23 l_v23 u_v23 hc24 => ⟨_, rfl, ?_⟩))
              show mm_W d mmX11_years 147 [some (.ref 0), some (.int (Int32.ofInt a1)), some (.int (Int32.ofInt a2)), some (.int (Int32.ofInt a3)), some (.int (Int32.ofInt v14)), some (.int (Int32.ofInt v15)), o16] [.int (Int32.ofInt v23)] (mz_mk g17 x) Q
              replace hE := zf_t1 hE hc24
              exact mm_rt rfl rfl (hQ _ _ hIg17 (fun k j hk => ((hfg17 k j (fun h => hk (Or.elim h (fun h => (Or.inl h)) (fun h => (Or.elim h (fun h => (Or.inr (Or.inl h))) (fun h => (Or.elim h (fun h => (Or.inr (Or.inr (Or.inl h)))) (fun h => (Or.inr (Or.inr (Or.inr h))))))))))).trans ((hfg12 k j (fun h => hk (Or.inr (Or.inl h)))).trans (hug11.2 k j (fun h => hk (Or.inl h)))))) (by omega) (by omega) hE)
            · skip
              replace hE := zf_ip hE c119_22
              refine mm_g 1 (pc1 := 123) (lo1 := [some (.ref 0), some (.int (Int32.ofInt a1)), some (.int (Int32.ofInt a2)), some (.int (Int32.ofInt a3)), some (.int (Int32.ofInt v14)), some (.int (Int32.ofInt v15)), o16]) (st1 := [.ref 0]) (H1 := mz_mk g17 x) rfl ?_
              refine mz_fgR (v := x.1) rfl fd_11_16 (by decide) (sc_0 _) rfl ?_
              refine mm_g 1 (pc1 := 127) (lo1 := [some (.ref 0), some (.int (Int32.ofInt a1)), some (.int (Int32.ofInt a2)), some (.int (Int32.ofInt a3)), some (.int (Int32.ofInt v14)), some (.int (Int32.ofInt v15)), o16]) (st1 := [.ref 0, .ref x.1]) (H1 := mz_mk g17 x) rfl ?_
              refine mz_fgR (v := 124) rfl fd_11_75 (by decide) (sc_0 _) (rf_0_12 _ _ _) ?_
              refine mz_cv rfl mt_11_167 (by decide) (kc_load (kx_1 hx) _) rfl (Nat.le_of_ble_eq_true rfl) (by omega) (f_X1_howManyFull (by omega) hx hIg17 (kx_1 hx) kp_tks_124 (fun v25 l_v25 u_v25 hc26 => ⟨_, rfl, ?_⟩))
              show mm_W d mmX11_years 133 [some (.ref 0), some (.int (Int32.ofInt a1)), some (.int (Int32.ofInt a2)), some (.int (Int32.ofInt a3)), some (.int (Int32.ofInt v14)), some (.int (Int32.ofInt v15)), o16] [.int (Int32.ofInt v25)] (mz_mk g17 x) Q
              replace hE := zf_t1 hE hc26
              refine mz_gt (tgt := 147) rfl rfl ?_
              exact mm_rt rfl rfl (hQ _ _ hIg17 (fun k j hk => ((hfg17 k j (fun h => hk (Or.elim h (fun h => (Or.inl h)) (fun h => (Or.elim h (fun h => (Or.inr (Or.inl h))) (fun h => (Or.elim h (fun h => (Or.inr (Or.inr (Or.inl h)))) (fun h => (Or.inr (Or.inr (Or.inr h))))))))))).trans ((hfg12 k j (fun h => hk (Or.inr (Or.inl h)))).trans (hug11.2 k j (fun h => hk (Or.inl h)))))) (by omega) (by omega) hE)
          · skip
            replace hE := zf_ip hE c109_22
            refine mm_g 1 (pc1 := 114) (lo1 := [some (.ref 0), some (.int (Int32.ofInt a1)), some (.int (Int32.ofInt a2)), some (.int (Int32.ofInt a3)), some (.int (Int32.ofInt v14)), some (.int (Int32.ofInt v15)), o16]) (st1 := [.int (Int32.ofInt v14)]) (H1 := mz_mk g17 x) rfl ?_
            refine mz_gt (tgt := 147) rfl rfl ?_
            exact mm_rt rfl rfl (hQ _ _ hIg17 (fun k j hk => ((hfg17 k j (fun h => hk (Or.elim h (fun h => (Or.inl h)) (fun h => (Or.elim h (fun h => (Or.inr (Or.inl h))) (fun h => (Or.elim h (fun h => (Or.inr (Or.inr (Or.inl h)))) (fun h => (Or.inr (Or.inr (Or.inr h))))))))))).trans ((hfg12 k j (fun h => hk (Or.inr (Or.inl h)))).trans (hug11.2 k j (fun h => hk (Or.inl h)))))) (by omega) (by omega) hE)
        · skip
          replace hE := zf_ip hE c52_22
          refine mm_g 1 (pc1 := 56) (lo1 := [some (.ref 0), some (.int (Int32.ofInt a1)), some (.int (Int32.ofInt a2)), some (.int (Int32.ofInt a3)), some (.int (Int32.ofInt v14)), some (.int (Int32.ofInt v15)), o16]) (st1 := [.ref 0]) (H1 := mz_mk g17 x) rfl ?_
          refine mz_cv rfl mt_11_387 (by decide) (sc_0 _) rfl (Nat.le_of_ble_eq_true rfl) (by omega) (f_X11_drawAhead (by omega) hx hIg17 (fun g27 hIg27 hfg27 hc28 => ⟨_, rfl, ?_⟩))
          show mm_W d mmX11_years 59 [some (.ref 0), some (.int (Int32.ofInt a1)), some (.int (Int32.ofInt a2)), some (.int (Int32.ofInt a3)), some (.int (Int32.ofInt v14)), some (.int (Int32.ofInt v15)), o16] [] (mz_mk g27 x) Q
          replace hE := zf_t1 hE hc28
          refine mm_g 1 (pc1 := 60) (lo1 := [some (.ref 0), some (.int (Int32.ofInt a1)), some (.int (Int32.ofInt a2)), some (.int (Int32.ofInt a3)), some (.int (Int32.ofInt v14)), some (.int (Int32.ofInt v15)), o16]) (st1 := [.ref 0]) (H1 := mz_mk g27 x) rfl ?_
          refine mz_fgR (v := x.1) rfl fd_11_16 (by decide) (sc_0 _) rfl ?_
          refine mm_g 1 (pc1 := 64) (lo1 := [some (.ref 0), some (.int (Int32.ofInt a1)), some (.int (Int32.ofInt a2)), some (.int (Int32.ofInt a3)), some (.int (Int32.ofInt v14)), some (.int (Int32.ofInt v15)), o16]) (st1 := [.ref 0, .ref x.1]) (H1 := mz_mk g27 x) rfl ?_
          refine mz_fgR (v := 124) rfl fd_11_75 (by decide) (sc_0 _) (rf_0_12 _ _ _) ?_
          refine mz_cv rfl mt_11_167 (by decide) (kc_load (kx_1 hx) _) rfl (Nat.le_of_ble_eq_true rfl) (by omega) (f_X1_howManyFull (by omega) hx hIg27 (kx_1 hx) kp_tks_124 (fun v29 l_v29 u_v29 hc30 => ⟨_, rfl, ?_⟩))
          show mm_W d mmX11_years 70 [some (.ref 0), some (.int (Int32.ofInt a1)), some (.int (Int32.ofInt a2)), some (.int (Int32.ofInt a3)), some (.int (Int32.ofInt v14)), some (.int (Int32.ofInt v15)), o16] [.int (Int32.ofInt v29)] (mz_mk g27 x) Q
          replace hE := zf_t1 hE hc30
          refine mm_g 2 (pc1 := 73) (lo1 := [some (.ref 0), some (.int (Int32.ofInt a1)), some (.int (Int32.ofInt a2)), some (.int (Int32.ofInt a3)), some (.int (Int32.ofInt v14)), some (.int (Int32.ofInt v15)), some (.int (Int32.ofInt v29))]) (st1 := [.ref 0]) (H1 := mz_mk g27 x) rfl ?_
          refine mz_fgR (v := x.1) rfl fd_11_16 (by decide) (sc_0 _) rfl ?_
          refine mm_g 1 (pc1 := 77) (lo1 := [some (.ref 0), some (.int (Int32.ofInt a1)), some (.int (Int32.ofInt a2)), some (.int (Int32.ofInt a3)), some (.int (Int32.ofInt v14)), some (.int (Int32.ofInt v15)), some (.int (Int32.ofInt v29))]) (st1 := [.ref 0, .ref x.1]) (H1 := mz_mk g27 x) rfl ?_
          refine mz_fgR (v := 124) rfl fd_11_75 (by decide) (sc_0 _) (rf_0_12 _ _ _) ?_
          refine mz_cv rfl mt_11_256 (by decide) (kc_load (kx_1 hx) _) rfl (Nat.le_of_ble_eq_true rfl) (by omega) (f_X1_passDay (by omega) hx hIg27 (kx_1 hx) kp_tks_124 (fun g31 hIg31 hfg31 hc32 => ⟨_, rfl, ?_⟩))
          show mm_W d mmX11_years 83 [some (.ref 0), some (.int (Int32.ofInt a1)), some (.int (Int32.ofInt a2)), some (.int (Int32.ofInt a3)), some (.int (Int32.ofInt v14)), some (.int (Int32.ofInt v15)), some (.int (Int32.ofInt v29))] [] (mz_mk g31 x) Q
          replace hE := zf_t1 hE hc32
          refine mm_g 2 (pc1 := 86) (lo1 := [some (.ref 0), some (.int (Int32.ofInt a1)), some (.int (Int32.ofInt a2)), some (.int (Int32.ofInt a3)), some (.int (Int32.ofInt v14)), some (.int (Int32.ofInt v15)), some (.int (Int32.ofInt v29))]) (st1 := [.ref 0, .int (Int32.ofInt v14)]) (H1 := mz_mk g31 x) rfl ?_
          refine mz_fgR (v := x.1) rfl fd_11_16 (by decide) (sc_0 _) rfl ?_
          refine mm_g 1 (pc1 := 90) (lo1 := [some (.ref 0), some (.int (Int32.ofInt a1)), some (.int (Int32.ofInt a2)), some (.int (Int32.ofInt a3)), some (.int (Int32.ofInt v14)), some (.int (Int32.ofInt v15)), some (.int (Int32.ofInt v29))]) (st1 := [.ref 0, .ref x.1, .int (Int32.ofInt v14)]) (H1 := mz_mk g31 x) rfl ?_
          refine mz_fgR (v := 124) rfl fd_11_75 (by decide) (sc_0 _) (rf_0_12 _ _ _) ?_
          refine mz_cv rfl mt_11_167 (by decide) (kc_load (kx_1 hx) _) rfl (Nat.le_of_ble_eq_true rfl) (by omega) (f_X1_howManyFull (by omega) hx hIg31 (kx_1 hx) kp_tks_124 (fun v33 l_v33 u_v33 hc34 => ⟨_, rfl, ?_⟩))
          show mm_W d mmX11_years 96 [some (.ref 0), some (.int (Int32.ofInt a1)), some (.int (Int32.ofInt a2)), some (.int (Int32.ofInt a3)), some (.int (Int32.ofInt v14)), some (.int (Int32.ofInt v15)), some (.int (Int32.ofInt v29))] [.int (Int32.ofInt v33), .int (Int32.ofInt v14)] (mz_mk g31 x) Q
          replace hE := zf_t1 hE hc34
          refine mm_g 1 (pc1 := 98) (lo1 := [some (.ref 0), some (.int (Int32.ofInt a1)), some (.int (Int32.ofInt a2)), some (.int (Int32.ofInt a3)), some (.int (Int32.ofInt v14)), some (.int (Int32.ofInt v15)), some (.int (Int32.ofInt v29))]) (st1 := [.int (Int32.ofInt v29), .int (Int32.ofInt v33), .int (Int32.ofInt v14)]) (H1 := mz_mk g31 x) rfl ?_
          refine mz_isub_w rfl (fun v35 e_v35 hwv35 => ?_)
          have l_v35 := hwv35.1
          have u_v35 := hwv35.2
          replace hE := zf_tr hE (zf_le e_v35.symm)
          refine mz_iadd_w rfl (fun v36 e_v36 hwv36 => ?_)
          have l_v36 := hwv36.1
          have u_v36 := hwv36.2
          replace hE := zf_tr hE (zf_le e_v36.symm)
          refine mm_g 1 (pc1 := 102) (lo1 := [some (.ref 0), some (.int (Int32.ofInt a1)), some (.int (Int32.ofInt a2)), some (.int (Int32.ofInt a3)), some (.int (Int32.ofInt v36)), some (.int (Int32.ofInt v15)), some (.int (Int32.ofInt v29))]) (st1 := []) (H1 := mz_mk g31 x) rfl ?_
          refine mz_iincR (v := v15) (lo2 := [some (.ref 0), some (.int (Int32.ofInt a1)), some (.int (Int32.ofInt a2)), some (.int (Int32.ofInt a3)), some (.int (Int32.ofInt v36)), some (.int (Int32.ofInt (v15 + 1))), some (.int (Int32.ofInt v29))]) rfl rfl rfl (Nat.le_of_ble_eq_true rfl) rfl ?_
          refine mz_gt (tgt := 49) rfl rfl ?_
          exact ih18 ((2147483647 - (v15 + 1)).toNat) (by omega) v36 (v15 + 1) (some (.int (Int32.ofInt v29))) g31 rfl (by omega) (by omega) (by omega) (by omega) (mz_nl_i _) hIg31 (fun k j hk => ((hfg31 k j (fun h => hk (Or.elim h (fun h => (Or.inr (Or.inl h))) (fun h => (Or.elim h (fun h => (Or.inr (Or.inr (Or.inl h)))) (fun h => (Or.inr (Or.inr (Or.inr h))))))))).trans ((hfg27 k j (fun h => hk (Or.elim h (fun h => (Or.inl h)) (fun h => (Or.inr (Or.inl h)))))).trans (hfg17 k j (fun h => hk (Or.elim h (fun h => (Or.inl h)) (fun h => (Or.elim h (fun h => (Or.inr (Or.inl h))) (fun h => (Or.elim h (fun h => (Or.inr (Or.inr (Or.inl h)))) (fun h => (Or.inr (Or.inr (Or.inr h)))))))))))))) ⟨fj21, Nat.lt_of_lt_of_le (show ((2147483647 - (v15 + 1)).toNat) < n19 from (by omega)) fn22, hE⟩
      exact L20 _ 0 0 none g12 rfl (by decide) (by decide) (by decide) (by decide) mz_nl_n hIg12 (fun _ _ _ => rfl) ⟨3000000000, by omega, hE⟩
def fl_X11_copyRow_2 (x : mm_X) (q1 : Nat) (q2 : Nat) : Nat → Nat → Prop := fun k j => k = q2
def fw_X11_copyRow (x : mm_X) (q1 : Nat) (q2 : Nat) : Nat → Nat → Prop := fun k j => k = q2
theorem f_X11_copyRow {d : Nat} (hd : 1 ≤ d) {x : mm_X} (hx : mk_x x) {g : mz_G} (hI : mz_inv g) {q1 n_q1 : Nat} {lb_q1 ub_q1 : Int} (h_q1 : mm_SH x.2.2.2.1 q1 = (100, n_q1)) (m_q1 : n_q1 ≤ 2048) (b_q1 : ∀ j, mz_bd q1 j = (lb_q1, ub_q1)) (y_q1 : lb_q1 ≤ 0) (z_q1 : 0 ≤ ub_q1) {q2 n_q2 : Nat} {lb_q2 ub_q2 : Int} (h_q2 : mm_SH x.2.2.2.1 q2 = (100, n_q2)) (m_q2 : n_q2 ≤ 2048) (b_q2 : ∀ j, mz_bd q2 j = (lb_q2, ub_q2)) (y_q2 : lb_q2 ≤ 0) (z_q2 : 0 ≤ ub_q2) (p1 : lb_q2 ≤ lb_q1) (p2 : ub_q1 ≤ ub_q2) {Q : (Option Value ⊕ Nat) → mm_H → Prop} (hQ : ∀ (g1 : mz_G), mz_inv g1 → mz_fr (fw_X11_copyRow x q1 q2) g g1 → zf_E (zF_X11_copyRow q1 n_q1 q2 n_q2 g) (g1) → Q (.inl none) (mz_mk g1 x)) : mm_C d 178 [.ref q1, .ref q2] (mz_mk g x) Q := by
  have kx := kn_x hx
  refine ⟨mmX11_copyRow, [some (.ref q1), some (.ref q2), none], rfl, rfl, ?_⟩
  have hE : zf_E (zF_X11_copyRow q1 n_q1 q2 n_q2 g) (zF_X11_copyRow q1 n_q1 q2 n_q2 g) := zf_rf
  refine mm_g 2 (pc1 := 2) (lo1 := [some (.ref q1), some (.ref q2), some (.int (Int32.ofInt 0))]) (st1 := []) (H1 := mz_mk g x) rfl ?_
  have L5 : ∀ n4 : Nat, ∀ (v1 : Int) (g2 : mz_G), (2048 - v1).toNat = n4 → 0 ≤ v1 → v1 ≤ 2048 → mz_inv g2 → mz_fr (fl_X11_copyRow_2 x q1 q2) g g2 → (∃ fk : Nat, (2048 - v1).toNat < fk ∧ zf_E (zF_X11_copyRow q1 n_q1 q2 n_q2 g) (zL_X11_copyRow_2 q1 n_q1 q2 n_q2 fk v1 g2)) → mm_W d mmX11_copyRow 2 [some (.ref q1), some (.ref q2), some (.int (Int32.ofInt v1))] [] (mz_mk g2 x) Q := by
    intro n4
    induction n4 using Nat.strongRecOn with
    | ind n4 ih3 =>
    intro v1 g2 hmn4 l_v1 u_v1 hIg2 hfg2 hF
    obtain ⟨fk, fl, hE⟩ := hF
    obtain ⟨fj6, rfl⟩ : ∃ fj, fk = fj + 1 := ⟨fk - 1, by omega⟩
    have fn7 : n4 ≤ fj6 := by omega
    replace hE := zf_tr hE zL_X11_copyRow_2_s
    refine mm_g 2 (pc1 := 4) (lo1 := [some (.ref q1), some (.ref q2), some (.int (Int32.ofInt v1))]) (st1 := [.ref q1, .int (Int32.ofInt v1)]) (H1 := mz_mk g2 x) rfl ?_
    refine mz_al rfl h_q1 (by decide) ?_
    refine mz_ic_ge (tgt := 26) rfl rfl (mz_rg l_v1 u_v1) ⟨by omega, by omega⟩ (fun c5_7 => ?_) (fun c5_7 => ?_)
    · skip
      replace hE := zf_nl hE c5_7
      exact mm_rt rfl rfl (hQ _ hIg2 (fun k j hk => (hfg2 k j (fun h => hk h))) hE)
    · skip
      replace hE := zf_ip hE c5_7
      refine mm_g 2 (pc1 := 10) (lo1 := [some (.ref q1), some (.ref q2), some (.int (Int32.ofInt v1))]) (st1 := [.ref q2, .int (Int32.ofInt v1)]) (H1 := mz_mk g2 x) rfl ?_
      refine mz_al rfl h_q2 (by decide) ?_
      refine mz_ic_ge (tgt := 26) rfl rfl (mz_rg l_v1 u_v1) ⟨by omega, by omega⟩ (fun c11_7 => ?_) (fun c11_7 => ?_)
      · skip
        replace hE := zf_nl hE c11_7
        exact mm_rt rfl rfl (hQ _ hIg2 (fun k j hk => (hfg2 k j (fun h => hk h))) hE)
      · skip
        replace hE := zf_ip hE c11_7
        refine mm_g 4 (pc1 := 18) (lo1 := [some (.ref q1), some (.ref q2), some (.int (Int32.ofInt v1))]) (st1 := [.int (Int32.ofInt v1), .ref q1, .int (Int32.ofInt v1), .ref q2]) (H1 := mz_mk g2 x) rfl ?_
        refine mz_aI rfl h_q1 (by omega) (by omega) (by omega) hIg2 (b_q1 _) (fun v8 e_v8 l_v8 u_v8 => ?_)
        replace hE := zf_tr hE (zf_le e_v8)
        refine mz_sI rfl h_q2 (by omega) (by omega) (by omega) hIg2 (b_q2 _) (by omega) (by omega) (fun g9 hIg9 hug9 => ?_)
        replace hE := zf_tr hE (zf_lg hug9)
        refine mz_iincR (v := v1) (lo2 := [some (.ref q1), some (.ref q2), some (.int (Int32.ofInt (v1 + 1)))]) rfl rfl rfl (Nat.le_of_ble_eq_true rfl) rfl ?_
        refine mz_gt (tgt := 2) rfl rfl ?_
        exact ih3 ((2048 - (v1 + 1)).toNat) (by omega) (v1 + 1) g9 rfl (by omega) (by omega) hIg9 (fun k j hk => ((hug9.2 k j (fun h => hk h.1)).trans (hfg2 k j (fun h => hk h)))) ⟨fj6, Nat.lt_of_lt_of_le (show ((2048 - (v1 + 1)).toNat) < n4 from (by omega)) fn7, hE⟩
  exact L5 _ 0 g rfl (by decide) (by decide) hI (fun _ _ _ => rfl) ⟨3000000000, by omega, hE⟩
def fw_X6_takeOver (x : mm_X) (q0 : Nat) (q1 : Nat) : Nat → Nat → Prop := fun k j => ((q0 + 1) ≤ k ∧ k < (q0 + 1) + 9) ∨ k = (q0 + 10) ∨ k = q0 ∨ k = (q0 + 11) ∨ k = (q0 + 12) ∨ k = (q0 + 13) ∨ k = (q0 + 14)
theorem f_X6_takeOver {d : Nat} (hd : 3 ≤ d) {x : mm_X} (hx : mk_x x) {g : mz_G} (hI : mz_inv g) {q0 : Nat} (h_q0 : kd_story q0) {q1 : Nat} (h_q1 : kd_story q1) {Q : (Option Value ⊕ Nat) → mm_H → Prop} (hQ : ∀ (g1 : mz_G), mz_inv g1 → mz_fr (fw_X6_takeOver x q0 q1) g g1 → zf_E (zF_X6_takeOver q0 q1 g) (g1) → Q (.inl none) (mz_mk g1 x)) : mm_C d 66 [.ref q0, .ref q1] (mz_mk g x) Q := by
  have kn_q0 := kn_story h_q0
  have kn_q1 := kn_story h_q1
  refine ⟨mmX6_takeOver, [some (.ref q0), some (.ref q1)], rfl, rfl, ?_⟩
  have hE : zf_E (zF_X6_takeOver q0 q1 g) (zF_X6_takeOver q0 q1 g) := zf_rf
  refine mm_g 1 (pc1 := 1) (lo1 := [some (.ref q0), some (.ref q1)]) (st1 := [.ref q0]) (H1 := mz_mk g x) rfl ?_
  refine mz_fgR (v := (q0 + 1)) rfl fd_6_12 (by decide) (kc_story h_q0 _) (kr_story_0 h_q0 _ _ _) ?_
  refine mm_g 1 (pc1 := 5) (lo1 := [some (.ref q0), some (.ref q1)]) (st1 := [.ref q1, .ref (q0 + 1)]) (H1 := mz_mk g x) rfl ?_
  refine mz_fgR (v := (q1 + 1)) rfl fd_6_12 (by decide) (kc_story h_q1 _) (kr_story_0 h_q1 _ _ _) ?_
  refine mz_cv rfl mt_6_44 (by decide) (kc_tks (ks_story_0 h_q0) _) rfl (Nat.le_of_ble_eq_true rfl) (by omega) (f_X9_copyAll (by omega) hx hI (ks_story_0 h_q0) (ks_story_0 h_q1) (fun g1 hIg1 hfg1 hc2 => ⟨_, rfl, ?_⟩))
  show mm_W d mmX6_takeOver 11 [some (.ref q0), some (.ref q1)] [] (mz_mk g1 x) Q
  replace hE := zf_t1 hE hc2
  refine mm_g 1 (pc1 := 12) (lo1 := [some (.ref q0), some (.ref q1)]) (st1 := [.ref q1]) (H1 := mz_mk g1 x) rfl ?_
  refine mz_fgR (v := (q1 + 10)) rfl fd_6_18 (by decide) (kc_story h_q1 _) (kr_story_1 h_q1 _ _ _) ?_
  refine mm_g 1 (pc1 := 16) (lo1 := [some (.ref q0), some (.ref q1)]) (st1 := [.ref q0, .ref (q1 + 10)]) (H1 := mz_mk g1 x) rfl ?_
  refine mz_fgR (v := (q0 + 10)) rfl fd_6_18 (by decide) (kc_story h_q0 _) (kr_story_1 h_q0 _ _ _) ?_
  refine mz_cs rfl mt_6_48 (by decide) rfl (Nat.le_of_ble_eq_true rfl) (by omega) (f_X11_copyRow (by omega) hx hIg1 (ka_story_1 h_q1 _) (by decide) (kba_story_1 h_q1) (by omega) (by omega) (ka_story_1 h_q0 _) (by decide) (kba_story_1 h_q0) (by omega) (by omega) (by omega) (by omega) (fun g3 hIg3 hfg3 hc4 => ⟨_, rfl, ?_⟩))
  show mm_W d mmX6_takeOver 22 [some (.ref q0), some (.ref q1)] [] (mz_mk g3 x) Q
  replace hE := zf_t1 hE hc4
  refine mm_g 2 (pc1 := 24) (lo1 := [some (.ref q0), some (.ref q1)]) (st1 := [.ref q1, .ref q0]) (H1 := mz_mk g3 x) rfl ?_
  refine mz_gI rfl fd_6_22 (by decide) (kc_story h_q1 _) hIg3 (kb_story_2 h_q1) (fun v5 e_v5 l_v5 u_v5 => ?_)
  replace hE := zf_tr hE (zf_le e_v5)
  refine mz_pI rfl fd_6_22 (kc_story h_q0 _) hIg3 (kb_story_2 h_q0) (by omega) (by omega) (fun g6 hIg6 hug6 => ?_)
  replace hE := zf_tr hE (zf_lg hug6)
  refine mm_g 2 (pc1 := 32) (lo1 := [some (.ref q0), some (.ref q1)]) (st1 := [.ref q1, .ref q0]) (H1 := mz_mk g6 x) rfl ?_
  refine mz_gI rfl fd_6_26 (by decide) (kc_story h_q1 _) hIg6 (kb_story_3 h_q1) (fun v7 e_v7 l_v7 u_v7 => ?_)
  replace hE := zf_tr hE (zf_le e_v7)
  refine mz_pI rfl fd_6_26 (kc_story h_q0 _) hIg6 (kb_story_3 h_q0) (by omega) (by omega) (fun g8 hIg8 hug8 => ?_)
  replace hE := zf_tr hE (zf_lg hug8)
  refine mm_g 1 (pc1 := 39) (lo1 := [some (.ref q0), some (.ref q1)]) (st1 := [.ref q1]) (H1 := mz_mk g8 x) rfl ?_
  refine mz_fgR (v := (q1 + 11)) rfl fd_6_29 (by decide) (kc_story h_q1 _) (kr_story_4 h_q1 _ _ _) ?_
  refine mm_g 1 (pc1 := 43) (lo1 := [some (.ref q0), some (.ref q1)]) (st1 := [.ref q0, .ref (q1 + 11)]) (H1 := mz_mk g8 x) rfl ?_
  refine mz_fgR (v := (q0 + 11)) rfl fd_6_29 (by decide) (kc_story h_q0 _) (kr_story_4 h_q0 _ _ _) ?_
  refine mz_cs rfl mt_6_48 (by decide) rfl (Nat.le_of_ble_eq_true rfl) (by omega) (f_X11_copyRow (by omega) hx hIg8 (ka_story_4 h_q1 _) (by decide) (kba_story_4 h_q1) (by omega) (by omega) (ka_story_4 h_q0 _) (by decide) (kba_story_4 h_q0) (by omega) (by omega) (by omega) (by omega) (fun g9 hIg9 hfg9 hc10 => ⟨_, rfl, ?_⟩))
  show mm_W d mmX6_takeOver 49 [some (.ref q0), some (.ref q1)] [] (mz_mk g9 x) Q
  replace hE := zf_t1 hE hc10
  refine mm_g 1 (pc1 := 50) (lo1 := [some (.ref q0), some (.ref q1)]) (st1 := [.ref q1]) (H1 := mz_mk g9 x) rfl ?_
  refine mz_fgR (v := (q1 + 12)) rfl fd_6_32 (by decide) (kc_story h_q1 _) (kr_story_5 h_q1 _ _ _) ?_
  refine mm_g 1 (pc1 := 54) (lo1 := [some (.ref q0), some (.ref q1)]) (st1 := [.ref q0, .ref (q1 + 12)]) (H1 := mz_mk g9 x) rfl ?_
  refine mz_fgR (v := (q0 + 12)) rfl fd_6_32 (by decide) (kc_story h_q0 _) (kr_story_5 h_q0 _ _ _) ?_
  refine mz_cs rfl mt_6_48 (by decide) rfl (Nat.le_of_ble_eq_true rfl) (by omega) (f_X11_copyRow (by omega) hx hIg9 (ka_story_5 h_q1 _) (by decide) (kba_story_5 h_q1) (by omega) (by omega) (ka_story_5 h_q0 _) (by decide) (kba_story_5 h_q0) (by omega) (by omega) (by omega) (by omega) (fun g11 hIg11 hfg11 hc12 => ⟨_, rfl, ?_⟩))
  show mm_W d mmX6_takeOver 60 [some (.ref q0), some (.ref q1)] [] (mz_mk g11 x) Q
  replace hE := zf_t1 hE hc12
  refine mm_g 1 (pc1 := 61) (lo1 := [some (.ref q0), some (.ref q1)]) (st1 := [.ref q1]) (H1 := mz_mk g11 x) rfl ?_
  refine mz_fgR (v := (q1 + 13)) rfl fd_6_35 (by decide) (kc_story h_q1 _) (kr_story_6 h_q1 _ _ _) ?_
  refine mm_g 1 (pc1 := 65) (lo1 := [some (.ref q0), some (.ref q1)]) (st1 := [.ref q0, .ref (q1 + 13)]) (H1 := mz_mk g11 x) rfl ?_
  refine mz_fgR (v := (q0 + 13)) rfl fd_6_35 (by decide) (kc_story h_q0 _) (kr_story_6 h_q0 _ _ _) ?_
  refine mz_cs rfl mt_6_48 (by decide) rfl (Nat.le_of_ble_eq_true rfl) (by omega) (f_X11_copyRow (by omega) hx hIg11 (ka_story_6 h_q1 _) (by decide) (kba_story_6 h_q1) (by omega) (by omega) (ka_story_6 h_q0 _) (by decide) (kba_story_6 h_q0) (by omega) (by omega) (by omega) (by omega) (fun g13 hIg13 hfg13 hc14 => ⟨_, rfl, ?_⟩))
  show mm_W d mmX6_takeOver 71 [some (.ref q0), some (.ref q1)] [] (mz_mk g13 x) Q
  replace hE := zf_t1 hE hc14
  refine mm_g 2 (pc1 := 73) (lo1 := [some (.ref q0), some (.ref q1)]) (st1 := [.ref q1, .ref q0]) (H1 := mz_mk g13 x) rfl ?_
  refine mz_gI rfl fd_6_38 (by decide) (kc_story h_q1 _) hIg13 (kb_story_7 h_q1) (fun v15 e_v15 l_v15 u_v15 => ?_)
  replace hE := zf_tr hE (zf_le e_v15)
  refine mz_pI rfl fd_6_38 (kc_story h_q0 _) hIg13 (kb_story_7 h_q0) (by omega) (by omega) (fun g16 hIg16 hug16 => ?_)
  replace hE := zf_tr hE (zf_lg hug16)
  refine mm_g 1 (pc1 := 80) (lo1 := [some (.ref q0), some (.ref q1)]) (st1 := [.ref q1]) (H1 := mz_mk g16 x) rfl ?_
  refine mz_fgR (v := (q1 + 14)) rfl fd_6_41 (by decide) (kc_story h_q1 _) (kr_story_8 h_q1 _ _ _) ?_
  refine mm_g 1 (pc1 := 84) (lo1 := [some (.ref q0), some (.ref q1)]) (st1 := [.ref q0, .ref (q1 + 14)]) (H1 := mz_mk g16 x) rfl ?_
  refine mz_fgR (v := (q0 + 14)) rfl fd_6_41 (by decide) (kc_story h_q0 _) (kr_story_8 h_q0 _ _ _) ?_
  refine mz_cs rfl mt_6_48 (by decide) rfl (Nat.le_of_ble_eq_true rfl) (by omega) (f_X11_copyRow (by omega) hx hIg16 (ka_story_8 h_q1 _) (by decide) (kba_story_8 h_q1) (by omega) (by omega) (ka_story_8 h_q0 _) (by decide) (kba_story_8 h_q0) (by omega) (by omega) (by omega) (by omega) (fun g17 hIg17 hfg17 hc18 => ⟨_, rfl, ?_⟩))
  show mm_W d mmX6_takeOver 90 [some (.ref q0), some (.ref q1)] [] (mz_mk g17 x) Q
  replace hE := zf_t1 hE hc18
  exact mm_rt rfl rfl (hQ _ hIg17 (fun k j hk => ((hfg17 k j (fun h => hk (Or.inr (Or.inr (Or.inr (Or.inr (Or.inr (Or.inr h)))))))).trans ((hug16.2 k j (fun h => hk (Or.inr (Or.inr (Or.inl h.1))))).trans ((hfg13 k j (fun h => hk (Or.inr (Or.inr (Or.inr (Or.inr (Or.inr (Or.inl h)))))))).trans ((hfg11 k j (fun h => hk (Or.inr (Or.inr (Or.inr (Or.inr (Or.inl h))))))).trans ((hfg9 k j (fun h => hk (Or.inr (Or.inr (Or.inr (Or.inl h)))))).trans ((hug8.2 k j (fun h => hk (Or.inr (Or.inr (Or.inl h.1))))).trans ((hug6.2 k j (fun h => hk (Or.inr (Or.inr (Or.inl h.1))))).trans ((hfg3 k j (fun h => hk (Or.inr (Or.inl h)))).trans (hfg1 k j (fun h => hk (Or.inl h)))))))))))) hE)
def fw_X11_image (x : mm_X) : Nat → Nat → Prop := fun k j => (102 ≤ k ∧ k < 111) ∨ k = 111 ∨ k = 101 ∨ k = 112 ∨ k = 113 ∨ k = 114 ∨ k = 115 ∨ (k = 0 ∧ j = 7)
theorem f_X11_image {d : Nat} (hd : 4 ≤ d) {x : mm_X} (hx : mk_x x) {g : mz_G} (hI : mz_inv g) {Q : (Option Value ⊕ Nat) → mm_H → Prop} (hQ : ∀ (g1 : mz_G), mz_inv g1 → mz_fr (fw_X11_image x) g g1 → zf_E (zF_X11_image x g) (g1) → Q (.inl none) (mz_mk g1 x)) : mm_C d 169 [.ref 0] (mz_mk g x) Q := by
  have kx := kn_x hx
  refine ⟨mmX11_image, [some (.ref 0)], rfl, rfl, ?_⟩
  have hE : zf_E (zF_X11_image x g) (zF_X11_image x g) := zf_rf
  refine mm_g 1 (pc1 := 1) (lo1 := [some (.ref 0)]) (st1 := [.ref 0]) (H1 := mz_mk g x) rfl ?_
  refine mz_fgR (v := 101) rfl fd_11_41 (by decide) (sc_0 _) (rf_0_6 _ _ _) ?_
  refine mm_g 1 (pc1 := 5) (lo1 := [some (.ref 0)]) (st1 := [.ref 0, .ref 101]) (H1 := mz_mk g x) rfl ?_
  refine mz_fgR (v := 86) rfl fd_11_37 (by decide) (sc_0 _) (rf_0_5 _ _ _) ?_
  refine mz_cv rfl mt_11_394 (by decide) (sc_101 _) rfl (Nat.le_of_ble_eq_true rfl) (by omega) (f_X6_takeOver (by omega) hx hI kp_story_101 kp_story_86 (fun g1 hIg1 hfg1 hc2 => ⟨_, rfl, ?_⟩))
  show mm_W d mmX11_image 11 [some (.ref 0)] [] (mz_mk g1 x) Q
  replace hE := zf_t1 hE hc2
  refine mm_g 2 (pc1 := 13) (lo1 := [some (.ref 0)]) (st1 := [.int (Int32.ofInt 1), .ref 0]) (H1 := mz_mk g1 x) rfl ?_
  refine mz_pZ rfl fd_11_44 (sc_0 _) (by decide) hIg1 bd_0_7 (by omega) (by omega) (fun g3 hIg3 hug3 => ?_)
  replace hE := zf_tr hE (zf_lg hug3)
  exact mm_rt rfl rfl (hQ _ hIg3 (fun k j hk => ((hug3.2 k j (fun h => hk (Or.inr (Or.inr (Or.inr (Or.inr (Or.inr (Or.inr (Or.inr h))))))))).trans (hfg1 k j (fun h => hk (Or.elim h (fun h => (Or.inl h)) (fun h => (Or.elim h (fun h => (Or.inr (Or.inl h))) (fun h => (Or.elim h (fun h => (Or.inr (Or.inr (Or.inl h)))) (fun h => (Or.elim h (fun h => (Or.inr (Or.inr (Or.inr (Or.inl h))))) (fun h => (Or.elim h (fun h => (Or.inr (Or.inr (Or.inr (Or.inr (Or.inl h)))))) (fun h => (Or.elim h (fun h => (Or.inr (Or.inr (Or.inr (Or.inr (Or.inr (Or.inl h))))))) (fun h => (Or.inr (Or.inr (Or.inr (Or.inr (Or.inr (Or.inr (Or.inl h))))))))))))))))))))))) hE)
def fw_X11_restore (x : mm_X) : Nat → Nat → Prop := fun k j => (87 ≤ k ∧ k < 96) ∨ k = 96 ∨ k = 86 ∨ k = 97 ∨ k = 98 ∨ k = 99 ∨ k = 100
theorem f_X11_restore {d : Nat} (hd : 4 ≤ d) {x : mm_X} (hx : mk_x x) {g : mz_G} (hI : mz_inv g) {Q : (Option Value ⊕ Nat) → mm_H → Prop} (hQ : ∀ (r : Int) (g1 : mz_G), mz_inv g1 → mz_fr (fw_X11_restore x) g g1 → 0 ≤ r → r ≤ 1 → zf_E (zF_X11_restore x g) ((r, g1)) → Q (.inl (some (.int (Int32.ofInt r)))) (mz_mk g1 x)) : mm_C d 170 [.ref 0] (mz_mk g x) Q := by
  have kx := kn_x hx
  refine ⟨mmX11_restore, [some (.ref 0)], rfl, rfl, ?_⟩
  have hE : zf_E (zF_X11_restore x g) (zF_X11_restore x g) := zf_rf
  refine mm_g 1 (pc1 := 1) (lo1 := [some (.ref 0)]) (st1 := [.ref 0]) (H1 := mz_mk g x) rfl ?_
  refine mz_gI rfl fd_11_44 (by decide) (sc_0 _) hI bd_0_7 (fun v1 e_v1 l_v1 u_v1 => ?_)
  replace hE := zf_tr hE (zf_le e_v1)
  refine mz_if_eq (tgt := 18) rfl rfl (mz_rg l_v1 u_v1) (fun c4_1 => ?_) (fun c4_1 => ?_)
  · skip
    replace hE := zf_ip hE c4_1
    refine mm_g 1 (pc1 := 19) (lo1 := [some (.ref 0)]) (st1 := [.ref 0]) (H1 := mz_mk g x) rfl ?_
    refine mz_fgI (v := v1) rfl fd_11_44 (by decide) (sc_0 _) e_v1 ?_
    replace hE := zf_tr hE (zf_le e_v1)
    exact mz_rtZ rfl (by decide) (by omega) (hQ _ _ hI (fun _ _ _ => rfl) (by omega) (by omega) hE)
  · skip
    replace hE := zf_in hE c4_1
    refine mm_g 1 (pc1 := 8) (lo1 := [some (.ref 0)]) (st1 := [.ref 0]) (H1 := mz_mk g x) rfl ?_
    refine mz_fgR (v := 86) rfl fd_11_37 (by decide) (sc_0 _) (rf_0_5 _ _ _) ?_
    refine mm_g 1 (pc1 := 12) (lo1 := [some (.ref 0)]) (st1 := [.ref 0, .ref 86]) (H1 := mz_mk g x) rfl ?_
    refine mz_fgR (v := 101) rfl fd_11_41 (by decide) (sc_0 _) (rf_0_6 _ _ _) ?_
    refine mz_cv rfl mt_11_394 (by decide) (sc_86 _) rfl (Nat.le_of_ble_eq_true rfl) (by omega) (f_X6_takeOver (by omega) hx hI kp_story_86 kp_story_101 (fun g2 hIg2 hfg2 hc3 => ⟨_, rfl, ?_⟩))
    show mm_W d mmX11_restore 18 [some (.ref 0)] [] (mz_mk g2 x) Q
    replace hE := zf_t1 hE hc3
    refine mm_g 1 (pc1 := 19) (lo1 := [some (.ref 0)]) (st1 := [.ref 0]) (H1 := mz_mk g2 x) rfl ?_
    refine mz_fgI (v := v1) rfl fd_11_44 (by decide) (sc_0 _) (show g2 0 7 = v1 from ((hfg2 0 7 nj_5).trans e_v1)) ?_
    replace hE := zf_tr hE (zf_le (show g2 0 7 = v1 from ((hfg2 0 7 nj_5).trans e_v1)))
    exact mz_rtZ rfl (by decide) (by omega) (hQ _ _ hIg2 (fun k j hk => (hfg2 k j (fun h => hk (Or.elim h (fun h => (Or.inl h)) (fun h => (Or.elim h (fun h => (Or.inr (Or.inl h))) (fun h => (Or.elim h (fun h => (Or.inr (Or.inr (Or.inl h)))) (fun h => (Or.elim h (fun h => (Or.inr (Or.inr (Or.inr (Or.inl h))))) (fun h => (Or.elim h (fun h => (Or.inr (Or.inr (Or.inr (Or.inr (Or.inl h)))))) (fun h => (Or.elim h (fun h => (Or.inr (Or.inr (Or.inr (Or.inr (Or.inr (Or.inl h))))))) (fun h => (Or.inr (Or.inr (Or.inr (Or.inr (Or.inr (Or.inr h))))))))))))))))))))) (by omega) (by omega) hE)
