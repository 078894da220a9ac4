/-! THE CONSTRUCTORS, by program (wip/p2/tools/gen32.py) -/
set_option maxHeartbeats 20000000 in
set_option maxRecDepth 100000 in
theorem mb_run0 {d : Nat} (hd : 40 ≤ d) {gB : mz_G} (hB : ∀ k j : Nat, k < 1000 → gB k j = 0) {so : Option Nat} {L : Nat} (E0 : mb_E mbR0 0) {Q : (Option Value ⊕ Nat) → mm_H → Prop} (k : mb_E mbR136 137 → mm_W d mmL_law 7 [some (.ref 5000), none, none, none, none, none, none] [.ref 0] (mb 137 mbR136 (mz_up (mz_up gB 0 0 (-1)) 81 2 (-1)) so L 7367) Q) : mm_W d mmL_law 0 [some (.ref 5000), none, none, none, none, none, none] [] (mb 0 mbR0 gB so L 0) Q := by
  refine mb_new (sl2 := 16) E0 rfl rfl (by decide) rfl rfl (fun j => (hB 0 j (by decide))) ?_
  have E1 := mb_E_up E0
  refine mm_g 1 (pc1 := 4) (lo1 := [some (.ref 5000), none, none, none, none, none, none]) (st1 := [.ref 0, .ref 0]) (H1 := (mb 1 mbR0 gB so L 16)) rfl ?_
  refine mb_cl (b := 0) rfl rfl rfl (Nat.le_of_ble_eq_true rfl) (by omega) ?_
  refine ⟨mmX11_init, [some (.ref 0)], rfl, rfl, ?_⟩
  refine mm_g 1 (pc1 := 1) (lo1 := [some (.ref 0)]) (st1 := [.ref 0]) (H1 := (mb 1 mbR0 gB so L 16)) rfl ?_
  refine mb_obj rfl rfl (Nat.le_of_ble_eq_true rfl) (by omega) ?_
  refine mm_g 2 (pc1 := 6) (lo1 := [some (.ref 0)]) (st1 := [.int (Int32.ofInt (-1)), .ref 0]) (H1 := (mb 1 mbR0 gB so L 16)) rfl ?_
  refine mb_pI rfl rfl rfl rfl ?_
  refine mm_g 1 (pc1 := 10) (lo1 := [some (.ref 0)]) (st1 := [.ref 0]) (H1 := (mb 1 mbR0 (mz_up gB 0 0 (-1)) so L 16)) rfl ?_
  refine mb_new (sl2 := 21) E1 rfl rfl (by decide) rfl rfl (fun j => ((mz_up_ne (fun h => absurd h.1 (by decide))).trans (hB 1 j (by decide)))) ?_
  have E2 := mb_E_up E1
  refine mm_g 1 (pc1 := 14) (lo1 := [some (.ref 0)]) (st1 := [.ref 1, .ref 1, .ref 0]) (H1 := (mb 2 mbR0 (mz_up gB 0 0 (-1)) so L 21)) rfl ?_
  refine mb_cl (b := 1) rfl rfl rfl (Nat.le_of_ble_eq_true rfl) (by omega) ?_
  refine ⟨mmX1_init, [some (.ref 1)], rfl, rfl, ?_⟩
  refine mm_g 1 (pc1 := 1) (lo1 := [some (.ref 1)]) (st1 := [.ref 1]) (H1 := (mb 2 mbR0 (mz_up gB 0 0 (-1)) so L 21)) rfl ?_
  refine mb_obj rfl rfl (Nat.le_of_ble_eq_true rfl) (by omega) ?_
  refine mm_g 1 (pc1 := 5) (lo1 := [some (.ref 1)]) (st1 := [.ref 1]) (H1 := (mb 2 mbR0 (mz_up gB 0 0 (-1)) so L 21)) rfl ?_
  refine mb_new (sl2 := 31) E2 rfl rfl (by decide) rfl rfl (fun j => ((mz_up_ne (fun h => absurd h.1 (by decide))).trans (hB 2 j (by decide)))) ?_
  have E3 := mb_E_up E2
  refine mm_g 1 (pc1 := 9) (lo1 := [some (.ref 1)]) (st1 := [.ref 2, .ref 2, .ref 1]) (H1 := (mb 3 mbR0 (mz_up gB 0 0 (-1)) so L 31)) rfl ?_
  refine mb_cl (b := 2) rfl rfl rfl (Nat.le_of_ble_eq_true rfl) (by omega) ?_
  refine ⟨mmX10_init, [some (.ref 2), none], rfl, rfl, ?_⟩
  refine mm_g 1 (pc1 := 1) (lo1 := [some (.ref 2), none]) (st1 := [.ref 2]) (H1 := (mb 3 mbR0 (mz_up gB 0 0 (-1)) so L 31)) rfl ?_
  refine mb_obj rfl rfl (Nat.le_of_ble_eq_true rfl) (by omega) ?_
  refine mm_g 1 (pc1 := 5) (lo1 := [some (.ref 2), none]) (st1 := [.ref 2]) (H1 := (mb 3 mbR0 (mz_up gB 0 0 (-1)) so L 31)) rfl ?_
  refine mz_bip (c := 8) rfl (by decide) ?_
  refine mb_ana (sl2 := 39) (c := 8) E3 rfl rfl (by decide) (by decide) (by decide) rfl rfl (fun j => ((mz_up_ne (fun h => absurd h.1 (by decide))).trans (hB 3 j (by decide)))) ?_
  have E4 := mb_E_up E3
  refine mb_pR E4 rfl rfl (by decide) rfl (Or.inr ⟨rfl, rfl, rfl⟩) ?_
  have E5 : mb_E mbR1 4 := mb_E_set (k := 0) (v := 3) E4 (by decide : 2 < 4) (by decide)
  change mm_W _ _ _ _ _ (mb 4 mbR1 (mz_up gB 0 0 (-1)) so L 39) _
  refine mm_g 1 (pc1 := 14) (lo1 := [some (.ref 2), none]) (st1 := [.ref 2]) (H1 := (mb 4 mbR1 (mz_up gB 0 0 (-1)) so L 39)) rfl ?_
  refine mb_new (sl2 := 41) E5 rfl rfl (by decide) rfl rfl (fun j => ((mz_up_ne (fun h => absurd h.1 (by decide))).trans (hB 4 j (by decide)))) ?_
  have E6 := mb_E_up E5
  refine mm_g 2 (pc1 := 19) (lo1 := [some (.ref 2), none]) (st1 := [.int (Int32.ofInt 0), .ref 4, .ref 4, .ref 2]) (H1 := (mb 5 mbR1 (mz_up gB 0 0 (-1)) so L 41)) rfl ?_
  refine mb_cl (b := 4) rfl rfl rfl (Nat.le_of_ble_eq_true rfl) (by omega) ?_
  refine ⟨mmX0_init, [some (.ref 4), some (.int (Int32.ofInt 0))], rfl, rfl, ?_⟩
  refine mm_g 1 (pc1 := 1) (lo1 := [some (.ref 4), some (.int (Int32.ofInt 0))]) (st1 := [.ref 4]) (H1 := (mb 5 mbR1 (mz_up gB 0 0 (-1)) so L 41)) rfl ?_
  refine mb_obj rfl rfl (Nat.le_of_ble_eq_true rfl) (by omega) ?_
  refine mm_g 2 (pc1 := 6) (lo1 := [some (.ref 4), some (.int (Int32.ofInt 0))]) (st1 := [.int (Int32.ofInt 0), .ref 4]) (H1 := (mb 5 mbR1 (mz_up gB 0 0 (-1)) so L 41)) rfl ?_
  refine mb_p0 rfl rfl rfl (Or.inl rfl) ((mz_up_ne (by decide)).trans (hB 4 1 (by decide))) ?_
  refine mm_g 2 (pc1 := 11) (lo1 := [some (.ref 4), some (.int (Int32.ofInt 0))]) (st1 := [.int (Int32.ofInt 0), .ref 4]) (H1 := (mb 5 mbR1 (mz_up gB 0 0 (-1)) so L 41)) rfl ?_
  refine mz_if_le (a := 0) (tgt := 18) rfl rfl ⟨by decide, by decide⟩ (fun _ => ?_) (fun z => absurd z (by decide))
  refine mm_g 1 (pc1 := 19) (lo1 := [some (.ref 4), some (.int (Int32.ofInt 0))]) (st1 := [.int (Int32.ofInt 0), .ref 4]) (H1 := (mb 5 mbR1 (mz_up gB 0 0 (-1)) so L 41)) rfl ?_
  refine mb_nai (sl2 := 41) (c := 0) E6 rfl (by decide) (by decide) (by decide) rfl rfl (fun j => ((mz_up_ne (fun h => absurd h.1 (by decide))).trans (hB 5 j (by decide)))) ?_
  have E7 := mb_E_up E6
  refine mb_pR E7 rfl rfl (by decide) rfl (Or.inr ⟨rfl, rfl, rfl⟩) ?_
  have E8 : mb_E mbR2 6 := mb_E_set (k := 0) (v := 5) E7 (by decide : 4 < 6) (by decide)
  change mm_W _ _ _ _ _ (mb 6 mbR2 (mz_up gB 0 0 (-1)) so L 41) _
  refine mm_rt rfl rfl ⟨none, rfl, ?_⟩
  show mm_W (((d - 1) - 1) - 1) mmX10_init 22 [some (.ref 2), none] [.ref 4, .ref 2] (mb 6 mbR2 (mz_up gB 0 0 (-1)) so L 41) _
  refine mb_pR E8 rfl rfl (by decide) rfl (Or.inr ⟨rfl, rfl, rfl⟩) ?_
  have E9 : mb_E mbR3 6 := mb_E_set (k := 1) (v := 4) E8 (by decide : 2 < 6) (by decide)
  change mm_W _ _ _ _ _ (mb 6 mbR3 (mz_up gB 0 0 (-1)) so L 41) _
  refine mm_g 1 (pc1 := 26) (lo1 := [some (.ref 2), none]) (st1 := [.ref 2]) (H1 := (mb 6 mbR3 (mz_up gB 0 0 (-1)) so L 41)) rfl ?_
  refine mz_bip (c := 8) rfl (by decide) ?_
  refine mb_nai (sl2 := 49) (c := 8) E9 rfl (by decide) (by decide) (by decide) rfl rfl (fun j => ((mz_up_ne (fun h => absurd h.1 (by decide))).trans (hB 6 j (by decide)))) ?_
  have E10 := mb_E_up E9
  refine mb_pR E10 rfl rfl (by decide) rfl (Or.inr ⟨rfl, rfl, rfl⟩) ?_
  have E11 : mb_E mbR4 7 := mb_E_set (k := 2) (v := 6) E10 (by decide : 2 < 7) (by decide)
  change mm_W _ _ _ _ _ (mb 7 mbR4 (mz_up gB 0 0 (-1)) so L 49) _
  refine mm_g 2 (pc1 := 35) (lo1 := [some (.ref 2), none]) (st1 := [.int (Int32.ofInt 0), .ref 2]) (H1 := (mb 7 mbR4 (mz_up gB 0 0 (-1)) so L 49)) rfl ?_
  refine mb_p0 rfl rfl rfl (Or.inl rfl) ((mz_up_ne (by decide)).trans (hB 2 3 (by decide))) ?_
  refine mm_g 1 (pc1 := 39) (lo1 := [some (.ref 2), none]) (st1 := [.ref 2]) (H1 := (mb 7 mbR4 (mz_up gB 0 0 (-1)) so L 49)) rfl ?_
  refine mz_bip (c := 64) rfl (by decide) ?_
  refine mb_nai (sl2 := 113) (c := 64) E11 rfl (by decide) (by decide) (by decide) rfl rfl (fun j => ((mz_up_ne (fun h => absurd h.1 (by decide))).trans (hB 7 j (by decide)))) ?_
  have E12 := mb_E_up E11
  refine mb_pR E12 rfl rfl (by decide) rfl (Or.inr ⟨rfl, rfl, rfl⟩) ?_
  have E13 : mb_E mbR5 8 := mb_E_set (k := 4) (v := 7) E12 (by decide : 2 < 8) (by decide)
  change mm_W _ _ _ _ _ (mb 8 mbR5 (mz_up gB 0 0 (-1)) so L 113) _
  refine mm_g 1 (pc1 := 47) (lo1 := [some (.ref 2), none]) (st1 := [.ref 2]) (H1 := (mb 8 mbR5 (mz_up gB 0 0 (-1)) so L 113)) rfl ?_
  refine mz_bip (c := 64) rfl (by decide) ?_
  refine mb_nai (sl2 := 177) (c := 64) E13 rfl (by decide) (by decide) (by decide) rfl rfl (fun j => ((mz_up_ne (fun h => absurd h.1 (by decide))).trans (hB 8 j (by decide)))) ?_
  have E14 := mb_E_up E13
  refine mb_pR E14 rfl rfl (by decide) rfl (Or.inr ⟨rfl, rfl, rfl⟩) ?_
  have E15 : mb_E mbR6 9 := mb_E_set (k := 5) (v := 8) E14 (by decide : 2 < 9) (by decide)
  change mm_W _ _ _ _ _ (mb 9 mbR6 (mz_up gB 0 0 (-1)) so L 177) _
  refine mm_g 1 (pc1 := 55) (lo1 := [some (.ref 2), none]) (st1 := [.ref 2]) (H1 := (mb 9 mbR6 (mz_up gB 0 0 (-1)) so L 177)) rfl ?_
  refine mz_bip (c := 8) rfl (by decide) ?_
  refine mb_nai (sl2 := 185) (c := 8) E15 rfl (by decide) (by decide) (by decide) rfl rfl (fun j => ((mz_up_ne (fun h => absurd h.1 (by decide))).trans (hB 9 j (by decide)))) ?_
  have E16 := mb_E_up E15
  refine mb_pR E16 rfl rfl (by decide) rfl (Or.inr ⟨rfl, rfl, rfl⟩) ?_
  have E17 : mb_E mbR7 10 := mb_E_set (k := 6) (v := 9) E16 (by decide : 2 < 10) (by decide)
  change mm_W _ _ _ _ _ (mb 10 mbR7 (mz_up gB 0 0 (-1)) so L 185) _
  refine mm_g 1 (pc1 := 63) (lo1 := [some (.ref 2), none]) (st1 := [.ref 2]) (H1 := (mb 10 mbR7 (mz_up gB 0 0 (-1)) so L 185)) rfl ?_
  refine mz_bip (c := 8) rfl (by decide) ?_
  refine mb_nai (sl2 := 193) (c := 8) E17 rfl (by decide) (by decide) (by decide) rfl rfl (fun j => ((mz_up_ne (fun h => absurd h.1 (by decide))).trans (hB 10 j (by decide)))) ?_
  have E18 := mb_E_up E17
  refine mb_pR E18 rfl rfl (by decide) rfl (Or.inr ⟨rfl, rfl, rfl⟩) ?_
  have E19 : mb_E mbR8 11 := mb_E_set (k := 7) (v := 10) E18 (by decide : 2 < 11) (by decide)
  change mm_W _ _ _ _ _ (mb 11 mbR8 (mz_up gB 0 0 (-1)) so L 193) _
  refine mm_g 2 (pc1 := 72) (lo1 := [some (.ref 2), none]) (st1 := [.int (Int32.ofInt 0), .ref 2]) (H1 := (mb 11 mbR8 (mz_up gB 0 0 (-1)) so L 193)) rfl ?_
  refine mb_p0 rfl rfl rfl (Or.inl rfl) ((mz_up_ne (by decide)).trans (hB 2 8 (by decide))) ?_
  refine mm_g 2 (pc1 := 77) (lo1 := [some (.ref 2), none]) (st1 := [.int (Int32.ofInt 0), .ref 2]) (H1 := (mb 11 mbR8 (mz_up gB 0 0 (-1)) so L 193)) rfl ?_
  refine mb_p0 rfl rfl rfl (Or.inl rfl) ((mz_up_ne (by decide)).trans (hB 2 9 (by decide))) ?_
  refine mm_g 4 (pc1 := 84) (lo1 := [some (.ref 2), some (.int (Int32.ofInt 0))]) (st1 := [.ref 2, .int (Int32.ofInt 0)]) (H1 := (mb 11 mbR8 (mz_up gB 0 0 (-1)) so L 193)) rfl ?_
  refine mb_gf (v := 3) (kd := 4) rfl rfl rfl rfl (by decide) ((mb_g2 E18 (by decide) (by decide)).trans ((mb_g2 E16 (by decide) (by decide)).trans ((mb_g2 E14 (by decide) (by decide)).trans ((mb_g2 E12 (by decide) (by decide)).trans ((mb_g2 E10 (by decide) (by decide)).trans ((mb_g2 E8 (by decide) (by decide)).trans ((mb_g2 E7 (by decide) (by decide)).trans (mb_g1 E4 (by decide))))))))) ?_
  refine mb_al (t := 103) (c := 8) rfl rfl (by decide) ?_
  refine mz_ic_ge (a := 0) (b := 8) (tgt := 112) rfl rfl ⟨by decide, by decide⟩ ⟨by decide, by decide⟩ (fun z => absurd z (by decide)) (fun _ => ?_)
  refine mm_g 1 (pc1 := 92) (lo1 := [some (.ref 2), some (.int (Int32.ofInt 0))]) (st1 := [.ref 2]) (H1 := (mb 11 mbR8 (mz_up gB 0 0 (-1)) so L 193)) rfl ?_
  refine mb_gf (v := 3) (kd := 4) rfl rfl rfl rfl (by decide) ((mb_g2 E18 (by decide) (by decide)).trans ((mb_g2 E16 (by decide) (by decide)).trans ((mb_g2 E14 (by decide) (by decide)).trans ((mb_g2 E12 (by decide) (by decide)).trans ((mb_g2 E10 (by decide) (by decide)).trans ((mb_g2 E8 (by decide) (by decide)).trans ((mb_g2 E7 (by decide) (by decide)).trans (mb_g1 E4 (by decide))))))))) ?_
  refine mm_g 1 (pc1 := 96) (lo1 := [some (.ref 2), some (.int (Int32.ofInt 0))]) (st1 := [.int (Int32.ofInt 0), .ref 3]) (H1 := (mb 11 mbR8 (mz_up gB 0 0 (-1)) so L 193)) rfl ?_
  refine mb_new (sl2 := 195) E19 rfl rfl (by decide) rfl rfl (fun j => ((mz_up_ne (fun h => absurd h.1 (by decide))).trans (hB 11 j (by decide)))) ?_
  have E20 := mb_E_up E19
  refine mm_g 1 (pc1 := 100) (lo1 := [some (.ref 2), some (.int (Int32.ofInt 0))]) (st1 := [.ref 11, .ref 11, .int (Int32.ofInt 0), .ref 3]) (H1 := (mb 12 mbR8 (mz_up gB 0 0 (-1)) so L 195)) rfl ?_
  refine mz_bip (c := 8) rfl (by decide) ?_
  refine mb_cl (b := 11) rfl rfl rfl (Nat.le_of_ble_eq_true rfl) (by omega) ?_
  refine ⟨mmX0_init, [some (.ref 11), some (.int (Int32.ofInt 8))], rfl, rfl, ?_⟩
  refine mm_g 1 (pc1 := 1) (lo1 := [some (.ref 11), some (.int (Int32.ofInt 8))]) (st1 := [.ref 11]) (H1 := (mb 12 mbR8 (mz_up gB 0 0 (-1)) so L 195)) rfl ?_
  refine mb_obj rfl rfl (Nat.le_of_ble_eq_true rfl) (by omega) ?_
  refine mm_g 2 (pc1 := 6) (lo1 := [some (.ref 11), some (.int (Int32.ofInt 8))]) (st1 := [.int (Int32.ofInt 0), .ref 11]) (H1 := (mb 12 mbR8 (mz_up gB 0 0 (-1)) so L 195)) rfl ?_
  refine mb_p0 rfl rfl rfl (Or.inl rfl) ((mz_up_ne (by decide)).trans (hB 11 1 (by decide))) ?_
  refine mm_g 2 (pc1 := 11) (lo1 := [some (.ref 11), some (.int (Int32.ofInt 8))]) (st1 := [.int (Int32.ofInt 8), .ref 11]) (H1 := (mb 12 mbR8 (mz_up gB 0 0 (-1)) so L 195)) rfl ?_
  refine mz_if_le (a := 8) (tgt := 18) rfl rfl ⟨by decide, by decide⟩ (fun z => absurd z (by decide)) (fun _ => ?_)
  refine mm_g 1 (pc1 := 15) (lo1 := [some (.ref 11), some (.int (Int32.ofInt 8))]) (st1 := [.int (Int32.ofInt 8), .ref 11]) (H1 := (mb 12 mbR8 (mz_up gB 0 0 (-1)) so L 195)) rfl ?_
  refine mz_gt (tgt := 19) rfl rfl ?_
  refine mb_nai (sl2 := 203) (c := 8) E20 rfl (by decide) (by decide) (by decide) rfl rfl (fun j => ((mz_up_ne (fun h => absurd h.1 (by decide))).trans (hB 12 j (by decide)))) ?_
  have E21 := mb_E_up E20
  refine mb_pR E21 rfl rfl (by decide) rfl (Or.inr ⟨rfl, rfl, rfl⟩) ?_
  have E22 : mb_E mbR9 13 := mb_E_set (k := 0) (v := 12) E21 (by decide : 11 < 13) (by decide)
  change mm_W _ _ _ _ _ (mb 13 mbR9 (mz_up gB 0 0 (-1)) so L 203) _
  refine mm_rt rfl rfl ⟨none, rfl, ?_⟩
  show mm_W (((d - 1) - 1) - 1) mmX10_init 105 [some (.ref 2), some (.int (Int32.ofInt 0))] [.ref 11, .int (Int32.ofInt 0), .ref 3] (mb 13 mbR9 (mz_up gB 0 0 (-1)) so L 203) _
  refine mb_aa (len := 8) (c := 0) E22 rfl (by decide) (Or.inl ⟨rfl, rfl⟩) rfl (by decide) (by decide) ?_
  have E23 : mb_E mbR10 13 := mb_E_set (k := 0) (v := 11) E22 (by decide : 3 < 13) (by decide)
  change mm_W _ _ _ _ _ (mb 13 mbR10 (mz_up gB 0 0 (-1)) so L 203) _
  refine mz_iincR (v := 0) (lo2 := [some (.ref 2), some (.int (Int32.ofInt 1))]) rfl rfl rfl (Nat.le_of_ble_eq_true rfl) rfl ?_
  refine mz_gt (tgt := 82) rfl rfl ?_
  refine mm_g 2 (pc1 := 84) (lo1 := [some (.ref 2), some (.int (Int32.ofInt 1))]) (st1 := [.ref 2, .int (Int32.ofInt 1)]) (H1 := (mb 13 mbR10 (mz_up gB 0 0 (-1)) so L 203)) rfl ?_
  refine mb_gf (v := 3) (kd := 4) rfl rfl rfl rfl (by decide) ((mb_g2 E22 (by decide) (by decide)).trans ((mb_g2 E21 (by decide) (by decide)).trans ((mb_g2 E18 (by decide) (by decide)).trans ((mb_g2 E16 (by decide) (by decide)).trans ((mb_g2 E14 (by decide) (by decide)).trans ((mb_g2 E12 (by decide) (by decide)).trans ((mb_g2 E10 (by decide) (by decide)).trans ((mb_g2 E8 (by decide) (by decide)).trans ((mb_g2 E7 (by decide) (by decide)).trans (mb_g1 E4 (by decide))))))))))) ?_
  refine mb_al (t := 103) (c := 8) rfl rfl (by decide) ?_
  refine mz_ic_ge (a := 1) (b := 8) (tgt := 112) rfl rfl ⟨by decide, by decide⟩ ⟨by decide, by decide⟩ (fun z => absurd z (by decide)) (fun _ => ?_)
  refine mm_g 1 (pc1 := 92) (lo1 := [some (.ref 2), some (.int (Int32.ofInt 1))]) (st1 := [.ref 2]) (H1 := (mb 13 mbR10 (mz_up gB 0 0 (-1)) so L 203)) rfl ?_
  refine mb_gf (v := 3) (kd := 4) rfl rfl rfl rfl (by decide) ((mb_g2 E22 (by decide) (by decide)).trans ((mb_g2 E21 (by decide) (by decide)).trans ((mb_g2 E18 (by decide) (by decide)).trans ((mb_g2 E16 (by decide) (by decide)).trans ((mb_g2 E14 (by decide) (by decide)).trans ((mb_g2 E12 (by decide) (by decide)).trans ((mb_g2 E10 (by decide) (by decide)).trans ((mb_g2 E8 (by decide) (by decide)).trans ((mb_g2 E7 (by decide) (by decide)).trans (mb_g1 E4 (by decide))))))))))) ?_
  refine mm_g 1 (pc1 := 96) (lo1 := [some (.ref 2), some (.int (Int32.ofInt 1))]) (st1 := [.int (Int32.ofInt 1), .ref 3]) (H1 := (mb 13 mbR10 (mz_up gB 0 0 (-1)) so L 203)) rfl ?_
  refine mb_new (sl2 := 205) E23 rfl rfl (by decide) rfl rfl (fun j => ((mz_up_ne (fun h => absurd h.1 (by decide))).trans (hB 13 j (by decide)))) ?_
  have E24 := mb_E_up E23
  refine mm_g 1 (pc1 := 100) (lo1 := [some (.ref 2), some (.int (Int32.ofInt 1))]) (st1 := [.ref 13, .ref 13, .int (Int32.ofInt 1), .ref 3]) (H1 := (mb 14 mbR10 (mz_up gB 0 0 (-1)) so L 205)) rfl ?_
  refine mz_bip (c := 8) rfl (by decide) ?_
  refine mb_cl (b := 13) rfl rfl rfl (Nat.le_of_ble_eq_true rfl) (by omega) ?_
  refine ⟨mmX0_init, [some (.ref 13), some (.int (Int32.ofInt 8))], rfl, rfl, ?_⟩
  refine mm_g 1 (pc1 := 1) (lo1 := [some (.ref 13), some (.int (Int32.ofInt 8))]) (st1 := [.ref 13]) (H1 := (mb 14 mbR10 (mz_up gB 0 0 (-1)) so L 205)) rfl ?_
  refine mb_obj rfl rfl (Nat.le_of_ble_eq_true rfl) (by omega) ?_
  refine mm_g 2 (pc1 := 6) (lo1 := [some (.ref 13), some (.int (Int32.ofInt 8))]) (st1 := [.int (Int32.ofInt 0), .ref 13]) (H1 := (mb 14 mbR10 (mz_up gB 0 0 (-1)) so L 205)) rfl ?_
  refine mb_p0 rfl rfl rfl (Or.inl rfl) ((mz_up_ne (by decide)).trans (hB 13 1 (by decide))) ?_
  refine mm_g 2 (pc1 := 11) (lo1 := [some (.ref 13), some (.int (Int32.ofInt 8))]) (st1 := [.int (Int32.ofInt 8), .ref 13]) (H1 := (mb 14 mbR10 (mz_up gB 0 0 (-1)) so L 205)) rfl ?_
  refine mz_if_le (a := 8) (tgt := 18) rfl rfl ⟨by decide, by decide⟩ (fun z => absurd z (by decide)) (fun _ => ?_)
  refine mm_g 1 (pc1 := 15) (lo1 := [some (.ref 13), some (.int (Int32.ofInt 8))]) (st1 := [.int (Int32.ofInt 8), .ref 13]) (H1 := (mb 14 mbR10 (mz_up gB 0 0 (-1)) so L 205)) rfl ?_
  refine mz_gt (tgt := 19) rfl rfl ?_
  refine mb_nai (sl2 := 213) (c := 8) E24 rfl (by decide) (by decide) (by decide) rfl rfl (fun j => ((mz_up_ne (fun h => absurd h.1 (by decide))).trans (hB 14 j (by decide)))) ?_
  have E25 := mb_E_up E24
  refine mb_pR E25 rfl rfl (by decide) rfl (Or.inr ⟨rfl, rfl, rfl⟩) ?_
  have E26 : mb_E mbR11 15 := mb_E_set (k := 0) (v := 14) E25 (by decide : 13 < 15) (by decide)
  change mm_W _ _ _ _ _ (mb 15 mbR11 (mz_up gB 0 0 (-1)) so L 213) _
  refine mm_rt rfl rfl ⟨none, rfl, ?_⟩
  show mm_W (((d - 1) - 1) - 1) mmX10_init 105 [some (.ref 2), some (.int (Int32.ofInt 1))] [.ref 13, .int (Int32.ofInt 1), .ref 3] (mb 15 mbR11 (mz_up gB 0 0 (-1)) so L 213) _
  refine mb_aa (len := 8) (c := 1) E26 rfl (by decide) (Or.inl ⟨rfl, rfl⟩) rfl (by decide) (by decide) ?_
  have E27 : mb_E mbR12 15 := mb_E_set (k := 1) (v := 13) E26 (by decide : 3 < 15) (by decide)
  change mm_W _ _ _ _ _ (mb 15 mbR12 (mz_up gB 0 0 (-1)) so L 213) _
  refine mz_iincR (v := 1) (lo2 := [some (.ref 2), some (.int (Int32.ofInt 2))]) rfl rfl rfl (Nat.le_of_ble_eq_true rfl) rfl ?_
  refine mz_gt (tgt := 82) rfl rfl ?_
  refine mm_g 2 (pc1 := 84) (lo1 := [some (.ref 2), some (.int (Int32.ofInt 2))]) (st1 := [.ref 2, .int (Int32.ofInt 2)]) (H1 := (mb 15 mbR12 (mz_up gB 0 0 (-1)) so L 213)) rfl ?_
  refine mb_gf (v := 3) (kd := 4) rfl rfl rfl rfl (by decide) ((mb_g2 E26 (by decide) (by decide)).trans ((mb_g2 E25 (by decide) (by decide)).trans ((mb_g2 E22 (by decide) (by decide)).trans ((mb_g2 E21 (by decide) (by decide)).trans ((mb_g2 E18 (by decide) (by decide)).trans ((mb_g2 E16 (by decide) (by decide)).trans ((mb_g2 E14 (by decide) (by decide)).trans ((mb_g2 E12 (by decide) (by decide)).trans ((mb_g2 E10 (by decide) (by decide)).trans ((mb_g2 E8 (by decide) (by decide)).trans ((mb_g2 E7 (by decide) (by decide)).trans (mb_g1 E4 (by decide))))))))))))) ?_
  refine mb_al (t := 103) (c := 8) rfl rfl (by decide) ?_
  refine mz_ic_ge (a := 2) (b := 8) (tgt := 112) rfl rfl ⟨by decide, by decide⟩ ⟨by decide, by decide⟩ (fun z => absurd z (by decide)) (fun _ => ?_)
  refine mm_g 1 (pc1 := 92) (lo1 := [some (.ref 2), some (.int (Int32.ofInt 2))]) (st1 := [.ref 2]) (H1 := (mb 15 mbR12 (mz_up gB 0 0 (-1)) so L 213)) rfl ?_
  refine mb_gf (v := 3) (kd := 4) rfl rfl rfl rfl (by decide) ((mb_g2 E26 (by decide) (by decide)).trans ((mb_g2 E25 (by decide) (by decide)).trans ((mb_g2 E22 (by decide) (by decide)).trans ((mb_g2 E21 (by decide) (by decide)).trans ((mb_g2 E18 (by decide) (by decide)).trans ((mb_g2 E16 (by decide) (by decide)).trans ((mb_g2 E14 (by decide) (by decide)).trans ((mb_g2 E12 (by decide) (by decide)).trans ((mb_g2 E10 (by decide) (by decide)).trans ((mb_g2 E8 (by decide) (by decide)).trans ((mb_g2 E7 (by decide) (by decide)).trans (mb_g1 E4 (by decide))))))))))))) ?_
  refine mm_g 1 (pc1 := 96) (lo1 := [some (.ref 2), some (.int (Int32.ofInt 2))]) (st1 := [.int (Int32.ofInt 2), .ref 3]) (H1 := (mb 15 mbR12 (mz_up gB 0 0 (-1)) so L 213)) rfl ?_
  refine mb_new (sl2 := 215) E27 rfl rfl (by decide) rfl rfl (fun j => ((mz_up_ne (fun h => absurd h.1 (by decide))).trans (hB 15 j (by decide)))) ?_
  have E28 := mb_E_up E27
  refine mm_g 1 (pc1 := 100) (lo1 := [some (.ref 2), some (.int (Int32.ofInt 2))]) (st1 := [.ref 15, .ref 15, .int (Int32.ofInt 2), .ref 3]) (H1 := (mb 16 mbR12 (mz_up gB 0 0 (-1)) so L 215)) rfl ?_
  refine mz_bip (c := 8) rfl (by decide) ?_
  refine mb_cl (b := 15) rfl rfl rfl (Nat.le_of_ble_eq_true rfl) (by omega) ?_
  refine ⟨mmX0_init, [some (.ref 15), some (.int (Int32.ofInt 8))], rfl, rfl, ?_⟩
  refine mm_g 1 (pc1 := 1) (lo1 := [some (.ref 15), some (.int (Int32.ofInt 8))]) (st1 := [.ref 15]) (H1 := (mb 16 mbR12 (mz_up gB 0 0 (-1)) so L 215)) rfl ?_
  refine mb_obj rfl rfl (Nat.le_of_ble_eq_true rfl) (by omega) ?_
  refine mm_g 2 (pc1 := 6) (lo1 := [some (.ref 15), some (.int (Int32.ofInt 8))]) (st1 := [.int (Int32.ofInt 0), .ref 15]) (H1 := (mb 16 mbR12 (mz_up gB 0 0 (-1)) so L 215)) rfl ?_
  refine mb_p0 rfl rfl rfl (Or.inl rfl) ((mz_up_ne (by decide)).trans (hB 15 1 (by decide))) ?_
  refine mm_g 2 (pc1 := 11) (lo1 := [some (.ref 15), some (.int (Int32.ofInt 8))]) (st1 := [.int (Int32.ofInt 8), .ref 15]) (H1 := (mb 16 mbR12 (mz_up gB 0 0 (-1)) so L 215)) rfl ?_
  refine mz_if_le (a := 8) (tgt := 18) rfl rfl ⟨by decide, by decide⟩ (fun z => absurd z (by decide)) (fun _ => ?_)
  refine mm_g 1 (pc1 := 15) (lo1 := [some (.ref 15), some (.int (Int32.ofInt 8))]) (st1 := [.int (Int32.ofInt 8), .ref 15]) (H1 := (mb 16 mbR12 (mz_up gB 0 0 (-1)) so L 215)) rfl ?_
  refine mz_gt (tgt := 19) rfl rfl ?_
  refine mb_nai (sl2 := 223) (c := 8) E28 rfl (by decide) (by decide) (by decide) rfl rfl (fun j => ((mz_up_ne (fun h => absurd h.1 (by decide))).trans (hB 16 j (by decide)))) ?_
  have E29 := mb_E_up E28
  refine mb_pR E29 rfl rfl (by decide) rfl (Or.inr ⟨rfl, rfl, rfl⟩) ?_
  have E30 : mb_E mbR13 17 := mb_E_set (k := 0) (v := 16) E29 (by decide : 15 < 17) (by decide)
  change mm_W _ _ _ _ _ (mb 17 mbR13 (mz_up gB 0 0 (-1)) so L 223) _
  refine mm_rt rfl rfl ⟨none, rfl, ?_⟩
  show mm_W (((d - 1) - 1) - 1) mmX10_init 105 [some (.ref 2), some (.int (Int32.ofInt 2))] [.ref 15, .int (Int32.ofInt 2), .ref 3] (mb 17 mbR13 (mz_up gB 0 0 (-1)) so L 223) _
  refine mb_aa (len := 8) (c := 2) E30 rfl (by decide) (Or.inl ⟨rfl, rfl⟩) rfl (by decide) (by decide) ?_
  have E31 : mb_E mbR14 17 := mb_E_set (k := 2) (v := 15) E30 (by decide : 3 < 17) (by decide)
  change mm_W _ _ _ _ _ (mb 17 mbR14 (mz_up gB 0 0 (-1)) so L 223) _
  refine mz_iincR (v := 2) (lo2 := [some (.ref 2), some (.int (Int32.ofInt 3))]) rfl rfl rfl (Nat.le_of_ble_eq_true rfl) rfl ?_
  refine mz_gt (tgt := 82) rfl rfl ?_
  refine mm_g 2 (pc1 := 84) (lo1 := [some (.ref 2), some (.int (Int32.ofInt 3))]) (st1 := [.ref 2, .int (Int32.ofInt 3)]) (H1 := (mb 17 mbR14 (mz_up gB 0 0 (-1)) so L 223)) rfl ?_
  refine mb_gf (v := 3) (kd := 4) rfl rfl rfl rfl (by decide) ((mb_g2 E30 (by decide) (by decide)).trans ((mb_g2 E29 (by decide) (by decide)).trans ((mb_g2 E26 (by decide) (by decide)).trans ((mb_g2 E25 (by decide) (by decide)).trans ((mb_g2 E22 (by decide) (by decide)).trans ((mb_g2 E21 (by decide) (by decide)).trans ((mb_g2 E18 (by decide) (by decide)).trans ((mb_g2 E16 (by decide) (by decide)).trans ((mb_g2 E14 (by decide) (by decide)).trans ((mb_g2 E12 (by decide) (by decide)).trans ((mb_g2 E10 (by decide) (by decide)).trans ((mb_g2 E8 (by decide) (by decide)).trans ((mb_g2 E7 (by decide) (by decide)).trans (mb_g1 E4 (by decide))))))))))))))) ?_
  refine mb_al (t := 103) (c := 8) rfl rfl (by decide) ?_
  refine mz_ic_ge (a := 3) (b := 8) (tgt := 112) rfl rfl ⟨by decide, by decide⟩ ⟨by decide, by decide⟩ (fun z => absurd z (by decide)) (fun _ => ?_)
  refine mm_g 1 (pc1 := 92) (lo1 := [some (.ref 2), some (.int (Int32.ofInt 3))]) (st1 := [.ref 2]) (H1 := (mb 17 mbR14 (mz_up gB 0 0 (-1)) so L 223)) rfl ?_
  refine mb_gf (v := 3) (kd := 4) rfl rfl rfl rfl (by decide) ((mb_g2 E30 (by decide) (by decide)).trans ((mb_g2 E29 (by decide) (by decide)).trans ((mb_g2 E26 (by decide) (by decide)).trans ((mb_g2 E25 (by decide) (by decide)).trans ((mb_g2 E22 (by decide) (by decide)).trans ((mb_g2 E21 (by decide) (by decide)).trans ((mb_g2 E18 (by decide) (by decide)).trans ((mb_g2 E16 (by decide) (by decide)).trans ((mb_g2 E14 (by decide) (by decide)).trans ((mb_g2 E12 (by decide) (by decide)).trans ((mb_g2 E10 (by decide) (by decide)).trans ((mb_g2 E8 (by decide) (by decide)).trans ((mb_g2 E7 (by decide) (by decide)).trans (mb_g1 E4 (by decide))))))))))))))) ?_
  refine mm_g 1 (pc1 := 96) (lo1 := [some (.ref 2), some (.int (Int32.ofInt 3))]) (st1 := [.int (Int32.ofInt 3), .ref 3]) (H1 := (mb 17 mbR14 (mz_up gB 0 0 (-1)) so L 223)) rfl ?_
  refine mb_new (sl2 := 225) E31 rfl rfl (by decide) rfl rfl (fun j => ((mz_up_ne (fun h => absurd h.1 (by decide))).trans (hB 17 j (by decide)))) ?_
  have E32 := mb_E_up E31
  refine mm_g 1 (pc1 := 100) (lo1 := [some (.ref 2), some (.int (Int32.ofInt 3))]) (st1 := [.ref 17, .ref 17, .int (Int32.ofInt 3), .ref 3]) (H1 := (mb 18 mbR14 (mz_up gB 0 0 (-1)) so L 225)) rfl ?_
  refine mz_bip (c := 8) rfl (by decide) ?_
  refine mb_cl (b := 17) rfl rfl rfl (Nat.le_of_ble_eq_true rfl) (by omega) ?_
  refine ⟨mmX0_init, [some (.ref 17), some (.int (Int32.ofInt 8))], rfl, rfl, ?_⟩
  refine mm_g 1 (pc1 := 1) (lo1 := [some (.ref 17), some (.int (Int32.ofInt 8))]) (st1 := [.ref 17]) (H1 := (mb 18 mbR14 (mz_up gB 0 0 (-1)) so L 225)) rfl ?_
  refine mb_obj rfl rfl (Nat.le_of_ble_eq_true rfl) (by omega) ?_
  refine mm_g 2 (pc1 := 6) (lo1 := [some (.ref 17), some (.int (Int32.ofInt 8))]) (st1 := [.int (Int32.ofInt 0), .ref 17]) (H1 := (mb 18 mbR14 (mz_up gB 0 0 (-1)) so L 225)) rfl ?_
  refine mb_p0 rfl rfl rfl (Or.inl rfl) ((mz_up_ne (by decide)).trans (hB 17 1 (by decide))) ?_
  refine mm_g 2 (pc1 := 11) (lo1 := [some (.ref 17), some (.int (Int32.ofInt 8))]) (st1 := [.int (Int32.ofInt 8), .ref 17]) (H1 := (mb 18 mbR14 (mz_up gB 0 0 (-1)) so L 225)) rfl ?_
  refine mz_if_le (a := 8) (tgt := 18) rfl rfl ⟨by decide, by decide⟩ (fun z => absurd z (by decide)) (fun _ => ?_)
  refine mm_g 1 (pc1 := 15) (lo1 := [some (.ref 17), some (.int (Int32.ofInt 8))]) (st1 := [.int (Int32.ofInt 8), .ref 17]) (H1 := (mb 18 mbR14 (mz_up gB 0 0 (-1)) so L 225)) rfl ?_
  refine mz_gt (tgt := 19) rfl rfl ?_
  refine mb_nai (sl2 := 233) (c := 8) E32 rfl (by decide) (by decide) (by decide) rfl rfl (fun j => ((mz_up_ne (fun h => absurd h.1 (by decide))).trans (hB 18 j (by decide)))) ?_
  have E33 := mb_E_up E32
  refine mb_pR E33 rfl rfl (by decide) rfl (Or.inr ⟨rfl, rfl, rfl⟩) ?_
  have E34 : mb_E mbR15 19 := mb_E_set (k := 0) (v := 18) E33 (by decide : 17 < 19) (by decide)
  change mm_W _ _ _ _ _ (mb 19 mbR15 (mz_up gB 0 0 (-1)) so L 233) _
  refine mm_rt rfl rfl ⟨none, rfl, ?_⟩
  show mm_W (((d - 1) - 1) - 1) mmX10_init 105 [some (.ref 2), some (.int (Int32.ofInt 3))] [.ref 17, .int (Int32.ofInt 3), .ref 3] (mb 19 mbR15 (mz_up gB 0 0 (-1)) so L 233) _
  refine mb_aa (len := 8) (c := 3) E34 rfl (by decide) (Or.inl ⟨rfl, rfl⟩) rfl (by decide) (by decide) ?_
  have E35 : mb_E mbR16 19 := mb_E_set (k := 3) (v := 17) E34 (by decide : 3 < 19) (by decide)
  change mm_W _ _ _ _ _ (mb 19 mbR16 (mz_up gB 0 0 (-1)) so L 233) _
  refine mz_iincR (v := 3) (lo2 := [some (.ref 2), some (.int (Int32.ofInt 4))]) rfl rfl rfl (Nat.le_of_ble_eq_true rfl) rfl ?_
  refine mz_gt (tgt := 82) rfl rfl ?_
  refine mm_g 2 (pc1 := 84) (lo1 := [some (.ref 2), some (.int (Int32.ofInt 4))]) (st1 := [.ref 2, .int (Int32.ofInt 4)]) (H1 := (mb 19 mbR16 (mz_up gB 0 0 (-1)) so L 233)) rfl ?_
  refine mb_gf (v := 3) (kd := 4) rfl rfl rfl rfl (by decide) ((mb_g2 E34 (by decide) (by decide)).trans ((mb_g2 E33 (by decide) (by decide)).trans ((mb_g2 E30 (by decide) (by decide)).trans ((mb_g2 E29 (by decide) (by decide)).trans ((mb_g2 E26 (by decide) (by decide)).trans ((mb_g2 E25 (by decide) (by decide)).trans ((mb_g2 E22 (by decide) (by decide)).trans ((mb_g2 E21 (by decide) (by decide)).trans ((mb_g2 E18 (by decide) (by decide)).trans ((mb_g2 E16 (by decide) (by decide)).trans ((mb_g2 E14 (by decide) (by decide)).trans ((mb_g2 E12 (by decide) (by decide)).trans ((mb_g2 E10 (by decide) (by decide)).trans ((mb_g2 E8 (by decide) (by decide)).trans ((mb_g2 E7 (by decide) (by decide)).trans (mb_g1 E4 (by decide))))))))))))))))) ?_
  refine mb_al (t := 103) (c := 8) rfl rfl (by decide) ?_
  refine mz_ic_ge (a := 4) (b := 8) (tgt := 112) rfl rfl ⟨by decide, by decide⟩ ⟨by decide, by decide⟩ (fun z => absurd z (by decide)) (fun _ => ?_)
  refine mm_g 1 (pc1 := 92) (lo1 := [some (.ref 2), some (.int (Int32.ofInt 4))]) (st1 := [.ref 2]) (H1 := (mb 19 mbR16 (mz_up gB 0 0 (-1)) so L 233)) rfl ?_
  refine mb_gf (v := 3) (kd := 4) rfl rfl rfl rfl (by decide) ((mb_g2 E34 (by decide) (by decide)).trans ((mb_g2 E33 (by decide) (by decide)).trans ((mb_g2 E30 (by decide) (by decide)).trans ((mb_g2 E29 (by decide) (by decide)).trans ((mb_g2 E26 (by decide) (by decide)).trans ((mb_g2 E25 (by decide) (by decide)).trans ((mb_g2 E22 (by decide) (by decide)).trans ((mb_g2 E21 (by decide) (by decide)).trans ((mb_g2 E18 (by decide) (by decide)).trans ((mb_g2 E16 (by decide) (by decide)).trans ((mb_g2 E14 (by decide) (by decide)).trans ((mb_g2 E12 (by decide) (by decide)).trans ((mb_g2 E10 (by decide) (by decide)).trans ((mb_g2 E8 (by decide) (by decide)).trans ((mb_g2 E7 (by decide) (by decide)).trans (mb_g1 E4 (by decide))))))))))))))))) ?_
  refine mm_g 1 (pc1 := 96) (lo1 := [some (.ref 2), some (.int (Int32.ofInt 4))]) (st1 := [.int (Int32.ofInt 4), .ref 3]) (H1 := (mb 19 mbR16 (mz_up gB 0 0 (-1)) so L 233)) rfl ?_
  refine mb_new (sl2 := 235) E35 rfl rfl (by decide) rfl rfl (fun j => ((mz_up_ne (fun h => absurd h.1 (by decide))).trans (hB 19 j (by decide)))) ?_
  have E36 := mb_E_up E35
  refine mm_g 1 (pc1 := 100) (lo1 := [some (.ref 2), some (.int (Int32.ofInt 4))]) (st1 := [.ref 19, .ref 19, .int (Int32.ofInt 4), .ref 3]) (H1 := (mb 20 mbR16 (mz_up gB 0 0 (-1)) so L 235)) rfl ?_
  refine mz_bip (c := 8) rfl (by decide) ?_
  refine mb_cl (b := 19) rfl rfl rfl (Nat.le_of_ble_eq_true rfl) (by omega) ?_
  refine ⟨mmX0_init, [some (.ref 19), some (.int (Int32.ofInt 8))], rfl, rfl, ?_⟩
  refine mm_g 1 (pc1 := 1) (lo1 := [some (.ref 19), some (.int (Int32.ofInt 8))]) (st1 := [.ref 19]) (H1 := (mb 20 mbR16 (mz_up gB 0 0 (-1)) so L 235)) rfl ?_
  refine mb_obj rfl rfl (Nat.le_of_ble_eq_true rfl) (by omega) ?_
  refine mm_g 2 (pc1 := 6) (lo1 := [some (.ref 19), some (.int (Int32.ofInt 8))]) (st1 := [.int (Int32.ofInt 0), .ref 19]) (H1 := (mb 20 mbR16 (mz_up gB 0 0 (-1)) so L 235)) rfl ?_
  refine mb_p0 rfl rfl rfl (Or.inl rfl) ((mz_up_ne (by decide)).trans (hB 19 1 (by decide))) ?_
  refine mm_g 2 (pc1 := 11) (lo1 := [some (.ref 19), some (.int (Int32.ofInt 8))]) (st1 := [.int (Int32.ofInt 8), .ref 19]) (H1 := (mb 20 mbR16 (mz_up gB 0 0 (-1)) so L 235)) rfl ?_
  refine mz_if_le (a := 8) (tgt := 18) rfl rfl ⟨by decide, by decide⟩ (fun z => absurd z (by decide)) (fun _ => ?_)
  refine mm_g 1 (pc1 := 15) (lo1 := [some (.ref 19), some (.int (Int32.ofInt 8))]) (st1 := [.int (Int32.ofInt 8), .ref 19]) (H1 := (mb 20 mbR16 (mz_up gB 0 0 (-1)) so L 235)) rfl ?_
  refine mz_gt (tgt := 19) rfl rfl ?_
  refine mb_nai (sl2 := 243) (c := 8) E36 rfl (by decide) (by decide) (by decide) rfl rfl (fun j => ((mz_up_ne (fun h => absurd h.1 (by decide))).trans (hB 20 j (by decide)))) ?_
  have E37 := mb_E_up E36
  refine mb_pR E37 rfl rfl (by decide) rfl (Or.inr ⟨rfl, rfl, rfl⟩) ?_
  have E38 : mb_E mbR17 21 := mb_E_set (k := 0) (v := 20) E37 (by decide : 19 < 21) (by decide)
  change mm_W _ _ _ _ _ (mb 21 mbR17 (mz_up gB 0 0 (-1)) so L 243) _
  refine mm_rt rfl rfl ⟨none, rfl, ?_⟩
  show mm_W (((d - 1) - 1) - 1) mmX10_init 105 [some (.ref 2), some (.int (Int32.ofInt 4))] [.ref 19, .int (Int32.ofInt 4), .ref 3] (mb 21 mbR17 (mz_up gB 0 0 (-1)) so L 243) _
  refine mb_aa (len := 8) (c := 4) E38 rfl (by decide) (Or.inl ⟨rfl, rfl⟩) rfl (by decide) (by decide) ?_
  have E39 : mb_E mbR18 21 := mb_E_set (k := 4) (v := 19) E38 (by decide : 3 < 21) (by decide)
  change mm_W _ _ _ _ _ (mb 21 mbR18 (mz_up gB 0 0 (-1)) so L 243) _
  refine mz_iincR (v := 4) (lo2 := [some (.ref 2), some (.int (Int32.ofInt 5))]) rfl rfl rfl (Nat.le_of_ble_eq_true rfl) rfl ?_
  refine mz_gt (tgt := 82) rfl rfl ?_
  refine mm_g 2 (pc1 := 84) (lo1 := [some (.ref 2), some (.int (Int32.ofInt 5))]) (st1 := [.ref 2, .int (Int32.ofInt 5)]) (H1 := (mb 21 mbR18 (mz_up gB 0 0 (-1)) so L 243)) rfl ?_
  refine mb_gf (v := 3) (kd := 4) rfl rfl rfl rfl (by decide) ((mb_g2 E38 (by decide) (by decide)).trans ((mb_g2 E37 (by decide) (by decide)).trans ((mb_g2 E34 (by decide) (by decide)).trans ((mb_g2 E33 (by decide) (by decide)).trans ((mb_g2 E30 (by decide) (by decide)).trans ((mb_g2 E29 (by decide) (by decide)).trans ((mb_g2 E26 (by decide) (by decide)).trans ((mb_g2 E25 (by decide) (by decide)).trans ((mb_g2 E22 (by decide) (by decide)).trans ((mb_g2 E21 (by decide) (by decide)).trans ((mb_g2 E18 (by decide) (by decide)).trans ((mb_g2 E16 (by decide) (by decide)).trans ((mb_g2 E14 (by decide) (by decide)).trans ((mb_g2 E12 (by decide) (by decide)).trans ((mb_g2 E10 (by decide) (by decide)).trans ((mb_g2 E8 (by decide) (by decide)).trans ((mb_g2 E7 (by decide) (by decide)).trans (mb_g1 E4 (by decide))))))))))))))))))) ?_
  refine mb_al (t := 103) (c := 8) rfl rfl (by decide) ?_
  refine mz_ic_ge (a := 5) (b := 8) (tgt := 112) rfl rfl ⟨by decide, by decide⟩ ⟨by decide, by decide⟩ (fun z => absurd z (by decide)) (fun _ => ?_)
  refine mm_g 1 (pc1 := 92) (lo1 := [some (.ref 2), some (.int (Int32.ofInt 5))]) (st1 := [.ref 2]) (H1 := (mb 21 mbR18 (mz_up gB 0 0 (-1)) so L 243)) rfl ?_
  refine mb_gf (v := 3) (kd := 4) rfl rfl rfl rfl (by decide) ((mb_g2 E38 (by decide) (by decide)).trans ((mb_g2 E37 (by decide) (by decide)).trans ((mb_g2 E34 (by decide) (by decide)).trans ((mb_g2 E33 (by decide) (by decide)).trans ((mb_g2 E30 (by decide) (by decide)).trans ((mb_g2 E29 (by decide) (by decide)).trans ((mb_g2 E26 (by decide) (by decide)).trans ((mb_g2 E25 (by decide) (by decide)).trans ((mb_g2 E22 (by decide) (by decide)).trans ((mb_g2 E21 (by decide) (by decide)).trans ((mb_g2 E18 (by decide) (by decide)).trans ((mb_g2 E16 (by decide) (by decide)).trans ((mb_g2 E14 (by decide) (by decide)).trans ((mb_g2 E12 (by decide) (by decide)).trans ((mb_g2 E10 (by decide) (by decide)).trans ((mb_g2 E8 (by decide) (by decide)).trans ((mb_g2 E7 (by decide) (by decide)).trans (mb_g1 E4 (by decide))))))))))))))))))) ?_
  refine mm_g 1 (pc1 := 96) (lo1 := [some (.ref 2), some (.int (Int32.ofInt 5))]) (st1 := [.int (Int32.ofInt 5), .ref 3]) (H1 := (mb 21 mbR18 (mz_up gB 0 0 (-1)) so L 243)) rfl ?_
  refine mb_new (sl2 := 245) E39 rfl rfl (by decide) rfl rfl (fun j => ((mz_up_ne (fun h => absurd h.1 (by decide))).trans (hB 21 j (by decide)))) ?_
  have E40 := mb_E_up E39
  refine mm_g 1 (pc1 := 100) (lo1 := [some (.ref 2), some (.int (Int32.ofInt 5))]) (st1 := [.ref 21, .ref 21, .int (Int32.ofInt 5), .ref 3]) (H1 := (mb 22 mbR18 (mz_up gB 0 0 (-1)) so L 245)) rfl ?_
  refine mz_bip (c := 8) rfl (by decide) ?_
  refine mb_cl (b := 21) rfl rfl rfl (Nat.le_of_ble_eq_true rfl) (by omega) ?_
  refine ⟨mmX0_init, [some (.ref 21), some (.int (Int32.ofInt 8))], rfl, rfl, ?_⟩
  refine mm_g 1 (pc1 := 1) (lo1 := [some (.ref 21), some (.int (Int32.ofInt 8))]) (st1 := [.ref 21]) (H1 := (mb 22 mbR18 (mz_up gB 0 0 (-1)) so L 245)) rfl ?_
  refine mb_obj rfl rfl (Nat.le_of_ble_eq_true rfl) (by omega) ?_
  refine mm_g 2 (pc1 := 6) (lo1 := [some (.ref 21), some (.int (Int32.ofInt 8))]) (st1 := [.int (Int32.ofInt 0), .ref 21]) (H1 := (mb 22 mbR18 (mz_up gB 0 0 (-1)) so L 245)) rfl ?_
  refine mb_p0 rfl rfl rfl (Or.inl rfl) ((mz_up_ne (by decide)).trans (hB 21 1 (by decide))) ?_
  refine mm_g 2 (pc1 := 11) (lo1 := [some (.ref 21), some (.int (Int32.ofInt 8))]) (st1 := [.int (Int32.ofInt 8), .ref 21]) (H1 := (mb 22 mbR18 (mz_up gB 0 0 (-1)) so L 245)) rfl ?_
  refine mz_if_le (a := 8) (tgt := 18) rfl rfl ⟨by decide, by decide⟩ (fun z => absurd z (by decide)) (fun _ => ?_)
  refine mm_g 1 (pc1 := 15) (lo1 := [some (.ref 21), some (.int (Int32.ofInt 8))]) (st1 := [.int (Int32.ofInt 8), .ref 21]) (H1 := (mb 22 mbR18 (mz_up gB 0 0 (-1)) so L 245)) rfl ?_
  refine mz_gt (tgt := 19) rfl rfl ?_
  refine mb_nai (sl2 := 253) (c := 8) E40 rfl (by decide) (by decide) (by decide) rfl rfl (fun j => ((mz_up_ne (fun h => absurd h.1 (by decide))).trans (hB 22 j (by decide)))) ?_
  have E41 := mb_E_up E40
  refine mb_pR E41 rfl rfl (by decide) rfl (Or.inr ⟨rfl, rfl, rfl⟩) ?_
  have E42 : mb_E mbR19 23 := mb_E_set (k := 0) (v := 22) E41 (by decide : 21 < 23) (by decide)
  change mm_W _ _ _ _ _ (mb 23 mbR19 (mz_up gB 0 0 (-1)) so L 253) _
  refine mm_rt rfl rfl ⟨none, rfl, ?_⟩
  show mm_W (((d - 1) - 1) - 1) mmX10_init 105 [some (.ref 2), some (.int (Int32.ofInt 5))] [.ref 21, .int (Int32.ofInt 5), .ref 3] (mb 23 mbR19 (mz_up gB 0 0 (-1)) so L 253) _
  refine mb_aa (len := 8) (c := 5) E42 rfl (by decide) (Or.inl ⟨rfl, rfl⟩) rfl (by decide) (by decide) ?_
  have E43 : mb_E mbR20 23 := mb_E_set (k := 5) (v := 21) E42 (by decide : 3 < 23) (by decide)
  change mm_W _ _ _ _ _ (mb 23 mbR20 (mz_up gB 0 0 (-1)) so L 253) _
  refine mz_iincR (v := 5) (lo2 := [some (.ref 2), some (.int (Int32.ofInt 6))]) rfl rfl rfl (Nat.le_of_ble_eq_true rfl) rfl ?_
  refine mz_gt (tgt := 82) rfl rfl ?_
  refine mm_g 2 (pc1 := 84) (lo1 := [some (.ref 2), some (.int (Int32.ofInt 6))]) (st1 := [.ref 2, .int (Int32.ofInt 6)]) (H1 := (mb 23 mbR20 (mz_up gB 0 0 (-1)) so L 253)) rfl ?_
  refine mb_gf (v := 3) (kd := 4) rfl rfl rfl rfl (by decide) ((mb_g2 E42 (by decide) (by decide)).trans ((mb_g2 E41 (by decide) (by decide)).trans ((mb_g2 E38 (by decide) (by decide)).trans ((mb_g2 E37 (by decide) (by decide)).trans ((mb_g2 E34 (by decide) (by decide)).trans ((mb_g2 E33 (by decide) (by decide)).trans ((mb_g2 E30 (by decide) (by decide)).trans ((mb_g2 E29 (by decide) (by decide)).trans ((mb_g2 E26 (by decide) (by decide)).trans ((mb_g2 E25 (by decide) (by decide)).trans ((mb_g2 E22 (by decide) (by decide)).trans ((mb_g2 E21 (by decide) (by decide)).trans ((mb_g2 E18 (by decide) (by decide)).trans ((mb_g2 E16 (by decide) (by decide)).trans ((mb_g2 E14 (by decide) (by decide)).trans ((mb_g2 E12 (by decide) (by decide)).trans ((mb_g2 E10 (by decide) (by decide)).trans ((mb_g2 E8 (by decide) (by decide)).trans ((mb_g2 E7 (by decide) (by decide)).trans (mb_g1 E4 (by decide))))))))))))))))))))) ?_
  refine mb_al (t := 103) (c := 8) rfl rfl (by decide) ?_
  refine mz_ic_ge (a := 6) (b := 8) (tgt := 112) rfl rfl ⟨by decide, by decide⟩ ⟨by decide, by decide⟩ (fun z => absurd z (by decide)) (fun _ => ?_)
  refine mm_g 1 (pc1 := 92) (lo1 := [some (.ref 2), some (.int (Int32.ofInt 6))]) (st1 := [.ref 2]) (H1 := (mb 23 mbR20 (mz_up gB 0 0 (-1)) so L 253)) rfl ?_
  refine mb_gf (v := 3) (kd := 4) rfl rfl rfl rfl (by decide) ((mb_g2 E42 (by decide) (by decide)).trans ((mb_g2 E41 (by decide) (by decide)).trans ((mb_g2 E38 (by decide) (by decide)).trans ((mb_g2 E37 (by decide) (by decide)).trans ((mb_g2 E34 (by decide) (by decide)).trans ((mb_g2 E33 (by decide) (by decide)).trans ((mb_g2 E30 (by decide) (by decide)).trans ((mb_g2 E29 (by decide) (by decide)).trans ((mb_g2 E26 (by decide) (by decide)).trans ((mb_g2 E25 (by decide) (by decide)).trans ((mb_g2 E22 (by decide) (by decide)).trans ((mb_g2 E21 (by decide) (by decide)).trans ((mb_g2 E18 (by decide) (by decide)).trans ((mb_g2 E16 (by decide) (by decide)).trans ((mb_g2 E14 (by decide) (by decide)).trans ((mb_g2 E12 (by decide) (by decide)).trans ((mb_g2 E10 (by decide) (by decide)).trans ((mb_g2 E8 (by decide) (by decide)).trans ((mb_g2 E7 (by decide) (by decide)).trans (mb_g1 E4 (by decide))))))))))))))))))))) ?_
  refine mm_g 1 (pc1 := 96) (lo1 := [some (.ref 2), some (.int (Int32.ofInt 6))]) (st1 := [.int (Int32.ofInt 6), .ref 3]) (H1 := (mb 23 mbR20 (mz_up gB 0 0 (-1)) so L 253)) rfl ?_
  refine mb_new (sl2 := 255) E43 rfl rfl (by decide) rfl rfl (fun j => ((mz_up_ne (fun h => absurd h.1 (by decide))).trans (hB 23 j (by decide)))) ?_
  have E44 := mb_E_up E43
  refine mm_g 1 (pc1 := 100) (lo1 := [some (.ref 2), some (.int (Int32.ofInt 6))]) (st1 := [.ref 23, .ref 23, .int (Int32.ofInt 6), .ref 3]) (H1 := (mb 24 mbR20 (mz_up gB 0 0 (-1)) so L 255)) rfl ?_
  refine mz_bip (c := 8) rfl (by decide) ?_
  refine mb_cl (b := 23) rfl rfl rfl (Nat.le_of_ble_eq_true rfl) (by omega) ?_
  refine ⟨mmX0_init, [some (.ref 23), some (.int (Int32.ofInt 8))], rfl, rfl, ?_⟩
  refine mm_g 1 (pc1 := 1) (lo1 := [some (.ref 23), some (.int (Int32.ofInt 8))]) (st1 := [.ref 23]) (H1 := (mb 24 mbR20 (mz_up gB 0 0 (-1)) so L 255)) rfl ?_
  refine mb_obj rfl rfl (Nat.le_of_ble_eq_true rfl) (by omega) ?_
  refine mm_g 2 (pc1 := 6) (lo1 := [some (.ref 23), some (.int (Int32.ofInt 8))]) (st1 := [.int (Int32.ofInt 0), .ref 23]) (H1 := (mb 24 mbR20 (mz_up gB 0 0 (-1)) so L 255)) rfl ?_
  refine mb_p0 rfl rfl rfl (Or.inl rfl) ((mz_up_ne (by decide)).trans (hB 23 1 (by decide))) ?_
  refine mm_g 2 (pc1 := 11) (lo1 := [some (.ref 23), some (.int (Int32.ofInt 8))]) (st1 := [.int (Int32.ofInt 8), .ref 23]) (H1 := (mb 24 mbR20 (mz_up gB 0 0 (-1)) so L 255)) rfl ?_
  refine mz_if_le (a := 8) (tgt := 18) rfl rfl ⟨by decide, by decide⟩ (fun z => absurd z (by decide)) (fun _ => ?_)
  refine mm_g 1 (pc1 := 15) (lo1 := [some (.ref 23), some (.int (Int32.ofInt 8))]) (st1 := [.int (Int32.ofInt 8), .ref 23]) (H1 := (mb 24 mbR20 (mz_up gB 0 0 (-1)) so L 255)) rfl ?_
  refine mz_gt (tgt := 19) rfl rfl ?_
  refine mb_nai (sl2 := 263) (c := 8) E44 rfl (by decide) (by decide) (by decide) rfl rfl (fun j => ((mz_up_ne (fun h => absurd h.1 (by decide))).trans (hB 24 j (by decide)))) ?_
  have E45 := mb_E_up E44
  refine mb_pR E45 rfl rfl (by decide) rfl (Or.inr ⟨rfl, rfl, rfl⟩) ?_
  have E46 : mb_E mbR21 25 := mb_E_set (k := 0) (v := 24) E45 (by decide : 23 < 25) (by decide)
  change mm_W _ _ _ _ _ (mb 25 mbR21 (mz_up gB 0 0 (-1)) so L 263) _
  refine mm_rt rfl rfl ⟨none, rfl, ?_⟩
  show mm_W (((d - 1) - 1) - 1) mmX10_init 105 [some (.ref 2), some (.int (Int32.ofInt 6))] [.ref 23, .int (Int32.ofInt 6), .ref 3] (mb 25 mbR21 (mz_up gB 0 0 (-1)) so L 263) _
  refine mb_aa (len := 8) (c := 6) E46 rfl (by decide) (Or.inl ⟨rfl, rfl⟩) rfl (by decide) (by decide) ?_
  have E47 : mb_E mbR22 25 := mb_E_set (k := 6) (v := 23) E46 (by decide : 3 < 25) (by decide)
  change mm_W _ _ _ _ _ (mb 25 mbR22 (mz_up gB 0 0 (-1)) so L 263) _
  refine mz_iincR (v := 6) (lo2 := [some (.ref 2), some (.int (Int32.ofInt 7))]) rfl rfl rfl (Nat.le_of_ble_eq_true rfl) rfl ?_
  refine mz_gt (tgt := 82) rfl rfl ?_
  refine mm_g 2 (pc1 := 84) (lo1 := [some (.ref 2), some (.int (Int32.ofInt 7))]) (st1 := [.ref 2, .int (Int32.ofInt 7)]) (H1 := (mb 25 mbR22 (mz_up gB 0 0 (-1)) so L 263)) rfl ?_
  refine mb_gf (v := 3) (kd := 4) rfl rfl rfl rfl (by decide) ((mb_g2 E46 (by decide) (by decide)).trans ((mb_g2 E45 (by decide) (by decide)).trans ((mb_g2 E42 (by decide) (by decide)).trans ((mb_g2 E41 (by decide) (by decide)).trans ((mb_g2 E38 (by decide) (by decide)).trans ((mb_g2 E37 (by decide) (by decide)).trans ((mb_g2 E34 (by decide) (by decide)).trans ((mb_g2 E33 (by decide) (by decide)).trans ((mb_g2 E30 (by decide) (by decide)).trans ((mb_g2 E29 (by decide) (by decide)).trans ((mb_g2 E26 (by decide) (by decide)).trans ((mb_g2 E25 (by decide) (by decide)).trans ((mb_g2 E22 (by decide) (by decide)).trans ((mb_g2 E21 (by decide) (by decide)).trans ((mb_g2 E18 (by decide) (by decide)).trans ((mb_g2 E16 (by decide) (by decide)).trans ((mb_g2 E14 (by decide) (by decide)).trans ((mb_g2 E12 (by decide) (by decide)).trans ((mb_g2 E10 (by decide) (by decide)).trans ((mb_g2 E8 (by decide) (by decide)).trans ((mb_g2 E7 (by decide) (by decide)).trans (mb_g1 E4 (by decide))))))))))))))))))))))) ?_
  refine mb_al (t := 103) (c := 8) rfl rfl (by decide) ?_
  refine mz_ic_ge (a := 7) (b := 8) (tgt := 112) rfl rfl ⟨by decide, by decide⟩ ⟨by decide, by decide⟩ (fun z => absurd z (by decide)) (fun _ => ?_)
  refine mm_g 1 (pc1 := 92) (lo1 := [some (.ref 2), some (.int (Int32.ofInt 7))]) (st1 := [.ref 2]) (H1 := (mb 25 mbR22 (mz_up gB 0 0 (-1)) so L 263)) rfl ?_
  refine mb_gf (v := 3) (kd := 4) rfl rfl rfl rfl (by decide) ((mb_g2 E46 (by decide) (by decide)).trans ((mb_g2 E45 (by decide) (by decide)).trans ((mb_g2 E42 (by decide) (by decide)).trans ((mb_g2 E41 (by decide) (by decide)).trans ((mb_g2 E38 (by decide) (by decide)).trans ((mb_g2 E37 (by decide) (by decide)).trans ((mb_g2 E34 (by decide) (by decide)).trans ((mb_g2 E33 (by decide) (by decide)).trans ((mb_g2 E30 (by decide) (by decide)).trans ((mb_g2 E29 (by decide) (by decide)).trans ((mb_g2 E26 (by decide) (by decide)).trans ((mb_g2 E25 (by decide) (by decide)).trans ((mb_g2 E22 (by decide) (by decide)).trans ((mb_g2 E21 (by decide) (by decide)).trans ((mb_g2 E18 (by decide) (by decide)).trans ((mb_g2 E16 (by decide) (by decide)).trans ((mb_g2 E14 (by decide) (by decide)).trans ((mb_g2 E12 (by decide) (by decide)).trans ((mb_g2 E10 (by decide) (by decide)).trans ((mb_g2 E8 (by decide) (by decide)).trans ((mb_g2 E7 (by decide) (by decide)).trans (mb_g1 E4 (by decide))))))))))))))))))))))) ?_
  refine mm_g 1 (pc1 := 96) (lo1 := [some (.ref 2), some (.int (Int32.ofInt 7))]) (st1 := [.int (Int32.ofInt 7), .ref 3]) (H1 := (mb 25 mbR22 (mz_up gB 0 0 (-1)) so L 263)) rfl ?_
  refine mb_new (sl2 := 265) E47 rfl rfl (by decide) rfl rfl (fun j => ((mz_up_ne (fun h => absurd h.1 (by decide))).trans (hB 25 j (by decide)))) ?_
  have E48 := mb_E_up E47
  refine mm_g 1 (pc1 := 100) (lo1 := [some (.ref 2), some (.int (Int32.ofInt 7))]) (st1 := [.ref 25, .ref 25, .int (Int32.ofInt 7), .ref 3]) (H1 := (mb 26 mbR22 (mz_up gB 0 0 (-1)) so L 265)) rfl ?_
  refine mz_bip (c := 8) rfl (by decide) ?_
  refine mb_cl (b := 25) rfl rfl rfl (Nat.le_of_ble_eq_true rfl) (by omega) ?_
  refine ⟨mmX0_init, [some (.ref 25), some (.int (Int32.ofInt 8))], rfl, rfl, ?_⟩
  refine mm_g 1 (pc1 := 1) (lo1 := [some (.ref 25), some (.int (Int32.ofInt 8))]) (st1 := [.ref 25]) (H1 := (mb 26 mbR22 (mz_up gB 0 0 (-1)) so L 265)) rfl ?_
  refine mb_obj rfl rfl (Nat.le_of_ble_eq_true rfl) (by omega) ?_
  refine mm_g 2 (pc1 := 6) (lo1 := [some (.ref 25), some (.int (Int32.ofInt 8))]) (st1 := [.int (Int32.ofInt 0), .ref 25]) (H1 := (mb 26 mbR22 (mz_up gB 0 0 (-1)) so L 265)) rfl ?_
  refine mb_p0 rfl rfl rfl (Or.inl rfl) ((mz_up_ne (by decide)).trans (hB 25 1 (by decide))) ?_
  refine mm_g 2 (pc1 := 11) (lo1 := [some (.ref 25), some (.int (Int32.ofInt 8))]) (st1 := [.int (Int32.ofInt 8), .ref 25]) (H1 := (mb 26 mbR22 (mz_up gB 0 0 (-1)) so L 265)) rfl ?_
  refine mz_if_le (a := 8) (tgt := 18) rfl rfl ⟨by decide, by decide⟩ (fun z => absurd z (by decide)) (fun _ => ?_)
  refine mm_g 1 (pc1 := 15) (lo1 := [some (.ref 25), some (.int (Int32.ofInt 8))]) (st1 := [.int (Int32.ofInt 8), .ref 25]) (H1 := (mb 26 mbR22 (mz_up gB 0 0 (-1)) so L 265)) rfl ?_
  refine mz_gt (tgt := 19) rfl rfl ?_
  refine mb_nai (sl2 := 273) (c := 8) E48 rfl (by decide) (by decide) (by decide) rfl rfl (fun j => ((mz_up_ne (fun h => absurd h.1 (by decide))).trans (hB 26 j (by decide)))) ?_
  have E49 := mb_E_up E48
  refine mb_pR E49 rfl rfl (by decide) rfl (Or.inr ⟨rfl, rfl, rfl⟩) ?_
  have E50 : mb_E mbR23 27 := mb_E_set (k := 0) (v := 26) E49 (by decide : 25 < 27) (by decide)
  change mm_W _ _ _ _ _ (mb 27 mbR23 (mz_up gB 0 0 (-1)) so L 273) _
  refine mm_rt rfl rfl ⟨none, rfl, ?_⟩
  show mm_W (((d - 1) - 1) - 1) mmX10_init 105 [some (.ref 2), some (.int (Int32.ofInt 7))] [.ref 25, .int (Int32.ofInt 7), .ref 3] (mb 27 mbR23 (mz_up gB 0 0 (-1)) so L 273) _
  refine mb_aa (len := 8) (c := 7) E50 rfl (by decide) (Or.inl ⟨rfl, rfl⟩) rfl (by decide) (by decide) ?_
  have E51 : mb_E mbR24 27 := mb_E_set (k := 7) (v := 25) E50 (by decide : 3 < 27) (by decide)
  change mm_W _ _ _ _ _ (mb 27 mbR24 (mz_up gB 0 0 (-1)) so L 273) _
  refine mz_iincR (v := 7) (lo2 := [some (.ref 2), some (.int (Int32.ofInt 8))]) rfl rfl rfl (Nat.le_of_ble_eq_true rfl) rfl ?_
  refine mz_gt (tgt := 82) rfl rfl ?_
  refine mm_g 2 (pc1 := 84) (lo1 := [some (.ref 2), some (.int (Int32.ofInt 8))]) (st1 := [.ref 2, .int (Int32.ofInt 8)]) (H1 := (mb 27 mbR24 (mz_up gB 0 0 (-1)) so L 273)) rfl ?_
  refine mb_gf (v := 3) (kd := 4) rfl rfl rfl rfl (by decide) ((mb_g2 E50 (by decide) (by decide)).trans ((mb_g2 E49 (by decide) (by decide)).trans ((mb_g2 E46 (by decide) (by decide)).trans ((mb_g2 E45 (by decide) (by decide)).trans ((mb_g2 E42 (by decide) (by decide)).trans ((mb_g2 E41 (by decide) (by decide)).trans ((mb_g2 E38 (by decide) (by decide)).trans ((mb_g2 E37 (by decide) (by decide)).trans ((mb_g2 E34 (by decide) (by decide)).trans ((mb_g2 E33 (by decide) (by decide)).trans ((mb_g2 E30 (by decide) (by decide)).trans ((mb_g2 E29 (by decide) (by decide)).trans ((mb_g2 E26 (by decide) (by decide)).trans ((mb_g2 E25 (by decide) (by decide)).trans ((mb_g2 E22 (by decide) (by decide)).trans ((mb_g2 E21 (by decide) (by decide)).trans ((mb_g2 E18 (by decide) (by decide)).trans ((mb_g2 E16 (by decide) (by decide)).trans ((mb_g2 E14 (by decide) (by decide)).trans ((mb_g2 E12 (by decide) (by decide)).trans ((mb_g2 E10 (by decide) (by decide)).trans ((mb_g2 E8 (by decide) (by decide)).trans ((mb_g2 E7 (by decide) (by decide)).trans (mb_g1 E4 (by decide))))))))))))))))))))))))) ?_
  refine mb_al (t := 103) (c := 8) rfl rfl (by decide) ?_
  refine mz_ic_ge (a := 8) (b := 8) (tgt := 112) rfl rfl ⟨by decide, by decide⟩ ⟨by decide, by decide⟩ (fun _ => ?_) (fun z => absurd z (by decide))
  refine mm_rt rfl rfl ⟨none, rfl, ?_⟩
  show mm_W ((d - 1) - 1) mmX1_init 12 [some (.ref 1)] [.ref 2, .ref 1] (mb 27 mbR24 (mz_up gB 0 0 (-1)) so L 273) _
  refine mb_pR E51 rfl rfl (by decide) rfl (Or.inr ⟨rfl, rfl, rfl⟩) ?_
  have E52 : mb_E mbR25 27 := mb_E_set (k := 0) (v := 2) E51 (by decide : 1 < 27) (by decide)
  change mm_W _ _ _ _ _ (mb 27 mbR25 (mz_up gB 0 0 (-1)) so L 273) _
  refine mm_g 1 (pc1 := 16) (lo1 := [some (.ref 1)]) (st1 := [.ref 1]) (H1 := (mb 27 mbR25 (mz_up gB 0 0 (-1)) so L 273)) rfl ?_
  refine mb_new (sl2 := 277) E52 rfl rfl (by decide) rfl rfl (fun j => ((mz_up_ne (fun h => absurd h.1 (by decide))).trans (hB 27 j (by decide)))) ?_
  have E53 := mb_E_up E52
  refine mm_g 1 (pc1 := 20) (lo1 := [some (.ref 1)]) (st1 := [.ref 27, .ref 27, .ref 1]) (H1 := (mb 28 mbR25 (mz_up gB 0 0 (-1)) so L 277)) rfl ?_
  refine mb_cl (b := 27) rfl rfl rfl (Nat.le_of_ble_eq_true rfl) (by omega) ?_
  refine ⟨mmX9_init, [some (.ref 27), none], rfl, rfl, ?_⟩
  refine mm_g 1 (pc1 := 1) (lo1 := [some (.ref 27), none]) (st1 := [.ref 27]) (H1 := (mb 28 mbR25 (mz_up gB 0 0 (-1)) so L 277)) rfl ?_
  refine mb_obj rfl rfl (Nat.le_of_ble_eq_true rfl) (by omega) ?_
  refine mm_g 1 (pc1 := 5) (lo1 := [some (.ref 27), none]) (st1 := [.ref 27]) (H1 := (mb 28 mbR25 (mz_up gB 0 0 (-1)) so L 277)) rfl ?_
  refine mz_bip (c := 6) rfl (by decide) ?_
  refine mb_ana (sl2 := 283) (c := 6) E53 rfl rfl (by decide) (by decide) (by decide) rfl rfl (fun j => ((mz_up_ne (fun h => absurd h.1 (by decide))).trans (hB 28 j (by decide)))) ?_
  have E54 := mb_E_up E53
  refine mb_pR E54 rfl rfl (by decide) rfl (Or.inr ⟨rfl, rfl, rfl⟩) ?_
  have E55 : mb_E mbR26 29 := mb_E_set (k := 0) (v := 28) E54 (by decide : 27 < 29) (by decide)
  change mm_W _ _ _ _ _ (mb 29 mbR26 (mz_up gB 0 0 (-1)) so L 283) _
  refine mm_g 1 (pc1 := 14) (lo1 := [some (.ref 27), none]) (st1 := [.ref 27]) (H1 := (mb 29 mbR26 (mz_up gB 0 0 (-1)) so L 283)) rfl ?_
  refine mb_new (sl2 := 288) E55 rfl rfl (by decide) rfl rfl (fun j => ((mz_up_ne (fun h => absurd h.1 (by decide))).trans (hB 29 j (by decide)))) ?_
  have E56 := mb_E_up E55
  refine mm_g 1 (pc1 := 18) (lo1 := [some (.ref 27), none]) (st1 := [.ref 29, .ref 29, .ref 27]) (H1 := (mb 30 mbR26 (mz_up gB 0 0 (-1)) so L 288)) rfl ?_
  refine mb_cl (b := 29) rfl rfl rfl (Nat.le_of_ble_eq_true rfl) (by omega) ?_
  refine ⟨mmX8_init, [some (.ref 29)], rfl, rfl, ?_⟩
  refine mm_g 1 (pc1 := 1) (lo1 := [some (.ref 29)]) (st1 := [.ref 29]) (H1 := (mb 30 mbR26 (mz_up gB 0 0 (-1)) so L 288)) rfl ?_
  refine mb_obj rfl rfl (Nat.le_of_ble_eq_true rfl) (by omega) ?_
  refine mm_g 2 (pc1 := 6) (lo1 := [some (.ref 29)]) (st1 := [.int (Int32.ofInt 0), .ref 29]) (H1 := (mb 30 mbR26 (mz_up gB 0 0 (-1)) so L 288)) rfl ?_
  refine mb_p0 rfl rfl rfl (Or.inl rfl) ((mz_up_ne (by decide)).trans (hB 29 0 (by decide))) ?_
  refine mm_g 2 (pc1 := 11) (lo1 := [some (.ref 29)]) (st1 := [.int (Int32.ofInt 0), .ref 29]) (H1 := (mb 30 mbR26 (mz_up gB 0 0 (-1)) so L 288)) rfl ?_
  refine mb_p0 rfl rfl rfl (Or.inl rfl) ((mz_up_ne (by decide)).trans (hB 29 1 (by decide))) ?_
  refine mm_g 2 (pc1 := 16) (lo1 := [some (.ref 29)]) (st1 := [.int (Int32.ofInt 0), .ref 29]) (H1 := (mb 30 mbR26 (mz_up gB 0 0 (-1)) so L 288)) rfl ?_
  refine mb_p0 rfl rfl rfl (Or.inl rfl) ((mz_up_ne (by decide)).trans (hB 29 2 (by decide))) ?_
  refine mm_g 2 (pc1 := 21) (lo1 := [some (.ref 29)]) (st1 := [.int (Int32.ofInt 0), .ref 29]) (H1 := (mb 30 mbR26 (mz_up gB 0 0 (-1)) so L 288)) rfl ?_
  refine mb_p0 rfl rfl rfl (Or.inl rfl) ((mz_up_ne (by decide)).trans (hB 29 3 (by decide))) ?_
  refine mm_g 2 (pc1 := 26) (lo1 := [some (.ref 29)]) (st1 := [.int (Int32.ofInt 0), .ref 29]) (H1 := (mb 30 mbR26 (mz_up gB 0 0 (-1)) so L 288)) rfl ?_
  refine mb_p0 rfl rfl rfl (Or.inr rfl) ((mz_up_ne (by decide)).trans (hB 29 4 (by decide))) ?_
  refine mm_rt rfl rfl ⟨none, rfl, ?_⟩
  show mm_W (((d - 1) - 1) - 1) mmX9_init 21 [some (.ref 27), none] [.ref 29, .ref 27] (mb 30 mbR26 (mz_up gB 0 0 (-1)) so L 288) _
  refine mb_pR E56 rfl rfl (by decide) rfl (Or.inr ⟨rfl, rfl, rfl⟩) ?_
  have E57 : mb_E mbR27 30 := mb_E_set (k := 1) (v := 29) E56 (by decide : 27 < 30) (by decide)
  change mm_W _ _ _ _ _ (mb 30 mbR27 (mz_up gB 0 0 (-1)) so L 288) _
  refine mm_g 2 (pc1 := 26) (lo1 := [some (.ref 27), none]) (st1 := [.int (Int32.ofInt 0), .ref 27]) (H1 := (mb 30 mbR27 (mz_up gB 0 0 (-1)) so L 288)) rfl ?_
  refine mb_p0 rfl rfl rfl (Or.inl rfl) ((mz_up_ne (by decide)).trans (hB 27 2 (by decide))) ?_
  refine mm_g 2 (pc1 := 31) (lo1 := [some (.ref 27), none]) (st1 := [.int (Int32.ofInt 0), .ref 27]) (H1 := (mb 30 mbR27 (mz_up gB 0 0 (-1)) so L 288)) rfl ?_
  refine mb_p0 rfl rfl rfl (Or.inl rfl) ((mz_up_ne (by decide)).trans (hB 27 3 (by decide))) ?_
  refine mm_g 4 (pc1 := 38) (lo1 := [some (.ref 27), some (.int (Int32.ofInt 0))]) (st1 := [.ref 27, .int (Int32.ofInt 0)]) (H1 := (mb 30 mbR27 (mz_up gB 0 0 (-1)) so L 288)) rfl ?_
  refine mb_gf (v := 28) (kd := 4) rfl rfl rfl rfl (by decide) ((mb_g2 E56 (by decide) (by decide)).trans (mb_g1 E54 (by decide))) ?_
  refine mb_al (t := 104) (c := 6) rfl rfl (by decide) ?_
  refine mz_ic_ge (a := 0) (b := 6) (tgt := 64) rfl rfl ⟨by decide, by decide⟩ ⟨by decide, by decide⟩ (fun z => absurd z (by decide)) (fun _ => ?_)
  refine mm_g 1 (pc1 := 46) (lo1 := [some (.ref 27), some (.int (Int32.ofInt 0))]) (st1 := [.ref 27]) (H1 := (mb 30 mbR27 (mz_up gB 0 0 (-1)) so L 288)) rfl ?_
  refine mb_gf (v := 28) (kd := 4) rfl rfl rfl rfl (by decide) ((mb_g2 E56 (by decide) (by decide)).trans (mb_g1 E54 (by decide))) ?_
  refine mm_g 1 (pc1 := 50) (lo1 := [some (.ref 27), some (.int (Int32.ofInt 0))]) (st1 := [.int (Int32.ofInt 0), .ref 28]) (H1 := (mb 30 mbR27 (mz_up gB 0 0 (-1)) so L 288)) rfl ?_
  refine mb_new (sl2 := 293) E57 rfl rfl (by decide) rfl rfl (fun j => ((mz_up_ne (fun h => absurd h.1 (by decide))).trans (hB 30 j (by decide)))) ?_
  have E58 := mb_E_up E57
  refine mm_g 1 (pc1 := 54) (lo1 := [some (.ref 27), some (.int (Int32.ofInt 0))]) (st1 := [.ref 30, .ref 30, .int (Int32.ofInt 0), .ref 28]) (H1 := (mb 31 mbR27 (mz_up gB 0 0 (-1)) so L 293)) rfl ?_
  refine mb_cl (b := 30) rfl rfl rfl (Nat.le_of_ble_eq_true rfl) (by omega) ?_
  refine ⟨mmX8_init, [some (.ref 30)], rfl, rfl, ?_⟩
  refine mm_g 1 (pc1 := 1) (lo1 := [some (.ref 30)]) (st1 := [.ref 30]) (H1 := (mb 31 mbR27 (mz_up gB 0 0 (-1)) so L 293)) rfl ?_
  refine mb_obj rfl rfl (Nat.le_of_ble_eq_true rfl) (by omega) ?_
  refine mm_g 2 (pc1 := 6) (lo1 := [some (.ref 30)]) (st1 := [.int (Int32.ofInt 0), .ref 30]) (H1 := (mb 31 mbR27 (mz_up gB 0 0 (-1)) so L 293)) rfl ?_
  refine mb_p0 rfl rfl rfl (Or.inl rfl) ((mz_up_ne (by decide)).trans (hB 30 0 (by decide))) ?_
  refine mm_g 2 (pc1 := 11) (lo1 := [some (.ref 30)]) (st1 := [.int (Int32.ofInt 0), .ref 30]) (H1 := (mb 31 mbR27 (mz_up gB 0 0 (-1)) so L 293)) rfl ?_
  refine mb_p0 rfl rfl rfl (Or.inl rfl) ((mz_up_ne (by decide)).trans (hB 30 1 (by decide))) ?_
  refine mm_g 2 (pc1 := 16) (lo1 := [some (.ref 30)]) (st1 := [.int (Int32.ofInt 0), .ref 30]) (H1 := (mb 31 mbR27 (mz_up gB 0 0 (-1)) so L 293)) rfl ?_
  refine mb_p0 rfl rfl rfl (Or.inl rfl) ((mz_up_ne (by decide)).trans (hB 30 2 (by decide))) ?_
  refine mm_g 2 (pc1 := 21) (lo1 := [some (.ref 30)]) (st1 := [.int (Int32.ofInt 0), .ref 30]) (H1 := (mb 31 mbR27 (mz_up gB 0 0 (-1)) so L 293)) rfl ?_
  refine mb_p0 rfl rfl rfl (Or.inl rfl) ((mz_up_ne (by decide)).trans (hB 30 3 (by decide))) ?_
  refine mm_g 2 (pc1 := 26) (lo1 := [some (.ref 30)]) (st1 := [.int (Int32.ofInt 0), .ref 30]) (H1 := (mb 31 mbR27 (mz_up gB 0 0 (-1)) so L 293)) rfl ?_
  refine mb_p0 rfl rfl rfl (Or.inr rfl) ((mz_up_ne (by decide)).trans (hB 30 4 (by decide))) ?_
  refine mm_rt rfl rfl ⟨none, rfl, ?_⟩
  show mm_W (((d - 1) - 1) - 1) mmX9_init 57 [some (.ref 27), some (.int (Int32.ofInt 0))] [.ref 30, .int (Int32.ofInt 0), .ref 28] (mb 31 mbR27 (mz_up gB 0 0 (-1)) so L 293) _
  refine mb_aa (len := 6) (c := 0) E58 rfl (by decide) (Or.inr (Or.inl ⟨rfl, rfl⟩)) rfl (by decide) (by decide) ?_
  have E59 : mb_E mbR28 31 := mb_E_set (k := 0) (v := 30) E58 (by decide : 28 < 31) (by decide)
  change mm_W _ _ _ _ _ (mb 31 mbR28 (mz_up gB 0 0 (-1)) so L 293) _
  refine mz_iincR (v := 0) (lo2 := [some (.ref 27), some (.int (Int32.ofInt 1))]) rfl rfl rfl (Nat.le_of_ble_eq_true rfl) rfl ?_
  refine mz_gt (tgt := 36) rfl rfl ?_
  refine mm_g 2 (pc1 := 38) (lo1 := [some (.ref 27), some (.int (Int32.ofInt 1))]) (st1 := [.ref 27, .int (Int32.ofInt 1)]) (H1 := (mb 31 mbR28 (mz_up gB 0 0 (-1)) so L 293)) rfl ?_
  refine mb_gf (v := 28) (kd := 4) rfl rfl rfl rfl (by decide) ((mb_g2 E58 (by decide) (by decide)).trans ((mb_g2 E56 (by decide) (by decide)).trans (mb_g1 E54 (by decide)))) ?_
  refine mb_al (t := 104) (c := 6) rfl rfl (by decide) ?_
  refine mz_ic_ge (a := 1) (b := 6) (tgt := 64) rfl rfl ⟨by decide, by decide⟩ ⟨by decide, by decide⟩ (fun z => absurd z (by decide)) (fun _ => ?_)
  refine mm_g 1 (pc1 := 46) (lo1 := [some (.ref 27), some (.int (Int32.ofInt 1))]) (st1 := [.ref 27]) (H1 := (mb 31 mbR28 (mz_up gB 0 0 (-1)) so L 293)) rfl ?_
  refine mb_gf (v := 28) (kd := 4) rfl rfl rfl rfl (by decide) ((mb_g2 E58 (by decide) (by decide)).trans ((mb_g2 E56 (by decide) (by decide)).trans (mb_g1 E54 (by decide)))) ?_
  refine mm_g 1 (pc1 := 50) (lo1 := [some (.ref 27), some (.int (Int32.ofInt 1))]) (st1 := [.int (Int32.ofInt 1), .ref 28]) (H1 := (mb 31 mbR28 (mz_up gB 0 0 (-1)) so L 293)) rfl ?_
  refine mb_new (sl2 := 298) E59 rfl rfl (by decide) rfl rfl (fun j => ((mz_up_ne (fun h => absurd h.1 (by decide))).trans (hB 31 j (by decide)))) ?_
  have E60 := mb_E_up E59
  refine mm_g 1 (pc1 := 54) (lo1 := [some (.ref 27), some (.int (Int32.ofInt 1))]) (st1 := [.ref 31, .ref 31, .int (Int32.ofInt 1), .ref 28]) (H1 := (mb 32 mbR28 (mz_up gB 0 0 (-1)) so L 298)) rfl ?_
  refine mb_cl (b := 31) rfl rfl rfl (Nat.le_of_ble_eq_true rfl) (by omega) ?_
  refine ⟨mmX8_init, [some (.ref 31)], rfl, rfl, ?_⟩
  refine mm_g 1 (pc1 := 1) (lo1 := [some (.ref 31)]) (st1 := [.ref 31]) (H1 := (mb 32 mbR28 (mz_up gB 0 0 (-1)) so L 298)) rfl ?_
  refine mb_obj rfl rfl (Nat.le_of_ble_eq_true rfl) (by omega) ?_
  refine mm_g 2 (pc1 := 6) (lo1 := [some (.ref 31)]) (st1 := [.int (Int32.ofInt 0), .ref 31]) (H1 := (mb 32 mbR28 (mz_up gB 0 0 (-1)) so L 298)) rfl ?_
  refine mb_p0 rfl rfl rfl (Or.inl rfl) ((mz_up_ne (by decide)).trans (hB 31 0 (by decide))) ?_
  refine mm_g 2 (pc1 := 11) (lo1 := [some (.ref 31)]) (st1 := [.int (Int32.ofInt 0), .ref 31]) (H1 := (mb 32 mbR28 (mz_up gB 0 0 (-1)) so L 298)) rfl ?_
  refine mb_p0 rfl rfl rfl (Or.inl rfl) ((mz_up_ne (by decide)).trans (hB 31 1 (by decide))) ?_
  refine mm_g 2 (pc1 := 16) (lo1 := [some (.ref 31)]) (st1 := [.int (Int32.ofInt 0), .ref 31]) (H1 := (mb 32 mbR28 (mz_up gB 0 0 (-1)) so L 298)) rfl ?_
  refine mb_p0 rfl rfl rfl (Or.inl rfl) ((mz_up_ne (by decide)).trans (hB 31 2 (by decide))) ?_
  refine mm_g 2 (pc1 := 21) (lo1 := [some (.ref 31)]) (st1 := [.int (Int32.ofInt 0), .ref 31]) (H1 := (mb 32 mbR28 (mz_up gB 0 0 (-1)) so L 298)) rfl ?_
  refine mb_p0 rfl rfl rfl (Or.inl rfl) ((mz_up_ne (by decide)).trans (hB 31 3 (by decide))) ?_
  refine mm_g 2 (pc1 := 26) (lo1 := [some (.ref 31)]) (st1 := [.int (Int32.ofInt 0), .ref 31]) (H1 := (mb 32 mbR28 (mz_up gB 0 0 (-1)) so L 298)) rfl ?_
  refine mb_p0 rfl rfl rfl (Or.inr rfl) ((mz_up_ne (by decide)).trans (hB 31 4 (by decide))) ?_
  refine mm_rt rfl rfl ⟨none, rfl, ?_⟩
  show mm_W (((d - 1) - 1) - 1) mmX9_init 57 [some (.ref 27), some (.int (Int32.ofInt 1))] [.ref 31, .int (Int32.ofInt 1), .ref 28] (mb 32 mbR28 (mz_up gB 0 0 (-1)) so L 298) _
  refine mb_aa (len := 6) (c := 1) E60 rfl (by decide) (Or.inr (Or.inl ⟨rfl, rfl⟩)) rfl (by decide) (by decide) ?_
  have E61 : mb_E mbR29 32 := mb_E_set (k := 1) (v := 31) E60 (by decide : 28 < 32) (by decide)
  change mm_W _ _ _ _ _ (mb 32 mbR29 (mz_up gB 0 0 (-1)) so L 298) _
  refine mz_iincR (v := 1) (lo2 := [some (.ref 27), some (.int (Int32.ofInt 2))]) rfl rfl rfl (Nat.le_of_ble_eq_true rfl) rfl ?_
  refine mz_gt (tgt := 36) rfl rfl ?_
  refine mm_g 2 (pc1 := 38) (lo1 := [some (.ref 27), some (.int (Int32.ofInt 2))]) (st1 := [.ref 27, .int (Int32.ofInt 2)]) (H1 := (mb 32 mbR29 (mz_up gB 0 0 (-1)) so L 298)) rfl ?_
  refine mb_gf (v := 28) (kd := 4) rfl rfl rfl rfl (by decide) ((mb_g2 E60 (by decide) (by decide)).trans ((mb_g2 E58 (by decide) (by decide)).trans ((mb_g2 E56 (by decide) (by decide)).trans (mb_g1 E54 (by decide))))) ?_
  refine mb_al (t := 104) (c := 6) rfl rfl (by decide) ?_
  refine mz_ic_ge (a := 2) (b := 6) (tgt := 64) rfl rfl ⟨by decide, by decide⟩ ⟨by decide, by decide⟩ (fun z => absurd z (by decide)) (fun _ => ?_)
  refine mm_g 1 (pc1 := 46) (lo1 := [some (.ref 27), some (.int (Int32.ofInt 2))]) (st1 := [.ref 27]) (H1 := (mb 32 mbR29 (mz_up gB 0 0 (-1)) so L 298)) rfl ?_
  refine mb_gf (v := 28) (kd := 4) rfl rfl rfl rfl (by decide) ((mb_g2 E60 (by decide) (by decide)).trans ((mb_g2 E58 (by decide) (by decide)).trans ((mb_g2 E56 (by decide) (by decide)).trans (mb_g1 E54 (by decide))))) ?_
  refine mm_g 1 (pc1 := 50) (lo1 := [some (.ref 27), some (.int (Int32.ofInt 2))]) (st1 := [.int (Int32.ofInt 2), .ref 28]) (H1 := (mb 32 mbR29 (mz_up gB 0 0 (-1)) so L 298)) rfl ?_
  refine mb_new (sl2 := 303) E61 rfl rfl (by decide) rfl rfl (fun j => ((mz_up_ne (fun h => absurd h.1 (by decide))).trans (hB 32 j (by decide)))) ?_
  have E62 := mb_E_up E61
  refine mm_g 1 (pc1 := 54) (lo1 := [some (.ref 27), some (.int (Int32.ofInt 2))]) (st1 := [.ref 32, .ref 32, .int (Int32.ofInt 2), .ref 28]) (H1 := (mb 33 mbR29 (mz_up gB 0 0 (-1)) so L 303)) rfl ?_
  refine mb_cl (b := 32) rfl rfl rfl (Nat.le_of_ble_eq_true rfl) (by omega) ?_
  refine ⟨mmX8_init, [some (.ref 32)], rfl, rfl, ?_⟩
  refine mm_g 1 (pc1 := 1) (lo1 := [some (.ref 32)]) (st1 := [.ref 32]) (H1 := (mb 33 mbR29 (mz_up gB 0 0 (-1)) so L 303)) rfl ?_
  refine mb_obj rfl rfl (Nat.le_of_ble_eq_true rfl) (by omega) ?_
  refine mm_g 2 (pc1 := 6) (lo1 := [some (.ref 32)]) (st1 := [.int (Int32.ofInt 0), .ref 32]) (H1 := (mb 33 mbR29 (mz_up gB 0 0 (-1)) so L 303)) rfl ?_
  refine mb_p0 rfl rfl rfl (Or.inl rfl) ((mz_up_ne (by decide)).trans (hB 32 0 (by decide))) ?_
  refine mm_g 2 (pc1 := 11) (lo1 := [some (.ref 32)]) (st1 := [.int (Int32.ofInt 0), .ref 32]) (H1 := (mb 33 mbR29 (mz_up gB 0 0 (-1)) so L 303)) rfl ?_
  refine mb_p0 rfl rfl rfl (Or.inl rfl) ((mz_up_ne (by decide)).trans (hB 32 1 (by decide))) ?_
  refine mm_g 2 (pc1 := 16) (lo1 := [some (.ref 32)]) (st1 := [.int (Int32.ofInt 0), .ref 32]) (H1 := (mb 33 mbR29 (mz_up gB 0 0 (-1)) so L 303)) rfl ?_
  refine mb_p0 rfl rfl rfl (Or.inl rfl) ((mz_up_ne (by decide)).trans (hB 32 2 (by decide))) ?_
  refine mm_g 2 (pc1 := 21) (lo1 := [some (.ref 32)]) (st1 := [.int (Int32.ofInt 0), .ref 32]) (H1 := (mb 33 mbR29 (mz_up gB 0 0 (-1)) so L 303)) rfl ?_
  refine mb_p0 rfl rfl rfl (Or.inl rfl) ((mz_up_ne (by decide)).trans (hB 32 3 (by decide))) ?_
  refine mm_g 2 (pc1 := 26) (lo1 := [some (.ref 32)]) (st1 := [.int (Int32.ofInt 0), .ref 32]) (H1 := (mb 33 mbR29 (mz_up gB 0 0 (-1)) so L 303)) rfl ?_
  refine mb_p0 rfl rfl rfl (Or.inr rfl) ((mz_up_ne (by decide)).trans (hB 32 4 (by decide))) ?_
  refine mm_rt rfl rfl ⟨none, rfl, ?_⟩
  show mm_W (((d - 1) - 1) - 1) mmX9_init 57 [some (.ref 27), some (.int (Int32.ofInt 2))] [.ref 32, .int (Int32.ofInt 2), .ref 28] (mb 33 mbR29 (mz_up gB 0 0 (-1)) so L 303) _
  refine mb_aa (len := 6) (c := 2) E62 rfl (by decide) (Or.inr (Or.inl ⟨rfl, rfl⟩)) rfl (by decide) (by decide) ?_
  have E63 : mb_E mbR30 33 := mb_E_set (k := 2) (v := 32) E62 (by decide : 28 < 33) (by decide)
  change mm_W _ _ _ _ _ (mb 33 mbR30 (mz_up gB 0 0 (-1)) so L 303) _
  refine mz_iincR (v := 2) (lo2 := [some (.ref 27), some (.int (Int32.ofInt 3))]) rfl rfl rfl (Nat.le_of_ble_eq_true rfl) rfl ?_
  refine mz_gt (tgt := 36) rfl rfl ?_
  refine mm_g 2 (pc1 := 38) (lo1 := [some (.ref 27), some (.int (Int32.ofInt 3))]) (st1 := [.ref 27, .int (Int32.ofInt 3)]) (H1 := (mb 33 mbR30 (mz_up gB 0 0 (-1)) so L 303)) rfl ?_
  refine mb_gf (v := 28) (kd := 4) rfl rfl rfl rfl (by decide) ((mb_g2 E62 (by decide) (by decide)).trans ((mb_g2 E60 (by decide) (by decide)).trans ((mb_g2 E58 (by decide) (by decide)).trans ((mb_g2 E56 (by decide) (by decide)).trans (mb_g1 E54 (by decide)))))) ?_
  refine mb_al (t := 104) (c := 6) rfl rfl (by decide) ?_
  refine mz_ic_ge (a := 3) (b := 6) (tgt := 64) rfl rfl ⟨by decide, by decide⟩ ⟨by decide, by decide⟩ (fun z => absurd z (by decide)) (fun _ => ?_)
  refine mm_g 1 (pc1 := 46) (lo1 := [some (.ref 27), some (.int (Int32.ofInt 3))]) (st1 := [.ref 27]) (H1 := (mb 33 mbR30 (mz_up gB 0 0 (-1)) so L 303)) rfl ?_
  refine mb_gf (v := 28) (kd := 4) rfl rfl rfl rfl (by decide) ((mb_g2 E62 (by decide) (by decide)).trans ((mb_g2 E60 (by decide) (by decide)).trans ((mb_g2 E58 (by decide) (by decide)).trans ((mb_g2 E56 (by decide) (by decide)).trans (mb_g1 E54 (by decide)))))) ?_
  refine mm_g 1 (pc1 := 50) (lo1 := [some (.ref 27), some (.int (Int32.ofInt 3))]) (st1 := [.int (Int32.ofInt 3), .ref 28]) (H1 := (mb 33 mbR30 (mz_up gB 0 0 (-1)) so L 303)) rfl ?_
  refine mb_new (sl2 := 308) E63 rfl rfl (by decide) rfl rfl (fun j => ((mz_up_ne (fun h => absurd h.1 (by decide))).trans (hB 33 j (by decide)))) ?_
  have E64 := mb_E_up E63
  refine mm_g 1 (pc1 := 54) (lo1 := [some (.ref 27), some (.int (Int32.ofInt 3))]) (st1 := [.ref 33, .ref 33, .int (Int32.ofInt 3), .ref 28]) (H1 := (mb 34 mbR30 (mz_up gB 0 0 (-1)) so L 308)) rfl ?_
  refine mb_cl (b := 33) rfl rfl rfl (Nat.le_of_ble_eq_true rfl) (by omega) ?_
  refine ⟨mmX8_init, [some (.ref 33)], rfl, rfl, ?_⟩
  refine mm_g 1 (pc1 := 1) (lo1 := [some (.ref 33)]) (st1 := [.ref 33]) (H1 := (mb 34 mbR30 (mz_up gB 0 0 (-1)) so L 308)) rfl ?_
  refine mb_obj rfl rfl (Nat.le_of_ble_eq_true rfl) (by omega) ?_
  refine mm_g 2 (pc1 := 6) (lo1 := [some (.ref 33)]) (st1 := [.int (Int32.ofInt 0), .ref 33]) (H1 := (mb 34 mbR30 (mz_up gB 0 0 (-1)) so L 308)) rfl ?_
  refine mb_p0 rfl rfl rfl (Or.inl rfl) ((mz_up_ne (by decide)).trans (hB 33 0 (by decide))) ?_
  refine mm_g 2 (pc1 := 11) (lo1 := [some (.ref 33)]) (st1 := [.int (Int32.ofInt 0), .ref 33]) (H1 := (mb 34 mbR30 (mz_up gB 0 0 (-1)) so L 308)) rfl ?_
  refine mb_p0 rfl rfl rfl (Or.inl rfl) ((mz_up_ne (by decide)).trans (hB 33 1 (by decide))) ?_
  refine mm_g 2 (pc1 := 16) (lo1 := [some (.ref 33)]) (st1 := [.int (Int32.ofInt 0), .ref 33]) (H1 := (mb 34 mbR30 (mz_up gB 0 0 (-1)) so L 308)) rfl ?_
  refine mb_p0 rfl rfl rfl (Or.inl rfl) ((mz_up_ne (by decide)).trans (hB 33 2 (by decide))) ?_
  refine mm_g 2 (pc1 := 21) (lo1 := [some (.ref 33)]) (st1 := [.int (Int32.ofInt 0), .ref 33]) (H1 := (mb 34 mbR30 (mz_up gB 0 0 (-1)) so L 308)) rfl ?_
  refine mb_p0 rfl rfl rfl (Or.inl rfl) ((mz_up_ne (by decide)).trans (hB 33 3 (by decide))) ?_
  refine mm_g 2 (pc1 := 26) (lo1 := [some (.ref 33)]) (st1 := [.int (Int32.ofInt 0), .ref 33]) (H1 := (mb 34 mbR30 (mz_up gB 0 0 (-1)) so L 308)) rfl ?_
  refine mb_p0 rfl rfl rfl (Or.inr rfl) ((mz_up_ne (by decide)).trans (hB 33 4 (by decide))) ?_
  refine mm_rt rfl rfl ⟨none, rfl, ?_⟩
  show mm_W (((d - 1) - 1) - 1) mmX9_init 57 [some (.ref 27), some (.int (Int32.ofInt 3))] [.ref 33, .int (Int32.ofInt 3), .ref 28] (mb 34 mbR30 (mz_up gB 0 0 (-1)) so L 308) _
  refine mb_aa (len := 6) (c := 3) E64 rfl (by decide) (Or.inr (Or.inl ⟨rfl, rfl⟩)) rfl (by decide) (by decide) ?_
  have E65 : mb_E mbR31 34 := mb_E_set (k := 3) (v := 33) E64 (by decide : 28 < 34) (by decide)
  change mm_W _ _ _ _ _ (mb 34 mbR31 (mz_up gB 0 0 (-1)) so L 308) _
  refine mz_iincR (v := 3) (lo2 := [some (.ref 27), some (.int (Int32.ofInt 4))]) rfl rfl rfl (Nat.le_of_ble_eq_true rfl) rfl ?_
  refine mz_gt (tgt := 36) rfl rfl ?_
  refine mm_g 2 (pc1 := 38) (lo1 := [some (.ref 27), some (.int (Int32.ofInt 4))]) (st1 := [.ref 27, .int (Int32.ofInt 4)]) (H1 := (mb 34 mbR31 (mz_up gB 0 0 (-1)) so L 308)) rfl ?_
  refine mb_gf (v := 28) (kd := 4) rfl rfl rfl rfl (by decide) ((mb_g2 E64 (by decide) (by decide)).trans ((mb_g2 E62 (by decide) (by decide)).trans ((mb_g2 E60 (by decide) (by decide)).trans ((mb_g2 E58 (by decide) (by decide)).trans ((mb_g2 E56 (by decide) (by decide)).trans (mb_g1 E54 (by decide))))))) ?_
  refine mb_al (t := 104) (c := 6) rfl rfl (by decide) ?_
  refine mz_ic_ge (a := 4) (b := 6) (tgt := 64) rfl rfl ⟨by decide, by decide⟩ ⟨by decide, by decide⟩ (fun z => absurd z (by decide)) (fun _ => ?_)
  refine mm_g 1 (pc1 := 46) (lo1 := [some (.ref 27), some (.int (Int32.ofInt 4))]) (st1 := [.ref 27]) (H1 := (mb 34 mbR31 (mz_up gB 0 0 (-1)) so L 308)) rfl ?_
  refine mb_gf (v := 28) (kd := 4) rfl rfl rfl rfl (by decide) ((mb_g2 E64 (by decide) (by decide)).trans ((mb_g2 E62 (by decide) (by decide)).trans ((mb_g2 E60 (by decide) (by decide)).trans ((mb_g2 E58 (by decide) (by decide)).trans ((mb_g2 E56 (by decide) (by decide)).trans (mb_g1 E54 (by decide))))))) ?_
  refine mm_g 1 (pc1 := 50) (lo1 := [some (.ref 27), some (.int (Int32.ofInt 4))]) (st1 := [.int (Int32.ofInt 4), .ref 28]) (H1 := (mb 34 mbR31 (mz_up gB 0 0 (-1)) so L 308)) rfl ?_
  refine mb_new (sl2 := 313) E65 rfl rfl (by decide) rfl rfl (fun j => ((mz_up_ne (fun h => absurd h.1 (by decide))).trans (hB 34 j (by decide)))) ?_
  have E66 := mb_E_up E65
  refine mm_g 1 (pc1 := 54) (lo1 := [some (.ref 27), some (.int (Int32.ofInt 4))]) (st1 := [.ref 34, .ref 34, .int (Int32.ofInt 4), .ref 28]) (H1 := (mb 35 mbR31 (mz_up gB 0 0 (-1)) so L 313)) rfl ?_
  refine mb_cl (b := 34) rfl rfl rfl (Nat.le_of_ble_eq_true rfl) (by omega) ?_
  refine ⟨mmX8_init, [some (.ref 34)], rfl, rfl, ?_⟩
  refine mm_g 1 (pc1 := 1) (lo1 := [some (.ref 34)]) (st1 := [.ref 34]) (H1 := (mb 35 mbR31 (mz_up gB 0 0 (-1)) so L 313)) rfl ?_
  refine mb_obj rfl rfl (Nat.le_of_ble_eq_true rfl) (by omega) ?_
  refine mm_g 2 (pc1 := 6) (lo1 := [some (.ref 34)]) (st1 := [.int (Int32.ofInt 0), .ref 34]) (H1 := (mb 35 mbR31 (mz_up gB 0 0 (-1)) so L 313)) rfl ?_
  refine mb_p0 rfl rfl rfl (Or.inl rfl) ((mz_up_ne (by decide)).trans (hB 34 0 (by decide))) ?_
  refine mm_g 2 (pc1 := 11) (lo1 := [some (.ref 34)]) (st1 := [.int (Int32.ofInt 0), .ref 34]) (H1 := (mb 35 mbR31 (mz_up gB 0 0 (-1)) so L 313)) rfl ?_
  refine mb_p0 rfl rfl rfl (Or.inl rfl) ((mz_up_ne (by decide)).trans (hB 34 1 (by decide))) ?_
  refine mm_g 2 (pc1 := 16) (lo1 := [some (.ref 34)]) (st1 := [.int (Int32.ofInt 0), .ref 34]) (H1 := (mb 35 mbR31 (mz_up gB 0 0 (-1)) so L 313)) rfl ?_
  refine mb_p0 rfl rfl rfl (Or.inl rfl) ((mz_up_ne (by decide)).trans (hB 34 2 (by decide))) ?_
  refine mm_g 2 (pc1 := 21) (lo1 := [some (.ref 34)]) (st1 := [.int (Int32.ofInt 0), .ref 34]) (H1 := (mb 35 mbR31 (mz_up gB 0 0 (-1)) so L 313)) rfl ?_
  refine mb_p0 rfl rfl rfl (Or.inl rfl) ((mz_up_ne (by decide)).trans (hB 34 3 (by decide))) ?_
  refine mm_g 2 (pc1 := 26) (lo1 := [some (.ref 34)]) (st1 := [.int (Int32.ofInt 0), .ref 34]) (H1 := (mb 35 mbR31 (mz_up gB 0 0 (-1)) so L 313)) rfl ?_
  refine mb_p0 rfl rfl rfl (Or.inr rfl) ((mz_up_ne (by decide)).trans (hB 34 4 (by decide))) ?_
  refine mm_rt rfl rfl ⟨none, rfl, ?_⟩
  show mm_W (((d - 1) - 1) - 1) mmX9_init 57 [some (.ref 27), some (.int (Int32.ofInt 4))] [.ref 34, .int (Int32.ofInt 4), .ref 28] (mb 35 mbR31 (mz_up gB 0 0 (-1)) so L 313) _
  refine mb_aa (len := 6) (c := 4) E66 rfl (by decide) (Or.inr (Or.inl ⟨rfl, rfl⟩)) rfl (by decide) (by decide) ?_
  have E67 : mb_E mbR32 35 := mb_E_set (k := 4) (v := 34) E66 (by decide : 28 < 35) (by decide)
  change mm_W _ _ _ _ _ (mb 35 mbR32 (mz_up gB 0 0 (-1)) so L 313) _
  refine mz_iincR (v := 4) (lo2 := [some (.ref 27), some (.int (Int32.ofInt 5))]) rfl rfl rfl (Nat.le_of_ble_eq_true rfl) rfl ?_
  refine mz_gt (tgt := 36) rfl rfl ?_
  refine mm_g 2 (pc1 := 38) (lo1 := [some (.ref 27), some (.int (Int32.ofInt 5))]) (st1 := [.ref 27, .int (Int32.ofInt 5)]) (H1 := (mb 35 mbR32 (mz_up gB 0 0 (-1)) so L 313)) rfl ?_
  refine mb_gf (v := 28) (kd := 4) rfl rfl rfl rfl (by decide) ((mb_g2 E66 (by decide) (by decide)).trans ((mb_g2 E64 (by decide) (by decide)).trans ((mb_g2 E62 (by decide) (by decide)).trans ((mb_g2 E60 (by decide) (by decide)).trans ((mb_g2 E58 (by decide) (by decide)).trans ((mb_g2 E56 (by decide) (by decide)).trans (mb_g1 E54 (by decide)))))))) ?_
  refine mb_al (t := 104) (c := 6) rfl rfl (by decide) ?_
  refine mz_ic_ge (a := 5) (b := 6) (tgt := 64) rfl rfl ⟨by decide, by decide⟩ ⟨by decide, by decide⟩ (fun z => absurd z (by decide)) (fun _ => ?_)
  refine mm_g 1 (pc1 := 46) (lo1 := [some (.ref 27), some (.int (Int32.ofInt 5))]) (st1 := [.ref 27]) (H1 := (mb 35 mbR32 (mz_up gB 0 0 (-1)) so L 313)) rfl ?_
  refine mb_gf (v := 28) (kd := 4) rfl rfl rfl rfl (by decide) ((mb_g2 E66 (by decide) (by decide)).trans ((mb_g2 E64 (by decide) (by decide)).trans ((mb_g2 E62 (by decide) (by decide)).trans ((mb_g2 E60 (by decide) (by decide)).trans ((mb_g2 E58 (by decide) (by decide)).trans ((mb_g2 E56 (by decide) (by decide)).trans (mb_g1 E54 (by decide)))))))) ?_
  refine mm_g 1 (pc1 := 50) (lo1 := [some (.ref 27), some (.int (Int32.ofInt 5))]) (st1 := [.int (Int32.ofInt 5), .ref 28]) (H1 := (mb 35 mbR32 (mz_up gB 0 0 (-1)) so L 313)) rfl ?_
  refine mb_new (sl2 := 318) E67 rfl rfl (by decide) rfl rfl (fun j => ((mz_up_ne (fun h => absurd h.1 (by decide))).trans (hB 35 j (by decide)))) ?_
  have E68 := mb_E_up E67
  refine mm_g 1 (pc1 := 54) (lo1 := [some (.ref 27), some (.int (Int32.ofInt 5))]) (st1 := [.ref 35, .ref 35, .int (Int32.ofInt 5), .ref 28]) (H1 := (mb 36 mbR32 (mz_up gB 0 0 (-1)) so L 318)) rfl ?_
  refine mb_cl (b := 35) rfl rfl rfl (Nat.le_of_ble_eq_true rfl) (by omega) ?_
  refine ⟨mmX8_init, [some (.ref 35)], rfl, rfl, ?_⟩
  refine mm_g 1 (pc1 := 1) (lo1 := [some (.ref 35)]) (st1 := [.ref 35]) (H1 := (mb 36 mbR32 (mz_up gB 0 0 (-1)) so L 318)) rfl ?_
  refine mb_obj rfl rfl (Nat.le_of_ble_eq_true rfl) (by omega) ?_
  refine mm_g 2 (pc1 := 6) (lo1 := [some (.ref 35)]) (st1 := [.int (Int32.ofInt 0), .ref 35]) (H1 := (mb 36 mbR32 (mz_up gB 0 0 (-1)) so L 318)) rfl ?_
  refine mb_p0 rfl rfl rfl (Or.inl rfl) ((mz_up_ne (by decide)).trans (hB 35 0 (by decide))) ?_
  refine mm_g 2 (pc1 := 11) (lo1 := [some (.ref 35)]) (st1 := [.int (Int32.ofInt 0), .ref 35]) (H1 := (mb 36 mbR32 (mz_up gB 0 0 (-1)) so L 318)) rfl ?_
  refine mb_p0 rfl rfl rfl (Or.inl rfl) ((mz_up_ne (by decide)).trans (hB 35 1 (by decide))) ?_
  refine mm_g 2 (pc1 := 16) (lo1 := [some (.ref 35)]) (st1 := [.int (Int32.ofInt 0), .ref 35]) (H1 := (mb 36 mbR32 (mz_up gB 0 0 (-1)) so L 318)) rfl ?_
  refine mb_p0 rfl rfl rfl (Or.inl rfl) ((mz_up_ne (by decide)).trans (hB 35 2 (by decide))) ?_
  refine mm_g 2 (pc1 := 21) (lo1 := [some (.ref 35)]) (st1 := [.int (Int32.ofInt 0), .ref 35]) (H1 := (mb 36 mbR32 (mz_up gB 0 0 (-1)) so L 318)) rfl ?_
  refine mb_p0 rfl rfl rfl (Or.inl rfl) ((mz_up_ne (by decide)).trans (hB 35 3 (by decide))) ?_
  refine mm_g 2 (pc1 := 26) (lo1 := [some (.ref 35)]) (st1 := [.int (Int32.ofInt 0), .ref 35]) (H1 := (mb 36 mbR32 (mz_up gB 0 0 (-1)) so L 318)) rfl ?_
  refine mb_p0 rfl rfl rfl (Or.inr rfl) ((mz_up_ne (by decide)).trans (hB 35 4 (by decide))) ?_
  refine mm_rt rfl rfl ⟨none, rfl, ?_⟩
  show mm_W (((d - 1) - 1) - 1) mmX9_init 57 [some (.ref 27), some (.int (Int32.ofInt 5))] [.ref 35, .int (Int32.ofInt 5), .ref 28] (mb 36 mbR32 (mz_up gB 0 0 (-1)) so L 318) _
  refine mb_aa (len := 6) (c := 5) E68 rfl (by decide) (Or.inr (Or.inl ⟨rfl, rfl⟩)) rfl (by decide) (by decide) ?_
  have E69 : mb_E mbR33 36 := mb_E_set (k := 5) (v := 35) E68 (by decide : 28 < 36) (by decide)
  change mm_W _ _ _ _ _ (mb 36 mbR33 (mz_up gB 0 0 (-1)) so L 318) _
  refine mz_iincR (v := 5) (lo2 := [some (.ref 27), some (.int (Int32.ofInt 6))]) rfl rfl rfl (Nat.le_of_ble_eq_true rfl) rfl ?_
  refine mz_gt (tgt := 36) rfl rfl ?_
  refine mm_g 2 (pc1 := 38) (lo1 := [some (.ref 27), some (.int (Int32.ofInt 6))]) (st1 := [.ref 27, .int (Int32.ofInt 6)]) (H1 := (mb 36 mbR33 (mz_up gB 0 0 (-1)) so L 318)) rfl ?_
  refine mb_gf (v := 28) (kd := 4) rfl rfl rfl rfl (by decide) ((mb_g2 E68 (by decide) (by decide)).trans ((mb_g2 E66 (by decide) (by decide)).trans ((mb_g2 E64 (by decide) (by decide)).trans ((mb_g2 E62 (by decide) (by decide)).trans ((mb_g2 E60 (by decide) (by decide)).trans ((mb_g2 E58 (by decide) (by decide)).trans ((mb_g2 E56 (by decide) (by decide)).trans (mb_g1 E54 (by decide))))))))) ?_
  refine mb_al (t := 104) (c := 6) rfl rfl (by decide) ?_
  refine mz_ic_ge (a := 6) (b := 6) (tgt := 64) rfl rfl ⟨by decide, by decide⟩ ⟨by decide, by decide⟩ (fun _ => ?_) (fun z => absurd z (by decide))
  refine mm_rt rfl rfl ⟨none, rfl, ?_⟩
  show mm_W ((d - 1) - 1) mmX1_init 23 [some (.ref 1)] [.ref 27, .ref 1] (mb 36 mbR33 (mz_up gB 0 0 (-1)) so L 318) _
  refine mb_pR E69 rfl rfl (by decide) rfl (Or.inr ⟨rfl, rfl, rfl⟩) ?_
  have E70 : mb_E mbR34 36 := mb_E_set (k := 1) (v := 27) E69 (by decide : 1 < 36) (by decide)
  change mm_W _ _ _ _ _ (mb 36 mbR34 (mz_up gB 0 0 (-1)) so L 318) _
  refine mm_g 1 (pc1 := 27) (lo1 := [some (.ref 1)]) (st1 := [.ref 1]) (H1 := (mb 36 mbR34 (mz_up gB 0 0 (-1)) so L 318)) rfl ?_
  refine mz_bip (c := 8) rfl (by decide) ?_
  refine mb_nai (sl2 := 326) (c := 8) E70 rfl (by decide) (by decide) (by decide) rfl rfl (fun j => ((mz_up_ne (fun h => absurd h.1 (by decide))).trans (hB 36 j (by decide)))) ?_
  have E71 := mb_E_up E70
  refine mb_pR E71 rfl rfl (by decide) rfl (Or.inr ⟨rfl, rfl, rfl⟩) ?_
  have E72 : mb_E mbR35 37 := mb_E_set (k := 2) (v := 36) E71 (by decide : 1 < 37) (by decide)
  change mm_W _ _ _ _ _ (mb 37 mbR35 (mz_up gB 0 0 (-1)) so L 326) _
  refine mm_g 2 (pc1 := 36) (lo1 := [some (.ref 1)]) (st1 := [.int (Int32.ofInt 0), .ref 1]) (H1 := (mb 37 mbR35 (mz_up gB 0 0 (-1)) so L 326)) rfl ?_
  refine mb_p0 rfl rfl rfl (Or.inl rfl) ((mz_up_ne (by decide)).trans (hB 1 3 (by decide))) ?_
  refine mm_g 1 (pc1 := 40) (lo1 := [some (.ref 1)]) (st1 := [.ref 1]) (H1 := (mb 37 mbR35 (mz_up gB 0 0 (-1)) so L 326)) rfl ?_
  refine mb_new (sl2 := 330) E72 rfl rfl (by decide) rfl rfl (fun j => ((mz_up_ne (fun h => absurd h.1 (by decide))).trans (hB 37 j (by decide)))) ?_
  have E73 := mb_E_up E72
  refine mm_g 1 (pc1 := 44) (lo1 := [some (.ref 1)]) (st1 := [.ref 37, .ref 37, .ref 1]) (H1 := (mb 38 mbR35 (mz_up gB 0 0 (-1)) so L 330)) rfl ?_
  refine mb_cl (b := 37) rfl rfl rfl (Nat.le_of_ble_eq_true rfl) (by omega) ?_
  refine ⟨mmX5_init, [some (.ref 37)], rfl, rfl, ?_⟩
  refine mm_g 1 (pc1 := 1) (lo1 := [some (.ref 37)]) (st1 := [.ref 37]) (H1 := (mb 38 mbR35 (mz_up gB 0 0 (-1)) so L 330)) rfl ?_
  refine mb_obj rfl rfl (Nat.le_of_ble_eq_true rfl) (by omega) ?_
  refine mm_g 1 (pc1 := 5) (lo1 := [some (.ref 37)]) (st1 := [.ref 37]) (H1 := (mb 38 mbR35 (mz_up gB 0 0 (-1)) so L 330)) rfl ?_
  refine mz_sip (c := 700) rfl (by decide) ?_
  refine mb_nai (sl2 := 1030) (c := 700) E73 rfl (by decide) (by decide) (by decide) rfl rfl (fun j => ((mz_up_ne (fun h => absurd h.1 (by decide))).trans (hB 38 j (by decide)))) ?_
  have E74 := mb_E_up E73
  refine mb_pR E74 rfl rfl (by decide) rfl (Or.inr ⟨rfl, rfl, rfl⟩) ?_
  have E75 : mb_E mbR36 39 := mb_E_set (k := 0) (v := 38) E74 (by decide : 37 < 39) (by decide)
  change mm_W _ _ _ _ _ (mb 39 mbR36 (mz_up gB 0 0 (-1)) so L 1030) _
  refine mm_g 2 (pc1 := 15) (lo1 := [some (.ref 37)]) (st1 := [.int (Int32.ofInt 0), .ref 37]) (H1 := (mb 39 mbR36 (mz_up gB 0 0 (-1)) so L 1030)) rfl ?_
  refine mb_p0 rfl rfl rfl (Or.inl rfl) ((mz_up_ne (by decide)).trans (hB 37 1 (by decide))) ?_
  refine mm_g 1 (pc1 := 19) (lo1 := [some (.ref 37)]) (st1 := [.ref 37]) (H1 := (mb 39 mbR36 (mz_up gB 0 0 (-1)) so L 1030)) rfl ?_
  refine mz_bip (c := 7) rfl (by decide) ?_
  refine mb_nai (sl2 := 1037) (c := 7) E75 rfl (by decide) (by decide) (by decide) rfl rfl (fun j => ((mz_up_ne (fun h => absurd h.1 (by decide))).trans (hB 39 j (by decide)))) ?_
  have E76 := mb_E_up E75
  refine mb_pR E76 rfl rfl (by decide) rfl (Or.inr ⟨rfl, rfl, rfl⟩) ?_
  have E77 : mb_E mbR37 40 := mb_E_set (k := 2) (v := 39) E76 (by decide : 37 < 40) (by decide)
  change mm_W _ _ _ _ _ (mb 40 mbR37 (mz_up gB 0 0 (-1)) so L 1037) _
  refine mm_g 1 (pc1 := 27) (lo1 := [some (.ref 37)]) (st1 := [.ref 37]) (H1 := (mb 40 mbR37 (mz_up gB 0 0 (-1)) so L 1037)) rfl ?_
  refine mz_bip (c := 40) rfl (by decide) ?_
  refine mb_nai (sl2 := 1077) (c := 40) E77 rfl (by decide) (by decide) (by decide) rfl rfl (fun j => ((mz_up_ne (fun h => absurd h.1 (by decide))).trans (hB 40 j (by decide)))) ?_
  have E78 := mb_E_up E77
  refine mb_pR E78 rfl rfl (by decide) rfl (Or.inr ⟨rfl, rfl, rfl⟩) ?_
  have E79 : mb_E mbR38 41 := mb_E_set (k := 3) (v := 40) E78 (by decide : 37 < 41) (by decide)
  change mm_W _ _ _ _ _ (mb 41 mbR38 (mz_up gB 0 0 (-1)) so L 1077) _
  refine mm_rt rfl rfl ⟨none, rfl, ?_⟩
  show mm_W ((d - 1) - 1) mmX1_init 47 [some (.ref 1)] [.ref 37, .ref 1] (mb 41 mbR38 (mz_up gB 0 0 (-1)) so L 1077) _
  refine mb_pR E79 rfl rfl (by decide) rfl (Or.inr ⟨rfl, rfl, rfl⟩) ?_
  have E80 : mb_E mbR39 41 := mb_E_set (k := 4) (v := 37) E79 (by decide : 1 < 41) (by decide)
  change mm_W _ _ _ _ _ (mb 41 mbR39 (mz_up gB 0 0 (-1)) so L 1077) _
  refine mm_rt rfl rfl ⟨none, rfl, ?_⟩
  show mm_W (d - 1) mmX11_init 17 [some (.ref 0)] [.ref 1, .ref 0] (mb 41 mbR39 (mz_up gB 0 0 (-1)) so L 1077) _
  refine mb_pR E80 rfl rfl (by decide) rfl (Or.inl rfl) ?_
  have E81 : mb_E mbR40 41 := mb_E_set (k := 1) (v := 1) E80 (by decide : 0 < 41) (by decide)
  change mm_W _ _ _ _ _ (mb 41 mbR40 (mz_up gB 0 0 (-1)) so L 1077) _
  refine mm_g 1 (pc1 := 21) (lo1 := [some (.ref 0)]) (st1 := [.ref 0]) (H1 := (mb 41 mbR40 (mz_up gB 0 0 (-1)) so L 1077)) rfl ?_
  refine mb_new (sl2 := 1082) E81 rfl rfl (by decide) rfl rfl (fun j => ((mz_up_ne (fun h => absurd h.1 (by decide))).trans (hB 41 j (by decide)))) ?_
  have E82 := mb_E_up E81
  refine mm_g 1 (pc1 := 25) (lo1 := [some (.ref 0)]) (st1 := [.ref 41, .ref 41, .ref 0]) (H1 := (mb 42 mbR40 (mz_up gB 0 0 (-1)) so L 1082)) rfl ?_
  refine mb_cl (b := 41) rfl rfl rfl (Nat.le_of_ble_eq_true rfl) (by omega) ?_
  refine ⟨mmX1_init, [some (.ref 41)], rfl, rfl, ?_⟩
  refine mm_g 1 (pc1 := 1) (lo1 := [some (.ref 41)]) (st1 := [.ref 41]) (H1 := (mb 42 mbR40 (mz_up gB 0 0 (-1)) so L 1082)) rfl ?_
  refine mb_obj rfl rfl (Nat.le_of_ble_eq_true rfl) (by omega) ?_
  refine mm_g 1 (pc1 := 5) (lo1 := [some (.ref 41)]) (st1 := [.ref 41]) (H1 := (mb 42 mbR40 (mz_up gB 0 0 (-1)) so L 1082)) rfl ?_
  refine mb_new (sl2 := 1092) E82 rfl rfl (by decide) rfl rfl (fun j => ((mz_up_ne (fun h => absurd h.1 (by decide))).trans (hB 42 j (by decide)))) ?_
  have E83 := mb_E_up E82
  refine mm_g 1 (pc1 := 9) (lo1 := [some (.ref 41)]) (st1 := [.ref 42, .ref 42, .ref 41]) (H1 := (mb 43 mbR40 (mz_up gB 0 0 (-1)) so L 1092)) rfl ?_
  refine mb_cl (b := 42) rfl rfl rfl (Nat.le_of_ble_eq_true rfl) (by omega) ?_
  refine ⟨mmX10_init, [some (.ref 42), none], rfl, rfl, ?_⟩
  refine mm_g 1 (pc1 := 1) (lo1 := [some (.ref 42), none]) (st1 := [.ref 42]) (H1 := (mb 43 mbR40 (mz_up gB 0 0 (-1)) so L 1092)) rfl ?_
  refine mb_obj rfl rfl (Nat.le_of_ble_eq_true rfl) (by omega) ?_
  refine mm_g 1 (pc1 := 5) (lo1 := [some (.ref 42), none]) (st1 := [.ref 42]) (H1 := (mb 43 mbR40 (mz_up gB 0 0 (-1)) so L 1092)) rfl ?_
  refine mz_bip (c := 8) rfl (by decide) ?_
  refine mb_ana (sl2 := 1100) (c := 8) E83 rfl rfl (by decide) (by decide) (by decide) rfl rfl (fun j => ((mz_up_ne (fun h => absurd h.1 (by decide))).trans (hB 43 j (by decide)))) ?_
  have E84 := mb_E_up E83
  refine mb_pR E84 rfl rfl (by decide) rfl (Or.inr ⟨rfl, rfl, rfl⟩) ?_
  have E85 : mb_E mbR41 44 := mb_E_set (k := 0) (v := 43) E84 (by decide : 42 < 44) (by decide)
  change mm_W _ _ _ _ _ (mb 44 mbR41 (mz_up gB 0 0 (-1)) so L 1100) _
  refine mm_g 1 (pc1 := 14) (lo1 := [some (.ref 42), none]) (st1 := [.ref 42]) (H1 := (mb 44 mbR41 (mz_up gB 0 0 (-1)) so L 1100)) rfl ?_
  refine mb_new (sl2 := 1102) E85 rfl rfl (by decide) rfl rfl (fun j => ((mz_up_ne (fun h => absurd h.1 (by decide))).trans (hB 44 j (by decide)))) ?_
  have E86 := mb_E_up E85
  refine mm_g 2 (pc1 := 19) (lo1 := [some (.ref 42), none]) (st1 := [.int (Int32.ofInt 0), .ref 44, .ref 44, .ref 42]) (H1 := (mb 45 mbR41 (mz_up gB 0 0 (-1)) so L 1102)) rfl ?_
  refine mb_cl (b := 44) rfl rfl rfl (Nat.le_of_ble_eq_true rfl) (by omega) ?_
  refine ⟨mmX0_init, [some (.ref 44), some (.int (Int32.ofInt 0))], rfl, rfl, ?_⟩
  refine mm_g 1 (pc1 := 1) (lo1 := [some (.ref 44), some (.int (Int32.ofInt 0))]) (st1 := [.ref 44]) (H1 := (mb 45 mbR41 (mz_up gB 0 0 (-1)) so L 1102)) rfl ?_
  refine mb_obj rfl rfl (Nat.le_of_ble_eq_true rfl) (by omega) ?_
  refine mm_g 2 (pc1 := 6) (lo1 := [some (.ref 44), some (.int (Int32.ofInt 0))]) (st1 := [.int (Int32.ofInt 0), .ref 44]) (H1 := (mb 45 mbR41 (mz_up gB 0 0 (-1)) so L 1102)) rfl ?_
  refine mb_p0 rfl rfl rfl (Or.inl rfl) ((mz_up_ne (by decide)).trans (hB 44 1 (by decide))) ?_
  refine mm_g 2 (pc1 := 11) (lo1 := [some (.ref 44), some (.int (Int32.ofInt 0))]) (st1 := [.int (Int32.ofInt 0), .ref 44]) (H1 := (mb 45 mbR41 (mz_up gB 0 0 (-1)) so L 1102)) rfl ?_
  refine mz_if_le (a := 0) (tgt := 18) rfl rfl ⟨by decide, by decide⟩ (fun _ => ?_) (fun z => absurd z (by decide))
  refine mm_g 1 (pc1 := 19) (lo1 := [some (.ref 44), some (.int (Int32.ofInt 0))]) (st1 := [.int (Int32.ofInt 0), .ref 44]) (H1 := (mb 45 mbR41 (mz_up gB 0 0 (-1)) so L 1102)) rfl ?_
  refine mb_nai (sl2 := 1102) (c := 0) E86 rfl (by decide) (by decide) (by decide) rfl rfl (fun j => ((mz_up_ne (fun h => absurd h.1 (by decide))).trans (hB 45 j (by decide)))) ?_
  have E87 := mb_E_up E86
  refine mb_pR E87 rfl rfl (by decide) rfl (Or.inr ⟨rfl, rfl, rfl⟩) ?_
  have E88 : mb_E mbR42 46 := mb_E_set (k := 0) (v := 45) E87 (by decide : 44 < 46) (by decide)
  change mm_W _ _ _ _ _ (mb 46 mbR42 (mz_up gB 0 0 (-1)) so L 1102) _
  refine mm_rt rfl rfl ⟨none, rfl, ?_⟩
  show mm_W (((d - 1) - 1) - 1) mmX10_init 22 [some (.ref 42), none] [.ref 44, .ref 42] (mb 46 mbR42 (mz_up gB 0 0 (-1)) so L 1102) _
  refine mb_pR E88 rfl rfl (by decide) rfl (Or.inr ⟨rfl, rfl, rfl⟩) ?_
  have E89 : mb_E mbR43 46 := mb_E_set (k := 1) (v := 44) E88 (by decide : 42 < 46) (by decide)
  change mm_W _ _ _ _ _ (mb 46 mbR43 (mz_up gB 0 0 (-1)) so L 1102) _
  refine mm_g 1 (pc1 := 26) (lo1 := [some (.ref 42), none]) (st1 := [.ref 42]) (H1 := (mb 46 mbR43 (mz_up gB 0 0 (-1)) so L 1102)) rfl ?_
  refine mz_bip (c := 8) rfl (by decide) ?_
  refine mb_nai (sl2 := 1110) (c := 8) E89 rfl (by decide) (by decide) (by decide) rfl rfl (fun j => ((mz_up_ne (fun h => absurd h.1 (by decide))).trans (hB 46 j (by decide)))) ?_
  have E90 := mb_E_up E89
  refine mb_pR E90 rfl rfl (by decide) rfl (Or.inr ⟨rfl, rfl, rfl⟩) ?_
  have E91 : mb_E mbR44 47 := mb_E_set (k := 2) (v := 46) E90 (by decide : 42 < 47) (by decide)
  change mm_W _ _ _ _ _ (mb 47 mbR44 (mz_up gB 0 0 (-1)) so L 1110) _
  refine mm_g 2 (pc1 := 35) (lo1 := [some (.ref 42), none]) (st1 := [.int (Int32.ofInt 0), .ref 42]) (H1 := (mb 47 mbR44 (mz_up gB 0 0 (-1)) so L 1110)) rfl ?_
  refine mb_p0 rfl rfl rfl (Or.inl rfl) ((mz_up_ne (by decide)).trans (hB 42 3 (by decide))) ?_
  refine mm_g 1 (pc1 := 39) (lo1 := [some (.ref 42), none]) (st1 := [.ref 42]) (H1 := (mb 47 mbR44 (mz_up gB 0 0 (-1)) so L 1110)) rfl ?_
  refine mz_bip (c := 64) rfl (by decide) ?_
  refine mb_nai (sl2 := 1174) (c := 64) E91 rfl (by decide) (by decide) (by decide) rfl rfl (fun j => ((mz_up_ne (fun h => absurd h.1 (by decide))).trans (hB 47 j (by decide)))) ?_
  have E92 := mb_E_up E91
  refine mb_pR E92 rfl rfl (by decide) rfl (Or.inr ⟨rfl, rfl, rfl⟩) ?_
  have E93 : mb_E mbR45 48 := mb_E_set (k := 4) (v := 47) E92 (by decide : 42 < 48) (by decide)
  change mm_W _ _ _ _ _ (mb 48 mbR45 (mz_up gB 0 0 (-1)) so L 1174) _
  refine mm_g 1 (pc1 := 47) (lo1 := [some (.ref 42), none]) (st1 := [.ref 42]) (H1 := (mb 48 mbR45 (mz_up gB 0 0 (-1)) so L 1174)) rfl ?_
  refine mz_bip (c := 64) rfl (by decide) ?_
  refine mb_nai (sl2 := 1238) (c := 64) E93 rfl (by decide) (by decide) (by decide) rfl rfl (fun j => ((mz_up_ne (fun h => absurd h.1 (by decide))).trans (hB 48 j (by decide)))) ?_
  have E94 := mb_E_up E93
  refine mb_pR E94 rfl rfl (by decide) rfl (Or.inr ⟨rfl, rfl, rfl⟩) ?_
  have E95 : mb_E mbR46 49 := mb_E_set (k := 5) (v := 48) E94 (by decide : 42 < 49) (by decide)
  change mm_W _ _ _ _ _ (mb 49 mbR46 (mz_up gB 0 0 (-1)) so L 1238) _
  refine mm_g 1 (pc1 := 55) (lo1 := [some (.ref 42), none]) (st1 := [.ref 42]) (H1 := (mb 49 mbR46 (mz_up gB 0 0 (-1)) so L 1238)) rfl ?_
  refine mz_bip (c := 8) rfl (by decide) ?_
  refine mb_nai (sl2 := 1246) (c := 8) E95 rfl (by decide) (by decide) (by decide) rfl rfl (fun j => ((mz_up_ne (fun h => absurd h.1 (by decide))).trans (hB 49 j (by decide)))) ?_
  have E96 := mb_E_up E95
  refine mb_pR E96 rfl rfl (by decide) rfl (Or.inr ⟨rfl, rfl, rfl⟩) ?_
  have E97 : mb_E mbR47 50 := mb_E_set (k := 6) (v := 49) E96 (by decide : 42 < 50) (by decide)
  change mm_W _ _ _ _ _ (mb 50 mbR47 (mz_up gB 0 0 (-1)) so L 1246) _
  refine mm_g 1 (pc1 := 63) (lo1 := [some (.ref 42), none]) (st1 := [.ref 42]) (H1 := (mb 50 mbR47 (mz_up gB 0 0 (-1)) so L 1246)) rfl ?_
  refine mz_bip (c := 8) rfl (by decide) ?_
  refine mb_nai (sl2 := 1254) (c := 8) E97 rfl (by decide) (by decide) (by decide) rfl rfl (fun j => ((mz_up_ne (fun h => absurd h.1 (by decide))).trans (hB 50 j (by decide)))) ?_
  have E98 := mb_E_up E97
  refine mb_pR E98 rfl rfl (by decide) rfl (Or.inr ⟨rfl, rfl, rfl⟩) ?_
  have E99 : mb_E mbR48 51 := mb_E_set (k := 7) (v := 50) E98 (by decide : 42 < 51) (by decide)
  change mm_W _ _ _ _ _ (mb 51 mbR48 (mz_up gB 0 0 (-1)) so L 1254) _
  refine mm_g 2 (pc1 := 72) (lo1 := [some (.ref 42), none]) (st1 := [.int (Int32.ofInt 0), .ref 42]) (H1 := (mb 51 mbR48 (mz_up gB 0 0 (-1)) so L 1254)) rfl ?_
  refine mb_p0 rfl rfl rfl (Or.inl rfl) ((mz_up_ne (by decide)).trans (hB 42 8 (by decide))) ?_
  refine mm_g 2 (pc1 := 77) (lo1 := [some (.ref 42), none]) (st1 := [.int (Int32.ofInt 0), .ref 42]) (H1 := (mb 51 mbR48 (mz_up gB 0 0 (-1)) so L 1254)) rfl ?_
  refine mb_p0 rfl rfl rfl (Or.inl rfl) ((mz_up_ne (by decide)).trans (hB 42 9 (by decide))) ?_
  refine mm_g 4 (pc1 := 84) (lo1 := [some (.ref 42), some (.int (Int32.ofInt 0))]) (st1 := [.ref 42, .int (Int32.ofInt 0)]) (H1 := (mb 51 mbR48 (mz_up gB 0 0 (-1)) so L 1254)) rfl ?_
  refine mb_gf (v := 43) (kd := 4) rfl rfl rfl rfl (by decide) ((mb_g2 E98 (by decide) (by decide)).trans ((mb_g2 E96 (by decide) (by decide)).trans ((mb_g2 E94 (by decide) (by decide)).trans ((mb_g2 E92 (by decide) (by decide)).trans ((mb_g2 E90 (by decide) (by decide)).trans ((mb_g2 E88 (by decide) (by decide)).trans ((mb_g2 E87 (by decide) (by decide)).trans (mb_g1 E84 (by decide))))))))) ?_
  refine mb_al (t := 103) (c := 8) rfl rfl (by decide) ?_
  refine mz_ic_ge (a := 0) (b := 8) (tgt := 112) rfl rfl ⟨by decide, by decide⟩ ⟨by decide, by decide⟩ (fun z => absurd z (by decide)) (fun _ => ?_)
  refine mm_g 1 (pc1 := 92) (lo1 := [some (.ref 42), some (.int (Int32.ofInt 0))]) (st1 := [.ref 42]) (H1 := (mb 51 mbR48 (mz_up gB 0 0 (-1)) so L 1254)) rfl ?_
  refine mb_gf (v := 43) (kd := 4) rfl rfl rfl rfl (by decide) ((mb_g2 E98 (by decide) (by decide)).trans ((mb_g2 E96 (by decide) (by decide)).trans ((mb_g2 E94 (by decide) (by decide)).trans ((mb_g2 E92 (by decide) (by decide)).trans ((mb_g2 E90 (by decide) (by decide)).trans ((mb_g2 E88 (by decide) (by decide)).trans ((mb_g2 E87 (by decide) (by decide)).trans (mb_g1 E84 (by decide))))))))) ?_
  refine mm_g 1 (pc1 := 96) (lo1 := [some (.ref 42), some (.int (Int32.ofInt 0))]) (st1 := [.int (Int32.ofInt 0), .ref 43]) (H1 := (mb 51 mbR48 (mz_up gB 0 0 (-1)) so L 1254)) rfl ?_
  refine mb_new (sl2 := 1256) E99 rfl rfl (by decide) rfl rfl (fun j => ((mz_up_ne (fun h => absurd h.1 (by decide))).trans (hB 51 j (by decide)))) ?_
  have E100 := mb_E_up E99
  refine mm_g 1 (pc1 := 100) (lo1 := [some (.ref 42), some (.int (Int32.ofInt 0))]) (st1 := [.ref 51, .ref 51, .int (Int32.ofInt 0), .ref 43]) (H1 := (mb 52 mbR48 (mz_up gB 0 0 (-1)) so L 1256)) rfl ?_
  refine mz_bip (c := 8) rfl (by decide) ?_
  refine mb_cl (b := 51) rfl rfl rfl (Nat.le_of_ble_eq_true rfl) (by omega) ?_
  refine ⟨mmX0_init, [some (.ref 51), some (.int (Int32.ofInt 8))], rfl, rfl, ?_⟩
  refine mm_g 1 (pc1 := 1) (lo1 := [some (.ref 51), some (.int (Int32.ofInt 8))]) (st1 := [.ref 51]) (H1 := (mb 52 mbR48 (mz_up gB 0 0 (-1)) so L 1256)) rfl ?_
  refine mb_obj rfl rfl (Nat.le_of_ble_eq_true rfl) (by omega) ?_
  refine mm_g 2 (pc1 := 6) (lo1 := [some (.ref 51), some (.int (Int32.ofInt 8))]) (st1 := [.int (Int32.ofInt 0), .ref 51]) (H1 := (mb 52 mbR48 (mz_up gB 0 0 (-1)) so L 1256)) rfl ?_
  refine mb_p0 rfl rfl rfl (Or.inl rfl) ((mz_up_ne (by decide)).trans (hB 51 1 (by decide))) ?_
  refine mm_g 2 (pc1 := 11) (lo1 := [some (.ref 51), some (.int (Int32.ofInt 8))]) (st1 := [.int (Int32.ofInt 8), .ref 51]) (H1 := (mb 52 mbR48 (mz_up gB 0 0 (-1)) so L 1256)) rfl ?_
  refine mz_if_le (a := 8) (tgt := 18) rfl rfl ⟨by decide, by decide⟩ (fun z => absurd z (by decide)) (fun _ => ?_)
  refine mm_g 1 (pc1 := 15) (lo1 := [some (.ref 51), some (.int (Int32.ofInt 8))]) (st1 := [.int (Int32.ofInt 8), .ref 51]) (H1 := (mb 52 mbR48 (mz_up gB 0 0 (-1)) so L 1256)) rfl ?_
  refine mz_gt (tgt := 19) rfl rfl ?_
  refine mb_nai (sl2 := 1264) (c := 8) E100 rfl (by decide) (by decide) (by decide) rfl rfl (fun j => ((mz_up_ne (fun h => absurd h.1 (by decide))).trans (hB 52 j (by decide)))) ?_
  have E101 := mb_E_up E100
  refine mb_pR E101 rfl rfl (by decide) rfl (Or.inr ⟨rfl, rfl, rfl⟩) ?_
  have E102 : mb_E mbR49 53 := mb_E_set (k := 0) (v := 52) E101 (by decide : 51 < 53) (by decide)
  change mm_W _ _ _ _ _ (mb 53 mbR49 (mz_up gB 0 0 (-1)) so L 1264) _
  refine mm_rt rfl rfl ⟨none, rfl, ?_⟩
  show mm_W (((d - 1) - 1) - 1) mmX10_init 105 [some (.ref 42), some (.int (Int32.ofInt 0))] [.ref 51, .int (Int32.ofInt 0), .ref 43] (mb 53 mbR49 (mz_up gB 0 0 (-1)) so L 1264) _
  refine mb_aa (len := 8) (c := 0) E102 rfl (by decide) (Or.inl ⟨rfl, rfl⟩) rfl (by decide) (by decide) ?_
  have E103 : mb_E mbR50 53 := mb_E_set (k := 0) (v := 51) E102 (by decide : 43 < 53) (by decide)
  change mm_W _ _ _ _ _ (mb 53 mbR50 (mz_up gB 0 0 (-1)) so L 1264) _
  refine mz_iincR (v := 0) (lo2 := [some (.ref 42), some (.int (Int32.ofInt 1))]) rfl rfl rfl (Nat.le_of_ble_eq_true rfl) rfl ?_
  refine mz_gt (tgt := 82) rfl rfl ?_
  refine mm_g 2 (pc1 := 84) (lo1 := [some (.ref 42), some (.int (Int32.ofInt 1))]) (st1 := [.ref 42, .int (Int32.ofInt 1)]) (H1 := (mb 53 mbR50 (mz_up gB 0 0 (-1)) so L 1264)) rfl ?_
  refine mb_gf (v := 43) (kd := 4) rfl rfl rfl rfl (by decide) ((mb_g2 E102 (by decide) (by decide)).trans ((mb_g2 E101 (by decide) (by decide)).trans ((mb_g2 E98 (by decide) (by decide)).trans ((mb_g2 E96 (by decide) (by decide)).trans ((mb_g2 E94 (by decide) (by decide)).trans ((mb_g2 E92 (by decide) (by decide)).trans ((mb_g2 E90 (by decide) (by decide)).trans ((mb_g2 E88 (by decide) (by decide)).trans ((mb_g2 E87 (by decide) (by decide)).trans (mb_g1 E84 (by decide))))))))))) ?_
  refine mb_al (t := 103) (c := 8) rfl rfl (by decide) ?_
  refine mz_ic_ge (a := 1) (b := 8) (tgt := 112) rfl rfl ⟨by decide, by decide⟩ ⟨by decide, by decide⟩ (fun z => absurd z (by decide)) (fun _ => ?_)
  refine mm_g 1 (pc1 := 92) (lo1 := [some (.ref 42), some (.int (Int32.ofInt 1))]) (st1 := [.ref 42]) (H1 := (mb 53 mbR50 (mz_up gB 0 0 (-1)) so L 1264)) rfl ?_
  refine mb_gf (v := 43) (kd := 4) rfl rfl rfl rfl (by decide) ((mb_g2 E102 (by decide) (by decide)).trans ((mb_g2 E101 (by decide) (by decide)).trans ((mb_g2 E98 (by decide) (by decide)).trans ((mb_g2 E96 (by decide) (by decide)).trans ((mb_g2 E94 (by decide) (by decide)).trans ((mb_g2 E92 (by decide) (by decide)).trans ((mb_g2 E90 (by decide) (by decide)).trans ((mb_g2 E88 (by decide) (by decide)).trans ((mb_g2 E87 (by decide) (by decide)).trans (mb_g1 E84 (by decide))))))))))) ?_
  refine mm_g 1 (pc1 := 96) (lo1 := [some (.ref 42), some (.int (Int32.ofInt 1))]) (st1 := [.int (Int32.ofInt 1), .ref 43]) (H1 := (mb 53 mbR50 (mz_up gB 0 0 (-1)) so L 1264)) rfl ?_
  refine mb_new (sl2 := 1266) E103 rfl rfl (by decide) rfl rfl (fun j => ((mz_up_ne (fun h => absurd h.1 (by decide))).trans (hB 53 j (by decide)))) ?_
  have E104 := mb_E_up E103
  refine mm_g 1 (pc1 := 100) (lo1 := [some (.ref 42), some (.int (Int32.ofInt 1))]) (st1 := [.ref 53, .ref 53, .int (Int32.ofInt 1), .ref 43]) (H1 := (mb 54 mbR50 (mz_up gB 0 0 (-1)) so L 1266)) rfl ?_
  refine mz_bip (c := 8) rfl (by decide) ?_
  refine mb_cl (b := 53) rfl rfl rfl (Nat.le_of_ble_eq_true rfl) (by omega) ?_
  refine ⟨mmX0_init, [some (.ref 53), some (.int (Int32.ofInt 8))], rfl, rfl, ?_⟩
  refine mm_g 1 (pc1 := 1) (lo1 := [some (.ref 53), some (.int (Int32.ofInt 8))]) (st1 := [.ref 53]) (H1 := (mb 54 mbR50 (mz_up gB 0 0 (-1)) so L 1266)) rfl ?_
  refine mb_obj rfl rfl (Nat.le_of_ble_eq_true rfl) (by omega) ?_
  refine mm_g 2 (pc1 := 6) (lo1 := [some (.ref 53), some (.int (Int32.ofInt 8))]) (st1 := [.int (Int32.ofInt 0), .ref 53]) (H1 := (mb 54 mbR50 (mz_up gB 0 0 (-1)) so L 1266)) rfl ?_
  refine mb_p0 rfl rfl rfl (Or.inl rfl) ((mz_up_ne (by decide)).trans (hB 53 1 (by decide))) ?_
  refine mm_g 2 (pc1 := 11) (lo1 := [some (.ref 53), some (.int (Int32.ofInt 8))]) (st1 := [.int (Int32.ofInt 8), .ref 53]) (H1 := (mb 54 mbR50 (mz_up gB 0 0 (-1)) so L 1266)) rfl ?_
  refine mz_if_le (a := 8) (tgt := 18) rfl rfl ⟨by decide, by decide⟩ (fun z => absurd z (by decide)) (fun _ => ?_)
  refine mm_g 1 (pc1 := 15) (lo1 := [some (.ref 53), some (.int (Int32.ofInt 8))]) (st1 := [.int (Int32.ofInt 8), .ref 53]) (H1 := (mb 54 mbR50 (mz_up gB 0 0 (-1)) so L 1266)) rfl ?_
  refine mz_gt (tgt := 19) rfl rfl ?_
  refine mb_nai (sl2 := 1274) (c := 8) E104 rfl (by decide) (by decide) (by decide) rfl rfl (fun j => ((mz_up_ne (fun h => absurd h.1 (by decide))).trans (hB 54 j (by decide)))) ?_
  have E105 := mb_E_up E104
  refine mb_pR E105 rfl rfl (by decide) rfl (Or.inr ⟨rfl, rfl, rfl⟩) ?_
  have E106 : mb_E mbR51 55 := mb_E_set (k := 0) (v := 54) E105 (by decide : 53 < 55) (by decide)
  change mm_W _ _ _ _ _ (mb 55 mbR51 (mz_up gB 0 0 (-1)) so L 1274) _
  refine mm_rt rfl rfl ⟨none, rfl, ?_⟩
  show mm_W (((d - 1) - 1) - 1) mmX10_init 105 [some (.ref 42), some (.int (Int32.ofInt 1))] [.ref 53, .int (Int32.ofInt 1), .ref 43] (mb 55 mbR51 (mz_up gB 0 0 (-1)) so L 1274) _
  refine mb_aa (len := 8) (c := 1) E106 rfl (by decide) (Or.inl ⟨rfl, rfl⟩) rfl (by decide) (by decide) ?_
  have E107 : mb_E mbR52 55 := mb_E_set (k := 1) (v := 53) E106 (by decide : 43 < 55) (by decide)
  change mm_W _ _ _ _ _ (mb 55 mbR52 (mz_up gB 0 0 (-1)) so L 1274) _
  refine mz_iincR (v := 1) (lo2 := [some (.ref 42), some (.int (Int32.ofInt 2))]) rfl rfl rfl (Nat.le_of_ble_eq_true rfl) rfl ?_
  refine mz_gt (tgt := 82) rfl rfl ?_
  refine mm_g 2 (pc1 := 84) (lo1 := [some (.ref 42), some (.int (Int32.ofInt 2))]) (st1 := [.ref 42, .int (Int32.ofInt 2)]) (H1 := (mb 55 mbR52 (mz_up gB 0 0 (-1)) so L 1274)) rfl ?_
  refine mb_gf (v := 43) (kd := 4) rfl rfl rfl rfl (by decide) ((mb_g2 E106 (by decide) (by decide)).trans ((mb_g2 E105 (by decide) (by decide)).trans ((mb_g2 E102 (by decide) (by decide)).trans ((mb_g2 E101 (by decide) (by decide)).trans ((mb_g2 E98 (by decide) (by decide)).trans ((mb_g2 E96 (by decide) (by decide)).trans ((mb_g2 E94 (by decide) (by decide)).trans ((mb_g2 E92 (by decide) (by decide)).trans ((mb_g2 E90 (by decide) (by decide)).trans ((mb_g2 E88 (by decide) (by decide)).trans ((mb_g2 E87 (by decide) (by decide)).trans (mb_g1 E84 (by decide))))))))))))) ?_
  refine mb_al (t := 103) (c := 8) rfl rfl (by decide) ?_
  refine mz_ic_ge (a := 2) (b := 8) (tgt := 112) rfl rfl ⟨by decide, by decide⟩ ⟨by decide, by decide⟩ (fun z => absurd z (by decide)) (fun _ => ?_)
  refine mm_g 1 (pc1 := 92) (lo1 := [some (.ref 42), some (.int (Int32.ofInt 2))]) (st1 := [.ref 42]) (H1 := (mb 55 mbR52 (mz_up gB 0 0 (-1)) so L 1274)) rfl ?_
  refine mb_gf (v := 43) (kd := 4) rfl rfl rfl rfl (by decide) ((mb_g2 E106 (by decide) (by decide)).trans ((mb_g2 E105 (by decide) (by decide)).trans ((mb_g2 E102 (by decide) (by decide)).trans ((mb_g2 E101 (by decide) (by decide)).trans ((mb_g2 E98 (by decide) (by decide)).trans ((mb_g2 E96 (by decide) (by decide)).trans ((mb_g2 E94 (by decide) (by decide)).trans ((mb_g2 E92 (by decide) (by decide)).trans ((mb_g2 E90 (by decide) (by decide)).trans ((mb_g2 E88 (by decide) (by decide)).trans ((mb_g2 E87 (by decide) (by decide)).trans (mb_g1 E84 (by decide))))))))))))) ?_
  refine mm_g 1 (pc1 := 96) (lo1 := [some (.ref 42), some (.int (Int32.ofInt 2))]) (st1 := [.int (Int32.ofInt 2), .ref 43]) (H1 := (mb 55 mbR52 (mz_up gB 0 0 (-1)) so L 1274)) rfl ?_
  refine mb_new (sl2 := 1276) E107 rfl rfl (by decide) rfl rfl (fun j => ((mz_up_ne (fun h => absurd h.1 (by decide))).trans (hB 55 j (by decide)))) ?_
  have E108 := mb_E_up E107
  refine mm_g 1 (pc1 := 100) (lo1 := [some (.ref 42), some (.int (Int32.ofInt 2))]) (st1 := [.ref 55, .ref 55, .int (Int32.ofInt 2), .ref 43]) (H1 := (mb 56 mbR52 (mz_up gB 0 0 (-1)) so L 1276)) rfl ?_
  refine mz_bip (c := 8) rfl (by decide) ?_
  refine mb_cl (b := 55) rfl rfl rfl (Nat.le_of_ble_eq_true rfl) (by omega) ?_
  refine ⟨mmX0_init, [some (.ref 55), some (.int (Int32.ofInt 8))], rfl, rfl, ?_⟩
  refine mm_g 1 (pc1 := 1) (lo1 := [some (.ref 55), some (.int (Int32.ofInt 8))]) (st1 := [.ref 55]) (H1 := (mb 56 mbR52 (mz_up gB 0 0 (-1)) so L 1276)) rfl ?_
  refine mb_obj rfl rfl (Nat.le_of_ble_eq_true rfl) (by omega) ?_
  refine mm_g 2 (pc1 := 6) (lo1 := [some (.ref 55), some (.int (Int32.ofInt 8))]) (st1 := [.int (Int32.ofInt 0), .ref 55]) (H1 := (mb 56 mbR52 (mz_up gB 0 0 (-1)) so L 1276)) rfl ?_
  refine mb_p0 rfl rfl rfl (Or.inl rfl) ((mz_up_ne (by decide)).trans (hB 55 1 (by decide))) ?_
  refine mm_g 2 (pc1 := 11) (lo1 := [some (.ref 55), some (.int (Int32.ofInt 8))]) (st1 := [.int (Int32.ofInt 8), .ref 55]) (H1 := (mb 56 mbR52 (mz_up gB 0 0 (-1)) so L 1276)) rfl ?_
  refine mz_if_le (a := 8) (tgt := 18) rfl rfl ⟨by decide, by decide⟩ (fun z => absurd z (by decide)) (fun _ => ?_)
  refine mm_g 1 (pc1 := 15) (lo1 := [some (.ref 55), some (.int (Int32.ofInt 8))]) (st1 := [.int (Int32.ofInt 8), .ref 55]) (H1 := (mb 56 mbR52 (mz_up gB 0 0 (-1)) so L 1276)) rfl ?_
  refine mz_gt (tgt := 19) rfl rfl ?_
  refine mb_nai (sl2 := 1284) (c := 8) E108 rfl (by decide) (by decide) (by decide) rfl rfl (fun j => ((mz_up_ne (fun h => absurd h.1 (by decide))).trans (hB 56 j (by decide)))) ?_
  have E109 := mb_E_up E108
  refine mb_pR E109 rfl rfl (by decide) rfl (Or.inr ⟨rfl, rfl, rfl⟩) ?_
  have E110 : mb_E mbR53 57 := mb_E_set (k := 0) (v := 56) E109 (by decide : 55 < 57) (by decide)
  change mm_W _ _ _ _ _ (mb 57 mbR53 (mz_up gB 0 0 (-1)) so L 1284) _
  refine mm_rt rfl rfl ⟨none, rfl, ?_⟩
  show mm_W (((d - 1) - 1) - 1) mmX10_init 105 [some (.ref 42), some (.int (Int32.ofInt 2))] [.ref 55, .int (Int32.ofInt 2), .ref 43] (mb 57 mbR53 (mz_up gB 0 0 (-1)) so L 1284) _
  refine mb_aa (len := 8) (c := 2) E110 rfl (by decide) (Or.inl ⟨rfl, rfl⟩) rfl (by decide) (by decide) ?_
  have E111 : mb_E mbR54 57 := mb_E_set (k := 2) (v := 55) E110 (by decide : 43 < 57) (by decide)
  change mm_W _ _ _ _ _ (mb 57 mbR54 (mz_up gB 0 0 (-1)) so L 1284) _
  refine mz_iincR (v := 2) (lo2 := [some (.ref 42), some (.int (Int32.ofInt 3))]) rfl rfl rfl (Nat.le_of_ble_eq_true rfl) rfl ?_
  refine mz_gt (tgt := 82) rfl rfl ?_
  refine mm_g 2 (pc1 := 84) (lo1 := [some (.ref 42), some (.int (Int32.ofInt 3))]) (st1 := [.ref 42, .int (Int32.ofInt 3)]) (H1 := (mb 57 mbR54 (mz_up gB 0 0 (-1)) so L 1284)) rfl ?_
  refine mb_gf (v := 43) (kd := 4) rfl rfl rfl rfl (by decide) ((mb_g2 E110 (by decide) (by decide)).trans ((mb_g2 E109 (by decide) (by decide)).trans ((mb_g2 E106 (by decide) (by decide)).trans ((mb_g2 E105 (by decide) (by decide)).trans ((mb_g2 E102 (by decide) (by decide)).trans ((mb_g2 E101 (by decide) (by decide)).trans ((mb_g2 E98 (by decide) (by decide)).trans ((mb_g2 E96 (by decide) (by decide)).trans ((mb_g2 E94 (by decide) (by decide)).trans ((mb_g2 E92 (by decide) (by decide)).trans ((mb_g2 E90 (by decide) (by decide)).trans ((mb_g2 E88 (by decide) (by decide)).trans ((mb_g2 E87 (by decide) (by decide)).trans (mb_g1 E84 (by decide))))))))))))))) ?_
  refine mb_al (t := 103) (c := 8) rfl rfl (by decide) ?_
  refine mz_ic_ge (a := 3) (b := 8) (tgt := 112) rfl rfl ⟨by decide, by decide⟩ ⟨by decide, by decide⟩ (fun z => absurd z (by decide)) (fun _ => ?_)
  refine mm_g 1 (pc1 := 92) (lo1 := [some (.ref 42), some (.int (Int32.ofInt 3))]) (st1 := [.ref 42]) (H1 := (mb 57 mbR54 (mz_up gB 0 0 (-1)) so L 1284)) rfl ?_
  refine mb_gf (v := 43) (kd := 4) rfl rfl rfl rfl (by decide) ((mb_g2 E110 (by decide) (by decide)).trans ((mb_g2 E109 (by decide) (by decide)).trans ((mb_g2 E106 (by decide) (by decide)).trans ((mb_g2 E105 (by decide) (by decide)).trans ((mb_g2 E102 (by decide) (by decide)).trans ((mb_g2 E101 (by decide) (by decide)).trans ((mb_g2 E98 (by decide) (by decide)).trans ((mb_g2 E96 (by decide) (by decide)).trans ((mb_g2 E94 (by decide) (by decide)).trans ((mb_g2 E92 (by decide) (by decide)).trans ((mb_g2 E90 (by decide) (by decide)).trans ((mb_g2 E88 (by decide) (by decide)).trans ((mb_g2 E87 (by decide) (by decide)).trans (mb_g1 E84 (by decide))))))))))))))) ?_
  refine mm_g 1 (pc1 := 96) (lo1 := [some (.ref 42), some (.int (Int32.ofInt 3))]) (st1 := [.int (Int32.ofInt 3), .ref 43]) (H1 := (mb 57 mbR54 (mz_up gB 0 0 (-1)) so L 1284)) rfl ?_
  refine mb_new (sl2 := 1286) E111 rfl rfl (by decide) rfl rfl (fun j => ((mz_up_ne (fun h => absurd h.1 (by decide))).trans (hB 57 j (by decide)))) ?_
  have E112 := mb_E_up E111
  refine mm_g 1 (pc1 := 100) (lo1 := [some (.ref 42), some (.int (Int32.ofInt 3))]) (st1 := [.ref 57, .ref 57, .int (Int32.ofInt 3), .ref 43]) (H1 := (mb 58 mbR54 (mz_up gB 0 0 (-1)) so L 1286)) rfl ?_
  refine mz_bip (c := 8) rfl (by decide) ?_
  refine mb_cl (b := 57) rfl rfl rfl (Nat.le_of_ble_eq_true rfl) (by omega) ?_
  refine ⟨mmX0_init, [some (.ref 57), some (.int (Int32.ofInt 8))], rfl, rfl, ?_⟩
  refine mm_g 1 (pc1 := 1) (lo1 := [some (.ref 57), some (.int (Int32.ofInt 8))]) (st1 := [.ref 57]) (H1 := (mb 58 mbR54 (mz_up gB 0 0 (-1)) so L 1286)) rfl ?_
  refine mb_obj rfl rfl (Nat.le_of_ble_eq_true rfl) (by omega) ?_
  refine mm_g 2 (pc1 := 6) (lo1 := [some (.ref 57), some (.int (Int32.ofInt 8))]) (st1 := [.int (Int32.ofInt 0), .ref 57]) (H1 := (mb 58 mbR54 (mz_up gB 0 0 (-1)) so L 1286)) rfl ?_
  refine mb_p0 rfl rfl rfl (Or.inl rfl) ((mz_up_ne (by decide)).trans (hB 57 1 (by decide))) ?_
  refine mm_g 2 (pc1 := 11) (lo1 := [some (.ref 57), some (.int (Int32.ofInt 8))]) (st1 := [.int (Int32.ofInt 8), .ref 57]) (H1 := (mb 58 mbR54 (mz_up gB 0 0 (-1)) so L 1286)) rfl ?_
  refine mz_if_le (a := 8) (tgt := 18) rfl rfl ⟨by decide, by decide⟩ (fun z => absurd z (by decide)) (fun _ => ?_)
  refine mm_g 1 (pc1 := 15) (lo1 := [some (.ref 57), some (.int (Int32.ofInt 8))]) (st1 := [.int (Int32.ofInt 8), .ref 57]) (H1 := (mb 58 mbR54 (mz_up gB 0 0 (-1)) so L 1286)) rfl ?_
  refine mz_gt (tgt := 19) rfl rfl ?_
  refine mb_nai (sl2 := 1294) (c := 8) E112 rfl (by decide) (by decide) (by decide) rfl rfl (fun j => ((mz_up_ne (fun h => absurd h.1 (by decide))).trans (hB 58 j (by decide)))) ?_
  have E113 := mb_E_up E112
  refine mb_pR E113 rfl rfl (by decide) rfl (Or.inr ⟨rfl, rfl, rfl⟩) ?_
  have E114 : mb_E mbR55 59 := mb_E_set (k := 0) (v := 58) E113 (by decide : 57 < 59) (by decide)
  change mm_W _ _ _ _ _ (mb 59 mbR55 (mz_up gB 0 0 (-1)) so L 1294) _
  refine mm_rt rfl rfl ⟨none, rfl, ?_⟩
  show mm_W (((d - 1) - 1) - 1) mmX10_init 105 [some (.ref 42), some (.int (Int32.ofInt 3))] [.ref 57, .int (Int32.ofInt 3), .ref 43] (mb 59 mbR55 (mz_up gB 0 0 (-1)) so L 1294) _
  refine mb_aa (len := 8) (c := 3) E114 rfl (by decide) (Or.inl ⟨rfl, rfl⟩) rfl (by decide) (by decide) ?_
  have E115 : mb_E mbR56 59 := mb_E_set (k := 3) (v := 57) E114 (by decide : 43 < 59) (by decide)
  change mm_W _ _ _ _ _ (mb 59 mbR56 (mz_up gB 0 0 (-1)) so L 1294) _
  refine mz_iincR (v := 3) (lo2 := [some (.ref 42), some (.int (Int32.ofInt 4))]) rfl rfl rfl (Nat.le_of_ble_eq_true rfl) rfl ?_
  refine mz_gt (tgt := 82) rfl rfl ?_
  refine mm_g 2 (pc1 := 84) (lo1 := [some (.ref 42), some (.int (Int32.ofInt 4))]) (st1 := [.ref 42, .int (Int32.ofInt 4)]) (H1 := (mb 59 mbR56 (mz_up gB 0 0 (-1)) so L 1294)) rfl ?_
  refine mb_gf (v := 43) (kd := 4) rfl rfl rfl rfl (by decide) ((mb_g2 E114 (by decide) (by decide)).trans ((mb_g2 E113 (by decide) (by decide)).trans ((mb_g2 E110 (by decide) (by decide)).trans ((mb_g2 E109 (by decide) (by decide)).trans ((mb_g2 E106 (by decide) (by decide)).trans ((mb_g2 E105 (by decide) (by decide)).trans ((mb_g2 E102 (by decide) (by decide)).trans ((mb_g2 E101 (by decide) (by decide)).trans ((mb_g2 E98 (by decide) (by decide)).trans ((mb_g2 E96 (by decide) (by decide)).trans ((mb_g2 E94 (by decide) (by decide)).trans ((mb_g2 E92 (by decide) (by decide)).trans ((mb_g2 E90 (by decide) (by decide)).trans ((mb_g2 E88 (by decide) (by decide)).trans ((mb_g2 E87 (by decide) (by decide)).trans (mb_g1 E84 (by decide))))))))))))))))) ?_
  refine mb_al (t := 103) (c := 8) rfl rfl (by decide) ?_
  refine mz_ic_ge (a := 4) (b := 8) (tgt := 112) rfl rfl ⟨by decide, by decide⟩ ⟨by decide, by decide⟩ (fun z => absurd z (by decide)) (fun _ => ?_)
  refine mm_g 1 (pc1 := 92) (lo1 := [some (.ref 42), some (.int (Int32.ofInt 4))]) (st1 := [.ref 42]) (H1 := (mb 59 mbR56 (mz_up gB 0 0 (-1)) so L 1294)) rfl ?_
  refine mb_gf (v := 43) (kd := 4) rfl rfl rfl rfl (by decide) ((mb_g2 E114 (by decide) (by decide)).trans ((mb_g2 E113 (by decide) (by decide)).trans ((mb_g2 E110 (by decide) (by decide)).trans ((mb_g2 E109 (by decide) (by decide)).trans ((mb_g2 E106 (by decide) (by decide)).trans ((mb_g2 E105 (by decide) (by decide)).trans ((mb_g2 E102 (by decide) (by decide)).trans ((mb_g2 E101 (by decide) (by decide)).trans ((mb_g2 E98 (by decide) (by decide)).trans ((mb_g2 E96 (by decide) (by decide)).trans ((mb_g2 E94 (by decide) (by decide)).trans ((mb_g2 E92 (by decide) (by decide)).trans ((mb_g2 E90 (by decide) (by decide)).trans ((mb_g2 E88 (by decide) (by decide)).trans ((mb_g2 E87 (by decide) (by decide)).trans (mb_g1 E84 (by decide))))))))))))))))) ?_
  refine mm_g 1 (pc1 := 96) (lo1 := [some (.ref 42), some (.int (Int32.ofInt 4))]) (st1 := [.int (Int32.ofInt 4), .ref 43]) (H1 := (mb 59 mbR56 (mz_up gB 0 0 (-1)) so L 1294)) rfl ?_
  refine mb_new (sl2 := 1296) E115 rfl rfl (by decide) rfl rfl (fun j => ((mz_up_ne (fun h => absurd h.1 (by decide))).trans (hB 59 j (by decide)))) ?_
  have E116 := mb_E_up E115
  refine mm_g 1 (pc1 := 100) (lo1 := [some (.ref 42), some (.int (Int32.ofInt 4))]) (st1 := [.ref 59, .ref 59, .int (Int32.ofInt 4), .ref 43]) (H1 := (mb 60 mbR56 (mz_up gB 0 0 (-1)) so L 1296)) rfl ?_
  refine mz_bip (c := 8) rfl (by decide) ?_
  refine mb_cl (b := 59) rfl rfl rfl (Nat.le_of_ble_eq_true rfl) (by omega) ?_
  refine ⟨mmX0_init, [some (.ref 59), some (.int (Int32.ofInt 8))], rfl, rfl, ?_⟩
  refine mm_g 1 (pc1 := 1) (lo1 := [some (.ref 59), some (.int (Int32.ofInt 8))]) (st1 := [.ref 59]) (H1 := (mb 60 mbR56 (mz_up gB 0 0 (-1)) so L 1296)) rfl ?_
  refine mb_obj rfl rfl (Nat.le_of_ble_eq_true rfl) (by omega) ?_
  refine mm_g 2 (pc1 := 6) (lo1 := [some (.ref 59), some (.int (Int32.ofInt 8))]) (st1 := [.int (Int32.ofInt 0), .ref 59]) (H1 := (mb 60 mbR56 (mz_up gB 0 0 (-1)) so L 1296)) rfl ?_
  refine mb_p0 rfl rfl rfl (Or.inl rfl) ((mz_up_ne (by decide)).trans (hB 59 1 (by decide))) ?_
  refine mm_g 2 (pc1 := 11) (lo1 := [some (.ref 59), some (.int (Int32.ofInt 8))]) (st1 := [.int (Int32.ofInt 8), .ref 59]) (H1 := (mb 60 mbR56 (mz_up gB 0 0 (-1)) so L 1296)) rfl ?_
  refine mz_if_le (a := 8) (tgt := 18) rfl rfl ⟨by decide, by decide⟩ (fun z => absurd z (by decide)) (fun _ => ?_)
  refine mm_g 1 (pc1 := 15) (lo1 := [some (.ref 59), some (.int (Int32.ofInt 8))]) (st1 := [.int (Int32.ofInt 8), .ref 59]) (H1 := (mb 60 mbR56 (mz_up gB 0 0 (-1)) so L 1296)) rfl ?_
  refine mz_gt (tgt := 19) rfl rfl ?_
  refine mb_nai (sl2 := 1304) (c := 8) E116 rfl (by decide) (by decide) (by decide) rfl rfl (fun j => ((mz_up_ne (fun h => absurd h.1 (by decide))).trans (hB 60 j (by decide)))) ?_
  have E117 := mb_E_up E116
  refine mb_pR E117 rfl rfl (by decide) rfl (Or.inr ⟨rfl, rfl, rfl⟩) ?_
  have E118 : mb_E mbR57 61 := mb_E_set (k := 0) (v := 60) E117 (by decide : 59 < 61) (by decide)
  change mm_W _ _ _ _ _ (mb 61 mbR57 (mz_up gB 0 0 (-1)) so L 1304) _
  refine mm_rt rfl rfl ⟨none, rfl, ?_⟩
  show mm_W (((d - 1) - 1) - 1) mmX10_init 105 [some (.ref 42), some (.int (Int32.ofInt 4))] [.ref 59, .int (Int32.ofInt 4), .ref 43] (mb 61 mbR57 (mz_up gB 0 0 (-1)) so L 1304) _
  refine mb_aa (len := 8) (c := 4) E118 rfl (by decide) (Or.inl ⟨rfl, rfl⟩) rfl (by decide) (by decide) ?_
  have E119 : mb_E mbR58 61 := mb_E_set (k := 4) (v := 59) E118 (by decide : 43 < 61) (by decide)
  change mm_W _ _ _ _ _ (mb 61 mbR58 (mz_up gB 0 0 (-1)) so L 1304) _
  refine mz_iincR (v := 4) (lo2 := [some (.ref 42), some (.int (Int32.ofInt 5))]) rfl rfl rfl (Nat.le_of_ble_eq_true rfl) rfl ?_
  refine mz_gt (tgt := 82) rfl rfl ?_
  refine mm_g 2 (pc1 := 84) (lo1 := [some (.ref 42), some (.int (Int32.ofInt 5))]) (st1 := [.ref 42, .int (Int32.ofInt 5)]) (H1 := (mb 61 mbR58 (mz_up gB 0 0 (-1)) so L 1304)) rfl ?_
  refine mb_gf (v := 43) (kd := 4) rfl rfl rfl rfl (by decide) ((mb_g2 E118 (by decide) (by decide)).trans ((mb_g2 E117 (by decide) (by decide)).trans ((mb_g2 E114 (by decide) (by decide)).trans ((mb_g2 E113 (by decide) (by decide)).trans ((mb_g2 E110 (by decide) (by decide)).trans ((mb_g2 E109 (by decide) (by decide)).trans ((mb_g2 E106 (by decide) (by decide)).trans ((mb_g2 E105 (by decide) (by decide)).trans ((mb_g2 E102 (by decide) (by decide)).trans ((mb_g2 E101 (by decide) (by decide)).trans ((mb_g2 E98 (by decide) (by decide)).trans ((mb_g2 E96 (by decide) (by decide)).trans ((mb_g2 E94 (by decide) (by decide)).trans ((mb_g2 E92 (by decide) (by decide)).trans ((mb_g2 E90 (by decide) (by decide)).trans ((mb_g2 E88 (by decide) (by decide)).trans ((mb_g2 E87 (by decide) (by decide)).trans (mb_g1 E84 (by decide))))))))))))))))))) ?_
  refine mb_al (t := 103) (c := 8) rfl rfl (by decide) ?_
  refine mz_ic_ge (a := 5) (b := 8) (tgt := 112) rfl rfl ⟨by decide, by decide⟩ ⟨by decide, by decide⟩ (fun z => absurd z (by decide)) (fun _ => ?_)
  refine mm_g 1 (pc1 := 92) (lo1 := [some (.ref 42), some (.int (Int32.ofInt 5))]) (st1 := [.ref 42]) (H1 := (mb 61 mbR58 (mz_up gB 0 0 (-1)) so L 1304)) rfl ?_
  refine mb_gf (v := 43) (kd := 4) rfl rfl rfl rfl (by decide) ((mb_g2 E118 (by decide) (by decide)).trans ((mb_g2 E117 (by decide) (by decide)).trans ((mb_g2 E114 (by decide) (by decide)).trans ((mb_g2 E113 (by decide) (by decide)).trans ((mb_g2 E110 (by decide) (by decide)).trans ((mb_g2 E109 (by decide) (by decide)).trans ((mb_g2 E106 (by decide) (by decide)).trans ((mb_g2 E105 (by decide) (by decide)).trans ((mb_g2 E102 (by decide) (by decide)).trans ((mb_g2 E101 (by decide) (by decide)).trans ((mb_g2 E98 (by decide) (by decide)).trans ((mb_g2 E96 (by decide) (by decide)).trans ((mb_g2 E94 (by decide) (by decide)).trans ((mb_g2 E92 (by decide) (by decide)).trans ((mb_g2 E90 (by decide) (by decide)).trans ((mb_g2 E88 (by decide) (by decide)).trans ((mb_g2 E87 (by decide) (by decide)).trans (mb_g1 E84 (by decide))))))))))))))))))) ?_
  refine mm_g 1 (pc1 := 96) (lo1 := [some (.ref 42), some (.int (Int32.ofInt 5))]) (st1 := [.int (Int32.ofInt 5), .ref 43]) (H1 := (mb 61 mbR58 (mz_up gB 0 0 (-1)) so L 1304)) rfl ?_
  refine mb_new (sl2 := 1306) E119 rfl rfl (by decide) rfl rfl (fun j => ((mz_up_ne (fun h => absurd h.1 (by decide))).trans (hB 61 j (by decide)))) ?_
  have E120 := mb_E_up E119
  refine mm_g 1 (pc1 := 100) (lo1 := [some (.ref 42), some (.int (Int32.ofInt 5))]) (st1 := [.ref 61, .ref 61, .int (Int32.ofInt 5), .ref 43]) (H1 := (mb 62 mbR58 (mz_up gB 0 0 (-1)) so L 1306)) rfl ?_
  refine mz_bip (c := 8) rfl (by decide) ?_
  refine mb_cl (b := 61) rfl rfl rfl (Nat.le_of_ble_eq_true rfl) (by omega) ?_
  refine ⟨mmX0_init, [some (.ref 61), some (.int (Int32.ofInt 8))], rfl, rfl, ?_⟩
  refine mm_g 1 (pc1 := 1) (lo1 := [some (.ref 61), some (.int (Int32.ofInt 8))]) (st1 := [.ref 61]) (H1 := (mb 62 mbR58 (mz_up gB 0 0 (-1)) so L 1306)) rfl ?_
  refine mb_obj rfl rfl (Nat.le_of_ble_eq_true rfl) (by omega) ?_
  refine mm_g 2 (pc1 := 6) (lo1 := [some (.ref 61), some (.int (Int32.ofInt 8))]) (st1 := [.int (Int32.ofInt 0), .ref 61]) (H1 := (mb 62 mbR58 (mz_up gB 0 0 (-1)) so L 1306)) rfl ?_
  refine mb_p0 rfl rfl rfl (Or.inl rfl) ((mz_up_ne (by decide)).trans (hB 61 1 (by decide))) ?_
  refine mm_g 2 (pc1 := 11) (lo1 := [some (.ref 61), some (.int (Int32.ofInt 8))]) (st1 := [.int (Int32.ofInt 8), .ref 61]) (H1 := (mb 62 mbR58 (mz_up gB 0 0 (-1)) so L 1306)) rfl ?_
  refine mz_if_le (a := 8) (tgt := 18) rfl rfl ⟨by decide, by decide⟩ (fun z => absurd z (by decide)) (fun _ => ?_)
  refine mm_g 1 (pc1 := 15) (lo1 := [some (.ref 61), some (.int (Int32.ofInt 8))]) (st1 := [.int (Int32.ofInt 8), .ref 61]) (H1 := (mb 62 mbR58 (mz_up gB 0 0 (-1)) so L 1306)) rfl ?_
  refine mz_gt (tgt := 19) rfl rfl ?_
  refine mb_nai (sl2 := 1314) (c := 8) E120 rfl (by decide) (by decide) (by decide) rfl rfl (fun j => ((mz_up_ne (fun h => absurd h.1 (by decide))).trans (hB 62 j (by decide)))) ?_
  have E121 := mb_E_up E120
  refine mb_pR E121 rfl rfl (by decide) rfl (Or.inr ⟨rfl, rfl, rfl⟩) ?_
  have E122 : mb_E mbR59 63 := mb_E_set (k := 0) (v := 62) E121 (by decide : 61 < 63) (by decide)
  change mm_W _ _ _ _ _ (mb 63 mbR59 (mz_up gB 0 0 (-1)) so L 1314) _
  refine mm_rt rfl rfl ⟨none, rfl, ?_⟩
  show mm_W (((d - 1) - 1) - 1) mmX10_init 105 [some (.ref 42), some (.int (Int32.ofInt 5))] [.ref 61, .int (Int32.ofInt 5), .ref 43] (mb 63 mbR59 (mz_up gB 0 0 (-1)) so L 1314) _
  refine mb_aa (len := 8) (c := 5) E122 rfl (by decide) (Or.inl ⟨rfl, rfl⟩) rfl (by decide) (by decide) ?_
  have E123 : mb_E mbR60 63 := mb_E_set (k := 5) (v := 61) E122 (by decide : 43 < 63) (by decide)
  change mm_W _ _ _ _ _ (mb 63 mbR60 (mz_up gB 0 0 (-1)) so L 1314) _
  refine mz_iincR (v := 5) (lo2 := [some (.ref 42), some (.int (Int32.ofInt 6))]) rfl rfl rfl (Nat.le_of_ble_eq_true rfl) rfl ?_
  refine mz_gt (tgt := 82) rfl rfl ?_
  refine mm_g 2 (pc1 := 84) (lo1 := [some (.ref 42), some (.int (Int32.ofInt 6))]) (st1 := [.ref 42, .int (Int32.ofInt 6)]) (H1 := (mb 63 mbR60 (mz_up gB 0 0 (-1)) so L 1314)) rfl ?_
  refine mb_gf (v := 43) (kd := 4) rfl rfl rfl rfl (by decide) ((mb_g2 E122 (by decide) (by decide)).trans ((mb_g2 E121 (by decide) (by decide)).trans ((mb_g2 E118 (by decide) (by decide)).trans ((mb_g2 E117 (by decide) (by decide)).trans ((mb_g2 E114 (by decide) (by decide)).trans ((mb_g2 E113 (by decide) (by decide)).trans ((mb_g2 E110 (by decide) (by decide)).trans ((mb_g2 E109 (by decide) (by decide)).trans ((mb_g2 E106 (by decide) (by decide)).trans ((mb_g2 E105 (by decide) (by decide)).trans ((mb_g2 E102 (by decide) (by decide)).trans ((mb_g2 E101 (by decide) (by decide)).trans ((mb_g2 E98 (by decide) (by decide)).trans ((mb_g2 E96 (by decide) (by decide)).trans ((mb_g2 E94 (by decide) (by decide)).trans ((mb_g2 E92 (by decide) (by decide)).trans ((mb_g2 E90 (by decide) (by decide)).trans ((mb_g2 E88 (by decide) (by decide)).trans ((mb_g2 E87 (by decide) (by decide)).trans (mb_g1 E84 (by decide))))))))))))))))))))) ?_
  refine mb_al (t := 103) (c := 8) rfl rfl (by decide) ?_
  refine mz_ic_ge (a := 6) (b := 8) (tgt := 112) rfl rfl ⟨by decide, by decide⟩ ⟨by decide, by decide⟩ (fun z => absurd z (by decide)) (fun _ => ?_)
  refine mm_g 1 (pc1 := 92) (lo1 := [some (.ref 42), some (.int (Int32.ofInt 6))]) (st1 := [.ref 42]) (H1 := (mb 63 mbR60 (mz_up gB 0 0 (-1)) so L 1314)) rfl ?_
  refine mb_gf (v := 43) (kd := 4) rfl rfl rfl rfl (by decide) ((mb_g2 E122 (by decide) (by decide)).trans ((mb_g2 E121 (by decide) (by decide)).trans ((mb_g2 E118 (by decide) (by decide)).trans ((mb_g2 E117 (by decide) (by decide)).trans ((mb_g2 E114 (by decide) (by decide)).trans ((mb_g2 E113 (by decide) (by decide)).trans ((mb_g2 E110 (by decide) (by decide)).trans ((mb_g2 E109 (by decide) (by decide)).trans ((mb_g2 E106 (by decide) (by decide)).trans ((mb_g2 E105 (by decide) (by decide)).trans ((mb_g2 E102 (by decide) (by decide)).trans ((mb_g2 E101 (by decide) (by decide)).trans ((mb_g2 E98 (by decide) (by decide)).trans ((mb_g2 E96 (by decide) (by decide)).trans ((mb_g2 E94 (by decide) (by decide)).trans ((mb_g2 E92 (by decide) (by decide)).trans ((mb_g2 E90 (by decide) (by decide)).trans ((mb_g2 E88 (by decide) (by decide)).trans ((mb_g2 E87 (by decide) (by decide)).trans (mb_g1 E84 (by decide))))))))))))))))))))) ?_
  refine mm_g 1 (pc1 := 96) (lo1 := [some (.ref 42), some (.int (Int32.ofInt 6))]) (st1 := [.int (Int32.ofInt 6), .ref 43]) (H1 := (mb 63 mbR60 (mz_up gB 0 0 (-1)) so L 1314)) rfl ?_
  refine mb_new (sl2 := 1316) E123 rfl rfl (by decide) rfl rfl (fun j => ((mz_up_ne (fun h => absurd h.1 (by decide))).trans (hB 63 j (by decide)))) ?_
  have E124 := mb_E_up E123
  refine mm_g 1 (pc1 := 100) (lo1 := [some (.ref 42), some (.int (Int32.ofInt 6))]) (st1 := [.ref 63, .ref 63, .int (Int32.ofInt 6), .ref 43]) (H1 := (mb 64 mbR60 (mz_up gB 0 0 (-1)) so L 1316)) rfl ?_
  refine mz_bip (c := 8) rfl (by decide) ?_
  refine mb_cl (b := 63) rfl rfl rfl (Nat.le_of_ble_eq_true rfl) (by omega) ?_
  refine ⟨mmX0_init, [some (.ref 63), some (.int (Int32.ofInt 8))], rfl, rfl, ?_⟩
  refine mm_g 1 (pc1 := 1) (lo1 := [some (.ref 63), some (.int (Int32.ofInt 8))]) (st1 := [.ref 63]) (H1 := (mb 64 mbR60 (mz_up gB 0 0 (-1)) so L 1316)) rfl ?_
  refine mb_obj rfl rfl (Nat.le_of_ble_eq_true rfl) (by omega) ?_
  refine mm_g 2 (pc1 := 6) (lo1 := [some (.ref 63), some (.int (Int32.ofInt 8))]) (st1 := [.int (Int32.ofInt 0), .ref 63]) (H1 := (mb 64 mbR60 (mz_up gB 0 0 (-1)) so L 1316)) rfl ?_
  refine mb_p0 rfl rfl rfl (Or.inl rfl) ((mz_up_ne (by decide)).trans (hB 63 1 (by decide))) ?_
  refine mm_g 2 (pc1 := 11) (lo1 := [some (.ref 63), some (.int (Int32.ofInt 8))]) (st1 := [.int (Int32.ofInt 8), .ref 63]) (H1 := (mb 64 mbR60 (mz_up gB 0 0 (-1)) so L 1316)) rfl ?_
  refine mz_if_le (a := 8) (tgt := 18) rfl rfl ⟨by decide, by decide⟩ (fun z => absurd z (by decide)) (fun _ => ?_)
  refine mm_g 1 (pc1 := 15) (lo1 := [some (.ref 63), some (.int (Int32.ofInt 8))]) (st1 := [.int (Int32.ofInt 8), .ref 63]) (H1 := (mb 64 mbR60 (mz_up gB 0 0 (-1)) so L 1316)) rfl ?_
  refine mz_gt (tgt := 19) rfl rfl ?_
  refine mb_nai (sl2 := 1324) (c := 8) E124 rfl (by decide) (by decide) (by decide) rfl rfl (fun j => ((mz_up_ne (fun h => absurd h.1 (by decide))).trans (hB 64 j (by decide)))) ?_
  have E125 := mb_E_up E124
  refine mb_pR E125 rfl rfl (by decide) rfl (Or.inr ⟨rfl, rfl, rfl⟩) ?_
  have E126 : mb_E mbR61 65 := mb_E_set (k := 0) (v := 64) E125 (by decide : 63 < 65) (by decide)
  change mm_W _ _ _ _ _ (mb 65 mbR61 (mz_up gB 0 0 (-1)) so L 1324) _
  refine mm_rt rfl rfl ⟨none, rfl, ?_⟩
  show mm_W (((d - 1) - 1) - 1) mmX10_init 105 [some (.ref 42), some (.int (Int32.ofInt 6))] [.ref 63, .int (Int32.ofInt 6), .ref 43] (mb 65 mbR61 (mz_up gB 0 0 (-1)) so L 1324) _
  refine mb_aa (len := 8) (c := 6) E126 rfl (by decide) (Or.inl ⟨rfl, rfl⟩) rfl (by decide) (by decide) ?_
  have E127 : mb_E mbR62 65 := mb_E_set (k := 6) (v := 63) E126 (by decide : 43 < 65) (by decide)
  change mm_W _ _ _ _ _ (mb 65 mbR62 (mz_up gB 0 0 (-1)) so L 1324) _
  refine mz_iincR (v := 6) (lo2 := [some (.ref 42), some (.int (Int32.ofInt 7))]) rfl rfl rfl (Nat.le_of_ble_eq_true rfl) rfl ?_
  refine mz_gt (tgt := 82) rfl rfl ?_
  refine mm_g 2 (pc1 := 84) (lo1 := [some (.ref 42), some (.int (Int32.ofInt 7))]) (st1 := [.ref 42, .int (Int32.ofInt 7)]) (H1 := (mb 65 mbR62 (mz_up gB 0 0 (-1)) so L 1324)) rfl ?_
  refine mb_gf (v := 43) (kd := 4) rfl rfl rfl rfl (by decide) ((mb_g2 E126 (by decide) (by decide)).trans ((mb_g2 E125 (by decide) (by decide)).trans ((mb_g2 E122 (by decide) (by decide)).trans ((mb_g2 E121 (by decide) (by decide)).trans ((mb_g2 E118 (by decide) (by decide)).trans ((mb_g2 E117 (by decide) (by decide)).trans ((mb_g2 E114 (by decide) (by decide)).trans ((mb_g2 E113 (by decide) (by decide)).trans ((mb_g2 E110 (by decide) (by decide)).trans ((mb_g2 E109 (by decide) (by decide)).trans ((mb_g2 E106 (by decide) (by decide)).trans ((mb_g2 E105 (by decide) (by decide)).trans ((mb_g2 E102 (by decide) (by decide)).trans ((mb_g2 E101 (by decide) (by decide)).trans ((mb_g2 E98 (by decide) (by decide)).trans ((mb_g2 E96 (by decide) (by decide)).trans ((mb_g2 E94 (by decide) (by decide)).trans ((mb_g2 E92 (by decide) (by decide)).trans ((mb_g2 E90 (by decide) (by decide)).trans ((mb_g2 E88 (by decide) (by decide)).trans ((mb_g2 E87 (by decide) (by decide)).trans (mb_g1 E84 (by decide))))))))))))))))))))))) ?_
  refine mb_al (t := 103) (c := 8) rfl rfl (by decide) ?_
  refine mz_ic_ge (a := 7) (b := 8) (tgt := 112) rfl rfl ⟨by decide, by decide⟩ ⟨by decide, by decide⟩ (fun z => absurd z (by decide)) (fun _ => ?_)
  refine mm_g 1 (pc1 := 92) (lo1 := [some (.ref 42), some (.int (Int32.ofInt 7))]) (st1 := [.ref 42]) (H1 := (mb 65 mbR62 (mz_up gB 0 0 (-1)) so L 1324)) rfl ?_
  refine mb_gf (v := 43) (kd := 4) rfl rfl rfl rfl (by decide) ((mb_g2 E126 (by decide) (by decide)).trans ((mb_g2 E125 (by decide) (by decide)).trans ((mb_g2 E122 (by decide) (by decide)).trans ((mb_g2 E121 (by decide) (by decide)).trans ((mb_g2 E118 (by decide) (by decide)).trans ((mb_g2 E117 (by decide) (by decide)).trans ((mb_g2 E114 (by decide) (by decide)).trans ((mb_g2 E113 (by decide) (by decide)).trans ((mb_g2 E110 (by decide) (by decide)).trans ((mb_g2 E109 (by decide) (by decide)).trans ((mb_g2 E106 (by decide) (by decide)).trans ((mb_g2 E105 (by decide) (by decide)).trans ((mb_g2 E102 (by decide) (by decide)).trans ((mb_g2 E101 (by decide) (by decide)).trans ((mb_g2 E98 (by decide) (by decide)).trans ((mb_g2 E96 (by decide) (by decide)).trans ((mb_g2 E94 (by decide) (by decide)).trans ((mb_g2 E92 (by decide) (by decide)).trans ((mb_g2 E90 (by decide) (by decide)).trans ((mb_g2 E88 (by decide) (by decide)).trans ((mb_g2 E87 (by decide) (by decide)).trans (mb_g1 E84 (by decide))))))))))))))))))))))) ?_
  refine mm_g 1 (pc1 := 96) (lo1 := [some (.ref 42), some (.int (Int32.ofInt 7))]) (st1 := [.int (Int32.ofInt 7), .ref 43]) (H1 := (mb 65 mbR62 (mz_up gB 0 0 (-1)) so L 1324)) rfl ?_
  refine mb_new (sl2 := 1326) E127 rfl rfl (by decide) rfl rfl (fun j => ((mz_up_ne (fun h => absurd h.1 (by decide))).trans (hB 65 j (by decide)))) ?_
  have E128 := mb_E_up E127
  refine mm_g 1 (pc1 := 100) (lo1 := [some (.ref 42), some (.int (Int32.ofInt 7))]) (st1 := [.ref 65, .ref 65, .int (Int32.ofInt 7), .ref 43]) (H1 := (mb 66 mbR62 (mz_up gB 0 0 (-1)) so L 1326)) rfl ?_
  refine mz_bip (c := 8) rfl (by decide) ?_
  refine mb_cl (b := 65) rfl rfl rfl (Nat.le_of_ble_eq_true rfl) (by omega) ?_
  refine ⟨mmX0_init, [some (.ref 65), some (.int (Int32.ofInt 8))], rfl, rfl, ?_⟩
  refine mm_g 1 (pc1 := 1) (lo1 := [some (.ref 65), some (.int (Int32.ofInt 8))]) (st1 := [.ref 65]) (H1 := (mb 66 mbR62 (mz_up gB 0 0 (-1)) so L 1326)) rfl ?_
  refine mb_obj rfl rfl (Nat.le_of_ble_eq_true rfl) (by omega) ?_
  refine mm_g 2 (pc1 := 6) (lo1 := [some (.ref 65), some (.int (Int32.ofInt 8))]) (st1 := [.int (Int32.ofInt 0), .ref 65]) (H1 := (mb 66 mbR62 (mz_up gB 0 0 (-1)) so L 1326)) rfl ?_
  refine mb_p0 rfl rfl rfl (Or.inl rfl) ((mz_up_ne (by decide)).trans (hB 65 1 (by decide))) ?_
  refine mm_g 2 (pc1 := 11) (lo1 := [some (.ref 65), some (.int (Int32.ofInt 8))]) (st1 := [.int (Int32.ofInt 8), .ref 65]) (H1 := (mb 66 mbR62 (mz_up gB 0 0 (-1)) so L 1326)) rfl ?_
  refine mz_if_le (a := 8) (tgt := 18) rfl rfl ⟨by decide, by decide⟩ (fun z => absurd z (by decide)) (fun _ => ?_)
  refine mm_g 1 (pc1 := 15) (lo1 := [some (.ref 65), some (.int (Int32.ofInt 8))]) (st1 := [.int (Int32.ofInt 8), .ref 65]) (H1 := (mb 66 mbR62 (mz_up gB 0 0 (-1)) so L 1326)) rfl ?_
  refine mz_gt (tgt := 19) rfl rfl ?_
  refine mb_nai (sl2 := 1334) (c := 8) E128 rfl (by decide) (by decide) (by decide) rfl rfl (fun j => ((mz_up_ne (fun h => absurd h.1 (by decide))).trans (hB 66 j (by decide)))) ?_
  have E129 := mb_E_up E128
  refine mb_pR E129 rfl rfl (by decide) rfl (Or.inr ⟨rfl, rfl, rfl⟩) ?_
  have E130 : mb_E mbR63 67 := mb_E_set (k := 0) (v := 66) E129 (by decide : 65 < 67) (by decide)
  change mm_W _ _ _ _ _ (mb 67 mbR63 (mz_up gB 0 0 (-1)) so L 1334) _
  refine mm_rt rfl rfl ⟨none, rfl, ?_⟩
  show mm_W (((d - 1) - 1) - 1) mmX10_init 105 [some (.ref 42), some (.int (Int32.ofInt 7))] [.ref 65, .int (Int32.ofInt 7), .ref 43] (mb 67 mbR63 (mz_up gB 0 0 (-1)) so L 1334) _
  refine mb_aa (len := 8) (c := 7) E130 rfl (by decide) (Or.inl ⟨rfl, rfl⟩) rfl (by decide) (by decide) ?_
  have E131 : mb_E mbR64 67 := mb_E_set (k := 7) (v := 65) E130 (by decide : 43 < 67) (by decide)
  change mm_W _ _ _ _ _ (mb 67 mbR64 (mz_up gB 0 0 (-1)) so L 1334) _
  refine mz_iincR (v := 7) (lo2 := [some (.ref 42), some (.int (Int32.ofInt 8))]) rfl rfl rfl (Nat.le_of_ble_eq_true rfl) rfl ?_
  refine mz_gt (tgt := 82) rfl rfl ?_
  refine mm_g 2 (pc1 := 84) (lo1 := [some (.ref 42), some (.int (Int32.ofInt 8))]) (st1 := [.ref 42, .int (Int32.ofInt 8)]) (H1 := (mb 67 mbR64 (mz_up gB 0 0 (-1)) so L 1334)) rfl ?_
  refine mb_gf (v := 43) (kd := 4) rfl rfl rfl rfl (by decide) ((mb_g2 E130 (by decide) (by decide)).trans ((mb_g2 E129 (by decide) (by decide)).trans ((mb_g2 E126 (by decide) (by decide)).trans ((mb_g2 E125 (by decide) (by decide)).trans ((mb_g2 E122 (by decide) (by decide)).trans ((mb_g2 E121 (by decide) (by decide)).trans ((mb_g2 E118 (by decide) (by decide)).trans ((mb_g2 E117 (by decide) (by decide)).trans ((mb_g2 E114 (by decide) (by decide)).trans ((mb_g2 E113 (by decide) (by decide)).trans ((mb_g2 E110 (by decide) (by decide)).trans ((mb_g2 E109 (by decide) (by decide)).trans ((mb_g2 E106 (by decide) (by decide)).trans ((mb_g2 E105 (by decide) (by decide)).trans ((mb_g2 E102 (by decide) (by decide)).trans ((mb_g2 E101 (by decide) (by decide)).trans ((mb_g2 E98 (by decide) (by decide)).trans ((mb_g2 E96 (by decide) (by decide)).trans ((mb_g2 E94 (by decide) (by decide)).trans ((mb_g2 E92 (by decide) (by decide)).trans ((mb_g2 E90 (by decide) (by decide)).trans ((mb_g2 E88 (by decide) (by decide)).trans ((mb_g2 E87 (by decide) (by decide)).trans (mb_g1 E84 (by decide))))))))))))))))))))))))) ?_
  refine mb_al (t := 103) (c := 8) rfl rfl (by decide) ?_
  refine mz_ic_ge (a := 8) (b := 8) (tgt := 112) rfl rfl ⟨by decide, by decide⟩ ⟨by decide, by decide⟩ (fun _ => ?_) (fun z => absurd z (by decide))
  refine mm_rt rfl rfl ⟨none, rfl, ?_⟩
  show mm_W ((d - 1) - 1) mmX1_init 12 [some (.ref 41)] [.ref 42, .ref 41] (mb 67 mbR64 (mz_up gB 0 0 (-1)) so L 1334) _
  refine mb_pR E131 rfl rfl (by decide) rfl (Or.inr ⟨rfl, rfl, rfl⟩) ?_
  have E132 : mb_E mbR65 67 := mb_E_set (k := 0) (v := 42) E131 (by decide : 41 < 67) (by decide)
  change mm_W _ _ _ _ _ (mb 67 mbR65 (mz_up gB 0 0 (-1)) so L 1334) _
  refine mm_g 1 (pc1 := 16) (lo1 := [some (.ref 41)]) (st1 := [.ref 41]) (H1 := (mb 67 mbR65 (mz_up gB 0 0 (-1)) so L 1334)) rfl ?_
  refine mb_new (sl2 := 1338) E132 rfl rfl (by decide) rfl rfl (fun j => ((mz_up_ne (fun h => absurd h.1 (by decide))).trans (hB 67 j (by decide)))) ?_
  have E133 := mb_E_up E132
  refine mm_g 1 (pc1 := 20) (lo1 := [some (.ref 41)]) (st1 := [.ref 67, .ref 67, .ref 41]) (H1 := (mb 68 mbR65 (mz_up gB 0 0 (-1)) so L 1338)) rfl ?_
  refine mb_cl (b := 67) rfl rfl rfl (Nat.le_of_ble_eq_true rfl) (by omega) ?_
  refine ⟨mmX9_init, [some (.ref 67), none], rfl, rfl, ?_⟩
  refine mm_g 1 (pc1 := 1) (lo1 := [some (.ref 67), none]) (st1 := [.ref 67]) (H1 := (mb 68 mbR65 (mz_up gB 0 0 (-1)) so L 1338)) rfl ?_
  refine mb_obj rfl rfl (Nat.le_of_ble_eq_true rfl) (by omega) ?_
  refine mm_g 1 (pc1 := 5) (lo1 := [some (.ref 67), none]) (st1 := [.ref 67]) (H1 := (mb 68 mbR65 (mz_up gB 0 0 (-1)) so L 1338)) rfl ?_
  refine mz_bip (c := 6) rfl (by decide) ?_
  refine mb_ana (sl2 := 1344) (c := 6) E133 rfl rfl (by decide) (by decide) (by decide) rfl rfl (fun j => ((mz_up_ne (fun h => absurd h.1 (by decide))).trans (hB 68 j (by decide)))) ?_
  have E134 := mb_E_up E133
  refine mb_pR E134 rfl rfl (by decide) rfl (Or.inr ⟨rfl, rfl, rfl⟩) ?_
  have E135 : mb_E mbR66 69 := mb_E_set (k := 0) (v := 68) E134 (by decide : 67 < 69) (by decide)
  change mm_W _ _ _ _ _ (mb 69 mbR66 (mz_up gB 0 0 (-1)) so L 1344) _
  refine mm_g 1 (pc1 := 14) (lo1 := [some (.ref 67), none]) (st1 := [.ref 67]) (H1 := (mb 69 mbR66 (mz_up gB 0 0 (-1)) so L 1344)) rfl ?_
  refine mb_new (sl2 := 1349) E135 rfl rfl (by decide) rfl rfl (fun j => ((mz_up_ne (fun h => absurd h.1 (by decide))).trans (hB 69 j (by decide)))) ?_
  have E136 := mb_E_up E135
  refine mm_g 1 (pc1 := 18) (lo1 := [some (.ref 67), none]) (st1 := [.ref 69, .ref 69, .ref 67]) (H1 := (mb 70 mbR66 (mz_up gB 0 0 (-1)) so L 1349)) rfl ?_
  refine mb_cl (b := 69) rfl rfl rfl (Nat.le_of_ble_eq_true rfl) (by omega) ?_
  refine ⟨mmX8_init, [some (.ref 69)], rfl, rfl, ?_⟩
  refine mm_g 1 (pc1 := 1) (lo1 := [some (.ref 69)]) (st1 := [.ref 69]) (H1 := (mb 70 mbR66 (mz_up gB 0 0 (-1)) so L 1349)) rfl ?_
  refine mb_obj rfl rfl (Nat.le_of_ble_eq_true rfl) (by omega) ?_
  refine mm_g 2 (pc1 := 6) (lo1 := [some (.ref 69)]) (st1 := [.int (Int32.ofInt 0), .ref 69]) (H1 := (mb 70 mbR66 (mz_up gB 0 0 (-1)) so L 1349)) rfl ?_
  refine mb_p0 rfl rfl rfl (Or.inl rfl) ((mz_up_ne (by decide)).trans (hB 69 0 (by decide))) ?_
  refine mm_g 2 (pc1 := 11) (lo1 := [some (.ref 69)]) (st1 := [.int (Int32.ofInt 0), .ref 69]) (H1 := (mb 70 mbR66 (mz_up gB 0 0 (-1)) so L 1349)) rfl ?_
  refine mb_p0 rfl rfl rfl (Or.inl rfl) ((mz_up_ne (by decide)).trans (hB 69 1 (by decide))) ?_
  refine mm_g 2 (pc1 := 16) (lo1 := [some (.ref 69)]) (st1 := [.int (Int32.ofInt 0), .ref 69]) (H1 := (mb 70 mbR66 (mz_up gB 0 0 (-1)) so L 1349)) rfl ?_
  refine mb_p0 rfl rfl rfl (Or.inl rfl) ((mz_up_ne (by decide)).trans (hB 69 2 (by decide))) ?_
  refine mm_g 2 (pc1 := 21) (lo1 := [some (.ref 69)]) (st1 := [.int (Int32.ofInt 0), .ref 69]) (H1 := (mb 70 mbR66 (mz_up gB 0 0 (-1)) so L 1349)) rfl ?_
  refine mb_p0 rfl rfl rfl (Or.inl rfl) ((mz_up_ne (by decide)).trans (hB 69 3 (by decide))) ?_
  refine mm_g 2 (pc1 := 26) (lo1 := [some (.ref 69)]) (st1 := [.int (Int32.ofInt 0), .ref 69]) (H1 := (mb 70 mbR66 (mz_up gB 0 0 (-1)) so L 1349)) rfl ?_
  refine mb_p0 rfl rfl rfl (Or.inr rfl) ((mz_up_ne (by decide)).trans (hB 69 4 (by decide))) ?_
  refine mm_rt rfl rfl ⟨none, rfl, ?_⟩
  show mm_W (((d - 1) - 1) - 1) mmX9_init 21 [some (.ref 67), none] [.ref 69, .ref 67] (mb 70 mbR66 (mz_up gB 0 0 (-1)) so L 1349) _
  refine mb_pR E136 rfl rfl (by decide) rfl (Or.inr ⟨rfl, rfl, rfl⟩) ?_
  have E137 : mb_E mbR67 70 := mb_E_set (k := 1) (v := 69) E136 (by decide : 67 < 70) (by decide)
  change mm_W _ _ _ _ _ (mb 70 mbR67 (mz_up gB 0 0 (-1)) so L 1349) _
  refine mm_g 2 (pc1 := 26) (lo1 := [some (.ref 67), none]) (st1 := [.int (Int32.ofInt 0), .ref 67]) (H1 := (mb 70 mbR67 (mz_up gB 0 0 (-1)) so L 1349)) rfl ?_
  refine mb_p0 rfl rfl rfl (Or.inl rfl) ((mz_up_ne (by decide)).trans (hB 67 2 (by decide))) ?_
  refine mm_g 2 (pc1 := 31) (lo1 := [some (.ref 67), none]) (st1 := [.int (Int32.ofInt 0), .ref 67]) (H1 := (mb 70 mbR67 (mz_up gB 0 0 (-1)) so L 1349)) rfl ?_
  refine mb_p0 rfl rfl rfl (Or.inl rfl) ((mz_up_ne (by decide)).trans (hB 67 3 (by decide))) ?_
  refine mm_g 4 (pc1 := 38) (lo1 := [some (.ref 67), some (.int (Int32.ofInt 0))]) (st1 := [.ref 67, .int (Int32.ofInt 0)]) (H1 := (mb 70 mbR67 (mz_up gB 0 0 (-1)) so L 1349)) rfl ?_
  refine mb_gf (v := 68) (kd := 4) rfl rfl rfl rfl (by decide) ((mb_g2 E136 (by decide) (by decide)).trans (mb_g1 E134 (by decide))) ?_
  refine mb_al (t := 104) (c := 6) rfl rfl (by decide) ?_
  refine mz_ic_ge (a := 0) (b := 6) (tgt := 64) rfl rfl ⟨by decide, by decide⟩ ⟨by decide, by decide⟩ (fun z => absurd z (by decide)) (fun _ => ?_)
  refine mm_g 1 (pc1 := 46) (lo1 := [some (.ref 67), some (.int (Int32.ofInt 0))]) (st1 := [.ref 67]) (H1 := (mb 70 mbR67 (mz_up gB 0 0 (-1)) so L 1349)) rfl ?_
  refine mb_gf (v := 68) (kd := 4) rfl rfl rfl rfl (by decide) ((mb_g2 E136 (by decide) (by decide)).trans (mb_g1 E134 (by decide))) ?_
  refine mm_g 1 (pc1 := 50) (lo1 := [some (.ref 67), some (.int (Int32.ofInt 0))]) (st1 := [.int (Int32.ofInt 0), .ref 68]) (H1 := (mb 70 mbR67 (mz_up gB 0 0 (-1)) so L 1349)) rfl ?_
  refine mb_new (sl2 := 1354) E137 rfl rfl (by decide) rfl rfl (fun j => ((mz_up_ne (fun h => absurd h.1 (by decide))).trans (hB 70 j (by decide)))) ?_
  have E138 := mb_E_up E137
  refine mm_g 1 (pc1 := 54) (lo1 := [some (.ref 67), some (.int (Int32.ofInt 0))]) (st1 := [.ref 70, .ref 70, .int (Int32.ofInt 0), .ref 68]) (H1 := (mb 71 mbR67 (mz_up gB 0 0 (-1)) so L 1354)) rfl ?_
  refine mb_cl (b := 70) rfl rfl rfl (Nat.le_of_ble_eq_true rfl) (by omega) ?_
  refine ⟨mmX8_init, [some (.ref 70)], rfl, rfl, ?_⟩
  refine mm_g 1 (pc1 := 1) (lo1 := [some (.ref 70)]) (st1 := [.ref 70]) (H1 := (mb 71 mbR67 (mz_up gB 0 0 (-1)) so L 1354)) rfl ?_
  refine mb_obj rfl rfl (Nat.le_of_ble_eq_true rfl) (by omega) ?_
  refine mm_g 2 (pc1 := 6) (lo1 := [some (.ref 70)]) (st1 := [.int (Int32.ofInt 0), .ref 70]) (H1 := (mb 71 mbR67 (mz_up gB 0 0 (-1)) so L 1354)) rfl ?_
  refine mb_p0 rfl rfl rfl (Or.inl rfl) ((mz_up_ne (by decide)).trans (hB 70 0 (by decide))) ?_
  refine mm_g 2 (pc1 := 11) (lo1 := [some (.ref 70)]) (st1 := [.int (Int32.ofInt 0), .ref 70]) (H1 := (mb 71 mbR67 (mz_up gB 0 0 (-1)) so L 1354)) rfl ?_
  refine mb_p0 rfl rfl rfl (Or.inl rfl) ((mz_up_ne (by decide)).trans (hB 70 1 (by decide))) ?_
  refine mm_g 2 (pc1 := 16) (lo1 := [some (.ref 70)]) (st1 := [.int (Int32.ofInt 0), .ref 70]) (H1 := (mb 71 mbR67 (mz_up gB 0 0 (-1)) so L 1354)) rfl ?_
  refine mb_p0 rfl rfl rfl (Or.inl rfl) ((mz_up_ne (by decide)).trans (hB 70 2 (by decide))) ?_
  refine mm_g 2 (pc1 := 21) (lo1 := [some (.ref 70)]) (st1 := [.int (Int32.ofInt 0), .ref 70]) (H1 := (mb 71 mbR67 (mz_up gB 0 0 (-1)) so L 1354)) rfl ?_
  refine mb_p0 rfl rfl rfl (Or.inl rfl) ((mz_up_ne (by decide)).trans (hB 70 3 (by decide))) ?_
  refine mm_g 2 (pc1 := 26) (lo1 := [some (.ref 70)]) (st1 := [.int (Int32.ofInt 0), .ref 70]) (H1 := (mb 71 mbR67 (mz_up gB 0 0 (-1)) so L 1354)) rfl ?_
  refine mb_p0 rfl rfl rfl (Or.inr rfl) ((mz_up_ne (by decide)).trans (hB 70 4 (by decide))) ?_
  refine mm_rt rfl rfl ⟨none, rfl, ?_⟩
  show mm_W (((d - 1) - 1) - 1) mmX9_init 57 [some (.ref 67), some (.int (Int32.ofInt 0))] [.ref 70, .int (Int32.ofInt 0), .ref 68] (mb 71 mbR67 (mz_up gB 0 0 (-1)) so L 1354) _
  refine mb_aa (len := 6) (c := 0) E138 rfl (by decide) (Or.inr (Or.inl ⟨rfl, rfl⟩)) rfl (by decide) (by decide) ?_
  have E139 : mb_E mbR68 71 := mb_E_set (k := 0) (v := 70) E138 (by decide : 68 < 71) (by decide)
  change mm_W _ _ _ _ _ (mb 71 mbR68 (mz_up gB 0 0 (-1)) so L 1354) _
  refine mz_iincR (v := 0) (lo2 := [some (.ref 67), some (.int (Int32.ofInt 1))]) rfl rfl rfl (Nat.le_of_ble_eq_true rfl) rfl ?_
  refine mz_gt (tgt := 36) rfl rfl ?_
  refine mm_g 2 (pc1 := 38) (lo1 := [some (.ref 67), some (.int (Int32.ofInt 1))]) (st1 := [.ref 67, .int (Int32.ofInt 1)]) (H1 := (mb 71 mbR68 (mz_up gB 0 0 (-1)) so L 1354)) rfl ?_
  refine mb_gf (v := 68) (kd := 4) rfl rfl rfl rfl (by decide) ((mb_g2 E138 (by decide) (by decide)).trans ((mb_g2 E136 (by decide) (by decide)).trans (mb_g1 E134 (by decide)))) ?_
  refine mb_al (t := 104) (c := 6) rfl rfl (by decide) ?_
  refine mz_ic_ge (a := 1) (b := 6) (tgt := 64) rfl rfl ⟨by decide, by decide⟩ ⟨by decide, by decide⟩ (fun z => absurd z (by decide)) (fun _ => ?_)
  refine mm_g 1 (pc1 := 46) (lo1 := [some (.ref 67), some (.int (Int32.ofInt 1))]) (st1 := [.ref 67]) (H1 := (mb 71 mbR68 (mz_up gB 0 0 (-1)) so L 1354)) rfl ?_
  refine mb_gf (v := 68) (kd := 4) rfl rfl rfl rfl (by decide) ((mb_g2 E138 (by decide) (by decide)).trans ((mb_g2 E136 (by decide) (by decide)).trans (mb_g1 E134 (by decide)))) ?_
  refine mm_g 1 (pc1 := 50) (lo1 := [some (.ref 67), some (.int (Int32.ofInt 1))]) (st1 := [.int (Int32.ofInt 1), .ref 68]) (H1 := (mb 71 mbR68 (mz_up gB 0 0 (-1)) so L 1354)) rfl ?_
  refine mb_new (sl2 := 1359) E139 rfl rfl (by decide) rfl rfl (fun j => ((mz_up_ne (fun h => absurd h.1 (by decide))).trans (hB 71 j (by decide)))) ?_
  have E140 := mb_E_up E139
  refine mm_g 1 (pc1 := 54) (lo1 := [some (.ref 67), some (.int (Int32.ofInt 1))]) (st1 := [.ref 71, .ref 71, .int (Int32.ofInt 1), .ref 68]) (H1 := (mb 72 mbR68 (mz_up gB 0 0 (-1)) so L 1359)) rfl ?_
  refine mb_cl (b := 71) rfl rfl rfl (Nat.le_of_ble_eq_true rfl) (by omega) ?_
  refine ⟨mmX8_init, [some (.ref 71)], rfl, rfl, ?_⟩
  refine mm_g 1 (pc1 := 1) (lo1 := [some (.ref 71)]) (st1 := [.ref 71]) (H1 := (mb 72 mbR68 (mz_up gB 0 0 (-1)) so L 1359)) rfl ?_
  refine mb_obj rfl rfl (Nat.le_of_ble_eq_true rfl) (by omega) ?_
  refine mm_g 2 (pc1 := 6) (lo1 := [some (.ref 71)]) (st1 := [.int (Int32.ofInt 0), .ref 71]) (H1 := (mb 72 mbR68 (mz_up gB 0 0 (-1)) so L 1359)) rfl ?_
  refine mb_p0 rfl rfl rfl (Or.inl rfl) ((mz_up_ne (by decide)).trans (hB 71 0 (by decide))) ?_
  refine mm_g 2 (pc1 := 11) (lo1 := [some (.ref 71)]) (st1 := [.int (Int32.ofInt 0), .ref 71]) (H1 := (mb 72 mbR68 (mz_up gB 0 0 (-1)) so L 1359)) rfl ?_
  refine mb_p0 rfl rfl rfl (Or.inl rfl) ((mz_up_ne (by decide)).trans (hB 71 1 (by decide))) ?_
  refine mm_g 2 (pc1 := 16) (lo1 := [some (.ref 71)]) (st1 := [.int (Int32.ofInt 0), .ref 71]) (H1 := (mb 72 mbR68 (mz_up gB 0 0 (-1)) so L 1359)) rfl ?_
  refine mb_p0 rfl rfl rfl (Or.inl rfl) ((mz_up_ne (by decide)).trans (hB 71 2 (by decide))) ?_
  refine mm_g 2 (pc1 := 21) (lo1 := [some (.ref 71)]) (st1 := [.int (Int32.ofInt 0), .ref 71]) (H1 := (mb 72 mbR68 (mz_up gB 0 0 (-1)) so L 1359)) rfl ?_
  refine mb_p0 rfl rfl rfl (Or.inl rfl) ((mz_up_ne (by decide)).trans (hB 71 3 (by decide))) ?_
  refine mm_g 2 (pc1 := 26) (lo1 := [some (.ref 71)]) (st1 := [.int (Int32.ofInt 0), .ref 71]) (H1 := (mb 72 mbR68 (mz_up gB 0 0 (-1)) so L 1359)) rfl ?_
  refine mb_p0 rfl rfl rfl (Or.inr rfl) ((mz_up_ne (by decide)).trans (hB 71 4 (by decide))) ?_
  refine mm_rt rfl rfl ⟨none, rfl, ?_⟩
  show mm_W (((d - 1) - 1) - 1) mmX9_init 57 [some (.ref 67), some (.int (Int32.ofInt 1))] [.ref 71, .int (Int32.ofInt 1), .ref 68] (mb 72 mbR68 (mz_up gB 0 0 (-1)) so L 1359) _
  refine mb_aa (len := 6) (c := 1) E140 rfl (by decide) (Or.inr (Or.inl ⟨rfl, rfl⟩)) rfl (by decide) (by decide) ?_
  have E141 : mb_E mbR69 72 := mb_E_set (k := 1) (v := 71) E140 (by decide : 68 < 72) (by decide)
  change mm_W _ _ _ _ _ (mb 72 mbR69 (mz_up gB 0 0 (-1)) so L 1359) _
  refine mz_iincR (v := 1) (lo2 := [some (.ref 67), some (.int (Int32.ofInt 2))]) rfl rfl rfl (Nat.le_of_ble_eq_true rfl) rfl ?_
  refine mz_gt (tgt := 36) rfl rfl ?_
  refine mm_g 2 (pc1 := 38) (lo1 := [some (.ref 67), some (.int (Int32.ofInt 2))]) (st1 := [.ref 67, .int (Int32.ofInt 2)]) (H1 := (mb 72 mbR69 (mz_up gB 0 0 (-1)) so L 1359)) rfl ?_
  refine mb_gf (v := 68) (kd := 4) rfl rfl rfl rfl (by decide) ((mb_g2 E140 (by decide) (by decide)).trans ((mb_g2 E138 (by decide) (by decide)).trans ((mb_g2 E136 (by decide) (by decide)).trans (mb_g1 E134 (by decide))))) ?_
  refine mb_al (t := 104) (c := 6) rfl rfl (by decide) ?_
  refine mz_ic_ge (a := 2) (b := 6) (tgt := 64) rfl rfl ⟨by decide, by decide⟩ ⟨by decide, by decide⟩ (fun z => absurd z (by decide)) (fun _ => ?_)
  refine mm_g 1 (pc1 := 46) (lo1 := [some (.ref 67), some (.int (Int32.ofInt 2))]) (st1 := [.ref 67]) (H1 := (mb 72 mbR69 (mz_up gB 0 0 (-1)) so L 1359)) rfl ?_
  refine mb_gf (v := 68) (kd := 4) rfl rfl rfl rfl (by decide) ((mb_g2 E140 (by decide) (by decide)).trans ((mb_g2 E138 (by decide) (by decide)).trans ((mb_g2 E136 (by decide) (by decide)).trans (mb_g1 E134 (by decide))))) ?_
  refine mm_g 1 (pc1 := 50) (lo1 := [some (.ref 67), some (.int (Int32.ofInt 2))]) (st1 := [.int (Int32.ofInt 2), .ref 68]) (H1 := (mb 72 mbR69 (mz_up gB 0 0 (-1)) so L 1359)) rfl ?_
  refine mb_new (sl2 := 1364) E141 rfl rfl (by decide) rfl rfl (fun j => ((mz_up_ne (fun h => absurd h.1 (by decide))).trans (hB 72 j (by decide)))) ?_
  have E142 := mb_E_up E141
  refine mm_g 1 (pc1 := 54) (lo1 := [some (.ref 67), some (.int (Int32.ofInt 2))]) (st1 := [.ref 72, .ref 72, .int (Int32.ofInt 2), .ref 68]) (H1 := (mb 73 mbR69 (mz_up gB 0 0 (-1)) so L 1364)) rfl ?_
  refine mb_cl (b := 72) rfl rfl rfl (Nat.le_of_ble_eq_true rfl) (by omega) ?_
  refine ⟨mmX8_init, [some (.ref 72)], rfl, rfl, ?_⟩
  refine mm_g 1 (pc1 := 1) (lo1 := [some (.ref 72)]) (st1 := [.ref 72]) (H1 := (mb 73 mbR69 (mz_up gB 0 0 (-1)) so L 1364)) rfl ?_
  refine mb_obj rfl rfl (Nat.le_of_ble_eq_true rfl) (by omega) ?_
  refine mm_g 2 (pc1 := 6) (lo1 := [some (.ref 72)]) (st1 := [.int (Int32.ofInt 0), .ref 72]) (H1 := (mb 73 mbR69 (mz_up gB 0 0 (-1)) so L 1364)) rfl ?_
  refine mb_p0 rfl rfl rfl (Or.inl rfl) ((mz_up_ne (by decide)).trans (hB 72 0 (by decide))) ?_
  refine mm_g 2 (pc1 := 11) (lo1 := [some (.ref 72)]) (st1 := [.int (Int32.ofInt 0), .ref 72]) (H1 := (mb 73 mbR69 (mz_up gB 0 0 (-1)) so L 1364)) rfl ?_
  refine mb_p0 rfl rfl rfl (Or.inl rfl) ((mz_up_ne (by decide)).trans (hB 72 1 (by decide))) ?_
  refine mm_g 2 (pc1 := 16) (lo1 := [some (.ref 72)]) (st1 := [.int (Int32.ofInt 0), .ref 72]) (H1 := (mb 73 mbR69 (mz_up gB 0 0 (-1)) so L 1364)) rfl ?_
  refine mb_p0 rfl rfl rfl (Or.inl rfl) ((mz_up_ne (by decide)).trans (hB 72 2 (by decide))) ?_
  refine mm_g 2 (pc1 := 21) (lo1 := [some (.ref 72)]) (st1 := [.int (Int32.ofInt 0), .ref 72]) (H1 := (mb 73 mbR69 (mz_up gB 0 0 (-1)) so L 1364)) rfl ?_
  refine mb_p0 rfl rfl rfl (Or.inl rfl) ((mz_up_ne (by decide)).trans (hB 72 3 (by decide))) ?_
  refine mm_g 2 (pc1 := 26) (lo1 := [some (.ref 72)]) (st1 := [.int (Int32.ofInt 0), .ref 72]) (H1 := (mb 73 mbR69 (mz_up gB 0 0 (-1)) so L 1364)) rfl ?_
  refine mb_p0 rfl rfl rfl (Or.inr rfl) ((mz_up_ne (by decide)).trans (hB 72 4 (by decide))) ?_
  refine mm_rt rfl rfl ⟨none, rfl, ?_⟩
  show mm_W (((d - 1) - 1) - 1) mmX9_init 57 [some (.ref 67), some (.int (Int32.ofInt 2))] [.ref 72, .int (Int32.ofInt 2), .ref 68] (mb 73 mbR69 (mz_up gB 0 0 (-1)) so L 1364) _
  refine mb_aa (len := 6) (c := 2) E142 rfl (by decide) (Or.inr (Or.inl ⟨rfl, rfl⟩)) rfl (by decide) (by decide) ?_
  have E143 : mb_E mbR70 73 := mb_E_set (k := 2) (v := 72) E142 (by decide : 68 < 73) (by decide)
  change mm_W _ _ _ _ _ (mb 73 mbR70 (mz_up gB 0 0 (-1)) so L 1364) _
  refine mz_iincR (v := 2) (lo2 := [some (.ref 67), some (.int (Int32.ofInt 3))]) rfl rfl rfl (Nat.le_of_ble_eq_true rfl) rfl ?_
  refine mz_gt (tgt := 36) rfl rfl ?_
  refine mm_g 2 (pc1 := 38) (lo1 := [some (.ref 67), some (.int (Int32.ofInt 3))]) (st1 := [.ref 67, .int (Int32.ofInt 3)]) (H1 := (mb 73 mbR70 (mz_up gB 0 0 (-1)) so L 1364)) rfl ?_
  refine mb_gf (v := 68) (kd := 4) rfl rfl rfl rfl (by decide) ((mb_g2 E142 (by decide) (by decide)).trans ((mb_g2 E140 (by decide) (by decide)).trans ((mb_g2 E138 (by decide) (by decide)).trans ((mb_g2 E136 (by decide) (by decide)).trans (mb_g1 E134 (by decide)))))) ?_
  refine mb_al (t := 104) (c := 6) rfl rfl (by decide) ?_
  refine mz_ic_ge (a := 3) (b := 6) (tgt := 64) rfl rfl ⟨by decide, by decide⟩ ⟨by decide, by decide⟩ (fun z => absurd z (by decide)) (fun _ => ?_)
  refine mm_g 1 (pc1 := 46) (lo1 := [some (.ref 67), some (.int (Int32.ofInt 3))]) (st1 := [.ref 67]) (H1 := (mb 73 mbR70 (mz_up gB 0 0 (-1)) so L 1364)) rfl ?_
  refine mb_gf (v := 68) (kd := 4) rfl rfl rfl rfl (by decide) ((mb_g2 E142 (by decide) (by decide)).trans ((mb_g2 E140 (by decide) (by decide)).trans ((mb_g2 E138 (by decide) (by decide)).trans ((mb_g2 E136 (by decide) (by decide)).trans (mb_g1 E134 (by decide)))))) ?_
  refine mm_g 1 (pc1 := 50) (lo1 := [some (.ref 67), some (.int (Int32.ofInt 3))]) (st1 := [.int (Int32.ofInt 3), .ref 68]) (H1 := (mb 73 mbR70 (mz_up gB 0 0 (-1)) so L 1364)) rfl ?_
  refine mb_new (sl2 := 1369) E143 rfl rfl (by decide) rfl rfl (fun j => ((mz_up_ne (fun h => absurd h.1 (by decide))).trans (hB 73 j (by decide)))) ?_
  have E144 := mb_E_up E143
  refine mm_g 1 (pc1 := 54) (lo1 := [some (.ref 67), some (.int (Int32.ofInt 3))]) (st1 := [.ref 73, .ref 73, .int (Int32.ofInt 3), .ref 68]) (H1 := (mb 74 mbR70 (mz_up gB 0 0 (-1)) so L 1369)) rfl ?_
  refine mb_cl (b := 73) rfl rfl rfl (Nat.le_of_ble_eq_true rfl) (by omega) ?_
  refine ⟨mmX8_init, [some (.ref 73)], rfl, rfl, ?_⟩
  refine mm_g 1 (pc1 := 1) (lo1 := [some (.ref 73)]) (st1 := [.ref 73]) (H1 := (mb 74 mbR70 (mz_up gB 0 0 (-1)) so L 1369)) rfl ?_
  refine mb_obj rfl rfl (Nat.le_of_ble_eq_true rfl) (by omega) ?_
  refine mm_g 2 (pc1 := 6) (lo1 := [some (.ref 73)]) (st1 := [.int (Int32.ofInt 0), .ref 73]) (H1 := (mb 74 mbR70 (mz_up gB 0 0 (-1)) so L 1369)) rfl ?_
  refine mb_p0 rfl rfl rfl (Or.inl rfl) ((mz_up_ne (by decide)).trans (hB 73 0 (by decide))) ?_
  refine mm_g 2 (pc1 := 11) (lo1 := [some (.ref 73)]) (st1 := [.int (Int32.ofInt 0), .ref 73]) (H1 := (mb 74 mbR70 (mz_up gB 0 0 (-1)) so L 1369)) rfl ?_
  refine mb_p0 rfl rfl rfl (Or.inl rfl) ((mz_up_ne (by decide)).trans (hB 73 1 (by decide))) ?_
  refine mm_g 2 (pc1 := 16) (lo1 := [some (.ref 73)]) (st1 := [.int (Int32.ofInt 0), .ref 73]) (H1 := (mb 74 mbR70 (mz_up gB 0 0 (-1)) so L 1369)) rfl ?_
  refine mb_p0 rfl rfl rfl (Or.inl rfl) ((mz_up_ne (by decide)).trans (hB 73 2 (by decide))) ?_
  refine mm_g 2 (pc1 := 21) (lo1 := [some (.ref 73)]) (st1 := [.int (Int32.ofInt 0), .ref 73]) (H1 := (mb 74 mbR70 (mz_up gB 0 0 (-1)) so L 1369)) rfl ?_
  refine mb_p0 rfl rfl rfl (Or.inl rfl) ((mz_up_ne (by decide)).trans (hB 73 3 (by decide))) ?_
  refine mm_g 2 (pc1 := 26) (lo1 := [some (.ref 73)]) (st1 := [.int (Int32.ofInt 0), .ref 73]) (H1 := (mb 74 mbR70 (mz_up gB 0 0 (-1)) so L 1369)) rfl ?_
  refine mb_p0 rfl rfl rfl (Or.inr rfl) ((mz_up_ne (by decide)).trans (hB 73 4 (by decide))) ?_
  refine mm_rt rfl rfl ⟨none, rfl, ?_⟩
  show mm_W (((d - 1) - 1) - 1) mmX9_init 57 [some (.ref 67), some (.int (Int32.ofInt 3))] [.ref 73, .int (Int32.ofInt 3), .ref 68] (mb 74 mbR70 (mz_up gB 0 0 (-1)) so L 1369) _
  refine mb_aa (len := 6) (c := 3) E144 rfl (by decide) (Or.inr (Or.inl ⟨rfl, rfl⟩)) rfl (by decide) (by decide) ?_
  have E145 : mb_E mbR71 74 := mb_E_set (k := 3) (v := 73) E144 (by decide : 68 < 74) (by decide)
  change mm_W _ _ _ _ _ (mb 74 mbR71 (mz_up gB 0 0 (-1)) so L 1369) _
  refine mz_iincR (v := 3) (lo2 := [some (.ref 67), some (.int (Int32.ofInt 4))]) rfl rfl rfl (Nat.le_of_ble_eq_true rfl) rfl ?_
  refine mz_gt (tgt := 36) rfl rfl ?_
  refine mm_g 2 (pc1 := 38) (lo1 := [some (.ref 67), some (.int (Int32.ofInt 4))]) (st1 := [.ref 67, .int (Int32.ofInt 4)]) (H1 := (mb 74 mbR71 (mz_up gB 0 0 (-1)) so L 1369)) rfl ?_
  refine mb_gf (v := 68) (kd := 4) rfl rfl rfl rfl (by decide) ((mb_g2 E144 (by decide) (by decide)).trans ((mb_g2 E142 (by decide) (by decide)).trans ((mb_g2 E140 (by decide) (by decide)).trans ((mb_g2 E138 (by decide) (by decide)).trans ((mb_g2 E136 (by decide) (by decide)).trans (mb_g1 E134 (by decide))))))) ?_
  refine mb_al (t := 104) (c := 6) rfl rfl (by decide) ?_
  refine mz_ic_ge (a := 4) (b := 6) (tgt := 64) rfl rfl ⟨by decide, by decide⟩ ⟨by decide, by decide⟩ (fun z => absurd z (by decide)) (fun _ => ?_)
  refine mm_g 1 (pc1 := 46) (lo1 := [some (.ref 67), some (.int (Int32.ofInt 4))]) (st1 := [.ref 67]) (H1 := (mb 74 mbR71 (mz_up gB 0 0 (-1)) so L 1369)) rfl ?_
  refine mb_gf (v := 68) (kd := 4) rfl rfl rfl rfl (by decide) ((mb_g2 E144 (by decide) (by decide)).trans ((mb_g2 E142 (by decide) (by decide)).trans ((mb_g2 E140 (by decide) (by decide)).trans ((mb_g2 E138 (by decide) (by decide)).trans ((mb_g2 E136 (by decide) (by decide)).trans (mb_g1 E134 (by decide))))))) ?_
  refine mm_g 1 (pc1 := 50) (lo1 := [some (.ref 67), some (.int (Int32.ofInt 4))]) (st1 := [.int (Int32.ofInt 4), .ref 68]) (H1 := (mb 74 mbR71 (mz_up gB 0 0 (-1)) so L 1369)) rfl ?_
  refine mb_new (sl2 := 1374) E145 rfl rfl (by decide) rfl rfl (fun j => ((mz_up_ne (fun h => absurd h.1 (by decide))).trans (hB 74 j (by decide)))) ?_
  have E146 := mb_E_up E145
  refine mm_g 1 (pc1 := 54) (lo1 := [some (.ref 67), some (.int (Int32.ofInt 4))]) (st1 := [.ref 74, .ref 74, .int (Int32.ofInt 4), .ref 68]) (H1 := (mb 75 mbR71 (mz_up gB 0 0 (-1)) so L 1374)) rfl ?_
  refine mb_cl (b := 74) rfl rfl rfl (Nat.le_of_ble_eq_true rfl) (by omega) ?_
  refine ⟨mmX8_init, [some (.ref 74)], rfl, rfl, ?_⟩
  refine mm_g 1 (pc1 := 1) (lo1 := [some (.ref 74)]) (st1 := [.ref 74]) (H1 := (mb 75 mbR71 (mz_up gB 0 0 (-1)) so L 1374)) rfl ?_
  refine mb_obj rfl rfl (Nat.le_of_ble_eq_true rfl) (by omega) ?_
  refine mm_g 2 (pc1 := 6) (lo1 := [some (.ref 74)]) (st1 := [.int (Int32.ofInt 0), .ref 74]) (H1 := (mb 75 mbR71 (mz_up gB 0 0 (-1)) so L 1374)) rfl ?_
  refine mb_p0 rfl rfl rfl (Or.inl rfl) ((mz_up_ne (by decide)).trans (hB 74 0 (by decide))) ?_
  refine mm_g 2 (pc1 := 11) (lo1 := [some (.ref 74)]) (st1 := [.int (Int32.ofInt 0), .ref 74]) (H1 := (mb 75 mbR71 (mz_up gB 0 0 (-1)) so L 1374)) rfl ?_
  refine mb_p0 rfl rfl rfl (Or.inl rfl) ((mz_up_ne (by decide)).trans (hB 74 1 (by decide))) ?_
  refine mm_g 2 (pc1 := 16) (lo1 := [some (.ref 74)]) (st1 := [.int (Int32.ofInt 0), .ref 74]) (H1 := (mb 75 mbR71 (mz_up gB 0 0 (-1)) so L 1374)) rfl ?_
  refine mb_p0 rfl rfl rfl (Or.inl rfl) ((mz_up_ne (by decide)).trans (hB 74 2 (by decide))) ?_
  refine mm_g 2 (pc1 := 21) (lo1 := [some (.ref 74)]) (st1 := [.int (Int32.ofInt 0), .ref 74]) (H1 := (mb 75 mbR71 (mz_up gB 0 0 (-1)) so L 1374)) rfl ?_
  refine mb_p0 rfl rfl rfl (Or.inl rfl) ((mz_up_ne (by decide)).trans (hB 74 3 (by decide))) ?_
  refine mm_g 2 (pc1 := 26) (lo1 := [some (.ref 74)]) (st1 := [.int (Int32.ofInt 0), .ref 74]) (H1 := (mb 75 mbR71 (mz_up gB 0 0 (-1)) so L 1374)) rfl ?_
  refine mb_p0 rfl rfl rfl (Or.inr rfl) ((mz_up_ne (by decide)).trans (hB 74 4 (by decide))) ?_
  refine mm_rt rfl rfl ⟨none, rfl, ?_⟩
  show mm_W (((d - 1) - 1) - 1) mmX9_init 57 [some (.ref 67), some (.int (Int32.ofInt 4))] [.ref 74, .int (Int32.ofInt 4), .ref 68] (mb 75 mbR71 (mz_up gB 0 0 (-1)) so L 1374) _
  refine mb_aa (len := 6) (c := 4) E146 rfl (by decide) (Or.inr (Or.inl ⟨rfl, rfl⟩)) rfl (by decide) (by decide) ?_
  have E147 : mb_E mbR72 75 := mb_E_set (k := 4) (v := 74) E146 (by decide : 68 < 75) (by decide)
  change mm_W _ _ _ _ _ (mb 75 mbR72 (mz_up gB 0 0 (-1)) so L 1374) _
  refine mz_iincR (v := 4) (lo2 := [some (.ref 67), some (.int (Int32.ofInt 5))]) rfl rfl rfl (Nat.le_of_ble_eq_true rfl) rfl ?_
  refine mz_gt (tgt := 36) rfl rfl ?_
  refine mm_g 2 (pc1 := 38) (lo1 := [some (.ref 67), some (.int (Int32.ofInt 5))]) (st1 := [.ref 67, .int (Int32.ofInt 5)]) (H1 := (mb 75 mbR72 (mz_up gB 0 0 (-1)) so L 1374)) rfl ?_
  refine mb_gf (v := 68) (kd := 4) rfl rfl rfl rfl (by decide) ((mb_g2 E146 (by decide) (by decide)).trans ((mb_g2 E144 (by decide) (by decide)).trans ((mb_g2 E142 (by decide) (by decide)).trans ((mb_g2 E140 (by decide) (by decide)).trans ((mb_g2 E138 (by decide) (by decide)).trans ((mb_g2 E136 (by decide) (by decide)).trans (mb_g1 E134 (by decide)))))))) ?_
  refine mb_al (t := 104) (c := 6) rfl rfl (by decide) ?_
  refine mz_ic_ge (a := 5) (b := 6) (tgt := 64) rfl rfl ⟨by decide, by decide⟩ ⟨by decide, by decide⟩ (fun z => absurd z (by decide)) (fun _ => ?_)
  refine mm_g 1 (pc1 := 46) (lo1 := [some (.ref 67), some (.int (Int32.ofInt 5))]) (st1 := [.ref 67]) (H1 := (mb 75 mbR72 (mz_up gB 0 0 (-1)) so L 1374)) rfl ?_
  refine mb_gf (v := 68) (kd := 4) rfl rfl rfl rfl (by decide) ((mb_g2 E146 (by decide) (by decide)).trans ((mb_g2 E144 (by decide) (by decide)).trans ((mb_g2 E142 (by decide) (by decide)).trans ((mb_g2 E140 (by decide) (by decide)).trans ((mb_g2 E138 (by decide) (by decide)).trans ((mb_g2 E136 (by decide) (by decide)).trans (mb_g1 E134 (by decide)))))))) ?_
  refine mm_g 1 (pc1 := 50) (lo1 := [some (.ref 67), some (.int (Int32.ofInt 5))]) (st1 := [.int (Int32.ofInt 5), .ref 68]) (H1 := (mb 75 mbR72 (mz_up gB 0 0 (-1)) so L 1374)) rfl ?_
  refine mb_new (sl2 := 1379) E147 rfl rfl (by decide) rfl rfl (fun j => ((mz_up_ne (fun h => absurd h.1 (by decide))).trans (hB 75 j (by decide)))) ?_
  have E148 := mb_E_up E147
  refine mm_g 1 (pc1 := 54) (lo1 := [some (.ref 67), some (.int (Int32.ofInt 5))]) (st1 := [.ref 75, .ref 75, .int (Int32.ofInt 5), .ref 68]) (H1 := (mb 76 mbR72 (mz_up gB 0 0 (-1)) so L 1379)) rfl ?_
  refine mb_cl (b := 75) rfl rfl rfl (Nat.le_of_ble_eq_true rfl) (by omega) ?_
  refine ⟨mmX8_init, [some (.ref 75)], rfl, rfl, ?_⟩
  refine mm_g 1 (pc1 := 1) (lo1 := [some (.ref 75)]) (st1 := [.ref 75]) (H1 := (mb 76 mbR72 (mz_up gB 0 0 (-1)) so L 1379)) rfl ?_
  refine mb_obj rfl rfl (Nat.le_of_ble_eq_true rfl) (by omega) ?_
  refine mm_g 2 (pc1 := 6) (lo1 := [some (.ref 75)]) (st1 := [.int (Int32.ofInt 0), .ref 75]) (H1 := (mb 76 mbR72 (mz_up gB 0 0 (-1)) so L 1379)) rfl ?_
  refine mb_p0 rfl rfl rfl (Or.inl rfl) ((mz_up_ne (by decide)).trans (hB 75 0 (by decide))) ?_
  refine mm_g 2 (pc1 := 11) (lo1 := [some (.ref 75)]) (st1 := [.int (Int32.ofInt 0), .ref 75]) (H1 := (mb 76 mbR72 (mz_up gB 0 0 (-1)) so L 1379)) rfl ?_
  refine mb_p0 rfl rfl rfl (Or.inl rfl) ((mz_up_ne (by decide)).trans (hB 75 1 (by decide))) ?_
  refine mm_g 2 (pc1 := 16) (lo1 := [some (.ref 75)]) (st1 := [.int (Int32.ofInt 0), .ref 75]) (H1 := (mb 76 mbR72 (mz_up gB 0 0 (-1)) so L 1379)) rfl ?_
  refine mb_p0 rfl rfl rfl (Or.inl rfl) ((mz_up_ne (by decide)).trans (hB 75 2 (by decide))) ?_
  refine mm_g 2 (pc1 := 21) (lo1 := [some (.ref 75)]) (st1 := [.int (Int32.ofInt 0), .ref 75]) (H1 := (mb 76 mbR72 (mz_up gB 0 0 (-1)) so L 1379)) rfl ?_
  refine mb_p0 rfl rfl rfl (Or.inl rfl) ((mz_up_ne (by decide)).trans (hB 75 3 (by decide))) ?_
  refine mm_g 2 (pc1 := 26) (lo1 := [some (.ref 75)]) (st1 := [.int (Int32.ofInt 0), .ref 75]) (H1 := (mb 76 mbR72 (mz_up gB 0 0 (-1)) so L 1379)) rfl ?_
  refine mb_p0 rfl rfl rfl (Or.inr rfl) ((mz_up_ne (by decide)).trans (hB 75 4 (by decide))) ?_
  refine mm_rt rfl rfl ⟨none, rfl, ?_⟩
  show mm_W (((d - 1) - 1) - 1) mmX9_init 57 [some (.ref 67), some (.int (Int32.ofInt 5))] [.ref 75, .int (Int32.ofInt 5), .ref 68] (mb 76 mbR72 (mz_up gB 0 0 (-1)) so L 1379) _
  refine mb_aa (len := 6) (c := 5) E148 rfl (by decide) (Or.inr (Or.inl ⟨rfl, rfl⟩)) rfl (by decide) (by decide) ?_
  have E149 : mb_E mbR73 76 := mb_E_set (k := 5) (v := 75) E148 (by decide : 68 < 76) (by decide)
  change mm_W _ _ _ _ _ (mb 76 mbR73 (mz_up gB 0 0 (-1)) so L 1379) _
  refine mz_iincR (v := 5) (lo2 := [some (.ref 67), some (.int (Int32.ofInt 6))]) rfl rfl rfl (Nat.le_of_ble_eq_true rfl) rfl ?_
  refine mz_gt (tgt := 36) rfl rfl ?_
  refine mm_g 2 (pc1 := 38) (lo1 := [some (.ref 67), some (.int (Int32.ofInt 6))]) (st1 := [.ref 67, .int (Int32.ofInt 6)]) (H1 := (mb 76 mbR73 (mz_up gB 0 0 (-1)) so L 1379)) rfl ?_
  refine mb_gf (v := 68) (kd := 4) rfl rfl rfl rfl (by decide) ((mb_g2 E148 (by decide) (by decide)).trans ((mb_g2 E146 (by decide) (by decide)).trans ((mb_g2 E144 (by decide) (by decide)).trans ((mb_g2 E142 (by decide) (by decide)).trans ((mb_g2 E140 (by decide) (by decide)).trans ((mb_g2 E138 (by decide) (by decide)).trans ((mb_g2 E136 (by decide) (by decide)).trans (mb_g1 E134 (by decide))))))))) ?_
  refine mb_al (t := 104) (c := 6) rfl rfl (by decide) ?_
  refine mz_ic_ge (a := 6) (b := 6) (tgt := 64) rfl rfl ⟨by decide, by decide⟩ ⟨by decide, by decide⟩ (fun _ => ?_) (fun z => absurd z (by decide))
  refine mm_rt rfl rfl ⟨none, rfl, ?_⟩
  show mm_W ((d - 1) - 1) mmX1_init 23 [some (.ref 41)] [.ref 67, .ref 41] (mb 76 mbR73 (mz_up gB 0 0 (-1)) so L 1379) _
  refine mb_pR E149 rfl rfl (by decide) rfl (Or.inr ⟨rfl, rfl, rfl⟩) ?_
  have E150 : mb_E mbR74 76 := mb_E_set (k := 1) (v := 67) E149 (by decide : 41 < 76) (by decide)
  change mm_W _ _ _ _ _ (mb 76 mbR74 (mz_up gB 0 0 (-1)) so L 1379) _
  refine mm_g 1 (pc1 := 27) (lo1 := [some (.ref 41)]) (st1 := [.ref 41]) (H1 := (mb 76 mbR74 (mz_up gB 0 0 (-1)) so L 1379)) rfl ?_
  refine mz_bip (c := 8) rfl (by decide) ?_
  refine mb_nai (sl2 := 1387) (c := 8) E150 rfl (by decide) (by decide) (by decide) rfl rfl (fun j => ((mz_up_ne (fun h => absurd h.1 (by decide))).trans (hB 76 j (by decide)))) ?_
  have E151 := mb_E_up E150
  refine mb_pR E151 rfl rfl (by decide) rfl (Or.inr ⟨rfl, rfl, rfl⟩) ?_
  have E152 : mb_E mbR75 77 := mb_E_set (k := 2) (v := 76) E151 (by decide : 41 < 77) (by decide)
  change mm_W _ _ _ _ _ (mb 77 mbR75 (mz_up gB 0 0 (-1)) so L 1387) _
  refine mm_g 2 (pc1 := 36) (lo1 := [some (.ref 41)]) (st1 := [.int (Int32.ofInt 0), .ref 41]) (H1 := (mb 77 mbR75 (mz_up gB 0 0 (-1)) so L 1387)) rfl ?_
  refine mb_p0 rfl rfl rfl (Or.inl rfl) ((mz_up_ne (by decide)).trans (hB 41 3 (by decide))) ?_
  refine mm_g 1 (pc1 := 40) (lo1 := [some (.ref 41)]) (st1 := [.ref 41]) (H1 := (mb 77 mbR75 (mz_up gB 0 0 (-1)) so L 1387)) rfl ?_
  refine mb_new (sl2 := 1391) E152 rfl rfl (by decide) rfl rfl (fun j => ((mz_up_ne (fun h => absurd h.1 (by decide))).trans (hB 77 j (by decide)))) ?_
  have E153 := mb_E_up E152
  refine mm_g 1 (pc1 := 44) (lo1 := [some (.ref 41)]) (st1 := [.ref 77, .ref 77, .ref 41]) (H1 := (mb 78 mbR75 (mz_up gB 0 0 (-1)) so L 1391)) rfl ?_
  refine mb_cl (b := 77) rfl rfl rfl (Nat.le_of_ble_eq_true rfl) (by omega) ?_
  refine ⟨mmX5_init, [some (.ref 77)], rfl, rfl, ?_⟩
  refine mm_g 1 (pc1 := 1) (lo1 := [some (.ref 77)]) (st1 := [.ref 77]) (H1 := (mb 78 mbR75 (mz_up gB 0 0 (-1)) so L 1391)) rfl ?_
  refine mb_obj rfl rfl (Nat.le_of_ble_eq_true rfl) (by omega) ?_
  refine mm_g 1 (pc1 := 5) (lo1 := [some (.ref 77)]) (st1 := [.ref 77]) (H1 := (mb 78 mbR75 (mz_up gB 0 0 (-1)) so L 1391)) rfl ?_
  refine mz_sip (c := 700) rfl (by decide) ?_
  refine mb_nai (sl2 := 2091) (c := 700) E153 rfl (by decide) (by decide) (by decide) rfl rfl (fun j => ((mz_up_ne (fun h => absurd h.1 (by decide))).trans (hB 78 j (by decide)))) ?_
  have E154 := mb_E_up E153
  refine mb_pR E154 rfl rfl (by decide) rfl (Or.inr ⟨rfl, rfl, rfl⟩) ?_
  have E155 : mb_E mbR76 79 := mb_E_set (k := 0) (v := 78) E154 (by decide : 77 < 79) (by decide)
  change mm_W _ _ _ _ _ (mb 79 mbR76 (mz_up gB 0 0 (-1)) so L 2091) _
  refine mm_g 2 (pc1 := 15) (lo1 := [some (.ref 77)]) (st1 := [.int (Int32.ofInt 0), .ref 77]) (H1 := (mb 79 mbR76 (mz_up gB 0 0 (-1)) so L 2091)) rfl ?_
  refine mb_p0 rfl rfl rfl (Or.inl rfl) ((mz_up_ne (by decide)).trans (hB 77 1 (by decide))) ?_
  refine mm_g 1 (pc1 := 19) (lo1 := [some (.ref 77)]) (st1 := [.ref 77]) (H1 := (mb 79 mbR76 (mz_up gB 0 0 (-1)) so L 2091)) rfl ?_
  refine mz_bip (c := 7) rfl (by decide) ?_
  refine mb_nai (sl2 := 2098) (c := 7) E155 rfl (by decide) (by decide) (by decide) rfl rfl (fun j => ((mz_up_ne (fun h => absurd h.1 (by decide))).trans (hB 79 j (by decide)))) ?_
  have E156 := mb_E_up E155
  refine mb_pR E156 rfl rfl (by decide) rfl (Or.inr ⟨rfl, rfl, rfl⟩) ?_
  have E157 : mb_E mbR77 80 := mb_E_set (k := 2) (v := 79) E156 (by decide : 77 < 80) (by decide)
  change mm_W _ _ _ _ _ (mb 80 mbR77 (mz_up gB 0 0 (-1)) so L 2098) _
  refine mm_g 1 (pc1 := 27) (lo1 := [some (.ref 77)]) (st1 := [.ref 77]) (H1 := (mb 80 mbR77 (mz_up gB 0 0 (-1)) so L 2098)) rfl ?_
  refine mz_bip (c := 40) rfl (by decide) ?_
  refine mb_nai (sl2 := 2138) (c := 40) E157 rfl (by decide) (by decide) (by decide) rfl rfl (fun j => ((mz_up_ne (fun h => absurd h.1 (by decide))).trans (hB 80 j (by decide)))) ?_
  have E158 := mb_E_up E157
  refine mb_pR E158 rfl rfl (by decide) rfl (Or.inr ⟨rfl, rfl, rfl⟩) ?_
  have E159 : mb_E mbR78 81 := mb_E_set (k := 3) (v := 80) E158 (by decide : 77 < 81) (by decide)
  change mm_W _ _ _ _ _ (mb 81 mbR78 (mz_up gB 0 0 (-1)) so L 2138) _
  refine mm_rt rfl rfl ⟨none, rfl, ?_⟩
  show mm_W ((d - 1) - 1) mmX1_init 47 [some (.ref 41)] [.ref 77, .ref 41] (mb 81 mbR78 (mz_up gB 0 0 (-1)) so L 2138) _
  refine mb_pR E159 rfl rfl (by decide) rfl (Or.inr ⟨rfl, rfl, rfl⟩) ?_
  have E160 : mb_E mbR79 81 := mb_E_set (k := 4) (v := 77) E159 (by decide : 41 < 81) (by decide)
  change mm_W _ _ _ _ _ (mb 81 mbR79 (mz_up gB 0 0 (-1)) so L 2138) _
  refine mm_rt rfl rfl ⟨none, rfl, ?_⟩
  show mm_W (d - 1) mmX11_init 28 [some (.ref 0)] [.ref 41, .ref 0] (mb 81 mbR79 (mz_up gB 0 0 (-1)) so L 2138) _
  refine mb_pR E160 rfl rfl (by decide) rfl (Or.inl rfl) ?_
  have E161 : mb_E mbR80 81 := mb_E_set (k := 2) (v := 41) E160 (by decide : 0 < 81) (by decide)
  change mm_W _ _ _ _ _ (mb 81 mbR80 (mz_up gB 0 0 (-1)) so L 2138) _
  refine mm_g 1 (pc1 := 32) (lo1 := [some (.ref 0)]) (st1 := [.ref 0]) (H1 := (mb 81 mbR80 (mz_up gB 0 0 (-1)) so L 2138)) rfl ?_
  refine mb_new (sl2 := 2147) E161 rfl rfl (by decide) rfl rfl (fun j => ((mz_up_ne (fun h => absurd h.1 (by decide))).trans (hB 81 j (by decide)))) ?_
  have E162 := mb_E_up E161
  refine mm_g 1 (pc1 := 36) (lo1 := [some (.ref 0)]) (st1 := [.ref 81, .ref 81, .ref 0]) (H1 := (mb 82 mbR80 (mz_up gB 0 0 (-1)) so L 2147)) rfl ?_
  refine mb_cl (b := 81) rfl rfl rfl (Nat.le_of_ble_eq_true rfl) (by omega) ?_
  refine ⟨mmX4_init, [some (.ref 81)], rfl, rfl, ?_⟩
  refine mm_g 1 (pc1 := 1) (lo1 := [some (.ref 81)]) (st1 := [.ref 81]) (H1 := (mb 82 mbR80 (mz_up gB 0 0 (-1)) so L 2147)) rfl ?_
  refine mb_obj rfl rfl (Nat.le_of_ble_eq_true rfl) (by omega) ?_
  refine mm_g 1 (pc1 := 5) (lo1 := [some (.ref 81)]) (st1 := [.ref 81]) (H1 := (mb 82 mbR80 (mz_up gB 0 0 (-1)) so L 2147)) rfl ?_
  refine mb_new (sl2 := 2154) E162 rfl rfl (by decide) rfl rfl (fun j => ((mz_up_ne (fun h => absurd h.1 (by decide))).trans (hB 82 j (by decide)))) ?_
  have E163 := mb_E_up E162
  refine mm_g 1 (pc1 := 9) (lo1 := [some (.ref 81)]) (st1 := [.ref 82, .ref 82, .ref 81]) (H1 := (mb 83 mbR80 (mz_up gB 0 0 (-1)) so L 2154)) rfl ?_
  refine mb_cl (b := 82) rfl rfl rfl (Nat.le_of_ble_eq_true rfl) (by omega) ?_
  refine ⟨mmX7_init, [some (.ref 82)], rfl, rfl, ?_⟩
  refine mm_g 1 (pc1 := 1) (lo1 := [some (.ref 82)]) (st1 := [.ref 82]) (H1 := (mb 83 mbR80 (mz_up gB 0 0 (-1)) so L 2154)) rfl ?_
  refine mb_obj rfl rfl (Nat.le_of_ble_eq_true rfl) (by omega) ?_
  refine mm_g 1 (pc1 := 5) (lo1 := [some (.ref 82)]) (st1 := [.ref 82]) (H1 := (mb 83 mbR80 (mz_up gB 0 0 (-1)) so L 2154)) rfl ?_
  refine mz_sip (c := 700) rfl (by decide) ?_
  refine mb_nab (sl2 := 2854) (c := 700) E163 rfl (by decide) (by decide) (by decide) rfl rfl (fun j => ((mz_up_ne (fun h => absurd h.1 (by decide))).trans (hB 83 j (by decide)))) ?_
  have E164 := mb_E_up E163
  refine mb_pR E164 rfl rfl (by decide) rfl (Or.inr ⟨rfl, rfl, rfl⟩) ?_
  have E165 : mb_E mbR81 84 := mb_E_set (k := 0) (v := 83) E164 (by decide : 82 < 84) (by decide)
  change mm_W _ _ _ _ _ (mb 84 mbR81 (mz_up gB 0 0 (-1)) so L 2854) _
  refine mm_g 2 (pc1 := 15) (lo1 := [some (.ref 82)]) (st1 := [.int (Int32.ofInt 0), .ref 82]) (H1 := (mb 84 mbR81 (mz_up gB 0 0 (-1)) so L 2854)) rfl ?_
  refine mb_p0 rfl rfl rfl (Or.inl rfl) ((mz_up_ne (by decide)).trans (hB 82 1 (by decide))) ?_
  refine mm_g 2 (pc1 := 20) (lo1 := [some (.ref 82)]) (st1 := [.int (Int32.ofInt 0), .ref 82]) (H1 := (mb 84 mbR81 (mz_up gB 0 0 (-1)) so L 2854)) rfl ?_
  refine mb_p0 rfl rfl rfl (Or.inl rfl) ((mz_up_ne (by decide)).trans (hB 82 2 (by decide))) ?_
  refine mm_g 2 (pc1 := 25) (lo1 := [some (.ref 82)]) (st1 := [.int (Int32.ofInt 0), .ref 82]) (H1 := (mb 84 mbR81 (mz_up gB 0 0 (-1)) so L 2854)) rfl ?_
  refine mb_p0 rfl rfl rfl (Or.inl rfl) ((mz_up_ne (by decide)).trans (hB 82 3 (by decide))) ?_
  refine mm_g 2 (pc1 := 30) (lo1 := [some (.ref 82)]) (st1 := [.int (Int32.ofInt 0), .ref 82]) (H1 := (mb 84 mbR81 (mz_up gB 0 0 (-1)) so L 2854)) rfl ?_
  refine mb_p0 rfl rfl rfl (Or.inl rfl) ((mz_up_ne (by decide)).trans (hB 82 4 (by decide))) ?_
  refine mm_g 2 (pc1 := 35) (lo1 := [some (.ref 82)]) (st1 := [.int (Int32.ofInt 0), .ref 82]) (H1 := (mb 84 mbR81 (mz_up gB 0 0 (-1)) so L 2854)) rfl ?_
  refine mb_p0 rfl rfl rfl (Or.inl rfl) ((mz_up_ne (by decide)).trans (hB 82 5 (by decide))) ?_
  refine mm_g 2 (pc1 := 40) (lo1 := [some (.ref 82)]) (st1 := [.int (Int32.ofInt 0), .ref 82]) (H1 := (mb 84 mbR81 (mz_up gB 0 0 (-1)) so L 2854)) rfl ?_
  refine mb_p0 rfl rfl rfl (Or.inl rfl) ((mz_up_ne (by decide)).trans (hB 82 6 (by decide))) ?_
  refine mm_rt rfl rfl ⟨none, rfl, ?_⟩
  show mm_W ((d - 1) - 1) mmX4_init 12 [some (.ref 81)] [.ref 82, .ref 81] (mb 84 mbR81 (mz_up gB 0 0 (-1)) so L 2854) _
  refine mb_pR E165 rfl rfl (by decide) rfl (Or.inr ⟨rfl, rfl, rfl⟩) ?_
  have E166 : mb_E mbR82 84 := mb_E_set (k := 0) (v := 82) E165 (by decide : 81 < 84) (by decide)
  change mm_W _ _ _ _ _ (mb 84 mbR82 (mz_up gB 0 0 (-1)) so L 2854) _
  refine mm_g 2 (pc1 := 17) (lo1 := [some (.ref 81)]) (st1 := [.int (Int32.ofInt 0), .ref 81]) (H1 := (mb 84 mbR82 (mz_up gB 0 0 (-1)) so L 2854)) rfl ?_
  refine mb_p0 rfl rfl rfl (Or.inl rfl) ((mz_up_ne (by decide)).trans (hB 81 1 (by decide))) ?_
  refine mm_g 2 (pc1 := 22) (lo1 := [some (.ref 81)]) (st1 := [.int (Int32.ofInt (-1)), .ref 81]) (H1 := (mb 84 mbR82 (mz_up gB 0 0 (-1)) so L 2854)) rfl ?_
  refine mb_pI rfl rfl rfl rfl ?_
  refine mm_g 1 (pc1 := 26) (lo1 := [some (.ref 81)]) (st1 := [.ref 81]) (H1 := (mb 84 mbR82 (mz_up (mz_up gB 0 0 (-1)) 81 2 (-1)) so L 2854)) rfl ?_
  refine mz_bip (c := 84) rfl (by decide) ?_
  refine mb_nai (sl2 := 2938) (c := 84) E166 rfl (by decide) (by decide) (by decide) rfl rfl (fun j => ((mz_up_ne (fun h => absurd h.1 (by decide))).trans ((mz_up_ne (fun h => absurd h.1 (by decide))).trans (hB 84 j (by decide))))) ?_
  have E167 := mb_E_up E166
  refine mb_pR E167 rfl rfl (by decide) rfl (Or.inr ⟨rfl, rfl, rfl⟩) ?_
  have E168 : mb_E mbR83 85 := mb_E_set (k := 3) (v := 84) E167 (by decide : 81 < 85) (by decide)
  change mm_W _ _ _ _ _ (mb 85 mbR83 (mz_up (mz_up gB 0 0 (-1)) 81 2 (-1)) so L 2938) _
  refine mm_g 2 (pc1 := 35) (lo1 := [some (.ref 81)]) (st1 := [.int (Int32.ofInt 0), .ref 81]) (H1 := (mb 85 mbR83 (mz_up (mz_up gB 0 0 (-1)) 81 2 (-1)) so L 2938)) rfl ?_
  refine mb_p0 rfl rfl rfl (Or.inl rfl) ((mz_up_ne (by decide)).trans ((mz_up_ne (by decide)).trans (hB 81 4 (by decide)))) ?_
  refine mm_g 2 (pc1 := 40) (lo1 := [some (.ref 81)]) (st1 := [.int (Int32.ofInt 0), .ref 81]) (H1 := (mb 85 mbR83 (mz_up (mz_up gB 0 0 (-1)) 81 2 (-1)) so L 2938)) rfl ?_
  refine mb_p0 rfl rfl rfl (Or.inl rfl) ((mz_up_ne (by decide)).trans ((mz_up_ne (by decide)).trans (hB 81 5 (by decide)))) ?_
  refine mm_g 2 (pc1 := 45) (lo1 := [some (.ref 81)]) (st1 := [.int (Int32.ofInt 0), .ref 81]) (H1 := (mb 85 mbR83 (mz_up (mz_up gB 0 0 (-1)) 81 2 (-1)) so L 2938)) rfl ?_
  refine mb_p0 rfl rfl rfl (Or.inl rfl) ((mz_up_ne (by decide)).trans ((mz_up_ne (by decide)).trans (hB 81 6 (by decide)))) ?_
  refine mm_g 2 (pc1 := 50) (lo1 := [some (.ref 81)]) (st1 := [.int (Int32.ofInt 0), .ref 81]) (H1 := (mb 85 mbR83 (mz_up (mz_up gB 0 0 (-1)) 81 2 (-1)) so L 2938)) rfl ?_
  refine mb_p0 rfl rfl rfl (Or.inr rfl) ((mz_up_ne (by decide)).trans ((mz_up_ne (by decide)).trans (hB 81 7 (by decide)))) ?_
  refine mm_g 2 (pc1 := 55) (lo1 := [some (.ref 81)]) (st1 := [.int (Int32.ofInt 0), .ref 81]) (H1 := (mb 85 mbR83 (mz_up (mz_up gB 0 0 (-1)) 81 2 (-1)) so L 2938)) rfl ?_
  refine mb_p0 rfl rfl rfl (Or.inr rfl) ((mz_up_ne (by decide)).trans ((mz_up_ne (by decide)).trans (hB 81 8 (by decide)))) ?_
  refine mm_rt rfl rfl ⟨none, rfl, ?_⟩
  show mm_W (d - 1) mmX11_init 39 [some (.ref 0)] [.ref 81, .ref 0] (mb 85 mbR83 (mz_up (mz_up gB 0 0 (-1)) 81 2 (-1)) so L 2938) _
  refine mb_pR E168 rfl rfl (by decide) rfl (Or.inr ⟨rfl, rfl, rfl⟩) ?_
  have E169 : mb_E mbR84 85 := mb_E_set (k := 3) (v := 81) E168 (by decide : 0 < 85) (by decide)
  change mm_W _ _ _ _ _ (mb 85 mbR84 (mz_up (mz_up gB 0 0 (-1)) 81 2 (-1)) so L 2938) _
  refine mm_g 1 (pc1 := 43) (lo1 := [some (.ref 0)]) (st1 := [.ref 0]) (H1 := (mb 85 mbR84 (mz_up (mz_up gB 0 0 (-1)) 81 2 (-1)) so L 2938)) rfl ?_
  refine mz_sip (c := 2048) rfl (by decide) ?_
  refine mb_nai (sl2 := 4986) (c := 2048) E169 rfl (by decide) (by decide) (by decide) rfl rfl (fun j => ((mz_up_ne (fun h => absurd h.1 (by decide))).trans ((mz_up_ne (fun h => absurd h.1 (by decide))).trans (hB 85 j (by decide))))) ?_
  have E170 := mb_E_up E169
  refine mb_pR E170 rfl rfl (by decide) rfl (Or.inr ⟨rfl, rfl, rfl⟩) ?_
  have E171 : mb_E mbR85 86 := mb_E_set (k := 4) (v := 85) E170 (by decide : 0 < 86) (by decide)
  change mm_W _ _ _ _ _ (mb 86 mbR85 (mz_up (mz_up gB 0 0 (-1)) 81 2 (-1)) so L 4986) _
  refine mm_g 1 (pc1 := 52) (lo1 := [some (.ref 0)]) (st1 := [.ref 0]) (H1 := (mb 86 mbR85 (mz_up (mz_up gB 0 0 (-1)) 81 2 (-1)) so L 4986)) rfl ?_
  refine mb_new (sl2 := 4995) E171 rfl rfl (by decide) rfl rfl (fun j => ((mz_up_ne (fun h => absurd h.1 (by decide))).trans ((mz_up_ne (fun h => absurd h.1 (by decide))).trans (hB 86 j (by decide))))) ?_
  have E172 := mb_E_up E171
  refine mm_g 1 (pc1 := 56) (lo1 := [some (.ref 0)]) (st1 := [.ref 86, .ref 86, .ref 0]) (H1 := (mb 87 mbR85 (mz_up (mz_up gB 0 0 (-1)) 81 2 (-1)) so L 4995)) rfl ?_
  refine mb_cl (b := 86) rfl rfl rfl (Nat.le_of_ble_eq_true rfl) (by omega) ?_
  refine ⟨mmX6_init, [some (.ref 86)], rfl, rfl, ?_⟩
  refine mm_g 1 (pc1 := 1) (lo1 := [some (.ref 86)]) (st1 := [.ref 86]) (H1 := (mb 87 mbR85 (mz_up (mz_up gB 0 0 (-1)) 81 2 (-1)) so L 4995)) rfl ?_
  refine mb_obj rfl rfl (Nat.le_of_ble_eq_true rfl) (by omega) ?_
  refine mm_g 1 (pc1 := 5) (lo1 := [some (.ref 86)]) (st1 := [.ref 86]) (H1 := (mb 87 mbR85 (mz_up (mz_up gB 0 0 (-1)) 81 2 (-1)) so L 4995)) rfl ?_
  refine mb_new (sl2 := 4999) E172 rfl rfl (by decide) rfl rfl (fun j => ((mz_up_ne (fun h => absurd h.1 (by decide))).trans ((mz_up_ne (fun h => absurd h.1 (by decide))).trans (hB 87 j (by decide))))) ?_
  have E173 := mb_E_up E172
  refine mm_g 1 (pc1 := 9) (lo1 := [some (.ref 86)]) (st1 := [.ref 87, .ref 87, .ref 86]) (H1 := (mb 88 mbR85 (mz_up (mz_up gB 0 0 (-1)) 81 2 (-1)) so L 4999)) rfl ?_
  refine mb_cl (b := 87) rfl rfl rfl (Nat.le_of_ble_eq_true rfl) (by omega) ?_
  refine ⟨mmX9_init, [some (.ref 87), none], rfl, rfl, ?_⟩
  refine mm_g 1 (pc1 := 1) (lo1 := [some (.ref 87), none]) (st1 := [.ref 87]) (H1 := (mb 88 mbR85 (mz_up (mz_up gB 0 0 (-1)) 81 2 (-1)) so L 4999)) rfl ?_
  refine mb_obj rfl rfl (Nat.le_of_ble_eq_true rfl) (by omega) ?_
  refine mm_g 1 (pc1 := 5) (lo1 := [some (.ref 87), none]) (st1 := [.ref 87]) (H1 := (mb 88 mbR85 (mz_up (mz_up gB 0 0 (-1)) 81 2 (-1)) so L 4999)) rfl ?_
  refine mz_bip (c := 6) rfl (by decide) ?_
  refine mb_ana (sl2 := 5005) (c := 6) E173 rfl rfl (by decide) (by decide) (by decide) rfl rfl (fun j => ((mz_up_ne (fun h => absurd h.1 (by decide))).trans ((mz_up_ne (fun h => absurd h.1 (by decide))).trans (hB 88 j (by decide))))) ?_
  have E174 := mb_E_up E173
  refine mb_pR E174 rfl rfl (by decide) rfl (Or.inr ⟨rfl, rfl, rfl⟩) ?_
  have E175 : mb_E mbR86 89 := mb_E_set (k := 0) (v := 88) E174 (by decide : 87 < 89) (by decide)
  change mm_W _ _ _ _ _ (mb 89 mbR86 (mz_up (mz_up gB 0 0 (-1)) 81 2 (-1)) so L 5005) _
  refine mm_g 1 (pc1 := 14) (lo1 := [some (.ref 87), none]) (st1 := [.ref 87]) (H1 := (mb 89 mbR86 (mz_up (mz_up gB 0 0 (-1)) 81 2 (-1)) so L 5005)) rfl ?_
  refine mb_new (sl2 := 5010) E175 rfl rfl (by decide) rfl rfl (fun j => ((mz_up_ne (fun h => absurd h.1 (by decide))).trans ((mz_up_ne (fun h => absurd h.1 (by decide))).trans (hB 89 j (by decide))))) ?_
  have E176 := mb_E_up E175
  refine mm_g 1 (pc1 := 18) (lo1 := [some (.ref 87), none]) (st1 := [.ref 89, .ref 89, .ref 87]) (H1 := (mb 90 mbR86 (mz_up (mz_up gB 0 0 (-1)) 81 2 (-1)) so L 5010)) rfl ?_
  refine mb_cl (b := 89) rfl rfl rfl (Nat.le_of_ble_eq_true rfl) (by omega) ?_
  refine ⟨mmX8_init, [some (.ref 89)], rfl, rfl, ?_⟩
  refine mm_g 1 (pc1 := 1) (lo1 := [some (.ref 89)]) (st1 := [.ref 89]) (H1 := (mb 90 mbR86 (mz_up (mz_up gB 0 0 (-1)) 81 2 (-1)) so L 5010)) rfl ?_
  refine mb_obj rfl rfl (Nat.le_of_ble_eq_true rfl) (by omega) ?_
  refine mm_g 2 (pc1 := 6) (lo1 := [some (.ref 89)]) (st1 := [.int (Int32.ofInt 0), .ref 89]) (H1 := (mb 90 mbR86 (mz_up (mz_up gB 0 0 (-1)) 81 2 (-1)) so L 5010)) rfl ?_
  refine mb_p0 rfl rfl rfl (Or.inl rfl) ((mz_up_ne (by decide)).trans ((mz_up_ne (by decide)).trans (hB 89 0 (by decide)))) ?_
  refine mm_g 2 (pc1 := 11) (lo1 := [some (.ref 89)]) (st1 := [.int (Int32.ofInt 0), .ref 89]) (H1 := (mb 90 mbR86 (mz_up (mz_up gB 0 0 (-1)) 81 2 (-1)) so L 5010)) rfl ?_
  refine mb_p0 rfl rfl rfl (Or.inl rfl) ((mz_up_ne (by decide)).trans ((mz_up_ne (by decide)).trans (hB 89 1 (by decide)))) ?_
  refine mm_g 2 (pc1 := 16) (lo1 := [some (.ref 89)]) (st1 := [.int (Int32.ofInt 0), .ref 89]) (H1 := (mb 90 mbR86 (mz_up (mz_up gB 0 0 (-1)) 81 2 (-1)) so L 5010)) rfl ?_
  refine mb_p0 rfl rfl rfl (Or.inl rfl) ((mz_up_ne (by decide)).trans ((mz_up_ne (by decide)).trans (hB 89 2 (by decide)))) ?_
  refine mm_g 2 (pc1 := 21) (lo1 := [some (.ref 89)]) (st1 := [.int (Int32.ofInt 0), .ref 89]) (H1 := (mb 90 mbR86 (mz_up (mz_up gB 0 0 (-1)) 81 2 (-1)) so L 5010)) rfl ?_
  refine mb_p0 rfl rfl rfl (Or.inl rfl) ((mz_up_ne (by decide)).trans ((mz_up_ne (by decide)).trans (hB 89 3 (by decide)))) ?_
  refine mm_g 2 (pc1 := 26) (lo1 := [some (.ref 89)]) (st1 := [.int (Int32.ofInt 0), .ref 89]) (H1 := (mb 90 mbR86 (mz_up (mz_up gB 0 0 (-1)) 81 2 (-1)) so L 5010)) rfl ?_
  refine mb_p0 rfl rfl rfl (Or.inr rfl) ((mz_up_ne (by decide)).trans ((mz_up_ne (by decide)).trans (hB 89 4 (by decide)))) ?_
  refine mm_rt rfl rfl ⟨none, rfl, ?_⟩
  show mm_W (((d - 1) - 1) - 1) mmX9_init 21 [some (.ref 87), none] [.ref 89, .ref 87] (mb 90 mbR86 (mz_up (mz_up gB 0 0 (-1)) 81 2 (-1)) so L 5010) _
  refine mb_pR E176 rfl rfl (by decide) rfl (Or.inr ⟨rfl, rfl, rfl⟩) ?_
  have E177 : mb_E mbR87 90 := mb_E_set (k := 1) (v := 89) E176 (by decide : 87 < 90) (by decide)
  change mm_W _ _ _ _ _ (mb 90 mbR87 (mz_up (mz_up gB 0 0 (-1)) 81 2 (-1)) so L 5010) _
  refine mm_g 2 (pc1 := 26) (lo1 := [some (.ref 87), none]) (st1 := [.int (Int32.ofInt 0), .ref 87]) (H1 := (mb 90 mbR87 (mz_up (mz_up gB 0 0 (-1)) 81 2 (-1)) so L 5010)) rfl ?_
  refine mb_p0 rfl rfl rfl (Or.inl rfl) ((mz_up_ne (by decide)).trans ((mz_up_ne (by decide)).trans (hB 87 2 (by decide)))) ?_
  refine mm_g 2 (pc1 := 31) (lo1 := [some (.ref 87), none]) (st1 := [.int (Int32.ofInt 0), .ref 87]) (H1 := (mb 90 mbR87 (mz_up (mz_up gB 0 0 (-1)) 81 2 (-1)) so L 5010)) rfl ?_
  refine mb_p0 rfl rfl rfl (Or.inl rfl) ((mz_up_ne (by decide)).trans ((mz_up_ne (by decide)).trans (hB 87 3 (by decide)))) ?_
  refine mm_g 4 (pc1 := 38) (lo1 := [some (.ref 87), some (.int (Int32.ofInt 0))]) (st1 := [.ref 87, .int (Int32.ofInt 0)]) (H1 := (mb 90 mbR87 (mz_up (mz_up gB 0 0 (-1)) 81 2 (-1)) so L 5010)) rfl ?_
  refine mb_gf (v := 88) (kd := 4) rfl rfl rfl rfl (by decide) ((mb_g2 E176 (by decide) (by decide)).trans (mb_g1 E174 (by decide))) ?_
  refine mb_al (t := 104) (c := 6) rfl rfl (by decide) ?_
  refine mz_ic_ge (a := 0) (b := 6) (tgt := 64) rfl rfl ⟨by decide, by decide⟩ ⟨by decide, by decide⟩ (fun z => absurd z (by decide)) (fun _ => ?_)
  refine mm_g 1 (pc1 := 46) (lo1 := [some (.ref 87), some (.int (Int32.ofInt 0))]) (st1 := [.ref 87]) (H1 := (mb 90 mbR87 (mz_up (mz_up gB 0 0 (-1)) 81 2 (-1)) so L 5010)) rfl ?_
  refine mb_gf (v := 88) (kd := 4) rfl rfl rfl rfl (by decide) ((mb_g2 E176 (by decide) (by decide)).trans (mb_g1 E174 (by decide))) ?_
  refine mm_g 1 (pc1 := 50) (lo1 := [some (.ref 87), some (.int (Int32.ofInt 0))]) (st1 := [.int (Int32.ofInt 0), .ref 88]) (H1 := (mb 90 mbR87 (mz_up (mz_up gB 0 0 (-1)) 81 2 (-1)) so L 5010)) rfl ?_
  refine mb_new (sl2 := 5015) E177 rfl rfl (by decide) rfl rfl (fun j => ((mz_up_ne (fun h => absurd h.1 (by decide))).trans ((mz_up_ne (fun h => absurd h.1 (by decide))).trans (hB 90 j (by decide))))) ?_
  have E178 := mb_E_up E177
  refine mm_g 1 (pc1 := 54) (lo1 := [some (.ref 87), some (.int (Int32.ofInt 0))]) (st1 := [.ref 90, .ref 90, .int (Int32.ofInt 0), .ref 88]) (H1 := (mb 91 mbR87 (mz_up (mz_up gB 0 0 (-1)) 81 2 (-1)) so L 5015)) rfl ?_
  refine mb_cl (b := 90) rfl rfl rfl (Nat.le_of_ble_eq_true rfl) (by omega) ?_
  refine ⟨mmX8_init, [some (.ref 90)], rfl, rfl, ?_⟩
  refine mm_g 1 (pc1 := 1) (lo1 := [some (.ref 90)]) (st1 := [.ref 90]) (H1 := (mb 91 mbR87 (mz_up (mz_up gB 0 0 (-1)) 81 2 (-1)) so L 5015)) rfl ?_
  refine mb_obj rfl rfl (Nat.le_of_ble_eq_true rfl) (by omega) ?_
  refine mm_g 2 (pc1 := 6) (lo1 := [some (.ref 90)]) (st1 := [.int (Int32.ofInt 0), .ref 90]) (H1 := (mb 91 mbR87 (mz_up (mz_up gB 0 0 (-1)) 81 2 (-1)) so L 5015)) rfl ?_
  refine mb_p0 rfl rfl rfl (Or.inl rfl) ((mz_up_ne (by decide)).trans ((mz_up_ne (by decide)).trans (hB 90 0 (by decide)))) ?_
  refine mm_g 2 (pc1 := 11) (lo1 := [some (.ref 90)]) (st1 := [.int (Int32.ofInt 0), .ref 90]) (H1 := (mb 91 mbR87 (mz_up (mz_up gB 0 0 (-1)) 81 2 (-1)) so L 5015)) rfl ?_
  refine mb_p0 rfl rfl rfl (Or.inl rfl) ((mz_up_ne (by decide)).trans ((mz_up_ne (by decide)).trans (hB 90 1 (by decide)))) ?_
  refine mm_g 2 (pc1 := 16) (lo1 := [some (.ref 90)]) (st1 := [.int (Int32.ofInt 0), .ref 90]) (H1 := (mb 91 mbR87 (mz_up (mz_up gB 0 0 (-1)) 81 2 (-1)) so L 5015)) rfl ?_
  refine mb_p0 rfl rfl rfl (Or.inl rfl) ((mz_up_ne (by decide)).trans ((mz_up_ne (by decide)).trans (hB 90 2 (by decide)))) ?_
  refine mm_g 2 (pc1 := 21) (lo1 := [some (.ref 90)]) (st1 := [.int (Int32.ofInt 0), .ref 90]) (H1 := (mb 91 mbR87 (mz_up (mz_up gB 0 0 (-1)) 81 2 (-1)) so L 5015)) rfl ?_
  refine mb_p0 rfl rfl rfl (Or.inl rfl) ((mz_up_ne (by decide)).trans ((mz_up_ne (by decide)).trans (hB 90 3 (by decide)))) ?_
  refine mm_g 2 (pc1 := 26) (lo1 := [some (.ref 90)]) (st1 := [.int (Int32.ofInt 0), .ref 90]) (H1 := (mb 91 mbR87 (mz_up (mz_up gB 0 0 (-1)) 81 2 (-1)) so L 5015)) rfl ?_
  refine mb_p0 rfl rfl rfl (Or.inr rfl) ((mz_up_ne (by decide)).trans ((mz_up_ne (by decide)).trans (hB 90 4 (by decide)))) ?_
  refine mm_rt rfl rfl ⟨none, rfl, ?_⟩
  show mm_W (((d - 1) - 1) - 1) mmX9_init 57 [some (.ref 87), some (.int (Int32.ofInt 0))] [.ref 90, .int (Int32.ofInt 0), .ref 88] (mb 91 mbR87 (mz_up (mz_up gB 0 0 (-1)) 81 2 (-1)) so L 5015) _
  refine mb_aa (len := 6) (c := 0) E178 rfl (by decide) (Or.inr (Or.inl ⟨rfl, rfl⟩)) rfl (by decide) (by decide) ?_
  have E179 : mb_E mbR88 91 := mb_E_set (k := 0) (v := 90) E178 (by decide : 88 < 91) (by decide)
  change mm_W _ _ _ _ _ (mb 91 mbR88 (mz_up (mz_up gB 0 0 (-1)) 81 2 (-1)) so L 5015) _
  refine mz_iincR (v := 0) (lo2 := [some (.ref 87), some (.int (Int32.ofInt 1))]) rfl rfl rfl (Nat.le_of_ble_eq_true rfl) rfl ?_
  refine mz_gt (tgt := 36) rfl rfl ?_
  refine mm_g 2 (pc1 := 38) (lo1 := [some (.ref 87), some (.int (Int32.ofInt 1))]) (st1 := [.ref 87, .int (Int32.ofInt 1)]) (H1 := (mb 91 mbR88 (mz_up (mz_up gB 0 0 (-1)) 81 2 (-1)) so L 5015)) rfl ?_
  refine mb_gf (v := 88) (kd := 4) rfl rfl rfl rfl (by decide) ((mb_g2 E178 (by decide) (by decide)).trans ((mb_g2 E176 (by decide) (by decide)).trans (mb_g1 E174 (by decide)))) ?_
  refine mb_al (t := 104) (c := 6) rfl rfl (by decide) ?_
  refine mz_ic_ge (a := 1) (b := 6) (tgt := 64) rfl rfl ⟨by decide, by decide⟩ ⟨by decide, by decide⟩ (fun z => absurd z (by decide)) (fun _ => ?_)
  refine mm_g 1 (pc1 := 46) (lo1 := [some (.ref 87), some (.int (Int32.ofInt 1))]) (st1 := [.ref 87]) (H1 := (mb 91 mbR88 (mz_up (mz_up gB 0 0 (-1)) 81 2 (-1)) so L 5015)) rfl ?_
  refine mb_gf (v := 88) (kd := 4) rfl rfl rfl rfl (by decide) ((mb_g2 E178 (by decide) (by decide)).trans ((mb_g2 E176 (by decide) (by decide)).trans (mb_g1 E174 (by decide)))) ?_
  refine mm_g 1 (pc1 := 50) (lo1 := [some (.ref 87), some (.int (Int32.ofInt 1))]) (st1 := [.int (Int32.ofInt 1), .ref 88]) (H1 := (mb 91 mbR88 (mz_up (mz_up gB 0 0 (-1)) 81 2 (-1)) so L 5015)) rfl ?_
  refine mb_new (sl2 := 5020) E179 rfl rfl (by decide) rfl rfl (fun j => ((mz_up_ne (fun h => absurd h.1 (by decide))).trans ((mz_up_ne (fun h => absurd h.1 (by decide))).trans (hB 91 j (by decide))))) ?_
  have E180 := mb_E_up E179
  refine mm_g 1 (pc1 := 54) (lo1 := [some (.ref 87), some (.int (Int32.ofInt 1))]) (st1 := [.ref 91, .ref 91, .int (Int32.ofInt 1), .ref 88]) (H1 := (mb 92 mbR88 (mz_up (mz_up gB 0 0 (-1)) 81 2 (-1)) so L 5020)) rfl ?_
  refine mb_cl (b := 91) rfl rfl rfl (Nat.le_of_ble_eq_true rfl) (by omega) ?_
  refine ⟨mmX8_init, [some (.ref 91)], rfl, rfl, ?_⟩
  refine mm_g 1 (pc1 := 1) (lo1 := [some (.ref 91)]) (st1 := [.ref 91]) (H1 := (mb 92 mbR88 (mz_up (mz_up gB 0 0 (-1)) 81 2 (-1)) so L 5020)) rfl ?_
  refine mb_obj rfl rfl (Nat.le_of_ble_eq_true rfl) (by omega) ?_
  refine mm_g 2 (pc1 := 6) (lo1 := [some (.ref 91)]) (st1 := [.int (Int32.ofInt 0), .ref 91]) (H1 := (mb 92 mbR88 (mz_up (mz_up gB 0 0 (-1)) 81 2 (-1)) so L 5020)) rfl ?_
  refine mb_p0 rfl rfl rfl (Or.inl rfl) ((mz_up_ne (by decide)).trans ((mz_up_ne (by decide)).trans (hB 91 0 (by decide)))) ?_
  refine mm_g 2 (pc1 := 11) (lo1 := [some (.ref 91)]) (st1 := [.int (Int32.ofInt 0), .ref 91]) (H1 := (mb 92 mbR88 (mz_up (mz_up gB 0 0 (-1)) 81 2 (-1)) so L 5020)) rfl ?_
  refine mb_p0 rfl rfl rfl (Or.inl rfl) ((mz_up_ne (by decide)).trans ((mz_up_ne (by decide)).trans (hB 91 1 (by decide)))) ?_
  refine mm_g 2 (pc1 := 16) (lo1 := [some (.ref 91)]) (st1 := [.int (Int32.ofInt 0), .ref 91]) (H1 := (mb 92 mbR88 (mz_up (mz_up gB 0 0 (-1)) 81 2 (-1)) so L 5020)) rfl ?_
  refine mb_p0 rfl rfl rfl (Or.inl rfl) ((mz_up_ne (by decide)).trans ((mz_up_ne (by decide)).trans (hB 91 2 (by decide)))) ?_
  refine mm_g 2 (pc1 := 21) (lo1 := [some (.ref 91)]) (st1 := [.int (Int32.ofInt 0), .ref 91]) (H1 := (mb 92 mbR88 (mz_up (mz_up gB 0 0 (-1)) 81 2 (-1)) so L 5020)) rfl ?_
  refine mb_p0 rfl rfl rfl (Or.inl rfl) ((mz_up_ne (by decide)).trans ((mz_up_ne (by decide)).trans (hB 91 3 (by decide)))) ?_
  refine mm_g 2 (pc1 := 26) (lo1 := [some (.ref 91)]) (st1 := [.int (Int32.ofInt 0), .ref 91]) (H1 := (mb 92 mbR88 (mz_up (mz_up gB 0 0 (-1)) 81 2 (-1)) so L 5020)) rfl ?_
  refine mb_p0 rfl rfl rfl (Or.inr rfl) ((mz_up_ne (by decide)).trans ((mz_up_ne (by decide)).trans (hB 91 4 (by decide)))) ?_
  refine mm_rt rfl rfl ⟨none, rfl, ?_⟩
  show mm_W (((d - 1) - 1) - 1) mmX9_init 57 [some (.ref 87), some (.int (Int32.ofInt 1))] [.ref 91, .int (Int32.ofInt 1), .ref 88] (mb 92 mbR88 (mz_up (mz_up gB 0 0 (-1)) 81 2 (-1)) so L 5020) _
  refine mb_aa (len := 6) (c := 1) E180 rfl (by decide) (Or.inr (Or.inl ⟨rfl, rfl⟩)) rfl (by decide) (by decide) ?_
  have E181 : mb_E mbR89 92 := mb_E_set (k := 1) (v := 91) E180 (by decide : 88 < 92) (by decide)
  change mm_W _ _ _ _ _ (mb 92 mbR89 (mz_up (mz_up gB 0 0 (-1)) 81 2 (-1)) so L 5020) _
  refine mz_iincR (v := 1) (lo2 := [some (.ref 87), some (.int (Int32.ofInt 2))]) rfl rfl rfl (Nat.le_of_ble_eq_true rfl) rfl ?_
  refine mz_gt (tgt := 36) rfl rfl ?_
  refine mm_g 2 (pc1 := 38) (lo1 := [some (.ref 87), some (.int (Int32.ofInt 2))]) (st1 := [.ref 87, .int (Int32.ofInt 2)]) (H1 := (mb 92 mbR89 (mz_up (mz_up gB 0 0 (-1)) 81 2 (-1)) so L 5020)) rfl ?_
  refine mb_gf (v := 88) (kd := 4) rfl rfl rfl rfl (by decide) ((mb_g2 E180 (by decide) (by decide)).trans ((mb_g2 E178 (by decide) (by decide)).trans ((mb_g2 E176 (by decide) (by decide)).trans (mb_g1 E174 (by decide))))) ?_
  refine mb_al (t := 104) (c := 6) rfl rfl (by decide) ?_
  refine mz_ic_ge (a := 2) (b := 6) (tgt := 64) rfl rfl ⟨by decide, by decide⟩ ⟨by decide, by decide⟩ (fun z => absurd z (by decide)) (fun _ => ?_)
  refine mm_g 1 (pc1 := 46) (lo1 := [some (.ref 87), some (.int (Int32.ofInt 2))]) (st1 := [.ref 87]) (H1 := (mb 92 mbR89 (mz_up (mz_up gB 0 0 (-1)) 81 2 (-1)) so L 5020)) rfl ?_
  refine mb_gf (v := 88) (kd := 4) rfl rfl rfl rfl (by decide) ((mb_g2 E180 (by decide) (by decide)).trans ((mb_g2 E178 (by decide) (by decide)).trans ((mb_g2 E176 (by decide) (by decide)).trans (mb_g1 E174 (by decide))))) ?_
  refine mm_g 1 (pc1 := 50) (lo1 := [some (.ref 87), some (.int (Int32.ofInt 2))]) (st1 := [.int (Int32.ofInt 2), .ref 88]) (H1 := (mb 92 mbR89 (mz_up (mz_up gB 0 0 (-1)) 81 2 (-1)) so L 5020)) rfl ?_
  refine mb_new (sl2 := 5025) E181 rfl rfl (by decide) rfl rfl (fun j => ((mz_up_ne (fun h => absurd h.1 (by decide))).trans ((mz_up_ne (fun h => absurd h.1 (by decide))).trans (hB 92 j (by decide))))) ?_
  have E182 := mb_E_up E181
  refine mm_g 1 (pc1 := 54) (lo1 := [some (.ref 87), some (.int (Int32.ofInt 2))]) (st1 := [.ref 92, .ref 92, .int (Int32.ofInt 2), .ref 88]) (H1 := (mb 93 mbR89 (mz_up (mz_up gB 0 0 (-1)) 81 2 (-1)) so L 5025)) rfl ?_
  refine mb_cl (b := 92) rfl rfl rfl (Nat.le_of_ble_eq_true rfl) (by omega) ?_
  refine ⟨mmX8_init, [some (.ref 92)], rfl, rfl, ?_⟩
  refine mm_g 1 (pc1 := 1) (lo1 := [some (.ref 92)]) (st1 := [.ref 92]) (H1 := (mb 93 mbR89 (mz_up (mz_up gB 0 0 (-1)) 81 2 (-1)) so L 5025)) rfl ?_
  refine mb_obj rfl rfl (Nat.le_of_ble_eq_true rfl) (by omega) ?_
  refine mm_g 2 (pc1 := 6) (lo1 := [some (.ref 92)]) (st1 := [.int (Int32.ofInt 0), .ref 92]) (H1 := (mb 93 mbR89 (mz_up (mz_up gB 0 0 (-1)) 81 2 (-1)) so L 5025)) rfl ?_
  refine mb_p0 rfl rfl rfl (Or.inl rfl) ((mz_up_ne (by decide)).trans ((mz_up_ne (by decide)).trans (hB 92 0 (by decide)))) ?_
  refine mm_g 2 (pc1 := 11) (lo1 := [some (.ref 92)]) (st1 := [.int (Int32.ofInt 0), .ref 92]) (H1 := (mb 93 mbR89 (mz_up (mz_up gB 0 0 (-1)) 81 2 (-1)) so L 5025)) rfl ?_
  refine mb_p0 rfl rfl rfl (Or.inl rfl) ((mz_up_ne (by decide)).trans ((mz_up_ne (by decide)).trans (hB 92 1 (by decide)))) ?_
  refine mm_g 2 (pc1 := 16) (lo1 := [some (.ref 92)]) (st1 := [.int (Int32.ofInt 0), .ref 92]) (H1 := (mb 93 mbR89 (mz_up (mz_up gB 0 0 (-1)) 81 2 (-1)) so L 5025)) rfl ?_
  refine mb_p0 rfl rfl rfl (Or.inl rfl) ((mz_up_ne (by decide)).trans ((mz_up_ne (by decide)).trans (hB 92 2 (by decide)))) ?_
  refine mm_g 2 (pc1 := 21) (lo1 := [some (.ref 92)]) (st1 := [.int (Int32.ofInt 0), .ref 92]) (H1 := (mb 93 mbR89 (mz_up (mz_up gB 0 0 (-1)) 81 2 (-1)) so L 5025)) rfl ?_
  refine mb_p0 rfl rfl rfl (Or.inl rfl) ((mz_up_ne (by decide)).trans ((mz_up_ne (by decide)).trans (hB 92 3 (by decide)))) ?_
  refine mm_g 2 (pc1 := 26) (lo1 := [some (.ref 92)]) (st1 := [.int (Int32.ofInt 0), .ref 92]) (H1 := (mb 93 mbR89 (mz_up (mz_up gB 0 0 (-1)) 81 2 (-1)) so L 5025)) rfl ?_
  refine mb_p0 rfl rfl rfl (Or.inr rfl) ((mz_up_ne (by decide)).trans ((mz_up_ne (by decide)).trans (hB 92 4 (by decide)))) ?_
  refine mm_rt rfl rfl ⟨none, rfl, ?_⟩
  show mm_W (((d - 1) - 1) - 1) mmX9_init 57 [some (.ref 87), some (.int (Int32.ofInt 2))] [.ref 92, .int (Int32.ofInt 2), .ref 88] (mb 93 mbR89 (mz_up (mz_up gB 0 0 (-1)) 81 2 (-1)) so L 5025) _
  refine mb_aa (len := 6) (c := 2) E182 rfl (by decide) (Or.inr (Or.inl ⟨rfl, rfl⟩)) rfl (by decide) (by decide) ?_
  have E183 : mb_E mbR90 93 := mb_E_set (k := 2) (v := 92) E182 (by decide : 88 < 93) (by decide)
  change mm_W _ _ _ _ _ (mb 93 mbR90 (mz_up (mz_up gB 0 0 (-1)) 81 2 (-1)) so L 5025) _
  refine mz_iincR (v := 2) (lo2 := [some (.ref 87), some (.int (Int32.ofInt 3))]) rfl rfl rfl (Nat.le_of_ble_eq_true rfl) rfl ?_
  refine mz_gt (tgt := 36) rfl rfl ?_
  refine mm_g 2 (pc1 := 38) (lo1 := [some (.ref 87), some (.int (Int32.ofInt 3))]) (st1 := [.ref 87, .int (Int32.ofInt 3)]) (H1 := (mb 93 mbR90 (mz_up (mz_up gB 0 0 (-1)) 81 2 (-1)) so L 5025)) rfl ?_
  refine mb_gf (v := 88) (kd := 4) rfl rfl rfl rfl (by decide) ((mb_g2 E182 (by decide) (by decide)).trans ((mb_g2 E180 (by decide) (by decide)).trans ((mb_g2 E178 (by decide) (by decide)).trans ((mb_g2 E176 (by decide) (by decide)).trans (mb_g1 E174 (by decide)))))) ?_
  refine mb_al (t := 104) (c := 6) rfl rfl (by decide) ?_
  refine mz_ic_ge (a := 3) (b := 6) (tgt := 64) rfl rfl ⟨by decide, by decide⟩ ⟨by decide, by decide⟩ (fun z => absurd z (by decide)) (fun _ => ?_)
  refine mm_g 1 (pc1 := 46) (lo1 := [some (.ref 87), some (.int (Int32.ofInt 3))]) (st1 := [.ref 87]) (H1 := (mb 93 mbR90 (mz_up (mz_up gB 0 0 (-1)) 81 2 (-1)) so L 5025)) rfl ?_
  refine mb_gf (v := 88) (kd := 4) rfl rfl rfl rfl (by decide) ((mb_g2 E182 (by decide) (by decide)).trans ((mb_g2 E180 (by decide) (by decide)).trans ((mb_g2 E178 (by decide) (by decide)).trans ((mb_g2 E176 (by decide) (by decide)).trans (mb_g1 E174 (by decide)))))) ?_
  refine mm_g 1 (pc1 := 50) (lo1 := [some (.ref 87), some (.int (Int32.ofInt 3))]) (st1 := [.int (Int32.ofInt 3), .ref 88]) (H1 := (mb 93 mbR90 (mz_up (mz_up gB 0 0 (-1)) 81 2 (-1)) so L 5025)) rfl ?_
  refine mb_new (sl2 := 5030) E183 rfl rfl (by decide) rfl rfl (fun j => ((mz_up_ne (fun h => absurd h.1 (by decide))).trans ((mz_up_ne (fun h => absurd h.1 (by decide))).trans (hB 93 j (by decide))))) ?_
  have E184 := mb_E_up E183
  refine mm_g 1 (pc1 := 54) (lo1 := [some (.ref 87), some (.int (Int32.ofInt 3))]) (st1 := [.ref 93, .ref 93, .int (Int32.ofInt 3), .ref 88]) (H1 := (mb 94 mbR90 (mz_up (mz_up gB 0 0 (-1)) 81 2 (-1)) so L 5030)) rfl ?_
  refine mb_cl (b := 93) rfl rfl rfl (Nat.le_of_ble_eq_true rfl) (by omega) ?_
  refine ⟨mmX8_init, [some (.ref 93)], rfl, rfl, ?_⟩
  refine mm_g 1 (pc1 := 1) (lo1 := [some (.ref 93)]) (st1 := [.ref 93]) (H1 := (mb 94 mbR90 (mz_up (mz_up gB 0 0 (-1)) 81 2 (-1)) so L 5030)) rfl ?_
  refine mb_obj rfl rfl (Nat.le_of_ble_eq_true rfl) (by omega) ?_
  refine mm_g 2 (pc1 := 6) (lo1 := [some (.ref 93)]) (st1 := [.int (Int32.ofInt 0), .ref 93]) (H1 := (mb 94 mbR90 (mz_up (mz_up gB 0 0 (-1)) 81 2 (-1)) so L 5030)) rfl ?_
  refine mb_p0 rfl rfl rfl (Or.inl rfl) ((mz_up_ne (by decide)).trans ((mz_up_ne (by decide)).trans (hB 93 0 (by decide)))) ?_
  refine mm_g 2 (pc1 := 11) (lo1 := [some (.ref 93)]) (st1 := [.int (Int32.ofInt 0), .ref 93]) (H1 := (mb 94 mbR90 (mz_up (mz_up gB 0 0 (-1)) 81 2 (-1)) so L 5030)) rfl ?_
  refine mb_p0 rfl rfl rfl (Or.inl rfl) ((mz_up_ne (by decide)).trans ((mz_up_ne (by decide)).trans (hB 93 1 (by decide)))) ?_
  refine mm_g 2 (pc1 := 16) (lo1 := [some (.ref 93)]) (st1 := [.int (Int32.ofInt 0), .ref 93]) (H1 := (mb 94 mbR90 (mz_up (mz_up gB 0 0 (-1)) 81 2 (-1)) so L 5030)) rfl ?_
  refine mb_p0 rfl rfl rfl (Or.inl rfl) ((mz_up_ne (by decide)).trans ((mz_up_ne (by decide)).trans (hB 93 2 (by decide)))) ?_
  refine mm_g 2 (pc1 := 21) (lo1 := [some (.ref 93)]) (st1 := [.int (Int32.ofInt 0), .ref 93]) (H1 := (mb 94 mbR90 (mz_up (mz_up gB 0 0 (-1)) 81 2 (-1)) so L 5030)) rfl ?_
  refine mb_p0 rfl rfl rfl (Or.inl rfl) ((mz_up_ne (by decide)).trans ((mz_up_ne (by decide)).trans (hB 93 3 (by decide)))) ?_
  refine mm_g 2 (pc1 := 26) (lo1 := [some (.ref 93)]) (st1 := [.int (Int32.ofInt 0), .ref 93]) (H1 := (mb 94 mbR90 (mz_up (mz_up gB 0 0 (-1)) 81 2 (-1)) so L 5030)) rfl ?_
  refine mb_p0 rfl rfl rfl (Or.inr rfl) ((mz_up_ne (by decide)).trans ((mz_up_ne (by decide)).trans (hB 93 4 (by decide)))) ?_
  refine mm_rt rfl rfl ⟨none, rfl, ?_⟩
  show mm_W (((d - 1) - 1) - 1) mmX9_init 57 [some (.ref 87), some (.int (Int32.ofInt 3))] [.ref 93, .int (Int32.ofInt 3), .ref 88] (mb 94 mbR90 (mz_up (mz_up gB 0 0 (-1)) 81 2 (-1)) so L 5030) _
  refine mb_aa (len := 6) (c := 3) E184 rfl (by decide) (Or.inr (Or.inl ⟨rfl, rfl⟩)) rfl (by decide) (by decide) ?_
  have E185 : mb_E mbR91 94 := mb_E_set (k := 3) (v := 93) E184 (by decide : 88 < 94) (by decide)
  change mm_W _ _ _ _ _ (mb 94 mbR91 (mz_up (mz_up gB 0 0 (-1)) 81 2 (-1)) so L 5030) _
  refine mz_iincR (v := 3) (lo2 := [some (.ref 87), some (.int (Int32.ofInt 4))]) rfl rfl rfl (Nat.le_of_ble_eq_true rfl) rfl ?_
  refine mz_gt (tgt := 36) rfl rfl ?_
  refine mm_g 2 (pc1 := 38) (lo1 := [some (.ref 87), some (.int (Int32.ofInt 4))]) (st1 := [.ref 87, .int (Int32.ofInt 4)]) (H1 := (mb 94 mbR91 (mz_up (mz_up gB 0 0 (-1)) 81 2 (-1)) so L 5030)) rfl ?_
  refine mb_gf (v := 88) (kd := 4) rfl rfl rfl rfl (by decide) ((mb_g2 E184 (by decide) (by decide)).trans ((mb_g2 E182 (by decide) (by decide)).trans ((mb_g2 E180 (by decide) (by decide)).trans ((mb_g2 E178 (by decide) (by decide)).trans ((mb_g2 E176 (by decide) (by decide)).trans (mb_g1 E174 (by decide))))))) ?_
  refine mb_al (t := 104) (c := 6) rfl rfl (by decide) ?_
  refine mz_ic_ge (a := 4) (b := 6) (tgt := 64) rfl rfl ⟨by decide, by decide⟩ ⟨by decide, by decide⟩ (fun z => absurd z (by decide)) (fun _ => ?_)
  refine mm_g 1 (pc1 := 46) (lo1 := [some (.ref 87), some (.int (Int32.ofInt 4))]) (st1 := [.ref 87]) (H1 := (mb 94 mbR91 (mz_up (mz_up gB 0 0 (-1)) 81 2 (-1)) so L 5030)) rfl ?_
  refine mb_gf (v := 88) (kd := 4) rfl rfl rfl rfl (by decide) ((mb_g2 E184 (by decide) (by decide)).trans ((mb_g2 E182 (by decide) (by decide)).trans ((mb_g2 E180 (by decide) (by decide)).trans ((mb_g2 E178 (by decide) (by decide)).trans ((mb_g2 E176 (by decide) (by decide)).trans (mb_g1 E174 (by decide))))))) ?_
  refine mm_g 1 (pc1 := 50) (lo1 := [some (.ref 87), some (.int (Int32.ofInt 4))]) (st1 := [.int (Int32.ofInt 4), .ref 88]) (H1 := (mb 94 mbR91 (mz_up (mz_up gB 0 0 (-1)) 81 2 (-1)) so L 5030)) rfl ?_
  refine mb_new (sl2 := 5035) E185 rfl rfl (by decide) rfl rfl (fun j => ((mz_up_ne (fun h => absurd h.1 (by decide))).trans ((mz_up_ne (fun h => absurd h.1 (by decide))).trans (hB 94 j (by decide))))) ?_
  have E186 := mb_E_up E185
  refine mm_g 1 (pc1 := 54) (lo1 := [some (.ref 87), some (.int (Int32.ofInt 4))]) (st1 := [.ref 94, .ref 94, .int (Int32.ofInt 4), .ref 88]) (H1 := (mb 95 mbR91 (mz_up (mz_up gB 0 0 (-1)) 81 2 (-1)) so L 5035)) rfl ?_
  refine mb_cl (b := 94) rfl rfl rfl (Nat.le_of_ble_eq_true rfl) (by omega) ?_
  refine ⟨mmX8_init, [some (.ref 94)], rfl, rfl, ?_⟩
  refine mm_g 1 (pc1 := 1) (lo1 := [some (.ref 94)]) (st1 := [.ref 94]) (H1 := (mb 95 mbR91 (mz_up (mz_up gB 0 0 (-1)) 81 2 (-1)) so L 5035)) rfl ?_
  refine mb_obj rfl rfl (Nat.le_of_ble_eq_true rfl) (by omega) ?_
  refine mm_g 2 (pc1 := 6) (lo1 := [some (.ref 94)]) (st1 := [.int (Int32.ofInt 0), .ref 94]) (H1 := (mb 95 mbR91 (mz_up (mz_up gB 0 0 (-1)) 81 2 (-1)) so L 5035)) rfl ?_
  refine mb_p0 rfl rfl rfl (Or.inl rfl) ((mz_up_ne (by decide)).trans ((mz_up_ne (by decide)).trans (hB 94 0 (by decide)))) ?_
  refine mm_g 2 (pc1 := 11) (lo1 := [some (.ref 94)]) (st1 := [.int (Int32.ofInt 0), .ref 94]) (H1 := (mb 95 mbR91 (mz_up (mz_up gB 0 0 (-1)) 81 2 (-1)) so L 5035)) rfl ?_
  refine mb_p0 rfl rfl rfl (Or.inl rfl) ((mz_up_ne (by decide)).trans ((mz_up_ne (by decide)).trans (hB 94 1 (by decide)))) ?_
  refine mm_g 2 (pc1 := 16) (lo1 := [some (.ref 94)]) (st1 := [.int (Int32.ofInt 0), .ref 94]) (H1 := (mb 95 mbR91 (mz_up (mz_up gB 0 0 (-1)) 81 2 (-1)) so L 5035)) rfl ?_
  refine mb_p0 rfl rfl rfl (Or.inl rfl) ((mz_up_ne (by decide)).trans ((mz_up_ne (by decide)).trans (hB 94 2 (by decide)))) ?_
  refine mm_g 2 (pc1 := 21) (lo1 := [some (.ref 94)]) (st1 := [.int (Int32.ofInt 0), .ref 94]) (H1 := (mb 95 mbR91 (mz_up (mz_up gB 0 0 (-1)) 81 2 (-1)) so L 5035)) rfl ?_
  refine mb_p0 rfl rfl rfl (Or.inl rfl) ((mz_up_ne (by decide)).trans ((mz_up_ne (by decide)).trans (hB 94 3 (by decide)))) ?_
  refine mm_g 2 (pc1 := 26) (lo1 := [some (.ref 94)]) (st1 := [.int (Int32.ofInt 0), .ref 94]) (H1 := (mb 95 mbR91 (mz_up (mz_up gB 0 0 (-1)) 81 2 (-1)) so L 5035)) rfl ?_
  refine mb_p0 rfl rfl rfl (Or.inr rfl) ((mz_up_ne (by decide)).trans ((mz_up_ne (by decide)).trans (hB 94 4 (by decide)))) ?_
  refine mm_rt rfl rfl ⟨none, rfl, ?_⟩
  show mm_W (((d - 1) - 1) - 1) mmX9_init 57 [some (.ref 87), some (.int (Int32.ofInt 4))] [.ref 94, .int (Int32.ofInt 4), .ref 88] (mb 95 mbR91 (mz_up (mz_up gB 0 0 (-1)) 81 2 (-1)) so L 5035) _
  refine mb_aa (len := 6) (c := 4) E186 rfl (by decide) (Or.inr (Or.inl ⟨rfl, rfl⟩)) rfl (by decide) (by decide) ?_
  have E187 : mb_E mbR92 95 := mb_E_set (k := 4) (v := 94) E186 (by decide : 88 < 95) (by decide)
  change mm_W _ _ _ _ _ (mb 95 mbR92 (mz_up (mz_up gB 0 0 (-1)) 81 2 (-1)) so L 5035) _
  refine mz_iincR (v := 4) (lo2 := [some (.ref 87), some (.int (Int32.ofInt 5))]) rfl rfl rfl (Nat.le_of_ble_eq_true rfl) rfl ?_
  refine mz_gt (tgt := 36) rfl rfl ?_
  refine mm_g 2 (pc1 := 38) (lo1 := [some (.ref 87), some (.int (Int32.ofInt 5))]) (st1 := [.ref 87, .int (Int32.ofInt 5)]) (H1 := (mb 95 mbR92 (mz_up (mz_up gB 0 0 (-1)) 81 2 (-1)) so L 5035)) rfl ?_
  refine mb_gf (v := 88) (kd := 4) rfl rfl rfl rfl (by decide) ((mb_g2 E186 (by decide) (by decide)).trans ((mb_g2 E184 (by decide) (by decide)).trans ((mb_g2 E182 (by decide) (by decide)).trans ((mb_g2 E180 (by decide) (by decide)).trans ((mb_g2 E178 (by decide) (by decide)).trans ((mb_g2 E176 (by decide) (by decide)).trans (mb_g1 E174 (by decide)))))))) ?_
  refine mb_al (t := 104) (c := 6) rfl rfl (by decide) ?_
  refine mz_ic_ge (a := 5) (b := 6) (tgt := 64) rfl rfl ⟨by decide, by decide⟩ ⟨by decide, by decide⟩ (fun z => absurd z (by decide)) (fun _ => ?_)
  refine mm_g 1 (pc1 := 46) (lo1 := [some (.ref 87), some (.int (Int32.ofInt 5))]) (st1 := [.ref 87]) (H1 := (mb 95 mbR92 (mz_up (mz_up gB 0 0 (-1)) 81 2 (-1)) so L 5035)) rfl ?_
  refine mb_gf (v := 88) (kd := 4) rfl rfl rfl rfl (by decide) ((mb_g2 E186 (by decide) (by decide)).trans ((mb_g2 E184 (by decide) (by decide)).trans ((mb_g2 E182 (by decide) (by decide)).trans ((mb_g2 E180 (by decide) (by decide)).trans ((mb_g2 E178 (by decide) (by decide)).trans ((mb_g2 E176 (by decide) (by decide)).trans (mb_g1 E174 (by decide)))))))) ?_
  refine mm_g 1 (pc1 := 50) (lo1 := [some (.ref 87), some (.int (Int32.ofInt 5))]) (st1 := [.int (Int32.ofInt 5), .ref 88]) (H1 := (mb 95 mbR92 (mz_up (mz_up gB 0 0 (-1)) 81 2 (-1)) so L 5035)) rfl ?_
  refine mb_new (sl2 := 5040) E187 rfl rfl (by decide) rfl rfl (fun j => ((mz_up_ne (fun h => absurd h.1 (by decide))).trans ((mz_up_ne (fun h => absurd h.1 (by decide))).trans (hB 95 j (by decide))))) ?_
  have E188 := mb_E_up E187
  refine mm_g 1 (pc1 := 54) (lo1 := [some (.ref 87), some (.int (Int32.ofInt 5))]) (st1 := [.ref 95, .ref 95, .int (Int32.ofInt 5), .ref 88]) (H1 := (mb 96 mbR92 (mz_up (mz_up gB 0 0 (-1)) 81 2 (-1)) so L 5040)) rfl ?_
  refine mb_cl (b := 95) rfl rfl rfl (Nat.le_of_ble_eq_true rfl) (by omega) ?_
  refine ⟨mmX8_init, [some (.ref 95)], rfl, rfl, ?_⟩
  refine mm_g 1 (pc1 := 1) (lo1 := [some (.ref 95)]) (st1 := [.ref 95]) (H1 := (mb 96 mbR92 (mz_up (mz_up gB 0 0 (-1)) 81 2 (-1)) so L 5040)) rfl ?_
  refine mb_obj rfl rfl (Nat.le_of_ble_eq_true rfl) (by omega) ?_
  refine mm_g 2 (pc1 := 6) (lo1 := [some (.ref 95)]) (st1 := [.int (Int32.ofInt 0), .ref 95]) (H1 := (mb 96 mbR92 (mz_up (mz_up gB 0 0 (-1)) 81 2 (-1)) so L 5040)) rfl ?_
  refine mb_p0 rfl rfl rfl (Or.inl rfl) ((mz_up_ne (by decide)).trans ((mz_up_ne (by decide)).trans (hB 95 0 (by decide)))) ?_
  refine mm_g 2 (pc1 := 11) (lo1 := [some (.ref 95)]) (st1 := [.int (Int32.ofInt 0), .ref 95]) (H1 := (mb 96 mbR92 (mz_up (mz_up gB 0 0 (-1)) 81 2 (-1)) so L 5040)) rfl ?_
  refine mb_p0 rfl rfl rfl (Or.inl rfl) ((mz_up_ne (by decide)).trans ((mz_up_ne (by decide)).trans (hB 95 1 (by decide)))) ?_
  refine mm_g 2 (pc1 := 16) (lo1 := [some (.ref 95)]) (st1 := [.int (Int32.ofInt 0), .ref 95]) (H1 := (mb 96 mbR92 (mz_up (mz_up gB 0 0 (-1)) 81 2 (-1)) so L 5040)) rfl ?_
  refine mb_p0 rfl rfl rfl (Or.inl rfl) ((mz_up_ne (by decide)).trans ((mz_up_ne (by decide)).trans (hB 95 2 (by decide)))) ?_
  refine mm_g 2 (pc1 := 21) (lo1 := [some (.ref 95)]) (st1 := [.int (Int32.ofInt 0), .ref 95]) (H1 := (mb 96 mbR92 (mz_up (mz_up gB 0 0 (-1)) 81 2 (-1)) so L 5040)) rfl ?_
  refine mb_p0 rfl rfl rfl (Or.inl rfl) ((mz_up_ne (by decide)).trans ((mz_up_ne (by decide)).trans (hB 95 3 (by decide)))) ?_
  refine mm_g 2 (pc1 := 26) (lo1 := [some (.ref 95)]) (st1 := [.int (Int32.ofInt 0), .ref 95]) (H1 := (mb 96 mbR92 (mz_up (mz_up gB 0 0 (-1)) 81 2 (-1)) so L 5040)) rfl ?_
  refine mb_p0 rfl rfl rfl (Or.inr rfl) ((mz_up_ne (by decide)).trans ((mz_up_ne (by decide)).trans (hB 95 4 (by decide)))) ?_
  refine mm_rt rfl rfl ⟨none, rfl, ?_⟩
  show mm_W (((d - 1) - 1) - 1) mmX9_init 57 [some (.ref 87), some (.int (Int32.ofInt 5))] [.ref 95, .int (Int32.ofInt 5), .ref 88] (mb 96 mbR92 (mz_up (mz_up gB 0 0 (-1)) 81 2 (-1)) so L 5040) _
  refine mb_aa (len := 6) (c := 5) E188 rfl (by decide) (Or.inr (Or.inl ⟨rfl, rfl⟩)) rfl (by decide) (by decide) ?_
  have E189 : mb_E mbR93 96 := mb_E_set (k := 5) (v := 95) E188 (by decide : 88 < 96) (by decide)
  change mm_W _ _ _ _ _ (mb 96 mbR93 (mz_up (mz_up gB 0 0 (-1)) 81 2 (-1)) so L 5040) _
  refine mz_iincR (v := 5) (lo2 := [some (.ref 87), some (.int (Int32.ofInt 6))]) rfl rfl rfl (Nat.le_of_ble_eq_true rfl) rfl ?_
  refine mz_gt (tgt := 36) rfl rfl ?_
  refine mm_g 2 (pc1 := 38) (lo1 := [some (.ref 87), some (.int (Int32.ofInt 6))]) (st1 := [.ref 87, .int (Int32.ofInt 6)]) (H1 := (mb 96 mbR93 (mz_up (mz_up gB 0 0 (-1)) 81 2 (-1)) so L 5040)) rfl ?_
  refine mb_gf (v := 88) (kd := 4) rfl rfl rfl rfl (by decide) ((mb_g2 E188 (by decide) (by decide)).trans ((mb_g2 E186 (by decide) (by decide)).trans ((mb_g2 E184 (by decide) (by decide)).trans ((mb_g2 E182 (by decide) (by decide)).trans ((mb_g2 E180 (by decide) (by decide)).trans ((mb_g2 E178 (by decide) (by decide)).trans ((mb_g2 E176 (by decide) (by decide)).trans (mb_g1 E174 (by decide))))))))) ?_
  refine mb_al (t := 104) (c := 6) rfl rfl (by decide) ?_
  refine mz_ic_ge (a := 6) (b := 6) (tgt := 64) rfl rfl ⟨by decide, by decide⟩ ⟨by decide, by decide⟩ (fun _ => ?_) (fun z => absurd z (by decide))
  refine mm_rt rfl rfl ⟨none, rfl, ?_⟩
  show mm_W ((d - 1) - 1) mmX6_init 12 [some (.ref 86)] [.ref 87, .ref 86] (mb 96 mbR93 (mz_up (mz_up gB 0 0 (-1)) 81 2 (-1)) so L 5040) _
  refine mb_pR E189 rfl rfl (by decide) rfl (Or.inr ⟨rfl, rfl, rfl⟩) ?_
  have E190 : mb_E mbR94 96 := mb_E_set (k := 0) (v := 87) E189 (by decide : 86 < 96) (by decide)
  change mm_W _ _ _ _ _ (mb 96 mbR94 (mz_up (mz_up gB 0 0 (-1)) 81 2 (-1)) so L 5040) _
  refine mm_g 1 (pc1 := 16) (lo1 := [some (.ref 86)]) (st1 := [.ref 86]) (H1 := (mb 96 mbR94 (mz_up (mz_up gB 0 0 (-1)) 81 2 (-1)) so L 5040)) rfl ?_
  refine mz_sip (c := 1000) rfl (by decide) ?_
  refine mb_nai (sl2 := 6040) (c := 1000) E190 rfl (by decide) (by decide) (by decide) rfl rfl (fun j => ((mz_up_ne (fun h => absurd h.1 (by decide))).trans ((mz_up_ne (fun h => absurd h.1 (by decide))).trans (hB 96 j (by decide))))) ?_
  have E191 := mb_E_up E190
  refine mb_pR E191 rfl rfl (by decide) rfl (Or.inr ⟨rfl, rfl, rfl⟩) ?_
  have E192 : mb_E mbR95 97 := mb_E_set (k := 1) (v := 96) E191 (by decide : 86 < 97) (by decide)
  change mm_W _ _ _ _ _ (mb 97 mbR95 (mz_up (mz_up gB 0 0 (-1)) 81 2 (-1)) so L 6040) _
  refine mm_g 2 (pc1 := 26) (lo1 := [some (.ref 86)]) (st1 := [.int (Int32.ofInt 0), .ref 86]) (H1 := (mb 97 mbR95 (mz_up (mz_up gB 0 0 (-1)) 81 2 (-1)) so L 6040)) rfl ?_
  refine mb_p0 rfl rfl rfl (Or.inl rfl) ((mz_up_ne (by decide)).trans ((mz_up_ne (by decide)).trans (hB 86 2 (by decide)))) ?_
  refine mm_g 2 (pc1 := 31) (lo1 := [some (.ref 86)]) (st1 := [.int (Int32.ofInt 0), .ref 86]) (H1 := (mb 97 mbR95 (mz_up (mz_up gB 0 0 (-1)) 81 2 (-1)) so L 6040)) rfl ?_
  refine mb_p0 rfl rfl rfl (Or.inl rfl) ((mz_up_ne (by decide)).trans ((mz_up_ne (by decide)).trans (hB 86 3 (by decide)))) ?_
  refine mm_g 1 (pc1 := 35) (lo1 := [some (.ref 86)]) (st1 := [.ref 86]) (H1 := (mb 97 mbR95 (mz_up (mz_up gB 0 0 (-1)) 81 2 (-1)) so L 6040)) rfl ?_
  refine mz_bip (c := 8) rfl (by decide) ?_
  refine mb_nai (sl2 := 6048) (c := 8) E192 rfl (by decide) (by decide) (by decide) rfl rfl (fun j => ((mz_up_ne (fun h => absurd h.1 (by decide))).trans ((mz_up_ne (fun h => absurd h.1 (by decide))).trans (hB 97 j (by decide))))) ?_
  have E193 := mb_E_up E192
  refine mb_pR E193 rfl rfl (by decide) rfl (Or.inr ⟨rfl, rfl, rfl⟩) ?_
  have E194 : mb_E mbR96 98 := mb_E_set (k := 4) (v := 97) E193 (by decide : 86 < 98) (by decide)
  change mm_W _ _ _ _ _ (mb 98 mbR96 (mz_up (mz_up gB 0 0 (-1)) 81 2 (-1)) so L 6048) _
  refine mm_g 1 (pc1 := 43) (lo1 := [some (.ref 86)]) (st1 := [.ref 86]) (H1 := (mb 98 mbR96 (mz_up (mz_up gB 0 0 (-1)) 81 2 (-1)) so L 6048)) rfl ?_
  refine mz_bip (c := 8) rfl (by decide) ?_
  refine mb_nai (sl2 := 6056) (c := 8) E194 rfl (by decide) (by decide) (by decide) rfl rfl (fun j => ((mz_up_ne (fun h => absurd h.1 (by decide))).trans ((mz_up_ne (fun h => absurd h.1 (by decide))).trans (hB 98 j (by decide))))) ?_
  have E195 := mb_E_up E194
  refine mb_pR E195 rfl rfl (by decide) rfl (Or.inr ⟨rfl, rfl, rfl⟩) ?_
  have E196 : mb_E mbR97 99 := mb_E_set (k := 5) (v := 98) E195 (by decide : 86 < 99) (by decide)
  change mm_W _ _ _ _ _ (mb 99 mbR97 (mz_up (mz_up gB 0 0 (-1)) 81 2 (-1)) so L 6056) _
  refine mm_g 1 (pc1 := 51) (lo1 := [some (.ref 86)]) (st1 := [.ref 86]) (H1 := (mb 99 mbR97 (mz_up (mz_up gB 0 0 (-1)) 81 2 (-1)) so L 6056)) rfl ?_
  refine mz_bip (c := 8) rfl (by decide) ?_
  refine mb_nai (sl2 := 6064) (c := 8) E196 rfl (by decide) (by decide) (by decide) rfl rfl (fun j => ((mz_up_ne (fun h => absurd h.1 (by decide))).trans ((mz_up_ne (fun h => absurd h.1 (by decide))).trans (hB 99 j (by decide))))) ?_
  have E197 := mb_E_up E196
  refine mb_pR E197 rfl rfl (by decide) rfl (Or.inr ⟨rfl, rfl, rfl⟩) ?_
  have E198 : mb_E mbR98 100 := mb_E_set (k := 6) (v := 99) E197 (by decide : 86 < 100) (by decide)
  change mm_W _ _ _ _ _ (mb 100 mbR98 (mz_up (mz_up gB 0 0 (-1)) 81 2 (-1)) so L 6064) _
  refine mm_g 2 (pc1 := 60) (lo1 := [some (.ref 86)]) (st1 := [.int (Int32.ofInt 0), .ref 86]) (H1 := (mb 100 mbR98 (mz_up (mz_up gB 0 0 (-1)) 81 2 (-1)) so L 6064)) rfl ?_
  refine mb_p0 rfl rfl rfl (Or.inl rfl) ((mz_up_ne (by decide)).trans ((mz_up_ne (by decide)).trans (hB 86 7 (by decide)))) ?_
  refine mm_g 2 (pc1 := 65) (lo1 := [some (.ref 86)]) (st1 := [.int (Int32.ofInt 3), .ref 86]) (H1 := (mb 100 mbR98 (mz_up (mz_up gB 0 0 (-1)) 81 2 (-1)) so L 6064)) rfl ?_
  refine mb_nai (sl2 := 6067) (c := 3) E198 rfl (by decide) (by decide) (by decide) rfl rfl (fun j => ((mz_up_ne (fun h => absurd h.1 (by decide))).trans ((mz_up_ne (fun h => absurd h.1 (by decide))).trans (hB 100 j (by decide))))) ?_
  have E199 := mb_E_up E198
  refine mb_pR E199 rfl rfl (by decide) rfl (Or.inr ⟨rfl, rfl, rfl⟩) ?_
  have E200 : mb_E mbR99 101 := mb_E_set (k := 8) (v := 100) E199 (by decide : 86 < 101) (by decide)
  change mm_W _ _ _ _ _ (mb 101 mbR99 (mz_up (mz_up gB 0 0 (-1)) 81 2 (-1)) so L 6067) _
  refine mm_rt rfl rfl ⟨none, rfl, ?_⟩
  show mm_W (d - 1) mmX11_init 59 [some (.ref 0)] [.ref 86, .ref 0] (mb 101 mbR99 (mz_up (mz_up gB 0 0 (-1)) 81 2 (-1)) so L 6067) _
  refine mb_pR E200 rfl rfl (by decide) rfl (Or.inr ⟨rfl, rfl, rfl⟩) ?_
  have E201 : mb_E mbR100 101 := mb_E_set (k := 5) (v := 86) E200 (by decide : 0 < 101) (by decide)
  change mm_W _ _ _ _ _ (mb 101 mbR100 (mz_up (mz_up gB 0 0 (-1)) 81 2 (-1)) so L 6067) _
  refine mm_g 1 (pc1 := 63) (lo1 := [some (.ref 0)]) (st1 := [.ref 0]) (H1 := (mb 101 mbR100 (mz_up (mz_up gB 0 0 (-1)) 81 2 (-1)) so L 6067)) rfl ?_
  refine mb_new (sl2 := 6076) E201 rfl rfl (by decide) rfl rfl (fun j => ((mz_up_ne (fun h => absurd h.1 (by decide))).trans ((mz_up_ne (fun h => absurd h.1 (by decide))).trans (hB 101 j (by decide))))) ?_
  have E202 := mb_E_up E201
  refine mm_g 1 (pc1 := 67) (lo1 := [some (.ref 0)]) (st1 := [.ref 101, .ref 101, .ref 0]) (H1 := (mb 102 mbR100 (mz_up (mz_up gB 0 0 (-1)) 81 2 (-1)) so L 6076)) rfl ?_
  refine mb_cl (b := 101) rfl rfl rfl (Nat.le_of_ble_eq_true rfl) (by omega) ?_
  refine ⟨mmX6_init, [some (.ref 101)], rfl, rfl, ?_⟩
  refine mm_g 1 (pc1 := 1) (lo1 := [some (.ref 101)]) (st1 := [.ref 101]) (H1 := (mb 102 mbR100 (mz_up (mz_up gB 0 0 (-1)) 81 2 (-1)) so L 6076)) rfl ?_
  refine mb_obj rfl rfl (Nat.le_of_ble_eq_true rfl) (by omega) ?_
  refine mm_g 1 (pc1 := 5) (lo1 := [some (.ref 101)]) (st1 := [.ref 101]) (H1 := (mb 102 mbR100 (mz_up (mz_up gB 0 0 (-1)) 81 2 (-1)) so L 6076)) rfl ?_
  refine mb_new (sl2 := 6080) E202 rfl rfl (by decide) rfl rfl (fun j => ((mz_up_ne (fun h => absurd h.1 (by decide))).trans ((mz_up_ne (fun h => absurd h.1 (by decide))).trans (hB 102 j (by decide))))) ?_
  have E203 := mb_E_up E202
  refine mm_g 1 (pc1 := 9) (lo1 := [some (.ref 101)]) (st1 := [.ref 102, .ref 102, .ref 101]) (H1 := (mb 103 mbR100 (mz_up (mz_up gB 0 0 (-1)) 81 2 (-1)) so L 6080)) rfl ?_
  refine mb_cl (b := 102) rfl rfl rfl (Nat.le_of_ble_eq_true rfl) (by omega) ?_
  refine ⟨mmX9_init, [some (.ref 102), none], rfl, rfl, ?_⟩
  refine mm_g 1 (pc1 := 1) (lo1 := [some (.ref 102), none]) (st1 := [.ref 102]) (H1 := (mb 103 mbR100 (mz_up (mz_up gB 0 0 (-1)) 81 2 (-1)) so L 6080)) rfl ?_
  refine mb_obj rfl rfl (Nat.le_of_ble_eq_true rfl) (by omega) ?_
  refine mm_g 1 (pc1 := 5) (lo1 := [some (.ref 102), none]) (st1 := [.ref 102]) (H1 := (mb 103 mbR100 (mz_up (mz_up gB 0 0 (-1)) 81 2 (-1)) so L 6080)) rfl ?_
  refine mz_bip (c := 6) rfl (by decide) ?_
  refine mb_ana (sl2 := 6086) (c := 6) E203 rfl rfl (by decide) (by decide) (by decide) rfl rfl (fun j => ((mz_up_ne (fun h => absurd h.1 (by decide))).trans ((mz_up_ne (fun h => absurd h.1 (by decide))).trans (hB 103 j (by decide))))) ?_
  have E204 := mb_E_up E203
  refine mb_pR E204 rfl rfl (by decide) rfl (Or.inr ⟨rfl, rfl, rfl⟩) ?_
  have E205 : mb_E mbR101 104 := mb_E_set (k := 0) (v := 103) E204 (by decide : 102 < 104) (by decide)
  change mm_W _ _ _ _ _ (mb 104 mbR101 (mz_up (mz_up gB 0 0 (-1)) 81 2 (-1)) so L 6086) _
  refine mm_g 1 (pc1 := 14) (lo1 := [some (.ref 102), none]) (st1 := [.ref 102]) (H1 := (mb 104 mbR101 (mz_up (mz_up gB 0 0 (-1)) 81 2 (-1)) so L 6086)) rfl ?_
  refine mb_new (sl2 := 6091) E205 rfl rfl (by decide) rfl rfl (fun j => ((mz_up_ne (fun h => absurd h.1 (by decide))).trans ((mz_up_ne (fun h => absurd h.1 (by decide))).trans (hB 104 j (by decide))))) ?_
  have E206 := mb_E_up E205
  refine mm_g 1 (pc1 := 18) (lo1 := [some (.ref 102), none]) (st1 := [.ref 104, .ref 104, .ref 102]) (H1 := (mb 105 mbR101 (mz_up (mz_up gB 0 0 (-1)) 81 2 (-1)) so L 6091)) rfl ?_
  refine mb_cl (b := 104) rfl rfl rfl (Nat.le_of_ble_eq_true rfl) (by omega) ?_
  refine ⟨mmX8_init, [some (.ref 104)], rfl, rfl, ?_⟩
  refine mm_g 1 (pc1 := 1) (lo1 := [some (.ref 104)]) (st1 := [.ref 104]) (H1 := (mb 105 mbR101 (mz_up (mz_up gB 0 0 (-1)) 81 2 (-1)) so L 6091)) rfl ?_
  refine mb_obj rfl rfl (Nat.le_of_ble_eq_true rfl) (by omega) ?_
  refine mm_g 2 (pc1 := 6) (lo1 := [some (.ref 104)]) (st1 := [.int (Int32.ofInt 0), .ref 104]) (H1 := (mb 105 mbR101 (mz_up (mz_up gB 0 0 (-1)) 81 2 (-1)) so L 6091)) rfl ?_
  refine mb_p0 rfl rfl rfl (Or.inl rfl) ((mz_up_ne (by decide)).trans ((mz_up_ne (by decide)).trans (hB 104 0 (by decide)))) ?_
  refine mm_g 2 (pc1 := 11) (lo1 := [some (.ref 104)]) (st1 := [.int (Int32.ofInt 0), .ref 104]) (H1 := (mb 105 mbR101 (mz_up (mz_up gB 0 0 (-1)) 81 2 (-1)) so L 6091)) rfl ?_
  refine mb_p0 rfl rfl rfl (Or.inl rfl) ((mz_up_ne (by decide)).trans ((mz_up_ne (by decide)).trans (hB 104 1 (by decide)))) ?_
  refine mm_g 2 (pc1 := 16) (lo1 := [some (.ref 104)]) (st1 := [.int (Int32.ofInt 0), .ref 104]) (H1 := (mb 105 mbR101 (mz_up (mz_up gB 0 0 (-1)) 81 2 (-1)) so L 6091)) rfl ?_
  refine mb_p0 rfl rfl rfl (Or.inl rfl) ((mz_up_ne (by decide)).trans ((mz_up_ne (by decide)).trans (hB 104 2 (by decide)))) ?_
  refine mm_g 2 (pc1 := 21) (lo1 := [some (.ref 104)]) (st1 := [.int (Int32.ofInt 0), .ref 104]) (H1 := (mb 105 mbR101 (mz_up (mz_up gB 0 0 (-1)) 81 2 (-1)) so L 6091)) rfl ?_
  refine mb_p0 rfl rfl rfl (Or.inl rfl) ((mz_up_ne (by decide)).trans ((mz_up_ne (by decide)).trans (hB 104 3 (by decide)))) ?_
  refine mm_g 2 (pc1 := 26) (lo1 := [some (.ref 104)]) (st1 := [.int (Int32.ofInt 0), .ref 104]) (H1 := (mb 105 mbR101 (mz_up (mz_up gB 0 0 (-1)) 81 2 (-1)) so L 6091)) rfl ?_
  refine mb_p0 rfl rfl rfl (Or.inr rfl) ((mz_up_ne (by decide)).trans ((mz_up_ne (by decide)).trans (hB 104 4 (by decide)))) ?_
  refine mm_rt rfl rfl ⟨none, rfl, ?_⟩
  show mm_W (((d - 1) - 1) - 1) mmX9_init 21 [some (.ref 102), none] [.ref 104, .ref 102] (mb 105 mbR101 (mz_up (mz_up gB 0 0 (-1)) 81 2 (-1)) so L 6091) _
  refine mb_pR E206 rfl rfl (by decide) rfl (Or.inr ⟨rfl, rfl, rfl⟩) ?_
  have E207 : mb_E mbR102 105 := mb_E_set (k := 1) (v := 104) E206 (by decide : 102 < 105) (by decide)
  change mm_W _ _ _ _ _ (mb 105 mbR102 (mz_up (mz_up gB 0 0 (-1)) 81 2 (-1)) so L 6091) _
  refine mm_g 2 (pc1 := 26) (lo1 := [some (.ref 102), none]) (st1 := [.int (Int32.ofInt 0), .ref 102]) (H1 := (mb 105 mbR102 (mz_up (mz_up gB 0 0 (-1)) 81 2 (-1)) so L 6091)) rfl ?_
  refine mb_p0 rfl rfl rfl (Or.inl rfl) ((mz_up_ne (by decide)).trans ((mz_up_ne (by decide)).trans (hB 102 2 (by decide)))) ?_
  refine mm_g 2 (pc1 := 31) (lo1 := [some (.ref 102), none]) (st1 := [.int (Int32.ofInt 0), .ref 102]) (H1 := (mb 105 mbR102 (mz_up (mz_up gB 0 0 (-1)) 81 2 (-1)) so L 6091)) rfl ?_
  refine mb_p0 rfl rfl rfl (Or.inl rfl) ((mz_up_ne (by decide)).trans ((mz_up_ne (by decide)).trans (hB 102 3 (by decide)))) ?_
  refine mm_g 4 (pc1 := 38) (lo1 := [some (.ref 102), some (.int (Int32.ofInt 0))]) (st1 := [.ref 102, .int (Int32.ofInt 0)]) (H1 := (mb 105 mbR102 (mz_up (mz_up gB 0 0 (-1)) 81 2 (-1)) so L 6091)) rfl ?_
  refine mb_gf (v := 103) (kd := 4) rfl rfl rfl rfl (by decide) ((mb_g2 E206 (by decide) (by decide)).trans (mb_g1 E204 (by decide))) ?_
  refine mb_al (t := 104) (c := 6) rfl rfl (by decide) ?_
  refine mz_ic_ge (a := 0) (b := 6) (tgt := 64) rfl rfl ⟨by decide, by decide⟩ ⟨by decide, by decide⟩ (fun z => absurd z (by decide)) (fun _ => ?_)
  refine mm_g 1 (pc1 := 46) (lo1 := [some (.ref 102), some (.int (Int32.ofInt 0))]) (st1 := [.ref 102]) (H1 := (mb 105 mbR102 (mz_up (mz_up gB 0 0 (-1)) 81 2 (-1)) so L 6091)) rfl ?_
  refine mb_gf (v := 103) (kd := 4) rfl rfl rfl rfl (by decide) ((mb_g2 E206 (by decide) (by decide)).trans (mb_g1 E204 (by decide))) ?_
  refine mm_g 1 (pc1 := 50) (lo1 := [some (.ref 102), some (.int (Int32.ofInt 0))]) (st1 := [.int (Int32.ofInt 0), .ref 103]) (H1 := (mb 105 mbR102 (mz_up (mz_up gB 0 0 (-1)) 81 2 (-1)) so L 6091)) rfl ?_
  refine mb_new (sl2 := 6096) E207 rfl rfl (by decide) rfl rfl (fun j => ((mz_up_ne (fun h => absurd h.1 (by decide))).trans ((mz_up_ne (fun h => absurd h.1 (by decide))).trans (hB 105 j (by decide))))) ?_
  have E208 := mb_E_up E207
  refine mm_g 1 (pc1 := 54) (lo1 := [some (.ref 102), some (.int (Int32.ofInt 0))]) (st1 := [.ref 105, .ref 105, .int (Int32.ofInt 0), .ref 103]) (H1 := (mb 106 mbR102 (mz_up (mz_up gB 0 0 (-1)) 81 2 (-1)) so L 6096)) rfl ?_
  refine mb_cl (b := 105) rfl rfl rfl (Nat.le_of_ble_eq_true rfl) (by omega) ?_
  refine ⟨mmX8_init, [some (.ref 105)], rfl, rfl, ?_⟩
  refine mm_g 1 (pc1 := 1) (lo1 := [some (.ref 105)]) (st1 := [.ref 105]) (H1 := (mb 106 mbR102 (mz_up (mz_up gB 0 0 (-1)) 81 2 (-1)) so L 6096)) rfl ?_
  refine mb_obj rfl rfl (Nat.le_of_ble_eq_true rfl) (by omega) ?_
  refine mm_g 2 (pc1 := 6) (lo1 := [some (.ref 105)]) (st1 := [.int (Int32.ofInt 0), .ref 105]) (H1 := (mb 106 mbR102 (mz_up (mz_up gB 0 0 (-1)) 81 2 (-1)) so L 6096)) rfl ?_
  refine mb_p0 rfl rfl rfl (Or.inl rfl) ((mz_up_ne (by decide)).trans ((mz_up_ne (by decide)).trans (hB 105 0 (by decide)))) ?_
  refine mm_g 2 (pc1 := 11) (lo1 := [some (.ref 105)]) (st1 := [.int (Int32.ofInt 0), .ref 105]) (H1 := (mb 106 mbR102 (mz_up (mz_up gB 0 0 (-1)) 81 2 (-1)) so L 6096)) rfl ?_
  refine mb_p0 rfl rfl rfl (Or.inl rfl) ((mz_up_ne (by decide)).trans ((mz_up_ne (by decide)).trans (hB 105 1 (by decide)))) ?_
  refine mm_g 2 (pc1 := 16) (lo1 := [some (.ref 105)]) (st1 := [.int (Int32.ofInt 0), .ref 105]) (H1 := (mb 106 mbR102 (mz_up (mz_up gB 0 0 (-1)) 81 2 (-1)) so L 6096)) rfl ?_
  refine mb_p0 rfl rfl rfl (Or.inl rfl) ((mz_up_ne (by decide)).trans ((mz_up_ne (by decide)).trans (hB 105 2 (by decide)))) ?_
  refine mm_g 2 (pc1 := 21) (lo1 := [some (.ref 105)]) (st1 := [.int (Int32.ofInt 0), .ref 105]) (H1 := (mb 106 mbR102 (mz_up (mz_up gB 0 0 (-1)) 81 2 (-1)) so L 6096)) rfl ?_
  refine mb_p0 rfl rfl rfl (Or.inl rfl) ((mz_up_ne (by decide)).trans ((mz_up_ne (by decide)).trans (hB 105 3 (by decide)))) ?_
  refine mm_g 2 (pc1 := 26) (lo1 := [some (.ref 105)]) (st1 := [.int (Int32.ofInt 0), .ref 105]) (H1 := (mb 106 mbR102 (mz_up (mz_up gB 0 0 (-1)) 81 2 (-1)) so L 6096)) rfl ?_
  refine mb_p0 rfl rfl rfl (Or.inr rfl) ((mz_up_ne (by decide)).trans ((mz_up_ne (by decide)).trans (hB 105 4 (by decide)))) ?_
  refine mm_rt rfl rfl ⟨none, rfl, ?_⟩
  show mm_W (((d - 1) - 1) - 1) mmX9_init 57 [some (.ref 102), some (.int (Int32.ofInt 0))] [.ref 105, .int (Int32.ofInt 0), .ref 103] (mb 106 mbR102 (mz_up (mz_up gB 0 0 (-1)) 81 2 (-1)) so L 6096) _
  refine mb_aa (len := 6) (c := 0) E208 rfl (by decide) (Or.inr (Or.inl ⟨rfl, rfl⟩)) rfl (by decide) (by decide) ?_
  have E209 : mb_E mbR103 106 := mb_E_set (k := 0) (v := 105) E208 (by decide : 103 < 106) (by decide)
  change mm_W _ _ _ _ _ (mb 106 mbR103 (mz_up (mz_up gB 0 0 (-1)) 81 2 (-1)) so L 6096) _
  refine mz_iincR (v := 0) (lo2 := [some (.ref 102), some (.int (Int32.ofInt 1))]) rfl rfl rfl (Nat.le_of_ble_eq_true rfl) rfl ?_
  refine mz_gt (tgt := 36) rfl rfl ?_
  refine mm_g 2 (pc1 := 38) (lo1 := [some (.ref 102), some (.int (Int32.ofInt 1))]) (st1 := [.ref 102, .int (Int32.ofInt 1)]) (H1 := (mb 106 mbR103 (mz_up (mz_up gB 0 0 (-1)) 81 2 (-1)) so L 6096)) rfl ?_
  refine mb_gf (v := 103) (kd := 4) rfl rfl rfl rfl (by decide) ((mb_g2 E208 (by decide) (by decide)).trans ((mb_g2 E206 (by decide) (by decide)).trans (mb_g1 E204 (by decide)))) ?_
  refine mb_al (t := 104) (c := 6) rfl rfl (by decide) ?_
  refine mz_ic_ge (a := 1) (b := 6) (tgt := 64) rfl rfl ⟨by decide, by decide⟩ ⟨by decide, by decide⟩ (fun z => absurd z (by decide)) (fun _ => ?_)
  refine mm_g 1 (pc1 := 46) (lo1 := [some (.ref 102), some (.int (Int32.ofInt 1))]) (st1 := [.ref 102]) (H1 := (mb 106 mbR103 (mz_up (mz_up gB 0 0 (-1)) 81 2 (-1)) so L 6096)) rfl ?_
  refine mb_gf (v := 103) (kd := 4) rfl rfl rfl rfl (by decide) ((mb_g2 E208 (by decide) (by decide)).trans ((mb_g2 E206 (by decide) (by decide)).trans (mb_g1 E204 (by decide)))) ?_
  refine mm_g 1 (pc1 := 50) (lo1 := [some (.ref 102), some (.int (Int32.ofInt 1))]) (st1 := [.int (Int32.ofInt 1), .ref 103]) (H1 := (mb 106 mbR103 (mz_up (mz_up gB 0 0 (-1)) 81 2 (-1)) so L 6096)) rfl ?_
  refine mb_new (sl2 := 6101) E209 rfl rfl (by decide) rfl rfl (fun j => ((mz_up_ne (fun h => absurd h.1 (by decide))).trans ((mz_up_ne (fun h => absurd h.1 (by decide))).trans (hB 106 j (by decide))))) ?_
  have E210 := mb_E_up E209
  refine mm_g 1 (pc1 := 54) (lo1 := [some (.ref 102), some (.int (Int32.ofInt 1))]) (st1 := [.ref 106, .ref 106, .int (Int32.ofInt 1), .ref 103]) (H1 := (mb 107 mbR103 (mz_up (mz_up gB 0 0 (-1)) 81 2 (-1)) so L 6101)) rfl ?_
  refine mb_cl (b := 106) rfl rfl rfl (Nat.le_of_ble_eq_true rfl) (by omega) ?_
  refine ⟨mmX8_init, [some (.ref 106)], rfl, rfl, ?_⟩
  refine mm_g 1 (pc1 := 1) (lo1 := [some (.ref 106)]) (st1 := [.ref 106]) (H1 := (mb 107 mbR103 (mz_up (mz_up gB 0 0 (-1)) 81 2 (-1)) so L 6101)) rfl ?_
  refine mb_obj rfl rfl (Nat.le_of_ble_eq_true rfl) (by omega) ?_
  refine mm_g 2 (pc1 := 6) (lo1 := [some (.ref 106)]) (st1 := [.int (Int32.ofInt 0), .ref 106]) (H1 := (mb 107 mbR103 (mz_up (mz_up gB 0 0 (-1)) 81 2 (-1)) so L 6101)) rfl ?_
  refine mb_p0 rfl rfl rfl (Or.inl rfl) ((mz_up_ne (by decide)).trans ((mz_up_ne (by decide)).trans (hB 106 0 (by decide)))) ?_
  refine mm_g 2 (pc1 := 11) (lo1 := [some (.ref 106)]) (st1 := [.int (Int32.ofInt 0), .ref 106]) (H1 := (mb 107 mbR103 (mz_up (mz_up gB 0 0 (-1)) 81 2 (-1)) so L 6101)) rfl ?_
  refine mb_p0 rfl rfl rfl (Or.inl rfl) ((mz_up_ne (by decide)).trans ((mz_up_ne (by decide)).trans (hB 106 1 (by decide)))) ?_
  refine mm_g 2 (pc1 := 16) (lo1 := [some (.ref 106)]) (st1 := [.int (Int32.ofInt 0), .ref 106]) (H1 := (mb 107 mbR103 (mz_up (mz_up gB 0 0 (-1)) 81 2 (-1)) so L 6101)) rfl ?_
  refine mb_p0 rfl rfl rfl (Or.inl rfl) ((mz_up_ne (by decide)).trans ((mz_up_ne (by decide)).trans (hB 106 2 (by decide)))) ?_
  refine mm_g 2 (pc1 := 21) (lo1 := [some (.ref 106)]) (st1 := [.int (Int32.ofInt 0), .ref 106]) (H1 := (mb 107 mbR103 (mz_up (mz_up gB 0 0 (-1)) 81 2 (-1)) so L 6101)) rfl ?_
  refine mb_p0 rfl rfl rfl (Or.inl rfl) ((mz_up_ne (by decide)).trans ((mz_up_ne (by decide)).trans (hB 106 3 (by decide)))) ?_
  refine mm_g 2 (pc1 := 26) (lo1 := [some (.ref 106)]) (st1 := [.int (Int32.ofInt 0), .ref 106]) (H1 := (mb 107 mbR103 (mz_up (mz_up gB 0 0 (-1)) 81 2 (-1)) so L 6101)) rfl ?_
  refine mb_p0 rfl rfl rfl (Or.inr rfl) ((mz_up_ne (by decide)).trans ((mz_up_ne (by decide)).trans (hB 106 4 (by decide)))) ?_
  refine mm_rt rfl rfl ⟨none, rfl, ?_⟩
  show mm_W (((d - 1) - 1) - 1) mmX9_init 57 [some (.ref 102), some (.int (Int32.ofInt 1))] [.ref 106, .int (Int32.ofInt 1), .ref 103] (mb 107 mbR103 (mz_up (mz_up gB 0 0 (-1)) 81 2 (-1)) so L 6101) _
  refine mb_aa (len := 6) (c := 1) E210 rfl (by decide) (Or.inr (Or.inl ⟨rfl, rfl⟩)) rfl (by decide) (by decide) ?_
  have E211 : mb_E mbR104 107 := mb_E_set (k := 1) (v := 106) E210 (by decide : 103 < 107) (by decide)
  change mm_W _ _ _ _ _ (mb 107 mbR104 (mz_up (mz_up gB 0 0 (-1)) 81 2 (-1)) so L 6101) _
  refine mz_iincR (v := 1) (lo2 := [some (.ref 102), some (.int (Int32.ofInt 2))]) rfl rfl rfl (Nat.le_of_ble_eq_true rfl) rfl ?_
  refine mz_gt (tgt := 36) rfl rfl ?_
  refine mm_g 2 (pc1 := 38) (lo1 := [some (.ref 102), some (.int (Int32.ofInt 2))]) (st1 := [.ref 102, .int (Int32.ofInt 2)]) (H1 := (mb 107 mbR104 (mz_up (mz_up gB 0 0 (-1)) 81 2 (-1)) so L 6101)) rfl ?_
  refine mb_gf (v := 103) (kd := 4) rfl rfl rfl rfl (by decide) ((mb_g2 E210 (by decide) (by decide)).trans ((mb_g2 E208 (by decide) (by decide)).trans ((mb_g2 E206 (by decide) (by decide)).trans (mb_g1 E204 (by decide))))) ?_
  refine mb_al (t := 104) (c := 6) rfl rfl (by decide) ?_
  refine mz_ic_ge (a := 2) (b := 6) (tgt := 64) rfl rfl ⟨by decide, by decide⟩ ⟨by decide, by decide⟩ (fun z => absurd z (by decide)) (fun _ => ?_)
  refine mm_g 1 (pc1 := 46) (lo1 := [some (.ref 102), some (.int (Int32.ofInt 2))]) (st1 := [.ref 102]) (H1 := (mb 107 mbR104 (mz_up (mz_up gB 0 0 (-1)) 81 2 (-1)) so L 6101)) rfl ?_
  refine mb_gf (v := 103) (kd := 4) rfl rfl rfl rfl (by decide) ((mb_g2 E210 (by decide) (by decide)).trans ((mb_g2 E208 (by decide) (by decide)).trans ((mb_g2 E206 (by decide) (by decide)).trans (mb_g1 E204 (by decide))))) ?_
  refine mm_g 1 (pc1 := 50) (lo1 := [some (.ref 102), some (.int (Int32.ofInt 2))]) (st1 := [.int (Int32.ofInt 2), .ref 103]) (H1 := (mb 107 mbR104 (mz_up (mz_up gB 0 0 (-1)) 81 2 (-1)) so L 6101)) rfl ?_
  refine mb_new (sl2 := 6106) E211 rfl rfl (by decide) rfl rfl (fun j => ((mz_up_ne (fun h => absurd h.1 (by decide))).trans ((mz_up_ne (fun h => absurd h.1 (by decide))).trans (hB 107 j (by decide))))) ?_
  have E212 := mb_E_up E211
  refine mm_g 1 (pc1 := 54) (lo1 := [some (.ref 102), some (.int (Int32.ofInt 2))]) (st1 := [.ref 107, .ref 107, .int (Int32.ofInt 2), .ref 103]) (H1 := (mb 108 mbR104 (mz_up (mz_up gB 0 0 (-1)) 81 2 (-1)) so L 6106)) rfl ?_
  refine mb_cl (b := 107) rfl rfl rfl (Nat.le_of_ble_eq_true rfl) (by omega) ?_
  refine ⟨mmX8_init, [some (.ref 107)], rfl, rfl, ?_⟩
  refine mm_g 1 (pc1 := 1) (lo1 := [some (.ref 107)]) (st1 := [.ref 107]) (H1 := (mb 108 mbR104 (mz_up (mz_up gB 0 0 (-1)) 81 2 (-1)) so L 6106)) rfl ?_
  refine mb_obj rfl rfl (Nat.le_of_ble_eq_true rfl) (by omega) ?_
  refine mm_g 2 (pc1 := 6) (lo1 := [some (.ref 107)]) (st1 := [.int (Int32.ofInt 0), .ref 107]) (H1 := (mb 108 mbR104 (mz_up (mz_up gB 0 0 (-1)) 81 2 (-1)) so L 6106)) rfl ?_
  refine mb_p0 rfl rfl rfl (Or.inl rfl) ((mz_up_ne (by decide)).trans ((mz_up_ne (by decide)).trans (hB 107 0 (by decide)))) ?_
  refine mm_g 2 (pc1 := 11) (lo1 := [some (.ref 107)]) (st1 := [.int (Int32.ofInt 0), .ref 107]) (H1 := (mb 108 mbR104 (mz_up (mz_up gB 0 0 (-1)) 81 2 (-1)) so L 6106)) rfl ?_
  refine mb_p0 rfl rfl rfl (Or.inl rfl) ((mz_up_ne (by decide)).trans ((mz_up_ne (by decide)).trans (hB 107 1 (by decide)))) ?_
  refine mm_g 2 (pc1 := 16) (lo1 := [some (.ref 107)]) (st1 := [.int (Int32.ofInt 0), .ref 107]) (H1 := (mb 108 mbR104 (mz_up (mz_up gB 0 0 (-1)) 81 2 (-1)) so L 6106)) rfl ?_
  refine mb_p0 rfl rfl rfl (Or.inl rfl) ((mz_up_ne (by decide)).trans ((mz_up_ne (by decide)).trans (hB 107 2 (by decide)))) ?_
  refine mm_g 2 (pc1 := 21) (lo1 := [some (.ref 107)]) (st1 := [.int (Int32.ofInt 0), .ref 107]) (H1 := (mb 108 mbR104 (mz_up (mz_up gB 0 0 (-1)) 81 2 (-1)) so L 6106)) rfl ?_
  refine mb_p0 rfl rfl rfl (Or.inl rfl) ((mz_up_ne (by decide)).trans ((mz_up_ne (by decide)).trans (hB 107 3 (by decide)))) ?_
  refine mm_g 2 (pc1 := 26) (lo1 := [some (.ref 107)]) (st1 := [.int (Int32.ofInt 0), .ref 107]) (H1 := (mb 108 mbR104 (mz_up (mz_up gB 0 0 (-1)) 81 2 (-1)) so L 6106)) rfl ?_
  refine mb_p0 rfl rfl rfl (Or.inr rfl) ((mz_up_ne (by decide)).trans ((mz_up_ne (by decide)).trans (hB 107 4 (by decide)))) ?_
  refine mm_rt rfl rfl ⟨none, rfl, ?_⟩
  show mm_W (((d - 1) - 1) - 1) mmX9_init 57 [some (.ref 102), some (.int (Int32.ofInt 2))] [.ref 107, .int (Int32.ofInt 2), .ref 103] (mb 108 mbR104 (mz_up (mz_up gB 0 0 (-1)) 81 2 (-1)) so L 6106) _
  refine mb_aa (len := 6) (c := 2) E212 rfl (by decide) (Or.inr (Or.inl ⟨rfl, rfl⟩)) rfl (by decide) (by decide) ?_
  have E213 : mb_E mbR105 108 := mb_E_set (k := 2) (v := 107) E212 (by decide : 103 < 108) (by decide)
  change mm_W _ _ _ _ _ (mb 108 mbR105 (mz_up (mz_up gB 0 0 (-1)) 81 2 (-1)) so L 6106) _
  refine mz_iincR (v := 2) (lo2 := [some (.ref 102), some (.int (Int32.ofInt 3))]) rfl rfl rfl (Nat.le_of_ble_eq_true rfl) rfl ?_
  refine mz_gt (tgt := 36) rfl rfl ?_
  refine mm_g 2 (pc1 := 38) (lo1 := [some (.ref 102), some (.int (Int32.ofInt 3))]) (st1 := [.ref 102, .int (Int32.ofInt 3)]) (H1 := (mb 108 mbR105 (mz_up (mz_up gB 0 0 (-1)) 81 2 (-1)) so L 6106)) rfl ?_
  refine mb_gf (v := 103) (kd := 4) rfl rfl rfl rfl (by decide) ((mb_g2 E212 (by decide) (by decide)).trans ((mb_g2 E210 (by decide) (by decide)).trans ((mb_g2 E208 (by decide) (by decide)).trans ((mb_g2 E206 (by decide) (by decide)).trans (mb_g1 E204 (by decide)))))) ?_
  refine mb_al (t := 104) (c := 6) rfl rfl (by decide) ?_
  refine mz_ic_ge (a := 3) (b := 6) (tgt := 64) rfl rfl ⟨by decide, by decide⟩ ⟨by decide, by decide⟩ (fun z => absurd z (by decide)) (fun _ => ?_)
  refine mm_g 1 (pc1 := 46) (lo1 := [some (.ref 102), some (.int (Int32.ofInt 3))]) (st1 := [.ref 102]) (H1 := (mb 108 mbR105 (mz_up (mz_up gB 0 0 (-1)) 81 2 (-1)) so L 6106)) rfl ?_
  refine mb_gf (v := 103) (kd := 4) rfl rfl rfl rfl (by decide) ((mb_g2 E212 (by decide) (by decide)).trans ((mb_g2 E210 (by decide) (by decide)).trans ((mb_g2 E208 (by decide) (by decide)).trans ((mb_g2 E206 (by decide) (by decide)).trans (mb_g1 E204 (by decide)))))) ?_
  refine mm_g 1 (pc1 := 50) (lo1 := [some (.ref 102), some (.int (Int32.ofInt 3))]) (st1 := [.int (Int32.ofInt 3), .ref 103]) (H1 := (mb 108 mbR105 (mz_up (mz_up gB 0 0 (-1)) 81 2 (-1)) so L 6106)) rfl ?_
  refine mb_new (sl2 := 6111) E213 rfl rfl (by decide) rfl rfl (fun j => ((mz_up_ne (fun h => absurd h.1 (by decide))).trans ((mz_up_ne (fun h => absurd h.1 (by decide))).trans (hB 108 j (by decide))))) ?_
  have E214 := mb_E_up E213
  refine mm_g 1 (pc1 := 54) (lo1 := [some (.ref 102), some (.int (Int32.ofInt 3))]) (st1 := [.ref 108, .ref 108, .int (Int32.ofInt 3), .ref 103]) (H1 := (mb 109 mbR105 (mz_up (mz_up gB 0 0 (-1)) 81 2 (-1)) so L 6111)) rfl ?_
  refine mb_cl (b := 108) rfl rfl rfl (Nat.le_of_ble_eq_true rfl) (by omega) ?_
  refine ⟨mmX8_init, [some (.ref 108)], rfl, rfl, ?_⟩
  refine mm_g 1 (pc1 := 1) (lo1 := [some (.ref 108)]) (st1 := [.ref 108]) (H1 := (mb 109 mbR105 (mz_up (mz_up gB 0 0 (-1)) 81 2 (-1)) so L 6111)) rfl ?_
  refine mb_obj rfl rfl (Nat.le_of_ble_eq_true rfl) (by omega) ?_
  refine mm_g 2 (pc1 := 6) (lo1 := [some (.ref 108)]) (st1 := [.int (Int32.ofInt 0), .ref 108]) (H1 := (mb 109 mbR105 (mz_up (mz_up gB 0 0 (-1)) 81 2 (-1)) so L 6111)) rfl ?_
  refine mb_p0 rfl rfl rfl (Or.inl rfl) ((mz_up_ne (by decide)).trans ((mz_up_ne (by decide)).trans (hB 108 0 (by decide)))) ?_
  refine mm_g 2 (pc1 := 11) (lo1 := [some (.ref 108)]) (st1 := [.int (Int32.ofInt 0), .ref 108]) (H1 := (mb 109 mbR105 (mz_up (mz_up gB 0 0 (-1)) 81 2 (-1)) so L 6111)) rfl ?_
  refine mb_p0 rfl rfl rfl (Or.inl rfl) ((mz_up_ne (by decide)).trans ((mz_up_ne (by decide)).trans (hB 108 1 (by decide)))) ?_
  refine mm_g 2 (pc1 := 16) (lo1 := [some (.ref 108)]) (st1 := [.int (Int32.ofInt 0), .ref 108]) (H1 := (mb 109 mbR105 (mz_up (mz_up gB 0 0 (-1)) 81 2 (-1)) so L 6111)) rfl ?_
  refine mb_p0 rfl rfl rfl (Or.inl rfl) ((mz_up_ne (by decide)).trans ((mz_up_ne (by decide)).trans (hB 108 2 (by decide)))) ?_
  refine mm_g 2 (pc1 := 21) (lo1 := [some (.ref 108)]) (st1 := [.int (Int32.ofInt 0), .ref 108]) (H1 := (mb 109 mbR105 (mz_up (mz_up gB 0 0 (-1)) 81 2 (-1)) so L 6111)) rfl ?_
  refine mb_p0 rfl rfl rfl (Or.inl rfl) ((mz_up_ne (by decide)).trans ((mz_up_ne (by decide)).trans (hB 108 3 (by decide)))) ?_
  refine mm_g 2 (pc1 := 26) (lo1 := [some (.ref 108)]) (st1 := [.int (Int32.ofInt 0), .ref 108]) (H1 := (mb 109 mbR105 (mz_up (mz_up gB 0 0 (-1)) 81 2 (-1)) so L 6111)) rfl ?_
  refine mb_p0 rfl rfl rfl (Or.inr rfl) ((mz_up_ne (by decide)).trans ((mz_up_ne (by decide)).trans (hB 108 4 (by decide)))) ?_
  refine mm_rt rfl rfl ⟨none, rfl, ?_⟩
  show mm_W (((d - 1) - 1) - 1) mmX9_init 57 [some (.ref 102), some (.int (Int32.ofInt 3))] [.ref 108, .int (Int32.ofInt 3), .ref 103] (mb 109 mbR105 (mz_up (mz_up gB 0 0 (-1)) 81 2 (-1)) so L 6111) _
  refine mb_aa (len := 6) (c := 3) E214 rfl (by decide) (Or.inr (Or.inl ⟨rfl, rfl⟩)) rfl (by decide) (by decide) ?_
  have E215 : mb_E mbR106 109 := mb_E_set (k := 3) (v := 108) E214 (by decide : 103 < 109) (by decide)
  change mm_W _ _ _ _ _ (mb 109 mbR106 (mz_up (mz_up gB 0 0 (-1)) 81 2 (-1)) so L 6111) _
  refine mz_iincR (v := 3) (lo2 := [some (.ref 102), some (.int (Int32.ofInt 4))]) rfl rfl rfl (Nat.le_of_ble_eq_true rfl) rfl ?_
  refine mz_gt (tgt := 36) rfl rfl ?_
  refine mm_g 2 (pc1 := 38) (lo1 := [some (.ref 102), some (.int (Int32.ofInt 4))]) (st1 := [.ref 102, .int (Int32.ofInt 4)]) (H1 := (mb 109 mbR106 (mz_up (mz_up gB 0 0 (-1)) 81 2 (-1)) so L 6111)) rfl ?_
  refine mb_gf (v := 103) (kd := 4) rfl rfl rfl rfl (by decide) ((mb_g2 E214 (by decide) (by decide)).trans ((mb_g2 E212 (by decide) (by decide)).trans ((mb_g2 E210 (by decide) (by decide)).trans ((mb_g2 E208 (by decide) (by decide)).trans ((mb_g2 E206 (by decide) (by decide)).trans (mb_g1 E204 (by decide))))))) ?_
  refine mb_al (t := 104) (c := 6) rfl rfl (by decide) ?_
  refine mz_ic_ge (a := 4) (b := 6) (tgt := 64) rfl rfl ⟨by decide, by decide⟩ ⟨by decide, by decide⟩ (fun z => absurd z (by decide)) (fun _ => ?_)
  refine mm_g 1 (pc1 := 46) (lo1 := [some (.ref 102), some (.int (Int32.ofInt 4))]) (st1 := [.ref 102]) (H1 := (mb 109 mbR106 (mz_up (mz_up gB 0 0 (-1)) 81 2 (-1)) so L 6111)) rfl ?_
  refine mb_gf (v := 103) (kd := 4) rfl rfl rfl rfl (by decide) ((mb_g2 E214 (by decide) (by decide)).trans ((mb_g2 E212 (by decide) (by decide)).trans ((mb_g2 E210 (by decide) (by decide)).trans ((mb_g2 E208 (by decide) (by decide)).trans ((mb_g2 E206 (by decide) (by decide)).trans (mb_g1 E204 (by decide))))))) ?_
  refine mm_g 1 (pc1 := 50) (lo1 := [some (.ref 102), some (.int (Int32.ofInt 4))]) (st1 := [.int (Int32.ofInt 4), .ref 103]) (H1 := (mb 109 mbR106 (mz_up (mz_up gB 0 0 (-1)) 81 2 (-1)) so L 6111)) rfl ?_
  refine mb_new (sl2 := 6116) E215 rfl rfl (by decide) rfl rfl (fun j => ((mz_up_ne (fun h => absurd h.1 (by decide))).trans ((mz_up_ne (fun h => absurd h.1 (by decide))).trans (hB 109 j (by decide))))) ?_
  have E216 := mb_E_up E215
  refine mm_g 1 (pc1 := 54) (lo1 := [some (.ref 102), some (.int (Int32.ofInt 4))]) (st1 := [.ref 109, .ref 109, .int (Int32.ofInt 4), .ref 103]) (H1 := (mb 110 mbR106 (mz_up (mz_up gB 0 0 (-1)) 81 2 (-1)) so L 6116)) rfl ?_
  refine mb_cl (b := 109) rfl rfl rfl (Nat.le_of_ble_eq_true rfl) (by omega) ?_
  refine ⟨mmX8_init, [some (.ref 109)], rfl, rfl, ?_⟩
  refine mm_g 1 (pc1 := 1) (lo1 := [some (.ref 109)]) (st1 := [.ref 109]) (H1 := (mb 110 mbR106 (mz_up (mz_up gB 0 0 (-1)) 81 2 (-1)) so L 6116)) rfl ?_
  refine mb_obj rfl rfl (Nat.le_of_ble_eq_true rfl) (by omega) ?_
  refine mm_g 2 (pc1 := 6) (lo1 := [some (.ref 109)]) (st1 := [.int (Int32.ofInt 0), .ref 109]) (H1 := (mb 110 mbR106 (mz_up (mz_up gB 0 0 (-1)) 81 2 (-1)) so L 6116)) rfl ?_
  refine mb_p0 rfl rfl rfl (Or.inl rfl) ((mz_up_ne (by decide)).trans ((mz_up_ne (by decide)).trans (hB 109 0 (by decide)))) ?_
  refine mm_g 2 (pc1 := 11) (lo1 := [some (.ref 109)]) (st1 := [.int (Int32.ofInt 0), .ref 109]) (H1 := (mb 110 mbR106 (mz_up (mz_up gB 0 0 (-1)) 81 2 (-1)) so L 6116)) rfl ?_
  refine mb_p0 rfl rfl rfl (Or.inl rfl) ((mz_up_ne (by decide)).trans ((mz_up_ne (by decide)).trans (hB 109 1 (by decide)))) ?_
  refine mm_g 2 (pc1 := 16) (lo1 := [some (.ref 109)]) (st1 := [.int (Int32.ofInt 0), .ref 109]) (H1 := (mb 110 mbR106 (mz_up (mz_up gB 0 0 (-1)) 81 2 (-1)) so L 6116)) rfl ?_
  refine mb_p0 rfl rfl rfl (Or.inl rfl) ((mz_up_ne (by decide)).trans ((mz_up_ne (by decide)).trans (hB 109 2 (by decide)))) ?_
  refine mm_g 2 (pc1 := 21) (lo1 := [some (.ref 109)]) (st1 := [.int (Int32.ofInt 0), .ref 109]) (H1 := (mb 110 mbR106 (mz_up (mz_up gB 0 0 (-1)) 81 2 (-1)) so L 6116)) rfl ?_
  refine mb_p0 rfl rfl rfl (Or.inl rfl) ((mz_up_ne (by decide)).trans ((mz_up_ne (by decide)).trans (hB 109 3 (by decide)))) ?_
  refine mm_g 2 (pc1 := 26) (lo1 := [some (.ref 109)]) (st1 := [.int (Int32.ofInt 0), .ref 109]) (H1 := (mb 110 mbR106 (mz_up (mz_up gB 0 0 (-1)) 81 2 (-1)) so L 6116)) rfl ?_
  refine mb_p0 rfl rfl rfl (Or.inr rfl) ((mz_up_ne (by decide)).trans ((mz_up_ne (by decide)).trans (hB 109 4 (by decide)))) ?_
  refine mm_rt rfl rfl ⟨none, rfl, ?_⟩
  show mm_W (((d - 1) - 1) - 1) mmX9_init 57 [some (.ref 102), some (.int (Int32.ofInt 4))] [.ref 109, .int (Int32.ofInt 4), .ref 103] (mb 110 mbR106 (mz_up (mz_up gB 0 0 (-1)) 81 2 (-1)) so L 6116) _
  refine mb_aa (len := 6) (c := 4) E216 rfl (by decide) (Or.inr (Or.inl ⟨rfl, rfl⟩)) rfl (by decide) (by decide) ?_
  have E217 : mb_E mbR107 110 := mb_E_set (k := 4) (v := 109) E216 (by decide : 103 < 110) (by decide)
  change mm_W _ _ _ _ _ (mb 110 mbR107 (mz_up (mz_up gB 0 0 (-1)) 81 2 (-1)) so L 6116) _
  refine mz_iincR (v := 4) (lo2 := [some (.ref 102), some (.int (Int32.ofInt 5))]) rfl rfl rfl (Nat.le_of_ble_eq_true rfl) rfl ?_
  refine mz_gt (tgt := 36) rfl rfl ?_
  refine mm_g 2 (pc1 := 38) (lo1 := [some (.ref 102), some (.int (Int32.ofInt 5))]) (st1 := [.ref 102, .int (Int32.ofInt 5)]) (H1 := (mb 110 mbR107 (mz_up (mz_up gB 0 0 (-1)) 81 2 (-1)) so L 6116)) rfl ?_
  refine mb_gf (v := 103) (kd := 4) rfl rfl rfl rfl (by decide) ((mb_g2 E216 (by decide) (by decide)).trans ((mb_g2 E214 (by decide) (by decide)).trans ((mb_g2 E212 (by decide) (by decide)).trans ((mb_g2 E210 (by decide) (by decide)).trans ((mb_g2 E208 (by decide) (by decide)).trans ((mb_g2 E206 (by decide) (by decide)).trans (mb_g1 E204 (by decide)))))))) ?_
  refine mb_al (t := 104) (c := 6) rfl rfl (by decide) ?_
  refine mz_ic_ge (a := 5) (b := 6) (tgt := 64) rfl rfl ⟨by decide, by decide⟩ ⟨by decide, by decide⟩ (fun z => absurd z (by decide)) (fun _ => ?_)
  refine mm_g 1 (pc1 := 46) (lo1 := [some (.ref 102), some (.int (Int32.ofInt 5))]) (st1 := [.ref 102]) (H1 := (mb 110 mbR107 (mz_up (mz_up gB 0 0 (-1)) 81 2 (-1)) so L 6116)) rfl ?_
  refine mb_gf (v := 103) (kd := 4) rfl rfl rfl rfl (by decide) ((mb_g2 E216 (by decide) (by decide)).trans ((mb_g2 E214 (by decide) (by decide)).trans ((mb_g2 E212 (by decide) (by decide)).trans ((mb_g2 E210 (by decide) (by decide)).trans ((mb_g2 E208 (by decide) (by decide)).trans ((mb_g2 E206 (by decide) (by decide)).trans (mb_g1 E204 (by decide)))))))) ?_
  refine mm_g 1 (pc1 := 50) (lo1 := [some (.ref 102), some (.int (Int32.ofInt 5))]) (st1 := [.int (Int32.ofInt 5), .ref 103]) (H1 := (mb 110 mbR107 (mz_up (mz_up gB 0 0 (-1)) 81 2 (-1)) so L 6116)) rfl ?_
  refine mb_new (sl2 := 6121) E217 rfl rfl (by decide) rfl rfl (fun j => ((mz_up_ne (fun h => absurd h.1 (by decide))).trans ((mz_up_ne (fun h => absurd h.1 (by decide))).trans (hB 110 j (by decide))))) ?_
  have E218 := mb_E_up E217
  refine mm_g 1 (pc1 := 54) (lo1 := [some (.ref 102), some (.int (Int32.ofInt 5))]) (st1 := [.ref 110, .ref 110, .int (Int32.ofInt 5), .ref 103]) (H1 := (mb 111 mbR107 (mz_up (mz_up gB 0 0 (-1)) 81 2 (-1)) so L 6121)) rfl ?_
  refine mb_cl (b := 110) rfl rfl rfl (Nat.le_of_ble_eq_true rfl) (by omega) ?_
  refine ⟨mmX8_init, [some (.ref 110)], rfl, rfl, ?_⟩
  refine mm_g 1 (pc1 := 1) (lo1 := [some (.ref 110)]) (st1 := [.ref 110]) (H1 := (mb 111 mbR107 (mz_up (mz_up gB 0 0 (-1)) 81 2 (-1)) so L 6121)) rfl ?_
  refine mb_obj rfl rfl (Nat.le_of_ble_eq_true rfl) (by omega) ?_
  refine mm_g 2 (pc1 := 6) (lo1 := [some (.ref 110)]) (st1 := [.int (Int32.ofInt 0), .ref 110]) (H1 := (mb 111 mbR107 (mz_up (mz_up gB 0 0 (-1)) 81 2 (-1)) so L 6121)) rfl ?_
  refine mb_p0 rfl rfl rfl (Or.inl rfl) ((mz_up_ne (by decide)).trans ((mz_up_ne (by decide)).trans (hB 110 0 (by decide)))) ?_
  refine mm_g 2 (pc1 := 11) (lo1 := [some (.ref 110)]) (st1 := [.int (Int32.ofInt 0), .ref 110]) (H1 := (mb 111 mbR107 (mz_up (mz_up gB 0 0 (-1)) 81 2 (-1)) so L 6121)) rfl ?_
  refine mb_p0 rfl rfl rfl (Or.inl rfl) ((mz_up_ne (by decide)).trans ((mz_up_ne (by decide)).trans (hB 110 1 (by decide)))) ?_
  refine mm_g 2 (pc1 := 16) (lo1 := [some (.ref 110)]) (st1 := [.int (Int32.ofInt 0), .ref 110]) (H1 := (mb 111 mbR107 (mz_up (mz_up gB 0 0 (-1)) 81 2 (-1)) so L 6121)) rfl ?_
  refine mb_p0 rfl rfl rfl (Or.inl rfl) ((mz_up_ne (by decide)).trans ((mz_up_ne (by decide)).trans (hB 110 2 (by decide)))) ?_
  refine mm_g 2 (pc1 := 21) (lo1 := [some (.ref 110)]) (st1 := [.int (Int32.ofInt 0), .ref 110]) (H1 := (mb 111 mbR107 (mz_up (mz_up gB 0 0 (-1)) 81 2 (-1)) so L 6121)) rfl ?_
  refine mb_p0 rfl rfl rfl (Or.inl rfl) ((mz_up_ne (by decide)).trans ((mz_up_ne (by decide)).trans (hB 110 3 (by decide)))) ?_
  refine mm_g 2 (pc1 := 26) (lo1 := [some (.ref 110)]) (st1 := [.int (Int32.ofInt 0), .ref 110]) (H1 := (mb 111 mbR107 (mz_up (mz_up gB 0 0 (-1)) 81 2 (-1)) so L 6121)) rfl ?_
  refine mb_p0 rfl rfl rfl (Or.inr rfl) ((mz_up_ne (by decide)).trans ((mz_up_ne (by decide)).trans (hB 110 4 (by decide)))) ?_
  refine mm_rt rfl rfl ⟨none, rfl, ?_⟩
  show mm_W (((d - 1) - 1) - 1) mmX9_init 57 [some (.ref 102), some (.int (Int32.ofInt 5))] [.ref 110, .int (Int32.ofInt 5), .ref 103] (mb 111 mbR107 (mz_up (mz_up gB 0 0 (-1)) 81 2 (-1)) so L 6121) _
  refine mb_aa (len := 6) (c := 5) E218 rfl (by decide) (Or.inr (Or.inl ⟨rfl, rfl⟩)) rfl (by decide) (by decide) ?_
  have E219 : mb_E mbR108 111 := mb_E_set (k := 5) (v := 110) E218 (by decide : 103 < 111) (by decide)
  change mm_W _ _ _ _ _ (mb 111 mbR108 (mz_up (mz_up gB 0 0 (-1)) 81 2 (-1)) so L 6121) _
  refine mz_iincR (v := 5) (lo2 := [some (.ref 102), some (.int (Int32.ofInt 6))]) rfl rfl rfl (Nat.le_of_ble_eq_true rfl) rfl ?_
  refine mz_gt (tgt := 36) rfl rfl ?_
  refine mm_g 2 (pc1 := 38) (lo1 := [some (.ref 102), some (.int (Int32.ofInt 6))]) (st1 := [.ref 102, .int (Int32.ofInt 6)]) (H1 := (mb 111 mbR108 (mz_up (mz_up gB 0 0 (-1)) 81 2 (-1)) so L 6121)) rfl ?_
  refine mb_gf (v := 103) (kd := 4) rfl rfl rfl rfl (by decide) ((mb_g2 E218 (by decide) (by decide)).trans ((mb_g2 E216 (by decide) (by decide)).trans ((mb_g2 E214 (by decide) (by decide)).trans ((mb_g2 E212 (by decide) (by decide)).trans ((mb_g2 E210 (by decide) (by decide)).trans ((mb_g2 E208 (by decide) (by decide)).trans ((mb_g2 E206 (by decide) (by decide)).trans (mb_g1 E204 (by decide))))))))) ?_
  refine mb_al (t := 104) (c := 6) rfl rfl (by decide) ?_
  refine mz_ic_ge (a := 6) (b := 6) (tgt := 64) rfl rfl ⟨by decide, by decide⟩ ⟨by decide, by decide⟩ (fun _ => ?_) (fun z => absurd z (by decide))
  refine mm_rt rfl rfl ⟨none, rfl, ?_⟩
  show mm_W ((d - 1) - 1) mmX6_init 12 [some (.ref 101)] [.ref 102, .ref 101] (mb 111 mbR108 (mz_up (mz_up gB 0 0 (-1)) 81 2 (-1)) so L 6121) _
  refine mb_pR E219 rfl rfl (by decide) rfl (Or.inr ⟨rfl, rfl, rfl⟩) ?_
  have E220 : mb_E mbR109 111 := mb_E_set (k := 0) (v := 102) E219 (by decide : 101 < 111) (by decide)
  change mm_W _ _ _ _ _ (mb 111 mbR109 (mz_up (mz_up gB 0 0 (-1)) 81 2 (-1)) so L 6121) _
  refine mm_g 1 (pc1 := 16) (lo1 := [some (.ref 101)]) (st1 := [.ref 101]) (H1 := (mb 111 mbR109 (mz_up (mz_up gB 0 0 (-1)) 81 2 (-1)) so L 6121)) rfl ?_
  refine mz_sip (c := 1000) rfl (by decide) ?_
  refine mb_nai (sl2 := 7121) (c := 1000) E220 rfl (by decide) (by decide) (by decide) rfl rfl (fun j => ((mz_up_ne (fun h => absurd h.1 (by decide))).trans ((mz_up_ne (fun h => absurd h.1 (by decide))).trans (hB 111 j (by decide))))) ?_
  have E221 := mb_E_up E220
  refine mb_pR E221 rfl rfl (by decide) rfl (Or.inr ⟨rfl, rfl, rfl⟩) ?_
  have E222 : mb_E mbR110 112 := mb_E_set (k := 1) (v := 111) E221 (by decide : 101 < 112) (by decide)
  change mm_W _ _ _ _ _ (mb 112 mbR110 (mz_up (mz_up gB 0 0 (-1)) 81 2 (-1)) so L 7121) _
  refine mm_g 2 (pc1 := 26) (lo1 := [some (.ref 101)]) (st1 := [.int (Int32.ofInt 0), .ref 101]) (H1 := (mb 112 mbR110 (mz_up (mz_up gB 0 0 (-1)) 81 2 (-1)) so L 7121)) rfl ?_
  refine mb_p0 rfl rfl rfl (Or.inl rfl) ((mz_up_ne (by decide)).trans ((mz_up_ne (by decide)).trans (hB 101 2 (by decide)))) ?_
  refine mm_g 2 (pc1 := 31) (lo1 := [some (.ref 101)]) (st1 := [.int (Int32.ofInt 0), .ref 101]) (H1 := (mb 112 mbR110 (mz_up (mz_up gB 0 0 (-1)) 81 2 (-1)) so L 7121)) rfl ?_
  refine mb_p0 rfl rfl rfl (Or.inl rfl) ((mz_up_ne (by decide)).trans ((mz_up_ne (by decide)).trans (hB 101 3 (by decide)))) ?_
  refine mm_g 1 (pc1 := 35) (lo1 := [some (.ref 101)]) (st1 := [.ref 101]) (H1 := (mb 112 mbR110 (mz_up (mz_up gB 0 0 (-1)) 81 2 (-1)) so L 7121)) rfl ?_
  refine mz_bip (c := 8) rfl (by decide) ?_
  refine mb_nai (sl2 := 7129) (c := 8) E222 rfl (by decide) (by decide) (by decide) rfl rfl (fun j => ((mz_up_ne (fun h => absurd h.1 (by decide))).trans ((mz_up_ne (fun h => absurd h.1 (by decide))).trans (hB 112 j (by decide))))) ?_
  have E223 := mb_E_up E222
  refine mb_pR E223 rfl rfl (by decide) rfl (Or.inr ⟨rfl, rfl, rfl⟩) ?_
  have E224 : mb_E mbR111 113 := mb_E_set (k := 4) (v := 112) E223 (by decide : 101 < 113) (by decide)
  change mm_W _ _ _ _ _ (mb 113 mbR111 (mz_up (mz_up gB 0 0 (-1)) 81 2 (-1)) so L 7129) _
  refine mm_g 1 (pc1 := 43) (lo1 := [some (.ref 101)]) (st1 := [.ref 101]) (H1 := (mb 113 mbR111 (mz_up (mz_up gB 0 0 (-1)) 81 2 (-1)) so L 7129)) rfl ?_
  refine mz_bip (c := 8) rfl (by decide) ?_
  refine mb_nai (sl2 := 7137) (c := 8) E224 rfl (by decide) (by decide) (by decide) rfl rfl (fun j => ((mz_up_ne (fun h => absurd h.1 (by decide))).trans ((mz_up_ne (fun h => absurd h.1 (by decide))).trans (hB 113 j (by decide))))) ?_
  have E225 := mb_E_up E224
  refine mb_pR E225 rfl rfl (by decide) rfl (Or.inr ⟨rfl, rfl, rfl⟩) ?_
  have E226 : mb_E mbR112 114 := mb_E_set (k := 5) (v := 113) E225 (by decide : 101 < 114) (by decide)
  change mm_W _ _ _ _ _ (mb 114 mbR112 (mz_up (mz_up gB 0 0 (-1)) 81 2 (-1)) so L 7137) _
  refine mm_g 1 (pc1 := 51) (lo1 := [some (.ref 101)]) (st1 := [.ref 101]) (H1 := (mb 114 mbR112 (mz_up (mz_up gB 0 0 (-1)) 81 2 (-1)) so L 7137)) rfl ?_
  refine mz_bip (c := 8) rfl (by decide) ?_
  refine mb_nai (sl2 := 7145) (c := 8) E226 rfl (by decide) (by decide) (by decide) rfl rfl (fun j => ((mz_up_ne (fun h => absurd h.1 (by decide))).trans ((mz_up_ne (fun h => absurd h.1 (by decide))).trans (hB 114 j (by decide))))) ?_
  have E227 := mb_E_up E226
  refine mb_pR E227 rfl rfl (by decide) rfl (Or.inr ⟨rfl, rfl, rfl⟩) ?_
  have E228 : mb_E mbR113 115 := mb_E_set (k := 6) (v := 114) E227 (by decide : 101 < 115) (by decide)
  change mm_W _ _ _ _ _ (mb 115 mbR113 (mz_up (mz_up gB 0 0 (-1)) 81 2 (-1)) so L 7145) _
  refine mm_g 2 (pc1 := 60) (lo1 := [some (.ref 101)]) (st1 := [.int (Int32.ofInt 0), .ref 101]) (H1 := (mb 115 mbR113 (mz_up (mz_up gB 0 0 (-1)) 81 2 (-1)) so L 7145)) rfl ?_
  refine mb_p0 rfl rfl rfl (Or.inl rfl) ((mz_up_ne (by decide)).trans ((mz_up_ne (by decide)).trans (hB 101 7 (by decide)))) ?_
  refine mm_g 2 (pc1 := 65) (lo1 := [some (.ref 101)]) (st1 := [.int (Int32.ofInt 3), .ref 101]) (H1 := (mb 115 mbR113 (mz_up (mz_up gB 0 0 (-1)) 81 2 (-1)) so L 7145)) rfl ?_
  refine mb_nai (sl2 := 7148) (c := 3) E228 rfl (by decide) (by decide) (by decide) rfl rfl (fun j => ((mz_up_ne (fun h => absurd h.1 (by decide))).trans ((mz_up_ne (fun h => absurd h.1 (by decide))).trans (hB 115 j (by decide))))) ?_
  have E229 := mb_E_up E228
  refine mb_pR E229 rfl rfl (by decide) rfl (Or.inr ⟨rfl, rfl, rfl⟩) ?_
  have E230 : mb_E mbR114 116 := mb_E_set (k := 8) (v := 115) E229 (by decide : 101 < 116) (by decide)
  change mm_W _ _ _ _ _ (mb 116 mbR114 (mz_up (mz_up gB 0 0 (-1)) 81 2 (-1)) so L 7148) _
  refine mm_rt rfl rfl ⟨none, rfl, ?_⟩
  show mm_W (d - 1) mmX11_init 70 [some (.ref 0)] [.ref 101, .ref 0] (mb 116 mbR114 (mz_up (mz_up gB 0 0 (-1)) 81 2 (-1)) so L 7148) _
  refine mb_pR E230 rfl rfl (by decide) rfl (Or.inr ⟨rfl, rfl, rfl⟩) ?_
  have E231 : mb_E mbR115 116 := mb_E_set (k := 6) (v := 101) E230 (by decide : 0 < 116) (by decide)
  change mm_W _ _ _ _ _ (mb 116 mbR115 (mz_up (mz_up gB 0 0 (-1)) 81 2 (-1)) so L 7148) _
  refine mm_g 2 (pc1 := 75) (lo1 := [some (.ref 0)]) (st1 := [.int (Int32.ofInt 0), .ref 0]) (H1 := (mb 116 mbR115 (mz_up (mz_up gB 0 0 (-1)) 81 2 (-1)) so L 7148)) rfl ?_
  refine mb_p0 rfl rfl rfl (Or.inr rfl) ((mz_up_ne (by decide)).trans ((mz_up_ne (by decide)).trans (hB 0 7 (by decide)))) ?_
  refine mm_g 1 (pc1 := 79) (lo1 := [some (.ref 0)]) (st1 := [.ref 0]) (H1 := (mb 116 mbR115 (mz_up (mz_up gB 0 0 (-1)) 81 2 (-1)) so L 7148)) rfl ?_
  refine mb_new (sl2 := 7149) E231 rfl rfl (by decide) rfl rfl (fun j => ((mz_up_ne (fun h => absurd h.1 (by decide))).trans ((mz_up_ne (fun h => absurd h.1 (by decide))).trans (hB 116 j (by decide))))) ?_
  have E232 := mb_E_up E231
  refine mm_g 1 (pc1 := 83) (lo1 := [some (.ref 0)]) (st1 := [.ref 116, .ref 116, .ref 0]) (H1 := (mb 117 mbR115 (mz_up (mz_up gB 0 0 (-1)) 81 2 (-1)) so L 7149)) rfl ?_
  refine mb_cl (b := 116) rfl rfl rfl (Nat.le_of_ble_eq_true rfl) (by omega) ?_
  refine ⟨mmX2_init, [some (.ref 116)], rfl, rfl, ?_⟩
  refine mm_g 1 (pc1 := 1) (lo1 := [some (.ref 116)]) (st1 := [.ref 116]) (H1 := (mb 117 mbR115 (mz_up (mz_up gB 0 0 (-1)) 81 2 (-1)) so L 7149)) rfl ?_
  refine mb_obj rfl rfl (Nat.le_of_ble_eq_true rfl) (by omega) ?_
  refine mm_g 1 (pc1 := 5) (lo1 := [some (.ref 116)]) (st1 := [.ref 116]) (H1 := (mb 117 mbR115 (mz_up (mz_up gB 0 0 (-1)) 81 2 (-1)) so L 7149)) rfl ?_
  refine mz_bip (c := 17) rfl (by decide) ?_
  refine mb_nai (sl2 := 7166) (c := 17) E232 rfl (by decide) (by decide) (by decide) rfl rfl (fun j => ((mz_up_ne (fun h => absurd h.1 (by decide))).trans ((mz_up_ne (fun h => absurd h.1 (by decide))).trans (hB 117 j (by decide))))) ?_
  have E233 := mb_E_up E232
  refine mb_pR E233 rfl rfl (by decide) rfl (Or.inr ⟨rfl, rfl, rfl⟩) ?_
  have E234 : mb_E mbR116 118 := mb_E_set (k := 0) (v := 117) E233 (by decide : 116 < 118) (by decide)
  change mm_W _ _ _ _ _ (mb 118 mbR116 (mz_up (mz_up gB 0 0 (-1)) 81 2 (-1)) so L 7166) _
  refine mm_rt rfl rfl ⟨none, rfl, ?_⟩
  show mm_W (d - 1) mmX11_init 86 [some (.ref 0)] [.ref 116, .ref 0] (mb 118 mbR116 (mz_up (mz_up gB 0 0 (-1)) 81 2 (-1)) so L 7166) _
  refine mb_pR E234 rfl rfl (by decide) rfl (Or.inr ⟨rfl, rfl, rfl⟩) ?_
  have E235 : mb_E mbR117 118 := mb_E_set (k := 8) (v := 116) E234 (by decide : 0 < 118) (by decide)
  change mm_W _ _ _ _ _ (mb 118 mbR117 (mz_up (mz_up gB 0 0 (-1)) 81 2 (-1)) so L 7166) _
  refine mm_g 1 (pc1 := 90) (lo1 := [some (.ref 0)]) (st1 := [.ref 0]) (H1 := (mb 118 mbR117 (mz_up (mz_up gB 0 0 (-1)) 81 2 (-1)) so L 7166)) rfl ?_
  refine mb_new (sl2 := 7170) E235 rfl rfl (by decide) rfl rfl (fun j => ((mz_up_ne (fun h => absurd h.1 (by decide))).trans ((mz_up_ne (fun h => absurd h.1 (by decide))).trans (hB 118 j (by decide))))) ?_
  have E236 := mb_E_up E235
  refine mm_g 1 (pc1 := 94) (lo1 := [some (.ref 0)]) (st1 := [.ref 118, .ref 118, .ref 0]) (H1 := (mb 119 mbR117 (mz_up (mz_up gB 0 0 (-1)) 81 2 (-1)) so L 7170)) rfl ?_
  refine mb_cl (b := 118) rfl rfl rfl (Nat.le_of_ble_eq_true rfl) (by omega) ?_
  refine ⟨mmX3_init, [some (.ref 118)], rfl, rfl, ?_⟩
  refine mm_g 1 (pc1 := 1) (lo1 := [some (.ref 118)]) (st1 := [.ref 118]) (H1 := (mb 119 mbR117 (mz_up (mz_up gB 0 0 (-1)) 81 2 (-1)) so L 7170)) rfl ?_
  refine mb_obj rfl rfl (Nat.le_of_ble_eq_true rfl) (by omega) ?_
  refine mm_g 1 (pc1 := 5) (lo1 := [some (.ref 118)]) (st1 := [.ref 118]) (H1 := (mb 119 mbR117 (mz_up (mz_up gB 0 0 (-1)) 81 2 (-1)) so L 7170)) rfl ?_
  refine mz_bip (c := 36) rfl (by decide) ?_
  refine mb_nai (sl2 := 7206) (c := 36) E236 rfl (by decide) (by decide) (by decide) rfl rfl (fun j => ((mz_up_ne (fun h => absurd h.1 (by decide))).trans ((mz_up_ne (fun h => absurd h.1 (by decide))).trans (hB 119 j (by decide))))) ?_
  have E237 := mb_E_up E236
  refine mb_pR E237 rfl rfl (by decide) rfl (Or.inr ⟨rfl, rfl, rfl⟩) ?_
  have E238 : mb_E mbR118 120 := mb_E_set (k := 0) (v := 119) E237 (by decide : 118 < 120) (by decide)
  change mm_W _ _ _ _ _ (mb 120 mbR118 (mz_up (mz_up gB 0 0 (-1)) 81 2 (-1)) so L 7206) _
  refine mm_g 1 (pc1 := 13) (lo1 := [some (.ref 118)]) (st1 := [.ref 118]) (H1 := (mb 120 mbR118 (mz_up (mz_up gB 0 0 (-1)) 81 2 (-1)) so L 7206)) rfl ?_
  refine mz_bip (c := 64) rfl (by decide) ?_
  refine mb_nai (sl2 := 7270) (c := 64) E238 rfl (by decide) (by decide) (by decide) rfl rfl (fun j => ((mz_up_ne (fun h => absurd h.1 (by decide))).trans ((mz_up_ne (fun h => absurd h.1 (by decide))).trans (hB 120 j (by decide))))) ?_
  have E239 := mb_E_up E238
  refine mb_pR E239 rfl rfl (by decide) rfl (Or.inr ⟨rfl, rfl, rfl⟩) ?_
  have E240 : mb_E mbR119 121 := mb_E_set (k := 1) (v := 120) E239 (by decide : 118 < 121) (by decide)
  change mm_W _ _ _ _ _ (mb 121 mbR119 (mz_up (mz_up gB 0 0 (-1)) 81 2 (-1)) so L 7270) _
  refine mm_g 1 (pc1 := 21) (lo1 := [some (.ref 118)]) (st1 := [.ref 118]) (H1 := (mb 121 mbR119 (mz_up (mz_up gB 0 0 (-1)) 81 2 (-1)) so L 7270)) rfl ?_
  refine mz_bip (c := 6) rfl (by decide) ?_
  refine mb_nai (sl2 := 7276) (c := 6) E240 rfl (by decide) (by decide) (by decide) rfl rfl (fun j => ((mz_up_ne (fun h => absurd h.1 (by decide))).trans ((mz_up_ne (fun h => absurd h.1 (by decide))).trans (hB 121 j (by decide))))) ?_
  have E241 := mb_E_up E240
  refine mb_pR E241 rfl rfl (by decide) rfl (Or.inr ⟨rfl, rfl, rfl⟩) ?_
  have E242 : mb_E mbR120 122 := mb_E_set (k := 2) (v := 121) E241 (by decide : 118 < 122) (by decide)
  change mm_W _ _ _ _ _ (mb 122 mbR120 (mz_up (mz_up gB 0 0 (-1)) 81 2 (-1)) so L 7276) _
  refine mm_g 2 (pc1 := 30) (lo1 := [some (.ref 118)]) (st1 := [.int (Int32.ofInt 0), .ref 118]) (H1 := (mb 122 mbR120 (mz_up (mz_up gB 0 0 (-1)) 81 2 (-1)) so L 7276)) rfl ?_
  refine mb_p0 rfl rfl rfl (Or.inl rfl) ((mz_up_ne (by decide)).trans ((mz_up_ne (by decide)).trans (hB 118 3 (by decide)))) ?_
  refine mm_rt rfl rfl ⟨none, rfl, ?_⟩
  show mm_W (d - 1) mmX11_init 97 [some (.ref 0)] [.ref 118, .ref 0] (mb 122 mbR120 (mz_up (mz_up gB 0 0 (-1)) 81 2 (-1)) so L 7276) _
  refine mb_pR E242 rfl rfl (by decide) rfl (Or.inr ⟨rfl, rfl, rfl⟩) ?_
  have E243 : mb_E mbR121 122 := mb_E_set (k := 9) (v := 118) E242 (by decide : 0 < 122) (by decide)
  change mm_W _ _ _ _ _ (mb 122 mbR121 (mz_up (mz_up gB 0 0 (-1)) 81 2 (-1)) so L 7276) _
  refine mm_g 1 (pc1 := 101) (lo1 := [some (.ref 0)]) (st1 := [.ref 0]) (H1 := (mb 122 mbR121 (mz_up (mz_up gB 0 0 (-1)) 81 2 (-1)) so L 7276)) rfl ?_
  refine mb_new (sl2 := 7281) E243 rfl rfl (by decide) rfl rfl (fun j => ((mz_up_ne (fun h => absurd h.1 (by decide))).trans ((mz_up_ne (fun h => absurd h.1 (by decide))).trans (hB 122 j (by decide))))) ?_
  have E244 := mb_E_up E243
  refine mm_g 1 (pc1 := 105) (lo1 := [some (.ref 0)]) (st1 := [.ref 122, .ref 122, .ref 0]) (H1 := (mb 123 mbR121 (mz_up (mz_up gB 0 0 (-1)) 81 2 (-1)) so L 7281)) rfl ?_
  refine mb_cl (b := 122) rfl rfl rfl (Nat.le_of_ble_eq_true rfl) (by omega) ?_
  refine ⟨mmX8_init, [some (.ref 122)], rfl, rfl, ?_⟩
  refine mm_g 1 (pc1 := 1) (lo1 := [some (.ref 122)]) (st1 := [.ref 122]) (H1 := (mb 123 mbR121 (mz_up (mz_up gB 0 0 (-1)) 81 2 (-1)) so L 7281)) rfl ?_
  refine mb_obj rfl rfl (Nat.le_of_ble_eq_true rfl) (by omega) ?_
  refine mm_g 2 (pc1 := 6) (lo1 := [some (.ref 122)]) (st1 := [.int (Int32.ofInt 0), .ref 122]) (H1 := (mb 123 mbR121 (mz_up (mz_up gB 0 0 (-1)) 81 2 (-1)) so L 7281)) rfl ?_
  refine mb_p0 rfl rfl rfl (Or.inl rfl) ((mz_up_ne (by decide)).trans ((mz_up_ne (by decide)).trans (hB 122 0 (by decide)))) ?_
  refine mm_g 2 (pc1 := 11) (lo1 := [some (.ref 122)]) (st1 := [.int (Int32.ofInt 0), .ref 122]) (H1 := (mb 123 mbR121 (mz_up (mz_up gB 0 0 (-1)) 81 2 (-1)) so L 7281)) rfl ?_
  refine mb_p0 rfl rfl rfl (Or.inl rfl) ((mz_up_ne (by decide)).trans ((mz_up_ne (by decide)).trans (hB 122 1 (by decide)))) ?_
  refine mm_g 2 (pc1 := 16) (lo1 := [some (.ref 122)]) (st1 := [.int (Int32.ofInt 0), .ref 122]) (H1 := (mb 123 mbR121 (mz_up (mz_up gB 0 0 (-1)) 81 2 (-1)) so L 7281)) rfl ?_
  refine mb_p0 rfl rfl rfl (Or.inl rfl) ((mz_up_ne (by decide)).trans ((mz_up_ne (by decide)).trans (hB 122 2 (by decide)))) ?_
  refine mm_g 2 (pc1 := 21) (lo1 := [some (.ref 122)]) (st1 := [.int (Int32.ofInt 0), .ref 122]) (H1 := (mb 123 mbR121 (mz_up (mz_up gB 0 0 (-1)) 81 2 (-1)) so L 7281)) rfl ?_
  refine mb_p0 rfl rfl rfl (Or.inl rfl) ((mz_up_ne (by decide)).trans ((mz_up_ne (by decide)).trans (hB 122 3 (by decide)))) ?_
  refine mm_g 2 (pc1 := 26) (lo1 := [some (.ref 122)]) (st1 := [.int (Int32.ofInt 0), .ref 122]) (H1 := (mb 123 mbR121 (mz_up (mz_up gB 0 0 (-1)) 81 2 (-1)) so L 7281)) rfl ?_
  refine mb_p0 rfl rfl rfl (Or.inr rfl) ((mz_up_ne (by decide)).trans ((mz_up_ne (by decide)).trans (hB 122 4 (by decide)))) ?_
  refine mm_rt rfl rfl ⟨none, rfl, ?_⟩
  show mm_W (d - 1) mmX11_init 108 [some (.ref 0)] [.ref 122, .ref 0] (mb 123 mbR121 (mz_up (mz_up gB 0 0 (-1)) 81 2 (-1)) so L 7281) _
  refine mb_pR E244 rfl rfl (by decide) rfl (Or.inr ⟨rfl, rfl, rfl⟩) ?_
  have E245 : mb_E mbR122 123 := mb_E_set (k := 10) (v := 122) E244 (by decide : 0 < 123) (by decide)
  change mm_W _ _ _ _ _ (mb 123 mbR122 (mz_up (mz_up gB 0 0 (-1)) 81 2 (-1)) so L 7281) _
  refine mm_g 1 (pc1 := 112) (lo1 := [some (.ref 0)]) (st1 := [.ref 0]) (H1 := (mb 123 mbR122 (mz_up (mz_up gB 0 0 (-1)) 81 2 (-1)) so L 7281)) rfl ?_
  refine mb_new (sl2 := 7286) E245 rfl rfl (by decide) rfl rfl (fun j => ((mz_up_ne (fun h => absurd h.1 (by decide))).trans ((mz_up_ne (fun h => absurd h.1 (by decide))).trans (hB 123 j (by decide))))) ?_
  have E246 := mb_E_up E245
  refine mm_g 1 (pc1 := 116) (lo1 := [some (.ref 0)]) (st1 := [.ref 123, .ref 123, .ref 0]) (H1 := (mb 124 mbR122 (mz_up (mz_up gB 0 0 (-1)) 81 2 (-1)) so L 7286)) rfl ?_
  refine mb_cl (b := 123) rfl rfl rfl (Nat.le_of_ble_eq_true rfl) (by omega) ?_
  refine ⟨mmX8_init, [some (.ref 123)], rfl, rfl, ?_⟩
  refine mm_g 1 (pc1 := 1) (lo1 := [some (.ref 123)]) (st1 := [.ref 123]) (H1 := (mb 124 mbR122 (mz_up (mz_up gB 0 0 (-1)) 81 2 (-1)) so L 7286)) rfl ?_
  refine mb_obj rfl rfl (Nat.le_of_ble_eq_true rfl) (by omega) ?_
  refine mm_g 2 (pc1 := 6) (lo1 := [some (.ref 123)]) (st1 := [.int (Int32.ofInt 0), .ref 123]) (H1 := (mb 124 mbR122 (mz_up (mz_up gB 0 0 (-1)) 81 2 (-1)) so L 7286)) rfl ?_
  refine mb_p0 rfl rfl rfl (Or.inl rfl) ((mz_up_ne (by decide)).trans ((mz_up_ne (by decide)).trans (hB 123 0 (by decide)))) ?_
  refine mm_g 2 (pc1 := 11) (lo1 := [some (.ref 123)]) (st1 := [.int (Int32.ofInt 0), .ref 123]) (H1 := (mb 124 mbR122 (mz_up (mz_up gB 0 0 (-1)) 81 2 (-1)) so L 7286)) rfl ?_
  refine mb_p0 rfl rfl rfl (Or.inl rfl) ((mz_up_ne (by decide)).trans ((mz_up_ne (by decide)).trans (hB 123 1 (by decide)))) ?_
  refine mm_g 2 (pc1 := 16) (lo1 := [some (.ref 123)]) (st1 := [.int (Int32.ofInt 0), .ref 123]) (H1 := (mb 124 mbR122 (mz_up (mz_up gB 0 0 (-1)) 81 2 (-1)) so L 7286)) rfl ?_
  refine mb_p0 rfl rfl rfl (Or.inl rfl) ((mz_up_ne (by decide)).trans ((mz_up_ne (by decide)).trans (hB 123 2 (by decide)))) ?_
  refine mm_g 2 (pc1 := 21) (lo1 := [some (.ref 123)]) (st1 := [.int (Int32.ofInt 0), .ref 123]) (H1 := (mb 124 mbR122 (mz_up (mz_up gB 0 0 (-1)) 81 2 (-1)) so L 7286)) rfl ?_
  refine mb_p0 rfl rfl rfl (Or.inl rfl) ((mz_up_ne (by decide)).trans ((mz_up_ne (by decide)).trans (hB 123 3 (by decide)))) ?_
  refine mm_g 2 (pc1 := 26) (lo1 := [some (.ref 123)]) (st1 := [.int (Int32.ofInt 0), .ref 123]) (H1 := (mb 124 mbR122 (mz_up (mz_up gB 0 0 (-1)) 81 2 (-1)) so L 7286)) rfl ?_
  refine mb_p0 rfl rfl rfl (Or.inr rfl) ((mz_up_ne (by decide)).trans ((mz_up_ne (by decide)).trans (hB 123 4 (by decide)))) ?_
  refine mm_rt rfl rfl ⟨none, rfl, ?_⟩
  show mm_W (d - 1) mmX11_init 119 [some (.ref 0)] [.ref 123, .ref 0] (mb 124 mbR122 (mz_up (mz_up gB 0 0 (-1)) 81 2 (-1)) so L 7286) _
  refine mb_pR E246 rfl rfl (by decide) rfl (Or.inr ⟨rfl, rfl, rfl⟩) ?_
  have E247 : mb_E mbR123 124 := mb_E_set (k := 11) (v := 123) E246 (by decide : 0 < 124) (by decide)
  change mm_W _ _ _ _ _ (mb 124 mbR123 (mz_up (mz_up gB 0 0 (-1)) 81 2 (-1)) so L 7286) _
  refine mm_g 1 (pc1 := 123) (lo1 := [some (.ref 0)]) (st1 := [.ref 0]) (H1 := (mb 124 mbR123 (mz_up (mz_up gB 0 0 (-1)) 81 2 (-1)) so L 7286)) rfl ?_
  refine mb_new (sl2 := 7290) E247 rfl rfl (by decide) rfl rfl (fun j => ((mz_up_ne (fun h => absurd h.1 (by decide))).trans ((mz_up_ne (fun h => absurd h.1 (by decide))).trans (hB 124 j (by decide))))) ?_
  have E248 := mb_E_up E247
  refine mm_g 1 (pc1 := 127) (lo1 := [some (.ref 0)]) (st1 := [.ref 124, .ref 124, .ref 0]) (H1 := (mb 125 mbR123 (mz_up (mz_up gB 0 0 (-1)) 81 2 (-1)) so L 7290)) rfl ?_
  refine mb_cl (b := 124) rfl rfl rfl (Nat.le_of_ble_eq_true rfl) (by omega) ?_
  refine ⟨mmX9_init, [some (.ref 124), none], rfl, rfl, ?_⟩
  refine mm_g 1 (pc1 := 1) (lo1 := [some (.ref 124), none]) (st1 := [.ref 124]) (H1 := (mb 125 mbR123 (mz_up (mz_up gB 0 0 (-1)) 81 2 (-1)) so L 7290)) rfl ?_
  refine mb_obj rfl rfl (Nat.le_of_ble_eq_true rfl) (by omega) ?_
  refine mm_g 1 (pc1 := 5) (lo1 := [some (.ref 124), none]) (st1 := [.ref 124]) (H1 := (mb 125 mbR123 (mz_up (mz_up gB 0 0 (-1)) 81 2 (-1)) so L 7290)) rfl ?_
  refine mz_bip (c := 6) rfl (by decide) ?_
  refine mb_ana (sl2 := 7296) (c := 6) E248 rfl rfl (by decide) (by decide) (by decide) rfl rfl (fun j => ((mz_up_ne (fun h => absurd h.1 (by decide))).trans ((mz_up_ne (fun h => absurd h.1 (by decide))).trans (hB 125 j (by decide))))) ?_
  have E249 := mb_E_up E248
  refine mb_pR E249 rfl rfl (by decide) rfl (Or.inr ⟨rfl, rfl, rfl⟩) ?_
  have E250 : mb_E mbR124 126 := mb_E_set (k := 0) (v := 125) E249 (by decide : 124 < 126) (by decide)
  change mm_W _ _ _ _ _ (mb 126 mbR124 (mz_up (mz_up gB 0 0 (-1)) 81 2 (-1)) so L 7296) _
  refine mm_g 1 (pc1 := 14) (lo1 := [some (.ref 124), none]) (st1 := [.ref 124]) (H1 := (mb 126 mbR124 (mz_up (mz_up gB 0 0 (-1)) 81 2 (-1)) so L 7296)) rfl ?_
  refine mb_new (sl2 := 7301) E250 rfl rfl (by decide) rfl rfl (fun j => ((mz_up_ne (fun h => absurd h.1 (by decide))).trans ((mz_up_ne (fun h => absurd h.1 (by decide))).trans (hB 126 j (by decide))))) ?_
  have E251 := mb_E_up E250
  refine mm_g 1 (pc1 := 18) (lo1 := [some (.ref 124), none]) (st1 := [.ref 126, .ref 126, .ref 124]) (H1 := (mb 127 mbR124 (mz_up (mz_up gB 0 0 (-1)) 81 2 (-1)) so L 7301)) rfl ?_
  refine mb_cl (b := 126) rfl rfl rfl (Nat.le_of_ble_eq_true rfl) (by omega) ?_
  refine ⟨mmX8_init, [some (.ref 126)], rfl, rfl, ?_⟩
  refine mm_g 1 (pc1 := 1) (lo1 := [some (.ref 126)]) (st1 := [.ref 126]) (H1 := (mb 127 mbR124 (mz_up (mz_up gB 0 0 (-1)) 81 2 (-1)) so L 7301)) rfl ?_
  refine mb_obj rfl rfl (Nat.le_of_ble_eq_true rfl) (by omega) ?_
  refine mm_g 2 (pc1 := 6) (lo1 := [some (.ref 126)]) (st1 := [.int (Int32.ofInt 0), .ref 126]) (H1 := (mb 127 mbR124 (mz_up (mz_up gB 0 0 (-1)) 81 2 (-1)) so L 7301)) rfl ?_
  refine mb_p0 rfl rfl rfl (Or.inl rfl) ((mz_up_ne (by decide)).trans ((mz_up_ne (by decide)).trans (hB 126 0 (by decide)))) ?_
  refine mm_g 2 (pc1 := 11) (lo1 := [some (.ref 126)]) (st1 := [.int (Int32.ofInt 0), .ref 126]) (H1 := (mb 127 mbR124 (mz_up (mz_up gB 0 0 (-1)) 81 2 (-1)) so L 7301)) rfl ?_
  refine mb_p0 rfl rfl rfl (Or.inl rfl) ((mz_up_ne (by decide)).trans ((mz_up_ne (by decide)).trans (hB 126 1 (by decide)))) ?_
  refine mm_g 2 (pc1 := 16) (lo1 := [some (.ref 126)]) (st1 := [.int (Int32.ofInt 0), .ref 126]) (H1 := (mb 127 mbR124 (mz_up (mz_up gB 0 0 (-1)) 81 2 (-1)) so L 7301)) rfl ?_
  refine mb_p0 rfl rfl rfl (Or.inl rfl) ((mz_up_ne (by decide)).trans ((mz_up_ne (by decide)).trans (hB 126 2 (by decide)))) ?_
  refine mm_g 2 (pc1 := 21) (lo1 := [some (.ref 126)]) (st1 := [.int (Int32.ofInt 0), .ref 126]) (H1 := (mb 127 mbR124 (mz_up (mz_up gB 0 0 (-1)) 81 2 (-1)) so L 7301)) rfl ?_
  refine mb_p0 rfl rfl rfl (Or.inl rfl) ((mz_up_ne (by decide)).trans ((mz_up_ne (by decide)).trans (hB 126 3 (by decide)))) ?_
  refine mm_g 2 (pc1 := 26) (lo1 := [some (.ref 126)]) (st1 := [.int (Int32.ofInt 0), .ref 126]) (H1 := (mb 127 mbR124 (mz_up (mz_up gB 0 0 (-1)) 81 2 (-1)) so L 7301)) rfl ?_
  refine mb_p0 rfl rfl rfl (Or.inr rfl) ((mz_up_ne (by decide)).trans ((mz_up_ne (by decide)).trans (hB 126 4 (by decide)))) ?_
  refine mm_rt rfl rfl ⟨none, rfl, ?_⟩
  show mm_W ((d - 1) - 1) mmX9_init 21 [some (.ref 124), none] [.ref 126, .ref 124] (mb 127 mbR124 (mz_up (mz_up gB 0 0 (-1)) 81 2 (-1)) so L 7301) _
  refine mb_pR E251 rfl rfl (by decide) rfl (Or.inr ⟨rfl, rfl, rfl⟩) ?_
  have E252 : mb_E mbR125 127 := mb_E_set (k := 1) (v := 126) E251 (by decide : 124 < 127) (by decide)
  change mm_W _ _ _ _ _ (mb 127 mbR125 (mz_up (mz_up gB 0 0 (-1)) 81 2 (-1)) so L 7301) _
  refine mm_g 2 (pc1 := 26) (lo1 := [some (.ref 124), none]) (st1 := [.int (Int32.ofInt 0), .ref 124]) (H1 := (mb 127 mbR125 (mz_up (mz_up gB 0 0 (-1)) 81 2 (-1)) so L 7301)) rfl ?_
  refine mb_p0 rfl rfl rfl (Or.inl rfl) ((mz_up_ne (by decide)).trans ((mz_up_ne (by decide)).trans (hB 124 2 (by decide)))) ?_
  refine mm_g 2 (pc1 := 31) (lo1 := [some (.ref 124), none]) (st1 := [.int (Int32.ofInt 0), .ref 124]) (H1 := (mb 127 mbR125 (mz_up (mz_up gB 0 0 (-1)) 81 2 (-1)) so L 7301)) rfl ?_
  refine mb_p0 rfl rfl rfl (Or.inl rfl) ((mz_up_ne (by decide)).trans ((mz_up_ne (by decide)).trans (hB 124 3 (by decide)))) ?_
  refine mm_g 4 (pc1 := 38) (lo1 := [some (.ref 124), some (.int (Int32.ofInt 0))]) (st1 := [.ref 124, .int (Int32.ofInt 0)]) (H1 := (mb 127 mbR125 (mz_up (mz_up gB 0 0 (-1)) 81 2 (-1)) so L 7301)) rfl ?_
  refine mb_gf (v := 125) (kd := 4) rfl rfl rfl rfl (by decide) ((mb_g2 E251 (by decide) (by decide)).trans (mb_g1 E249 (by decide))) ?_
  refine mb_al (t := 104) (c := 6) rfl rfl (by decide) ?_
  refine mz_ic_ge (a := 0) (b := 6) (tgt := 64) rfl rfl ⟨by decide, by decide⟩ ⟨by decide, by decide⟩ (fun z => absurd z (by decide)) (fun _ => ?_)
  refine mm_g 1 (pc1 := 46) (lo1 := [some (.ref 124), some (.int (Int32.ofInt 0))]) (st1 := [.ref 124]) (H1 := (mb 127 mbR125 (mz_up (mz_up gB 0 0 (-1)) 81 2 (-1)) so L 7301)) rfl ?_
  refine mb_gf (v := 125) (kd := 4) rfl rfl rfl rfl (by decide) ((mb_g2 E251 (by decide) (by decide)).trans (mb_g1 E249 (by decide))) ?_
  refine mm_g 1 (pc1 := 50) (lo1 := [some (.ref 124), some (.int (Int32.ofInt 0))]) (st1 := [.int (Int32.ofInt 0), .ref 125]) (H1 := (mb 127 mbR125 (mz_up (mz_up gB 0 0 (-1)) 81 2 (-1)) so L 7301)) rfl ?_
  refine mb_new (sl2 := 7306) E252 rfl rfl (by decide) rfl rfl (fun j => ((mz_up_ne (fun h => absurd h.1 (by decide))).trans ((mz_up_ne (fun h => absurd h.1 (by decide))).trans (hB 127 j (by decide))))) ?_
  have E253 := mb_E_up E252
  refine mm_g 1 (pc1 := 54) (lo1 := [some (.ref 124), some (.int (Int32.ofInt 0))]) (st1 := [.ref 127, .ref 127, .int (Int32.ofInt 0), .ref 125]) (H1 := (mb 128 mbR125 (mz_up (mz_up gB 0 0 (-1)) 81 2 (-1)) so L 7306)) rfl ?_
  refine mb_cl (b := 127) rfl rfl rfl (Nat.le_of_ble_eq_true rfl) (by omega) ?_
  refine ⟨mmX8_init, [some (.ref 127)], rfl, rfl, ?_⟩
  refine mm_g 1 (pc1 := 1) (lo1 := [some (.ref 127)]) (st1 := [.ref 127]) (H1 := (mb 128 mbR125 (mz_up (mz_up gB 0 0 (-1)) 81 2 (-1)) so L 7306)) rfl ?_
  refine mb_obj rfl rfl (Nat.le_of_ble_eq_true rfl) (by omega) ?_
  refine mm_g 2 (pc1 := 6) (lo1 := [some (.ref 127)]) (st1 := [.int (Int32.ofInt 0), .ref 127]) (H1 := (mb 128 mbR125 (mz_up (mz_up gB 0 0 (-1)) 81 2 (-1)) so L 7306)) rfl ?_
  refine mb_p0 rfl rfl rfl (Or.inl rfl) ((mz_up_ne (by decide)).trans ((mz_up_ne (by decide)).trans (hB 127 0 (by decide)))) ?_
  refine mm_g 2 (pc1 := 11) (lo1 := [some (.ref 127)]) (st1 := [.int (Int32.ofInt 0), .ref 127]) (H1 := (mb 128 mbR125 (mz_up (mz_up gB 0 0 (-1)) 81 2 (-1)) so L 7306)) rfl ?_
  refine mb_p0 rfl rfl rfl (Or.inl rfl) ((mz_up_ne (by decide)).trans ((mz_up_ne (by decide)).trans (hB 127 1 (by decide)))) ?_
  refine mm_g 2 (pc1 := 16) (lo1 := [some (.ref 127)]) (st1 := [.int (Int32.ofInt 0), .ref 127]) (H1 := (mb 128 mbR125 (mz_up (mz_up gB 0 0 (-1)) 81 2 (-1)) so L 7306)) rfl ?_
  refine mb_p0 rfl rfl rfl (Or.inl rfl) ((mz_up_ne (by decide)).trans ((mz_up_ne (by decide)).trans (hB 127 2 (by decide)))) ?_
  refine mm_g 2 (pc1 := 21) (lo1 := [some (.ref 127)]) (st1 := [.int (Int32.ofInt 0), .ref 127]) (H1 := (mb 128 mbR125 (mz_up (mz_up gB 0 0 (-1)) 81 2 (-1)) so L 7306)) rfl ?_
  refine mb_p0 rfl rfl rfl (Or.inl rfl) ((mz_up_ne (by decide)).trans ((mz_up_ne (by decide)).trans (hB 127 3 (by decide)))) ?_
  refine mm_g 2 (pc1 := 26) (lo1 := [some (.ref 127)]) (st1 := [.int (Int32.ofInt 0), .ref 127]) (H1 := (mb 128 mbR125 (mz_up (mz_up gB 0 0 (-1)) 81 2 (-1)) so L 7306)) rfl ?_
  refine mb_p0 rfl rfl rfl (Or.inr rfl) ((mz_up_ne (by decide)).trans ((mz_up_ne (by decide)).trans (hB 127 4 (by decide)))) ?_
  refine mm_rt rfl rfl ⟨none, rfl, ?_⟩
  show mm_W ((d - 1) - 1) mmX9_init 57 [some (.ref 124), some (.int (Int32.ofInt 0))] [.ref 127, .int (Int32.ofInt 0), .ref 125] (mb 128 mbR125 (mz_up (mz_up gB 0 0 (-1)) 81 2 (-1)) so L 7306) _
  refine mb_aa (len := 6) (c := 0) E253 rfl (by decide) (Or.inr (Or.inl ⟨rfl, rfl⟩)) rfl (by decide) (by decide) ?_
  have E254 : mb_E mbR126 128 := mb_E_set (k := 0) (v := 127) E253 (by decide : 125 < 128) (by decide)
  change mm_W _ _ _ _ _ (mb 128 mbR126 (mz_up (mz_up gB 0 0 (-1)) 81 2 (-1)) so L 7306) _
  refine mz_iincR (v := 0) (lo2 := [some (.ref 124), some (.int (Int32.ofInt 1))]) rfl rfl rfl (Nat.le_of_ble_eq_true rfl) rfl ?_
  refine mz_gt (tgt := 36) rfl rfl ?_
  refine mm_g 2 (pc1 := 38) (lo1 := [some (.ref 124), some (.int (Int32.ofInt 1))]) (st1 := [.ref 124, .int (Int32.ofInt 1)]) (H1 := (mb 128 mbR126 (mz_up (mz_up gB 0 0 (-1)) 81 2 (-1)) so L 7306)) rfl ?_
  refine mb_gf (v := 125) (kd := 4) rfl rfl rfl rfl (by decide) ((mb_g2 E253 (by decide) (by decide)).trans ((mb_g2 E251 (by decide) (by decide)).trans (mb_g1 E249 (by decide)))) ?_
  refine mb_al (t := 104) (c := 6) rfl rfl (by decide) ?_
  refine mz_ic_ge (a := 1) (b := 6) (tgt := 64) rfl rfl ⟨by decide, by decide⟩ ⟨by decide, by decide⟩ (fun z => absurd z (by decide)) (fun _ => ?_)
  refine mm_g 1 (pc1 := 46) (lo1 := [some (.ref 124), some (.int (Int32.ofInt 1))]) (st1 := [.ref 124]) (H1 := (mb 128 mbR126 (mz_up (mz_up gB 0 0 (-1)) 81 2 (-1)) so L 7306)) rfl ?_
  refine mb_gf (v := 125) (kd := 4) rfl rfl rfl rfl (by decide) ((mb_g2 E253 (by decide) (by decide)).trans ((mb_g2 E251 (by decide) (by decide)).trans (mb_g1 E249 (by decide)))) ?_
  refine mm_g 1 (pc1 := 50) (lo1 := [some (.ref 124), some (.int (Int32.ofInt 1))]) (st1 := [.int (Int32.ofInt 1), .ref 125]) (H1 := (mb 128 mbR126 (mz_up (mz_up gB 0 0 (-1)) 81 2 (-1)) so L 7306)) rfl ?_
  refine mb_new (sl2 := 7311) E254 rfl rfl (by decide) rfl rfl (fun j => ((mz_up_ne (fun h => absurd h.1 (by decide))).trans ((mz_up_ne (fun h => absurd h.1 (by decide))).trans (hB 128 j (by decide))))) ?_
  have E255 := mb_E_up E254
  refine mm_g 1 (pc1 := 54) (lo1 := [some (.ref 124), some (.int (Int32.ofInt 1))]) (st1 := [.ref 128, .ref 128, .int (Int32.ofInt 1), .ref 125]) (H1 := (mb 129 mbR126 (mz_up (mz_up gB 0 0 (-1)) 81 2 (-1)) so L 7311)) rfl ?_
  refine mb_cl (b := 128) rfl rfl rfl (Nat.le_of_ble_eq_true rfl) (by omega) ?_
  refine ⟨mmX8_init, [some (.ref 128)], rfl, rfl, ?_⟩
  refine mm_g 1 (pc1 := 1) (lo1 := [some (.ref 128)]) (st1 := [.ref 128]) (H1 := (mb 129 mbR126 (mz_up (mz_up gB 0 0 (-1)) 81 2 (-1)) so L 7311)) rfl ?_
  refine mb_obj rfl rfl (Nat.le_of_ble_eq_true rfl) (by omega) ?_
  refine mm_g 2 (pc1 := 6) (lo1 := [some (.ref 128)]) (st1 := [.int (Int32.ofInt 0), .ref 128]) (H1 := (mb 129 mbR126 (mz_up (mz_up gB 0 0 (-1)) 81 2 (-1)) so L 7311)) rfl ?_
  refine mb_p0 rfl rfl rfl (Or.inl rfl) ((mz_up_ne (by decide)).trans ((mz_up_ne (by decide)).trans (hB 128 0 (by decide)))) ?_
  refine mm_g 2 (pc1 := 11) (lo1 := [some (.ref 128)]) (st1 := [.int (Int32.ofInt 0), .ref 128]) (H1 := (mb 129 mbR126 (mz_up (mz_up gB 0 0 (-1)) 81 2 (-1)) so L 7311)) rfl ?_
  refine mb_p0 rfl rfl rfl (Or.inl rfl) ((mz_up_ne (by decide)).trans ((mz_up_ne (by decide)).trans (hB 128 1 (by decide)))) ?_
  refine mm_g 2 (pc1 := 16) (lo1 := [some (.ref 128)]) (st1 := [.int (Int32.ofInt 0), .ref 128]) (H1 := (mb 129 mbR126 (mz_up (mz_up gB 0 0 (-1)) 81 2 (-1)) so L 7311)) rfl ?_
  refine mb_p0 rfl rfl rfl (Or.inl rfl) ((mz_up_ne (by decide)).trans ((mz_up_ne (by decide)).trans (hB 128 2 (by decide)))) ?_
  refine mm_g 2 (pc1 := 21) (lo1 := [some (.ref 128)]) (st1 := [.int (Int32.ofInt 0), .ref 128]) (H1 := (mb 129 mbR126 (mz_up (mz_up gB 0 0 (-1)) 81 2 (-1)) so L 7311)) rfl ?_
  refine mb_p0 rfl rfl rfl (Or.inl rfl) ((mz_up_ne (by decide)).trans ((mz_up_ne (by decide)).trans (hB 128 3 (by decide)))) ?_
  refine mm_g 2 (pc1 := 26) (lo1 := [some (.ref 128)]) (st1 := [.int (Int32.ofInt 0), .ref 128]) (H1 := (mb 129 mbR126 (mz_up (mz_up gB 0 0 (-1)) 81 2 (-1)) so L 7311)) rfl ?_
  refine mb_p0 rfl rfl rfl (Or.inr rfl) ((mz_up_ne (by decide)).trans ((mz_up_ne (by decide)).trans (hB 128 4 (by decide)))) ?_
  refine mm_rt rfl rfl ⟨none, rfl, ?_⟩
  show mm_W ((d - 1) - 1) mmX9_init 57 [some (.ref 124), some (.int (Int32.ofInt 1))] [.ref 128, .int (Int32.ofInt 1), .ref 125] (mb 129 mbR126 (mz_up (mz_up gB 0 0 (-1)) 81 2 (-1)) so L 7311) _
  refine mb_aa (len := 6) (c := 1) E255 rfl (by decide) (Or.inr (Or.inl ⟨rfl, rfl⟩)) rfl (by decide) (by decide) ?_
  have E256 : mb_E mbR127 129 := mb_E_set (k := 1) (v := 128) E255 (by decide : 125 < 129) (by decide)
  change mm_W _ _ _ _ _ (mb 129 mbR127 (mz_up (mz_up gB 0 0 (-1)) 81 2 (-1)) so L 7311) _
  refine mz_iincR (v := 1) (lo2 := [some (.ref 124), some (.int (Int32.ofInt 2))]) rfl rfl rfl (Nat.le_of_ble_eq_true rfl) rfl ?_
  refine mz_gt (tgt := 36) rfl rfl ?_
  refine mm_g 2 (pc1 := 38) (lo1 := [some (.ref 124), some (.int (Int32.ofInt 2))]) (st1 := [.ref 124, .int (Int32.ofInt 2)]) (H1 := (mb 129 mbR127 (mz_up (mz_up gB 0 0 (-1)) 81 2 (-1)) so L 7311)) rfl ?_
  refine mb_gf (v := 125) (kd := 4) rfl rfl rfl rfl (by decide) ((mb_g2 E255 (by decide) (by decide)).trans ((mb_g2 E253 (by decide) (by decide)).trans ((mb_g2 E251 (by decide) (by decide)).trans (mb_g1 E249 (by decide))))) ?_
  refine mb_al (t := 104) (c := 6) rfl rfl (by decide) ?_
  refine mz_ic_ge (a := 2) (b := 6) (tgt := 64) rfl rfl ⟨by decide, by decide⟩ ⟨by decide, by decide⟩ (fun z => absurd z (by decide)) (fun _ => ?_)
  refine mm_g 1 (pc1 := 46) (lo1 := [some (.ref 124), some (.int (Int32.ofInt 2))]) (st1 := [.ref 124]) (H1 := (mb 129 mbR127 (mz_up (mz_up gB 0 0 (-1)) 81 2 (-1)) so L 7311)) rfl ?_
  refine mb_gf (v := 125) (kd := 4) rfl rfl rfl rfl (by decide) ((mb_g2 E255 (by decide) (by decide)).trans ((mb_g2 E253 (by decide) (by decide)).trans ((mb_g2 E251 (by decide) (by decide)).trans (mb_g1 E249 (by decide))))) ?_
  refine mm_g 1 (pc1 := 50) (lo1 := [some (.ref 124), some (.int (Int32.ofInt 2))]) (st1 := [.int (Int32.ofInt 2), .ref 125]) (H1 := (mb 129 mbR127 (mz_up (mz_up gB 0 0 (-1)) 81 2 (-1)) so L 7311)) rfl ?_
  refine mb_new (sl2 := 7316) E256 rfl rfl (by decide) rfl rfl (fun j => ((mz_up_ne (fun h => absurd h.1 (by decide))).trans ((mz_up_ne (fun h => absurd h.1 (by decide))).trans (hB 129 j (by decide))))) ?_
  have E257 := mb_E_up E256
  refine mm_g 1 (pc1 := 54) (lo1 := [some (.ref 124), some (.int (Int32.ofInt 2))]) (st1 := [.ref 129, .ref 129, .int (Int32.ofInt 2), .ref 125]) (H1 := (mb 130 mbR127 (mz_up (mz_up gB 0 0 (-1)) 81 2 (-1)) so L 7316)) rfl ?_
  refine mb_cl (b := 129) rfl rfl rfl (Nat.le_of_ble_eq_true rfl) (by omega) ?_
  refine ⟨mmX8_init, [some (.ref 129)], rfl, rfl, ?_⟩
  refine mm_g 1 (pc1 := 1) (lo1 := [some (.ref 129)]) (st1 := [.ref 129]) (H1 := (mb 130 mbR127 (mz_up (mz_up gB 0 0 (-1)) 81 2 (-1)) so L 7316)) rfl ?_
  refine mb_obj rfl rfl (Nat.le_of_ble_eq_true rfl) (by omega) ?_
  refine mm_g 2 (pc1 := 6) (lo1 := [some (.ref 129)]) (st1 := [.int (Int32.ofInt 0), .ref 129]) (H1 := (mb 130 mbR127 (mz_up (mz_up gB 0 0 (-1)) 81 2 (-1)) so L 7316)) rfl ?_
  refine mb_p0 rfl rfl rfl (Or.inl rfl) ((mz_up_ne (by decide)).trans ((mz_up_ne (by decide)).trans (hB 129 0 (by decide)))) ?_
  refine mm_g 2 (pc1 := 11) (lo1 := [some (.ref 129)]) (st1 := [.int (Int32.ofInt 0), .ref 129]) (H1 := (mb 130 mbR127 (mz_up (mz_up gB 0 0 (-1)) 81 2 (-1)) so L 7316)) rfl ?_
  refine mb_p0 rfl rfl rfl (Or.inl rfl) ((mz_up_ne (by decide)).trans ((mz_up_ne (by decide)).trans (hB 129 1 (by decide)))) ?_
  refine mm_g 2 (pc1 := 16) (lo1 := [some (.ref 129)]) (st1 := [.int (Int32.ofInt 0), .ref 129]) (H1 := (mb 130 mbR127 (mz_up (mz_up gB 0 0 (-1)) 81 2 (-1)) so L 7316)) rfl ?_
  refine mb_p0 rfl rfl rfl (Or.inl rfl) ((mz_up_ne (by decide)).trans ((mz_up_ne (by decide)).trans (hB 129 2 (by decide)))) ?_
  refine mm_g 2 (pc1 := 21) (lo1 := [some (.ref 129)]) (st1 := [.int (Int32.ofInt 0), .ref 129]) (H1 := (mb 130 mbR127 (mz_up (mz_up gB 0 0 (-1)) 81 2 (-1)) so L 7316)) rfl ?_
  refine mb_p0 rfl rfl rfl (Or.inl rfl) ((mz_up_ne (by decide)).trans ((mz_up_ne (by decide)).trans (hB 129 3 (by decide)))) ?_
  refine mm_g 2 (pc1 := 26) (lo1 := [some (.ref 129)]) (st1 := [.int (Int32.ofInt 0), .ref 129]) (H1 := (mb 130 mbR127 (mz_up (mz_up gB 0 0 (-1)) 81 2 (-1)) so L 7316)) rfl ?_
  refine mb_p0 rfl rfl rfl (Or.inr rfl) ((mz_up_ne (by decide)).trans ((mz_up_ne (by decide)).trans (hB 129 4 (by decide)))) ?_
  refine mm_rt rfl rfl ⟨none, rfl, ?_⟩
  show mm_W ((d - 1) - 1) mmX9_init 57 [some (.ref 124), some (.int (Int32.ofInt 2))] [.ref 129, .int (Int32.ofInt 2), .ref 125] (mb 130 mbR127 (mz_up (mz_up gB 0 0 (-1)) 81 2 (-1)) so L 7316) _
  refine mb_aa (len := 6) (c := 2) E257 rfl (by decide) (Or.inr (Or.inl ⟨rfl, rfl⟩)) rfl (by decide) (by decide) ?_
  have E258 : mb_E mbR128 130 := mb_E_set (k := 2) (v := 129) E257 (by decide : 125 < 130) (by decide)
  change mm_W _ _ _ _ _ (mb 130 mbR128 (mz_up (mz_up gB 0 0 (-1)) 81 2 (-1)) so L 7316) _
  refine mz_iincR (v := 2) (lo2 := [some (.ref 124), some (.int (Int32.ofInt 3))]) rfl rfl rfl (Nat.le_of_ble_eq_true rfl) rfl ?_
  refine mz_gt (tgt := 36) rfl rfl ?_
  refine mm_g 2 (pc1 := 38) (lo1 := [some (.ref 124), some (.int (Int32.ofInt 3))]) (st1 := [.ref 124, .int (Int32.ofInt 3)]) (H1 := (mb 130 mbR128 (mz_up (mz_up gB 0 0 (-1)) 81 2 (-1)) so L 7316)) rfl ?_
  refine mb_gf (v := 125) (kd := 4) rfl rfl rfl rfl (by decide) ((mb_g2 E257 (by decide) (by decide)).trans ((mb_g2 E255 (by decide) (by decide)).trans ((mb_g2 E253 (by decide) (by decide)).trans ((mb_g2 E251 (by decide) (by decide)).trans (mb_g1 E249 (by decide)))))) ?_
  refine mb_al (t := 104) (c := 6) rfl rfl (by decide) ?_
  refine mz_ic_ge (a := 3) (b := 6) (tgt := 64) rfl rfl ⟨by decide, by decide⟩ ⟨by decide, by decide⟩ (fun z => absurd z (by decide)) (fun _ => ?_)
  refine mm_g 1 (pc1 := 46) (lo1 := [some (.ref 124), some (.int (Int32.ofInt 3))]) (st1 := [.ref 124]) (H1 := (mb 130 mbR128 (mz_up (mz_up gB 0 0 (-1)) 81 2 (-1)) so L 7316)) rfl ?_
  refine mb_gf (v := 125) (kd := 4) rfl rfl rfl rfl (by decide) ((mb_g2 E257 (by decide) (by decide)).trans ((mb_g2 E255 (by decide) (by decide)).trans ((mb_g2 E253 (by decide) (by decide)).trans ((mb_g2 E251 (by decide) (by decide)).trans (mb_g1 E249 (by decide)))))) ?_
  refine mm_g 1 (pc1 := 50) (lo1 := [some (.ref 124), some (.int (Int32.ofInt 3))]) (st1 := [.int (Int32.ofInt 3), .ref 125]) (H1 := (mb 130 mbR128 (mz_up (mz_up gB 0 0 (-1)) 81 2 (-1)) so L 7316)) rfl ?_
  refine mb_new (sl2 := 7321) E258 rfl rfl (by decide) rfl rfl (fun j => ((mz_up_ne (fun h => absurd h.1 (by decide))).trans ((mz_up_ne (fun h => absurd h.1 (by decide))).trans (hB 130 j (by decide))))) ?_
  have E259 := mb_E_up E258
  refine mm_g 1 (pc1 := 54) (lo1 := [some (.ref 124), some (.int (Int32.ofInt 3))]) (st1 := [.ref 130, .ref 130, .int (Int32.ofInt 3), .ref 125]) (H1 := (mb 131 mbR128 (mz_up (mz_up gB 0 0 (-1)) 81 2 (-1)) so L 7321)) rfl ?_
  refine mb_cl (b := 130) rfl rfl rfl (Nat.le_of_ble_eq_true rfl) (by omega) ?_
  refine ⟨mmX8_init, [some (.ref 130)], rfl, rfl, ?_⟩
  refine mm_g 1 (pc1 := 1) (lo1 := [some (.ref 130)]) (st1 := [.ref 130]) (H1 := (mb 131 mbR128 (mz_up (mz_up gB 0 0 (-1)) 81 2 (-1)) so L 7321)) rfl ?_
  refine mb_obj rfl rfl (Nat.le_of_ble_eq_true rfl) (by omega) ?_
  refine mm_g 2 (pc1 := 6) (lo1 := [some (.ref 130)]) (st1 := [.int (Int32.ofInt 0), .ref 130]) (H1 := (mb 131 mbR128 (mz_up (mz_up gB 0 0 (-1)) 81 2 (-1)) so L 7321)) rfl ?_
  refine mb_p0 rfl rfl rfl (Or.inl rfl) ((mz_up_ne (by decide)).trans ((mz_up_ne (by decide)).trans (hB 130 0 (by decide)))) ?_
  refine mm_g 2 (pc1 := 11) (lo1 := [some (.ref 130)]) (st1 := [.int (Int32.ofInt 0), .ref 130]) (H1 := (mb 131 mbR128 (mz_up (mz_up gB 0 0 (-1)) 81 2 (-1)) so L 7321)) rfl ?_
  refine mb_p0 rfl rfl rfl (Or.inl rfl) ((mz_up_ne (by decide)).trans ((mz_up_ne (by decide)).trans (hB 130 1 (by decide)))) ?_
  refine mm_g 2 (pc1 := 16) (lo1 := [some (.ref 130)]) (st1 := [.int (Int32.ofInt 0), .ref 130]) (H1 := (mb 131 mbR128 (mz_up (mz_up gB 0 0 (-1)) 81 2 (-1)) so L 7321)) rfl ?_
  refine mb_p0 rfl rfl rfl (Or.inl rfl) ((mz_up_ne (by decide)).trans ((mz_up_ne (by decide)).trans (hB 130 2 (by decide)))) ?_
  refine mm_g 2 (pc1 := 21) (lo1 := [some (.ref 130)]) (st1 := [.int (Int32.ofInt 0), .ref 130]) (H1 := (mb 131 mbR128 (mz_up (mz_up gB 0 0 (-1)) 81 2 (-1)) so L 7321)) rfl ?_
  refine mb_p0 rfl rfl rfl (Or.inl rfl) ((mz_up_ne (by decide)).trans ((mz_up_ne (by decide)).trans (hB 130 3 (by decide)))) ?_
  refine mm_g 2 (pc1 := 26) (lo1 := [some (.ref 130)]) (st1 := [.int (Int32.ofInt 0), .ref 130]) (H1 := (mb 131 mbR128 (mz_up (mz_up gB 0 0 (-1)) 81 2 (-1)) so L 7321)) rfl ?_
  refine mb_p0 rfl rfl rfl (Or.inr rfl) ((mz_up_ne (by decide)).trans ((mz_up_ne (by decide)).trans (hB 130 4 (by decide)))) ?_
  refine mm_rt rfl rfl ⟨none, rfl, ?_⟩
  show mm_W ((d - 1) - 1) mmX9_init 57 [some (.ref 124), some (.int (Int32.ofInt 3))] [.ref 130, .int (Int32.ofInt 3), .ref 125] (mb 131 mbR128 (mz_up (mz_up gB 0 0 (-1)) 81 2 (-1)) so L 7321) _
  refine mb_aa (len := 6) (c := 3) E259 rfl (by decide) (Or.inr (Or.inl ⟨rfl, rfl⟩)) rfl (by decide) (by decide) ?_
  have E260 : mb_E mbR129 131 := mb_E_set (k := 3) (v := 130) E259 (by decide : 125 < 131) (by decide)
  change mm_W _ _ _ _ _ (mb 131 mbR129 (mz_up (mz_up gB 0 0 (-1)) 81 2 (-1)) so L 7321) _
  refine mz_iincR (v := 3) (lo2 := [some (.ref 124), some (.int (Int32.ofInt 4))]) rfl rfl rfl (Nat.le_of_ble_eq_true rfl) rfl ?_
  refine mz_gt (tgt := 36) rfl rfl ?_
  refine mm_g 2 (pc1 := 38) (lo1 := [some (.ref 124), some (.int (Int32.ofInt 4))]) (st1 := [.ref 124, .int (Int32.ofInt 4)]) (H1 := (mb 131 mbR129 (mz_up (mz_up gB 0 0 (-1)) 81 2 (-1)) so L 7321)) rfl ?_
  refine mb_gf (v := 125) (kd := 4) rfl rfl rfl rfl (by decide) ((mb_g2 E259 (by decide) (by decide)).trans ((mb_g2 E257 (by decide) (by decide)).trans ((mb_g2 E255 (by decide) (by decide)).trans ((mb_g2 E253 (by decide) (by decide)).trans ((mb_g2 E251 (by decide) (by decide)).trans (mb_g1 E249 (by decide))))))) ?_
  refine mb_al (t := 104) (c := 6) rfl rfl (by decide) ?_
  refine mz_ic_ge (a := 4) (b := 6) (tgt := 64) rfl rfl ⟨by decide, by decide⟩ ⟨by decide, by decide⟩ (fun z => absurd z (by decide)) (fun _ => ?_)
  refine mm_g 1 (pc1 := 46) (lo1 := [some (.ref 124), some (.int (Int32.ofInt 4))]) (st1 := [.ref 124]) (H1 := (mb 131 mbR129 (mz_up (mz_up gB 0 0 (-1)) 81 2 (-1)) so L 7321)) rfl ?_
  refine mb_gf (v := 125) (kd := 4) rfl rfl rfl rfl (by decide) ((mb_g2 E259 (by decide) (by decide)).trans ((mb_g2 E257 (by decide) (by decide)).trans ((mb_g2 E255 (by decide) (by decide)).trans ((mb_g2 E253 (by decide) (by decide)).trans ((mb_g2 E251 (by decide) (by decide)).trans (mb_g1 E249 (by decide))))))) ?_
  refine mm_g 1 (pc1 := 50) (lo1 := [some (.ref 124), some (.int (Int32.ofInt 4))]) (st1 := [.int (Int32.ofInt 4), .ref 125]) (H1 := (mb 131 mbR129 (mz_up (mz_up gB 0 0 (-1)) 81 2 (-1)) so L 7321)) rfl ?_
  refine mb_new (sl2 := 7326) E260 rfl rfl (by decide) rfl rfl (fun j => ((mz_up_ne (fun h => absurd h.1 (by decide))).trans ((mz_up_ne (fun h => absurd h.1 (by decide))).trans (hB 131 j (by decide))))) ?_
  have E261 := mb_E_up E260
  refine mm_g 1 (pc1 := 54) (lo1 := [some (.ref 124), some (.int (Int32.ofInt 4))]) (st1 := [.ref 131, .ref 131, .int (Int32.ofInt 4), .ref 125]) (H1 := (mb 132 mbR129 (mz_up (mz_up gB 0 0 (-1)) 81 2 (-1)) so L 7326)) rfl ?_
  refine mb_cl (b := 131) rfl rfl rfl (Nat.le_of_ble_eq_true rfl) (by omega) ?_
  refine ⟨mmX8_init, [some (.ref 131)], rfl, rfl, ?_⟩
  refine mm_g 1 (pc1 := 1) (lo1 := [some (.ref 131)]) (st1 := [.ref 131]) (H1 := (mb 132 mbR129 (mz_up (mz_up gB 0 0 (-1)) 81 2 (-1)) so L 7326)) rfl ?_
  refine mb_obj rfl rfl (Nat.le_of_ble_eq_true rfl) (by omega) ?_
  refine mm_g 2 (pc1 := 6) (lo1 := [some (.ref 131)]) (st1 := [.int (Int32.ofInt 0), .ref 131]) (H1 := (mb 132 mbR129 (mz_up (mz_up gB 0 0 (-1)) 81 2 (-1)) so L 7326)) rfl ?_
  refine mb_p0 rfl rfl rfl (Or.inl rfl) ((mz_up_ne (by decide)).trans ((mz_up_ne (by decide)).trans (hB 131 0 (by decide)))) ?_
  refine mm_g 2 (pc1 := 11) (lo1 := [some (.ref 131)]) (st1 := [.int (Int32.ofInt 0), .ref 131]) (H1 := (mb 132 mbR129 (mz_up (mz_up gB 0 0 (-1)) 81 2 (-1)) so L 7326)) rfl ?_
  refine mb_p0 rfl rfl rfl (Or.inl rfl) ((mz_up_ne (by decide)).trans ((mz_up_ne (by decide)).trans (hB 131 1 (by decide)))) ?_
  refine mm_g 2 (pc1 := 16) (lo1 := [some (.ref 131)]) (st1 := [.int (Int32.ofInt 0), .ref 131]) (H1 := (mb 132 mbR129 (mz_up (mz_up gB 0 0 (-1)) 81 2 (-1)) so L 7326)) rfl ?_
  refine mb_p0 rfl rfl rfl (Or.inl rfl) ((mz_up_ne (by decide)).trans ((mz_up_ne (by decide)).trans (hB 131 2 (by decide)))) ?_
  refine mm_g 2 (pc1 := 21) (lo1 := [some (.ref 131)]) (st1 := [.int (Int32.ofInt 0), .ref 131]) (H1 := (mb 132 mbR129 (mz_up (mz_up gB 0 0 (-1)) 81 2 (-1)) so L 7326)) rfl ?_
  refine mb_p0 rfl rfl rfl (Or.inl rfl) ((mz_up_ne (by decide)).trans ((mz_up_ne (by decide)).trans (hB 131 3 (by decide)))) ?_
  refine mm_g 2 (pc1 := 26) (lo1 := [some (.ref 131)]) (st1 := [.int (Int32.ofInt 0), .ref 131]) (H1 := (mb 132 mbR129 (mz_up (mz_up gB 0 0 (-1)) 81 2 (-1)) so L 7326)) rfl ?_
  refine mb_p0 rfl rfl rfl (Or.inr rfl) ((mz_up_ne (by decide)).trans ((mz_up_ne (by decide)).trans (hB 131 4 (by decide)))) ?_
  refine mm_rt rfl rfl ⟨none, rfl, ?_⟩
  show mm_W ((d - 1) - 1) mmX9_init 57 [some (.ref 124), some (.int (Int32.ofInt 4))] [.ref 131, .int (Int32.ofInt 4), .ref 125] (mb 132 mbR129 (mz_up (mz_up gB 0 0 (-1)) 81 2 (-1)) so L 7326) _
  refine mb_aa (len := 6) (c := 4) E261 rfl (by decide) (Or.inr (Or.inl ⟨rfl, rfl⟩)) rfl (by decide) (by decide) ?_
  have E262 : mb_E mbR130 132 := mb_E_set (k := 4) (v := 131) E261 (by decide : 125 < 132) (by decide)
  change mm_W _ _ _ _ _ (mb 132 mbR130 (mz_up (mz_up gB 0 0 (-1)) 81 2 (-1)) so L 7326) _
  refine mz_iincR (v := 4) (lo2 := [some (.ref 124), some (.int (Int32.ofInt 5))]) rfl rfl rfl (Nat.le_of_ble_eq_true rfl) rfl ?_
  refine mz_gt (tgt := 36) rfl rfl ?_
  refine mm_g 2 (pc1 := 38) (lo1 := [some (.ref 124), some (.int (Int32.ofInt 5))]) (st1 := [.ref 124, .int (Int32.ofInt 5)]) (H1 := (mb 132 mbR130 (mz_up (mz_up gB 0 0 (-1)) 81 2 (-1)) so L 7326)) rfl ?_
  refine mb_gf (v := 125) (kd := 4) rfl rfl rfl rfl (by decide) ((mb_g2 E261 (by decide) (by decide)).trans ((mb_g2 E259 (by decide) (by decide)).trans ((mb_g2 E257 (by decide) (by decide)).trans ((mb_g2 E255 (by decide) (by decide)).trans ((mb_g2 E253 (by decide) (by decide)).trans ((mb_g2 E251 (by decide) (by decide)).trans (mb_g1 E249 (by decide)))))))) ?_
  refine mb_al (t := 104) (c := 6) rfl rfl (by decide) ?_
  refine mz_ic_ge (a := 5) (b := 6) (tgt := 64) rfl rfl ⟨by decide, by decide⟩ ⟨by decide, by decide⟩ (fun z => absurd z (by decide)) (fun _ => ?_)
  refine mm_g 1 (pc1 := 46) (lo1 := [some (.ref 124), some (.int (Int32.ofInt 5))]) (st1 := [.ref 124]) (H1 := (mb 132 mbR130 (mz_up (mz_up gB 0 0 (-1)) 81 2 (-1)) so L 7326)) rfl ?_
  refine mb_gf (v := 125) (kd := 4) rfl rfl rfl rfl (by decide) ((mb_g2 E261 (by decide) (by decide)).trans ((mb_g2 E259 (by decide) (by decide)).trans ((mb_g2 E257 (by decide) (by decide)).trans ((mb_g2 E255 (by decide) (by decide)).trans ((mb_g2 E253 (by decide) (by decide)).trans ((mb_g2 E251 (by decide) (by decide)).trans (mb_g1 E249 (by decide)))))))) ?_
  refine mm_g 1 (pc1 := 50) (lo1 := [some (.ref 124), some (.int (Int32.ofInt 5))]) (st1 := [.int (Int32.ofInt 5), .ref 125]) (H1 := (mb 132 mbR130 (mz_up (mz_up gB 0 0 (-1)) 81 2 (-1)) so L 7326)) rfl ?_
  refine mb_new (sl2 := 7331) E262 rfl rfl (by decide) rfl rfl (fun j => ((mz_up_ne (fun h => absurd h.1 (by decide))).trans ((mz_up_ne (fun h => absurd h.1 (by decide))).trans (hB 132 j (by decide))))) ?_
  have E263 := mb_E_up E262
  refine mm_g 1 (pc1 := 54) (lo1 := [some (.ref 124), some (.int (Int32.ofInt 5))]) (st1 := [.ref 132, .ref 132, .int (Int32.ofInt 5), .ref 125]) (H1 := (mb 133 mbR130 (mz_up (mz_up gB 0 0 (-1)) 81 2 (-1)) so L 7331)) rfl ?_
  refine mb_cl (b := 132) rfl rfl rfl (Nat.le_of_ble_eq_true rfl) (by omega) ?_
  refine ⟨mmX8_init, [some (.ref 132)], rfl, rfl, ?_⟩
  refine mm_g 1 (pc1 := 1) (lo1 := [some (.ref 132)]) (st1 := [.ref 132]) (H1 := (mb 133 mbR130 (mz_up (mz_up gB 0 0 (-1)) 81 2 (-1)) so L 7331)) rfl ?_
  refine mb_obj rfl rfl (Nat.le_of_ble_eq_true rfl) (by omega) ?_
  refine mm_g 2 (pc1 := 6) (lo1 := [some (.ref 132)]) (st1 := [.int (Int32.ofInt 0), .ref 132]) (H1 := (mb 133 mbR130 (mz_up (mz_up gB 0 0 (-1)) 81 2 (-1)) so L 7331)) rfl ?_
  refine mb_p0 rfl rfl rfl (Or.inl rfl) ((mz_up_ne (by decide)).trans ((mz_up_ne (by decide)).trans (hB 132 0 (by decide)))) ?_
  refine mm_g 2 (pc1 := 11) (lo1 := [some (.ref 132)]) (st1 := [.int (Int32.ofInt 0), .ref 132]) (H1 := (mb 133 mbR130 (mz_up (mz_up gB 0 0 (-1)) 81 2 (-1)) so L 7331)) rfl ?_
  refine mb_p0 rfl rfl rfl (Or.inl rfl) ((mz_up_ne (by decide)).trans ((mz_up_ne (by decide)).trans (hB 132 1 (by decide)))) ?_
  refine mm_g 2 (pc1 := 16) (lo1 := [some (.ref 132)]) (st1 := [.int (Int32.ofInt 0), .ref 132]) (H1 := (mb 133 mbR130 (mz_up (mz_up gB 0 0 (-1)) 81 2 (-1)) so L 7331)) rfl ?_
  refine mb_p0 rfl rfl rfl (Or.inl rfl) ((mz_up_ne (by decide)).trans ((mz_up_ne (by decide)).trans (hB 132 2 (by decide)))) ?_
  refine mm_g 2 (pc1 := 21) (lo1 := [some (.ref 132)]) (st1 := [.int (Int32.ofInt 0), .ref 132]) (H1 := (mb 133 mbR130 (mz_up (mz_up gB 0 0 (-1)) 81 2 (-1)) so L 7331)) rfl ?_
  refine mb_p0 rfl rfl rfl (Or.inl rfl) ((mz_up_ne (by decide)).trans ((mz_up_ne (by decide)).trans (hB 132 3 (by decide)))) ?_
  refine mm_g 2 (pc1 := 26) (lo1 := [some (.ref 132)]) (st1 := [.int (Int32.ofInt 0), .ref 132]) (H1 := (mb 133 mbR130 (mz_up (mz_up gB 0 0 (-1)) 81 2 (-1)) so L 7331)) rfl ?_
  refine mb_p0 rfl rfl rfl (Or.inr rfl) ((mz_up_ne (by decide)).trans ((mz_up_ne (by decide)).trans (hB 132 4 (by decide)))) ?_
  refine mm_rt rfl rfl ⟨none, rfl, ?_⟩
  show mm_W ((d - 1) - 1) mmX9_init 57 [some (.ref 124), some (.int (Int32.ofInt 5))] [.ref 132, .int (Int32.ofInt 5), .ref 125] (mb 133 mbR130 (mz_up (mz_up gB 0 0 (-1)) 81 2 (-1)) so L 7331) _
  refine mb_aa (len := 6) (c := 5) E263 rfl (by decide) (Or.inr (Or.inl ⟨rfl, rfl⟩)) rfl (by decide) (by decide) ?_
  have E264 : mb_E mbR131 133 := mb_E_set (k := 5) (v := 132) E263 (by decide : 125 < 133) (by decide)
  change mm_W _ _ _ _ _ (mb 133 mbR131 (mz_up (mz_up gB 0 0 (-1)) 81 2 (-1)) so L 7331) _
  refine mz_iincR (v := 5) (lo2 := [some (.ref 124), some (.int (Int32.ofInt 6))]) rfl rfl rfl (Nat.le_of_ble_eq_true rfl) rfl ?_
  refine mz_gt (tgt := 36) rfl rfl ?_
  refine mm_g 2 (pc1 := 38) (lo1 := [some (.ref 124), some (.int (Int32.ofInt 6))]) (st1 := [.ref 124, .int (Int32.ofInt 6)]) (H1 := (mb 133 mbR131 (mz_up (mz_up gB 0 0 (-1)) 81 2 (-1)) so L 7331)) rfl ?_
  refine mb_gf (v := 125) (kd := 4) rfl rfl rfl rfl (by decide) ((mb_g2 E263 (by decide) (by decide)).trans ((mb_g2 E261 (by decide) (by decide)).trans ((mb_g2 E259 (by decide) (by decide)).trans ((mb_g2 E257 (by decide) (by decide)).trans ((mb_g2 E255 (by decide) (by decide)).trans ((mb_g2 E253 (by decide) (by decide)).trans ((mb_g2 E251 (by decide) (by decide)).trans (mb_g1 E249 (by decide))))))))) ?_
  refine mb_al (t := 104) (c := 6) rfl rfl (by decide) ?_
  refine mz_ic_ge (a := 6) (b := 6) (tgt := 64) rfl rfl ⟨by decide, by decide⟩ ⟨by decide, by decide⟩ (fun _ => ?_) (fun z => absurd z (by decide))
  refine mm_rt rfl rfl ⟨none, rfl, ?_⟩
  show mm_W (d - 1) mmX11_init 130 [some (.ref 0)] [.ref 124, .ref 0] (mb 133 mbR131 (mz_up (mz_up gB 0 0 (-1)) 81 2 (-1)) so L 7331) _
  refine mb_pR E264 rfl rfl (by decide) rfl (Or.inr ⟨rfl, rfl, rfl⟩) ?_
  have E265 : mb_E mbR132 133 := mb_E_set (k := 12) (v := 124) E264 (by decide : 0 < 133) (by decide)
  change mm_W _ _ _ _ _ (mb 133 mbR132 (mz_up (mz_up gB 0 0 (-1)) 81 2 (-1)) so L 7331) _
  refine mm_g 1 (pc1 := 134) (lo1 := [some (.ref 0)]) (st1 := [.ref 0]) (H1 := (mb 133 mbR132 (mz_up (mz_up gB 0 0 (-1)) 81 2 (-1)) so L 7331)) rfl ?_
  refine mb_new (sl2 := 7333) E265 rfl rfl (by decide) rfl rfl (fun j => ((mz_up_ne (fun h => absurd h.1 (by decide))).trans ((mz_up_ne (fun h => absurd h.1 (by decide))).trans (hB 133 j (by decide))))) ?_
  have E266 := mb_E_up E265
  refine mm_g 1 (pc1 := 138) (lo1 := [some (.ref 0)]) (st1 := [.ref 133, .ref 133, .ref 0]) (H1 := (mb 134 mbR132 (mz_up (mz_up gB 0 0 (-1)) 81 2 (-1)) so L 7333)) rfl ?_
  refine mz_bip (c := 16) rfl (by decide) ?_
  refine mb_cl (b := 133) rfl rfl rfl (Nat.le_of_ble_eq_true rfl) (by omega) ?_
  refine ⟨mmX0_init, [some (.ref 133), some (.int (Int32.ofInt 16))], rfl, rfl, ?_⟩
  refine mm_g 1 (pc1 := 1) (lo1 := [some (.ref 133), some (.int (Int32.ofInt 16))]) (st1 := [.ref 133]) (H1 := (mb 134 mbR132 (mz_up (mz_up gB 0 0 (-1)) 81 2 (-1)) so L 7333)) rfl ?_
  refine mb_obj rfl rfl (Nat.le_of_ble_eq_true rfl) (by omega) ?_
  refine mm_g 2 (pc1 := 6) (lo1 := [some (.ref 133), some (.int (Int32.ofInt 16))]) (st1 := [.int (Int32.ofInt 0), .ref 133]) (H1 := (mb 134 mbR132 (mz_up (mz_up gB 0 0 (-1)) 81 2 (-1)) so L 7333)) rfl ?_
  refine mb_p0 rfl rfl rfl (Or.inl rfl) ((mz_up_ne (by decide)).trans ((mz_up_ne (by decide)).trans (hB 133 1 (by decide)))) ?_
  refine mm_g 2 (pc1 := 11) (lo1 := [some (.ref 133), some (.int (Int32.ofInt 16))]) (st1 := [.int (Int32.ofInt 16), .ref 133]) (H1 := (mb 134 mbR132 (mz_up (mz_up gB 0 0 (-1)) 81 2 (-1)) so L 7333)) rfl ?_
  refine mz_if_le (a := 16) (tgt := 18) rfl rfl ⟨by decide, by decide⟩ (fun z => absurd z (by decide)) (fun _ => ?_)
  refine mm_g 1 (pc1 := 15) (lo1 := [some (.ref 133), some (.int (Int32.ofInt 16))]) (st1 := [.int (Int32.ofInt 16), .ref 133]) (H1 := (mb 134 mbR132 (mz_up (mz_up gB 0 0 (-1)) 81 2 (-1)) so L 7333)) rfl ?_
  refine mz_gt (tgt := 19) rfl rfl ?_
  refine mb_nai (sl2 := 7349) (c := 16) E266 rfl (by decide) (by decide) (by decide) rfl rfl (fun j => ((mz_up_ne (fun h => absurd h.1 (by decide))).trans ((mz_up_ne (fun h => absurd h.1 (by decide))).trans (hB 134 j (by decide))))) ?_
  have E267 := mb_E_up E266
  refine mb_pR E267 rfl rfl (by decide) rfl (Or.inr ⟨rfl, rfl, rfl⟩) ?_
  have E268 : mb_E mbR133 135 := mb_E_set (k := 0) (v := 134) E267 (by decide : 133 < 135) (by decide)
  change mm_W _ _ _ _ _ (mb 135 mbR133 (mz_up (mz_up gB 0 0 (-1)) 81 2 (-1)) so L 7349) _
  refine mm_rt rfl rfl ⟨none, rfl, ?_⟩
  show mm_W (d - 1) mmX11_init 143 [some (.ref 0)] [.ref 133, .ref 0] (mb 135 mbR133 (mz_up (mz_up gB 0 0 (-1)) 81 2 (-1)) so L 7349) _
  refine mb_pR E268 rfl rfl (by decide) rfl (Or.inr ⟨rfl, rfl, rfl⟩) ?_
  have E269 : mb_E mbR134 135 := mb_E_set (k := 13) (v := 133) E268 (by decide : 0 < 135) (by decide)
  change mm_W _ _ _ _ _ (mb 135 mbR134 (mz_up (mz_up gB 0 0 (-1)) 81 2 (-1)) so L 7349) _
  refine mm_g 1 (pc1 := 147) (lo1 := [some (.ref 0)]) (st1 := [.ref 0]) (H1 := (mb 135 mbR134 (mz_up (mz_up gB 0 0 (-1)) 81 2 (-1)) so L 7349)) rfl ?_
  refine mb_new (sl2 := 7351) E269 rfl rfl (by decide) rfl rfl (fun j => ((mz_up_ne (fun h => absurd h.1 (by decide))).trans ((mz_up_ne (fun h => absurd h.1 (by decide))).trans (hB 135 j (by decide))))) ?_
  have E270 := mb_E_up E269
  refine mm_g 1 (pc1 := 151) (lo1 := [some (.ref 0)]) (st1 := [.ref 135, .ref 135, .ref 0]) (H1 := (mb 136 mbR134 (mz_up (mz_up gB 0 0 (-1)) 81 2 (-1)) so L 7351)) rfl ?_
  refine mz_bip (c := 16) rfl (by decide) ?_
  refine mb_cl (b := 135) rfl rfl rfl (Nat.le_of_ble_eq_true rfl) (by omega) ?_
  refine ⟨mmX0_init, [some (.ref 135), some (.int (Int32.ofInt 16))], rfl, rfl, ?_⟩
  refine mm_g 1 (pc1 := 1) (lo1 := [some (.ref 135), some (.int (Int32.ofInt 16))]) (st1 := [.ref 135]) (H1 := (mb 136 mbR134 (mz_up (mz_up gB 0 0 (-1)) 81 2 (-1)) so L 7351)) rfl ?_
  refine mb_obj rfl rfl (Nat.le_of_ble_eq_true rfl) (by omega) ?_
  refine mm_g 2 (pc1 := 6) (lo1 := [some (.ref 135), some (.int (Int32.ofInt 16))]) (st1 := [.int (Int32.ofInt 0), .ref 135]) (H1 := (mb 136 mbR134 (mz_up (mz_up gB 0 0 (-1)) 81 2 (-1)) so L 7351)) rfl ?_
  refine mb_p0 rfl rfl rfl (Or.inl rfl) ((mz_up_ne (by decide)).trans ((mz_up_ne (by decide)).trans (hB 135 1 (by decide)))) ?_
  refine mm_g 2 (pc1 := 11) (lo1 := [some (.ref 135), some (.int (Int32.ofInt 16))]) (st1 := [.int (Int32.ofInt 16), .ref 135]) (H1 := (mb 136 mbR134 (mz_up (mz_up gB 0 0 (-1)) 81 2 (-1)) so L 7351)) rfl ?_
  refine mz_if_le (a := 16) (tgt := 18) rfl rfl ⟨by decide, by decide⟩ (fun z => absurd z (by decide)) (fun _ => ?_)
  refine mm_g 1 (pc1 := 15) (lo1 := [some (.ref 135), some (.int (Int32.ofInt 16))]) (st1 := [.int (Int32.ofInt 16), .ref 135]) (H1 := (mb 136 mbR134 (mz_up (mz_up gB 0 0 (-1)) 81 2 (-1)) so L 7351)) rfl ?_
  refine mz_gt (tgt := 19) rfl rfl ?_
  refine mb_nai (sl2 := 7367) (c := 16) E270 rfl (by decide) (by decide) (by decide) rfl rfl (fun j => ((mz_up_ne (fun h => absurd h.1 (by decide))).trans ((mz_up_ne (fun h => absurd h.1 (by decide))).trans (hB 136 j (by decide))))) ?_
  have E271 := mb_E_up E270
  refine mb_pR E271 rfl rfl (by decide) rfl (Or.inr ⟨rfl, rfl, rfl⟩) ?_
  have E272 : mb_E mbR135 137 := mb_E_set (k := 0) (v := 136) E271 (by decide : 135 < 137) (by decide)
  change mm_W _ _ _ _ _ (mb 137 mbR135 (mz_up (mz_up gB 0 0 (-1)) 81 2 (-1)) so L 7367) _
  refine mm_rt rfl rfl ⟨none, rfl, ?_⟩
  show mm_W (d - 1) mmX11_init 156 [some (.ref 0)] [.ref 135, .ref 0] (mb 137 mbR135 (mz_up (mz_up gB 0 0 (-1)) 81 2 (-1)) so L 7367) _
  refine mb_pR E272 rfl rfl (by decide) rfl (Or.inr ⟨rfl, rfl, rfl⟩) ?_
  have E273 : mb_E mbR136 137 := mb_E_set (k := 14) (v := 135) E272 (by decide : 0 < 137) (by decide)
  change mm_W _ _ _ _ _ (mb 137 mbR136 (mz_up (mz_up gB 0 0 (-1)) 81 2 (-1)) so L 7367) _
  refine mm_g 2 (pc1 := 161) (lo1 := [some (.ref 0)]) (st1 := [.int (Int32.ofInt 0), .ref 0]) (H1 := (mb 137 mbR136 (mz_up (mz_up gB 0 0 (-1)) 81 2 (-1)) so L 7367)) rfl ?_
  refine mb_p0 rfl rfl rfl (Or.inl rfl) ((mz_up_ne (by decide)).trans ((mz_up_ne (by decide)).trans (hB 0 15 (by decide)))) ?_
  refine mm_rt rfl rfl ⟨none, rfl, ?_⟩
  show mm_W d mmL_law 7 [some (.ref 5000), none, none, none, none, none, none] [.ref 0] (mb 137 mbR136 (mz_up (mz_up gB 0 0 (-1)) 81 2 (-1)) so L 7367) _
  exact k E273
set_option maxHeartbeats 20000000 in
set_option maxRecDepth 100000 in
theorem mb_run1 {d : Nat} (hd : 40 ≤ d) {gB : mz_G} (hB : ∀ k j : Nat, k < 1000 → gB k j = 0) {so : Option Nat} {L : Nat} (E0 : mb_E mbR136 137) {Q : (Option Value ⊕ Nat) → mm_H → Prop} (k : mb_E mbR186 179 → mm_W d mmL_law 15 [some (.ref 5000), some (.ref 0), none, none, none, none, none] [.ref 137] (mb 179 mbR186 (mz_up (mz_up (mz_up gB 0 0 (-1)) 81 2 (-1)) 137 24 (-1)) so L 14537) Q) : mm_W d mmL_law 7 [some (.ref 5000), none, none, none, none, none, none] [.ref 0] (mb 137 mbR136 (mz_up (mz_up gB 0 0 (-1)) 81 2 (-1)) so L 7367) Q := by
  refine mm_g 1 (pc1 := 8) (lo1 := [some (.ref 5000), some (.ref 0), none, none, none, none, none]) (st1 := []) (H1 := (mb 137 mbR136 (mz_up (mz_up gB 0 0 (-1)) 81 2 (-1)) so L 7367)) rfl ?_
  refine mb_new (sl2 := 7429) E0 rfl rfl (by decide) rfl rfl (fun j => ((mz_up_ne (fun h => absurd h.1 (by decide))).trans ((mz_up_ne (fun h => absurd h.1 (by decide))).trans (hB 137 j (by decide))))) ?_
  have E274 := mb_E_up E0
  refine mm_g 1 (pc1 := 12) (lo1 := [some (.ref 5000), some (.ref 0), none, none, none, none, none]) (st1 := [.ref 137, .ref 137]) (H1 := (mb 138 mbR136 (mz_up (mz_up gB 0 0 (-1)) 81 2 (-1)) so L 7429)) rfl ?_
  refine mb_cl (b := 137) rfl rfl rfl (Nat.le_of_ble_eq_true rfl) (by omega) ?_
  refine ⟨mmX12_init, [some (.ref 137)], rfl, rfl, ?_⟩
  refine mm_g 1 (pc1 := 1) (lo1 := [some (.ref 137)]) (st1 := [.ref 137]) (H1 := (mb 138 mbR136 (mz_up (mz_up gB 0 0 (-1)) 81 2 (-1)) so L 7429)) rfl ?_
  refine mb_obj rfl rfl (Nat.le_of_ble_eq_true rfl) (by omega) ?_
  refine mm_g 2 (pc1 := 6) (lo1 := [some (.ref 137)]) (st1 := [.int (Int32.ofInt 2), .ref 137]) (H1 := (mb 138 mbR136 (mz_up (mz_up gB 0 0 (-1)) 81 2 (-1)) so L 7429)) rfl ?_
  refine mb_ana (sl2 := 7431) (c := 2) E274 rfl rfl (by decide) (by decide) (by decide) rfl rfl (fun j => ((mz_up_ne (fun h => absurd h.1 (by decide))).trans ((mz_up_ne (fun h => absurd h.1 (by decide))).trans (hB 138 j (by decide))))) ?_
  have E275 := mb_E_up E274
  refine mm_g 2 (pc1 := 11) (lo1 := [some (.ref 137)]) (st1 := [.int (Int32.ofInt 0), .ref 138, .ref 138, .ref 137]) (H1 := (mb 139 mbR136 (mz_up (mz_up gB 0 0 (-1)) 81 2 (-1)) so L 7431)) rfl ?_
  refine mz_ldcS (j := 14) rfl rfl rfl ?_
  refine mb_aa (len := 2) (c := 0) E275 rfl (by decide) (Or.inr (Or.inr ⟨rfl, rfl⟩)) rfl (by decide) (by decide) ?_
  have E276 : mb_E mbR137 139 := mb_E_set (k := 0) (v := 1014) E275 (by decide : 138 < 139) (by decide)
  change mm_W _ _ _ _ _ (mb 139 mbR137 (mz_up (mz_up gB 0 0 (-1)) 81 2 (-1)) so L 7431) _
  refine mm_g 2 (pc1 := 16) (lo1 := [some (.ref 137)]) (st1 := [.int (Int32.ofInt 1), .ref 138, .ref 138, .ref 137]) (H1 := (mb 139 mbR137 (mz_up (mz_up gB 0 0 (-1)) 81 2 (-1)) so L 7431)) rfl ?_
  refine mz_ldcS (j := 15) rfl rfl rfl ?_
  refine mb_aa (len := 2) (c := 1) E276 rfl (by decide) (Or.inr (Or.inr ⟨rfl, rfl⟩)) rfl (by decide) (by decide) ?_
  have E277 : mb_E mbR138 139 := mb_E_set (k := 1) (v := 1015) E276 (by decide : 138 < 139) (by decide)
  change mm_W _ _ _ _ _ (mb 139 mbR138 (mz_up (mz_up gB 0 0 (-1)) 81 2 (-1)) so L 7431) _
  refine mb_pR E277 rfl rfl (by decide) rfl (Or.inr ⟨rfl, rfl, rfl⟩) ?_
  have E278 : mb_E mbR139 139 := mb_E_set (k := 0) (v := 138) E277 (by decide : 137 < 139) (by decide)
  change mm_W _ _ _ _ _ (mb 139 mbR139 (mz_up (mz_up gB 0 0 (-1)) 81 2 (-1)) so L 7431) _
  refine mm_g 1 (pc1 := 23) (lo1 := [some (.ref 137)]) (st1 := [.ref 137]) (H1 := (mb 139 mbR139 (mz_up (mz_up gB 0 0 (-1)) 81 2 (-1)) so L 7431)) rfl ?_
  refine mz_bip (c := 7) rfl (by decide) ?_
  refine mb_ana (sl2 := 7438) (c := 7) E278 rfl rfl (by decide) (by decide) (by decide) rfl rfl (fun j => ((mz_up_ne (fun h => absurd h.1 (by decide))).trans ((mz_up_ne (fun h => absurd h.1 (by decide))).trans (hB 139 j (by decide))))) ?_
  have E279 := mb_E_up E278
  refine mm_g 2 (pc1 := 30) (lo1 := [some (.ref 137)]) (st1 := [.int (Int32.ofInt 0), .ref 139, .ref 139, .ref 137]) (H1 := (mb 140 mbR139 (mz_up (mz_up gB 0 0 (-1)) 81 2 (-1)) so L 7438)) rfl ?_
  refine mz_ldcS (j := 16) rfl rfl rfl ?_
  refine mb_aa (len := 7) (c := 0) E279 rfl (by decide) (Or.inr (Or.inr ⟨rfl, rfl⟩)) rfl (by decide) (by decide) ?_
  have E280 : mb_E mbR140 140 := mb_E_set (k := 0) (v := 1016) E279 (by decide : 139 < 140) (by decide)
  change mm_W _ _ _ _ _ (mb 140 mbR140 (mz_up (mz_up gB 0 0 (-1)) 81 2 (-1)) so L 7438) _
  refine mm_g 2 (pc1 := 35) (lo1 := [some (.ref 137)]) (st1 := [.int (Int32.ofInt 1), .ref 139, .ref 139, .ref 137]) (H1 := (mb 140 mbR140 (mz_up (mz_up gB 0 0 (-1)) 81 2 (-1)) so L 7438)) rfl ?_
  refine mz_ldcS (j := 17) rfl rfl rfl ?_
  refine mb_aa (len := 7) (c := 1) E280 rfl (by decide) (Or.inr (Or.inr ⟨rfl, rfl⟩)) rfl (by decide) (by decide) ?_
  have E281 : mb_E mbR141 140 := mb_E_set (k := 1) (v := 1017) E280 (by decide : 139 < 140) (by decide)
  change mm_W _ _ _ _ _ (mb 140 mbR141 (mz_up (mz_up gB 0 0 (-1)) 81 2 (-1)) so L 7438) _
  refine mm_g 2 (pc1 := 40) (lo1 := [some (.ref 137)]) (st1 := [.int (Int32.ofInt 2), .ref 139, .ref 139, .ref 137]) (H1 := (mb 140 mbR141 (mz_up (mz_up gB 0 0 (-1)) 81 2 (-1)) so L 7438)) rfl ?_
  refine mz_ldcS (j := 18) rfl rfl rfl ?_
  refine mb_aa (len := 7) (c := 2) E281 rfl (by decide) (Or.inr (Or.inr ⟨rfl, rfl⟩)) rfl (by decide) (by decide) ?_
  have E282 : mb_E mbR142 140 := mb_E_set (k := 2) (v := 1018) E281 (by decide : 139 < 140) (by decide)
  change mm_W _ _ _ _ _ (mb 140 mbR142 (mz_up (mz_up gB 0 0 (-1)) 81 2 (-1)) so L 7438) _
  refine mm_g 2 (pc1 := 45) (lo1 := [some (.ref 137)]) (st1 := [.int (Int32.ofInt 3), .ref 139, .ref 139, .ref 137]) (H1 := (mb 140 mbR142 (mz_up (mz_up gB 0 0 (-1)) 81 2 (-1)) so L 7438)) rfl ?_
  refine mz_ldcS (j := 19) rfl rfl rfl ?_
  refine mb_aa (len := 7) (c := 3) E282 rfl (by decide) (Or.inr (Or.inr ⟨rfl, rfl⟩)) rfl (by decide) (by decide) ?_
  have E283 : mb_E mbR143 140 := mb_E_set (k := 3) (v := 1019) E282 (by decide : 139 < 140) (by decide)
  change mm_W _ _ _ _ _ (mb 140 mbR143 (mz_up (mz_up gB 0 0 (-1)) 81 2 (-1)) so L 7438) _
  refine mm_g 2 (pc1 := 50) (lo1 := [some (.ref 137)]) (st1 := [.int (Int32.ofInt 4), .ref 139, .ref 139, .ref 137]) (H1 := (mb 140 mbR143 (mz_up (mz_up gB 0 0 (-1)) 81 2 (-1)) so L 7438)) rfl ?_
  refine mz_ldcS (j := 20) rfl rfl rfl ?_
  refine mb_aa (len := 7) (c := 4) E283 rfl (by decide) (Or.inr (Or.inr ⟨rfl, rfl⟩)) rfl (by decide) (by decide) ?_
  have E284 : mb_E mbR144 140 := mb_E_set (k := 4) (v := 1020) E283 (by decide : 139 < 140) (by decide)
  change mm_W _ _ _ _ _ (mb 140 mbR144 (mz_up (mz_up gB 0 0 (-1)) 81 2 (-1)) so L 7438) _
  refine mm_g 2 (pc1 := 55) (lo1 := [some (.ref 137)]) (st1 := [.int (Int32.ofInt 5), .ref 139, .ref 139, .ref 137]) (H1 := (mb 140 mbR144 (mz_up (mz_up gB 0 0 (-1)) 81 2 (-1)) so L 7438)) rfl ?_
  refine mz_ldcS (j := 21) rfl rfl rfl ?_
  refine mb_aa (len := 7) (c := 5) E284 rfl (by decide) (Or.inr (Or.inr ⟨rfl, rfl⟩)) rfl (by decide) (by decide) ?_
  have E285 : mb_E mbR145 140 := mb_E_set (k := 5) (v := 1021) E284 (by decide : 139 < 140) (by decide)
  change mm_W _ _ _ _ _ (mb 140 mbR145 (mz_up (mz_up gB 0 0 (-1)) 81 2 (-1)) so L 7438) _
  refine mm_g 1 (pc1 := 59) (lo1 := [some (.ref 137)]) (st1 := [.ref 139, .ref 139, .ref 137]) (H1 := (mb 140 mbR145 (mz_up (mz_up gB 0 0 (-1)) 81 2 (-1)) so L 7438)) rfl ?_
  refine mz_bip (c := 6) rfl (by decide) ?_
  refine mz_ldcS (j := 22) rfl rfl rfl ?_
  refine mb_aa (len := 7) (c := 6) E285 rfl (by decide) (Or.inr (Or.inr ⟨rfl, rfl⟩)) rfl (by decide) (by decide) ?_
  have E286 : mb_E mbR146 140 := mb_E_set (k := 6) (v := 1022) E285 (by decide : 139 < 140) (by decide)
  change mm_W _ _ _ _ _ (mb 140 mbR146 (mz_up (mz_up gB 0 0 (-1)) 81 2 (-1)) so L 7438) _
  refine mb_pR E286 rfl rfl (by decide) rfl (Or.inr ⟨rfl, rfl, rfl⟩) ?_
  have E287 : mb_E mbR147 140 := mb_E_set (k := 1) (v := 139) E286 (by decide : 137 < 140) (by decide)
  change mm_W _ _ _ _ _ (mb 140 mbR147 (mz_up (mz_up gB 0 0 (-1)) 81 2 (-1)) so L 7438) _
  refine mm_g 1 (pc1 := 68) (lo1 := [some (.ref 137)]) (st1 := [.ref 137]) (H1 := (mb 140 mbR147 (mz_up (mz_up gB 0 0 (-1)) 81 2 (-1)) so L 7438)) rfl ?_
  refine mz_bip (c := 8) rfl (by decide) ?_
  refine mb_nai (sl2 := 7446) (c := 8) E287 rfl (by decide) (by decide) (by decide) rfl rfl (fun j => ((mz_up_ne (fun h => absurd h.1 (by decide))).trans ((mz_up_ne (fun h => absurd h.1 (by decide))).trans (hB 140 j (by decide))))) ?_
  have E288 := mb_E_up E287
  refine mb_pR E288 rfl rfl (by decide) rfl (Or.inr ⟨rfl, rfl, rfl⟩) ?_
  have E289 : mb_E mbR148 141 := mb_E_set (k := 3) (v := 140) E288 (by decide : 137 < 141) (by decide)
  change mm_W _ _ _ _ _ (mb 141 mbR148 (mz_up (mz_up gB 0 0 (-1)) 81 2 (-1)) so L 7446) _
  refine mm_g 1 (pc1 := 76) (lo1 := [some (.ref 137)]) (st1 := [.ref 137]) (H1 := (mb 141 mbR148 (mz_up (mz_up gB 0 0 (-1)) 81 2 (-1)) so L 7446)) rfl ?_
  refine mz_sip (c := 128) rfl (by decide) ?_
  refine mb_nai (sl2 := 7574) (c := 128) E289 rfl (by decide) (by decide) (by decide) rfl rfl (fun j => ((mz_up_ne (fun h => absurd h.1 (by decide))).trans ((mz_up_ne (fun h => absurd h.1 (by decide))).trans (hB 141 j (by decide))))) ?_
  have E290 := mb_E_up E289
  refine mb_pR E290 rfl rfl (by decide) rfl (Or.inr ⟨rfl, rfl, rfl⟩) ?_
  have E291 : mb_E mbR149 142 := mb_E_set (k := 4) (v := 141) E290 (by decide : 137 < 142) (by decide)
  change mm_W _ _ _ _ _ (mb 142 mbR149 (mz_up (mz_up gB 0 0 (-1)) 81 2 (-1)) so L 7574) _
  refine mm_g 1 (pc1 := 85) (lo1 := [some (.ref 137)]) (st1 := [.ref 137]) (H1 := (mb 142 mbR149 (mz_up (mz_up gB 0 0 (-1)) 81 2 (-1)) so L 7574)) rfl ?_
  refine mz_bip (c := 16) rfl (by decide) ?_
  refine mb_nai (sl2 := 7590) (c := 16) E291 rfl (by decide) (by decide) (by decide) rfl rfl (fun j => ((mz_up_ne (fun h => absurd h.1 (by decide))).trans ((mz_up_ne (fun h => absurd h.1 (by decide))).trans (hB 142 j (by decide))))) ?_
  have E292 := mb_E_up E291
  refine mb_pR E292 rfl rfl (by decide) rfl (Or.inr ⟨rfl, rfl, rfl⟩) ?_
  have E293 : mb_E mbR150 143 := mb_E_set (k := 5) (v := 142) E292 (by decide : 137 < 143) (by decide)
  change mm_W _ _ _ _ _ (mb 143 mbR150 (mz_up (mz_up gB 0 0 (-1)) 81 2 (-1)) so L 7590) _
  refine mm_g 1 (pc1 := 93) (lo1 := [some (.ref 137)]) (st1 := [.ref 137]) (H1 := (mb 143 mbR150 (mz_up (mz_up gB 0 0 (-1)) 81 2 (-1)) so L 7590)) rfl ?_
  refine mz_bip (c := 16) rfl (by decide) ?_
  refine mb_nai (sl2 := 7606) (c := 16) E293 rfl (by decide) (by decide) (by decide) rfl rfl (fun j => ((mz_up_ne (fun h => absurd h.1 (by decide))).trans ((mz_up_ne (fun h => absurd h.1 (by decide))).trans (hB 143 j (by decide))))) ?_
  have E294 := mb_E_up E293
  refine mb_pR E294 rfl rfl (by decide) rfl (Or.inr ⟨rfl, rfl, rfl⟩) ?_
  have E295 : mb_E mbR151 144 := mb_E_set (k := 6) (v := 143) E294 (by decide : 137 < 144) (by decide)
  change mm_W _ _ _ _ _ (mb 144 mbR151 (mz_up (mz_up gB 0 0 (-1)) 81 2 (-1)) so L 7606) _
  refine mm_g 1 (pc1 := 101) (lo1 := [some (.ref 137)]) (st1 := [.ref 137]) (H1 := (mb 144 mbR151 (mz_up (mz_up gB 0 0 (-1)) 81 2 (-1)) so L 7606)) rfl ?_
  refine mz_bip (c := 12) rfl (by decide) ?_
  refine mb_nai (sl2 := 7618) (c := 12) E295 rfl (by decide) (by decide) (by decide) rfl rfl (fun j => ((mz_up_ne (fun h => absurd h.1 (by decide))).trans ((mz_up_ne (fun h => absurd h.1 (by decide))).trans (hB 144 j (by decide))))) ?_
  have E296 := mb_E_up E295
  refine mb_pR E296 rfl rfl (by decide) rfl (Or.inr ⟨rfl, rfl, rfl⟩) ?_
  have E297 : mb_E mbR152 145 := mb_E_set (k := 7) (v := 144) E296 (by decide : 137 < 145) (by decide)
  change mm_W _ _ _ _ _ (mb 145 mbR152 (mz_up (mz_up gB 0 0 (-1)) 81 2 (-1)) so L 7618) _
  refine mm_g 1 (pc1 := 109) (lo1 := [some (.ref 137)]) (st1 := [.ref 137]) (H1 := (mb 145 mbR152 (mz_up (mz_up gB 0 0 (-1)) 81 2 (-1)) so L 7618)) rfl ?_
  refine mz_bip (c := 12) rfl (by decide) ?_
  refine mb_nai (sl2 := 7630) (c := 12) E297 rfl (by decide) (by decide) (by decide) rfl rfl (fun j => ((mz_up_ne (fun h => absurd h.1 (by decide))).trans ((mz_up_ne (fun h => absurd h.1 (by decide))).trans (hB 145 j (by decide))))) ?_
  have E298 := mb_E_up E297
  refine mb_pR E298 rfl rfl (by decide) rfl (Or.inr ⟨rfl, rfl, rfl⟩) ?_
  have E299 : mb_E mbR153 146 := mb_E_set (k := 8) (v := 145) E298 (by decide : 137 < 146) (by decide)
  change mm_W _ _ _ _ _ (mb 146 mbR153 (mz_up (mz_up gB 0 0 (-1)) 81 2 (-1)) so L 7630) _
  refine mm_g 1 (pc1 := 117) (lo1 := [some (.ref 137)]) (st1 := [.ref 137]) (H1 := (mb 146 mbR153 (mz_up (mz_up gB 0 0 (-1)) 81 2 (-1)) so L 7630)) rfl ?_
  refine mz_bip (c := 12) rfl (by decide) ?_
  refine mb_nai (sl2 := 7642) (c := 12) E299 rfl (by decide) (by decide) (by decide) rfl rfl (fun j => ((mz_up_ne (fun h => absurd h.1 (by decide))).trans ((mz_up_ne (fun h => absurd h.1 (by decide))).trans (hB 146 j (by decide))))) ?_
  have E300 := mb_E_up E299
  refine mb_pR E300 rfl rfl (by decide) rfl (Or.inr ⟨rfl, rfl, rfl⟩) ?_
  have E301 : mb_E mbR154 147 := mb_E_set (k := 9) (v := 146) E300 (by decide : 137 < 147) (by decide)
  change mm_W _ _ _ _ _ (mb 147 mbR154 (mz_up (mz_up gB 0 0 (-1)) 81 2 (-1)) so L 7642) _
  refine mm_g 1 (pc1 := 125) (lo1 := [some (.ref 137)]) (st1 := [.ref 137]) (H1 := (mb 147 mbR154 (mz_up (mz_up gB 0 0 (-1)) 81 2 (-1)) so L 7642)) rfl ?_
  refine mz_bip (c := 12) rfl (by decide) ?_
  refine mb_nai (sl2 := 7654) (c := 12) E301 rfl (by decide) (by decide) (by decide) rfl rfl (fun j => ((mz_up_ne (fun h => absurd h.1 (by decide))).trans ((mz_up_ne (fun h => absurd h.1 (by decide))).trans (hB 147 j (by decide))))) ?_
  have E302 := mb_E_up E301
  refine mb_pR E302 rfl rfl (by decide) rfl (Or.inr ⟨rfl, rfl, rfl⟩) ?_
  have E303 : mb_E mbR155 148 := mb_E_set (k := 10) (v := 147) E302 (by decide : 137 < 148) (by decide)
  change mm_W _ _ _ _ _ (mb 148 mbR155 (mz_up (mz_up gB 0 0 (-1)) 81 2 (-1)) so L 7654) _
  refine mm_g 1 (pc1 := 133) (lo1 := [some (.ref 137)]) (st1 := [.ref 137]) (H1 := (mb 148 mbR155 (mz_up (mz_up gB 0 0 (-1)) 81 2 (-1)) so L 7654)) rfl ?_
  refine mz_bip (c := 16) rfl (by decide) ?_
  refine mb_nai (sl2 := 7670) (c := 16) E303 rfl (by decide) (by decide) (by decide) rfl rfl (fun j => ((mz_up_ne (fun h => absurd h.1 (by decide))).trans ((mz_up_ne (fun h => absurd h.1 (by decide))).trans (hB 148 j (by decide))))) ?_
  have E304 := mb_E_up E303
  refine mb_pR E304 rfl rfl (by decide) rfl (Or.inr ⟨rfl, rfl, rfl⟩) ?_
  have E305 : mb_E mbR156 149 := mb_E_set (k := 11) (v := 148) E304 (by decide : 137 < 149) (by decide)
  change mm_W _ _ _ _ _ (mb 149 mbR156 (mz_up (mz_up gB 0 0 (-1)) 81 2 (-1)) so L 7670) _
  refine mm_g 1 (pc1 := 141) (lo1 := [some (.ref 137)]) (st1 := [.ref 137]) (H1 := (mb 149 mbR156 (mz_up (mz_up gB 0 0 (-1)) 81 2 (-1)) so L 7670)) rfl ?_
  refine mz_sip (c := 1400) rfl (by decide) ?_
  refine mb_nai (sl2 := 9070) (c := 1400) E305 rfl (by decide) (by decide) (by decide) rfl rfl (fun j => ((mz_up_ne (fun h => absurd h.1 (by decide))).trans ((mz_up_ne (fun h => absurd h.1 (by decide))).trans (hB 149 j (by decide))))) ?_
  have E306 := mb_E_up E305
  refine mb_pR E306 rfl rfl (by decide) rfl (Or.inr ⟨rfl, rfl, rfl⟩) ?_
  have E307 : mb_E mbR157 150 := mb_E_set (k := 12) (v := 149) E306 (by decide : 137 < 150) (by decide)
  change mm_W _ _ _ _ _ (mb 150 mbR157 (mz_up (mz_up gB 0 0 (-1)) 81 2 (-1)) so L 9070) _
  refine mm_g 2 (pc1 := 151) (lo1 := [some (.ref 137)]) (st1 := [.int (Int32.ofInt 3), .ref 137]) (H1 := (mb 150 mbR157 (mz_up (mz_up gB 0 0 (-1)) 81 2 (-1)) so L 9070)) rfl ?_
  refine mb_nai (sl2 := 9073) (c := 3) E307 rfl (by decide) (by decide) (by decide) rfl rfl (fun j => ((mz_up_ne (fun h => absurd h.1 (by decide))).trans ((mz_up_ne (fun h => absurd h.1 (by decide))).trans (hB 150 j (by decide))))) ?_
  have E308 := mb_E_up E307
  refine mb_pR E308 rfl rfl (by decide) rfl (Or.inr ⟨rfl, rfl, rfl⟩) ?_
  have E309 : mb_E mbR158 151 := mb_E_set (k := 13) (v := 150) E308 (by decide : 137 < 151) (by decide)
  change mm_W _ _ _ _ _ (mb 151 mbR158 (mz_up (mz_up gB 0 0 (-1)) 81 2 (-1)) so L 9073) _
  refine mm_g 1 (pc1 := 157) (lo1 := [some (.ref 137)]) (st1 := [.ref 137]) (H1 := (mb 151 mbR158 (mz_up (mz_up gB 0 0 (-1)) 81 2 (-1)) so L 9073)) rfl ?_
  refine mz_sip (c := 700) rfl (by decide) ?_
  refine mb_nai (sl2 := 9773) (c := 700) E309 rfl (by decide) (by decide) (by decide) rfl rfl (fun j => ((mz_up_ne (fun h => absurd h.1 (by decide))).trans ((mz_up_ne (fun h => absurd h.1 (by decide))).trans (hB 151 j (by decide))))) ?_
  have E310 := mb_E_up E309
  refine mb_pR E310 rfl rfl (by decide) rfl (Or.inr ⟨rfl, rfl, rfl⟩) ?_
  have E311 : mb_E mbR159 152 := mb_E_set (k := 14) (v := 151) E310 (by decide : 137 < 152) (by decide)
  change mm_W _ _ _ _ _ (mb 152 mbR159 (mz_up (mz_up gB 0 0 (-1)) 81 2 (-1)) so L 9773) _
  refine mm_g 2 (pc1 := 167) (lo1 := [some (.ref 137)]) (st1 := [.int (Int32.ofInt (-1)), .ref 137]) (H1 := (mb 152 mbR159 (mz_up (mz_up gB 0 0 (-1)) 81 2 (-1)) so L 9773)) rfl ?_
  refine mb_pI rfl rfl rfl rfl ?_
  refine mm_g 1 (pc1 := 171) (lo1 := [some (.ref 137)]) (st1 := [.ref 137]) (H1 := (mb 152 mbR159 (mz_up (mz_up (mz_up gB 0 0 (-1)) 81 2 (-1)) 137 24 (-1)) so L 9773)) rfl ?_
  refine mz_bip (c := 6) rfl (by decide) ?_
  refine mb_nai (sl2 := 9779) (c := 6) E311 rfl (by decide) (by decide) (by decide) rfl rfl (fun j => ((mz_up_ne (fun h => absurd h.1 (by decide))).trans ((mz_up_ne (fun h => absurd h.1 (by decide))).trans ((mz_up_ne (fun h => absurd h.1 (by decide))).trans (hB 152 j (by decide)))))) ?_
  have E312 := mb_E_up E311
  refine mb_pR E312 rfl rfl (by decide) rfl (Or.inr ⟨rfl, rfl, rfl⟩) ?_
  have E313 : mb_E mbR160 153 := mb_E_set (k := 25) (v := 152) E312 (by decide : 137 < 153) (by decide)
  change mm_W _ _ _ _ _ (mb 153 mbR160 (mz_up (mz_up (mz_up gB 0 0 (-1)) 81 2 (-1)) 137 24 (-1)) so L 9779) _
  refine mm_g 1 (pc1 := 179) (lo1 := [some (.ref 137)]) (st1 := [.ref 137]) (H1 := (mb 153 mbR160 (mz_up (mz_up (mz_up gB 0 0 (-1)) 81 2 (-1)) 137 24 (-1)) so L 9779)) rfl ?_
  refine mz_bip (c := 6) rfl (by decide) ?_
  refine mb_nai (sl2 := 9785) (c := 6) E313 rfl (by decide) (by decide) (by decide) rfl rfl (fun j => ((mz_up_ne (fun h => absurd h.1 (by decide))).trans ((mz_up_ne (fun h => absurd h.1 (by decide))).trans ((mz_up_ne (fun h => absurd h.1 (by decide))).trans (hB 153 j (by decide)))))) ?_
  have E314 := mb_E_up E313
  refine mb_pR E314 rfl rfl (by decide) rfl (Or.inr ⟨rfl, rfl, rfl⟩) ?_
  have E315 : mb_E mbR161 154 := mb_E_set (k := 26) (v := 153) E314 (by decide : 137 < 154) (by decide)
  change mm_W _ _ _ _ _ (mb 154 mbR161 (mz_up (mz_up (mz_up gB 0 0 (-1)) 81 2 (-1)) 137 24 (-1)) so L 9785) _
  refine mm_g 1 (pc1 := 187) (lo1 := [some (.ref 137)]) (st1 := [.ref 137]) (H1 := (mb 154 mbR161 (mz_up (mz_up (mz_up gB 0 0 (-1)) 81 2 (-1)) 137 24 (-1)) so L 9785)) rfl ?_
  refine mz_bip (c := 6) rfl (by decide) ?_
  refine mb_nai (sl2 := 9791) (c := 6) E315 rfl (by decide) (by decide) (by decide) rfl rfl (fun j => ((mz_up_ne (fun h => absurd h.1 (by decide))).trans ((mz_up_ne (fun h => absurd h.1 (by decide))).trans ((mz_up_ne (fun h => absurd h.1 (by decide))).trans (hB 154 j (by decide)))))) ?_
  have E316 := mb_E_up E315
  refine mb_pR E316 rfl rfl (by decide) rfl (Or.inr ⟨rfl, rfl, rfl⟩) ?_
  have E317 : mb_E mbR162 155 := mb_E_set (k := 27) (v := 154) E316 (by decide : 137 < 155) (by decide)
  change mm_W _ _ _ _ _ (mb 155 mbR162 (mz_up (mz_up (mz_up gB 0 0 (-1)) 81 2 (-1)) 137 24 (-1)) so L 9791) _
  refine mm_g 1 (pc1 := 195) (lo1 := [some (.ref 137)]) (st1 := [.ref 137]) (H1 := (mb 155 mbR162 (mz_up (mz_up (mz_up gB 0 0 (-1)) 81 2 (-1)) 137 24 (-1)) so L 9791)) rfl ?_
  refine mz_bip (c := 6) rfl (by decide) ?_
  refine mb_nai (sl2 := 9797) (c := 6) E317 rfl (by decide) (by decide) (by decide) rfl rfl (fun j => ((mz_up_ne (fun h => absurd h.1 (by decide))).trans ((mz_up_ne (fun h => absurd h.1 (by decide))).trans ((mz_up_ne (fun h => absurd h.1 (by decide))).trans (hB 155 j (by decide)))))) ?_
  have E318 := mb_E_up E317
  refine mb_pR E318 rfl rfl (by decide) rfl (Or.inr ⟨rfl, rfl, rfl⟩) ?_
  have E319 : mb_E mbR163 156 := mb_E_set (k := 28) (v := 155) E318 (by decide : 137 < 156) (by decide)
  change mm_W _ _ _ _ _ (mb 156 mbR163 (mz_up (mz_up (mz_up gB 0 0 (-1)) 81 2 (-1)) 137 24 (-1)) so L 9797) _
  refine mm_g 1 (pc1 := 203) (lo1 := [some (.ref 137)]) (st1 := [.ref 137]) (H1 := (mb 156 mbR163 (mz_up (mz_up (mz_up gB 0 0 (-1)) 81 2 (-1)) 137 24 (-1)) so L 9797)) rfl ?_
  refine mz_sip (c := 1000) rfl (by decide) ?_
  refine mb_nai (sl2 := 10797) (c := 1000) E319 rfl (by decide) (by decide) (by decide) rfl rfl (fun j => ((mz_up_ne (fun h => absurd h.1 (by decide))).trans ((mz_up_ne (fun h => absurd h.1 (by decide))).trans ((mz_up_ne (fun h => absurd h.1 (by decide))).trans (hB 156 j (by decide)))))) ?_
  have E320 := mb_E_up E319
  refine mb_pR E320 rfl rfl (by decide) rfl (Or.inr ⟨rfl, rfl, rfl⟩) ?_
  have E321 : mb_E mbR164 157 := mb_E_set (k := 29) (v := 156) E320 (by decide : 137 < 157) (by decide)
  change mm_W _ _ _ _ _ (mb 157 mbR164 (mz_up (mz_up (mz_up gB 0 0 (-1)) 81 2 (-1)) 137 24 (-1)) so L 10797) _
  refine mm_g 1 (pc1 := 212) (lo1 := [some (.ref 137)]) (st1 := [.ref 137]) (H1 := (mb 157 mbR164 (mz_up (mz_up (mz_up gB 0 0 (-1)) 81 2 (-1)) 137 24 (-1)) so L 10797)) rfl ?_
  refine mz_bip (c := 16) rfl (by decide) ?_
  refine mb_nai (sl2 := 10813) (c := 16) E321 rfl (by decide) (by decide) (by decide) rfl rfl (fun j => ((mz_up_ne (fun h => absurd h.1 (by decide))).trans ((mz_up_ne (fun h => absurd h.1 (by decide))).trans ((mz_up_ne (fun h => absurd h.1 (by decide))).trans (hB 157 j (by decide)))))) ?_
  have E322 := mb_E_up E321
  refine mb_pR E322 rfl rfl (by decide) rfl (Or.inr ⟨rfl, rfl, rfl⟩) ?_
  have E323 : mb_E mbR165 158 := mb_E_set (k := 33) (v := 157) E322 (by decide : 137 < 158) (by decide)
  change mm_W _ _ _ _ _ (mb 158 mbR165 (mz_up (mz_up (mz_up gB 0 0 (-1)) 81 2 (-1)) 137 24 (-1)) so L 10813) _
  refine mm_g 1 (pc1 := 220) (lo1 := [some (.ref 137)]) (st1 := [.ref 137]) (H1 := (mb 158 mbR165 (mz_up (mz_up (mz_up gB 0 0 (-1)) 81 2 (-1)) 137 24 (-1)) so L 10813)) rfl ?_
  refine mz_bip (c := 16) rfl (by decide) ?_
  refine mb_nai (sl2 := 10829) (c := 16) E323 rfl (by decide) (by decide) (by decide) rfl rfl (fun j => ((mz_up_ne (fun h => absurd h.1 (by decide))).trans ((mz_up_ne (fun h => absurd h.1 (by decide))).trans ((mz_up_ne (fun h => absurd h.1 (by decide))).trans (hB 158 j (by decide)))))) ?_
  have E324 := mb_E_up E323
  refine mb_pR E324 rfl rfl (by decide) rfl (Or.inr ⟨rfl, rfl, rfl⟩) ?_
  have E325 : mb_E mbR166 159 := mb_E_set (k := 34) (v := 158) E324 (by decide : 137 < 159) (by decide)
  change mm_W _ _ _ _ _ (mb 159 mbR166 (mz_up (mz_up (mz_up gB 0 0 (-1)) 81 2 (-1)) 137 24 (-1)) so L 10829) _
  refine mm_g 1 (pc1 := 228) (lo1 := [some (.ref 137)]) (st1 := [.ref 137]) (H1 := (mb 159 mbR166 (mz_up (mz_up (mz_up gB 0 0 (-1)) 81 2 (-1)) 137 24 (-1)) so L 10829)) rfl ?_
  refine mz_sip (c := 289) rfl (by decide) ?_
  refine mb_nai (sl2 := 11118) (c := 289) E325 rfl (by decide) (by decide) (by decide) rfl rfl (fun j => ((mz_up_ne (fun h => absurd h.1 (by decide))).trans ((mz_up_ne (fun h => absurd h.1 (by decide))).trans ((mz_up_ne (fun h => absurd h.1 (by decide))).trans (hB 159 j (by decide)))))) ?_
  have E326 := mb_E_up E325
  refine mb_pR E326 rfl rfl (by decide) rfl (Or.inr ⟨rfl, rfl, rfl⟩) ?_
  have E327 : mb_E mbR167 160 := mb_E_set (k := 35) (v := 159) E326 (by decide : 137 < 160) (by decide)
  change mm_W _ _ _ _ _ (mb 160 mbR167 (mz_up (mz_up (mz_up gB 0 0 (-1)) 81 2 (-1)) 137 24 (-1)) so L 11118) _
  refine mm_g 1 (pc1 := 237) (lo1 := [some (.ref 137)]) (st1 := [.ref 137]) (H1 := (mb 160 mbR167 (mz_up (mz_up (mz_up gB 0 0 (-1)) 81 2 (-1)) 137 24 (-1)) so L 11118)) rfl ?_
  refine mz_bip (c := 7) rfl (by decide) ?_
  refine mb_nai (sl2 := 11125) (c := 7) E327 rfl (by decide) (by decide) (by decide) rfl rfl (fun j => ((mz_up_ne (fun h => absurd h.1 (by decide))).trans ((mz_up_ne (fun h => absurd h.1 (by decide))).trans ((mz_up_ne (fun h => absurd h.1 (by decide))).trans (hB 160 j (by decide)))))) ?_
  have E328 := mb_E_up E327
  refine mb_pR E328 rfl rfl (by decide) rfl (Or.inr ⟨rfl, rfl, rfl⟩) ?_
  have E329 : mb_E mbR168 161 := mb_E_set (k := 38) (v := 160) E328 (by decide : 137 < 161) (by decide)
  change mm_W _ _ _ _ _ (mb 161 mbR168 (mz_up (mz_up (mz_up gB 0 0 (-1)) 81 2 (-1)) 137 24 (-1)) so L 11125) _
  refine mm_g 1 (pc1 := 245) (lo1 := [some (.ref 137)]) (st1 := [.ref 137]) (H1 := (mb 161 mbR168 (mz_up (mz_up (mz_up gB 0 0 (-1)) 81 2 (-1)) 137 24 (-1)) so L 11125)) rfl ?_
  refine mz_bip (c := 64) rfl (by decide) ?_
  refine mb_nai (sl2 := 11189) (c := 64) E329 rfl (by decide) (by decide) (by decide) rfl rfl (fun j => ((mz_up_ne (fun h => absurd h.1 (by decide))).trans ((mz_up_ne (fun h => absurd h.1 (by decide))).trans ((mz_up_ne (fun h => absurd h.1 (by decide))).trans (hB 161 j (by decide)))))) ?_
  have E330 := mb_E_up E329
  refine mb_pR E330 rfl rfl (by decide) rfl (Or.inr ⟨rfl, rfl, rfl⟩) ?_
  have E331 : mb_E mbR169 162 := mb_E_set (k := 39) (v := 161) E330 (by decide : 137 < 162) (by decide)
  change mm_W _ _ _ _ _ (mb 162 mbR169 (mz_up (mz_up (mz_up gB 0 0 (-1)) 81 2 (-1)) 137 24 (-1)) so L 11189) _
  refine mm_g 1 (pc1 := 253) (lo1 := [some (.ref 137)]) (st1 := [.ref 137]) (H1 := (mb 162 mbR169 (mz_up (mz_up (mz_up gB 0 0 (-1)) 81 2 (-1)) 137 24 (-1)) so L 11189)) rfl ?_
  refine mz_bip (c := 25) rfl (by decide) ?_
  refine mb_nai (sl2 := 11214) (c := 25) E331 rfl (by decide) (by decide) (by decide) rfl rfl (fun j => ((mz_up_ne (fun h => absurd h.1 (by decide))).trans ((mz_up_ne (fun h => absurd h.1 (by decide))).trans ((mz_up_ne (fun h => absurd h.1 (by decide))).trans (hB 162 j (by decide)))))) ?_
  have E332 := mb_E_up E331
  refine mb_pR E332 rfl rfl (by decide) rfl (Or.inr ⟨rfl, rfl, rfl⟩) ?_
  have E333 : mb_E mbR170 163 := mb_E_set (k := 40) (v := 162) E332 (by decide : 137 < 163) (by decide)
  change mm_W _ _ _ _ _ (mb 163 mbR170 (mz_up (mz_up (mz_up gB 0 0 (-1)) 81 2 (-1)) 137 24 (-1)) so L 11214) _
  refine mm_g 1 (pc1 := 261) (lo1 := [some (.ref 137)]) (st1 := [.ref 137]) (H1 := (mb 163 mbR170 (mz_up (mz_up (mz_up gB 0 0 (-1)) 81 2 (-1)) 137 24 (-1)) so L 11214)) rfl ?_
  refine mz_sip (c := 2048) rfl (by decide) ?_
  refine mb_nai (sl2 := 13262) (c := 2048) E333 rfl (by decide) (by decide) (by decide) rfl rfl (fun j => ((mz_up_ne (fun h => absurd h.1 (by decide))).trans ((mz_up_ne (fun h => absurd h.1 (by decide))).trans ((mz_up_ne (fun h => absurd h.1 (by decide))).trans (hB 163 j (by decide)))))) ?_
  have E334 := mb_E_up E333
  refine mb_pR E334 rfl rfl (by decide) rfl (Or.inr ⟨rfl, rfl, rfl⟩) ?_
  have E335 : mb_E mbR171 164 := mb_E_set (k := 41) (v := 163) E334 (by decide : 137 < 164) (by decide)
  change mm_W _ _ _ _ _ (mb 164 mbR171 (mz_up (mz_up (mz_up gB 0 0 (-1)) 81 2 (-1)) 137 24 (-1)) so L 13262) _
  refine mm_g 1 (pc1 := 270) (lo1 := [some (.ref 137)]) (st1 := [.ref 137]) (H1 := (mb 164 mbR171 (mz_up (mz_up (mz_up gB 0 0 (-1)) 81 2 (-1)) 137 24 (-1)) so L 13262)) rfl ?_
  refine mz_bip (c := 36) rfl (by decide) ?_
  refine mb_nai (sl2 := 13298) (c := 36) E335 rfl (by decide) (by decide) (by decide) rfl rfl (fun j => ((mz_up_ne (fun h => absurd h.1 (by decide))).trans ((mz_up_ne (fun h => absurd h.1 (by decide))).trans ((mz_up_ne (fun h => absurd h.1 (by decide))).trans (hB 164 j (by decide)))))) ?_
  have E336 := mb_E_up E335
  refine mb_pR E336 rfl rfl (by decide) rfl (Or.inr ⟨rfl, rfl, rfl⟩) ?_
  have E337 : mb_E mbR172 165 := mb_E_set (k := 42) (v := 164) E336 (by decide : 137 < 165) (by decide)
  change mm_W _ _ _ _ _ (mb 165 mbR172 (mz_up (mz_up (mz_up gB 0 0 (-1)) 81 2 (-1)) 137 24 (-1)) so L 13298) _
  refine mm_g 1 (pc1 := 278) (lo1 := [some (.ref 137)]) (st1 := [.ref 137]) (H1 := (mb 165 mbR172 (mz_up (mz_up (mz_up gB 0 0 (-1)) 81 2 (-1)) 137 24 (-1)) so L 13298)) rfl ?_
  refine mz_bip (c := 64) rfl (by decide) ?_
  refine mb_nai (sl2 := 13362) (c := 64) E337 rfl (by decide) (by decide) (by decide) rfl rfl (fun j => ((mz_up_ne (fun h => absurd h.1 (by decide))).trans ((mz_up_ne (fun h => absurd h.1 (by decide))).trans ((mz_up_ne (fun h => absurd h.1 (by decide))).trans (hB 165 j (by decide)))))) ?_
  have E338 := mb_E_up E337
  refine mb_pR E338 rfl rfl (by decide) rfl (Or.inr ⟨rfl, rfl, rfl⟩) ?_
  have E339 : mb_E mbR173 166 := mb_E_set (k := 43) (v := 165) E338 (by decide : 137 < 166) (by decide)
  change mm_W _ _ _ _ _ (mb 166 mbR173 (mz_up (mz_up (mz_up gB 0 0 (-1)) 81 2 (-1)) 137 24 (-1)) so L 13362) _
  refine mm_g 1 (pc1 := 286) (lo1 := [some (.ref 137)]) (st1 := [.ref 137]) (H1 := (mb 166 mbR173 (mz_up (mz_up (mz_up gB 0 0 (-1)) 81 2 (-1)) 137 24 (-1)) so L 13362)) rfl ?_
  refine mz_bip (c := 8) rfl (by decide) ?_
  refine mb_nai (sl2 := 13370) (c := 8) E339 rfl (by decide) (by decide) (by decide) rfl rfl (fun j => ((mz_up_ne (fun h => absurd h.1 (by decide))).trans ((mz_up_ne (fun h => absurd h.1 (by decide))).trans ((mz_up_ne (fun h => absurd h.1 (by decide))).trans (hB 166 j (by decide)))))) ?_
  have E340 := mb_E_up E339
  refine mb_pR E340 rfl rfl (by decide) rfl (Or.inr ⟨rfl, rfl, rfl⟩) ?_
  have E341 : mb_E mbR174 167 := mb_E_set (k := 44) (v := 166) E340 (by decide : 137 < 167) (by decide)
  change mm_W _ _ _ _ _ (mb 167 mbR174 (mz_up (mz_up (mz_up gB 0 0 (-1)) 81 2 (-1)) 137 24 (-1)) so L 13370) _
  refine mm_g 1 (pc1 := 294) (lo1 := [some (.ref 137)]) (st1 := [.ref 137]) (H1 := (mb 167 mbR174 (mz_up (mz_up (mz_up gB 0 0 (-1)) 81 2 (-1)) 137 24 (-1)) so L 13370)) rfl ?_
  refine mz_bip (c := 8) rfl (by decide) ?_
  refine mb_nai (sl2 := 13378) (c := 8) E341 rfl (by decide) (by decide) (by decide) rfl rfl (fun j => ((mz_up_ne (fun h => absurd h.1 (by decide))).trans ((mz_up_ne (fun h => absurd h.1 (by decide))).trans ((mz_up_ne (fun h => absurd h.1 (by decide))).trans (hB 167 j (by decide)))))) ?_
  have E342 := mb_E_up E341
  refine mb_pR E342 rfl rfl (by decide) rfl (Or.inr ⟨rfl, rfl, rfl⟩) ?_
  have E343 : mb_E mbR175 168 := mb_E_set (k := 45) (v := 167) E342 (by decide : 137 < 168) (by decide)
  change mm_W _ _ _ _ _ (mb 168 mbR175 (mz_up (mz_up (mz_up gB 0 0 (-1)) 81 2 (-1)) 137 24 (-1)) so L 13378) _
  refine mm_g 1 (pc1 := 302) (lo1 := [some (.ref 137)]) (st1 := [.ref 137]) (H1 := (mb 168 mbR175 (mz_up (mz_up (mz_up gB 0 0 (-1)) 81 2 (-1)) 137 24 (-1)) so L 13378)) rfl ?_
  refine mz_bip (c := 8) rfl (by decide) ?_
  refine mb_nai (sl2 := 13386) (c := 8) E343 rfl (by decide) (by decide) (by decide) rfl rfl (fun j => ((mz_up_ne (fun h => absurd h.1 (by decide))).trans ((mz_up_ne (fun h => absurd h.1 (by decide))).trans ((mz_up_ne (fun h => absurd h.1 (by decide))).trans (hB 168 j (by decide)))))) ?_
  have E344 := mb_E_up E343
  refine mb_pR E344 rfl rfl (by decide) rfl (Or.inr ⟨rfl, rfl, rfl⟩) ?_
  have E345 : mb_E mbR176 169 := mb_E_set (k := 46) (v := 168) E344 (by decide : 137 < 169) (by decide)
  change mm_W _ _ _ _ _ (mb 169 mbR176 (mz_up (mz_up (mz_up gB 0 0 (-1)) 81 2 (-1)) 137 24 (-1)) so L 13386) _
  refine mm_g 1 (pc1 := 310) (lo1 := [some (.ref 137)]) (st1 := [.ref 137]) (H1 := (mb 169 mbR176 (mz_up (mz_up (mz_up gB 0 0 (-1)) 81 2 (-1)) 137 24 (-1)) so L 13386)) rfl ?_
  refine mz_bip (c := 25) rfl (by decide) ?_
  refine mb_nai (sl2 := 13411) (c := 25) E345 rfl (by decide) (by decide) (by decide) rfl rfl (fun j => ((mz_up_ne (fun h => absurd h.1 (by decide))).trans ((mz_up_ne (fun h => absurd h.1 (by decide))).trans ((mz_up_ne (fun h => absurd h.1 (by decide))).trans (hB 169 j (by decide)))))) ?_
  have E346 := mb_E_up E345
  refine mb_pR E346 rfl rfl (by decide) rfl (Or.inr ⟨rfl, rfl, rfl⟩) ?_
  have E347 : mb_E mbR177 170 := mb_E_set (k := 47) (v := 169) E346 (by decide : 137 < 170) (by decide)
  change mm_W _ _ _ _ _ (mb 170 mbR177 (mz_up (mz_up (mz_up gB 0 0 (-1)) 81 2 (-1)) 137 24 (-1)) so L 13411) _
  refine mm_g 1 (pc1 := 318) (lo1 := [some (.ref 137)]) (st1 := [.ref 137]) (H1 := (mb 170 mbR177 (mz_up (mz_up (mz_up gB 0 0 (-1)) 81 2 (-1)) 137 24 (-1)) so L 13411)) rfl ?_
  refine mz_bip (c := 60) rfl (by decide) ?_
  refine mb_nai (sl2 := 13471) (c := 60) E347 rfl (by decide) (by decide) (by decide) rfl rfl (fun j => ((mz_up_ne (fun h => absurd h.1 (by decide))).trans ((mz_up_ne (fun h => absurd h.1 (by decide))).trans ((mz_up_ne (fun h => absurd h.1 (by decide))).trans (hB 170 j (by decide)))))) ?_
  have E348 := mb_E_up E347
  refine mb_pR E348 rfl rfl (by decide) rfl (Or.inr ⟨rfl, rfl, rfl⟩) ?_
  have E349 : mb_E mbR178 171 := mb_E_set (k := 48) (v := 170) E348 (by decide : 137 < 171) (by decide)
  change mm_W _ _ _ _ _ (mb 171 mbR178 (mz_up (mz_up (mz_up gB 0 0 (-1)) 81 2 (-1)) 137 24 (-1)) so L 13471) _
  refine mm_g 1 (pc1 := 326) (lo1 := [some (.ref 137)]) (st1 := [.ref 137]) (H1 := (mb 171 mbR178 (mz_up (mz_up (mz_up gB 0 0 (-1)) 81 2 (-1)) 137 24 (-1)) so L 13471)) rfl ?_
  refine mz_bip (c := 6) rfl (by decide) ?_
  refine mb_nai (sl2 := 13477) (c := 6) E349 rfl (by decide) (by decide) (by decide) rfl rfl (fun j => ((mz_up_ne (fun h => absurd h.1 (by decide))).trans ((mz_up_ne (fun h => absurd h.1 (by decide))).trans ((mz_up_ne (fun h => absurd h.1 (by decide))).trans (hB 171 j (by decide)))))) ?_
  have E350 := mb_E_up E349
  refine mb_pR E350 rfl rfl (by decide) rfl (Or.inr ⟨rfl, rfl, rfl⟩) ?_
  have E351 : mb_E mbR179 172 := mb_E_set (k := 49) (v := 171) E350 (by decide : 137 < 172) (by decide)
  change mm_W _ _ _ _ _ (mb 172 mbR179 (mz_up (mz_up (mz_up gB 0 0 (-1)) 81 2 (-1)) 137 24 (-1)) so L 13477) _
  refine mm_g 1 (pc1 := 334) (lo1 := [some (.ref 137)]) (st1 := [.ref 137]) (H1 := (mb 172 mbR179 (mz_up (mz_up (mz_up gB 0 0 (-1)) 81 2 (-1)) 137 24 (-1)) so L 13477)) rfl ?_
  refine mz_bip (c := 8) rfl (by decide) ?_
  refine mb_nai (sl2 := 13485) (c := 8) E351 rfl (by decide) (by decide) (by decide) rfl rfl (fun j => ((mz_up_ne (fun h => absurd h.1 (by decide))).trans ((mz_up_ne (fun h => absurd h.1 (by decide))).trans ((mz_up_ne (fun h => absurd h.1 (by decide))).trans (hB 172 j (by decide)))))) ?_
  have E352 := mb_E_up E351
  refine mb_pR E352 rfl rfl (by decide) rfl (Or.inr ⟨rfl, rfl, rfl⟩) ?_
  have E353 : mb_E mbR180 173 := mb_E_set (k := 51) (v := 172) E352 (by decide : 137 < 173) (by decide)
  change mm_W _ _ _ _ _ (mb 173 mbR180 (mz_up (mz_up (mz_up gB 0 0 (-1)) 81 2 (-1)) 137 24 (-1)) so L 13485) _
  refine mm_g 1 (pc1 := 342) (lo1 := [some (.ref 137)]) (st1 := [.ref 137]) (H1 := (mb 173 mbR180 (mz_up (mz_up (mz_up gB 0 0 (-1)) 81 2 (-1)) 137 24 (-1)) so L 13485)) rfl ?_
  refine mz_bip (c := 25) rfl (by decide) ?_
  refine mb_nai (sl2 := 13510) (c := 25) E353 rfl (by decide) (by decide) (by decide) rfl rfl (fun j => ((mz_up_ne (fun h => absurd h.1 (by decide))).trans ((mz_up_ne (fun h => absurd h.1 (by decide))).trans ((mz_up_ne (fun h => absurd h.1 (by decide))).trans (hB 173 j (by decide)))))) ?_
  have E354 := mb_E_up E353
  refine mb_pR E354 rfl rfl (by decide) rfl (Or.inr ⟨rfl, rfl, rfl⟩) ?_
  have E355 : mb_E mbR181 174 := mb_E_set (k := 56) (v := 173) E354 (by decide : 137 < 174) (by decide)
  change mm_W _ _ _ _ _ (mb 174 mbR181 (mz_up (mz_up (mz_up gB 0 0 (-1)) 81 2 (-1)) 137 24 (-1)) so L 13510) _
  refine mm_g 1 (pc1 := 350) (lo1 := [some (.ref 137)]) (st1 := [.ref 137]) (H1 := (mb 174 mbR181 (mz_up (mz_up (mz_up gB 0 0 (-1)) 81 2 (-1)) 137 24 (-1)) so L 13510)) rfl ?_
  refine mz_sip (c := 1000) rfl (by decide) ?_
  refine mb_nai (sl2 := 14510) (c := 1000) E355 rfl (by decide) (by decide) (by decide) rfl rfl (fun j => ((mz_up_ne (fun h => absurd h.1 (by decide))).trans ((mz_up_ne (fun h => absurd h.1 (by decide))).trans ((mz_up_ne (fun h => absurd h.1 (by decide))).trans (hB 174 j (by decide)))))) ?_
  have E356 := mb_E_up E355
  refine mb_pR E356 rfl rfl (by decide) rfl (Or.inr ⟨rfl, rfl, rfl⟩) ?_
  have E357 : mb_E mbR182 175 := mb_E_set (k := 57) (v := 174) E356 (by decide : 137 < 175) (by decide)
  change mm_W _ _ _ _ _ (mb 175 mbR182 (mz_up (mz_up (mz_up gB 0 0 (-1)) 81 2 (-1)) 137 24 (-1)) so L 14510) _
  refine mm_g 1 (pc1 := 359) (lo1 := [some (.ref 137)]) (st1 := [.ref 137]) (H1 := (mb 175 mbR182 (mz_up (mz_up (mz_up gB 0 0 (-1)) 81 2 (-1)) 137 24 (-1)) so L 14510)) rfl ?_
  refine mz_bip (c := 8) rfl (by decide) ?_
  refine mb_nai (sl2 := 14518) (c := 8) E357 rfl (by decide) (by decide) (by decide) rfl rfl (fun j => ((mz_up_ne (fun h => absurd h.1 (by decide))).trans ((mz_up_ne (fun h => absurd h.1 (by decide))).trans ((mz_up_ne (fun h => absurd h.1 (by decide))).trans (hB 175 j (by decide)))))) ?_
  have E358 := mb_E_up E357
  refine mb_pR E358 rfl rfl (by decide) rfl (Or.inr ⟨rfl, rfl, rfl⟩) ?_
  have E359 : mb_E mbR183 176 := mb_E_set (k := 58) (v := 175) E358 (by decide : 137 < 176) (by decide)
  change mm_W _ _ _ _ _ (mb 176 mbR183 (mz_up (mz_up (mz_up gB 0 0 (-1)) 81 2 (-1)) 137 24 (-1)) so L 14518) _
  refine mm_g 1 (pc1 := 367) (lo1 := [some (.ref 137)]) (st1 := [.ref 137]) (H1 := (mb 176 mbR183 (mz_up (mz_up (mz_up gB 0 0 (-1)) 81 2 (-1)) 137 24 (-1)) so L 14518)) rfl ?_
  refine mz_bip (c := 8) rfl (by decide) ?_
  refine mb_nai (sl2 := 14526) (c := 8) E359 rfl (by decide) (by decide) (by decide) rfl rfl (fun j => ((mz_up_ne (fun h => absurd h.1 (by decide))).trans ((mz_up_ne (fun h => absurd h.1 (by decide))).trans ((mz_up_ne (fun h => absurd h.1 (by decide))).trans (hB 176 j (by decide)))))) ?_
  have E360 := mb_E_up E359
  refine mb_pR E360 rfl rfl (by decide) rfl (Or.inr ⟨rfl, rfl, rfl⟩) ?_
  have E361 : mb_E mbR184 177 := mb_E_set (k := 59) (v := 176) E360 (by decide : 137 < 177) (by decide)
  change mm_W _ _ _ _ _ (mb 177 mbR184 (mz_up (mz_up (mz_up gB 0 0 (-1)) 81 2 (-1)) 137 24 (-1)) so L 14526) _
  refine mm_g 1 (pc1 := 375) (lo1 := [some (.ref 137)]) (st1 := [.ref 137]) (H1 := (mb 177 mbR184 (mz_up (mz_up (mz_up gB 0 0 (-1)) 81 2 (-1)) 137 24 (-1)) so L 14526)) rfl ?_
  refine mz_bip (c := 8) rfl (by decide) ?_
  refine mb_nai (sl2 := 14534) (c := 8) E361 rfl (by decide) (by decide) (by decide) rfl rfl (fun j => ((mz_up_ne (fun h => absurd h.1 (by decide))).trans ((mz_up_ne (fun h => absurd h.1 (by decide))).trans ((mz_up_ne (fun h => absurd h.1 (by decide))).trans (hB 177 j (by decide)))))) ?_
  have E362 := mb_E_up E361
  refine mb_pR E362 rfl rfl (by decide) rfl (Or.inr ⟨rfl, rfl, rfl⟩) ?_
  have E363 : mb_E mbR185 178 := mb_E_set (k := 60) (v := 177) E362 (by decide : 137 < 178) (by decide)
  change mm_W _ _ _ _ _ (mb 178 mbR185 (mz_up (mz_up (mz_up gB 0 0 (-1)) 81 2 (-1)) 137 24 (-1)) so L 14534) _
  refine mm_g 2 (pc1 := 384) (lo1 := [some (.ref 137)]) (st1 := [.int (Int32.ofInt 3), .ref 137]) (H1 := (mb 178 mbR185 (mz_up (mz_up (mz_up gB 0 0 (-1)) 81 2 (-1)) 137 24 (-1)) so L 14534)) rfl ?_
  refine mb_nai (sl2 := 14537) (c := 3) E363 rfl (by decide) (by decide) (by decide) rfl rfl (fun j => ((mz_up_ne (fun h => absurd h.1 (by decide))).trans ((mz_up_ne (fun h => absurd h.1 (by decide))).trans ((mz_up_ne (fun h => absurd h.1 (by decide))).trans (hB 178 j (by decide)))))) ?_
  have E364 := mb_E_up E363
  refine mb_pR E364 rfl rfl (by decide) rfl (Or.inr ⟨rfl, rfl, rfl⟩) ?_
  have E365 : mb_E mbR186 179 := mb_E_set (k := 61) (v := 178) E364 (by decide : 137 < 179) (by decide)
  change mm_W _ _ _ _ _ (mb 179 mbR186 (mz_up (mz_up (mz_up gB 0 0 (-1)) 81 2 (-1)) 137 24 (-1)) so L 14537) _
  refine mm_rt rfl rfl ⟨none, rfl, ?_⟩
  show mm_W d mmL_law 15 [some (.ref 5000), some (.ref 0), none, none, none, none, none] [.ref 137] (mb 179 mbR186 (mz_up (mz_up (mz_up gB 0 0 (-1)) 81 2 (-1)) 137 24 (-1)) so L 14537) _
  exact k E365
set_option maxHeartbeats 20000000 in
set_option maxRecDepth 100000 in
theorem mb_run2 {d : Nat} (hd : 40 ≤ d) {gB : mz_G} (hB : ∀ k j : Nat, k < 1000 → gB k j = 0) {so : Option Nat} {L : Nat} (E0 : mb_E mbR186 179) {Q : (Option Value ⊕ Nat) → mm_H → Prop} (k : mb_E mbR186 180 → mm_W d mmL_law 23 [some (.ref 5000), some (.ref 0), some (.ref 137), some (.ref 179), some (.int (Int32.ofInt 0)), none, none] [] (mb 180 mbR186 (mz_up (mz_up (mz_up gB 0 0 (-1)) 81 2 (-1)) 137 24 (-1)) so L 14538) Q) : mm_W d mmL_law 15 [some (.ref 5000), some (.ref 0), none, none, none, none, none] [.ref 137] (mb 179 mbR186 (mz_up (mz_up (mz_up gB 0 0 (-1)) 81 2 (-1)) 137 24 (-1)) so L 14537) Q := by
  refine mm_g 2 (pc1 := 17) (lo1 := [some (.ref 5000), some (.ref 0), some (.ref 137), none, none, none, none]) (st1 := [.int (Int32.ofInt 1)]) (H1 := (mb 179 mbR186 (mz_up (mz_up (mz_up gB 0 0 (-1)) 81 2 (-1)) 137 24 (-1)) so L 14537)) rfl ?_
  refine mb_nal (sl2 := 14538) (c := 1) E0 rfl (by decide) (by decide) (by decide) rfl rfl (fun j => ((mz_up_ne (fun h => absurd h.1 (by decide))).trans ((mz_up_ne (fun h => absurd h.1 (by decide))).trans ((mz_up_ne (fun h => absurd h.1 (by decide))).trans (hB 179 j (by decide)))))) ?_
  have E366 := mb_E_up E0
  refine mm_g 3 (pc1 := 23) (lo1 := [some (.ref 5000), some (.ref 0), some (.ref 137), some (.ref 179), some (.int (Int32.ofInt 0)), none, none]) (st1 := []) (H1 := (mb 180 mbR186 (mz_up (mz_up (mz_up gB 0 0 (-1)) 81 2 (-1)) 137 24 (-1)) so L 14538)) rfl ?_
  exact k E366
/-- the refs as the constructors leave them -/
def mbT : List (List (Nat × Nat)) := match mm_HRL with
  | r :: l => ((1, 1) :: (2, 41) :: r) :: l
  | [] => []
theorem mb_last : mb_eqv mbR186 mbT = true := by decide +kernel
theorem mb_HR (so : Option Nat) (k j : Nat) : mb_R so mbR186 k j = mm_HR 1 41 so k j := by
  unfold mb_R
  rw [mb_eqv_ok _ _ mb_last]
  match k, j with
  | 0, 0 => rfl
  | 0, 1 => rfl
  | 0, 2 => rfl
  | 0, j + 3 => rfl
  | k + 1, j => rfl
theorem mb_SHl : mm_SHL.length = 180 := by decide +kernel
theorem mb_end {so : Option Nat} {L : Nat} (g : mz_G) : mb 180 mbR186 g so L 14538 = mz_mk g (1, 41, so, L, fun _ _ => 0, 180, 14538) := by
  have e1 : mb_R so mbR186 = mm_HR 1 41 so := funext fun k => funext fun j => mb_HR so k j
  have e2 : mb_S 180 L = mm_SH L := funext fun q => by
    unfold mb_S
    by_cases h : q < 180 ∨ 1000 ≤ q
    · rw [if_pos h]
    · rw [if_neg h]
      unfold mm_SH
      rw [mm_at_get, List.getElem?_eq_none (by rw [mb_SHl]; omega)]
      show (999, 0) = if q = 5000 then _ else _
      rw [if_neg (by omega), if_neg (by omega), if_neg (by omega)]
  show (_, mb_R so mbR186, _, mb_S 180 L, _) = _
  rw [e1, e2]
  rfl
