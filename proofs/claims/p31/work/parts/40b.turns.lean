/-! THE LAW'S TURNS (wip/p2/tools/gen60.py) -/
set_option maxHeartbeats 4000000 in
set_option maxRecDepth 100000 in
theorem law_0 {d : Nat} (hd : 3 ≤ d) {so : Option Nat} {L : Nat} (hL : L ≤ 3072) {i : Int} (h0 : 0 ≤ i) (h6 : i + 6 ≤ L) {o5 o6 : Option Value} (h5 : mz_nl o5) (h6_ : mz_nl o6) {g : mz_G} {x : mm_X} (P : mz_Lq so L i g x) (T : RR x g) {Q : (Option Value ⊕ Nat) → mm_H → Prop} (kk : ∀ g1 x1 p5 p6, mz_nl p5 → mz_nl p6 → mz_Lq so L (i + 6) g1 x1 → RR x1 g1 → mm_W d mmL_law 1388 [some (.ref 5000), some (.ref 0), some (.ref 137), some (.ref 179), some (.int (Int32.ofInt i)), p5, p6] [] (mz_mk g1 x1) Q) : mm_W d mmL_law 188 [some (.ref 5000), some (.ref 0), some (.ref 137), some (.ref 179), some (.int (Int32.ofInt i)), o5, o6] [] (mz_mk g x) Q := by
  refine mm_g 4 (pc1 := 193) (lo1 := [some (.ref 5000), some (.ref 0), some (.ref 137), some (.ref 179), some (.int (Int32.ofInt i)), o5, o6]) (st1 := [.int (Int32.ofInt 1), .int (Int32.ofInt i), .ref 5000, .ref 0]) (H1 := mz_mk g x) rfl ?_
  refine mz_iadd rfl ?_
  refine mz_iaS (v := (g 5000 ((i + 1) : Int).toNat)) rfl (sh_5000 _) (by omega) (by have h9 := P.2.2.2.2.1; omega) (by have h9 := P.2.2.2.2.1; omega) rfl ?_
  refine mm_g 3 (pc1 := 199) (lo1 := [some (.ref 5000), some (.ref 0), some (.ref 137), some (.ref 179), some (.int (Int32.ofInt i)), o5, o6]) (st1 := [.int (Int32.ofInt 2), .int (Int32.ofInt i), .ref 5000, .int (Int32.ofInt (g 5000 ((i + 1) : Int).toNat)), .ref 0]) (H1 := mz_mk g x) rfl ?_
  refine mz_iadd rfl ?_
  refine mz_iaS (v := (g 5000 ((i + 2) : Int).toNat)) rfl (sh_5000 _) (by omega) (by have h9 := P.2.2.2.2.1; omega) (by have h9 := P.2.2.2.2.1; omega) rfl ?_
  refine mm_g 3 (pc1 := 205) (lo1 := [some (.ref 5000), some (.ref 0), some (.ref 137), some (.ref 179), some (.int (Int32.ofInt i)), o5, o6]) (st1 := [.int (Int32.ofInt 3), .int (Int32.ofInt i), .ref 5000, .int (Int32.ofInt (g 5000 ((i + 2) : Int).toNat)), .int (Int32.ofInt (g 5000 ((i + 1) : Int).toNat)), .ref 0]) (H1 := mz_mk g x) rfl ?_
  refine mz_iadd rfl ?_
  refine mz_iaS (v := (g 5000 ((i + 3) : Int).toNat)) rfl (sh_5000 _) (by omega) (by have h9 := P.2.2.2.2.1; omega) (by have h9 := P.2.2.2.2.1; omega) rfl ?_
  refine mm_g 3 (pc1 := 211) (lo1 := [some (.ref 5000), some (.ref 0), some (.ref 137), some (.ref 179), some (.int (Int32.ofInt i)), o5, o6]) (st1 := [.int (Int32.ofInt 4), .int (Int32.ofInt i), .ref 5000, .int (Int32.ofInt (g 5000 ((i + 3) : Int).toNat)), .int (Int32.ofInt (g 5000 ((i + 2) : Int).toNat)), .int (Int32.ofInt (g 5000 ((i + 1) : Int).toNat)), .ref 0]) (H1 := mz_mk g x) rfl ?_
  refine mz_iadd rfl ?_
  refine mz_iaS (v := (g 5000 ((i + 4) : Int).toNat)) rfl (sh_5000 _) (by omega) (by have h9 := P.2.2.2.2.1; omega) (by have h9 := P.2.2.2.2.1; omega) rfl ?_
  refine mm_g 3 (pc1 := 217) (lo1 := [some (.ref 5000), some (.ref 0), some (.ref 137), some (.ref 179), some (.int (Int32.ofInt i)), o5, o6]) (st1 := [.int (Int32.ofInt 5), .int (Int32.ofInt i), .ref 5000, .int (Int32.ofInt (g 5000 ((i + 4) : Int).toNat)), .int (Int32.ofInt (g 5000 ((i + 3) : Int).toNat)), .int (Int32.ofInt (g 5000 ((i + 2) : Int).toNat)), .int (Int32.ofInt (g 5000 ((i + 1) : Int).toNat)), .ref 0]) (H1 := mz_mk g x) rfl ?_
  refine mz_iadd rfl ?_
  refine mz_iaS (v := (g 5000 ((i + 5) : Int).toNat)) rfl (sh_5000 _) (by omega) (by have h9 := P.2.2.2.2.1; omega) (by have h9 := P.2.2.2.2.1; omega) rfl ?_
  refine mz_cv rfl mt_13_95 (by decide) rfl rfl (Nat.le_of_ble_eq_true rfl) (by omega) (f_X11_feed (by omega) P.2.1 P.1 (mz_rd P.1 (bd_5000 _)).1 (mz_rd P.1 (bd_5000 _)).2 (mz_rd P.1 (bd_5000 _)).1 (mz_rd P.1 (bd_5000 _)).2 (mz_rd P.1 (bd_5000 _)).1 (mz_rd P.1 (bd_5000 _)).2 (mz_rd P.1 (bd_5000 _)).1 (mz_rd P.1 (bd_5000 _)).2 (mz_rd P.1 (bd_5000 _)).1 (mz_rd P.1 (bd_5000 _)).2 (fun r1 g1 hI1 hf1 l_r1 u_r1 hp1_0 e1 => ⟨_, rfl, ?_⟩))
  have hS1 : ∀ k j : Nat, 137 ≤ k → g1 k j = g k j := fun k j hk => hf1 k j (nw_X11_feed_137 P.2.1 k j hk)
  have P1 := mz_Lq_c P hI1 hS1 (mz_xx_rf P.2.1)
  show mm_W d mmL_law 222 [some (.ref 5000), some (.ref 0), some (.ref 137), some (.ref 179), some (.int (Int32.ofInt i)), o5, o6] [.int (Int32.ofInt r1)] (mz_mk g1 x) Q
  refine mm_g 5 (pc1 := 228) (lo1 := [some (.ref 5000), some (.ref 0), some (.ref 137), some (.ref 179), some (.int (Int32.ofInt i)), o5, o6]) (st1 := [.int (Int32.ofInt 1), .int (Int32.ofInt i), .ref 5000, .ref 137]) (H1 := mz_mk g1 x) rfl ?_
  refine mz_iadd rfl ?_
  refine mz_iaS (v := (g1 5000 ((i + 1) : Int).toNat)) rfl (sh_5000 _) (by omega) (by have h9 := P1.2.2.2.2.1; omega) (by have h9 := P1.2.2.2.2.1; omega) rfl ?_
  refine mm_g 3 (pc1 := 234) (lo1 := [some (.ref 5000), some (.ref 0), some (.ref 137), some (.ref 179), some (.int (Int32.ofInt i)), o5, o6]) (st1 := [.int (Int32.ofInt 2), .int (Int32.ofInt i), .ref 5000, .int (Int32.ofInt (g1 5000 ((i + 1) : Int).toNat)), .ref 137]) (H1 := mz_mk g1 x) rfl ?_
  refine mz_iadd rfl ?_
  refine mz_iaS (v := (g1 5000 ((i + 2) : Int).toNat)) rfl (sh_5000 _) (by omega) (by have h9 := P1.2.2.2.2.1; omega) (by have h9 := P1.2.2.2.2.1; omega) rfl ?_
  refine mm_g 3 (pc1 := 240) (lo1 := [some (.ref 5000), some (.ref 0), some (.ref 137), some (.ref 179), some (.int (Int32.ofInt i)), o5, o6]) (st1 := [.int (Int32.ofInt 3), .int (Int32.ofInt i), .ref 5000, .int (Int32.ofInt (g1 5000 ((i + 2) : Int).toNat)), .int (Int32.ofInt (g1 5000 ((i + 1) : Int).toNat)), .ref 137]) (H1 := mz_mk g1 x) rfl ?_
  refine mz_iadd rfl ?_
  refine mz_iaS (v := (g1 5000 ((i + 3) : Int).toNat)) rfl (sh_5000 _) (by omega) (by have h9 := P1.2.2.2.2.1; omega) (by have h9 := P1.2.2.2.2.1; omega) rfl ?_
  refine mm_g 3 (pc1 := 246) (lo1 := [some (.ref 5000), some (.ref 0), some (.ref 137), some (.ref 179), some (.int (Int32.ofInt i)), o5, o6]) (st1 := [.int (Int32.ofInt 4), .int (Int32.ofInt i), .ref 5000, .int (Int32.ofInt (g1 5000 ((i + 3) : Int).toNat)), .int (Int32.ofInt (g1 5000 ((i + 2) : Int).toNat)), .int (Int32.ofInt (g1 5000 ((i + 1) : Int).toNat)), .ref 137]) (H1 := mz_mk g1 x) rfl ?_
  refine mz_iadd rfl ?_
  refine mz_iaS (v := (g1 5000 ((i + 4) : Int).toNat)) rfl (sh_5000 _) (by omega) (by have h9 := P1.2.2.2.2.1; omega) (by have h9 := P1.2.2.2.2.1; omega) rfl ?_
  refine mm_g 3 (pc1 := 252) (lo1 := [some (.ref 5000), some (.ref 0), some (.ref 137), some (.ref 179), some (.int (Int32.ofInt i)), o5, o6]) (st1 := [.int (Int32.ofInt 5), .int (Int32.ofInt i), .ref 5000, .int (Int32.ofInt (g1 5000 ((i + 4) : Int).toNat)), .int (Int32.ofInt (g1 5000 ((i + 3) : Int).toNat)), .int (Int32.ofInt (g1 5000 ((i + 2) : Int).toNat)), .int (Int32.ofInt (g1 5000 ((i + 1) : Int).toNat)), .ref 137]) (H1 := mz_mk g1 x) rfl ?_
  refine mz_iadd rfl ?_
  refine mz_iaS (v := (g1 5000 ((i + 5) : Int).toNat)) rfl (sh_5000 _) (by omega) (by have h9 := P1.2.2.2.2.1; omega) (by have h9 := P1.2.2.2.2.1; omega) rfl ?_
  refine mz_cv rfl mt_13_99 (by decide) rfl rfl (Nat.le_of_ble_eq_true rfl) (by omega) (f_X12_feed (by omega) P1.2.1 P1.1 (mz_rd P1.1 (bd_5000 _)).1 (mz_rd P1.1 (bd_5000 _)).2 (mz_rd P1.1 (bd_5000 _)).1 (mz_rd P1.1 (bd_5000 _)).2 (mz_rd P1.1 (bd_5000 _)).1 (mz_rd P1.1 (bd_5000 _)).2 (mz_rd P1.1 (bd_5000 _)).1 (mz_rd P1.1 (bd_5000 _)).2 (mz_rd P1.1 (bd_5000 _)).1 (mz_rd P1.1 (bd_5000 _)).2 P1.2.2.1.1 P1.2.2.1.2.1 (fun r2 g2 hI2 hf2 l_r2 u_r2 hp2_0 hp2_1 e2 => ⟨_, rfl, ?_⟩))
  have hq2 : ∀ j : Nat, g1 5000 j = g 5000 j := fun j => hS1 5000 j (by decide)
  rw [hq2, hq2, hq2, hq2, hq2] at e2
  have hF2 : ∀ a b : Nat, a < 137 ∨ 2000 ≤ a → g2 a b = g1 a b := fun a b z => hf2 a b (fun y => by have w := (nz_X12_feed_lo P1.2.1 _ _ y); omega)
  have P2 := mz_Lq_m P1 hI2 (fun h => mz_MI_eq h (fun j => hf2 149 j (nw_X12_feed_149 P1.2.1 j)) (fun j => hf2 142 j (nw_X12_feed_142 P1.2.1 j)) (hf2 140 0 (nw_X12_feed_140 P1.2.1 0 (by decide))) (hf2 140 1 (nw_X12_feed_140 P1.2.1 1 (by decide))) (hf2 140 3 (nw_X12_feed_140 P1.2.1 3 (by decide))) hp2_0)
  obtain ⟨hT2, hE⟩ := RR_feed P.2.1 T P.1 e1 hS1 (fun a b z => hf1 a b (fun y => z (nz_X11_feed_fA P.2.1 _ _ y))) e2 (fun a b z => hf2 a b (fun y => z (nz_X12_feed_fB P1.2.1 _ _ y)))
  show mm_W d mmL_law 257 [some (.ref 5000), some (.ref 0), some (.ref 137), some (.ref 179), some (.int (Int32.ofInt i)), o5, o6] [.int (Int32.ofInt r2)] (mz_mk g2 x) Q
  refine mm_g 1 (pc1 := 258) (lo1 := [some (.ref 5000), some (.ref 0), some (.ref 137), some (.ref 179), some (.int (Int32.ofInt i)), o5, o6]) (st1 := []) (H1 := mz_mk g2 x) rfl ?_
  refine mz_gt (tgt := 1388) rfl rfl ?_
  exact kk g2 x _ _ h5 h6_ P2 hT2
set_option maxHeartbeats 4000000 in
set_option maxRecDepth 100000 in
theorem law_1 {d : Nat} (hd : 91 ≤ d) {so : Option Nat} {L : Nat} (hL : L ≤ 3072) {i : Int} (h0 : 0 ≤ i) (h6 : i + 6 ≤ L) {o5 o6 : Option Value} (h5 : mz_nl o5) (h6_ : mz_nl o6) {g : mz_G} {x : mm_X} (P : mz_Lq so L i g x) (T : RR x g) {Q : (Option Value ⊕ Nat) → mm_H → Prop} (kk : ∀ g1 x1 p5 p6, mz_nl p5 → mz_nl p6 → mz_Lq so L (i + 6) g1 x1 → RR x1 g1 → mm_W d mmL_law 1388 [some (.ref 5000), some (.ref 0), some (.ref 137), some (.ref 179), some (.int (Int32.ofInt i)), p5, p6] [] (mz_mk g1 x1) Q) : mm_W d mmL_law 261 [some (.ref 5000), some (.ref 0), some (.ref 137), some (.ref 179), some (.int (Int32.ofInt i)), o5, o6] [] (mz_mk g x) Q := by
  refine mm_g 4 (pc1 := 266) (lo1 := [some (.ref 5000), some (.ref 0), some (.ref 137), some (.ref 179), some (.int (Int32.ofInt i)), o5, o6]) (st1 := [.int (Int32.ofInt 1), .int (Int32.ofInt i), .ref 5000, .ref 0]) (H1 := mz_mk g x) rfl ?_
  refine mz_iadd rfl ?_
  refine mz_iaS (v := (g 5000 ((i + 1) : Int).toNat)) rfl (sh_5000 _) (by omega) (by have h9 := P.2.2.2.2.1; omega) (by have h9 := P.2.2.2.2.1; omega) rfl ?_
  refine mm_g 1 (pc1 := 269) (lo1 := [some (.ref 5000), some (.ref 0), some (.ref 137), some (.ref 179), some (.int (Int32.ofInt i)), o5, o6]) (st1 := [.ref 179, .int (Int32.ofInt (g 5000 ((i + 1) : Int).toNat)), .ref 0]) (H1 := mz_mk g x) rfl ?_
  refine mz_cs rfl mt_13_100 (by decide) rfl (Nat.le_of_ble_eq_true rfl) (by omega) (w_L_baggage (by omega) P.2.1 P.1 (mz_rd P.1 (bd_5000 _)).1 (mz_rd P.1 (bd_5000 _)).2 (fun r1 g1 x1 hI1 hX1 hS1 hW1 => ⟨_, rfl, ?_⟩))
  have P1 := mz_Lq_c P hI1 hS1 hX1
  show mm_W d mmL_law 272 [some (.ref 5000), some (.ref 0), some (.ref 137), some (.ref 179), some (.int (Int32.ofInt i)), o5, o6] [.int (Int32.ofInt r1)] (mz_mk g1 x1) Q
  refine mm_g 5 (pc1 := 279) (lo1 := [some (.ref 5000), some (.ref 0), some (.ref 137), some (.ref 179), some (.int (Int32.ofInt i)), some (.int (Int32.ofInt r1)), o6]) (st1 := [.int (Int32.ofInt 1), .int (Int32.ofInt i), .ref 5000, .ref 137]) (H1 := mz_mk g1 x1) rfl ?_
  refine mz_iadd rfl ?_
  refine mz_iaS (v := (g1 5000 ((i + 1) : Int).toNat)) rfl (sh_5000 _) (by omega) (by have h9 := P1.2.2.2.2.1; omega) (by have h9 := P1.2.2.2.2.1; omega) rfl ?_
  refine mz_cv rfl mt_13_105 (by decide) rfl rfl (Nat.le_of_ble_eq_true rfl) (by omega) (f_X12_baggage (by omega) P1.2.1 P1.1 (mz_rd P1.1 (bd_5000 _)).1 (mz_rd P1.1 (bd_5000 _)).2 (fun r2 g2 hI2 hf2 l_r2 u_r2 hp2_0 hp2_1 e2 => ⟨_, rfl, ?_⟩))
  have hq2 : ∀ j : Nat, g1 5000 j = g 5000 j := fun j => hS1 5000 j (by decide)
  rw [hq2] at e2
  have hF2 : ∀ a b : Nat, a < 137 ∨ 2000 ≤ a → g2 a b = g1 a b := fun a b z => hf2 a b (fun y => by have w := (nz_X12_baggage_lo P1.2.1 _ _ y); omega)
  have P2 := mz_Lq_m P1 hI2 hp2_1
  obtain ⟨hT2, hk2, hO2, hr0, hr2⟩ := RR_kb P1.2.1 hW1 e2 (bag_kk P.2.1 P.1 P1.1 (RR_s T hS1)) hF2
  show mm_W d mmL_law 284 [some (.ref 5000), some (.ref 0), some (.ref 137), some (.ref 179), some (.int (Int32.ofInt i)), some (.int (Int32.ofInt r1)), o6] [.int (Int32.ofInt r2)] (mz_mk g2 x1) Q
  refine mm_g 1 (pc1 := 286) (lo1 := [some (.ref 5000), some (.ref 0), some (.ref 137), some (.ref 179), some (.int (Int32.ofInt i)), some (.int (Int32.ofInt r1)), some (.int (Int32.ofInt r2))]) (st1 := []) (H1 := mz_mk g2 x1) rfl ?_
  refine mz_gt (tgt := 1388) rfl rfl ?_
  exact kk g2 x1 _ _ (mz_nl_i _) (mz_nl_i _) P2 hT2
set_option maxHeartbeats 4000000 in
set_option maxRecDepth 100000 in
theorem law_2 {d : Nat} (hd : 2 ≤ d) {so : Option Nat} {L : Nat} (hL : L ≤ 3072) {i : Int} (h0 : 0 ≤ i) (h6 : i + 6 ≤ L) {o5 o6 : Option Value} (h5 : mz_nl o5) (h6_ : mz_nl o6) {g : mz_G} {x : mm_X} (P : mz_Lq so L i g x) (T : RR x g) {Q : (Option Value ⊕ Nat) → mm_H → Prop} (kk : ∀ g1 x1 p5 p6, mz_nl p5 → mz_nl p6 → mz_Lq so L (i + 6) g1 x1 → RR x1 g1 → mm_W d mmL_law 1388 [some (.ref 5000), some (.ref 0), some (.ref 137), some (.ref 179), some (.int (Int32.ofInt i)), p5, p6] [] (mz_mk g1 x1) Q) : mm_W d mmL_law 289 [some (.ref 5000), some (.ref 0), some (.ref 137), some (.ref 179), some (.int (Int32.ofInt i)), o5, o6] [] (mz_mk g x) Q := by
  refine mm_g 1 (pc1 := 290) (lo1 := [some (.ref 5000), some (.ref 0), some (.ref 137), some (.ref 179), some (.int (Int32.ofInt i)), o5, o6]) (st1 := [.ref 0]) (H1 := mz_mk g x) rfl ?_
  refine mz_cv rfl mt_13_106 (by decide) rfl rfl (Nat.le_of_ble_eq_true rfl) (by omega) (f_X11_fault (by omega) P.2.1 P.1 (fun r1 l_r1 u_r1 e1 => ⟨_, rfl, ?_⟩))
  have P1 := mz_Lq_c P P.1 (fun _ _ _ => rfl) (mz_xx_rf P.2.1)
  show mm_W d mmL_law 293 [some (.ref 5000), some (.ref 0), some (.ref 137), some (.ref 179), some (.int (Int32.ofInt i)), o5, o6] [.int (Int32.ofInt r1)] (mz_mk g x) Q
  refine mm_g 2 (pc1 := 295) (lo1 := [some (.ref 5000), some (.ref 0), some (.ref 137), some (.ref 179), some (.int (Int32.ofInt i)), o5, o6]) (st1 := [.ref 137]) (H1 := mz_mk g x) rfl ?_
  refine mz_cv rfl mt_13_110 (by decide) rfl rfl (Nat.le_of_ble_eq_true rfl) (by omega) (f_X12_fault (by omega) P1.2.1 P1.1 P1.2.2.1.1 P1.2.2.1.2.1 (fun r2 g2 hI2 hf2 l_r2 u_r2 hp2_0 e2 => ⟨_, rfl, ?_⟩))
  have hF2 : ∀ a b : Nat, a < 137 ∨ 2000 ≤ a → g2 a b = g a b := fun a b z => hf2 a b (fun y => by have w := (nz_X12_fault_lo P1.2.1 _ _ y); omega)
  have hR2 : mz_sr g g2 := ⟨hf2 82 1 (nw_X12_fault_82 P1.2.1), hf2 137 15 (nw_X12_fault_15 P1.2.1), fun j => hf2 149 j (nw_X12_fault_149 P1.2.1 j), fun j => hf2 142 j (nw_X12_fault_142 P1.2.1 j), fun j hj => hf2 140 j (nw_X12_fault_140 P1.2.1 j hj)⟩
  have P2 := mz_Lq_r P1 hI2 hR2 hp2_0
  have hT2 := RR_b P1.2.1 T hF2 (fun a b z => hf2 a b (fun y => z (nz_X12_fault_nb P1.2.1 _ _ y)))
  show mm_W d mmL_law 298 [some (.ref 5000), some (.ref 0), some (.ref 137), some (.ref 179), some (.int (Int32.ofInt i)), o5, o6] [.int (Int32.ofInt r2)] (mz_mk g2 x) Q
  refine mm_g 1 (pc1 := 299) (lo1 := [some (.ref 5000), some (.ref 0), some (.ref 137), some (.ref 179), some (.int (Int32.ofInt i)), o5, o6]) (st1 := []) (H1 := mz_mk g2 x) rfl ?_
  refine mz_gt (tgt := 1388) rfl rfl ?_
  exact kk g2 x _ _ h5 h6_ P2 hT2
set_option maxHeartbeats 4000000 in
set_option maxRecDepth 100000 in
theorem law_3 {d : Nat} (hd : 17 ≤ d) {so : Option Nat} {L : Nat} (hL : L ≤ 3072) {i : Int} (h0 : 0 ≤ i) (h6 : i + 6 ≤ L) {o5 o6 : Option Value} (h5 : mz_nl o5) (h6_ : mz_nl o6) {g : mz_G} {x : mm_X} (P : mz_Lq so L i g x) (T : RR x g) {Q : (Option Value ⊕ Nat) → mm_H → Prop} (kk : ∀ g1 x1 p5 p6, mz_nl p5 → mz_nl p6 → mz_Lq so L (i + 6) g1 x1 → RR x1 g1 → mm_W d mmL_law 1388 [some (.ref 5000), some (.ref 0), some (.ref 137), some (.ref 179), some (.int (Int32.ofInt i)), p5, p6] [] (mz_mk g1 x1) Q) : mm_W d mmL_law 302 [some (.ref 5000), some (.ref 0), some (.ref 137), some (.ref 179), some (.int (Int32.ofInt i)), o5, o6] [] (mz_mk g x) Q := by
  refine mm_g 4 (pc1 := 307) (lo1 := [some (.ref 5000), some (.ref 0), some (.ref 137), some (.ref 179), some (.int (Int32.ofInt i)), o5, o6]) (st1 := [.int (Int32.ofInt 1), .int (Int32.ofInt i), .ref 5000, .ref 0]) (H1 := mz_mk g x) rfl ?_
  refine mz_iadd rfl ?_
  refine mz_iaS (v := (g 5000 ((i + 1) : Int).toNat)) rfl (sh_5000 _) (by omega) (by have h9 := P.2.2.2.2.1; omega) (by have h9 := P.2.2.2.2.1; omega) rfl ?_
  refine mm_g 1 (pc1 := 310) (lo1 := [some (.ref 5000), some (.ref 0), some (.ref 137), some (.ref 179), some (.int (Int32.ofInt i)), o5, o6]) (st1 := [.ref 179, .int (Int32.ofInt (g 5000 ((i + 1) : Int).toNat)), .ref 0]) (H1 := mz_mk g x) rfl ?_
  refine mz_cs rfl mt_13_111 (by decide) rfl (Nat.le_of_ble_eq_true rfl) (by omega) (w_L_count (by omega) P.2.1 P.1 (mz_rd P.1 (bd_5000 _)).1 (mz_rd P.1 (bd_5000 _)).2 (fun r1 g1 x1 hI1 hX1 hS1 hW1 hN1 => ⟨_, rfl, ?_⟩))
  have P1 := mz_Lq_c P hI1 hS1 hX1
  have hT1 : RR x1 g1 := RR_q P.2.1 T hS1 hN1 hW1.2.2.2.1
  show mm_W d mmL_law 313 [some (.ref 5000), some (.ref 0), some (.ref 137), some (.ref 179), some (.int (Int32.ofInt i)), o5, o6] [.int (Int32.ofInt r1)] (mz_mk g1 x1) Q
  refine mm_g 5 (pc1 := 320) (lo1 := [some (.ref 5000), some (.ref 0), some (.ref 137), some (.ref 179), some (.int (Int32.ofInt i)), some (.int (Int32.ofInt r1)), o6]) (st1 := [.int (Int32.ofInt 1), .int (Int32.ofInt i), .ref 5000, .ref 137]) (H1 := mz_mk g1 x1) rfl ?_
  refine mz_iadd rfl ?_
  refine mz_iaS (v := (g1 5000 ((i + 1) : Int).toNat)) rfl (sh_5000 _) (by omega) (by have h9 := P1.2.2.2.2.1; omega) (by have h9 := P1.2.2.2.2.1; omega) rfl ?_
  refine mz_cv rfl mt_13_113 (by decide) rfl rfl (Nat.le_of_ble_eq_true rfl) (by omega) (f_X12_count (by omega) P1.2.1 P1.1 (mz_rd P1.1 (bd_5000 _)).1 (mz_rd P1.1 (bd_5000 _)).2 P1.2.2.1.1 P1.2.2.1.2.1 (fun r2 g2 hI2 hf2 l_r2 u_r2 hp2_0 e2 => ⟨_, rfl, ?_⟩))
  have hF2 : ∀ a b : Nat, a < 137 ∨ 2000 ≤ a → g2 a b = g1 a b := fun a b z => hf2 a b (fun y => by have w := (nz_X12_count_lo P1.2.1 _ _ y); omega)
  have hR2 : mz_sr g1 g2 := ⟨hf2 82 1 (nw_X12_count_82 P1.2.1), hf2 137 15 (nw_X12_count_15 P1.2.1), fun j => hf2 149 j (nw_X12_count_149 P1.2.1 j), fun j => hf2 142 j (nw_X12_count_142 P1.2.1 j), fun j hj => hf2 140 j (nw_X12_count_140 P1.2.1 j hj)⟩
  have P2 := mz_Lq_r P1 hI2 hR2 hp2_0
  have hT2 := RR_b P1.2.1 hT1 hF2 (fun a b z => hf2 a b (fun y => z (nz_X12_count_nb P1.2.1 _ _ y)))
  show mm_W d mmL_law 325 [some (.ref 5000), some (.ref 0), some (.ref 137), some (.ref 179), some (.int (Int32.ofInt i)), some (.int (Int32.ofInt r1)), o6] [.int (Int32.ofInt r2)] (mz_mk g2 x1) Q
  refine mm_g 1 (pc1 := 327) (lo1 := [some (.ref 5000), some (.ref 0), some (.ref 137), some (.ref 179), some (.int (Int32.ofInt i)), some (.int (Int32.ofInt r1)), some (.int (Int32.ofInt r2))]) (st1 := []) (H1 := mz_mk g2 x1) rfl ?_
  refine mz_gt (tgt := 1388) rfl rfl ?_
  exact kk g2 x1 _ _ (mz_nl_i _) (mz_nl_i _) P2 hT2
set_option maxHeartbeats 4000000 in
set_option maxRecDepth 100000 in
theorem law_4 {d : Nat} (hd : 15 ≤ d) {so : Option Nat} {L : Nat} (hL : L ≤ 3072) {i : Int} (h0 : 0 ≤ i) (h6 : i + 6 ≤ L) {o5 o6 : Option Value} (h5 : mz_nl o5) (h6_ : mz_nl o6) {g : mz_G} {x : mm_X} (P : mz_Lq so L i g x) (T : RR x g) {Q : (Option Value ⊕ Nat) → mm_H → Prop} (kk : ∀ g1 x1 p5 p6, mz_nl p5 → mz_nl p6 → mz_Lq so L (i + 6) g1 x1 → RR x1 g1 → mm_W d mmL_law 1388 [some (.ref 5000), some (.ref 0), some (.ref 137), some (.ref 179), some (.int (Int32.ofInt i)), p5, p6] [] (mz_mk g1 x1) Q) : mm_W d mmL_law 330 [some (.ref 5000), some (.ref 0), some (.ref 137), some (.ref 179), some (.int (Int32.ofInt i)), o5, o6] [] (mz_mk g x) Q := by
  refine mm_g 4 (pc1 := 335) (lo1 := [some (.ref 5000), some (.ref 0), some (.ref 137), some (.ref 179), some (.int (Int32.ofInt i)), o5, o6]) (st1 := [.int (Int32.ofInt 1), .int (Int32.ofInt i), .ref 5000, .ref 0]) (H1 := mz_mk g x) rfl ?_
  refine mz_iadd rfl ?_
  refine mz_iaS (v := (g 5000 ((i + 1) : Int).toNat)) rfl (sh_5000 _) (by omega) (by have h9 := P.2.2.2.2.1; omega) (by have h9 := P.2.2.2.2.1; omega) rfl ?_
  refine mm_g 3 (pc1 := 341) (lo1 := [some (.ref 5000), some (.ref 0), some (.ref 137), some (.ref 179), some (.int (Int32.ofInt i)), o5, o6]) (st1 := [.int (Int32.ofInt 2), .int (Int32.ofInt i), .ref 5000, .int (Int32.ofInt (g 5000 ((i + 1) : Int).toNat)), .ref 0]) (H1 := mz_mk g x) rfl ?_
  refine mz_iadd rfl ?_
  refine mz_iaS (v := (g 5000 ((i + 2) : Int).toNat)) rfl (sh_5000 _) (by omega) (by have h9 := P.2.2.2.2.1; omega) (by have h9 := P.2.2.2.2.1; omega) rfl ?_
  refine mm_g 1 (pc1 := 344) (lo1 := [some (.ref 5000), some (.ref 0), some (.ref 137), some (.ref 179), some (.int (Int32.ofInt i)), o5, o6]) (st1 := [.ref 179, .int (Int32.ofInt (g 5000 ((i + 2) : Int).toNat)), .int (Int32.ofInt (g 5000 ((i + 1) : Int).toNat)), .ref 0]) (H1 := mz_mk g x) rfl ?_
  refine mz_cs rfl mt_13_114 (by decide) rfl (Nat.le_of_ble_eq_true rfl) (by omega) (w_L_word (by omega) P.2.1 P.1 (mz_rd P.1 (bd_5000 _)).1 (mz_rd P.1 (bd_5000 _)).2 (mz_rd P.1 (bd_5000 _)).1 (mz_rd P.1 (bd_5000 _)).2 (fun r1 g1 x1 hI1 hX1 hS1 hW1 hN1 => ⟨_, rfl, ?_⟩))
  have P1 := mz_Lq_c P hI1 hS1 hX1
  have hT1 : RR x1 g1 := RR_q P.2.1 T hS1 hN1 hW1.2.2.2.1
  show mm_W d mmL_law 347 [some (.ref 5000), some (.ref 0), some (.ref 137), some (.ref 179), some (.int (Int32.ofInt i)), o5, o6] [.int (Int32.ofInt r1)] (mz_mk g1 x1) Q
  refine mm_g 5 (pc1 := 354) (lo1 := [some (.ref 5000), some (.ref 0), some (.ref 137), some (.ref 179), some (.int (Int32.ofInt i)), some (.int (Int32.ofInt r1)), o6]) (st1 := [.int (Int32.ofInt 1), .int (Int32.ofInt i), .ref 5000, .ref 137]) (H1 := mz_mk g1 x1) rfl ?_
  refine mz_iadd rfl ?_
  refine mz_iaS (v := (g1 5000 ((i + 1) : Int).toNat)) rfl (sh_5000 _) (by omega) (by have h9 := P1.2.2.2.2.1; omega) (by have h9 := P1.2.2.2.2.1; omega) rfl ?_
  refine mm_g 3 (pc1 := 360) (lo1 := [some (.ref 5000), some (.ref 0), some (.ref 137), some (.ref 179), some (.int (Int32.ofInt i)), some (.int (Int32.ofInt r1)), o6]) (st1 := [.int (Int32.ofInt 2), .int (Int32.ofInt i), .ref 5000, .int (Int32.ofInt (g1 5000 ((i + 1) : Int).toNat)), .ref 137]) (H1 := mz_mk g1 x1) rfl ?_
  refine mz_iadd rfl ?_
  refine mz_iaS (v := (g1 5000 ((i + 2) : Int).toNat)) rfl (sh_5000 _) (by omega) (by have h9 := P1.2.2.2.2.1; omega) (by have h9 := P1.2.2.2.2.1; omega) rfl ?_
  refine mz_cv rfl mt_13_117 (by decide) rfl rfl (Nat.le_of_ble_eq_true rfl) (by omega) (f_X12_word (by omega) P1.2.1 P1.1 (mz_rd P1.1 (bd_5000 _)).1 (mz_rd P1.1 (bd_5000 _)).2 (mz_rd P1.1 (bd_5000 _)).1 (mz_rd P1.1 (bd_5000 _)).2 P1.2.2.1.1 P1.2.2.1.2.1 (fun r2 g2 hI2 hf2 l_r2 u_r2 hp2_0 e2 => ⟨_, rfl, ?_⟩))
  have hF2 : ∀ a b : Nat, a < 137 ∨ 2000 ≤ a → g2 a b = g1 a b := fun a b z => hf2 a b (fun y => by have w := (nz_X12_word_lo P1.2.1 _ _ y); omega)
  have hR2 : mz_sr g1 g2 := ⟨hf2 82 1 (nw_X12_word_82 P1.2.1), hf2 137 15 (nw_X12_word_15 P1.2.1), fun j => hf2 149 j (nw_X12_word_149 P1.2.1 j), fun j => hf2 142 j (nw_X12_word_142 P1.2.1 j), fun j hj => hf2 140 j (nw_X12_word_140 P1.2.1 j hj)⟩
  have P2 := mz_Lq_r P1 hI2 hR2 hp2_0
  have hT2 := RR_b P1.2.1 hT1 hF2 (fun a b z => hf2 a b (fun y => z (nz_X12_word_nb P1.2.1 _ _ y)))
  show mm_W d mmL_law 365 [some (.ref 5000), some (.ref 0), some (.ref 137), some (.ref 179), some (.int (Int32.ofInt i)), some (.int (Int32.ofInt r1)), o6] [.int (Int32.ofInt r2)] (mz_mk g2 x1) Q
  refine mm_g 1 (pc1 := 367) (lo1 := [some (.ref 5000), some (.ref 0), some (.ref 137), some (.ref 179), some (.int (Int32.ofInt i)), some (.int (Int32.ofInt r1)), some (.int (Int32.ofInt r2))]) (st1 := []) (H1 := mz_mk g2 x1) rfl ?_
  refine mz_gt (tgt := 1388) rfl rfl ?_
  exact kk g2 x1 _ _ (mz_nl_i _) (mz_nl_i _) P2 hT2
set_option maxHeartbeats 4000000 in
set_option maxRecDepth 100000 in
theorem law_5 {d : Nat} (hd : 15 ≤ d) {so : Option Nat} {L : Nat} (hL : L ≤ 3072) {i : Int} (h0 : 0 ≤ i) (h6 : i + 6 ≤ L) {o5 o6 : Option Value} (h5 : mz_nl o5) (h6_ : mz_nl o6) {g : mz_G} {x : mm_X} (P : mz_Lq so L i g x) (T : RR x g) {Q : (Option Value ⊕ Nat) → mm_H → Prop} (kk : ∀ g1 x1 p5 p6, mz_nl p5 → mz_nl p6 → mz_Lq so L (i + 6) g1 x1 → RR x1 g1 → mm_W d mmL_law 1388 [some (.ref 5000), some (.ref 0), some (.ref 137), some (.ref 179), some (.int (Int32.ofInt i)), p5, p6] [] (mz_mk g1 x1) Q) : mm_W d mmL_law 370 [some (.ref 5000), some (.ref 0), some (.ref 137), some (.ref 179), some (.int (Int32.ofInt i)), o5, o6] [] (mz_mk g x) Q := by
  refine mm_g 4 (pc1 := 375) (lo1 := [some (.ref 5000), some (.ref 0), some (.ref 137), some (.ref 179), some (.int (Int32.ofInt i)), o5, o6]) (st1 := [.int (Int32.ofInt 1), .int (Int32.ofInt i), .ref 5000, .ref 0]) (H1 := mz_mk g x) rfl ?_
  refine mz_iadd rfl ?_
  refine mz_iaS (v := (g 5000 ((i + 1) : Int).toNat)) rfl (sh_5000 _) (by omega) (by have h9 := P.2.2.2.2.1; omega) (by have h9 := P.2.2.2.2.1; omega) rfl ?_
  refine mm_g 3 (pc1 := 381) (lo1 := [some (.ref 5000), some (.ref 0), some (.ref 137), some (.ref 179), some (.int (Int32.ofInt i)), o5, o6]) (st1 := [.int (Int32.ofInt 2), .int (Int32.ofInt i), .ref 5000, .int (Int32.ofInt (g 5000 ((i + 1) : Int).toNat)), .ref 0]) (H1 := mz_mk g x) rfl ?_
  refine mz_iadd rfl ?_
  refine mz_iaS (v := (g 5000 ((i + 2) : Int).toNat)) rfl (sh_5000 _) (by omega) (by have h9 := P.2.2.2.2.1; omega) (by have h9 := P.2.2.2.2.1; omega) rfl ?_
  refine mm_g 1 (pc1 := 384) (lo1 := [some (.ref 5000), some (.ref 0), some (.ref 137), some (.ref 179), some (.int (Int32.ofInt i)), o5, o6]) (st1 := [.ref 179, .int (Int32.ofInt (g 5000 ((i + 2) : Int).toNat)), .int (Int32.ofInt (g 5000 ((i + 1) : Int).toNat)), .ref 0]) (H1 := mz_mk g x) rfl ?_
  refine mz_cs rfl mt_13_118 (by decide) rfl (Nat.le_of_ble_eq_true rfl) (by omega) (w_L_letter (by omega) P.2.1 P.1 (mz_rd P.1 (bd_5000 _)).1 (mz_rd P.1 (bd_5000 _)).2 (mz_rd P.1 (bd_5000 _)).1 (mz_rd P.1 (bd_5000 _)).2 (fun r1 g1 x1 hI1 hX1 hS1 hW1 hN1 => ⟨_, rfl, ?_⟩))
  have P1 := mz_Lq_c P hI1 hS1 hX1
  have hT1 : RR x1 g1 := RR_q P.2.1 T hS1 hN1 hW1.2.2.2.1
  show mm_W d mmL_law 387 [some (.ref 5000), some (.ref 0), some (.ref 137), some (.ref 179), some (.int (Int32.ofInt i)), o5, o6] [.int (Int32.ofInt r1)] (mz_mk g1 x1) Q
  refine mm_g 5 (pc1 := 394) (lo1 := [some (.ref 5000), some (.ref 0), some (.ref 137), some (.ref 179), some (.int (Int32.ofInt i)), some (.int (Int32.ofInt r1)), o6]) (st1 := [.int (Int32.ofInt 1), .int (Int32.ofInt i), .ref 5000, .ref 137]) (H1 := mz_mk g1 x1) rfl ?_
  refine mz_iadd rfl ?_
  refine mz_iaS (v := (g1 5000 ((i + 1) : Int).toNat)) rfl (sh_5000 _) (by omega) (by have h9 := P1.2.2.2.2.1; omega) (by have h9 := P1.2.2.2.2.1; omega) rfl ?_
  refine mm_g 3 (pc1 := 400) (lo1 := [some (.ref 5000), some (.ref 0), some (.ref 137), some (.ref 179), some (.int (Int32.ofInt i)), some (.int (Int32.ofInt r1)), o6]) (st1 := [.int (Int32.ofInt 2), .int (Int32.ofInt i), .ref 5000, .int (Int32.ofInt (g1 5000 ((i + 1) : Int).toNat)), .ref 137]) (H1 := mz_mk g1 x1) rfl ?_
  refine mz_iadd rfl ?_
  refine mz_iaS (v := (g1 5000 ((i + 2) : Int).toNat)) rfl (sh_5000 _) (by omega) (by have h9 := P1.2.2.2.2.1; omega) (by have h9 := P1.2.2.2.2.1; omega) rfl ?_
  refine mz_cv rfl mt_13_120 (by decide) rfl rfl (Nat.le_of_ble_eq_true rfl) (by omega) (f_X12_letter (by omega) P1.2.1 P1.1 (mz_rd P1.1 (bd_5000 _)).1 (mz_rd P1.1 (bd_5000 _)).2 (mz_rd P1.1 (bd_5000 _)).1 (mz_rd P1.1 (bd_5000 _)).2 P1.2.2.1.1 P1.2.2.1.2.1 (fun r2 g2 hI2 hf2 l_r2 u_r2 hp2_0 e2 => ⟨_, rfl, ?_⟩))
  have hF2 : ∀ a b : Nat, a < 137 ∨ 2000 ≤ a → g2 a b = g1 a b := fun a b z => hf2 a b (fun y => by have w := (nz_X12_letter_lo P1.2.1 _ _ y); omega)
  have hR2 : mz_sr g1 g2 := ⟨hf2 82 1 (nw_X12_letter_82 P1.2.1), hf2 137 15 (nw_X12_letter_15 P1.2.1), fun j => hf2 149 j (nw_X12_letter_149 P1.2.1 j), fun j => hf2 142 j (nw_X12_letter_142 P1.2.1 j), fun j hj => hf2 140 j (nw_X12_letter_140 P1.2.1 j hj)⟩
  have P2 := mz_Lq_r P1 hI2 hR2 hp2_0
  have hT2 := RR_b P1.2.1 hT1 hF2 (fun a b z => hf2 a b (fun y => z (nz_X12_letter_nb P1.2.1 _ _ y)))
  show mm_W d mmL_law 405 [some (.ref 5000), some (.ref 0), some (.ref 137), some (.ref 179), some (.int (Int32.ofInt i)), some (.int (Int32.ofInt r1)), o6] [.int (Int32.ofInt r2)] (mz_mk g2 x1) Q
  refine mm_g 1 (pc1 := 407) (lo1 := [some (.ref 5000), some (.ref 0), some (.ref 137), some (.ref 179), some (.int (Int32.ofInt i)), some (.int (Int32.ofInt r1)), some (.int (Int32.ofInt r2))]) (st1 := []) (H1 := mz_mk g2 x1) rfl ?_
  refine mz_gt (tgt := 1388) rfl rfl ?_
  exact kk g2 x1 _ _ (mz_nl_i _) (mz_nl_i _) P2 hT2
set_option maxHeartbeats 4000000 in
set_option maxRecDepth 100000 in
theorem law_6 {d : Nat} (hd : 17 ≤ d) {so : Option Nat} {L : Nat} (hL : L ≤ 3072) {i : Int} (h0 : 0 ≤ i) (h6 : i + 6 ≤ L) {o5 o6 : Option Value} (h5 : mz_nl o5) (h6_ : mz_nl o6) {g : mz_G} {x : mm_X} (P : mz_Lq so L i g x) (T : RR x g) {Q : (Option Value ⊕ Nat) → mm_H → Prop} (kk : ∀ g1 x1 p5 p6, mz_nl p5 → mz_nl p6 → mz_Lq so L (i + 6) g1 x1 → RR x1 g1 → mm_W d mmL_law 1388 [some (.ref 5000), some (.ref 0), some (.ref 137), some (.ref 179), some (.int (Int32.ofInt i)), p5, p6] [] (mz_mk g1 x1) Q) : mm_W d mmL_law 410 [some (.ref 5000), some (.ref 0), some (.ref 137), some (.ref 179), some (.int (Int32.ofInt i)), o5, o6] [] (mz_mk g x) Q := by
  refine mm_g 4 (pc1 := 415) (lo1 := [some (.ref 5000), some (.ref 0), some (.ref 137), some (.ref 179), some (.int (Int32.ofInt i)), o5, o6]) (st1 := [.int (Int32.ofInt 1), .int (Int32.ofInt i), .ref 5000, .ref 0]) (H1 := mz_mk g x) rfl ?_
  refine mz_iadd rfl ?_
  refine mz_iaS (v := (g 5000 ((i + 1) : Int).toNat)) rfl (sh_5000 _) (by omega) (by have h9 := P.2.2.2.2.1; omega) (by have h9 := P.2.2.2.2.1; omega) rfl ?_
  refine mm_g 3 (pc1 := 421) (lo1 := [some (.ref 5000), some (.ref 0), some (.ref 137), some (.ref 179), some (.int (Int32.ofInt i)), o5, o6]) (st1 := [.int (Int32.ofInt 2), .int (Int32.ofInt i), .ref 5000, .int (Int32.ofInt (g 5000 ((i + 1) : Int).toNat)), .ref 0]) (H1 := mz_mk g x) rfl ?_
  refine mz_iadd rfl ?_
  refine mz_iaS (v := (g 5000 ((i + 2) : Int).toNat)) rfl (sh_5000 _) (by omega) (by have h9 := P.2.2.2.2.1; omega) (by have h9 := P.2.2.2.2.1; omega) rfl ?_
  refine mm_g 1 (pc1 := 424) (lo1 := [some (.ref 5000), some (.ref 0), some (.ref 137), some (.ref 179), some (.int (Int32.ofInt i)), o5, o6]) (st1 := [.ref 179, .int (Int32.ofInt (g 5000 ((i + 2) : Int).toNat)), .int (Int32.ofInt (g 5000 ((i + 1) : Int).toNat)), .ref 0]) (H1 := mz_mk g x) rfl ?_
  refine mz_cs rfl mt_13_121 (by decide) rfl (Nat.le_of_ble_eq_true rfl) (by omega) (w_L_trunk (by omega) P.2.1 P.1 (mz_rd P.1 (bd_5000 _)).1 (mz_rd P.1 (bd_5000 _)).2 (mz_rd P.1 (bd_5000 _)).1 (mz_rd P.1 (bd_5000 _)).2 (fun r1 g1 x1 hI1 hX1 hS1 hW1 hN1 => ⟨_, rfl, ?_⟩))
  have P1 := mz_Lq_c P hI1 hS1 hX1
  have hT1 : RR x1 g1 := RR_q P.2.1 T hS1 hN1 hW1.2.2.2.1
  show mm_W d mmL_law 427 [some (.ref 5000), some (.ref 0), some (.ref 137), some (.ref 179), some (.int (Int32.ofInt i)), o5, o6] [.int (Int32.ofInt r1)] (mz_mk g1 x1) Q
  refine mm_g 5 (pc1 := 434) (lo1 := [some (.ref 5000), some (.ref 0), some (.ref 137), some (.ref 179), some (.int (Int32.ofInt i)), some (.int (Int32.ofInt r1)), o6]) (st1 := [.int (Int32.ofInt 1), .int (Int32.ofInt i), .ref 5000, .ref 137]) (H1 := mz_mk g1 x1) rfl ?_
  refine mz_iadd rfl ?_
  refine mz_iaS (v := (g1 5000 ((i + 1) : Int).toNat)) rfl (sh_5000 _) (by omega) (by have h9 := P1.2.2.2.2.1; omega) (by have h9 := P1.2.2.2.2.1; omega) rfl ?_
  refine mm_g 3 (pc1 := 440) (lo1 := [some (.ref 5000), some (.ref 0), some (.ref 137), some (.ref 179), some (.int (Int32.ofInt i)), some (.int (Int32.ofInt r1)), o6]) (st1 := [.int (Int32.ofInt 2), .int (Int32.ofInt i), .ref 5000, .int (Int32.ofInt (g1 5000 ((i + 1) : Int).toNat)), .ref 137]) (H1 := mz_mk g1 x1) rfl ?_
  refine mz_iadd rfl ?_
  refine mz_iaS (v := (g1 5000 ((i + 2) : Int).toNat)) rfl (sh_5000 _) (by omega) (by have h9 := P1.2.2.2.2.1; omega) (by have h9 := P1.2.2.2.2.1; omega) rfl ?_
  refine mz_cv rfl mt_13_123 (by decide) rfl rfl (Nat.le_of_ble_eq_true rfl) (by omega) (f_X12_trunk (by omega) P1.2.1 P1.1 (mz_rd P1.1 (bd_5000 _)).1 (mz_rd P1.1 (bd_5000 _)).2 (mz_rd P1.1 (bd_5000 _)).1 (mz_rd P1.1 (bd_5000 _)).2 P1.2.2.1.1 P1.2.2.1.2.1 (fun r2 g2 hI2 hf2 l_r2 u_r2 hp2_0 e2 => ⟨_, rfl, ?_⟩))
  have hF2 : ∀ a b : Nat, a < 137 ∨ 2000 ≤ a → g2 a b = g1 a b := fun a b z => hf2 a b (fun y => by have w := (nz_X12_trunk_lo P1.2.1 _ _ y); omega)
  have hR2 : mz_sr g1 g2 := ⟨hf2 82 1 (nw_X12_trunk_82 P1.2.1), hf2 137 15 (nw_X12_trunk_15 P1.2.1), fun j => hf2 149 j (nw_X12_trunk_149 P1.2.1 j), fun j => hf2 142 j (nw_X12_trunk_142 P1.2.1 j), fun j hj => hf2 140 j (nw_X12_trunk_140 P1.2.1 j hj)⟩
  have P2 := mz_Lq_r P1 hI2 hR2 hp2_0
  have hT2 := RR_b P1.2.1 hT1 hF2 (fun a b z => hf2 a b (fun y => z (nz_X12_trunk_nb P1.2.1 _ _ y)))
  show mm_W d mmL_law 445 [some (.ref 5000), some (.ref 0), some (.ref 137), some (.ref 179), some (.int (Int32.ofInt i)), some (.int (Int32.ofInt r1)), o6] [.int (Int32.ofInt r2)] (mz_mk g2 x1) Q
  refine mm_g 1 (pc1 := 447) (lo1 := [some (.ref 5000), some (.ref 0), some (.ref 137), some (.ref 179), some (.int (Int32.ofInt i)), some (.int (Int32.ofInt r1)), some (.int (Int32.ofInt r2))]) (st1 := []) (H1 := mz_mk g2 x1) rfl ?_
  refine mz_gt (tgt := 1388) rfl rfl ?_
  exact kk g2 x1 _ _ (mz_nl_i _) (mz_nl_i _) P2 hT2
set_option maxHeartbeats 4000000 in
set_option maxRecDepth 100000 in
theorem law_7 {d : Nat} (hd : 17 ≤ d) {so : Option Nat} {L : Nat} (hL : L ≤ 3072) {i : Int} (h0 : 0 ≤ i) (h6 : i + 6 ≤ L) {o5 o6 : Option Value} (h5 : mz_nl o5) (h6_ : mz_nl o6) {g : mz_G} {x : mm_X} (P : mz_Lq so L i g x) (T : RR x g) {Q : (Option Value ⊕ Nat) → mm_H → Prop} (kk : ∀ g1 x1 p5 p6, mz_nl p5 → mz_nl p6 → mz_Lq so L (i + 6) g1 x1 → RR x1 g1 → mm_W d mmL_law 1388 [some (.ref 5000), some (.ref 0), some (.ref 137), some (.ref 179), some (.int (Int32.ofInt i)), p5, p6] [] (mz_mk g1 x1) Q) : mm_W d mmL_law 450 [some (.ref 5000), some (.ref 0), some (.ref 137), some (.ref 179), some (.int (Int32.ofInt i)), o5, o6] [] (mz_mk g x) Q := by
  refine mm_g 4 (pc1 := 455) (lo1 := [some (.ref 5000), some (.ref 0), some (.ref 137), some (.ref 179), some (.int (Int32.ofInt i)), o5, o6]) (st1 := [.int (Int32.ofInt 1), .int (Int32.ofInt i), .ref 5000, .ref 0]) (H1 := mz_mk g x) rfl ?_
  refine mz_iadd rfl ?_
  refine mz_iaS (v := (g 5000 ((i + 1) : Int).toNat)) rfl (sh_5000 _) (by omega) (by have h9 := P.2.2.2.2.1; omega) (by have h9 := P.2.2.2.2.1; omega) rfl ?_
  refine mz_cv rfl mt_13_124 (by decide) rfl rfl (Nat.le_of_ble_eq_true rfl) (by omega) (f_X11_days (by omega) P.2.1 P.1 (mz_rd P.1 (bd_5000 _)).1 (mz_rd P.1 (bd_5000 _)).2 (fun r1 g1 hI1 hf1 l_r1 u_r1 e1 => ⟨_, rfl, ?_⟩))
  have hS1 : ∀ k j : Nat, 137 ≤ k → g1 k j = g k j := fun k j hk => hf1 k j (nw_X11_days_137 P.2.1 k j hk)
  have P1 := mz_Lq_c P hI1 hS1 (mz_xx_rf P.2.1)
  show mm_W d mmL_law 460 [some (.ref 5000), some (.ref 0), some (.ref 137), some (.ref 179), some (.int (Int32.ofInt i)), o5, o6] [.int (Int32.ofInt r1)] (mz_mk g1 x) Q
  refine mm_g 5 (pc1 := 466) (lo1 := [some (.ref 5000), some (.ref 0), some (.ref 137), some (.ref 179), some (.int (Int32.ofInt i)), o5, o6]) (st1 := [.int (Int32.ofInt 1), .int (Int32.ofInt i), .ref 5000, .ref 137]) (H1 := mz_mk g1 x) rfl ?_
  refine mz_iadd rfl ?_
  refine mz_iaS (v := (g1 5000 ((i + 1) : Int).toNat)) rfl (sh_5000 _) (by omega) (by have h9 := P1.2.2.2.2.1; omega) (by have h9 := P1.2.2.2.2.1; omega) rfl ?_
  refine mz_cv rfl mt_13_127 (by decide) rfl rfl (Nat.le_of_ble_eq_true rfl) (by omega) (f_X12_days (by omega) P1.2.1 P1.1 (mz_rd P1.1 (bd_5000 _)).1 (mz_rd P1.1 (bd_5000 _)).2 P1.2.2.1.1 P1.2.2.1.2.1 (fun r2 g2 hI2 hf2 l_r2 u_r2 hp2_0 e2 => ⟨_, rfl, ?_⟩))
  have hq2 : ∀ j : Nat, g1 5000 j = g 5000 j := fun j => hS1 5000 j (by decide)
  rw [hq2] at e2
  have hF2 : ∀ a b : Nat, a < 137 ∨ 2000 ≤ a → g2 a b = g1 a b := fun a b z => hf2 a b (fun y => by have w := (nz_X12_days_lo P1.2.1 _ _ y); omega)
  have hR2 : mz_sr g1 g2 := ⟨hf2 82 1 (nw_X12_days_82 P1.2.1), hf2 137 15 (nw_X12_days_15 P1.2.1), fun j => hf2 149 j (nw_X12_days_149 P1.2.1 j), fun j => hf2 142 j (nw_X12_days_142 P1.2.1 j), fun j hj => hf2 140 j (nw_X12_days_140 P1.2.1 j hj)⟩
  have P2 := mz_Lq_r P1 hI2 hR2 hp2_0
  obtain ⟨hT2, hE⟩ := RR_kq P.2.1 e1 e2 (days_k P.2.1 (RR_s T hS1) (mz_rd P.1 (bd_5000 _)).1 (mz_rd P.1 (bd_5000 _)).2) hF2
  show mm_W d mmL_law 471 [some (.ref 5000), some (.ref 0), some (.ref 137), some (.ref 179), some (.int (Int32.ofInt i)), o5, o6] [.int (Int32.ofInt r2)] (mz_mk g2 x) Q
  refine mm_g 1 (pc1 := 472) (lo1 := [some (.ref 5000), some (.ref 0), some (.ref 137), some (.ref 179), some (.int (Int32.ofInt i)), o5, o6]) (st1 := []) (H1 := mz_mk g2 x) rfl ?_
  refine mz_gt (tgt := 1388) rfl rfl ?_
  exact kk g2 x _ _ h5 h6_ P2 hT2
set_option maxHeartbeats 4000000 in
set_option maxRecDepth 100000 in
theorem law_8 {d : Nat} (hd : 15 ≤ d) {so : Option Nat} {L : Nat} (hL : L ≤ 3072) {i : Int} (h0 : 0 ≤ i) (h6 : i + 6 ≤ L) {o5 o6 : Option Value} (h5 : mz_nl o5) (h6_ : mz_nl o6) {g : mz_G} {x : mm_X} (P : mz_Lq so L i g x) (T : RR x g) {Q : (Option Value ⊕ Nat) → mm_H → Prop} (kk : ∀ g1 x1 p5 p6, mz_nl p5 → mz_nl p6 → mz_Lq so L (i + 6) g1 x1 → RR x1 g1 → mm_W d mmL_law 1388 [some (.ref 5000), some (.ref 0), some (.ref 137), some (.ref 179), some (.int (Int32.ofInt i)), p5, p6] [] (mz_mk g1 x1) Q) : mm_W d mmL_law 475 [some (.ref 5000), some (.ref 0), some (.ref 137), some (.ref 179), some (.int (Int32.ofInt i)), o5, o6] [] (mz_mk g x) Q := by
  refine mm_g 4 (pc1 := 480) (lo1 := [some (.ref 5000), some (.ref 0), some (.ref 137), some (.ref 179), some (.int (Int32.ofInt i)), o5, o6]) (st1 := [.int (Int32.ofInt 1), .int (Int32.ofInt i), .ref 5000, .ref 0]) (H1 := mz_mk g x) rfl ?_
  refine mz_iadd rfl ?_
  refine mz_iaS (v := (g 5000 ((i + 1) : Int).toNat)) rfl (sh_5000 _) (by omega) (by have h9 := P.2.2.2.2.1; omega) (by have h9 := P.2.2.2.2.1; omega) rfl ?_
  refine mm_g 3 (pc1 := 486) (lo1 := [some (.ref 5000), some (.ref 0), some (.ref 137), some (.ref 179), some (.int (Int32.ofInt i)), o5, o6]) (st1 := [.int (Int32.ofInt 2), .int (Int32.ofInt i), .ref 5000, .int (Int32.ofInt (g 5000 ((i + 1) : Int).toNat)), .ref 0]) (H1 := mz_mk g x) rfl ?_
  refine mz_iadd rfl ?_
  refine mz_iaS (v := (g 5000 ((i + 2) : Int).toNat)) rfl (sh_5000 _) (by omega) (by have h9 := P.2.2.2.2.1; omega) (by have h9 := P.2.2.2.2.1; omega) rfl ?_
  refine mm_g 1 (pc1 := 489) (lo1 := [some (.ref 5000), some (.ref 0), some (.ref 137), some (.ref 179), some (.int (Int32.ofInt i)), o5, o6]) (st1 := [.ref 179, .int (Int32.ofInt (g 5000 ((i + 2) : Int).toNat)), .int (Int32.ofInt (g 5000 ((i + 1) : Int).toNat)), .ref 0]) (H1 := mz_mk g x) rfl ?_
  refine mz_cs rfl mt_13_128 (by decide) rfl (Nat.le_of_ble_eq_true rfl) (by omega) (w_L_draw (by omega) P.2.1 P.1 (mz_rd P.1 (bd_5000 _)).1 (mz_rd P.1 (bd_5000 _)).2 (mz_rd P.1 (bd_5000 _)).1 (mz_rd P.1 (bd_5000 _)).2 (fun r1 g1 x1 hI1 hX1 hS1 hW1 => ⟨_, rfl, ?_⟩))
  have P1 := mz_Lq_c P hI1 hS1 hX1
  show mm_W d mmL_law 492 [some (.ref 5000), some (.ref 0), some (.ref 137), some (.ref 179), some (.int (Int32.ofInt i)), o5, o6] [.int (Int32.ofInt r1)] (mz_mk g1 x1) Q
  refine mm_g 5 (pc1 := 499) (lo1 := [some (.ref 5000), some (.ref 0), some (.ref 137), some (.ref 179), some (.int (Int32.ofInt i)), some (.int (Int32.ofInt r1)), o6]) (st1 := [.int (Int32.ofInt 1), .int (Int32.ofInt i), .ref 5000, .ref 137]) (H1 := mz_mk g1 x1) rfl ?_
  refine mz_iadd rfl ?_
  refine mz_iaS (v := (g1 5000 ((i + 1) : Int).toNat)) rfl (sh_5000 _) (by omega) (by have h9 := P1.2.2.2.2.1; omega) (by have h9 := P1.2.2.2.2.1; omega) rfl ?_
  refine mm_g 3 (pc1 := 505) (lo1 := [some (.ref 5000), some (.ref 0), some (.ref 137), some (.ref 179), some (.int (Int32.ofInt i)), some (.int (Int32.ofInt r1)), o6]) (st1 := [.int (Int32.ofInt 2), .int (Int32.ofInt i), .ref 5000, .int (Int32.ofInt (g1 5000 ((i + 1) : Int).toNat)), .ref 137]) (H1 := mz_mk g1 x1) rfl ?_
  refine mz_iadd rfl ?_
  refine mz_iaS (v := (g1 5000 ((i + 2) : Int).toNat)) rfl (sh_5000 _) (by omega) (by have h9 := P1.2.2.2.2.1; omega) (by have h9 := P1.2.2.2.2.1; omega) rfl ?_
  refine mz_cv rfl mt_13_130 (by decide) rfl rfl (Nat.le_of_ble_eq_true rfl) (by omega) (f_X12_draw (by omega) P1.2.1 P1.1 (mz_rd P1.1 (bd_5000 _)).1 (mz_rd P1.1 (bd_5000 _)).2 (mz_rd P1.1 (bd_5000 _)).1 (mz_rd P1.1 (bd_5000 _)).2 P1.2.2.1.1 P1.2.2.1.2.1 (fun r2 g2 hI2 hf2 l_r2 u_r2 hp2_0 e2 => ⟨_, rfl, ?_⟩))
  have hq2 : ∀ j : Nat, g1 5000 j = g 5000 j := fun j => hS1 5000 j (by decide)
  rw [hq2, hq2] at e2
  have hF2 : ∀ a b : Nat, a < 137 ∨ 2000 ≤ a → g2 a b = g1 a b := fun a b z => hf2 a b (fun y => by have w := (nz_X12_draw_lo P1.2.1 _ _ y); omega)
  have hR2 : mz_sr g1 g2 := ⟨hf2 82 1 (nw_X12_draw_82 P1.2.1), hf2 137 15 (nw_X12_draw_15 P1.2.1), fun j => hf2 149 j (nw_X12_draw_149 P1.2.1 j), fun j => hf2 142 j (nw_X12_draw_142 P1.2.1 j), fun j hj => hf2 140 j (nw_X12_draw_140 P1.2.1 j hj)⟩
  have P2 := mz_Lq_r P1 hI2 hR2 hp2_0
  obtain ⟨hT2, hk2, hO2, hr0, hr2⟩ := RR_kp P.2.1 hW1 e2 (draw_k P.2.1 (RR_s T hS1)) hF2
  show mm_W d mmL_law 510 [some (.ref 5000), some (.ref 0), some (.ref 137), some (.ref 179), some (.int (Int32.ofInt i)), some (.int (Int32.ofInt r1)), o6] [.int (Int32.ofInt r2)] (mz_mk g2 x1) Q
  refine mm_g 1 (pc1 := 512) (lo1 := [some (.ref 5000), some (.ref 0), some (.ref 137), some (.ref 179), some (.int (Int32.ofInt i)), some (.int (Int32.ofInt r1)), some (.int (Int32.ofInt r2))]) (st1 := []) (H1 := mz_mk g2 x1) rfl ?_
  refine mz_gt (tgt := 1388) rfl rfl ?_
  exact kk g2 x1 _ _ (mz_nl_i _) (mz_nl_i _) P2 hT2
set_option maxHeartbeats 4000000 in
set_option maxRecDepth 100000 in
theorem law_9 {d : Nat} (hd : 16 ≤ d) {so : Option Nat} {L : Nat} (hL : L ≤ 3072) {i : Int} (h0 : 0 ≤ i) (h6 : i + 6 ≤ L) {o5 o6 : Option Value} (h5 : mz_nl o5) (h6_ : mz_nl o6) {g : mz_G} {x : mm_X} (P : mz_Lq so L i g x) (T : RR x g) {Q : (Option Value ⊕ Nat) → mm_H → Prop} (kk : ∀ g1 x1 p5 p6, mz_nl p5 → mz_nl p6 → mz_Lq so L (i + 6) g1 x1 → RR x1 g1 → mm_W d mmL_law 1388 [some (.ref 5000), some (.ref 0), some (.ref 137), some (.ref 179), some (.int (Int32.ofInt i)), p5, p6] [] (mz_mk g1 x1) Q) : mm_W d mmL_law 515 [some (.ref 5000), some (.ref 0), some (.ref 137), some (.ref 179), some (.int (Int32.ofInt i)), o5, o6] [] (mz_mk g x) Q := by
  refine mm_g 4 (pc1 := 520) (lo1 := [some (.ref 5000), some (.ref 0), some (.ref 137), some (.ref 179), some (.int (Int32.ofInt i)), o5, o6]) (st1 := [.int (Int32.ofInt 1), .int (Int32.ofInt i), .ref 5000, .ref 0]) (H1 := mz_mk g x) rfl ?_
  refine mz_iadd rfl ?_
  refine mz_iaS (v := (g 5000 ((i + 1) : Int).toNat)) rfl (sh_5000 _) (by omega) (by have h9 := P.2.2.2.2.1; omega) (by have h9 := P.2.2.2.2.1; omega) rfl ?_
  refine mm_g 3 (pc1 := 526) (lo1 := [some (.ref 5000), some (.ref 0), some (.ref 137), some (.ref 179), some (.int (Int32.ofInt i)), o5, o6]) (st1 := [.int (Int32.ofInt 2), .int (Int32.ofInt i), .ref 5000, .int (Int32.ofInt (g 5000 ((i + 1) : Int).toNat)), .ref 0]) (H1 := mz_mk g x) rfl ?_
  refine mz_iadd rfl ?_
  refine mz_iaS (v := (g 5000 ((i + 2) : Int).toNat)) rfl (sh_5000 _) (by omega) (by have h9 := P.2.2.2.2.1; omega) (by have h9 := P.2.2.2.2.1; omega) rfl ?_
  refine mm_g 1 (pc1 := 529) (lo1 := [some (.ref 5000), some (.ref 0), some (.ref 137), some (.ref 179), some (.int (Int32.ofInt i)), o5, o6]) (st1 := [.ref 179, .int (Int32.ofInt (g 5000 ((i + 2) : Int).toNat)), .int (Int32.ofInt (g 5000 ((i + 1) : Int).toNat)), .ref 0]) (H1 := mz_mk g x) rfl ?_
  refine mz_cs rfl mt_13_131 (by decide) rfl (Nat.le_of_ble_eq_true rfl) (by omega) (w_L_pull (by omega) P.2.1 P.1 (mz_rd P.1 (bd_5000 _)).1 (mz_rd P.1 (bd_5000 _)).2 (mz_rd P.1 (bd_5000 _)).1 (mz_rd P.1 (bd_5000 _)).2 (fun r1 g1 x1 hI1 hX1 hS1 hW1 => ⟨_, rfl, ?_⟩))
  have P1 := mz_Lq_c P hI1 hS1 hX1
  show mm_W d mmL_law 532 [some (.ref 5000), some (.ref 0), some (.ref 137), some (.ref 179), some (.int (Int32.ofInt i)), o5, o6] [.int (Int32.ofInt r1)] (mz_mk g1 x1) Q
  refine mm_g 5 (pc1 := 539) (lo1 := [some (.ref 5000), some (.ref 0), some (.ref 137), some (.ref 179), some (.int (Int32.ofInt i)), some (.int (Int32.ofInt r1)), o6]) (st1 := [.int (Int32.ofInt 1), .int (Int32.ofInt i), .ref 5000, .ref 137]) (H1 := mz_mk g1 x1) rfl ?_
  refine mz_iadd rfl ?_
  refine mz_iaS (v := (g1 5000 ((i + 1) : Int).toNat)) rfl (sh_5000 _) (by omega) (by have h9 := P1.2.2.2.2.1; omega) (by have h9 := P1.2.2.2.2.1; omega) rfl ?_
  refine mm_g 3 (pc1 := 545) (lo1 := [some (.ref 5000), some (.ref 0), some (.ref 137), some (.ref 179), some (.int (Int32.ofInt i)), some (.int (Int32.ofInt r1)), o6]) (st1 := [.int (Int32.ofInt 2), .int (Int32.ofInt i), .ref 5000, .int (Int32.ofInt (g1 5000 ((i + 1) : Int).toNat)), .ref 137]) (H1 := mz_mk g1 x1) rfl ?_
  refine mz_iadd rfl ?_
  refine mz_iaS (v := (g1 5000 ((i + 2) : Int).toNat)) rfl (sh_5000 _) (by omega) (by have h9 := P1.2.2.2.2.1; omega) (by have h9 := P1.2.2.2.2.1; omega) rfl ?_
  refine mz_cv rfl mt_13_133 (by decide) rfl rfl (Nat.le_of_ble_eq_true rfl) (by omega) (f_X12_pull (by omega) P1.2.1 P1.1 (mz_rd P1.1 (bd_5000 _)).1 (mz_rd P1.1 (bd_5000 _)).2 (mz_rd P1.1 (bd_5000 _)).1 (mz_rd P1.1 (bd_5000 _)).2 P1.2.2.1.1 P1.2.2.1.2.1 (fun r2 g2 hI2 hf2 l_r2 u_r2 hp2_0 e2 => ⟨_, rfl, ?_⟩))
  have hq2 : ∀ j : Nat, g1 5000 j = g 5000 j := fun j => hS1 5000 j (by decide)
  rw [hq2, hq2] at e2
  have hF2 : ∀ a b : Nat, a < 137 ∨ 2000 ≤ a → g2 a b = g1 a b := fun a b z => hf2 a b (fun y => by have w := (nz_X12_pull_lo P1.2.1 _ _ y); omega)
  have hR2 : mz_sr g1 g2 := ⟨hf2 82 1 (nw_X12_pull_82 P1.2.1), hf2 137 15 (nw_X12_pull_15 P1.2.1), fun j => hf2 149 j (nw_X12_pull_149 P1.2.1 j), fun j => hf2 142 j (nw_X12_pull_142 P1.2.1 j), fun j hj => hf2 140 j (nw_X12_pull_140 P1.2.1 j hj)⟩
  have P2 := mz_Lq_r P1 hI2 hR2 hp2_0
  obtain ⟨hT2, hk2, hO2, hr0, hr2⟩ := RR_kp P.2.1 hW1 e2 (pull_k P.2.1 (RR_s T hS1)) hF2
  show mm_W d mmL_law 550 [some (.ref 5000), some (.ref 0), some (.ref 137), some (.ref 179), some (.int (Int32.ofInt i)), some (.int (Int32.ofInt r1)), o6] [.int (Int32.ofInt r2)] (mz_mk g2 x1) Q
  refine mm_g 1 (pc1 := 552) (lo1 := [some (.ref 5000), some (.ref 0), some (.ref 137), some (.ref 179), some (.int (Int32.ofInt i)), some (.int (Int32.ofInt r1)), some (.int (Int32.ofInt r2))]) (st1 := []) (H1 := mz_mk g2 x1) rfl ?_
  refine mz_gt (tgt := 1388) rfl rfl ?_
  exact kk g2 x1 _ _ (mz_nl_i _) (mz_nl_i _) P2 hT2
set_option maxHeartbeats 4000000 in
set_option maxRecDepth 100000 in
theorem law_10 {d : Nat} (hd : 15 ≤ d) {so : Option Nat} {L : Nat} (hL : L ≤ 3072) {i : Int} (h0 : 0 ≤ i) (h6 : i + 6 ≤ L) {o5 o6 : Option Value} (h5 : mz_nl o5) (h6_ : mz_nl o6) {g : mz_G} {x : mm_X} (P : mz_Lq so L i g x) (T : RR x g) {Q : (Option Value ⊕ Nat) → mm_H → Prop} (kk : ∀ g1 x1 p5 p6, mz_nl p5 → mz_nl p6 → mz_Lq so L (i + 6) g1 x1 → RR x1 g1 → mm_W d mmL_law 1388 [some (.ref 5000), some (.ref 0), some (.ref 137), some (.ref 179), some (.int (Int32.ofInt i)), p5, p6] [] (mz_mk g1 x1) Q) : mm_W d mmL_law 555 [some (.ref 5000), some (.ref 0), some (.ref 137), some (.ref 179), some (.int (Int32.ofInt i)), o5, o6] [] (mz_mk g x) Q := by
  refine mm_g 4 (pc1 := 560) (lo1 := [some (.ref 5000), some (.ref 0), some (.ref 137), some (.ref 179), some (.int (Int32.ofInt i)), o5, o6]) (st1 := [.int (Int32.ofInt 1), .int (Int32.ofInt i), .ref 5000, .ref 0]) (H1 := mz_mk g x) rfl ?_
  refine mz_iadd rfl ?_
  refine mz_iaS (v := (g 5000 ((i + 1) : Int).toNat)) rfl (sh_5000 _) (by omega) (by have h9 := P.2.2.2.2.1; omega) (by have h9 := P.2.2.2.2.1; omega) rfl ?_
  refine mm_g 1 (pc1 := 563) (lo1 := [some (.ref 5000), some (.ref 0), some (.ref 137), some (.ref 179), some (.int (Int32.ofInt i)), o5, o6]) (st1 := [.ref 179, .int (Int32.ofInt (g 5000 ((i + 1) : Int).toNat)), .ref 0]) (H1 := mz_mk g x) rfl ?_
  refine mz_cs rfl mt_13_134 (by decide) rfl (Nat.le_of_ble_eq_true rfl) (by omega) (w_L_turn (by omega) P.2.1 P.1 (mz_rd P.1 (bd_5000 _)).1 (mz_rd P.1 (bd_5000 _)).2 (fun r1 g1 x1 hI1 hX1 hS1 hW1 => ⟨_, rfl, ?_⟩))
  have P1 := mz_Lq_c P hI1 hS1 hX1
  show mm_W d mmL_law 566 [some (.ref 5000), some (.ref 0), some (.ref 137), some (.ref 179), some (.int (Int32.ofInt i)), o5, o6] [.int (Int32.ofInt r1)] (mz_mk g1 x1) Q
  refine mm_g 5 (pc1 := 573) (lo1 := [some (.ref 5000), some (.ref 0), some (.ref 137), some (.ref 179), some (.int (Int32.ofInt i)), some (.int (Int32.ofInt r1)), o6]) (st1 := [.int (Int32.ofInt 1), .int (Int32.ofInt i), .ref 5000, .ref 137]) (H1 := mz_mk g1 x1) rfl ?_
  refine mz_iadd rfl ?_
  refine mz_iaS (v := (g1 5000 ((i + 1) : Int).toNat)) rfl (sh_5000 _) (by omega) (by have h9 := P1.2.2.2.2.1; omega) (by have h9 := P1.2.2.2.2.1; omega) rfl ?_
  refine mz_cv rfl mt_13_136 (by decide) rfl rfl (Nat.le_of_ble_eq_true rfl) (by omega) (f_X12_turn (by omega) P1.2.1 P1.1 (mz_rd P1.1 (bd_5000 _)).1 (mz_rd P1.1 (bd_5000 _)).2 P1.2.2.1.1 P1.2.2.1.2.1 (fun r2 g2 hI2 hf2 l_r2 u_r2 hp2_0 e2 => ⟨_, rfl, ?_⟩))
  have hq2 : ∀ j : Nat, g1 5000 j = g 5000 j := fun j => hS1 5000 j (by decide)
  rw [hq2] at e2
  have hF2 : ∀ a b : Nat, a < 137 ∨ 2000 ≤ a → g2 a b = g1 a b := fun a b z => hf2 a b (fun y => by have w := (nz_X12_turn_lo P1.2.1 _ _ y); omega)
  have hR2 : mz_sr g1 g2 := ⟨hf2 82 1 (nw_X12_turn_82 P1.2.1), hf2 137 15 (nw_X12_turn_15 P1.2.1), fun j => hf2 149 j (nw_X12_turn_149 P1.2.1 j), fun j => hf2 142 j (nw_X12_turn_142 P1.2.1 j), fun j hj => hf2 140 j (nw_X12_turn_140 P1.2.1 j hj)⟩
  have P2 := mz_Lq_r P1 hI2 hR2 hp2_0
  obtain ⟨hT2, hk2, hO2, hr0, hr2⟩ := RR_kp P.2.1 hW1 e2 (turn_k P.2.1 (RR_s T hS1)) hF2
  show mm_W d mmL_law 578 [some (.ref 5000), some (.ref 0), some (.ref 137), some (.ref 179), some (.int (Int32.ofInt i)), some (.int (Int32.ofInt r1)), o6] [.int (Int32.ofInt r2)] (mz_mk g2 x1) Q
  refine mm_g 1 (pc1 := 580) (lo1 := [some (.ref 5000), some (.ref 0), some (.ref 137), some (.ref 179), some (.int (Int32.ofInt i)), some (.int (Int32.ofInt r1)), some (.int (Int32.ofInt r2))]) (st1 := []) (H1 := mz_mk g2 x1) rfl ?_
  refine mz_gt (tgt := 1388) rfl rfl ?_
  exact kk g2 x1 _ _ (mz_nl_i _) (mz_nl_i _) P2 hT2
set_option maxHeartbeats 4000000 in
set_option maxRecDepth 100000 in
theorem law_11 {d : Nat} (hd : 15 ≤ d) {so : Option Nat} {L : Nat} (hL : L ≤ 3072) {i : Int} (h0 : 0 ≤ i) (h6 : i + 6 ≤ L) {o5 o6 : Option Value} (h5 : mz_nl o5) (h6_ : mz_nl o6) {g : mz_G} {x : mm_X} (P : mz_Lq so L i g x) (T : RR x g) {Q : (Option Value ⊕ Nat) → mm_H → Prop} (kk : ∀ g1 x1 p5 p6, mz_nl p5 → mz_nl p6 → mz_Lq so L (i + 6) g1 x1 → RR x1 g1 → mm_W d mmL_law 1388 [some (.ref 5000), some (.ref 0), some (.ref 137), some (.ref 179), some (.int (Int32.ofInt i)), p5, p6] [] (mz_mk g1 x1) Q) : mm_W d mmL_law 583 [some (.ref 5000), some (.ref 0), some (.ref 137), some (.ref 179), some (.int (Int32.ofInt i)), o5, o6] [] (mz_mk g x) Q := by
  refine mm_g 4 (pc1 := 588) (lo1 := [some (.ref 5000), some (.ref 0), some (.ref 137), some (.ref 179), some (.int (Int32.ofInt i)), o5, o6]) (st1 := [.int (Int32.ofInt 1), .int (Int32.ofInt i), .ref 5000, .ref 0]) (H1 := mz_mk g x) rfl ?_
  refine mz_iadd rfl ?_
  refine mz_iaS (v := (g 5000 ((i + 1) : Int).toNat)) rfl (sh_5000 _) (by omega) (by have h9 := P.2.2.2.2.1; omega) (by have h9 := P.2.2.2.2.1; omega) rfl ?_
  refine mm_g 3 (pc1 := 594) (lo1 := [some (.ref 5000), some (.ref 0), some (.ref 137), some (.ref 179), some (.int (Int32.ofInt i)), o5, o6]) (st1 := [.int (Int32.ofInt 2), .int (Int32.ofInt i), .ref 5000, .int (Int32.ofInt (g 5000 ((i + 1) : Int).toNat)), .ref 0]) (H1 := mz_mk g x) rfl ?_
  refine mz_iadd rfl ?_
  refine mz_iaS (v := (g 5000 ((i + 2) : Int).toNat)) rfl (sh_5000 _) (by omega) (by have h9 := P.2.2.2.2.1; omega) (by have h9 := P.2.2.2.2.1; omega) rfl ?_
  refine mm_g 3 (pc1 := 600) (lo1 := [some (.ref 5000), some (.ref 0), some (.ref 137), some (.ref 179), some (.int (Int32.ofInt i)), o5, o6]) (st1 := [.int (Int32.ofInt 3), .int (Int32.ofInt i), .ref 5000, .int (Int32.ofInt (g 5000 ((i + 2) : Int).toNat)), .int (Int32.ofInt (g 5000 ((i + 1) : Int).toNat)), .ref 0]) (H1 := mz_mk g x) rfl ?_
  refine mz_iadd rfl ?_
  refine mz_iaS (v := (g 5000 ((i + 3) : Int).toNat)) rfl (sh_5000 _) (by omega) (by have h9 := P.2.2.2.2.1; omega) (by have h9 := P.2.2.2.2.1; omega) rfl ?_
  refine mm_g 1 (pc1 := 603) (lo1 := [some (.ref 5000), some (.ref 0), some (.ref 137), some (.ref 179), some (.int (Int32.ofInt i)), o5, o6]) (st1 := [.ref 179, .int (Int32.ofInt (g 5000 ((i + 3) : Int).toNat)), .int (Int32.ofInt (g 5000 ((i + 2) : Int).toNat)), .int (Int32.ofInt (g 5000 ((i + 1) : Int).toNat)), .ref 0]) (H1 := mz_mk g x) rfl ?_
  refine mz_cs rfl mt_13_137 (by decide) rfl (Nat.le_of_ble_eq_true rfl) (by omega) (w_L_pack (by omega) P.2.1 P.1 (mz_rd P.1 (bd_5000 _)).1 (mz_rd P.1 (bd_5000 _)).2 (mz_rd P.1 (bd_5000 _)).1 (mz_rd P.1 (bd_5000 _)).2 (mz_rd P.1 (bd_5000 _)).1 (mz_rd P.1 (bd_5000 _)).2 (fun r1 g1 x1 hI1 hX1 hS1 hW1 => ⟨_, rfl, ?_⟩))
  have P1 := mz_Lq_c P hI1 hS1 hX1
  show mm_W d mmL_law 606 [some (.ref 5000), some (.ref 0), some (.ref 137), some (.ref 179), some (.int (Int32.ofInt i)), o5, o6] [.int (Int32.ofInt r1)] (mz_mk g1 x1) Q
  refine mm_g 5 (pc1 := 613) (lo1 := [some (.ref 5000), some (.ref 0), some (.ref 137), some (.ref 179), some (.int (Int32.ofInt i)), some (.int (Int32.ofInt r1)), o6]) (st1 := [.int (Int32.ofInt 1), .int (Int32.ofInt i), .ref 5000, .ref 137]) (H1 := mz_mk g1 x1) rfl ?_
  refine mz_iadd rfl ?_
  refine mz_iaS (v := (g1 5000 ((i + 1) : Int).toNat)) rfl (sh_5000 _) (by omega) (by have h9 := P1.2.2.2.2.1; omega) (by have h9 := P1.2.2.2.2.1; omega) rfl ?_
  refine mm_g 3 (pc1 := 619) (lo1 := [some (.ref 5000), some (.ref 0), some (.ref 137), some (.ref 179), some (.int (Int32.ofInt i)), some (.int (Int32.ofInt r1)), o6]) (st1 := [.int (Int32.ofInt 2), .int (Int32.ofInt i), .ref 5000, .int (Int32.ofInt (g1 5000 ((i + 1) : Int).toNat)), .ref 137]) (H1 := mz_mk g1 x1) rfl ?_
  refine mz_iadd rfl ?_
  refine mz_iaS (v := (g1 5000 ((i + 2) : Int).toNat)) rfl (sh_5000 _) (by omega) (by have h9 := P1.2.2.2.2.1; omega) (by have h9 := P1.2.2.2.2.1; omega) rfl ?_
  refine mm_g 3 (pc1 := 625) (lo1 := [some (.ref 5000), some (.ref 0), some (.ref 137), some (.ref 179), some (.int (Int32.ofInt i)), some (.int (Int32.ofInt r1)), o6]) (st1 := [.int (Int32.ofInt 3), .int (Int32.ofInt i), .ref 5000, .int (Int32.ofInt (g1 5000 ((i + 2) : Int).toNat)), .int (Int32.ofInt (g1 5000 ((i + 1) : Int).toNat)), .ref 137]) (H1 := mz_mk g1 x1) rfl ?_
  refine mz_iadd rfl ?_
  refine mz_iaS (v := (g1 5000 ((i + 3) : Int).toNat)) rfl (sh_5000 _) (by omega) (by have h9 := P1.2.2.2.2.1; omega) (by have h9 := P1.2.2.2.2.1; omega) rfl ?_
  refine mz_cv rfl mt_13_140 (by decide) rfl rfl (Nat.le_of_ble_eq_true rfl) (by omega) (f_X12_pack (by omega) P1.2.1 P1.1 (mz_rd P1.1 (bd_5000 _)).1 (mz_rd P1.1 (bd_5000 _)).2 (mz_rd P1.1 (bd_5000 _)).1 (mz_rd P1.1 (bd_5000 _)).2 (mz_rd P1.1 (bd_5000 _)).1 (mz_rd P1.1 (bd_5000 _)).2 P1.2.2.1.1 P1.2.2.1.2.1 (fun r2 g2 hI2 hf2 l_r2 u_r2 hp2_0 e2 => ⟨_, rfl, ?_⟩))
  have hq2 : ∀ j : Nat, g1 5000 j = g 5000 j := fun j => hS1 5000 j (by decide)
  rw [hq2, hq2, hq2] at e2
  have hF2 : ∀ a b : Nat, a < 137 ∨ 2000 ≤ a → g2 a b = g1 a b := fun a b z => hf2 a b (fun y => by have w := (nz_X12_pack_lo P1.2.1 _ _ y); omega)
  have hR2 : mz_sr g1 g2 := ⟨hf2 82 1 (nw_X12_pack_82 P1.2.1), hf2 137 15 (nw_X12_pack_15 P1.2.1), fun j => hf2 149 j (nw_X12_pack_149 P1.2.1 j), fun j => hf2 142 j (nw_X12_pack_142 P1.2.1 j), fun j hj => hf2 140 j (nw_X12_pack_140 P1.2.1 j hj)⟩
  have P2 := mz_Lq_r P1 hI2 hR2 hp2_0
  obtain ⟨hT2, hk2, hO2, hr0, hr2⟩ := RR_kp P.2.1 hW1 e2 (pack_k P.2.1 (RR_s T hS1)) hF2
  show mm_W d mmL_law 630 [some (.ref 5000), some (.ref 0), some (.ref 137), some (.ref 179), some (.int (Int32.ofInt i)), some (.int (Int32.ofInt r1)), o6] [.int (Int32.ofInt r2)] (mz_mk g2 x1) Q
  refine mm_g 1 (pc1 := 632) (lo1 := [some (.ref 5000), some (.ref 0), some (.ref 137), some (.ref 179), some (.int (Int32.ofInt i)), some (.int (Int32.ofInt r1)), some (.int (Int32.ofInt r2))]) (st1 := []) (H1 := mz_mk g2 x1) rfl ?_
  refine mz_gt (tgt := 1388) rfl rfl ?_
  exact kk g2 x1 _ _ (mz_nl_i _) (mz_nl_i _) P2 hT2
set_option maxHeartbeats 4000000 in
set_option maxRecDepth 100000 in
theorem law_12 {d : Nat} (hd : 5 ≤ d) {so : Option Nat} {L : Nat} (hL : L ≤ 3072) {i : Int} (h0 : 0 ≤ i) (h6 : i + 6 ≤ L) {o5 o6 : Option Value} (h5 : mz_nl o5) (h6_ : mz_nl o6) {g : mz_G} {x : mm_X} (P : mz_Lq so L i g x) (T : RR x g) {Q : (Option Value ⊕ Nat) → mm_H → Prop} (kk : ∀ g1 x1 p5 p6, mz_nl p5 → mz_nl p6 → mz_Lq so L (i + 6) g1 x1 → RR x1 g1 → mm_W d mmL_law 1388 [some (.ref 5000), some (.ref 0), some (.ref 137), some (.ref 179), some (.int (Int32.ofInt i)), p5, p6] [] (mz_mk g1 x1) Q) : mm_W d mmL_law 635 [some (.ref 5000), some (.ref 0), some (.ref 137), some (.ref 179), some (.int (Int32.ofInt i)), o5, o6] [] (mz_mk g x) Q := by
  refine mm_g 1 (pc1 := 636) (lo1 := [some (.ref 5000), some (.ref 0), some (.ref 137), some (.ref 179), some (.int (Int32.ofInt i)), o5, o6]) (st1 := [.ref 0]) (H1 := mz_mk g x) rfl ?_
  refine mz_cv rfl mt_13_141 (by decide) rfl rfl (Nat.le_of_ble_eq_true rfl) (by omega) (f_X11_undo (by omega) P.2.1 P.1 (fun r1 g1 hI1 hf1 l_r1 u_r1 e1 => ⟨_, rfl, ?_⟩))
  have hS1 : ∀ k j : Nat, 137 ≤ k → g1 k j = g k j := fun k j hk => hf1 k j (nw_X11_undo_137 P.2.1 k j hk)
  have P1 := mz_Lq_c P hI1 hS1 (mz_xx_rf P.2.1)
  show mm_W d mmL_law 639 [some (.ref 5000), some (.ref 0), some (.ref 137), some (.ref 179), some (.int (Int32.ofInt i)), o5, o6] [.int (Int32.ofInt r1)] (mz_mk g1 x) Q
  refine mm_g 2 (pc1 := 641) (lo1 := [some (.ref 5000), some (.ref 0), some (.ref 137), some (.ref 179), some (.int (Int32.ofInt i)), o5, o6]) (st1 := [.ref 137]) (H1 := mz_mk g1 x) rfl ?_
  refine mz_cv rfl mt_13_144 (by decide) rfl rfl (Nat.le_of_ble_eq_true rfl) (by omega) (f_X12_undo (by omega) P1.2.1 P1.1 P1.2.2.1.1 P1.2.2.1.2.1 (fun r2 g2 hI2 hf2 l_r2 u_r2 hp2_0 e2 => ⟨_, rfl, ?_⟩))
  have hF2 : ∀ a b : Nat, a < 137 ∨ 2000 ≤ a → g2 a b = g1 a b := fun a b z => hf2 a b (fun y => by have w := (nz_X12_undo_lo P1.2.1 _ _ y); omega)
  have hR2 : mz_sr g1 g2 := ⟨hf2 82 1 (nw_X12_undo_82 P1.2.1), hf2 137 15 (nw_X12_undo_15 P1.2.1), fun j => hf2 149 j (nw_X12_undo_149 P1.2.1 j), fun j => hf2 142 j (nw_X12_undo_142 P1.2.1 j), fun j hj => hf2 140 j (nw_X12_undo_140 P1.2.1 j hj)⟩
  have P2 := mz_Lq_r P1 hI2 hR2 hp2_0
  obtain ⟨hT2, hE⟩ := RR_kq P.2.1 e1 e2 (undo_k P.2.1 (RR_s T hS1)) hF2
  show mm_W d mmL_law 644 [some (.ref 5000), some (.ref 0), some (.ref 137), some (.ref 179), some (.int (Int32.ofInt i)), o5, o6] [.int (Int32.ofInt r2)] (mz_mk g2 x) Q
  refine mm_g 1 (pc1 := 645) (lo1 := [some (.ref 5000), some (.ref 0), some (.ref 137), some (.ref 179), some (.int (Int32.ofInt i)), o5, o6]) (st1 := []) (H1 := mz_mk g2 x) rfl ?_
  refine mz_gt (tgt := 1388) rfl rfl ?_
  exact kk g2 x _ _ h5 h6_ P2 hT2
set_option maxHeartbeats 4000000 in
set_option maxRecDepth 100000 in
theorem law_13 {d : Nat} (hd : 18 ≤ d) {so : Option Nat} {L : Nat} (hL : L ≤ 3072) {i : Int} (h0 : 0 ≤ i) (h6 : i + 6 ≤ L) {o5 o6 : Option Value} (h5 : mz_nl o5) (h6_ : mz_nl o6) {g : mz_G} {x : mm_X} (P : mz_Lq so L i g x) (T : RR x g) {Q : (Option Value ⊕ Nat) → mm_H → Prop} (kk : ∀ g1 x1 p5 p6, mz_nl p5 → mz_nl p6 → mz_Lq so L (i + 6) g1 x1 → RR x1 g1 → mm_W d mmL_law 1388 [some (.ref 5000), some (.ref 0), some (.ref 137), some (.ref 179), some (.int (Int32.ofInt i)), p5, p6] [] (mz_mk g1 x1) Q) : mm_W d mmL_law 648 [some (.ref 5000), some (.ref 0), some (.ref 137), some (.ref 179), some (.int (Int32.ofInt i)), o5, o6] [] (mz_mk g x) Q := by
  refine mm_g 4 (pc1 := 653) (lo1 := [some (.ref 5000), some (.ref 0), some (.ref 137), some (.ref 179), some (.int (Int32.ofInt i)), o5, o6]) (st1 := [.int (Int32.ofInt 1), .int (Int32.ofInt i), .ref 5000, .ref 0]) (H1 := mz_mk g x) rfl ?_
  refine mz_iadd rfl ?_
  refine mz_iaS (v := (g 5000 ((i + 1) : Int).toNat)) rfl (sh_5000 _) (by omega) (by have h9 := P.2.2.2.2.1; omega) (by have h9 := P.2.2.2.2.1; omega) rfl ?_
  refine mm_g 3 (pc1 := 659) (lo1 := [some (.ref 5000), some (.ref 0), some (.ref 137), some (.ref 179), some (.int (Int32.ofInt i)), o5, o6]) (st1 := [.int (Int32.ofInt 2), .int (Int32.ofInt i), .ref 5000, .int (Int32.ofInt (g 5000 ((i + 1) : Int).toNat)), .ref 0]) (H1 := mz_mk g x) rfl ?_
  refine mz_iadd rfl ?_
  refine mz_iaS (v := (g 5000 ((i + 2) : Int).toNat)) rfl (sh_5000 _) (by omega) (by have h9 := P.2.2.2.2.1; omega) (by have h9 := P.2.2.2.2.1; omega) rfl ?_
  refine mm_g 3 (pc1 := 665) (lo1 := [some (.ref 5000), some (.ref 0), some (.ref 137), some (.ref 179), some (.int (Int32.ofInt i)), o5, o6]) (st1 := [.int (Int32.ofInt 3), .int (Int32.ofInt i), .ref 5000, .int (Int32.ofInt (g 5000 ((i + 2) : Int).toNat)), .int (Int32.ofInt (g 5000 ((i + 1) : Int).toNat)), .ref 0]) (H1 := mz_mk g x) rfl ?_
  refine mz_iadd rfl ?_
  refine mz_iaS (v := (g 5000 ((i + 3) : Int).toNat)) rfl (sh_5000 _) (by omega) (by have h9 := P.2.2.2.2.1; omega) (by have h9 := P.2.2.2.2.1; omega) rfl ?_
  refine mm_g 1 (pc1 := 668) (lo1 := [some (.ref 5000), some (.ref 0), some (.ref 137), some (.ref 179), some (.int (Int32.ofInt i)), o5, o6]) (st1 := [.ref 179, .int (Int32.ofInt (g 5000 ((i + 3) : Int).toNat)), .int (Int32.ofInt (g 5000 ((i + 2) : Int).toNat)), .int (Int32.ofInt (g 5000 ((i + 1) : Int).toNat)), .ref 0]) (H1 := mz_mk g x) rfl ?_
  refine mz_cs rfl mt_13_145 (by decide) rfl (Nat.le_of_ble_eq_true rfl) (by omega) (w_L_then (by omega) P.2.1 P.1 (mz_rd P.1 (bd_5000 _)).1 (mz_rd P.1 (bd_5000 _)).2 (mz_rd P.1 (bd_5000 _)).1 (mz_rd P.1 (bd_5000 _)).2 (mz_rd P.1 (bd_5000 _)).1 (mz_rd P.1 (bd_5000 _)).2 (fun r1 g1 x1 hI1 hX1 hS1 hW1 hN1 => ⟨_, rfl, ?_⟩))
  have P1 := mz_Lq_c P hI1 hS1 hX1
  have hT1 : RR x1 g1 := RR_q P.2.1 T hS1 hN1 hW1.2.2.2.1
  show mm_W d mmL_law 671 [some (.ref 5000), some (.ref 0), some (.ref 137), some (.ref 179), some (.int (Int32.ofInt i)), o5, o6] [.int (Int32.ofInt r1)] (mz_mk g1 x1) Q
  refine mm_g 5 (pc1 := 678) (lo1 := [some (.ref 5000), some (.ref 0), some (.ref 137), some (.ref 179), some (.int (Int32.ofInt i)), some (.int (Int32.ofInt r1)), o6]) (st1 := [.int (Int32.ofInt 1), .int (Int32.ofInt i), .ref 5000, .ref 137]) (H1 := mz_mk g1 x1) rfl ?_
  refine mz_iadd rfl ?_
  refine mz_iaS (v := (g1 5000 ((i + 1) : Int).toNat)) rfl (sh_5000 _) (by omega) (by have h9 := P1.2.2.2.2.1; omega) (by have h9 := P1.2.2.2.2.1; omega) rfl ?_
  refine mm_g 3 (pc1 := 684) (lo1 := [some (.ref 5000), some (.ref 0), some (.ref 137), some (.ref 179), some (.int (Int32.ofInt i)), some (.int (Int32.ofInt r1)), o6]) (st1 := [.int (Int32.ofInt 2), .int (Int32.ofInt i), .ref 5000, .int (Int32.ofInt (g1 5000 ((i + 1) : Int).toNat)), .ref 137]) (H1 := mz_mk g1 x1) rfl ?_
  refine mz_iadd rfl ?_
  refine mz_iaS (v := (g1 5000 ((i + 2) : Int).toNat)) rfl (sh_5000 _) (by omega) (by have h9 := P1.2.2.2.2.1; omega) (by have h9 := P1.2.2.2.2.1; omega) rfl ?_
  refine mm_g 3 (pc1 := 690) (lo1 := [some (.ref 5000), some (.ref 0), some (.ref 137), some (.ref 179), some (.int (Int32.ofInt i)), some (.int (Int32.ofInt r1)), o6]) (st1 := [.int (Int32.ofInt 3), .int (Int32.ofInt i), .ref 5000, .int (Int32.ofInt (g1 5000 ((i + 2) : Int).toNat)), .int (Int32.ofInt (g1 5000 ((i + 1) : Int).toNat)), .ref 137]) (H1 := mz_mk g1 x1) rfl ?_
  refine mz_iadd rfl ?_
  refine mz_iaS (v := (g1 5000 ((i + 3) : Int).toNat)) rfl (sh_5000 _) (by omega) (by have h9 := P1.2.2.2.2.1; omega) (by have h9 := P1.2.2.2.2.1; omega) rfl ?_
  refine mz_cv rfl mt_13_147 (by decide) rfl rfl (Nat.le_of_ble_eq_true rfl) (by omega) (f_X12_then (by omega) P1.2.1 P1.1 (mz_rd P1.1 (bd_5000 _)).1 (mz_rd P1.1 (bd_5000 _)).2 (mz_rd P1.1 (bd_5000 _)).1 (mz_rd P1.1 (bd_5000 _)).2 (mz_rd P1.1 (bd_5000 _)).1 (mz_rd P1.1 (bd_5000 _)).2 P1.2.2.1.1 P1.2.2.1.2.1 (fun r2 g2 hI2 hf2 l_r2 u_r2 hp2_0 e2 => ⟨_, rfl, ?_⟩))
  have hF2 : ∀ a b : Nat, a < 137 ∨ 2000 ≤ a → g2 a b = g1 a b := fun a b z => hf2 a b (fun y => by have w := (nz_X12_then_lo P1.2.1 _ _ y); omega)
  have hR2 : mz_sr g1 g2 := ⟨hf2 82 1 (nw_X12_then_82 P1.2.1), hf2 137 15 (nw_X12_then_15 P1.2.1), fun j => hf2 149 j (nw_X12_then_149 P1.2.1 j), fun j => hf2 142 j (nw_X12_then_142 P1.2.1 j), fun j hj => hf2 140 j (nw_X12_then_140 P1.2.1 j hj)⟩
  have P2 := mz_Lq_r P1 hI2 hR2 hp2_0
  have hT2 := RR_r P1.2.1 hT1 hF2 (fun a b z z1 z2 => hf2 a b (fun y => (nz_X12_then_nb5 P1.2.1 _ _ y).elim z (fun w => w.elim z1 z2))) (sm_e e2 (then_s (x := x1) P1.2.1 P1.1 (kr_P P1.1 P1.2.2.1) P1.2.2.1.2.1))
  show mm_W d mmL_law 695 [some (.ref 5000), some (.ref 0), some (.ref 137), some (.ref 179), some (.int (Int32.ofInt i)), some (.int (Int32.ofInt r1)), o6] [.int (Int32.ofInt r2)] (mz_mk g2 x1) Q
  refine mm_g 1 (pc1 := 697) (lo1 := [some (.ref 5000), some (.ref 0), some (.ref 137), some (.ref 179), some (.int (Int32.ofInt i)), some (.int (Int32.ofInt r1)), some (.int (Int32.ofInt r2))]) (st1 := []) (H1 := mz_mk g2 x1) rfl ?_
  refine mz_gt (tgt := 1388) rfl rfl ?_
  exact kk g2 x1 _ _ (mz_nl_i _) (mz_nl_i _) P2 hT2
set_option maxHeartbeats 4000000 in
set_option maxRecDepth 100000 in
theorem law_14 {d : Nat} (hd : 18 ≤ d) {so : Option Nat} {L : Nat} (hL : L ≤ 3072) {i : Int} (h0 : 0 ≤ i) (h6 : i + 6 ≤ L) {o5 o6 : Option Value} (h5 : mz_nl o5) (h6_ : mz_nl o6) {g : mz_G} {x : mm_X} (P : mz_Lq so L i g x) (T : RR x g) {Q : (Option Value ⊕ Nat) → mm_H → Prop} (kk : ∀ g1 x1 p5 p6, mz_nl p5 → mz_nl p6 → mz_Lq so L (i + 6) g1 x1 → RR x1 g1 → mm_W d mmL_law 1388 [some (.ref 5000), some (.ref 0), some (.ref 137), some (.ref 179), some (.int (Int32.ofInt i)), p5, p6] [] (mz_mk g1 x1) Q) : mm_W d mmL_law 700 [some (.ref 5000), some (.ref 0), some (.ref 137), some (.ref 179), some (.int (Int32.ofInt i)), o5, o6] [] (mz_mk g x) Q := by
  refine mm_g 4 (pc1 := 705) (lo1 := [some (.ref 5000), some (.ref 0), some (.ref 137), some (.ref 179), some (.int (Int32.ofInt i)), o5, o6]) (st1 := [.int (Int32.ofInt 1), .int (Int32.ofInt i), .ref 5000, .ref 0]) (H1 := mz_mk g x) rfl ?_
  refine mz_iadd rfl ?_
  refine mz_iaS (v := (g 5000 ((i + 1) : Int).toNat)) rfl (sh_5000 _) (by omega) (by have h9 := P.2.2.2.2.1; omega) (by have h9 := P.2.2.2.2.1; omega) rfl ?_
  refine mm_g 3 (pc1 := 711) (lo1 := [some (.ref 5000), some (.ref 0), some (.ref 137), some (.ref 179), some (.int (Int32.ofInt i)), o5, o6]) (st1 := [.int (Int32.ofInt 2), .int (Int32.ofInt i), .ref 5000, .int (Int32.ofInt (g 5000 ((i + 1) : Int).toNat)), .ref 0]) (H1 := mz_mk g x) rfl ?_
  refine mz_iadd rfl ?_
  refine mz_iaS (v := (g 5000 ((i + 2) : Int).toNat)) rfl (sh_5000 _) (by omega) (by have h9 := P.2.2.2.2.1; omega) (by have h9 := P.2.2.2.2.1; omega) rfl ?_
  refine mm_g 3 (pc1 := 717) (lo1 := [some (.ref 5000), some (.ref 0), some (.ref 137), some (.ref 179), some (.int (Int32.ofInt i)), o5, o6]) (st1 := [.int (Int32.ofInt 3), .int (Int32.ofInt i), .ref 5000, .int (Int32.ofInt (g 5000 ((i + 2) : Int).toNat)), .int (Int32.ofInt (g 5000 ((i + 1) : Int).toNat)), .ref 0]) (H1 := mz_mk g x) rfl ?_
  refine mz_iadd rfl ?_
  refine mz_iaS (v := (g 5000 ((i + 3) : Int).toNat)) rfl (sh_5000 _) (by omega) (by have h9 := P.2.2.2.2.1; omega) (by have h9 := P.2.2.2.2.1; omega) rfl ?_
  refine mm_g 1 (pc1 := 720) (lo1 := [some (.ref 5000), some (.ref 0), some (.ref 137), some (.ref 179), some (.int (Int32.ofInt i)), o5, o6]) (st1 := [.ref 179, .int (Int32.ofInt (g 5000 ((i + 3) : Int).toNat)), .int (Int32.ofInt (g 5000 ((i + 2) : Int).toNat)), .int (Int32.ofInt (g 5000 ((i + 1) : Int).toNat)), .ref 0]) (H1 := mz_mk g x) rfl ?_
  refine mz_cs rfl mt_13_148 (by decide) rfl (Nat.le_of_ble_eq_true rfl) (by omega) (w_L_blend (by omega) P.2.1 P.1 (mz_rd P.1 (bd_5000 _)).1 (mz_rd P.1 (bd_5000 _)).2 (mz_rd P.1 (bd_5000 _)).1 (mz_rd P.1 (bd_5000 _)).2 (mz_rd P.1 (bd_5000 _)).1 (mz_rd P.1 (bd_5000 _)).2 (fun r1 g1 x1 hI1 hX1 hS1 hW1 hN1 => ⟨_, rfl, ?_⟩))
  have P1 := mz_Lq_c P hI1 hS1 hX1
  have hT1 : RR x1 g1 := RR_q P.2.1 T hS1 hN1 hW1.2.2.2.1
  show mm_W d mmL_law 723 [some (.ref 5000), some (.ref 0), some (.ref 137), some (.ref 179), some (.int (Int32.ofInt i)), o5, o6] [.int (Int32.ofInt r1)] (mz_mk g1 x1) Q
  refine mm_g 5 (pc1 := 730) (lo1 := [some (.ref 5000), some (.ref 0), some (.ref 137), some (.ref 179), some (.int (Int32.ofInt i)), some (.int (Int32.ofInt r1)), o6]) (st1 := [.int (Int32.ofInt 1), .int (Int32.ofInt i), .ref 5000, .ref 137]) (H1 := mz_mk g1 x1) rfl ?_
  refine mz_iadd rfl ?_
  refine mz_iaS (v := (g1 5000 ((i + 1) : Int).toNat)) rfl (sh_5000 _) (by omega) (by have h9 := P1.2.2.2.2.1; omega) (by have h9 := P1.2.2.2.2.1; omega) rfl ?_
  refine mm_g 3 (pc1 := 736) (lo1 := [some (.ref 5000), some (.ref 0), some (.ref 137), some (.ref 179), some (.int (Int32.ofInt i)), some (.int (Int32.ofInt r1)), o6]) (st1 := [.int (Int32.ofInt 2), .int (Int32.ofInt i), .ref 5000, .int (Int32.ofInt (g1 5000 ((i + 1) : Int).toNat)), .ref 137]) (H1 := mz_mk g1 x1) rfl ?_
  refine mz_iadd rfl ?_
  refine mz_iaS (v := (g1 5000 ((i + 2) : Int).toNat)) rfl (sh_5000 _) (by omega) (by have h9 := P1.2.2.2.2.1; omega) (by have h9 := P1.2.2.2.2.1; omega) rfl ?_
  refine mm_g 3 (pc1 := 742) (lo1 := [some (.ref 5000), some (.ref 0), some (.ref 137), some (.ref 179), some (.int (Int32.ofInt i)), some (.int (Int32.ofInt r1)), o6]) (st1 := [.int (Int32.ofInt 3), .int (Int32.ofInt i), .ref 5000, .int (Int32.ofInt (g1 5000 ((i + 2) : Int).toNat)), .int (Int32.ofInt (g1 5000 ((i + 1) : Int).toNat)), .ref 137]) (H1 := mz_mk g1 x1) rfl ?_
  refine mz_iadd rfl ?_
  refine mz_iaS (v := (g1 5000 ((i + 3) : Int).toNat)) rfl (sh_5000 _) (by omega) (by have h9 := P1.2.2.2.2.1; omega) (by have h9 := P1.2.2.2.2.1; omega) rfl ?_
  refine mz_cv rfl mt_13_150 (by decide) rfl rfl (Nat.le_of_ble_eq_true rfl) (by omega) (f_X12_blend (by omega) P1.2.1 P1.1 (mz_rd P1.1 (bd_5000 _)).1 (mz_rd P1.1 (bd_5000 _)).2 (mz_rd P1.1 (bd_5000 _)).1 (mz_rd P1.1 (bd_5000 _)).2 (mz_rd P1.1 (bd_5000 _)).1 (mz_rd P1.1 (bd_5000 _)).2 P1.2.2.1.1 P1.2.2.1.2.1 (fun r2 g2 hI2 hf2 l_r2 u_r2 hp2_0 e2 => ⟨_, rfl, ?_⟩))
  have hF2 : ∀ a b : Nat, a < 137 ∨ 2000 ≤ a → g2 a b = g1 a b := fun a b z => hf2 a b (fun y => by have w := (nz_X12_blend_lo P1.2.1 _ _ y); omega)
  have hR2 : mz_sr g1 g2 := ⟨hf2 82 1 (nw_X12_blend_82 P1.2.1), hf2 137 15 (nw_X12_blend_15 P1.2.1), fun j => hf2 149 j (nw_X12_blend_149 P1.2.1 j), fun j => hf2 142 j (nw_X12_blend_142 P1.2.1 j), fun j hj => hf2 140 j (nw_X12_blend_140 P1.2.1 j hj)⟩
  have P2 := mz_Lq_r P1 hI2 hR2 hp2_0
  have hT2 := RR_r P1.2.1 hT1 hF2 (fun a b z z1 z2 => hf2 a b (fun y => (nz_X12_blend_nb5 P1.2.1 _ _ y).elim z (fun w => w.elim z1 z2))) (sm_e e2 (blend_s (x := x1) P1.2.1 P1.1 (kr_P P1.1 P1.2.2.1) P1.2.2.1.2.1))
  show mm_W d mmL_law 747 [some (.ref 5000), some (.ref 0), some (.ref 137), some (.ref 179), some (.int (Int32.ofInt i)), some (.int (Int32.ofInt r1)), o6] [.int (Int32.ofInt r2)] (mz_mk g2 x1) Q
  refine mm_g 1 (pc1 := 749) (lo1 := [some (.ref 5000), some (.ref 0), some (.ref 137), some (.ref 179), some (.int (Int32.ofInt i)), some (.int (Int32.ofInt r1)), some (.int (Int32.ofInt r2))]) (st1 := []) (H1 := mz_mk g2 x1) rfl ?_
  refine mz_gt (tgt := 1388) rfl rfl ?_
  exact kk g2 x1 _ _ (mz_nl_i _) (mz_nl_i _) P2 hT2
set_option maxHeartbeats 4000000 in
set_option maxRecDepth 100000 in
theorem law_15 {d : Nat} (hd : 18 ≤ d) {so : Option Nat} {L : Nat} (hL : L ≤ 3072) {i : Int} (h0 : 0 ≤ i) (h6 : i + 6 ≤ L) {o5 o6 : Option Value} (h5 : mz_nl o5) (h6_ : mz_nl o6) {g : mz_G} {x : mm_X} (P : mz_Lq so L i g x) (T : RR x g) {Q : (Option Value ⊕ Nat) → mm_H → Prop} (kk : ∀ g1 x1 p5 p6, mz_nl p5 → mz_nl p6 → mz_Lq so L (i + 6) g1 x1 → RR x1 g1 → mm_W d mmL_law 1388 [some (.ref 5000), some (.ref 0), some (.ref 137), some (.ref 179), some (.int (Int32.ofInt i)), p5, p6] [] (mz_mk g1 x1) Q) : mm_W d mmL_law 752 [some (.ref 5000), some (.ref 0), some (.ref 137), some (.ref 179), some (.int (Int32.ofInt i)), o5, o6] [] (mz_mk g x) Q := by
  refine mm_g 4 (pc1 := 757) (lo1 := [some (.ref 5000), some (.ref 0), some (.ref 137), some (.ref 179), some (.int (Int32.ofInt i)), o5, o6]) (st1 := [.int (Int32.ofInt 1), .int (Int32.ofInt i), .ref 5000, .ref 0]) (H1 := mz_mk g x) rfl ?_
  refine mz_iadd rfl ?_
  refine mz_iaS (v := (g 5000 ((i + 1) : Int).toNat)) rfl (sh_5000 _) (by omega) (by have h9 := P.2.2.2.2.1; omega) (by have h9 := P.2.2.2.2.1; omega) rfl ?_
  refine mm_g 3 (pc1 := 763) (lo1 := [some (.ref 5000), some (.ref 0), some (.ref 137), some (.ref 179), some (.int (Int32.ofInt i)), o5, o6]) (st1 := [.int (Int32.ofInt 2), .int (Int32.ofInt i), .ref 5000, .int (Int32.ofInt (g 5000 ((i + 1) : Int).toNat)), .ref 0]) (H1 := mz_mk g x) rfl ?_
  refine mz_iadd rfl ?_
  refine mz_iaS (v := (g 5000 ((i + 2) : Int).toNat)) rfl (sh_5000 _) (by omega) (by have h9 := P.2.2.2.2.1; omega) (by have h9 := P.2.2.2.2.1; omega) rfl ?_
  refine mm_g 1 (pc1 := 766) (lo1 := [some (.ref 5000), some (.ref 0), some (.ref 137), some (.ref 179), some (.int (Int32.ofInt i)), o5, o6]) (st1 := [.ref 179, .int (Int32.ofInt (g 5000 ((i + 2) : Int).toNat)), .int (Int32.ofInt (g 5000 ((i + 1) : Int).toNat)), .ref 0]) (H1 := mz_mk g x) rfl ?_
  refine mz_cs rfl mt_13_151 (by decide) rfl (Nat.le_of_ble_eq_true rfl) (by omega) (w_L_later (by omega) P.2.1 P.1 (mz_rd P.1 (bd_5000 _)).1 (mz_rd P.1 (bd_5000 _)).2 (mz_rd P.1 (bd_5000 _)).1 (mz_rd P.1 (bd_5000 _)).2 (fun r1 g1 x1 hI1 hX1 hS1 hW1 hN1 => ⟨_, rfl, ?_⟩))
  have P1 := mz_Lq_c P hI1 hS1 hX1
  have hT1 : RR x1 g1 := RR_q P.2.1 T hS1 hN1 hW1.2.2.2.1
  show mm_W d mmL_law 769 [some (.ref 5000), some (.ref 0), some (.ref 137), some (.ref 179), some (.int (Int32.ofInt i)), o5, o6] [.int (Int32.ofInt r1)] (mz_mk g1 x1) Q
  refine mm_g 5 (pc1 := 776) (lo1 := [some (.ref 5000), some (.ref 0), some (.ref 137), some (.ref 179), some (.int (Int32.ofInt i)), some (.int (Int32.ofInt r1)), o6]) (st1 := [.int (Int32.ofInt 1), .int (Int32.ofInt i), .ref 5000, .ref 137]) (H1 := mz_mk g1 x1) rfl ?_
  refine mz_iadd rfl ?_
  refine mz_iaS (v := (g1 5000 ((i + 1) : Int).toNat)) rfl (sh_5000 _) (by omega) (by have h9 := P1.2.2.2.2.1; omega) (by have h9 := P1.2.2.2.2.1; omega) rfl ?_
  refine mm_g 3 (pc1 := 782) (lo1 := [some (.ref 5000), some (.ref 0), some (.ref 137), some (.ref 179), some (.int (Int32.ofInt i)), some (.int (Int32.ofInt r1)), o6]) (st1 := [.int (Int32.ofInt 2), .int (Int32.ofInt i), .ref 5000, .int (Int32.ofInt (g1 5000 ((i + 1) : Int).toNat)), .ref 137]) (H1 := mz_mk g1 x1) rfl ?_
  refine mz_iadd rfl ?_
  refine mz_iaS (v := (g1 5000 ((i + 2) : Int).toNat)) rfl (sh_5000 _) (by omega) (by have h9 := P1.2.2.2.2.1; omega) (by have h9 := P1.2.2.2.2.1; omega) rfl ?_
  refine mz_cv rfl mt_13_153 (by decide) rfl rfl (Nat.le_of_ble_eq_true rfl) (by omega) (f_X12_later (by omega) P1.2.1 P1.1 (mz_rd P1.1 (bd_5000 _)).1 (mz_rd P1.1 (bd_5000 _)).2 (mz_rd P1.1 (bd_5000 _)).1 (mz_rd P1.1 (bd_5000 _)).2 P1.2.2.1.1 P1.2.2.1.2.1 (fun r2 g2 hI2 hf2 l_r2 u_r2 hp2_0 e2 => ⟨_, rfl, ?_⟩))
  have hF2 : ∀ a b : Nat, a < 137 ∨ 2000 ≤ a → g2 a b = g1 a b := fun a b z => hf2 a b (fun y => by have w := (nz_X12_later_lo P1.2.1 _ _ y); omega)
  have hR2 : mz_sr g1 g2 := ⟨hf2 82 1 (nw_X12_later_82 P1.2.1), hf2 137 15 (nw_X12_later_15 P1.2.1), fun j => hf2 149 j (nw_X12_later_149 P1.2.1 j), fun j => hf2 142 j (nw_X12_later_142 P1.2.1 j), fun j hj => hf2 140 j (nw_X12_later_140 P1.2.1 j hj)⟩
  have P2 := mz_Lq_r P1 hI2 hR2 hp2_0
  have hT2 := RR_r P1.2.1 hT1 hF2 (fun a b z z1 z2 => hf2 a b (fun y => (nz_X12_later_nb5 P1.2.1 _ _ y).elim z (fun w => w.elim z1 z2))) (sm_e e2 (later_s (kr_P P1.1 P1.2.2.1)))
  show mm_W d mmL_law 787 [some (.ref 5000), some (.ref 0), some (.ref 137), some (.ref 179), some (.int (Int32.ofInt i)), some (.int (Int32.ofInt r1)), o6] [.int (Int32.ofInt r2)] (mz_mk g2 x1) Q
  refine mm_g 1 (pc1 := 789) (lo1 := [some (.ref 5000), some (.ref 0), some (.ref 137), some (.ref 179), some (.int (Int32.ofInt i)), some (.int (Int32.ofInt r1)), some (.int (Int32.ofInt r2))]) (st1 := []) (H1 := mz_mk g2 x1) rfl ?_
  refine mz_gt (tgt := 1388) rfl rfl ?_
  exact kk g2 x1 _ _ (mz_nl_i _) (mz_nl_i _) P2 hT2
