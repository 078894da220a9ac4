/-! THE LAW'S TURNS (wip/p2/tools/gen52.py) -/
set_option maxHeartbeats 4000000 in
set_option maxRecDepth 100000 in
theorem law_0 {d : Nat} (hd : 3 ≤ d) {so : Option Nat} {L : Nat} (hL : L ≤ 3072) {i : Int} (h0 : 0 ≤ i) (h6 : i + 6 ≤ L) {o5 o6 : Option Value} (h5 : mz_nl o5) (h6_ : mz_nl o6) {g : mz_G} {x : mm_X} (P : mz_Lq so L i g x) (T : RR4 g) {Q : (Option Value ⊕ Nat) → mm_H → Prop} (kk : ∀ g1 x1 p5 p6, mz_nl p5 → mz_nl p6 → mz_Lq so L (i + 6) g1 x1 → RR4 g1 → mm_W d mmL_law 1388 [some (.ref 5000), some (.ref 0), some (.ref 137), some (.ref 179), some (.int (Int32.ofInt i)), p5, p6] [] (mz_mk g1 x1) Q) : mm_W d mmL_law 188 [some (.ref 5000), some (.ref 0), some (.ref 137), some (.ref 179), some (.int (Int32.ofInt i)), o5, o6] [] (mz_mk g x) Q := by
  refine mm_g 4 (pc1 := 193) (lo1 := [some (.ref 5000), some (.ref 0), some (.ref 137), some (.ref 179), some (.int (Int32.ofInt i)), o5, o6]) (st1 := [.int (Int32.ofInt 1), .int (Int32.ofInt i), .ref 5000, .ref 0]) (H1 := mz_mk g x) rfl ?_
  refine mz_iadd rfl ?_
  refine mz_iaS (v := (g 5000 ((i + 1) : Int).toNat)) rfl (sh_5000 _) (by omega) (by have h9 := P.2.2.2.2.1; omega) (by have h9 := P.2.2.2.2.1; omega) rfl ?_
  refine mm_g 3 (pc1 := 199) (lo1 := [some (.ref 5000), some (.ref 0), some (.ref 137), some (.ref 179), some (.int (Int32.ofInt i)), o5, o6]) (st1 := [.int (Int32.ofInt 2), .int (Int32.ofInt i), .ref 5000, .int (Int32.ofInt (g 5000 ((i + 1) : Int).toNat)), .ref 0]) (H1 := mz_mk g x) rfl ?_
  refine mz_iadd rfl ?_
  refine mz_iaS (v := (g 5000 ((i + 2) : Int).toNat)) rfl (sh_5000 _) (by omega) (by have h9 := P.2.2.2.2.1; omega) (by have h9 := P.2.2.2.2.1; omega) rfl ?_
  refine mm_g 3 (pc1 := 205) (lo1 := [some (.ref 5000), some (.ref 0), some (.ref 137), some (.ref 179), some (.int (Int32.ofInt i)), o5, o6]) (st1 := [.int (Int32.ofInt 3), .int (Int32.ofInt i), .ref 5000, .int (Int32.ofInt (g 5000 ((i + 2) : Int).toNat)), .int (Int32.ofInt (g 5000 ((i + 1) : Int).toNat)), .ref 0]) (H1 := mz_mk g x) rfl ?_
  refine mz_iadd rfl ?_
  refine mz_iaS (v := (g 5000 ((i + 3) : Int).toNat)) rfl (sh_5000 _) (by omega) (by have h9 := P.2.2.2.2.1; omega) (by have h9 := P.2.2.2.2.1; omega) rfl ?_
  refine mm_g 3 (pc1 := 211) (lo1 := [some (.ref 5000), some (.ref 0), some (.ref 137), some (.ref 179), some (.int (Int32.ofInt i)), o5, o6]) (st1 := [.int (Int32.ofInt 4), .int (Int32.ofInt i), .ref 5000, .int (Int32.ofInt (g 5000 ((i + 3) : Int).toNat)), .int (Int32.ofInt (g 5000 ((i + 2) : Int).toNat)), .int (Int32.ofInt (g 5000 ((i + 1) : Int).toNat)), .ref 0]) (H1 := mz_mk g x) rfl ?_
  refine mz_iadd rfl ?_
  refine mz_iaS (v := (g 5000 ((i + 4) : Int).toNat)) rfl (sh_5000 _) (by omega) (by have h9 := P.2.2.2.2.1; omega) (by have h9 := P.2.2.2.2.1; omega) rfl ?_
  refine mm_g 3 (pc1 := 217) (lo1 := [some (.ref 5000), some (.ref 0), some (.ref 137), some (.ref 179), some (.int (Int32.ofInt i)), o5, o6]) (st1 := [.int (Int32.ofInt 5), .int (Int32.ofInt i), .ref 5000, .int (Int32.ofInt (g 5000 ((i + 4) : Int).toNat)), .int (Int32.ofInt (g 5000 ((i + 3) : Int).toNat)), .int (Int32.ofInt (g 5000 ((i + 2) : Int).toNat)), .int (Int32.ofInt (g 5000 ((i + 1) : Int).toNat)), .ref 0]) (H1 := mz_mk g x) rfl ?_
  refine mz_iadd rfl ?_
  refine mz_iaS (v := (g 5000 ((i + 5) : Int).toNat)) rfl (sh_5000 _) (by omega) (by have h9 := P.2.2.2.2.1; omega) (by have h9 := P.2.2.2.2.1; omega) rfl ?_
  refine mz_cv rfl mt_13_95 (by decide) rfl rfl (Nat.le_of_ble_eq_true rfl) (by omega) (f_X11_feed (by omega) P.2.1 P.1 (mz_rd P.1 (bd_5000 _)).1 (mz_rd P.1 (bd_5000 _)).2 (mz_rd P.1 (bd_5000 _)).1 (mz_rd P.1 (bd_5000 _)).2 (mz_rd P.1 (bd_5000 _)).1 (mz_rd P.1 (bd_5000 _)).2 (mz_rd P.1 (bd_5000 _)).1 (mz_rd P.1 (bd_5000 _)).2 (mz_rd P.1 (bd_5000 _)).1 (mz_rd P.1 (bd_5000 _)).2 (fun r1 g1 hI1 hf1 l_r1 u_r1 hp1_0 e1 => ⟨_, rfl, ?_⟩))
  have hS1 : ∀ k j : Nat, 137 ≤ k → g1 k j = g k j := fun k j hk => hf1 k j (nw_X11_feed_137 P.2.1 k j hk)
  have P1 := mz_Lq_c P hI1 hS1 (mz_xx_rf P.2.1)
  show mm_W d mmL_law 222 [some (.ref 5000), some (.ref 0), some (.ref 137), some (.ref 179), some (.int (Int32.ofInt i)), o5, o6] [.int (Int32.ofInt r1)] (mz_mk g1 x) Q
  refine mm_g 5 (pc1 := 228) (lo1 := [some (.ref 5000), some (.ref 0), some (.ref 137), some (.ref 179), some (.int (Int32.ofInt i)), o5, o6]) (st1 := [.int (Int32.ofInt 1), .int (Int32.ofInt i), .ref 5000, .ref 137]) (H1 := mz_mk g1 x) rfl ?_
  refine mz_iadd rfl ?_
  refine mz_iaS (v := (g1 5000 ((i + 1) : Int).toNat)) rfl (sh_5000 _) (by omega) (by have h9 := P1.2.2.2.2.1; omega) (by have h9 := P1.2.2.2.2.1; omega) rfl ?_
  refine mm_g 3 (pc1 := 234) (lo1 := [some (.ref 5000), some (.ref 0), some (.ref 137), some (.ref 179), some (.int (Int32.ofInt i)), o5, o6]) (st1 := [.int (Int32.ofInt 2), .int (Int32.ofInt i), .ref 5000, .int (Int32.ofInt (g1 5000 ((i + 1) : Int).toNat)), .ref 137]) (H1 := mz_mk g1 x) rfl ?_
  refine mz_iadd rfl ?_
  refine mz_iaS (v := (g1 5000 ((i + 2) : Int).toNat)) rfl (sh_5000 _) (by omega) (by have h9 := P1.2.2.2.2.1; omega) (by have h9 := P1.2.2.2.2.1; omega) rfl ?_
  refine mm_g 3 (pc1 := 240) (lo1 := [some (.ref 5000), some (.ref 0), some (.ref 137), some (.ref 179), some (.int (Int32.ofInt i)), o5, o6]) (st1 := [.int (Int32.ofInt 3), .int (Int32.ofInt i), .ref 5000, .int (Int32.ofInt (g1 5000 ((i + 2) : Int).toNat)), .int (Int32.ofInt (g1 5000 ((i + 1) : Int).toNat)), .ref 137]) (H1 := mz_mk g1 x) rfl ?_
  refine mz_iadd rfl ?_
  refine mz_iaS (v := (g1 5000 ((i + 3) : Int).toNat)) rfl (sh_5000 _) (by omega) (by have h9 := P1.2.2.2.2.1; omega) (by have h9 := P1.2.2.2.2.1; omega) rfl ?_
  refine mm_g 3 (pc1 := 246) (lo1 := [some (.ref 5000), some (.ref 0), some (.ref 137), some (.ref 179), some (.int (Int32.ofInt i)), o5, o6]) (st1 := [.int (Int32.ofInt 4), .int (Int32.ofInt i), .ref 5000, .int (Int32.ofInt (g1 5000 ((i + 3) : Int).toNat)), .int (Int32.ofInt (g1 5000 ((i + 2) : Int).toNat)), .int (Int32.ofInt (g1 5000 ((i + 1) : Int).toNat)), .ref 137]) (H1 := mz_mk g1 x) rfl ?_
  refine mz_iadd rfl ?_
  refine mz_iaS (v := (g1 5000 ((i + 4) : Int).toNat)) rfl (sh_5000 _) (by omega) (by have h9 := P1.2.2.2.2.1; omega) (by have h9 := P1.2.2.2.2.1; omega) rfl ?_
  refine mm_g 3 (pc1 := 252) (lo1 := [some (.ref 5000), some (.ref 0), some (.ref 137), some (.ref 179), some (.int (Int32.ofInt i)), o5, o6]) (st1 := [.int (Int32.ofInt 5), .int (Int32.ofInt i), .ref 5000, .int (Int32.ofInt (g1 5000 ((i + 4) : Int).toNat)), .int (Int32.ofInt (g1 5000 ((i + 3) : Int).toNat)), .int (Int32.ofInt (g1 5000 ((i + 2) : Int).toNat)), .int (Int32.ofInt (g1 5000 ((i + 1) : Int).toNat)), .ref 137]) (H1 := mz_mk g1 x) rfl ?_
  refine mz_iadd rfl ?_
  refine mz_iaS (v := (g1 5000 ((i + 5) : Int).toNat)) rfl (sh_5000 _) (by omega) (by have h9 := P1.2.2.2.2.1; omega) (by have h9 := P1.2.2.2.2.1; omega) rfl ?_
  refine mz_cv rfl mt_13_99 (by decide) rfl rfl (Nat.le_of_ble_eq_true rfl) (by omega) (f_X12_feed (by omega) P1.2.1 P1.1 (mz_rd P1.1 (bd_5000 _)).1 (mz_rd P1.1 (bd_5000 _)).2 (mz_rd P1.1 (bd_5000 _)).1 (mz_rd P1.1 (bd_5000 _)).2 (mz_rd P1.1 (bd_5000 _)).1 (mz_rd P1.1 (bd_5000 _)).2 (mz_rd P1.1 (bd_5000 _)).1 (mz_rd P1.1 (bd_5000 _)).2 (mz_rd P1.1 (bd_5000 _)).1 (mz_rd P1.1 (bd_5000 _)).2 P1.2.2.1.1 P1.2.2.1.2.1 (fun r2 g2 hI2 hf2 l_r2 u_r2 hp2_0 hp2_1 e2 => ⟨_, rfl, ?_⟩))
  have P2 := mz_Lq_m P1 hI2 (fun h => mz_MI_eq h (fun j => hf2 149 j (nw_X12_feed_149 P1.2.1 j)) (fun j => hf2 142 j (nw_X12_feed_142 P1.2.1 j)) (hf2 140 0 (nw_X12_feed_140 P1.2.1 0 (by decide))) (hf2 140 1 (nw_X12_feed_140 P1.2.1 1 (by decide))) (hf2 140 3 (nw_X12_feed_140 P1.2.1 3 (by decide))) hp2_0)
  have hq2 : ∀ j : Nat, g1 5000 j = g 5000 j := fun j => hS1 5000 j (by decide)
  rw [hq2, hq2, hq2, hq2, hq2] at e2
  have hT2 := RR4_feed T P.1 e1 hS1 (hf1 0 0 (nw_X11_feed_0 P.2.1)) e2 (hf2 82 1 (nw_X12_feed_82 P1.2.1)) (fun j => hf2 83 j (nw_X12_feed_83 P1.2.1 j)) (hf2 0 0 (nw_X12_feed_0 P1.2.1)) (hf2 137 24 (nw_X12_feed_24 P1.2.1)) (fun k j hk => hf2 k j (nw_X12_feed_2000 P1.2.1 k j hk))
  show mm_W d mmL_law 257 [some (.ref 5000), some (.ref 0), some (.ref 137), some (.ref 179), some (.int (Int32.ofInt i)), o5, o6] [.int (Int32.ofInt r2)] (mz_mk g2 x) Q
  refine mm_g 1 (pc1 := 258) (lo1 := [some (.ref 5000), some (.ref 0), some (.ref 137), some (.ref 179), some (.int (Int32.ofInt i)), o5, o6]) (st1 := []) (H1 := mz_mk g2 x) rfl ?_
  refine mz_gt (tgt := 1388) rfl rfl ?_
  exact kk g2 x _ _ h5 h6_ P2 hT2
set_option maxHeartbeats 4000000 in
set_option maxRecDepth 100000 in
theorem law_1 {d : Nat} (hd : 91 ≤ d) {so : Option Nat} {L : Nat} (hL : L ≤ 3072) {i : Int} (h0 : 0 ≤ i) (h6 : i + 6 ≤ L) {o5 o6 : Option Value} (h5 : mz_nl o5) (h6_ : mz_nl o6) {g : mz_G} {x : mm_X} (P : mz_Lq so L i g x) (T : RR4 g) {Q : (Option Value ⊕ Nat) → mm_H → Prop} (kk : ∀ g1 x1 p5 p6, mz_nl p5 → mz_nl p6 → mz_Lq so L (i + 6) g1 x1 → RR4 g1 → mm_W d mmL_law 1388 [some (.ref 5000), some (.ref 0), some (.ref 137), some (.ref 179), some (.int (Int32.ofInt i)), p5, p6] [] (mz_mk g1 x1) Q) : mm_W d mmL_law 261 [some (.ref 5000), some (.ref 0), some (.ref 137), some (.ref 179), some (.int (Int32.ofInt i)), o5, o6] [] (mz_mk g x) Q := by
  refine mm_g 4 (pc1 := 266) (lo1 := [some (.ref 5000), some (.ref 0), some (.ref 137), some (.ref 179), some (.int (Int32.ofInt i)), o5, o6]) (st1 := [.int (Int32.ofInt 1), .int (Int32.ofInt i), .ref 5000, .ref 0]) (H1 := mz_mk g x) rfl ?_
  refine mz_iadd rfl ?_
  refine mz_iaS (v := (g 5000 ((i + 1) : Int).toNat)) rfl (sh_5000 _) (by omega) (by have h9 := P.2.2.2.2.1; omega) (by have h9 := P.2.2.2.2.1; omega) rfl ?_
  refine mm_g 1 (pc1 := 269) (lo1 := [some (.ref 5000), some (.ref 0), some (.ref 137), some (.ref 179), some (.int (Int32.ofInt i)), o5, o6]) (st1 := [.ref 179, .int (Int32.ofInt (g 5000 ((i + 1) : Int).toNat)), .ref 0]) (H1 := mz_mk g x) rfl ?_
  refine mz_cs rfl mt_13_100 (by decide) rfl (Nat.le_of_ble_eq_true rfl) (by omega) (w_L_baggage (by omega) P.2.1 P.1 (mz_rd P.1 (bd_5000 _)).1 (mz_rd P.1 (bd_5000 _)).2 (fun r g1 x1 hI1 hX1 hB1 => ⟨_, rfl, ?_⟩))
  have P1 := mz_Lq_c P hI1 hB1.1 hX1
  show mm_W d mmL_law 272 [some (.ref 5000), some (.ref 0), some (.ref 137), some (.ref 179), some (.int (Int32.ofInt i)), o5, o6] [.int (Int32.ofInt r)] (mz_mk g1 x1) Q
  refine mm_g 5 (pc1 := 279) (lo1 := [some (.ref 5000), some (.ref 0), some (.ref 137), some (.ref 179), some (.int (Int32.ofInt i)), some (.int (Int32.ofInt r)), o6]) (st1 := [.int (Int32.ofInt 1), .int (Int32.ofInt i), .ref 5000, .ref 137]) (H1 := mz_mk g1 x1) rfl ?_
  refine mz_iadd rfl ?_
  refine mz_iaS (v := (g1 5000 ((i + 1) : Int).toNat)) rfl (sh_5000 _) (by omega) (by have h9 := P1.2.2.2.2.1; omega) (by have h9 := P1.2.2.2.2.1; omega) rfl ?_
  refine mz_cv rfl mt_13_105 (by decide) rfl rfl (Nat.le_of_ble_eq_true rfl) (by omega) (f_X12_baggage (by omega) P1.2.1 P1.1 (mz_rd P1.1 (bd_5000 _)).1 (mz_rd P1.1 (bd_5000 _)).2 (fun r2 g2 hI2 hf2 l_r2 u_r2 hp2_0 hp2_1 e2 => ⟨_, rfl, ?_⟩))
  have P2 := mz_Lq_m P1 hI2 hp2_1
  have hq2 : ∀ j : Nat, g1 5000 j = g 5000 j := fun j => hB1.1 5000 j (by decide)
  rw [hq2] at e2 hp2_0
  have hT2 := RR4_bag P.2.1 T P.1 P1.1 (bg3_w hB1) e2 hp2_0 (hf2 82 1 (nw_X12_baggage_82 P1.2.1)) (fun j => hf2 83 j (nw_X12_baggage_83 P1.2.1 j)) (hf2 0 0 (nw_X12_baggage_0 P1.2.1)) (fun j => hf2 151 j (nw_X12_baggage_151 P1.2.1 j)) (fun k j hk => hf2 k j (nw_X12_baggage_2000 P1.2.1 k j hk))
  show mm_W d mmL_law 284 [some (.ref 5000), some (.ref 0), some (.ref 137), some (.ref 179), some (.int (Int32.ofInt i)), some (.int (Int32.ofInt r)), o6] [.int (Int32.ofInt r2)] (mz_mk g2 x1) Q
  refine mm_g 2 (pc1 := 287) (lo1 := [some (.ref 5000), some (.ref 0), some (.ref 137), some (.ref 179), some (.int (Int32.ofInt i)), some (.int (Int32.ofInt r)), some (.int (Int32.ofInt r2))]) (st1 := [.ref 137]) (H1 := mz_mk g2 x1) rfl ?_
  refine mz_cv rfl mt_13_106 (by decide) rfl rfl (Nat.le_of_ble_eq_true rfl) (by omega) (f_X12_thrown (by omega) P2.2.1 P2.1 (fun r3 l_r3 u_r3 e3 => ⟨_, rfl, ?_⟩))
  obtain ⟨h01, hE, hO⟩ := RR3_bag P.2.1 T P.1 P1.1 hB1 e2 e3
  show mm_W d mmL_law 290 [some (.ref 5000), some (.ref 0), some (.ref 137), some (.ref 179), some (.int (Int32.ofInt i)), some (.int (Int32.ofInt r)), some (.int (Int32.ofInt r2))] [.int (Int32.ofInt r3)] (mz_mk g2 x1) Q
  refine mm_g 1 (pc1 := 292) (lo1 := [some (.ref 5000), some (.ref 0), some (.ref 137), some (.ref 179), some (.int (Int32.ofInt i)), some (.int (Int32.ofInt r)), some (.int (Int32.ofInt r2))]) (st1 := [.int (Int32.ofInt r), .int (Int32.ofInt r3)]) (H1 := mz_mk g2 x1) rfl ?_
  refine mz_ic_eq (tgt := 297) rfl rfl ⟨by omega, by omega⟩ ⟨by omega, by omega⟩ (fun _ => ?_) (fun z => absurd hE z)
  refine mm_g 1 (pc1 := 299) (lo1 := [some (.ref 5000), some (.ref 0), some (.ref 137), some (.ref 179), some (.int (Int32.ofInt i)), some (.int (Int32.ofInt r)), some (.int (Int32.ofInt r2))]) (st1 := [.int (Int32.ofInt r)]) (H1 := mz_mk g2 x1) rfl ?_
  refine mz_if_ne (tgt := 314) rfl rfl ⟨by omega, by omega⟩ (fun _ => ?_) (fun hk => ?_)
  · refine mz_gt (tgt := 1388) rfl rfl ?_
    exact kk g2 x1 _ _ (mz_nl_i _) (mz_nl_i _) P2 hT2
  refine mm_g 2 (pc1 := 304) (lo1 := [some (.ref 5000), some (.ref 0), some (.ref 137), some (.ref 179), some (.int (Int32.ofInt i)), some (.int (Int32.ofInt r)), some (.int (Int32.ofInt r2))]) (st1 := [.int (Int32.ofInt 0), .ref 179]) (H1 := mz_mk g2 x1) rfl ?_
  refine mz_lal rfl (hO hk) ?_
  refine mm_g 1 (pc1 := 307) (lo1 := [some (.ref 5000), some (.ref 0), some (.ref 137), some (.ref 179), some (.int (Int32.ofInt i)), some (.int (Int32.ofInt r)), some (.int (Int32.ofInt r2))]) (st1 := [.int (Int32.ofInt r2), .long (Int64.ofInt r2)]) (H1 := mz_mk g2 x1) rfl ?_
  refine mz_i2l rfl ⟨by omega, by omega⟩ ?_
  refine mz_lcmp rfl ⟨by omega, by omega⟩ ⟨by omega, by omega⟩ (fun v hv hc => ?_)
  refine mz_if_eq (tgt := 314) rfl rfl hv (fun _ => ?_) (fun z => absurd (by omega : v = 0) z)
  refine mz_gt (tgt := 1388) rfl rfl ?_
  exact kk g2 x1 _ _ (mz_nl_i _) (mz_nl_i _) P2 hT2
set_option maxHeartbeats 4000000 in
set_option maxRecDepth 100000 in
theorem law_2 {d : Nat} (hd : 2 ≤ d) {so : Option Nat} {L : Nat} (hL : L ≤ 3072) {i : Int} (h0 : 0 ≤ i) (h6 : i + 6 ≤ L) {o5 o6 : Option Value} (h5 : mz_nl o5) (h6_ : mz_nl o6) {g : mz_G} {x : mm_X} (P : mz_Lq so L i g x) (T : RR4 g) {Q : (Option Value ⊕ Nat) → mm_H → Prop} (kk : ∀ g1 x1 p5 p6, mz_nl p5 → mz_nl p6 → mz_Lq so L (i + 6) g1 x1 → RR4 g1 → mm_W d mmL_law 1388 [some (.ref 5000), some (.ref 0), some (.ref 137), some (.ref 179), some (.int (Int32.ofInt i)), p5, p6] [] (mz_mk g1 x1) Q) : mm_W d mmL_law 317 [some (.ref 5000), some (.ref 0), some (.ref 137), some (.ref 179), some (.int (Int32.ofInt i)), o5, o6] [] (mz_mk g x) Q := by
  refine mm_g 1 (pc1 := 318) (lo1 := [some (.ref 5000), some (.ref 0), some (.ref 137), some (.ref 179), some (.int (Int32.ofInt i)), o5, o6]) (st1 := [.ref 0]) (H1 := mz_mk g x) rfl ?_
  refine mz_cv rfl mt_13_110 (by decide) rfl rfl (Nat.le_of_ble_eq_true rfl) (by omega) (f_X11_fault (by omega) P.2.1 P.1 (fun r1 l_r1 u_r1 e1 => ⟨_, rfl, ?_⟩))
  have hT1 := T
  have P1 := mz_Lq_c P P.1 (fun _ _ _ => rfl) (mz_xx_rf P.2.1)
  show mm_W d mmL_law 321 [some (.ref 5000), some (.ref 0), some (.ref 137), some (.ref 179), some (.int (Int32.ofInt i)), o5, o6] [.int (Int32.ofInt r1)] (mz_mk g x) Q
  refine mm_g 2 (pc1 := 323) (lo1 := [some (.ref 5000), some (.ref 0), some (.ref 137), some (.ref 179), some (.int (Int32.ofInt i)), o5, o6]) (st1 := [.ref 137]) (H1 := mz_mk g x) rfl ?_
  refine mz_cv rfl mt_13_113 (by decide) rfl rfl (Nat.le_of_ble_eq_true rfl) (by omega) (f_X12_fault (by omega) P1.2.1 P1.1 P1.2.2.1.1 P1.2.2.1.2.1 (fun r2 g2 hI2 hf2 l_r2 u_r2 hp2_0 e2 => ⟨_, rfl, ?_⟩))
  have hR2 : mz_sr g g2 := ⟨hf2 82 1 (nw_X12_fault_82 P1.2.1), hf2 137 15 (nw_X12_fault_15 P1.2.1), fun j => hf2 149 j (nw_X12_fault_149 P1.2.1 j), fun j => hf2 142 j (nw_X12_fault_142 P1.2.1 j), fun j hj => hf2 140 j (nw_X12_fault_140 P1.2.1 j hj)⟩
  have P2 := mz_Lq_r P1 hI2 hR2 hp2_0
  have hT2 := RR4_r hT1 hR2 ⟨fun j => hf2 83 j (nw_X12_fault_83 P1.2.1 j), hf2 0 0 (nw_X12_fault_0 P1.2.1), fun j => hf2 151 j (nw_X12_fault_151 P1.2.1 j), hf2 137 24 (nw_X12_fault_24 P1.2.1), fun k j hk => hf2 k j (nw_X12_fault_2000 P1.2.1 k j hk)⟩
  show mm_W d mmL_law 326 [some (.ref 5000), some (.ref 0), some (.ref 137), some (.ref 179), some (.int (Int32.ofInt i)), o5, o6] [.int (Int32.ofInt r2)] (mz_mk g2 x) Q
  refine mm_g 1 (pc1 := 327) (lo1 := [some (.ref 5000), some (.ref 0), some (.ref 137), some (.ref 179), some (.int (Int32.ofInt i)), o5, o6]) (st1 := []) (H1 := mz_mk g2 x) rfl ?_
  refine mz_gt (tgt := 1388) rfl rfl ?_
  exact kk g2 x _ _ h5 h6_ P2 hT2
set_option maxHeartbeats 4000000 in
set_option maxRecDepth 100000 in
theorem law_3 {d : Nat} (hd : 17 ≤ d) {so : Option Nat} {L : Nat} (hL : L ≤ 3072) {i : Int} (h0 : 0 ≤ i) (h6 : i + 6 ≤ L) {o5 o6 : Option Value} (h5 : mz_nl o5) (h6_ : mz_nl o6) {g : mz_G} {x : mm_X} (P : mz_Lq so L i g x) (T : RR4 g) {Q : (Option Value ⊕ Nat) → mm_H → Prop} (kk : ∀ g1 x1 p5 p6, mz_nl p5 → mz_nl p6 → mz_Lq so L (i + 6) g1 x1 → RR4 g1 → mm_W d mmL_law 1388 [some (.ref 5000), some (.ref 0), some (.ref 137), some (.ref 179), some (.int (Int32.ofInt i)), p5, p6] [] (mz_mk g1 x1) Q) : mm_W d mmL_law 330 [some (.ref 5000), some (.ref 0), some (.ref 137), some (.ref 179), some (.int (Int32.ofInt i)), o5, o6] [] (mz_mk g x) Q := by
  refine mm_g 4 (pc1 := 335) (lo1 := [some (.ref 5000), some (.ref 0), some (.ref 137), some (.ref 179), some (.int (Int32.ofInt i)), o5, o6]) (st1 := [.int (Int32.ofInt 1), .int (Int32.ofInt i), .ref 5000, .ref 0]) (H1 := mz_mk g x) rfl ?_
  refine mz_iadd rfl ?_
  refine mz_iaS (v := (g 5000 ((i + 1) : Int).toNat)) rfl (sh_5000 _) (by omega) (by have h9 := P.2.2.2.2.1; omega) (by have h9 := P.2.2.2.2.1; omega) rfl ?_
  refine mm_g 1 (pc1 := 338) (lo1 := [some (.ref 5000), some (.ref 0), some (.ref 137), some (.ref 179), some (.int (Int32.ofInt i)), o5, o6]) (st1 := [.ref 179, .int (Int32.ofInt (g 5000 ((i + 1) : Int).toNat)), .ref 0]) (H1 := mz_mk g x) rfl ?_
  refine mz_cs rfl mt_13_114 (by decide) rfl (Nat.le_of_ble_eq_true rfl) (by omega) (w_L_count (by omega) P.2.1 P.1 (mz_rd P.1 (bd_5000 _)).1 (mz_rd P.1 (bd_5000 _)).2 (fun r g1 x1 hI1 hX1 hS1 hU1 => ⟨_, rfl, ?_⟩))
  have hT1 := RR4_c T hS1 hU1
  have P1 := mz_Lq_c P hI1 hS1.1 hX1
  show mm_W d mmL_law 341 [some (.ref 5000), some (.ref 0), some (.ref 137), some (.ref 179), some (.int (Int32.ofInt i)), o5, o6] [.int (Int32.ofInt r)] (mz_mk g1 x1) Q
  refine mm_g 5 (pc1 := 348) (lo1 := [some (.ref 5000), some (.ref 0), some (.ref 137), some (.ref 179), some (.int (Int32.ofInt i)), some (.int (Int32.ofInt r)), o6]) (st1 := [.int (Int32.ofInt 1), .int (Int32.ofInt i), .ref 5000, .ref 137]) (H1 := mz_mk g1 x1) rfl ?_
  refine mz_iadd rfl ?_
  refine mz_iaS (v := (g1 5000 ((i + 1) : Int).toNat)) rfl (sh_5000 _) (by omega) (by have h9 := P1.2.2.2.2.1; omega) (by have h9 := P1.2.2.2.2.1; omega) rfl ?_
  refine mz_cv rfl mt_13_116 (by decide) rfl rfl (Nat.le_of_ble_eq_true rfl) (by omega) (f_X12_count (by omega) P1.2.1 P1.1 (mz_rd P1.1 (bd_5000 _)).1 (mz_rd P1.1 (bd_5000 _)).2 P1.2.2.1.1 P1.2.2.1.2.1 (fun r2 g2 hI2 hf2 l_r2 u_r2 hp2_0 e2 => ⟨_, rfl, ?_⟩))
  have hR2 : mz_sr g1 g2 := ⟨hf2 82 1 (nw_X12_count_82 P1.2.1), hf2 137 15 (nw_X12_count_15 P1.2.1), fun j => hf2 149 j (nw_X12_count_149 P1.2.1 j), fun j => hf2 142 j (nw_X12_count_142 P1.2.1 j), fun j hj => hf2 140 j (nw_X12_count_140 P1.2.1 j hj)⟩
  have P2 := mz_Lq_r P1 hI2 hR2 hp2_0
  have hT2 := RR4_r hT1 hR2 ⟨fun j => hf2 83 j (nw_X12_count_83 P1.2.1 j), hf2 0 0 (nw_X12_count_0 P1.2.1), fun j => hf2 151 j (nw_X12_count_151 P1.2.1 j), hf2 137 24 (nw_X12_count_24 P1.2.1), fun k j hk => hf2 k j (nw_X12_count_2000 P1.2.1 k j hk)⟩
  show mm_W d mmL_law 353 [some (.ref 5000), some (.ref 0), some (.ref 137), some (.ref 179), some (.int (Int32.ofInt i)), some (.int (Int32.ofInt r)), o6] [.int (Int32.ofInt r2)] (mz_mk g2 x1) Q
  refine mm_g 1 (pc1 := 355) (lo1 := [some (.ref 5000), some (.ref 0), some (.ref 137), some (.ref 179), some (.int (Int32.ofInt i)), some (.int (Int32.ofInt r)), some (.int (Int32.ofInt r2))]) (st1 := []) (H1 := mz_mk g2 x1) rfl ?_
  refine mz_gt (tgt := 1388) rfl rfl ?_
  exact kk g2 x1 _ _ (mz_nl_i _) (mz_nl_i _) P2 hT2
set_option maxHeartbeats 4000000 in
set_option maxRecDepth 100000 in
theorem law_4 {d : Nat} (hd : 15 ≤ d) {so : Option Nat} {L : Nat} (hL : L ≤ 3072) {i : Int} (h0 : 0 ≤ i) (h6 : i + 6 ≤ L) {o5 o6 : Option Value} (h5 : mz_nl o5) (h6_ : mz_nl o6) {g : mz_G} {x : mm_X} (P : mz_Lq so L i g x) (T : RR4 g) {Q : (Option Value ⊕ Nat) → mm_H → Prop} (kk : ∀ g1 x1 p5 p6, mz_nl p5 → mz_nl p6 → mz_Lq so L (i + 6) g1 x1 → RR4 g1 → mm_W d mmL_law 1388 [some (.ref 5000), some (.ref 0), some (.ref 137), some (.ref 179), some (.int (Int32.ofInt i)), p5, p6] [] (mz_mk g1 x1) Q) : mm_W d mmL_law 358 [some (.ref 5000), some (.ref 0), some (.ref 137), some (.ref 179), some (.int (Int32.ofInt i)), o5, o6] [] (mz_mk g x) Q := by
  refine mm_g 4 (pc1 := 363) (lo1 := [some (.ref 5000), some (.ref 0), some (.ref 137), some (.ref 179), some (.int (Int32.ofInt i)), o5, o6]) (st1 := [.int (Int32.ofInt 1), .int (Int32.ofInt i), .ref 5000, .ref 0]) (H1 := mz_mk g x) rfl ?_
  refine mz_iadd rfl ?_
  refine mz_iaS (v := (g 5000 ((i + 1) : Int).toNat)) rfl (sh_5000 _) (by omega) (by have h9 := P.2.2.2.2.1; omega) (by have h9 := P.2.2.2.2.1; omega) rfl ?_
  refine mm_g 3 (pc1 := 369) (lo1 := [some (.ref 5000), some (.ref 0), some (.ref 137), some (.ref 179), some (.int (Int32.ofInt i)), o5, o6]) (st1 := [.int (Int32.ofInt 2), .int (Int32.ofInt i), .ref 5000, .int (Int32.ofInt (g 5000 ((i + 1) : Int).toNat)), .ref 0]) (H1 := mz_mk g x) rfl ?_
  refine mz_iadd rfl ?_
  refine mz_iaS (v := (g 5000 ((i + 2) : Int).toNat)) rfl (sh_5000 _) (by omega) (by have h9 := P.2.2.2.2.1; omega) (by have h9 := P.2.2.2.2.1; omega) rfl ?_
  refine mm_g 1 (pc1 := 372) (lo1 := [some (.ref 5000), some (.ref 0), some (.ref 137), some (.ref 179), some (.int (Int32.ofInt i)), o5, o6]) (st1 := [.ref 179, .int (Int32.ofInt (g 5000 ((i + 2) : Int).toNat)), .int (Int32.ofInt (g 5000 ((i + 1) : Int).toNat)), .ref 0]) (H1 := mz_mk g x) rfl ?_
  refine mz_cs rfl mt_13_117 (by decide) rfl (Nat.le_of_ble_eq_true rfl) (by omega) (w_L_word (by omega) P.2.1 P.1 (mz_rd P.1 (bd_5000 _)).1 (mz_rd P.1 (bd_5000 _)).2 (mz_rd P.1 (bd_5000 _)).1 (mz_rd P.1 (bd_5000 _)).2 (fun r g1 x1 hI1 hX1 hS1 hU1 => ⟨_, rfl, ?_⟩))
  have hT1 := RR4_c T hS1 hU1
  have P1 := mz_Lq_c P hI1 hS1.1 hX1
  show mm_W d mmL_law 375 [some (.ref 5000), some (.ref 0), some (.ref 137), some (.ref 179), some (.int (Int32.ofInt i)), o5, o6] [.int (Int32.ofInt r)] (mz_mk g1 x1) Q
  refine mm_g 5 (pc1 := 382) (lo1 := [some (.ref 5000), some (.ref 0), some (.ref 137), some (.ref 179), some (.int (Int32.ofInt i)), some (.int (Int32.ofInt r)), o6]) (st1 := [.int (Int32.ofInt 1), .int (Int32.ofInt i), .ref 5000, .ref 137]) (H1 := mz_mk g1 x1) rfl ?_
  refine mz_iadd rfl ?_
  refine mz_iaS (v := (g1 5000 ((i + 1) : Int).toNat)) rfl (sh_5000 _) (by omega) (by have h9 := P1.2.2.2.2.1; omega) (by have h9 := P1.2.2.2.2.1; omega) rfl ?_
  refine mm_g 3 (pc1 := 388) (lo1 := [some (.ref 5000), some (.ref 0), some (.ref 137), some (.ref 179), some (.int (Int32.ofInt i)), some (.int (Int32.ofInt r)), o6]) (st1 := [.int (Int32.ofInt 2), .int (Int32.ofInt i), .ref 5000, .int (Int32.ofInt (g1 5000 ((i + 1) : Int).toNat)), .ref 137]) (H1 := mz_mk g1 x1) rfl ?_
  refine mz_iadd rfl ?_
  refine mz_iaS (v := (g1 5000 ((i + 2) : Int).toNat)) rfl (sh_5000 _) (by omega) (by have h9 := P1.2.2.2.2.1; omega) (by have h9 := P1.2.2.2.2.1; omega) rfl ?_
  refine mz_cv rfl mt_13_120 (by decide) rfl rfl (Nat.le_of_ble_eq_true rfl) (by omega) (f_X12_word (by omega) P1.2.1 P1.1 (mz_rd P1.1 (bd_5000 _)).1 (mz_rd P1.1 (bd_5000 _)).2 (mz_rd P1.1 (bd_5000 _)).1 (mz_rd P1.1 (bd_5000 _)).2 P1.2.2.1.1 P1.2.2.1.2.1 (fun r2 g2 hI2 hf2 l_r2 u_r2 hp2_0 e2 => ⟨_, rfl, ?_⟩))
  have hR2 : mz_sr g1 g2 := ⟨hf2 82 1 (nw_X12_word_82 P1.2.1), hf2 137 15 (nw_X12_word_15 P1.2.1), fun j => hf2 149 j (nw_X12_word_149 P1.2.1 j), fun j => hf2 142 j (nw_X12_word_142 P1.2.1 j), fun j hj => hf2 140 j (nw_X12_word_140 P1.2.1 j hj)⟩
  have P2 := mz_Lq_r P1 hI2 hR2 hp2_0
  have hT2 := RR4_r hT1 hR2 ⟨fun j => hf2 83 j (nw_X12_word_83 P1.2.1 j), hf2 0 0 (nw_X12_word_0 P1.2.1), fun j => hf2 151 j (nw_X12_word_151 P1.2.1 j), hf2 137 24 (nw_X12_word_24 P1.2.1), fun k j hk => hf2 k j (nw_X12_word_2000 P1.2.1 k j hk)⟩
  show mm_W d mmL_law 393 [some (.ref 5000), some (.ref 0), some (.ref 137), some (.ref 179), some (.int (Int32.ofInt i)), some (.int (Int32.ofInt r)), o6] [.int (Int32.ofInt r2)] (mz_mk g2 x1) Q
  refine mm_g 1 (pc1 := 395) (lo1 := [some (.ref 5000), some (.ref 0), some (.ref 137), some (.ref 179), some (.int (Int32.ofInt i)), some (.int (Int32.ofInt r)), some (.int (Int32.ofInt r2))]) (st1 := []) (H1 := mz_mk g2 x1) rfl ?_
  refine mz_gt (tgt := 1388) rfl rfl ?_
  exact kk g2 x1 _ _ (mz_nl_i _) (mz_nl_i _) P2 hT2
set_option maxHeartbeats 4000000 in
set_option maxRecDepth 100000 in
theorem law_5 {d : Nat} (hd : 15 ≤ d) {so : Option Nat} {L : Nat} (hL : L ≤ 3072) {i : Int} (h0 : 0 ≤ i) (h6 : i + 6 ≤ L) {o5 o6 : Option Value} (h5 : mz_nl o5) (h6_ : mz_nl o6) {g : mz_G} {x : mm_X} (P : mz_Lq so L i g x) (T : RR4 g) {Q : (Option Value ⊕ Nat) → mm_H → Prop} (kk : ∀ g1 x1 p5 p6, mz_nl p5 → mz_nl p6 → mz_Lq so L (i + 6) g1 x1 → RR4 g1 → mm_W d mmL_law 1388 [some (.ref 5000), some (.ref 0), some (.ref 137), some (.ref 179), some (.int (Int32.ofInt i)), p5, p6] [] (mz_mk g1 x1) Q) : mm_W d mmL_law 398 [some (.ref 5000), some (.ref 0), some (.ref 137), some (.ref 179), some (.int (Int32.ofInt i)), o5, o6] [] (mz_mk g x) Q := by
  refine mm_g 4 (pc1 := 403) (lo1 := [some (.ref 5000), some (.ref 0), some (.ref 137), some (.ref 179), some (.int (Int32.ofInt i)), o5, o6]) (st1 := [.int (Int32.ofInt 1), .int (Int32.ofInt i), .ref 5000, .ref 0]) (H1 := mz_mk g x) rfl ?_
  refine mz_iadd rfl ?_
  refine mz_iaS (v := (g 5000 ((i + 1) : Int).toNat)) rfl (sh_5000 _) (by omega) (by have h9 := P.2.2.2.2.1; omega) (by have h9 := P.2.2.2.2.1; omega) rfl ?_
  refine mm_g 3 (pc1 := 409) (lo1 := [some (.ref 5000), some (.ref 0), some (.ref 137), some (.ref 179), some (.int (Int32.ofInt i)), o5, o6]) (st1 := [.int (Int32.ofInt 2), .int (Int32.ofInt i), .ref 5000, .int (Int32.ofInt (g 5000 ((i + 1) : Int).toNat)), .ref 0]) (H1 := mz_mk g x) rfl ?_
  refine mz_iadd rfl ?_
  refine mz_iaS (v := (g 5000 ((i + 2) : Int).toNat)) rfl (sh_5000 _) (by omega) (by have h9 := P.2.2.2.2.1; omega) (by have h9 := P.2.2.2.2.1; omega) rfl ?_
  refine mm_g 1 (pc1 := 412) (lo1 := [some (.ref 5000), some (.ref 0), some (.ref 137), some (.ref 179), some (.int (Int32.ofInt i)), o5, o6]) (st1 := [.ref 179, .int (Int32.ofInt (g 5000 ((i + 2) : Int).toNat)), .int (Int32.ofInt (g 5000 ((i + 1) : Int).toNat)), .ref 0]) (H1 := mz_mk g x) rfl ?_
  refine mz_cs rfl mt_13_121 (by decide) rfl (Nat.le_of_ble_eq_true rfl) (by omega) (w_L_letter (by omega) P.2.1 P.1 (mz_rd P.1 (bd_5000 _)).1 (mz_rd P.1 (bd_5000 _)).2 (mz_rd P.1 (bd_5000 _)).1 (mz_rd P.1 (bd_5000 _)).2 (fun r g1 x1 hI1 hX1 hS1 hU1 => ⟨_, rfl, ?_⟩))
  have hT1 := RR4_c T hS1 hU1
  have P1 := mz_Lq_c P hI1 hS1.1 hX1
  show mm_W d mmL_law 415 [some (.ref 5000), some (.ref 0), some (.ref 137), some (.ref 179), some (.int (Int32.ofInt i)), o5, o6] [.int (Int32.ofInt r)] (mz_mk g1 x1) Q
  refine mm_g 5 (pc1 := 422) (lo1 := [some (.ref 5000), some (.ref 0), some (.ref 137), some (.ref 179), some (.int (Int32.ofInt i)), some (.int (Int32.ofInt r)), o6]) (st1 := [.int (Int32.ofInt 1), .int (Int32.ofInt i), .ref 5000, .ref 137]) (H1 := mz_mk g1 x1) rfl ?_
  refine mz_iadd rfl ?_
  refine mz_iaS (v := (g1 5000 ((i + 1) : Int).toNat)) rfl (sh_5000 _) (by omega) (by have h9 := P1.2.2.2.2.1; omega) (by have h9 := P1.2.2.2.2.1; omega) rfl ?_
  refine mm_g 3 (pc1 := 428) (lo1 := [some (.ref 5000), some (.ref 0), some (.ref 137), some (.ref 179), some (.int (Int32.ofInt i)), some (.int (Int32.ofInt r)), o6]) (st1 := [.int (Int32.ofInt 2), .int (Int32.ofInt i), .ref 5000, .int (Int32.ofInt (g1 5000 ((i + 1) : Int).toNat)), .ref 137]) (H1 := mz_mk g1 x1) rfl ?_
  refine mz_iadd rfl ?_
  refine mz_iaS (v := (g1 5000 ((i + 2) : Int).toNat)) rfl (sh_5000 _) (by omega) (by have h9 := P1.2.2.2.2.1; omega) (by have h9 := P1.2.2.2.2.1; omega) rfl ?_
  refine mz_cv rfl mt_13_123 (by decide) rfl rfl (Nat.le_of_ble_eq_true rfl) (by omega) (f_X12_letter (by omega) P1.2.1 P1.1 (mz_rd P1.1 (bd_5000 _)).1 (mz_rd P1.1 (bd_5000 _)).2 (mz_rd P1.1 (bd_5000 _)).1 (mz_rd P1.1 (bd_5000 _)).2 P1.2.2.1.1 P1.2.2.1.2.1 (fun r2 g2 hI2 hf2 l_r2 u_r2 hp2_0 e2 => ⟨_, rfl, ?_⟩))
  have hR2 : mz_sr g1 g2 := ⟨hf2 82 1 (nw_X12_letter_82 P1.2.1), hf2 137 15 (nw_X12_letter_15 P1.2.1), fun j => hf2 149 j (nw_X12_letter_149 P1.2.1 j), fun j => hf2 142 j (nw_X12_letter_142 P1.2.1 j), fun j hj => hf2 140 j (nw_X12_letter_140 P1.2.1 j hj)⟩
  have P2 := mz_Lq_r P1 hI2 hR2 hp2_0
  have hT2 := RR4_r hT1 hR2 ⟨fun j => hf2 83 j (nw_X12_letter_83 P1.2.1 j), hf2 0 0 (nw_X12_letter_0 P1.2.1), fun j => hf2 151 j (nw_X12_letter_151 P1.2.1 j), hf2 137 24 (nw_X12_letter_24 P1.2.1), fun k j hk => hf2 k j (nw_X12_letter_2000 P1.2.1 k j hk)⟩
  show mm_W d mmL_law 433 [some (.ref 5000), some (.ref 0), some (.ref 137), some (.ref 179), some (.int (Int32.ofInt i)), some (.int (Int32.ofInt r)), o6] [.int (Int32.ofInt r2)] (mz_mk g2 x1) Q
  refine mm_g 1 (pc1 := 435) (lo1 := [some (.ref 5000), some (.ref 0), some (.ref 137), some (.ref 179), some (.int (Int32.ofInt i)), some (.int (Int32.ofInt r)), some (.int (Int32.ofInt r2))]) (st1 := []) (H1 := mz_mk g2 x1) rfl ?_
  refine mz_gt (tgt := 1388) rfl rfl ?_
  exact kk g2 x1 _ _ (mz_nl_i _) (mz_nl_i _) P2 hT2
set_option maxHeartbeats 4000000 in
set_option maxRecDepth 100000 in
theorem law_6 {d : Nat} (hd : 17 ≤ d) {so : Option Nat} {L : Nat} (hL : L ≤ 3072) {i : Int} (h0 : 0 ≤ i) (h6 : i + 6 ≤ L) {o5 o6 : Option Value} (h5 : mz_nl o5) (h6_ : mz_nl o6) {g : mz_G} {x : mm_X} (P : mz_Lq so L i g x) (T : RR4 g) {Q : (Option Value ⊕ Nat) → mm_H → Prop} (kk : ∀ g1 x1 p5 p6, mz_nl p5 → mz_nl p6 → mz_Lq so L (i + 6) g1 x1 → RR4 g1 → mm_W d mmL_law 1388 [some (.ref 5000), some (.ref 0), some (.ref 137), some (.ref 179), some (.int (Int32.ofInt i)), p5, p6] [] (mz_mk g1 x1) Q) : mm_W d mmL_law 438 [some (.ref 5000), some (.ref 0), some (.ref 137), some (.ref 179), some (.int (Int32.ofInt i)), o5, o6] [] (mz_mk g x) Q := by
  refine mm_g 4 (pc1 := 443) (lo1 := [some (.ref 5000), some (.ref 0), some (.ref 137), some (.ref 179), some (.int (Int32.ofInt i)), o5, o6]) (st1 := [.int (Int32.ofInt 1), .int (Int32.ofInt i), .ref 5000, .ref 0]) (H1 := mz_mk g x) rfl ?_
  refine mz_iadd rfl ?_
  refine mz_iaS (v := (g 5000 ((i + 1) : Int).toNat)) rfl (sh_5000 _) (by omega) (by have h9 := P.2.2.2.2.1; omega) (by have h9 := P.2.2.2.2.1; omega) rfl ?_
  refine mm_g 3 (pc1 := 449) (lo1 := [some (.ref 5000), some (.ref 0), some (.ref 137), some (.ref 179), some (.int (Int32.ofInt i)), o5, o6]) (st1 := [.int (Int32.ofInt 2), .int (Int32.ofInt i), .ref 5000, .int (Int32.ofInt (g 5000 ((i + 1) : Int).toNat)), .ref 0]) (H1 := mz_mk g x) rfl ?_
  refine mz_iadd rfl ?_
  refine mz_iaS (v := (g 5000 ((i + 2) : Int).toNat)) rfl (sh_5000 _) (by omega) (by have h9 := P.2.2.2.2.1; omega) (by have h9 := P.2.2.2.2.1; omega) rfl ?_
  refine mm_g 1 (pc1 := 452) (lo1 := [some (.ref 5000), some (.ref 0), some (.ref 137), some (.ref 179), some (.int (Int32.ofInt i)), o5, o6]) (st1 := [.ref 179, .int (Int32.ofInt (g 5000 ((i + 2) : Int).toNat)), .int (Int32.ofInt (g 5000 ((i + 1) : Int).toNat)), .ref 0]) (H1 := mz_mk g x) rfl ?_
  refine mz_cs rfl mt_13_124 (by decide) rfl (Nat.le_of_ble_eq_true rfl) (by omega) (w_L_trunk (by omega) P.2.1 P.1 (mz_rd P.1 (bd_5000 _)).1 (mz_rd P.1 (bd_5000 _)).2 (mz_rd P.1 (bd_5000 _)).1 (mz_rd P.1 (bd_5000 _)).2 (fun r g1 x1 hI1 hX1 hS1 hU1 => ⟨_, rfl, ?_⟩))
  have hT1 := RR4_c T hS1 hU1
  have P1 := mz_Lq_c P hI1 hS1.1 hX1
  show mm_W d mmL_law 455 [some (.ref 5000), some (.ref 0), some (.ref 137), some (.ref 179), some (.int (Int32.ofInt i)), o5, o6] [.int (Int32.ofInt r)] (mz_mk g1 x1) Q
  refine mm_g 5 (pc1 := 462) (lo1 := [some (.ref 5000), some (.ref 0), some (.ref 137), some (.ref 179), some (.int (Int32.ofInt i)), some (.int (Int32.ofInt r)), o6]) (st1 := [.int (Int32.ofInt 1), .int (Int32.ofInt i), .ref 5000, .ref 137]) (H1 := mz_mk g1 x1) rfl ?_
  refine mz_iadd rfl ?_
  refine mz_iaS (v := (g1 5000 ((i + 1) : Int).toNat)) rfl (sh_5000 _) (by omega) (by have h9 := P1.2.2.2.2.1; omega) (by have h9 := P1.2.2.2.2.1; omega) rfl ?_
  refine mm_g 3 (pc1 := 468) (lo1 := [some (.ref 5000), some (.ref 0), some (.ref 137), some (.ref 179), some (.int (Int32.ofInt i)), some (.int (Int32.ofInt r)), o6]) (st1 := [.int (Int32.ofInt 2), .int (Int32.ofInt i), .ref 5000, .int (Int32.ofInt (g1 5000 ((i + 1) : Int).toNat)), .ref 137]) (H1 := mz_mk g1 x1) rfl ?_
  refine mz_iadd rfl ?_
  refine mz_iaS (v := (g1 5000 ((i + 2) : Int).toNat)) rfl (sh_5000 _) (by omega) (by have h9 := P1.2.2.2.2.1; omega) (by have h9 := P1.2.2.2.2.1; omega) rfl ?_
  refine mz_cv rfl mt_13_126 (by decide) rfl rfl (Nat.le_of_ble_eq_true rfl) (by omega) (f_X12_trunk (by omega) P1.2.1 P1.1 (mz_rd P1.1 (bd_5000 _)).1 (mz_rd P1.1 (bd_5000 _)).2 (mz_rd P1.1 (bd_5000 _)).1 (mz_rd P1.1 (bd_5000 _)).2 P1.2.2.1.1 P1.2.2.1.2.1 (fun r2 g2 hI2 hf2 l_r2 u_r2 hp2_0 e2 => ⟨_, rfl, ?_⟩))
  have hR2 : mz_sr g1 g2 := ⟨hf2 82 1 (nw_X12_trunk_82 P1.2.1), hf2 137 15 (nw_X12_trunk_15 P1.2.1), fun j => hf2 149 j (nw_X12_trunk_149 P1.2.1 j), fun j => hf2 142 j (nw_X12_trunk_142 P1.2.1 j), fun j hj => hf2 140 j (nw_X12_trunk_140 P1.2.1 j hj)⟩
  have P2 := mz_Lq_r P1 hI2 hR2 hp2_0
  have hT2 := RR4_r hT1 hR2 ⟨fun j => hf2 83 j (nw_X12_trunk_83 P1.2.1 j), hf2 0 0 (nw_X12_trunk_0 P1.2.1), fun j => hf2 151 j (nw_X12_trunk_151 P1.2.1 j), hf2 137 24 (nw_X12_trunk_24 P1.2.1), fun k j hk => hf2 k j (nw_X12_trunk_2000 P1.2.1 k j hk)⟩
  show mm_W d mmL_law 473 [some (.ref 5000), some (.ref 0), some (.ref 137), some (.ref 179), some (.int (Int32.ofInt i)), some (.int (Int32.ofInt r)), o6] [.int (Int32.ofInt r2)] (mz_mk g2 x1) Q
  refine mm_g 1 (pc1 := 475) (lo1 := [some (.ref 5000), some (.ref 0), some (.ref 137), some (.ref 179), some (.int (Int32.ofInt i)), some (.int (Int32.ofInt r)), some (.int (Int32.ofInt r2))]) (st1 := []) (H1 := mz_mk g2 x1) rfl ?_
  refine mz_gt (tgt := 1388) rfl rfl ?_
  exact kk g2 x1 _ _ (mz_nl_i _) (mz_nl_i _) P2 hT2
set_option maxHeartbeats 4000000 in
set_option maxRecDepth 100000 in
theorem law_7 {d : Nat} (hd : 17 ≤ d) {so : Option Nat} {L : Nat} (hL : L ≤ 3072) {i : Int} (h0 : 0 ≤ i) (h6 : i + 6 ≤ L) {o5 o6 : Option Value} (h5 : mz_nl o5) (h6_ : mz_nl o6) {g : mz_G} {x : mm_X} (P : mz_Lq so L i g x) (T : RR4 g) {Q : (Option Value ⊕ Nat) → mm_H → Prop} (kk : ∀ g1 x1 p5 p6, mz_nl p5 → mz_nl p6 → mz_Lq so L (i + 6) g1 x1 → RR4 g1 → mm_W d mmL_law 1388 [some (.ref 5000), some (.ref 0), some (.ref 137), some (.ref 179), some (.int (Int32.ofInt i)), p5, p6] [] (mz_mk g1 x1) Q) : mm_W d mmL_law 478 [some (.ref 5000), some (.ref 0), some (.ref 137), some (.ref 179), some (.int (Int32.ofInt i)), o5, o6] [] (mz_mk g x) Q := by
  refine mm_g 4 (pc1 := 483) (lo1 := [some (.ref 5000), some (.ref 0), some (.ref 137), some (.ref 179), some (.int (Int32.ofInt i)), o5, o6]) (st1 := [.int (Int32.ofInt 1), .int (Int32.ofInt i), .ref 5000, .ref 0]) (H1 := mz_mk g x) rfl ?_
  refine mz_iadd rfl ?_
  refine mz_iaS (v := (g 5000 ((i + 1) : Int).toNat)) rfl (sh_5000 _) (by omega) (by have h9 := P.2.2.2.2.1; omega) (by have h9 := P.2.2.2.2.1; omega) rfl ?_
  refine mz_cv rfl mt_13_127 (by decide) rfl rfl (Nat.le_of_ble_eq_true rfl) (by omega) (f_X11_days (by omega) P.2.1 P.1 (mz_rd P.1 (bd_5000 _)).1 (mz_rd P.1 (bd_5000 _)).2 (fun r1 g1 hI1 hf1 l_r1 u_r1 e1 => ⟨_, rfl, ?_⟩))
  have hS1 : ∀ k j : Nat, 137 ≤ k → g1 k j = g k j := fun k j hk => hf1 k j (nw_X11_days_137 P.2.1 k j hk)
  have hT1 := RR4_c T ⟨hS1, hf1 82 1 (nw_X11_days_82 P.2.1)⟩ ⟨fun j => hf1 83 j (nw_X11_days_83 P.2.1 j), hf1 0 0 (nw_X11_days_0 P.2.1)⟩
  have P1 := mz_Lq_c P hI1 hS1 (mz_xx_rf P.2.1)
  show mm_W d mmL_law 488 [some (.ref 5000), some (.ref 0), some (.ref 137), some (.ref 179), some (.int (Int32.ofInt i)), o5, o6] [.int (Int32.ofInt r1)] (mz_mk g1 x) Q
  refine mm_g 5 (pc1 := 494) (lo1 := [some (.ref 5000), some (.ref 0), some (.ref 137), some (.ref 179), some (.int (Int32.ofInt i)), o5, o6]) (st1 := [.int (Int32.ofInt 1), .int (Int32.ofInt i), .ref 5000, .ref 137]) (H1 := mz_mk g1 x) rfl ?_
  refine mz_iadd rfl ?_
  refine mz_iaS (v := (g1 5000 ((i + 1) : Int).toNat)) rfl (sh_5000 _) (by omega) (by have h9 := P1.2.2.2.2.1; omega) (by have h9 := P1.2.2.2.2.1; omega) rfl ?_
  refine mz_cv rfl mt_13_130 (by decide) rfl rfl (Nat.le_of_ble_eq_true rfl) (by omega) (f_X12_days (by omega) P1.2.1 P1.1 (mz_rd P1.1 (bd_5000 _)).1 (mz_rd P1.1 (bd_5000 _)).2 P1.2.2.1.1 P1.2.2.1.2.1 (fun r2 g2 hI2 hf2 l_r2 u_r2 hp2_0 e2 => ⟨_, rfl, ?_⟩))
  have hR2 : mz_sr g1 g2 := ⟨hf2 82 1 (nw_X12_days_82 P1.2.1), hf2 137 15 (nw_X12_days_15 P1.2.1), fun j => hf2 149 j (nw_X12_days_149 P1.2.1 j), fun j => hf2 142 j (nw_X12_days_142 P1.2.1 j), fun j hj => hf2 140 j (nw_X12_days_140 P1.2.1 j hj)⟩
  have P2 := mz_Lq_r P1 hI2 hR2 hp2_0
  have hT2 := RR4_r hT1 hR2 ⟨fun j => hf2 83 j (nw_X12_days_83 P1.2.1 j), hf2 0 0 (nw_X12_days_0 P1.2.1), fun j => hf2 151 j (nw_X12_days_151 P1.2.1 j), hf2 137 24 (nw_X12_days_24 P1.2.1), fun k j hk => hf2 k j (nw_X12_days_2000 P1.2.1 k j hk)⟩
  show mm_W d mmL_law 499 [some (.ref 5000), some (.ref 0), some (.ref 137), some (.ref 179), some (.int (Int32.ofInt i)), o5, o6] [.int (Int32.ofInt r2)] (mz_mk g2 x) Q
  refine mm_g 1 (pc1 := 500) (lo1 := [some (.ref 5000), some (.ref 0), some (.ref 137), some (.ref 179), some (.int (Int32.ofInt i)), o5, o6]) (st1 := []) (H1 := mz_mk g2 x) rfl ?_
  refine mz_gt (tgt := 1388) rfl rfl ?_
  exact kk g2 x _ _ h5 h6_ P2 hT2
set_option maxHeartbeats 4000000 in
set_option maxRecDepth 100000 in
theorem law_8 {d : Nat} (hd : 15 ≤ d) {so : Option Nat} {L : Nat} (hL : L ≤ 3072) {i : Int} (h0 : 0 ≤ i) (h6 : i + 6 ≤ L) {o5 o6 : Option Value} (h5 : mz_nl o5) (h6_ : mz_nl o6) {g : mz_G} {x : mm_X} (P : mz_Lq so L i g x) (T : RR4 g) {Q : (Option Value ⊕ Nat) → mm_H → Prop} (kk : ∀ g1 x1 p5 p6, mz_nl p5 → mz_nl p6 → mz_Lq so L (i + 6) g1 x1 → RR4 g1 → mm_W d mmL_law 1388 [some (.ref 5000), some (.ref 0), some (.ref 137), some (.ref 179), some (.int (Int32.ofInt i)), p5, p6] [] (mz_mk g1 x1) Q) : mm_W d mmL_law 503 [some (.ref 5000), some (.ref 0), some (.ref 137), some (.ref 179), some (.int (Int32.ofInt i)), o5, o6] [] (mz_mk g x) Q := by
  refine mm_g 4 (pc1 := 508) (lo1 := [some (.ref 5000), some (.ref 0), some (.ref 137), some (.ref 179), some (.int (Int32.ofInt i)), o5, o6]) (st1 := [.int (Int32.ofInt 1), .int (Int32.ofInt i), .ref 5000, .ref 0]) (H1 := mz_mk g x) rfl ?_
  refine mz_iadd rfl ?_
  refine mz_iaS (v := (g 5000 ((i + 1) : Int).toNat)) rfl (sh_5000 _) (by omega) (by have h9 := P.2.2.2.2.1; omega) (by have h9 := P.2.2.2.2.1; omega) rfl ?_
  refine mm_g 3 (pc1 := 514) (lo1 := [some (.ref 5000), some (.ref 0), some (.ref 137), some (.ref 179), some (.int (Int32.ofInt i)), o5, o6]) (st1 := [.int (Int32.ofInt 2), .int (Int32.ofInt i), .ref 5000, .int (Int32.ofInt (g 5000 ((i + 1) : Int).toNat)), .ref 0]) (H1 := mz_mk g x) rfl ?_
  refine mz_iadd rfl ?_
  refine mz_iaS (v := (g 5000 ((i + 2) : Int).toNat)) rfl (sh_5000 _) (by omega) (by have h9 := P.2.2.2.2.1; omega) (by have h9 := P.2.2.2.2.1; omega) rfl ?_
  refine mm_g 1 (pc1 := 517) (lo1 := [some (.ref 5000), some (.ref 0), some (.ref 137), some (.ref 179), some (.int (Int32.ofInt i)), o5, o6]) (st1 := [.ref 179, .int (Int32.ofInt (g 5000 ((i + 2) : Int).toNat)), .int (Int32.ofInt (g 5000 ((i + 1) : Int).toNat)), .ref 0]) (H1 := mz_mk g x) rfl ?_
  refine mz_cs rfl mt_13_131 (by decide) rfl (Nat.le_of_ble_eq_true rfl) (by omega) (w_L_draw (by omega) P.2.1 P.1 (mz_rd P.1 (bd_5000 _)).1 (mz_rd P.1 (bd_5000 _)).2 (mz_rd P.1 (bd_5000 _)).1 (mz_rd P.1 (bd_5000 _)).2 (fun r g1 x1 hI1 hX1 hS1 hU1 => ⟨_, rfl, ?_⟩))
  have hT1 := RR4_c T hS1 hU1
  have P1 := mz_Lq_c P hI1 hS1.1 hX1
  show mm_W d mmL_law 520 [some (.ref 5000), some (.ref 0), some (.ref 137), some (.ref 179), some (.int (Int32.ofInt i)), o5, o6] [.int (Int32.ofInt r)] (mz_mk g1 x1) Q
  refine mm_g 5 (pc1 := 527) (lo1 := [some (.ref 5000), some (.ref 0), some (.ref 137), some (.ref 179), some (.int (Int32.ofInt i)), some (.int (Int32.ofInt r)), o6]) (st1 := [.int (Int32.ofInt 1), .int (Int32.ofInt i), .ref 5000, .ref 137]) (H1 := mz_mk g1 x1) rfl ?_
  refine mz_iadd rfl ?_
  refine mz_iaS (v := (g1 5000 ((i + 1) : Int).toNat)) rfl (sh_5000 _) (by omega) (by have h9 := P1.2.2.2.2.1; omega) (by have h9 := P1.2.2.2.2.1; omega) rfl ?_
  refine mm_g 3 (pc1 := 533) (lo1 := [some (.ref 5000), some (.ref 0), some (.ref 137), some (.ref 179), some (.int (Int32.ofInt i)), some (.int (Int32.ofInt r)), o6]) (st1 := [.int (Int32.ofInt 2), .int (Int32.ofInt i), .ref 5000, .int (Int32.ofInt (g1 5000 ((i + 1) : Int).toNat)), .ref 137]) (H1 := mz_mk g1 x1) rfl ?_
  refine mz_iadd rfl ?_
  refine mz_iaS (v := (g1 5000 ((i + 2) : Int).toNat)) rfl (sh_5000 _) (by omega) (by have h9 := P1.2.2.2.2.1; omega) (by have h9 := P1.2.2.2.2.1; omega) rfl ?_
  refine mz_cv rfl mt_13_133 (by decide) rfl rfl (Nat.le_of_ble_eq_true rfl) (by omega) (f_X12_draw (by omega) P1.2.1 P1.1 (mz_rd P1.1 (bd_5000 _)).1 (mz_rd P1.1 (bd_5000 _)).2 (mz_rd P1.1 (bd_5000 _)).1 (mz_rd P1.1 (bd_5000 _)).2 P1.2.2.1.1 P1.2.2.1.2.1 (fun r2 g2 hI2 hf2 l_r2 u_r2 hp2_0 e2 => ⟨_, rfl, ?_⟩))
  have hR2 : mz_sr g1 g2 := ⟨hf2 82 1 (nw_X12_draw_82 P1.2.1), hf2 137 15 (nw_X12_draw_15 P1.2.1), fun j => hf2 149 j (nw_X12_draw_149 P1.2.1 j), fun j => hf2 142 j (nw_X12_draw_142 P1.2.1 j), fun j hj => hf2 140 j (nw_X12_draw_140 P1.2.1 j hj)⟩
  have P2 := mz_Lq_r P1 hI2 hR2 hp2_0
  have hT2 := RR4_r hT1 hR2 ⟨fun j => hf2 83 j (nw_X12_draw_83 P1.2.1 j), hf2 0 0 (nw_X12_draw_0 P1.2.1), fun j => hf2 151 j (nw_X12_draw_151 P1.2.1 j), hf2 137 24 (nw_X12_draw_24 P1.2.1), fun k j hk => hf2 k j (nw_X12_draw_2000 P1.2.1 k j hk)⟩
  show mm_W d mmL_law 538 [some (.ref 5000), some (.ref 0), some (.ref 137), some (.ref 179), some (.int (Int32.ofInt i)), some (.int (Int32.ofInt r)), o6] [.int (Int32.ofInt r2)] (mz_mk g2 x1) Q
  refine mm_g 1 (pc1 := 540) (lo1 := [some (.ref 5000), some (.ref 0), some (.ref 137), some (.ref 179), some (.int (Int32.ofInt i)), some (.int (Int32.ofInt r)), some (.int (Int32.ofInt r2))]) (st1 := []) (H1 := mz_mk g2 x1) rfl ?_
  refine mz_gt (tgt := 1388) rfl rfl ?_
  exact kk g2 x1 _ _ (mz_nl_i _) (mz_nl_i _) P2 hT2
set_option maxHeartbeats 4000000 in
set_option maxRecDepth 100000 in
theorem law_9 {d : Nat} (hd : 16 ≤ d) {so : Option Nat} {L : Nat} (hL : L ≤ 3072) {i : Int} (h0 : 0 ≤ i) (h6 : i + 6 ≤ L) {o5 o6 : Option Value} (h5 : mz_nl o5) (h6_ : mz_nl o6) {g : mz_G} {x : mm_X} (P : mz_Lq so L i g x) (T : RR4 g) {Q : (Option Value ⊕ Nat) → mm_H → Prop} (kk : ∀ g1 x1 p5 p6, mz_nl p5 → mz_nl p6 → mz_Lq so L (i + 6) g1 x1 → RR4 g1 → mm_W d mmL_law 1388 [some (.ref 5000), some (.ref 0), some (.ref 137), some (.ref 179), some (.int (Int32.ofInt i)), p5, p6] [] (mz_mk g1 x1) Q) : mm_W d mmL_law 543 [some (.ref 5000), some (.ref 0), some (.ref 137), some (.ref 179), some (.int (Int32.ofInt i)), o5, o6] [] (mz_mk g x) Q := by
  refine mm_g 4 (pc1 := 548) (lo1 := [some (.ref 5000), some (.ref 0), some (.ref 137), some (.ref 179), some (.int (Int32.ofInt i)), o5, o6]) (st1 := [.int (Int32.ofInt 1), .int (Int32.ofInt i), .ref 5000, .ref 0]) (H1 := mz_mk g x) rfl ?_
  refine mz_iadd rfl ?_
  refine mz_iaS (v := (g 5000 ((i + 1) : Int).toNat)) rfl (sh_5000 _) (by omega) (by have h9 := P.2.2.2.2.1; omega) (by have h9 := P.2.2.2.2.1; omega) rfl ?_
  refine mm_g 3 (pc1 := 554) (lo1 := [some (.ref 5000), some (.ref 0), some (.ref 137), some (.ref 179), some (.int (Int32.ofInt i)), o5, o6]) (st1 := [.int (Int32.ofInt 2), .int (Int32.ofInt i), .ref 5000, .int (Int32.ofInt (g 5000 ((i + 1) : Int).toNat)), .ref 0]) (H1 := mz_mk g x) rfl ?_
  refine mz_iadd rfl ?_
  refine mz_iaS (v := (g 5000 ((i + 2) : Int).toNat)) rfl (sh_5000 _) (by omega) (by have h9 := P.2.2.2.2.1; omega) (by have h9 := P.2.2.2.2.1; omega) rfl ?_
  refine mm_g 1 (pc1 := 557) (lo1 := [some (.ref 5000), some (.ref 0), some (.ref 137), some (.ref 179), some (.int (Int32.ofInt i)), o5, o6]) (st1 := [.ref 179, .int (Int32.ofInt (g 5000 ((i + 2) : Int).toNat)), .int (Int32.ofInt (g 5000 ((i + 1) : Int).toNat)), .ref 0]) (H1 := mz_mk g x) rfl ?_
  refine mz_cs rfl mt_13_134 (by decide) rfl (Nat.le_of_ble_eq_true rfl) (by omega) (w_L_pull (by omega) P.2.1 P.1 (mz_rd P.1 (bd_5000 _)).1 (mz_rd P.1 (bd_5000 _)).2 (mz_rd P.1 (bd_5000 _)).1 (mz_rd P.1 (bd_5000 _)).2 (fun r g1 x1 hI1 hX1 hS1 hU1 => ⟨_, rfl, ?_⟩))
  have hT1 := RR4_c T hS1 hU1
  have P1 := mz_Lq_c P hI1 hS1.1 hX1
  show mm_W d mmL_law 560 [some (.ref 5000), some (.ref 0), some (.ref 137), some (.ref 179), some (.int (Int32.ofInt i)), o5, o6] [.int (Int32.ofInt r)] (mz_mk g1 x1) Q
  refine mm_g 5 (pc1 := 567) (lo1 := [some (.ref 5000), some (.ref 0), some (.ref 137), some (.ref 179), some (.int (Int32.ofInt i)), some (.int (Int32.ofInt r)), o6]) (st1 := [.int (Int32.ofInt 1), .int (Int32.ofInt i), .ref 5000, .ref 137]) (H1 := mz_mk g1 x1) rfl ?_
  refine mz_iadd rfl ?_
  refine mz_iaS (v := (g1 5000 ((i + 1) : Int).toNat)) rfl (sh_5000 _) (by omega) (by have h9 := P1.2.2.2.2.1; omega) (by have h9 := P1.2.2.2.2.1; omega) rfl ?_
  refine mm_g 3 (pc1 := 573) (lo1 := [some (.ref 5000), some (.ref 0), some (.ref 137), some (.ref 179), some (.int (Int32.ofInt i)), some (.int (Int32.ofInt r)), o6]) (st1 := [.int (Int32.ofInt 2), .int (Int32.ofInt i), .ref 5000, .int (Int32.ofInt (g1 5000 ((i + 1) : Int).toNat)), .ref 137]) (H1 := mz_mk g1 x1) rfl ?_
  refine mz_iadd rfl ?_
  refine mz_iaS (v := (g1 5000 ((i + 2) : Int).toNat)) rfl (sh_5000 _) (by omega) (by have h9 := P1.2.2.2.2.1; omega) (by have h9 := P1.2.2.2.2.1; omega) rfl ?_
  refine mz_cv rfl mt_13_136 (by decide) rfl rfl (Nat.le_of_ble_eq_true rfl) (by omega) (f_X12_pull (by omega) P1.2.1 P1.1 (mz_rd P1.1 (bd_5000 _)).1 (mz_rd P1.1 (bd_5000 _)).2 (mz_rd P1.1 (bd_5000 _)).1 (mz_rd P1.1 (bd_5000 _)).2 P1.2.2.1.1 P1.2.2.1.2.1 (fun r2 g2 hI2 hf2 l_r2 u_r2 hp2_0 e2 => ⟨_, rfl, ?_⟩))
  have hR2 : mz_sr g1 g2 := ⟨hf2 82 1 (nw_X12_pull_82 P1.2.1), hf2 137 15 (nw_X12_pull_15 P1.2.1), fun j => hf2 149 j (nw_X12_pull_149 P1.2.1 j), fun j => hf2 142 j (nw_X12_pull_142 P1.2.1 j), fun j hj => hf2 140 j (nw_X12_pull_140 P1.2.1 j hj)⟩
  have P2 := mz_Lq_r P1 hI2 hR2 hp2_0
  have hT2 := RR4_r hT1 hR2 ⟨fun j => hf2 83 j (nw_X12_pull_83 P1.2.1 j), hf2 0 0 (nw_X12_pull_0 P1.2.1), fun j => hf2 151 j (nw_X12_pull_151 P1.2.1 j), hf2 137 24 (nw_X12_pull_24 P1.2.1), fun k j hk => hf2 k j (nw_X12_pull_2000 P1.2.1 k j hk)⟩
  show mm_W d mmL_law 578 [some (.ref 5000), some (.ref 0), some (.ref 137), some (.ref 179), some (.int (Int32.ofInt i)), some (.int (Int32.ofInt r)), o6] [.int (Int32.ofInt r2)] (mz_mk g2 x1) Q
  refine mm_g 1 (pc1 := 580) (lo1 := [some (.ref 5000), some (.ref 0), some (.ref 137), some (.ref 179), some (.int (Int32.ofInt i)), some (.int (Int32.ofInt r)), some (.int (Int32.ofInt r2))]) (st1 := []) (H1 := mz_mk g2 x1) rfl ?_
  refine mz_gt (tgt := 1388) rfl rfl ?_
  exact kk g2 x1 _ _ (mz_nl_i _) (mz_nl_i _) P2 hT2
set_option maxHeartbeats 4000000 in
set_option maxRecDepth 100000 in
theorem law_10 {d : Nat} (hd : 15 ≤ d) {so : Option Nat} {L : Nat} (hL : L ≤ 3072) {i : Int} (h0 : 0 ≤ i) (h6 : i + 6 ≤ L) {o5 o6 : Option Value} (h5 : mz_nl o5) (h6_ : mz_nl o6) {g : mz_G} {x : mm_X} (P : mz_Lq so L i g x) (T : RR4 g) {Q : (Option Value ⊕ Nat) → mm_H → Prop} (kk : ∀ g1 x1 p5 p6, mz_nl p5 → mz_nl p6 → mz_Lq so L (i + 6) g1 x1 → RR4 g1 → mm_W d mmL_law 1388 [some (.ref 5000), some (.ref 0), some (.ref 137), some (.ref 179), some (.int (Int32.ofInt i)), p5, p6] [] (mz_mk g1 x1) Q) : mm_W d mmL_law 583 [some (.ref 5000), some (.ref 0), some (.ref 137), some (.ref 179), some (.int (Int32.ofInt i)), o5, o6] [] (mz_mk g x) Q := by
  refine mm_g 4 (pc1 := 588) (lo1 := [some (.ref 5000), some (.ref 0), some (.ref 137), some (.ref 179), some (.int (Int32.ofInt i)), o5, o6]) (st1 := [.int (Int32.ofInt 1), .int (Int32.ofInt i), .ref 5000, .ref 0]) (H1 := mz_mk g x) rfl ?_
  refine mz_iadd rfl ?_
  refine mz_iaS (v := (g 5000 ((i + 1) : Int).toNat)) rfl (sh_5000 _) (by omega) (by have h9 := P.2.2.2.2.1; omega) (by have h9 := P.2.2.2.2.1; omega) rfl ?_
  refine mm_g 1 (pc1 := 591) (lo1 := [some (.ref 5000), some (.ref 0), some (.ref 137), some (.ref 179), some (.int (Int32.ofInt i)), o5, o6]) (st1 := [.ref 179, .int (Int32.ofInt (g 5000 ((i + 1) : Int).toNat)), .ref 0]) (H1 := mz_mk g x) rfl ?_
  refine mz_cs rfl mt_13_137 (by decide) rfl (Nat.le_of_ble_eq_true rfl) (by omega) (w_L_turn (by omega) P.2.1 P.1 (mz_rd P.1 (bd_5000 _)).1 (mz_rd P.1 (bd_5000 _)).2 (fun r g1 x1 hI1 hX1 hS1 hU1 => ⟨_, rfl, ?_⟩))
  have hT1 := RR4_c T hS1 hU1
  have P1 := mz_Lq_c P hI1 hS1.1 hX1
  show mm_W d mmL_law 594 [some (.ref 5000), some (.ref 0), some (.ref 137), some (.ref 179), some (.int (Int32.ofInt i)), o5, o6] [.int (Int32.ofInt r)] (mz_mk g1 x1) Q
  refine mm_g 5 (pc1 := 601) (lo1 := [some (.ref 5000), some (.ref 0), some (.ref 137), some (.ref 179), some (.int (Int32.ofInt i)), some (.int (Int32.ofInt r)), o6]) (st1 := [.int (Int32.ofInt 1), .int (Int32.ofInt i), .ref 5000, .ref 137]) (H1 := mz_mk g1 x1) rfl ?_
  refine mz_iadd rfl ?_
  refine mz_iaS (v := (g1 5000 ((i + 1) : Int).toNat)) rfl (sh_5000 _) (by omega) (by have h9 := P1.2.2.2.2.1; omega) (by have h9 := P1.2.2.2.2.1; omega) rfl ?_
  refine mz_cv rfl mt_13_139 (by decide) rfl rfl (Nat.le_of_ble_eq_true rfl) (by omega) (f_X12_turn (by omega) P1.2.1 P1.1 (mz_rd P1.1 (bd_5000 _)).1 (mz_rd P1.1 (bd_5000 _)).2 P1.2.2.1.1 P1.2.2.1.2.1 (fun r2 g2 hI2 hf2 l_r2 u_r2 hp2_0 e2 => ⟨_, rfl, ?_⟩))
  have hR2 : mz_sr g1 g2 := ⟨hf2 82 1 (nw_X12_turn_82 P1.2.1), hf2 137 15 (nw_X12_turn_15 P1.2.1), fun j => hf2 149 j (nw_X12_turn_149 P1.2.1 j), fun j => hf2 142 j (nw_X12_turn_142 P1.2.1 j), fun j hj => hf2 140 j (nw_X12_turn_140 P1.2.1 j hj)⟩
  have P2 := mz_Lq_r P1 hI2 hR2 hp2_0
  have hT2 := RR4_r hT1 hR2 ⟨fun j => hf2 83 j (nw_X12_turn_83 P1.2.1 j), hf2 0 0 (nw_X12_turn_0 P1.2.1), fun j => hf2 151 j (nw_X12_turn_151 P1.2.1 j), hf2 137 24 (nw_X12_turn_24 P1.2.1), fun k j hk => hf2 k j (nw_X12_turn_2000 P1.2.1 k j hk)⟩
  show mm_W d mmL_law 606 [some (.ref 5000), some (.ref 0), some (.ref 137), some (.ref 179), some (.int (Int32.ofInt i)), some (.int (Int32.ofInt r)), o6] [.int (Int32.ofInt r2)] (mz_mk g2 x1) Q
  refine mm_g 1 (pc1 := 608) (lo1 := [some (.ref 5000), some (.ref 0), some (.ref 137), some (.ref 179), some (.int (Int32.ofInt i)), some (.int (Int32.ofInt r)), some (.int (Int32.ofInt r2))]) (st1 := []) (H1 := mz_mk g2 x1) rfl ?_
  refine mz_gt (tgt := 1388) rfl rfl ?_
  exact kk g2 x1 _ _ (mz_nl_i _) (mz_nl_i _) P2 hT2
set_option maxHeartbeats 4000000 in
set_option maxRecDepth 100000 in
theorem law_11 {d : Nat} (hd : 15 ≤ d) {so : Option Nat} {L : Nat} (hL : L ≤ 3072) {i : Int} (h0 : 0 ≤ i) (h6 : i + 6 ≤ L) {o5 o6 : Option Value} (h5 : mz_nl o5) (h6_ : mz_nl o6) {g : mz_G} {x : mm_X} (P : mz_Lq so L i g x) (T : RR4 g) {Q : (Option Value ⊕ Nat) → mm_H → Prop} (kk : ∀ g1 x1 p5 p6, mz_nl p5 → mz_nl p6 → mz_Lq so L (i + 6) g1 x1 → RR4 g1 → mm_W d mmL_law 1388 [some (.ref 5000), some (.ref 0), some (.ref 137), some (.ref 179), some (.int (Int32.ofInt i)), p5, p6] [] (mz_mk g1 x1) Q) : mm_W d mmL_law 611 [some (.ref 5000), some (.ref 0), some (.ref 137), some (.ref 179), some (.int (Int32.ofInt i)), o5, o6] [] (mz_mk g x) Q := by
  refine mm_g 4 (pc1 := 616) (lo1 := [some (.ref 5000), some (.ref 0), some (.ref 137), some (.ref 179), some (.int (Int32.ofInt i)), o5, o6]) (st1 := [.int (Int32.ofInt 1), .int (Int32.ofInt i), .ref 5000, .ref 0]) (H1 := mz_mk g x) rfl ?_
  refine mz_iadd rfl ?_
  refine mz_iaS (v := (g 5000 ((i + 1) : Int).toNat)) rfl (sh_5000 _) (by omega) (by have h9 := P.2.2.2.2.1; omega) (by have h9 := P.2.2.2.2.1; omega) rfl ?_
  refine mm_g 3 (pc1 := 622) (lo1 := [some (.ref 5000), some (.ref 0), some (.ref 137), some (.ref 179), some (.int (Int32.ofInt i)), o5, o6]) (st1 := [.int (Int32.ofInt 2), .int (Int32.ofInt i), .ref 5000, .int (Int32.ofInt (g 5000 ((i + 1) : Int).toNat)), .ref 0]) (H1 := mz_mk g x) rfl ?_
  refine mz_iadd rfl ?_
  refine mz_iaS (v := (g 5000 ((i + 2) : Int).toNat)) rfl (sh_5000 _) (by omega) (by have h9 := P.2.2.2.2.1; omega) (by have h9 := P.2.2.2.2.1; omega) rfl ?_
  refine mm_g 3 (pc1 := 628) (lo1 := [some (.ref 5000), some (.ref 0), some (.ref 137), some (.ref 179), some (.int (Int32.ofInt i)), o5, o6]) (st1 := [.int (Int32.ofInt 3), .int (Int32.ofInt i), .ref 5000, .int (Int32.ofInt (g 5000 ((i + 2) : Int).toNat)), .int (Int32.ofInt (g 5000 ((i + 1) : Int).toNat)), .ref 0]) (H1 := mz_mk g x) rfl ?_
  refine mz_iadd rfl ?_
  refine mz_iaS (v := (g 5000 ((i + 3) : Int).toNat)) rfl (sh_5000 _) (by omega) (by have h9 := P.2.2.2.2.1; omega) (by have h9 := P.2.2.2.2.1; omega) rfl ?_
  refine mm_g 1 (pc1 := 631) (lo1 := [some (.ref 5000), some (.ref 0), some (.ref 137), some (.ref 179), some (.int (Int32.ofInt i)), o5, o6]) (st1 := [.ref 179, .int (Int32.ofInt (g 5000 ((i + 3) : Int).toNat)), .int (Int32.ofInt (g 5000 ((i + 2) : Int).toNat)), .int (Int32.ofInt (g 5000 ((i + 1) : Int).toNat)), .ref 0]) (H1 := mz_mk g x) rfl ?_
  refine mz_cs rfl mt_13_140 (by decide) rfl (Nat.le_of_ble_eq_true rfl) (by omega) (w_L_pack (by omega) P.2.1 P.1 (mz_rd P.1 (bd_5000 _)).1 (mz_rd P.1 (bd_5000 _)).2 (mz_rd P.1 (bd_5000 _)).1 (mz_rd P.1 (bd_5000 _)).2 (mz_rd P.1 (bd_5000 _)).1 (mz_rd P.1 (bd_5000 _)).2 (fun r g1 x1 hI1 hX1 hS1 hU1 => ⟨_, rfl, ?_⟩))
  have hT1 := RR4_c T hS1 hU1
  have P1 := mz_Lq_c P hI1 hS1.1 hX1
  show mm_W d mmL_law 634 [some (.ref 5000), some (.ref 0), some (.ref 137), some (.ref 179), some (.int (Int32.ofInt i)), o5, o6] [.int (Int32.ofInt r)] (mz_mk g1 x1) Q
  refine mm_g 5 (pc1 := 641) (lo1 := [some (.ref 5000), some (.ref 0), some (.ref 137), some (.ref 179), some (.int (Int32.ofInt i)), some (.int (Int32.ofInt r)), o6]) (st1 := [.int (Int32.ofInt 1), .int (Int32.ofInt i), .ref 5000, .ref 137]) (H1 := mz_mk g1 x1) rfl ?_
  refine mz_iadd rfl ?_
  refine mz_iaS (v := (g1 5000 ((i + 1) : Int).toNat)) rfl (sh_5000 _) (by omega) (by have h9 := P1.2.2.2.2.1; omega) (by have h9 := P1.2.2.2.2.1; omega) rfl ?_
  refine mm_g 3 (pc1 := 647) (lo1 := [some (.ref 5000), some (.ref 0), some (.ref 137), some (.ref 179), some (.int (Int32.ofInt i)), some (.int (Int32.ofInt r)), o6]) (st1 := [.int (Int32.ofInt 2), .int (Int32.ofInt i), .ref 5000, .int (Int32.ofInt (g1 5000 ((i + 1) : Int).toNat)), .ref 137]) (H1 := mz_mk g1 x1) rfl ?_
  refine mz_iadd rfl ?_
  refine mz_iaS (v := (g1 5000 ((i + 2) : Int).toNat)) rfl (sh_5000 _) (by omega) (by have h9 := P1.2.2.2.2.1; omega) (by have h9 := P1.2.2.2.2.1; omega) rfl ?_
  refine mm_g 3 (pc1 := 653) (lo1 := [some (.ref 5000), some (.ref 0), some (.ref 137), some (.ref 179), some (.int (Int32.ofInt i)), some (.int (Int32.ofInt r)), o6]) (st1 := [.int (Int32.ofInt 3), .int (Int32.ofInt i), .ref 5000, .int (Int32.ofInt (g1 5000 ((i + 2) : Int).toNat)), .int (Int32.ofInt (g1 5000 ((i + 1) : Int).toNat)), .ref 137]) (H1 := mz_mk g1 x1) rfl ?_
  refine mz_iadd rfl ?_
  refine mz_iaS (v := (g1 5000 ((i + 3) : Int).toNat)) rfl (sh_5000 _) (by omega) (by have h9 := P1.2.2.2.2.1; omega) (by have h9 := P1.2.2.2.2.1; omega) rfl ?_
  refine mz_cv rfl mt_13_143 (by decide) rfl rfl (Nat.le_of_ble_eq_true rfl) (by omega) (f_X12_pack (by omega) P1.2.1 P1.1 (mz_rd P1.1 (bd_5000 _)).1 (mz_rd P1.1 (bd_5000 _)).2 (mz_rd P1.1 (bd_5000 _)).1 (mz_rd P1.1 (bd_5000 _)).2 (mz_rd P1.1 (bd_5000 _)).1 (mz_rd P1.1 (bd_5000 _)).2 P1.2.2.1.1 P1.2.2.1.2.1 (fun r2 g2 hI2 hf2 l_r2 u_r2 hp2_0 e2 => ⟨_, rfl, ?_⟩))
  have hR2 : mz_sr g1 g2 := ⟨hf2 82 1 (nw_X12_pack_82 P1.2.1), hf2 137 15 (nw_X12_pack_15 P1.2.1), fun j => hf2 149 j (nw_X12_pack_149 P1.2.1 j), fun j => hf2 142 j (nw_X12_pack_142 P1.2.1 j), fun j hj => hf2 140 j (nw_X12_pack_140 P1.2.1 j hj)⟩
  have P2 := mz_Lq_r P1 hI2 hR2 hp2_0
  have hT2 := RR4_r hT1 hR2 ⟨fun j => hf2 83 j (nw_X12_pack_83 P1.2.1 j), hf2 0 0 (nw_X12_pack_0 P1.2.1), fun j => hf2 151 j (nw_X12_pack_151 P1.2.1 j), hf2 137 24 (nw_X12_pack_24 P1.2.1), fun k j hk => hf2 k j (nw_X12_pack_2000 P1.2.1 k j hk)⟩
  show mm_W d mmL_law 658 [some (.ref 5000), some (.ref 0), some (.ref 137), some (.ref 179), some (.int (Int32.ofInt i)), some (.int (Int32.ofInt r)), o6] [.int (Int32.ofInt r2)] (mz_mk g2 x1) Q
  refine mm_g 1 (pc1 := 660) (lo1 := [some (.ref 5000), some (.ref 0), some (.ref 137), some (.ref 179), some (.int (Int32.ofInt i)), some (.int (Int32.ofInt r)), some (.int (Int32.ofInt r2))]) (st1 := []) (H1 := mz_mk g2 x1) rfl ?_
  refine mz_gt (tgt := 1388) rfl rfl ?_
  exact kk g2 x1 _ _ (mz_nl_i _) (mz_nl_i _) P2 hT2
set_option maxHeartbeats 4000000 in
set_option maxRecDepth 100000 in
theorem law_12 {d : Nat} (hd : 5 ≤ d) {so : Option Nat} {L : Nat} (hL : L ≤ 3072) {i : Int} (h0 : 0 ≤ i) (h6 : i + 6 ≤ L) {o5 o6 : Option Value} (h5 : mz_nl o5) (h6_ : mz_nl o6) {g : mz_G} {x : mm_X} (P : mz_Lq so L i g x) (T : RR4 g) {Q : (Option Value ⊕ Nat) → mm_H → Prop} (kk : ∀ g1 x1 p5 p6, mz_nl p5 → mz_nl p6 → mz_Lq so L (i + 6) g1 x1 → RR4 g1 → mm_W d mmL_law 1388 [some (.ref 5000), some (.ref 0), some (.ref 137), some (.ref 179), some (.int (Int32.ofInt i)), p5, p6] [] (mz_mk g1 x1) Q) : mm_W d mmL_law 663 [some (.ref 5000), some (.ref 0), some (.ref 137), some (.ref 179), some (.int (Int32.ofInt i)), o5, o6] [] (mz_mk g x) Q := by
  refine mm_g 1 (pc1 := 664) (lo1 := [some (.ref 5000), some (.ref 0), some (.ref 137), some (.ref 179), some (.int (Int32.ofInt i)), o5, o6]) (st1 := [.ref 0]) (H1 := mz_mk g x) rfl ?_
  refine mz_cv rfl mt_13_144 (by decide) rfl rfl (Nat.le_of_ble_eq_true rfl) (by omega) (f_X11_undo (by omega) P.2.1 P.1 (fun r1 g1 hI1 hf1 l_r1 u_r1 e1 => ⟨_, rfl, ?_⟩))
  have hS1 : ∀ k j : Nat, 137 ≤ k → g1 k j = g k j := fun k j hk => hf1 k j (nw_X11_undo_137 P.2.1 k j hk)
  have hT1 := RR4_c T ⟨hS1, hf1 82 1 (nw_X11_undo_82 P.2.1)⟩ ⟨fun j => hf1 83 j (nw_X11_undo_83 P.2.1 j), hf1 0 0 (nw_X11_undo_0 P.2.1)⟩
  have P1 := mz_Lq_c P hI1 hS1 (mz_xx_rf P.2.1)
  show mm_W d mmL_law 667 [some (.ref 5000), some (.ref 0), some (.ref 137), some (.ref 179), some (.int (Int32.ofInt i)), o5, o6] [.int (Int32.ofInt r1)] (mz_mk g1 x) Q
  refine mm_g 2 (pc1 := 669) (lo1 := [some (.ref 5000), some (.ref 0), some (.ref 137), some (.ref 179), some (.int (Int32.ofInt i)), o5, o6]) (st1 := [.ref 137]) (H1 := mz_mk g1 x) rfl ?_
  refine mz_cv rfl mt_13_147 (by decide) rfl rfl (Nat.le_of_ble_eq_true rfl) (by omega) (f_X12_undo (by omega) P1.2.1 P1.1 P1.2.2.1.1 P1.2.2.1.2.1 (fun r2 g2 hI2 hf2 l_r2 u_r2 hp2_0 e2 => ⟨_, rfl, ?_⟩))
  have hR2 : mz_sr g1 g2 := ⟨hf2 82 1 (nw_X12_undo_82 P1.2.1), hf2 137 15 (nw_X12_undo_15 P1.2.1), fun j => hf2 149 j (nw_X12_undo_149 P1.2.1 j), fun j => hf2 142 j (nw_X12_undo_142 P1.2.1 j), fun j hj => hf2 140 j (nw_X12_undo_140 P1.2.1 j hj)⟩
  have P2 := mz_Lq_r P1 hI2 hR2 hp2_0
  have hT2 := RR4_r hT1 hR2 ⟨fun j => hf2 83 j (nw_X12_undo_83 P1.2.1 j), hf2 0 0 (nw_X12_undo_0 P1.2.1), fun j => hf2 151 j (nw_X12_undo_151 P1.2.1 j), hf2 137 24 (nw_X12_undo_24 P1.2.1), fun k j hk => hf2 k j (nw_X12_undo_2000 P1.2.1 k j hk)⟩
  show mm_W d mmL_law 672 [some (.ref 5000), some (.ref 0), some (.ref 137), some (.ref 179), some (.int (Int32.ofInt i)), o5, o6] [.int (Int32.ofInt r2)] (mz_mk g2 x) Q
  refine mm_g 1 (pc1 := 673) (lo1 := [some (.ref 5000), some (.ref 0), some (.ref 137), some (.ref 179), some (.int (Int32.ofInt i)), o5, o6]) (st1 := []) (H1 := mz_mk g2 x) rfl ?_
  refine mz_gt (tgt := 1388) rfl rfl ?_
  exact kk g2 x _ _ h5 h6_ P2 hT2
set_option maxHeartbeats 4000000 in
set_option maxRecDepth 100000 in
theorem law_13 {d : Nat} (hd : 18 ≤ d) {so : Option Nat} {L : Nat} (hL : L ≤ 3072) {i : Int} (h0 : 0 ≤ i) (h6 : i + 6 ≤ L) {o5 o6 : Option Value} (h5 : mz_nl o5) (h6_ : mz_nl o6) {g : mz_G} {x : mm_X} (P : mz_Lq so L i g x) (T : RR4 g) {Q : (Option Value ⊕ Nat) → mm_H → Prop} (kk : ∀ g1 x1 p5 p6, mz_nl p5 → mz_nl p6 → mz_Lq so L (i + 6) g1 x1 → RR4 g1 → mm_W d mmL_law 1388 [some (.ref 5000), some (.ref 0), some (.ref 137), some (.ref 179), some (.int (Int32.ofInt i)), p5, p6] [] (mz_mk g1 x1) Q) : mm_W d mmL_law 676 [some (.ref 5000), some (.ref 0), some (.ref 137), some (.ref 179), some (.int (Int32.ofInt i)), o5, o6] [] (mz_mk g x) Q := by
  refine mm_g 4 (pc1 := 681) (lo1 := [some (.ref 5000), some (.ref 0), some (.ref 137), some (.ref 179), some (.int (Int32.ofInt i)), o5, o6]) (st1 := [.int (Int32.ofInt 1), .int (Int32.ofInt i), .ref 5000, .ref 0]) (H1 := mz_mk g x) rfl ?_
  refine mz_iadd rfl ?_
  refine mz_iaS (v := (g 5000 ((i + 1) : Int).toNat)) rfl (sh_5000 _) (by omega) (by have h9 := P.2.2.2.2.1; omega) (by have h9 := P.2.2.2.2.1; omega) rfl ?_
  refine mm_g 3 (pc1 := 687) (lo1 := [some (.ref 5000), some (.ref 0), some (.ref 137), some (.ref 179), some (.int (Int32.ofInt i)), o5, o6]) (st1 := [.int (Int32.ofInt 2), .int (Int32.ofInt i), .ref 5000, .int (Int32.ofInt (g 5000 ((i + 1) : Int).toNat)), .ref 0]) (H1 := mz_mk g x) rfl ?_
  refine mz_iadd rfl ?_
  refine mz_iaS (v := (g 5000 ((i + 2) : Int).toNat)) rfl (sh_5000 _) (by omega) (by have h9 := P.2.2.2.2.1; omega) (by have h9 := P.2.2.2.2.1; omega) rfl ?_
  refine mm_g 3 (pc1 := 693) (lo1 := [some (.ref 5000), some (.ref 0), some (.ref 137), some (.ref 179), some (.int (Int32.ofInt i)), o5, o6]) (st1 := [.int (Int32.ofInt 3), .int (Int32.ofInt i), .ref 5000, .int (Int32.ofInt (g 5000 ((i + 2) : Int).toNat)), .int (Int32.ofInt (g 5000 ((i + 1) : Int).toNat)), .ref 0]) (H1 := mz_mk g x) rfl ?_
  refine mz_iadd rfl ?_
  refine mz_iaS (v := (g 5000 ((i + 3) : Int).toNat)) rfl (sh_5000 _) (by omega) (by have h9 := P.2.2.2.2.1; omega) (by have h9 := P.2.2.2.2.1; omega) rfl ?_
  refine mm_g 1 (pc1 := 696) (lo1 := [some (.ref 5000), some (.ref 0), some (.ref 137), some (.ref 179), some (.int (Int32.ofInt i)), o5, o6]) (st1 := [.ref 179, .int (Int32.ofInt (g 5000 ((i + 3) : Int).toNat)), .int (Int32.ofInt (g 5000 ((i + 2) : Int).toNat)), .int (Int32.ofInt (g 5000 ((i + 1) : Int).toNat)), .ref 0]) (H1 := mz_mk g x) rfl ?_
  refine mz_cs rfl mt_13_148 (by decide) rfl (Nat.le_of_ble_eq_true rfl) (by omega) (w_L_then (by omega) P.2.1 P.1 (mz_rd P.1 (bd_5000 _)).1 (mz_rd P.1 (bd_5000 _)).2 (mz_rd P.1 (bd_5000 _)).1 (mz_rd P.1 (bd_5000 _)).2 (mz_rd P.1 (bd_5000 _)).1 (mz_rd P.1 (bd_5000 _)).2 (fun r g1 x1 hI1 hX1 hS1 hU1 => ⟨_, rfl, ?_⟩))
  have hT1 := RR4_c T hS1 hU1
  have P1 := mz_Lq_c P hI1 hS1.1 hX1
  show mm_W d mmL_law 699 [some (.ref 5000), some (.ref 0), some (.ref 137), some (.ref 179), some (.int (Int32.ofInt i)), o5, o6] [.int (Int32.ofInt r)] (mz_mk g1 x1) Q
  refine mm_g 5 (pc1 := 706) (lo1 := [some (.ref 5000), some (.ref 0), some (.ref 137), some (.ref 179), some (.int (Int32.ofInt i)), some (.int (Int32.ofInt r)), o6]) (st1 := [.int (Int32.ofInt 1), .int (Int32.ofInt i), .ref 5000, .ref 137]) (H1 := mz_mk g1 x1) rfl ?_
  refine mz_iadd rfl ?_
  refine mz_iaS (v := (g1 5000 ((i + 1) : Int).toNat)) rfl (sh_5000 _) (by omega) (by have h9 := P1.2.2.2.2.1; omega) (by have h9 := P1.2.2.2.2.1; omega) rfl ?_
  refine mm_g 3 (pc1 := 712) (lo1 := [some (.ref 5000), some (.ref 0), some (.ref 137), some (.ref 179), some (.int (Int32.ofInt i)), some (.int (Int32.ofInt r)), o6]) (st1 := [.int (Int32.ofInt 2), .int (Int32.ofInt i), .ref 5000, .int (Int32.ofInt (g1 5000 ((i + 1) : Int).toNat)), .ref 137]) (H1 := mz_mk g1 x1) rfl ?_
  refine mz_iadd rfl ?_
  refine mz_iaS (v := (g1 5000 ((i + 2) : Int).toNat)) rfl (sh_5000 _) (by omega) (by have h9 := P1.2.2.2.2.1; omega) (by have h9 := P1.2.2.2.2.1; omega) rfl ?_
  refine mm_g 3 (pc1 := 718) (lo1 := [some (.ref 5000), some (.ref 0), some (.ref 137), some (.ref 179), some (.int (Int32.ofInt i)), some (.int (Int32.ofInt r)), o6]) (st1 := [.int (Int32.ofInt 3), .int (Int32.ofInt i), .ref 5000, .int (Int32.ofInt (g1 5000 ((i + 2) : Int).toNat)), .int (Int32.ofInt (g1 5000 ((i + 1) : Int).toNat)), .ref 137]) (H1 := mz_mk g1 x1) rfl ?_
  refine mz_iadd rfl ?_
  refine mz_iaS (v := (g1 5000 ((i + 3) : Int).toNat)) rfl (sh_5000 _) (by omega) (by have h9 := P1.2.2.2.2.1; omega) (by have h9 := P1.2.2.2.2.1; omega) rfl ?_
  refine mz_cv rfl mt_13_150 (by decide) rfl rfl (Nat.le_of_ble_eq_true rfl) (by omega) (f_X12_then (by omega) P1.2.1 P1.1 (mz_rd P1.1 (bd_5000 _)).1 (mz_rd P1.1 (bd_5000 _)).2 (mz_rd P1.1 (bd_5000 _)).1 (mz_rd P1.1 (bd_5000 _)).2 (mz_rd P1.1 (bd_5000 _)).1 (mz_rd P1.1 (bd_5000 _)).2 P1.2.2.1.1 P1.2.2.1.2.1 (fun r2 g2 hI2 hf2 l_r2 u_r2 hp2_0 e2 => ⟨_, rfl, ?_⟩))
  have hR2 : mz_sr g1 g2 := ⟨hf2 82 1 (nw_X12_then_82 P1.2.1), hf2 137 15 (nw_X12_then_15 P1.2.1), fun j => hf2 149 j (nw_X12_then_149 P1.2.1 j), fun j => hf2 142 j (nw_X12_then_142 P1.2.1 j), fun j hj => hf2 140 j (nw_X12_then_140 P1.2.1 j hj)⟩
  have P2 := mz_Lq_r P1 hI2 hR2 hp2_0
  have hT2 := RR4_r hT1 hR2 ⟨fun j => hf2 83 j (nw_X12_then_83 P1.2.1 j), hf2 0 0 (nw_X12_then_0 P1.2.1), fun j => hf2 151 j (nw_X12_then_151 P1.2.1 j), hf2 137 24 (nw_X12_then_24 P1.2.1), fun k j hk => hf2 k j (nw_X12_then_2000 P1.2.1 k j hk)⟩
  show mm_W d mmL_law 723 [some (.ref 5000), some (.ref 0), some (.ref 137), some (.ref 179), some (.int (Int32.ofInt i)), some (.int (Int32.ofInt r)), o6] [.int (Int32.ofInt r2)] (mz_mk g2 x1) Q
  refine mm_g 1 (pc1 := 725) (lo1 := [some (.ref 5000), some (.ref 0), some (.ref 137), some (.ref 179), some (.int (Int32.ofInt i)), some (.int (Int32.ofInt r)), some (.int (Int32.ofInt r2))]) (st1 := []) (H1 := mz_mk g2 x1) rfl ?_
  refine mz_gt (tgt := 1388) rfl rfl ?_
  exact kk g2 x1 _ _ (mz_nl_i _) (mz_nl_i _) P2 hT2
set_option maxHeartbeats 4000000 in
set_option maxRecDepth 100000 in
theorem law_14 {d : Nat} (hd : 18 ≤ d) {so : Option Nat} {L : Nat} (hL : L ≤ 3072) {i : Int} (h0 : 0 ≤ i) (h6 : i + 6 ≤ L) {o5 o6 : Option Value} (h5 : mz_nl o5) (h6_ : mz_nl o6) {g : mz_G} {x : mm_X} (P : mz_Lq so L i g x) (T : RR4 g) {Q : (Option Value ⊕ Nat) → mm_H → Prop} (kk : ∀ g1 x1 p5 p6, mz_nl p5 → mz_nl p6 → mz_Lq so L (i + 6) g1 x1 → RR4 g1 → mm_W d mmL_law 1388 [some (.ref 5000), some (.ref 0), some (.ref 137), some (.ref 179), some (.int (Int32.ofInt i)), p5, p6] [] (mz_mk g1 x1) Q) : mm_W d mmL_law 728 [some (.ref 5000), some (.ref 0), some (.ref 137), some (.ref 179), some (.int (Int32.ofInt i)), o5, o6] [] (mz_mk g x) Q := by
  refine mm_g 4 (pc1 := 733) (lo1 := [some (.ref 5000), some (.ref 0), some (.ref 137), some (.ref 179), some (.int (Int32.ofInt i)), o5, o6]) (st1 := [.int (Int32.ofInt 1), .int (Int32.ofInt i), .ref 5000, .ref 0]) (H1 := mz_mk g x) rfl ?_
  refine mz_iadd rfl ?_
  refine mz_iaS (v := (g 5000 ((i + 1) : Int).toNat)) rfl (sh_5000 _) (by omega) (by have h9 := P.2.2.2.2.1; omega) (by have h9 := P.2.2.2.2.1; omega) rfl ?_
  refine mm_g 3 (pc1 := 739) (lo1 := [some (.ref 5000), some (.ref 0), some (.ref 137), some (.ref 179), some (.int (Int32.ofInt i)), o5, o6]) (st1 := [.int (Int32.ofInt 2), .int (Int32.ofInt i), .ref 5000, .int (Int32.ofInt (g 5000 ((i + 1) : Int).toNat)), .ref 0]) (H1 := mz_mk g x) rfl ?_
  refine mz_iadd rfl ?_
  refine mz_iaS (v := (g 5000 ((i + 2) : Int).toNat)) rfl (sh_5000 _) (by omega) (by have h9 := P.2.2.2.2.1; omega) (by have h9 := P.2.2.2.2.1; omega) rfl ?_
  refine mm_g 3 (pc1 := 745) (lo1 := [some (.ref 5000), some (.ref 0), some (.ref 137), some (.ref 179), some (.int (Int32.ofInt i)), o5, o6]) (st1 := [.int (Int32.ofInt 3), .int (Int32.ofInt i), .ref 5000, .int (Int32.ofInt (g 5000 ((i + 2) : Int).toNat)), .int (Int32.ofInt (g 5000 ((i + 1) : Int).toNat)), .ref 0]) (H1 := mz_mk g x) rfl ?_
  refine mz_iadd rfl ?_
  refine mz_iaS (v := (g 5000 ((i + 3) : Int).toNat)) rfl (sh_5000 _) (by omega) (by have h9 := P.2.2.2.2.1; omega) (by have h9 := P.2.2.2.2.1; omega) rfl ?_
  refine mm_g 1 (pc1 := 748) (lo1 := [some (.ref 5000), some (.ref 0), some (.ref 137), some (.ref 179), some (.int (Int32.ofInt i)), o5, o6]) (st1 := [.ref 179, .int (Int32.ofInt (g 5000 ((i + 3) : Int).toNat)), .int (Int32.ofInt (g 5000 ((i + 2) : Int).toNat)), .int (Int32.ofInt (g 5000 ((i + 1) : Int).toNat)), .ref 0]) (H1 := mz_mk g x) rfl ?_
  refine mz_cs rfl mt_13_151 (by decide) rfl (Nat.le_of_ble_eq_true rfl) (by omega) (w_L_blend (by omega) P.2.1 P.1 (mz_rd P.1 (bd_5000 _)).1 (mz_rd P.1 (bd_5000 _)).2 (mz_rd P.1 (bd_5000 _)).1 (mz_rd P.1 (bd_5000 _)).2 (mz_rd P.1 (bd_5000 _)).1 (mz_rd P.1 (bd_5000 _)).2 (fun r g1 x1 hI1 hX1 hS1 hU1 => ⟨_, rfl, ?_⟩))
  have hT1 := RR4_c T hS1 hU1
  have P1 := mz_Lq_c P hI1 hS1.1 hX1
  show mm_W d mmL_law 751 [some (.ref 5000), some (.ref 0), some (.ref 137), some (.ref 179), some (.int (Int32.ofInt i)), o5, o6] [.int (Int32.ofInt r)] (mz_mk g1 x1) Q
  refine mm_g 5 (pc1 := 758) (lo1 := [some (.ref 5000), some (.ref 0), some (.ref 137), some (.ref 179), some (.int (Int32.ofInt i)), some (.int (Int32.ofInt r)), o6]) (st1 := [.int (Int32.ofInt 1), .int (Int32.ofInt i), .ref 5000, .ref 137]) (H1 := mz_mk g1 x1) rfl ?_
  refine mz_iadd rfl ?_
  refine mz_iaS (v := (g1 5000 ((i + 1) : Int).toNat)) rfl (sh_5000 _) (by omega) (by have h9 := P1.2.2.2.2.1; omega) (by have h9 := P1.2.2.2.2.1; omega) rfl ?_
  refine mm_g 3 (pc1 := 764) (lo1 := [some (.ref 5000), some (.ref 0), some (.ref 137), some (.ref 179), some (.int (Int32.ofInt i)), some (.int (Int32.ofInt r)), o6]) (st1 := [.int (Int32.ofInt 2), .int (Int32.ofInt i), .ref 5000, .int (Int32.ofInt (g1 5000 ((i + 1) : Int).toNat)), .ref 137]) (H1 := mz_mk g1 x1) rfl ?_
  refine mz_iadd rfl ?_
  refine mz_iaS (v := (g1 5000 ((i + 2) : Int).toNat)) rfl (sh_5000 _) (by omega) (by have h9 := P1.2.2.2.2.1; omega) (by have h9 := P1.2.2.2.2.1; omega) rfl ?_
  refine mm_g 3 (pc1 := 770) (lo1 := [some (.ref 5000), some (.ref 0), some (.ref 137), some (.ref 179), some (.int (Int32.ofInt i)), some (.int (Int32.ofInt r)), o6]) (st1 := [.int (Int32.ofInt 3), .int (Int32.ofInt i), .ref 5000, .int (Int32.ofInt (g1 5000 ((i + 2) : Int).toNat)), .int (Int32.ofInt (g1 5000 ((i + 1) : Int).toNat)), .ref 137]) (H1 := mz_mk g1 x1) rfl ?_
  refine mz_iadd rfl ?_
  refine mz_iaS (v := (g1 5000 ((i + 3) : Int).toNat)) rfl (sh_5000 _) (by omega) (by have h9 := P1.2.2.2.2.1; omega) (by have h9 := P1.2.2.2.2.1; omega) rfl ?_
  refine mz_cv rfl mt_13_153 (by decide) rfl rfl (Nat.le_of_ble_eq_true rfl) (by omega) (f_X12_blend (by omega) P1.2.1 P1.1 (mz_rd P1.1 (bd_5000 _)).1 (mz_rd P1.1 (bd_5000 _)).2 (mz_rd P1.1 (bd_5000 _)).1 (mz_rd P1.1 (bd_5000 _)).2 (mz_rd P1.1 (bd_5000 _)).1 (mz_rd P1.1 (bd_5000 _)).2 P1.2.2.1.1 P1.2.2.1.2.1 (fun r2 g2 hI2 hf2 l_r2 u_r2 hp2_0 e2 => ⟨_, rfl, ?_⟩))
  have hR2 : mz_sr g1 g2 := ⟨hf2 82 1 (nw_X12_blend_82 P1.2.1), hf2 137 15 (nw_X12_blend_15 P1.2.1), fun j => hf2 149 j (nw_X12_blend_149 P1.2.1 j), fun j => hf2 142 j (nw_X12_blend_142 P1.2.1 j), fun j hj => hf2 140 j (nw_X12_blend_140 P1.2.1 j hj)⟩
  have P2 := mz_Lq_r P1 hI2 hR2 hp2_0
  have hT2 := RR4_r hT1 hR2 ⟨fun j => hf2 83 j (nw_X12_blend_83 P1.2.1 j), hf2 0 0 (nw_X12_blend_0 P1.2.1), fun j => hf2 151 j (nw_X12_blend_151 P1.2.1 j), hf2 137 24 (nw_X12_blend_24 P1.2.1), fun k j hk => hf2 k j (nw_X12_blend_2000 P1.2.1 k j hk)⟩
  show mm_W d mmL_law 775 [some (.ref 5000), some (.ref 0), some (.ref 137), some (.ref 179), some (.int (Int32.ofInt i)), some (.int (Int32.ofInt r)), o6] [.int (Int32.ofInt r2)] (mz_mk g2 x1) Q
  refine mm_g 1 (pc1 := 777) (lo1 := [some (.ref 5000), some (.ref 0), some (.ref 137), some (.ref 179), some (.int (Int32.ofInt i)), some (.int (Int32.ofInt r)), some (.int (Int32.ofInt r2))]) (st1 := []) (H1 := mz_mk g2 x1) rfl ?_
  refine mz_gt (tgt := 1388) rfl rfl ?_
  exact kk g2 x1 _ _ (mz_nl_i _) (mz_nl_i _) P2 hT2
set_option maxHeartbeats 4000000 in
set_option maxRecDepth 100000 in
theorem law_15 {d : Nat} (hd : 18 ≤ d) {so : Option Nat} {L : Nat} (hL : L ≤ 3072) {i : Int} (h0 : 0 ≤ i) (h6 : i + 6 ≤ L) {o5 o6 : Option Value} (h5 : mz_nl o5) (h6_ : mz_nl o6) {g : mz_G} {x : mm_X} (P : mz_Lq so L i g x) (T : RR4 g) {Q : (Option Value ⊕ Nat) → mm_H → Prop} (kk : ∀ g1 x1 p5 p6, mz_nl p5 → mz_nl p6 → mz_Lq so L (i + 6) g1 x1 → RR4 g1 → mm_W d mmL_law 1388 [some (.ref 5000), some (.ref 0), some (.ref 137), some (.ref 179), some (.int (Int32.ofInt i)), p5, p6] [] (mz_mk g1 x1) Q) : mm_W d mmL_law 780 [some (.ref 5000), some (.ref 0), some (.ref 137), some (.ref 179), some (.int (Int32.ofInt i)), o5, o6] [] (mz_mk g x) Q := by
  refine mm_g 4 (pc1 := 785) (lo1 := [some (.ref 5000), some (.ref 0), some (.ref 137), some (.ref 179), some (.int (Int32.ofInt i)), o5, o6]) (st1 := [.int (Int32.ofInt 1), .int (Int32.ofInt i), .ref 5000, .ref 0]) (H1 := mz_mk g x) rfl ?_
  refine mz_iadd rfl ?_
  refine mz_iaS (v := (g 5000 ((i + 1) : Int).toNat)) rfl (sh_5000 _) (by omega) (by have h9 := P.2.2.2.2.1; omega) (by have h9 := P.2.2.2.2.1; omega) rfl ?_
  refine mm_g 3 (pc1 := 791) (lo1 := [some (.ref 5000), some (.ref 0), some (.ref 137), some (.ref 179), some (.int (Int32.ofInt i)), o5, o6]) (st1 := [.int (Int32.ofInt 2), .int (Int32.ofInt i), .ref 5000, .int (Int32.ofInt (g 5000 ((i + 1) : Int).toNat)), .ref 0]) (H1 := mz_mk g x) rfl ?_
  refine mz_iadd rfl ?_
  refine mz_iaS (v := (g 5000 ((i + 2) : Int).toNat)) rfl (sh_5000 _) (by omega) (by have h9 := P.2.2.2.2.1; omega) (by have h9 := P.2.2.2.2.1; omega) rfl ?_
  refine mm_g 1 (pc1 := 794) (lo1 := [some (.ref 5000), some (.ref 0), some (.ref 137), some (.ref 179), some (.int (Int32.ofInt i)), o5, o6]) (st1 := [.ref 179, .int (Int32.ofInt (g 5000 ((i + 2) : Int).toNat)), .int (Int32.ofInt (g 5000 ((i + 1) : Int).toNat)), .ref 0]) (H1 := mz_mk g x) rfl ?_
  refine mz_cs rfl mt_13_154 (by decide) rfl (Nat.le_of_ble_eq_true rfl) (by omega) (w_L_later (by omega) P.2.1 P.1 (mz_rd P.1 (bd_5000 _)).1 (mz_rd P.1 (bd_5000 _)).2 (mz_rd P.1 (bd_5000 _)).1 (mz_rd P.1 (bd_5000 _)).2 (fun r g1 x1 hI1 hX1 hS1 hU1 => ⟨_, rfl, ?_⟩))
  have hT1 := RR4_c T hS1 hU1
  have P1 := mz_Lq_c P hI1 hS1.1 hX1
  show mm_W d mmL_law 797 [some (.ref 5000), some (.ref 0), some (.ref 137), some (.ref 179), some (.int (Int32.ofInt i)), o5, o6] [.int (Int32.ofInt r)] (mz_mk g1 x1) Q
  refine mm_g 5 (pc1 := 804) (lo1 := [some (.ref 5000), some (.ref 0), some (.ref 137), some (.ref 179), some (.int (Int32.ofInt i)), some (.int (Int32.ofInt r)), o6]) (st1 := [.int (Int32.ofInt 1), .int (Int32.ofInt i), .ref 5000, .ref 137]) (H1 := mz_mk g1 x1) rfl ?_
  refine mz_iadd rfl ?_
  refine mz_iaS (v := (g1 5000 ((i + 1) : Int).toNat)) rfl (sh_5000 _) (by omega) (by have h9 := P1.2.2.2.2.1; omega) (by have h9 := P1.2.2.2.2.1; omega) rfl ?_
  refine mm_g 3 (pc1 := 810) (lo1 := [some (.ref 5000), some (.ref 0), some (.ref 137), some (.ref 179), some (.int (Int32.ofInt i)), some (.int (Int32.ofInt r)), o6]) (st1 := [.int (Int32.ofInt 2), .int (Int32.ofInt i), .ref 5000, .int (Int32.ofInt (g1 5000 ((i + 1) : Int).toNat)), .ref 137]) (H1 := mz_mk g1 x1) rfl ?_
  refine mz_iadd rfl ?_
  refine mz_iaS (v := (g1 5000 ((i + 2) : Int).toNat)) rfl (sh_5000 _) (by omega) (by have h9 := P1.2.2.2.2.1; omega) (by have h9 := P1.2.2.2.2.1; omega) rfl ?_
  refine mz_cv rfl mt_13_156 (by decide) rfl rfl (Nat.le_of_ble_eq_true rfl) (by omega) (f_X12_later (by omega) P1.2.1 P1.1 (mz_rd P1.1 (bd_5000 _)).1 (mz_rd P1.1 (bd_5000 _)).2 (mz_rd P1.1 (bd_5000 _)).1 (mz_rd P1.1 (bd_5000 _)).2 P1.2.2.1.1 P1.2.2.1.2.1 (fun r2 g2 hI2 hf2 l_r2 u_r2 hp2_0 e2 => ⟨_, rfl, ?_⟩))
  have hR2 : mz_sr g1 g2 := ⟨hf2 82 1 (nw_X12_later_82 P1.2.1), hf2 137 15 (nw_X12_later_15 P1.2.1), fun j => hf2 149 j (nw_X12_later_149 P1.2.1 j), fun j => hf2 142 j (nw_X12_later_142 P1.2.1 j), fun j hj => hf2 140 j (nw_X12_later_140 P1.2.1 j hj)⟩
  have P2 := mz_Lq_r P1 hI2 hR2 hp2_0
  have hT2 := RR4_r hT1 hR2 ⟨fun j => hf2 83 j (nw_X12_later_83 P1.2.1 j), hf2 0 0 (nw_X12_later_0 P1.2.1), fun j => hf2 151 j (nw_X12_later_151 P1.2.1 j), hf2 137 24 (nw_X12_later_24 P1.2.1), fun k j hk => hf2 k j (nw_X12_later_2000 P1.2.1 k j hk)⟩
  show mm_W d mmL_law 815 [some (.ref 5000), some (.ref 0), some (.ref 137), some (.ref 179), some (.int (Int32.ofInt i)), some (.int (Int32.ofInt r)), o6] [.int (Int32.ofInt r2)] (mz_mk g2 x1) Q
  refine mm_g 1 (pc1 := 817) (lo1 := [some (.ref 5000), some (.ref 0), some (.ref 137), some (.ref 179), some (.int (Int32.ofInt i)), some (.int (Int32.ofInt r)), some (.int (Int32.ofInt r2))]) (st1 := []) (H1 := mz_mk g2 x1) rfl ?_
  refine mz_gt (tgt := 1388) rfl rfl ?_
  exact kk g2 x1 _ _ (mz_nl_i _) (mz_nl_i _) P2 hT2
