/-! THE LAW'S TURNS (wip/p2/tools/gen60.py) -/
set_option maxHeartbeats 4000000 in
set_option maxRecDepth 100000 in
theorem law_16 {d : Nat} (hd : 17 ≤ d) {so : Option Nat} {L : Nat} (hL : L ≤ 3072) {i : Int} (h0 : 0 ≤ i) (h6 : i + 6 ≤ L) {o5 o6 : Option Value} (h5 : mz_nl o5) (h6_ : mz_nl o6) {g : mz_G} {x : mm_X} (P : mz_Lq so L i g x) (T : RR x g) {Q : (Option Value ⊕ Nat) → mm_H → Prop} (kk : ∀ g1 x1 p5 p6, mz_nl p5 → mz_nl p6 → mz_Lq so L (i + 6) g1 x1 → RR x1 g1 → mm_W d mmL_law 1388 [some (.ref 5000), some (.ref 0), some (.ref 137), some (.ref 179), some (.int (Int32.ofInt i)), p5, p6] [] (mz_mk g1 x1) Q) : mm_W d mmL_law 792 [some (.ref 5000), some (.ref 0), some (.ref 137), some (.ref 179), some (.int (Int32.ofInt i)), o5, o6] [] (mz_mk g x) Q := by
  refine mm_g2 sg_16 4 (pc1 := 797) (lo1 := [some (.ref 5000), some (.ref 0), some (.ref 137), some (.ref 179), some (.int (Int32.ofInt i)), o5, o6]) (st1 := [.int (Int32.ofInt 1), .int (Int32.ofInt i), .ref 5000, .ref 0]) (H1 := mz_mk g x) rfl ?_
  refine mz_iadd (sg_16 _ _ rfl) ?_
  refine mz_iaS (v := (g 5000 ((i + 1) : Int).toNat)) (sg_16 _ _ rfl) (sh_5000 _) (by omega) (by have h9 := P.2.2.2.2.1; omega) (by have h9 := P.2.2.2.2.1; omega) rfl ?_
  refine mm_g2 sg_16 1 (pc1 := 800) (lo1 := [some (.ref 5000), some (.ref 0), some (.ref 137), some (.ref 179), some (.int (Int32.ofInt i)), o5, o6]) (st1 := [.ref 179, .int (Int32.ofInt (g 5000 ((i + 1) : Int).toNat)), .ref 0]) (H1 := mz_mk g x) rfl ?_
  refine mz_cs (sg_16 _ _ rfl) mt_13_154 (by decide) rfl (Nat.le_of_ble_eq_true rfl) (by omega) (w_L_full (by omega) P.2.1 P.1 (mz_rd P.1 (bd_5000 _)).1 (mz_rd P.1 (bd_5000 _)).2 (fun r1 g1 x1 hI1 hX1 hS1 hW1 hN1 => ⟨_, rfl, ?_⟩))
  have P1 := mz_Lq_c P hI1 hS1 hX1
  have hT1 : RR x1 g1 := RR_q P.2.1 T hS1 hN1 hW1.2.2.2.1
  show mm_W d mmL_law 803 [some (.ref 5000), some (.ref 0), some (.ref 137), some (.ref 179), some (.int (Int32.ofInt i)), o5, o6] [.int (Int32.ofInt r1)] (mz_mk g1 x1) Q
  refine mm_g2 sg_16 5 (pc1 := 810) (lo1 := [some (.ref 5000), some (.ref 0), some (.ref 137), some (.ref 179), some (.int (Int32.ofInt i)), some (.int (Int32.ofInt r1)), o6]) (st1 := [.int (Int32.ofInt 1), .int (Int32.ofInt i), .ref 5000, .ref 137]) (H1 := mz_mk g1 x1) rfl ?_
  refine mz_iadd (sg_16 _ _ rfl) ?_
  refine mz_iaS (v := (g1 5000 ((i + 1) : Int).toNat)) (sg_16 _ _ rfl) (sh_5000 _) (by omega) (by have h9 := P1.2.2.2.2.1; omega) (by have h9 := P1.2.2.2.2.1; omega) rfl ?_
  refine mz_cv (sg_16 _ _ rfl) mt_13_156 (by decide) rfl rfl (Nat.le_of_ble_eq_true rfl) (by omega) (f_X12_full (by omega) P1.2.1 P1.1 (mz_rd P1.1 (bd_5000 _)).1 (mz_rd P1.1 (bd_5000 _)).2 P1.2.2.1.1 P1.2.2.1.2.1 (fun r2 g2 hI2 hf2 l_r2 u_r2 hp2_0 e2 => ⟨_, rfl, ?_⟩))
  have hF2 : ∀ a b : Nat, a < 137 ∨ 2000 ≤ a → g2 a b = g1 a b := fun a b z => hf2 a b (fun y => by have w := (nz_X12_full_lo P1.2.1 _ _ y); omega)
  have hR2 : mz_sr g1 g2 := ⟨hf2 82 1 (nw_X12_full_82 P1.2.1), hf2 137 15 (nw_X12_full_15 P1.2.1), fun j => hf2 149 j (nw_X12_full_149 P1.2.1 j), fun j => hf2 142 j (nw_X12_full_142 P1.2.1 j), fun j hj => hf2 140 j (nw_X12_full_140 P1.2.1 j hj)⟩
  have P2 := mz_Lq_r P1 hI2 hR2 hp2_0
  have hT2 := RR_r P1.2.1 hT1 hF2 (fun a b z z1 z2 => hf2 a b (fun y => (nz_X12_full_nb5 P1.2.1 _ _ y).elim z (fun w => w.elim z1 z2))) (sm_e e2 (full_s (kr_P P1.1 P1.2.2.1)))
  show mm_W d mmL_law 815 [some (.ref 5000), some (.ref 0), some (.ref 137), some (.ref 179), some (.int (Int32.ofInt i)), some (.int (Int32.ofInt r1)), o6] [.int (Int32.ofInt r2)] (mz_mk g2 x1) Q
  refine mm_g2 sg_16 1 (pc1 := 817) (lo1 := [some (.ref 5000), some (.ref 0), some (.ref 137), some (.ref 179), some (.int (Int32.ofInt i)), some (.int (Int32.ofInt r1)), some (.int (Int32.ofInt r2))]) (st1 := []) (H1 := mz_mk g2 x1) rfl ?_
  refine mz_gt (tgt := 1388) (sg_16 _ _ rfl) rfl ?_
  exact kk g2 x1 _ _ (mz_nl_i _) (mz_nl_i _) P2 hT2
set_option maxHeartbeats 4000000 in
set_option maxRecDepth 100000 in
theorem law_17 {d : Nat} (hd : 17 ≤ d) {so : Option Nat} {L : Nat} (hL : L ≤ 3072) {i : Int} (h0 : 0 ≤ i) (h6 : i + 6 ≤ L) {o5 o6 : Option Value} (h5 : mz_nl o5) (h6_ : mz_nl o6) {g : mz_G} {x : mm_X} (P : mz_Lq so L i g x) (T : RR x g) {Q : (Option Value ⊕ Nat) → mm_H → Prop} (kk : ∀ g1 x1 p5 p6, mz_nl p5 → mz_nl p6 → mz_Lq so L (i + 6) g1 x1 → RR x1 g1 → mm_W d mmL_law 1388 [some (.ref 5000), some (.ref 0), some (.ref 137), some (.ref 179), some (.int (Int32.ofInt i)), p5, p6] [] (mz_mk g1 x1) Q) : mm_W d mmL_law 820 [some (.ref 5000), some (.ref 0), some (.ref 137), some (.ref 179), some (.int (Int32.ofInt i)), o5, o6] [] (mz_mk g x) Q := by
  refine mm_g2 sg_17 4 (pc1 := 825) (lo1 := [some (.ref 5000), some (.ref 0), some (.ref 137), some (.ref 179), some (.int (Int32.ofInt i)), o5, o6]) (st1 := [.int (Int32.ofInt 1), .int (Int32.ofInt i), .ref 5000, .ref 0]) (H1 := mz_mk g x) rfl ?_
  refine mz_iadd (sg_17 _ _ rfl) ?_
  refine mz_iaS (v := (g 5000 ((i + 1) : Int).toNat)) (sg_17 _ _ rfl) (sh_5000 _) (by omega) (by have h9 := P.2.2.2.2.1; omega) (by have h9 := P.2.2.2.2.1; omega) rfl ?_
  refine mm_g2 sg_17 3 (pc1 := 831) (lo1 := [some (.ref 5000), some (.ref 0), some (.ref 137), some (.ref 179), some (.int (Int32.ofInt i)), o5, o6]) (st1 := [.int (Int32.ofInt 2), .int (Int32.ofInt i), .ref 5000, .int (Int32.ofInt (g 5000 ((i + 1) : Int).toNat)), .ref 0]) (H1 := mz_mk g x) rfl ?_
  refine mz_iadd (sg_17 _ _ rfl) ?_
  refine mz_iaS (v := (g 5000 ((i + 2) : Int).toNat)) (sg_17 _ _ rfl) (sh_5000 _) (by omega) (by have h9 := P.2.2.2.2.1; omega) (by have h9 := P.2.2.2.2.1; omega) rfl ?_
  refine mm_g2 sg_17 1 (pc1 := 834) (lo1 := [some (.ref 5000), some (.ref 0), some (.ref 137), some (.ref 179), some (.int (Int32.ofInt i)), o5, o6]) (st1 := [.ref 179, .int (Int32.ofInt (g 5000 ((i + 2) : Int).toNat)), .int (Int32.ofInt (g 5000 ((i + 1) : Int).toNat)), .ref 0]) (H1 := mz_mk g x) rfl ?_
  refine mz_cs (sg_17 _ _ rfl) mt_13_157 (by decide) rfl (Nat.le_of_ble_eq_true rfl) (by omega) (w_L_read (by omega) P.2.1 P.1 (mz_rd P.1 (bd_5000 _)).1 (mz_rd P.1 (bd_5000 _)).2 (mz_rd P.1 (bd_5000 _)).1 (mz_rd P.1 (bd_5000 _)).2 (fun r1 g1 x1 hI1 hX1 hS1 hW1 hN1 => ⟨_, rfl, ?_⟩))
  have P1 := mz_Lq_c P hI1 hS1 hX1
  have hT1 : RR x1 g1 := RR_q P.2.1 T hS1 hN1 hW1.2.2.2.1
  show mm_W d mmL_law 837 [some (.ref 5000), some (.ref 0), some (.ref 137), some (.ref 179), some (.int (Int32.ofInt i)), o5, o6] [.int (Int32.ofInt r1)] (mz_mk g1 x1) Q
  refine mm_g2 sg_17 5 (pc1 := 844) (lo1 := [some (.ref 5000), some (.ref 0), some (.ref 137), some (.ref 179), some (.int (Int32.ofInt i)), some (.int (Int32.ofInt r1)), o6]) (st1 := [.int (Int32.ofInt 1), .int (Int32.ofInt i), .ref 5000, .ref 137]) (H1 := mz_mk g1 x1) rfl ?_
  refine mz_iadd (sg_17 _ _ rfl) ?_
  refine mz_iaS (v := (g1 5000 ((i + 1) : Int).toNat)) (sg_17 _ _ rfl) (sh_5000 _) (by omega) (by have h9 := P1.2.2.2.2.1; omega) (by have h9 := P1.2.2.2.2.1; omega) rfl ?_
  refine mm_g2 sg_17 3 (pc1 := 850) (lo1 := [some (.ref 5000), some (.ref 0), some (.ref 137), some (.ref 179), some (.int (Int32.ofInt i)), some (.int (Int32.ofInt r1)), o6]) (st1 := [.int (Int32.ofInt 2), .int (Int32.ofInt i), .ref 5000, .int (Int32.ofInt (g1 5000 ((i + 1) : Int).toNat)), .ref 137]) (H1 := mz_mk g1 x1) rfl ?_
  refine mz_iadd (sg_17 _ _ rfl) ?_
  refine mz_iaS (v := (g1 5000 ((i + 2) : Int).toNat)) (sg_17 _ _ rfl) (sh_5000 _) (by omega) (by have h9 := P1.2.2.2.2.1; omega) (by have h9 := P1.2.2.2.2.1; omega) rfl ?_
  refine mz_cv (sg_17 _ _ rfl) mt_13_159 (by decide) rfl rfl (Nat.le_of_ble_eq_true rfl) (by omega) (f_X12_read (by omega) P1.2.1 P1.1 (mz_rd P1.1 (bd_5000 _)).1 (mz_rd P1.1 (bd_5000 _)).2 (mz_rd P1.1 (bd_5000 _)).1 (mz_rd P1.1 (bd_5000 _)).2 P1.2.2.1.1 P1.2.2.1.2.1 (fun r2 g2 hI2 hf2 l_r2 u_r2 hp2_0 e2 => ⟨_, rfl, ?_⟩))
  have hF2 : ∀ a b : Nat, a < 137 ∨ 2000 ≤ a → g2 a b = g1 a b := fun a b z => hf2 a b (fun y => by have w := (nz_X12_read_lo P1.2.1 _ _ y); omega)
  have hR2 : mz_sr g1 g2 := ⟨hf2 82 1 (nw_X12_read_82 P1.2.1), hf2 137 15 (nw_X12_read_15 P1.2.1), fun j => hf2 149 j (nw_X12_read_149 P1.2.1 j), fun j => hf2 142 j (nw_X12_read_142 P1.2.1 j), fun j hj => hf2 140 j (nw_X12_read_140 P1.2.1 j hj)⟩
  have P2 := mz_Lq_r P1 hI2 hR2 hp2_0
  have hT2 := RR_r P1.2.1 hT1 hF2 (fun a b z z1 z2 => hf2 a b (fun y => (nz_X12_read_nb5 P1.2.1 _ _ y).elim z (fun w => w.elim z1 z2))) (sm_e e2 (read_s (x := x1) P1.2.1 P1.1 (kr_P P1.1 P1.2.2.1) (w8_P P1.1) P1.2.2.1.2.1))
  show mm_W d mmL_law 855 [some (.ref 5000), some (.ref 0), some (.ref 137), some (.ref 179), some (.int (Int32.ofInt i)), some (.int (Int32.ofInt r1)), o6] [.int (Int32.ofInt r2)] (mz_mk g2 x1) Q
  refine mm_g2 sg_17 1 (pc1 := 857) (lo1 := [some (.ref 5000), some (.ref 0), some (.ref 137), some (.ref 179), some (.int (Int32.ofInt i)), some (.int (Int32.ofInt r1)), some (.int (Int32.ofInt r2))]) (st1 := []) (H1 := mz_mk g2 x1) rfl ?_
  refine mz_gt (tgt := 1388) (sg_17 _ _ rfl) rfl ?_
  exact kk g2 x1 _ _ (mz_nl_i _) (mz_nl_i _) P2 hT2
set_option maxHeartbeats 4000000 in
set_option maxRecDepth 100000 in
theorem law_18 {d : Nat} (hd : 17 ≤ d) {so : Option Nat} {L : Nat} (hL : L ≤ 3072) {i : Int} (h0 : 0 ≤ i) (h6 : i + 6 ≤ L) {o5 o6 : Option Value} (h5 : mz_nl o5) (h6_ : mz_nl o6) {g : mz_G} {x : mm_X} (P : mz_Lq so L i g x) (T : RR x g) {Q : (Option Value ⊕ Nat) → mm_H → Prop} (kk : ∀ g1 x1 p5 p6, mz_nl p5 → mz_nl p6 → mz_Lq so L (i + 6) g1 x1 → RR x1 g1 → mm_W d mmL_law 1388 [some (.ref 5000), some (.ref 0), some (.ref 137), some (.ref 179), some (.int (Int32.ofInt i)), p5, p6] [] (mz_mk g1 x1) Q) : mm_W d mmL_law 860 [some (.ref 5000), some (.ref 0), some (.ref 137), some (.ref 179), some (.int (Int32.ofInt i)), o5, o6] [] (mz_mk g x) Q := by
  refine mm_g2 sg_18 4 (pc1 := 865) (lo1 := [some (.ref 5000), some (.ref 0), some (.ref 137), some (.ref 179), some (.int (Int32.ofInt i)), o5, o6]) (st1 := [.int (Int32.ofInt 1), .int (Int32.ofInt i), .ref 5000, .ref 0]) (H1 := mz_mk g x) rfl ?_
  refine mz_iadd (sg_18 _ _ rfl) ?_
  refine mz_iaS (v := (g 5000 ((i + 1) : Int).toNat)) (sg_18 _ _ rfl) (sh_5000 _) (by omega) (by have h9 := P.2.2.2.2.1; omega) (by have h9 := P.2.2.2.2.1; omega) rfl ?_
  refine mm_g2 sg_18 3 (pc1 := 871) (lo1 := [some (.ref 5000), some (.ref 0), some (.ref 137), some (.ref 179), some (.int (Int32.ofInt i)), o5, o6]) (st1 := [.int (Int32.ofInt 2), .int (Int32.ofInt i), .ref 5000, .int (Int32.ofInt (g 5000 ((i + 1) : Int).toNat)), .ref 0]) (H1 := mz_mk g x) rfl ?_
  refine mz_iadd (sg_18 _ _ rfl) ?_
  refine mz_iaS (v := (g 5000 ((i + 2) : Int).toNat)) (sg_18 _ _ rfl) (sh_5000 _) (by omega) (by have h9 := P.2.2.2.2.1; omega) (by have h9 := P.2.2.2.2.1; omega) rfl ?_
  refine mm_g2 sg_18 1 (pc1 := 874) (lo1 := [some (.ref 5000), some (.ref 0), some (.ref 137), some (.ref 179), some (.int (Int32.ofInt i)), o5, o6]) (st1 := [.ref 179, .int (Int32.ofInt (g 5000 ((i + 2) : Int).toNat)), .int (Int32.ofInt (g 5000 ((i + 1) : Int).toNat)), .ref 0]) (H1 := mz_mk g x) rfl ?_
  refine mz_cs (sg_18 _ _ rfl) mt_13_160 (by decide) rfl (Nat.le_of_ble_eq_true rfl) (by omega) (w_L_alike (by omega) P.2.1 P.1 (mz_rd P.1 (bd_5000 _)).1 (mz_rd P.1 (bd_5000 _)).2 (mz_rd P.1 (bd_5000 _)).1 (mz_rd P.1 (bd_5000 _)).2 (fun r1 g1 x1 hI1 hX1 hS1 hW1 hN1 => ⟨_, rfl, ?_⟩))
  have P1 := mz_Lq_c P hI1 hS1 hX1
  have hT1 : RR x1 g1 := RR_q P.2.1 T hS1 hN1 hW1.2.2.2.1
  show mm_W d mmL_law 877 [some (.ref 5000), some (.ref 0), some (.ref 137), some (.ref 179), some (.int (Int32.ofInt i)), o5, o6] [.int (Int32.ofInt r1)] (mz_mk g1 x1) Q
  refine mm_g2 sg_18 5 (pc1 := 884) (lo1 := [some (.ref 5000), some (.ref 0), some (.ref 137), some (.ref 179), some (.int (Int32.ofInt i)), some (.int (Int32.ofInt r1)), o6]) (st1 := [.int (Int32.ofInt 1), .int (Int32.ofInt i), .ref 5000, .ref 137]) (H1 := mz_mk g1 x1) rfl ?_
  refine mz_iadd (sg_18 _ _ rfl) ?_
  refine mz_iaS (v := (g1 5000 ((i + 1) : Int).toNat)) (sg_18 _ _ rfl) (sh_5000 _) (by omega) (by have h9 := P1.2.2.2.2.1; omega) (by have h9 := P1.2.2.2.2.1; omega) rfl ?_
  refine mm_g2 sg_18 3 (pc1 := 890) (lo1 := [some (.ref 5000), some (.ref 0), some (.ref 137), some (.ref 179), some (.int (Int32.ofInt i)), some (.int (Int32.ofInt r1)), o6]) (st1 := [.int (Int32.ofInt 2), .int (Int32.ofInt i), .ref 5000, .int (Int32.ofInt (g1 5000 ((i + 1) : Int).toNat)), .ref 137]) (H1 := mz_mk g1 x1) rfl ?_
  refine mz_iadd (sg_18 _ _ rfl) ?_
  refine mz_iaS (v := (g1 5000 ((i + 2) : Int).toNat)) (sg_18 _ _ rfl) (sh_5000 _) (by omega) (by have h9 := P1.2.2.2.2.1; omega) (by have h9 := P1.2.2.2.2.1; omega) rfl ?_
  refine mz_cv (sg_18 _ _ rfl) mt_13_162 (by decide) rfl rfl (Nat.le_of_ble_eq_true rfl) (by omega) (f_X12_alike (by omega) P1.2.1 P1.1 (mz_rd P1.1 (bd_5000 _)).1 (mz_rd P1.1 (bd_5000 _)).2 (mz_rd P1.1 (bd_5000 _)).1 (mz_rd P1.1 (bd_5000 _)).2 P1.2.2.1.1 P1.2.2.1.2.1 (fun r2 g2 hI2 hf2 l_r2 u_r2 hp2_0 e2 => ⟨_, rfl, ?_⟩))
  have hF2 : ∀ a b : Nat, a < 137 ∨ 2000 ≤ a → g2 a b = g1 a b := fun a b z => hf2 a b (fun y => by have w := (nz_X12_alike_lo P1.2.1 _ _ y); omega)
  have hR2 : mz_sr g1 g2 := ⟨hf2 82 1 (nw_X12_alike_82 P1.2.1), hf2 137 15 (nw_X12_alike_15 P1.2.1), fun j => hf2 149 j (nw_X12_alike_149 P1.2.1 j), fun j => hf2 142 j (nw_X12_alike_142 P1.2.1 j), fun j hj => hf2 140 j (nw_X12_alike_140 P1.2.1 j hj)⟩
  have P2 := mz_Lq_r P1 hI2 hR2 hp2_0
  have hT2 := RR_r P1.2.1 hT1 hF2 (fun a b z z1 z2 => hf2 a b (fun y => (nz_X12_alike_nb5 P1.2.1 _ _ y).elim z (fun w => w.elim z1 z2))) (sm_e e2 (alike_s (x := x1) P1.2.1 P1.1 (kr_P P1.1 P1.2.2.1) P1.2.2.1.2.1))
  show mm_W d mmL_law 895 [some (.ref 5000), some (.ref 0), some (.ref 137), some (.ref 179), some (.int (Int32.ofInt i)), some (.int (Int32.ofInt r1)), o6] [.int (Int32.ofInt r2)] (mz_mk g2 x1) Q
  refine mm_g2 sg_18 1 (pc1 := 897) (lo1 := [some (.ref 5000), some (.ref 0), some (.ref 137), some (.ref 179), some (.int (Int32.ofInt i)), some (.int (Int32.ofInt r1)), some (.int (Int32.ofInt r2))]) (st1 := []) (H1 := mz_mk g2 x1) rfl ?_
  refine mz_gt (tgt := 1388) (sg_18 _ _ rfl) rfl ?_
  exact kk g2 x1 _ _ (mz_nl_i _) (mz_nl_i _) P2 hT2
set_option maxHeartbeats 4000000 in
set_option maxRecDepth 100000 in
theorem law_19 {d : Nat} (hd : 15 ≤ d) {so : Option Nat} {L : Nat} (hL : L ≤ 3072) {i : Int} (h0 : 0 ≤ i) (h6 : i + 6 ≤ L) {o5 o6 : Option Value} (h5 : mz_nl o5) (h6_ : mz_nl o6) {g : mz_G} {x : mm_X} (P : mz_Lq so L i g x) (T : RR x g) {Q : (Option Value ⊕ Nat) → mm_H → Prop} (kk : ∀ g1 x1 p5 p6, mz_nl p5 → mz_nl p6 → mz_Lq so L (i + 6) g1 x1 → RR x1 g1 → mm_W d mmL_law 1388 [some (.ref 5000), some (.ref 0), some (.ref 137), some (.ref 179), some (.int (Int32.ofInt i)), p5, p6] [] (mz_mk g1 x1) Q) : mm_W d mmL_law 900 [some (.ref 5000), some (.ref 0), some (.ref 137), some (.ref 179), some (.int (Int32.ofInt i)), o5, o6] [] (mz_mk g x) Q := by
  refine mm_g2 sg_19 4 (pc1 := 905) (lo1 := [some (.ref 5000), some (.ref 0), some (.ref 137), some (.ref 179), some (.int (Int32.ofInt i)), o5, o6]) (st1 := [.int (Int32.ofInt 1), .int (Int32.ofInt i), .ref 5000, .ref 0]) (H1 := mz_mk g x) rfl ?_
  refine mz_iadd (sg_19 _ _ rfl) ?_
  refine mz_iaS (v := (g 5000 ((i + 1) : Int).toNat)) (sg_19 _ _ rfl) (sh_5000 _) (by omega) (by have h9 := P.2.2.2.2.1; omega) (by have h9 := P.2.2.2.2.1; omega) rfl ?_
  refine mm_g2 sg_19 3 (pc1 := 911) (lo1 := [some (.ref 5000), some (.ref 0), some (.ref 137), some (.ref 179), some (.int (Int32.ofInt i)), o5, o6]) (st1 := [.int (Int32.ofInt 2), .int (Int32.ofInt i), .ref 5000, .int (Int32.ofInt (g 5000 ((i + 1) : Int).toNat)), .ref 0]) (H1 := mz_mk g x) rfl ?_
  refine mz_iadd (sg_19 _ _ rfl) ?_
  refine mz_iaS (v := (g 5000 ((i + 2) : Int).toNat)) (sg_19 _ _ rfl) (sh_5000 _) (by omega) (by have h9 := P.2.2.2.2.1; omega) (by have h9 := P.2.2.2.2.1; omega) rfl ?_
  refine mm_g2 sg_19 3 (pc1 := 917) (lo1 := [some (.ref 5000), some (.ref 0), some (.ref 137), some (.ref 179), some (.int (Int32.ofInt i)), o5, o6]) (st1 := [.int (Int32.ofInt 3), .int (Int32.ofInt i), .ref 5000, .int (Int32.ofInt (g 5000 ((i + 2) : Int).toNat)), .int (Int32.ofInt (g 5000 ((i + 1) : Int).toNat)), .ref 0]) (H1 := mz_mk g x) rfl ?_
  refine mz_iadd (sg_19 _ _ rfl) ?_
  refine mz_iaS (v := (g 5000 ((i + 3) : Int).toNat)) (sg_19 _ _ rfl) (sh_5000 _) (by omega) (by have h9 := P.2.2.2.2.1; omega) (by have h9 := P.2.2.2.2.1; omega) rfl ?_
  refine mm_g2 sg_19 1 (pc1 := 920) (lo1 := [some (.ref 5000), some (.ref 0), some (.ref 137), some (.ref 179), some (.int (Int32.ofInt i)), o5, o6]) (st1 := [.ref 179, .int (Int32.ofInt (g 5000 ((i + 3) : Int).toNat)), .int (Int32.ofInt (g 5000 ((i + 2) : Int).toNat)), .int (Int32.ofInt (g 5000 ((i + 1) : Int).toNat)), .ref 0]) (H1 := mz_mk g x) rfl ?_
  refine mz_cs (sg_19 _ _ rfl) mt_13_163 (by decide) rfl (Nat.le_of_ble_eq_true rfl) (by omega) (w_L_both (by omega) P.2.1 P.1 (mz_rd P.1 (bd_5000 _)).1 (mz_rd P.1 (bd_5000 _)).2 (mz_rd P.1 (bd_5000 _)).1 (mz_rd P.1 (bd_5000 _)).2 (mz_rd P.1 (bd_5000 _)).1 (mz_rd P.1 (bd_5000 _)).2 (fun r1 g1 x1 hI1 hX1 hS1 hW1 hN1 => ⟨_, rfl, ?_⟩))
  have P1 := mz_Lq_c P hI1 hS1 hX1
  have hT1 : RR x1 g1 := RR_q P.2.1 T hS1 hN1 hW1.2.2.2.1
  show mm_W d mmL_law 923 [some (.ref 5000), some (.ref 0), some (.ref 137), some (.ref 179), some (.int (Int32.ofInt i)), o5, o6] [.int (Int32.ofInt r1)] (mz_mk g1 x1) Q
  refine mm_g2 sg_19 5 (pc1 := 930) (lo1 := [some (.ref 5000), some (.ref 0), some (.ref 137), some (.ref 179), some (.int (Int32.ofInt i)), some (.int (Int32.ofInt r1)), o6]) (st1 := [.int (Int32.ofInt 1), .int (Int32.ofInt i), .ref 5000, .ref 137]) (H1 := mz_mk g1 x1) rfl ?_
  refine mz_iadd (sg_19 _ _ rfl) ?_
  refine mz_iaS (v := (g1 5000 ((i + 1) : Int).toNat)) (sg_19 _ _ rfl) (sh_5000 _) (by omega) (by have h9 := P1.2.2.2.2.1; omega) (by have h9 := P1.2.2.2.2.1; omega) rfl ?_
  refine mm_g2 sg_19 3 (pc1 := 936) (lo1 := [some (.ref 5000), some (.ref 0), some (.ref 137), some (.ref 179), some (.int (Int32.ofInt i)), some (.int (Int32.ofInt r1)), o6]) (st1 := [.int (Int32.ofInt 2), .int (Int32.ofInt i), .ref 5000, .int (Int32.ofInt (g1 5000 ((i + 1) : Int).toNat)), .ref 137]) (H1 := mz_mk g1 x1) rfl ?_
  refine mz_iadd (sg_19 _ _ rfl) ?_
  refine mz_iaS (v := (g1 5000 ((i + 2) : Int).toNat)) (sg_19 _ _ rfl) (sh_5000 _) (by omega) (by have h9 := P1.2.2.2.2.1; omega) (by have h9 := P1.2.2.2.2.1; omega) rfl ?_
  refine mm_g2 sg_19 3 (pc1 := 942) (lo1 := [some (.ref 5000), some (.ref 0), some (.ref 137), some (.ref 179), some (.int (Int32.ofInt i)), some (.int (Int32.ofInt r1)), o6]) (st1 := [.int (Int32.ofInt 3), .int (Int32.ofInt i), .ref 5000, .int (Int32.ofInt (g1 5000 ((i + 2) : Int).toNat)), .int (Int32.ofInt (g1 5000 ((i + 1) : Int).toNat)), .ref 137]) (H1 := mz_mk g1 x1) rfl ?_
  refine mz_iadd (sg_19 _ _ rfl) ?_
  refine mz_iaS (v := (g1 5000 ((i + 3) : Int).toNat)) (sg_19 _ _ rfl) (sh_5000 _) (by omega) (by have h9 := P1.2.2.2.2.1; omega) (by have h9 := P1.2.2.2.2.1; omega) rfl ?_
  refine mz_cv (sg_19 _ _ rfl) mt_13_165 (by decide) rfl rfl (Nat.le_of_ble_eq_true rfl) (by omega) (f_X12_both (by omega) P1.2.1 P1.1 (mz_rd P1.1 (bd_5000 _)).1 (mz_rd P1.1 (bd_5000 _)).2 (mz_rd P1.1 (bd_5000 _)).1 (mz_rd P1.1 (bd_5000 _)).2 (mz_rd P1.1 (bd_5000 _)).1 (mz_rd P1.1 (bd_5000 _)).2 P1.2.2.1.1 P1.2.2.1.2.1 (fun r2 g2 hI2 hf2 l_r2 u_r2 hp2_0 e2 => ⟨_, rfl, ?_⟩))
  have hF2 : ∀ a b : Nat, a < 137 ∨ 2000 ≤ a → g2 a b = g1 a b := fun a b z => hf2 a b (fun y => by have w := (nz_X12_both_lo P1.2.1 _ _ y); omega)
  have hR2 : mz_sr g1 g2 := ⟨hf2 82 1 (nw_X12_both_82 P1.2.1), hf2 137 15 (nw_X12_both_15 P1.2.1), fun j => hf2 149 j (nw_X12_both_149 P1.2.1 j), fun j => hf2 142 j (nw_X12_both_142 P1.2.1 j), fun j hj => hf2 140 j (nw_X12_both_140 P1.2.1 j hj)⟩
  have P2 := mz_Lq_r P1 hI2 hR2 hp2_0
  have hT2 := RR_b P1.2.1 hT1 hF2 (fun a b z => hf2 a b (fun y => z (nz_X12_both_nb P1.2.1 _ _ y)))
  show mm_W d mmL_law 947 [some (.ref 5000), some (.ref 0), some (.ref 137), some (.ref 179), some (.int (Int32.ofInt i)), some (.int (Int32.ofInt r1)), o6] [.int (Int32.ofInt r2)] (mz_mk g2 x1) Q
  refine mm_g2 sg_19 1 (pc1 := 949) (lo1 := [some (.ref 5000), some (.ref 0), some (.ref 137), some (.ref 179), some (.int (Int32.ofInt i)), some (.int (Int32.ofInt r1)), some (.int (Int32.ofInt r2))]) (st1 := []) (H1 := mz_mk g2 x1) rfl ?_
  refine mz_gt (tgt := 1388) (sg_19 _ _ rfl) rfl ?_
  exact kk g2 x1 _ _ (mz_nl_i _) (mz_nl_i _) P2 hT2
set_option maxHeartbeats 4000000 in
set_option maxRecDepth 100000 in
theorem law_20 {d : Nat} (hd : 16 ≤ d) {so : Option Nat} {L : Nat} (hL : L ≤ 3072) {i : Int} (h0 : 0 ≤ i) (h6 : i + 6 ≤ L) {o5 o6 : Option Value} (h5 : mz_nl o5) (h6_ : mz_nl o6) {g : mz_G} {x : mm_X} (P : mz_Lq so L i g x) (T : RR x g) {Q : (Option Value ⊕ Nat) → mm_H → Prop} (kk : ∀ g1 x1 p5 p6, mz_nl p5 → mz_nl p6 → mz_Lq so L (i + 6) g1 x1 → RR x1 g1 → mm_W d mmL_law 1388 [some (.ref 5000), some (.ref 0), some (.ref 137), some (.ref 179), some (.int (Int32.ofInt i)), p5, p6] [] (mz_mk g1 x1) Q) : mm_W d mmL_law 952 [some (.ref 5000), some (.ref 0), some (.ref 137), some (.ref 179), some (.int (Int32.ofInt i)), o5, o6] [] (mz_mk g x) Q := by
  refine mm_g2 sg_20 4 (pc1 := 957) (lo1 := [some (.ref 5000), some (.ref 0), some (.ref 137), some (.ref 179), some (.int (Int32.ofInt i)), o5, o6]) (st1 := [.int (Int32.ofInt 1), .int (Int32.ofInt i), .ref 5000, .ref 0]) (H1 := mz_mk g x) rfl ?_
  refine mz_iadd (sg_20 _ _ rfl) ?_
  refine mz_iaS (v := (g 5000 ((i + 1) : Int).toNat)) (sg_20 _ _ rfl) (sh_5000 _) (by omega) (by have h9 := P.2.2.2.2.1; omega) (by have h9 := P.2.2.2.2.1; omega) rfl ?_
  refine mm_g2 sg_20 1 (pc1 := 960) (lo1 := [some (.ref 5000), some (.ref 0), some (.ref 137), some (.ref 179), some (.int (Int32.ofInt i)), o5, o6]) (st1 := [.ref 179, .int (Int32.ofInt (g 5000 ((i + 1) : Int).toNat)), .ref 0]) (H1 := mz_mk g x) rfl ?_
  refine mz_cs (sg_20 _ _ rfl) mt_13_166 (by decide) rfl (Nat.le_of_ble_eq_true rfl) (by omega) (w_L_row (by omega) P.2.1 P.1 (mz_rd P.1 (bd_5000 _)).1 (mz_rd P.1 (bd_5000 _)).2 (fun r1 g1 x1 hI1 hX1 hS1 hW1 hN1 => ⟨_, rfl, ?_⟩))
  have P1 := mz_Lq_c P hI1 hS1 hX1
  have hT1 : RR x1 g1 := RR_q P.2.1 T hS1 hN1 hW1.2.2.2.1
  show mm_W d mmL_law 963 [some (.ref 5000), some (.ref 0), some (.ref 137), some (.ref 179), some (.int (Int32.ofInt i)), o5, o6] [.int (Int32.ofInt r1)] (mz_mk g1 x1) Q
  refine mm_g2 sg_20 5 (pc1 := 970) (lo1 := [some (.ref 5000), some (.ref 0), some (.ref 137), some (.ref 179), some (.int (Int32.ofInt i)), some (.int (Int32.ofInt r1)), o6]) (st1 := [.int (Int32.ofInt 1), .int (Int32.ofInt i), .ref 5000, .ref 137]) (H1 := mz_mk g1 x1) rfl ?_
  refine mz_iadd (sg_20 _ _ rfl) ?_
  refine mz_iaS (v := (g1 5000 ((i + 1) : Int).toNat)) (sg_20 _ _ rfl) (sh_5000 _) (by omega) (by have h9 := P1.2.2.2.2.1; omega) (by have h9 := P1.2.2.2.2.1; omega) rfl ?_
  refine mz_cv (sg_20 _ _ rfl) mt_13_168 (by decide) rfl rfl (Nat.le_of_ble_eq_true rfl) (by omega) (f_X12_row (by omega) P1.2.1 P1.1 (mz_rd P1.1 (bd_5000 _)).1 (mz_rd P1.1 (bd_5000 _)).2 P1.2.2.1.1 P1.2.2.1.2.1 (fun r2 g2 hI2 hf2 l_r2 u_r2 hp2_0 e2 => ⟨_, rfl, ?_⟩))
  have hF2 : ∀ a b : Nat, a < 137 ∨ 2000 ≤ a → g2 a b = g1 a b := fun a b z => hf2 a b (fun y => by have w := (nz_X12_row_lo P1.2.1 _ _ y); omega)
  have hR2 : mz_sr g1 g2 := ⟨hf2 82 1 (nw_X12_row_82 P1.2.1), hf2 137 15 (nw_X12_row_15 P1.2.1), fun j => hf2 149 j (nw_X12_row_149 P1.2.1 j), fun j => hf2 142 j (nw_X12_row_142 P1.2.1 j), fun j hj => hf2 140 j (nw_X12_row_140 P1.2.1 j hj)⟩
  have P2 := mz_Lq_r P1 hI2 hR2 hp2_0
  have hT2 := RR_b P1.2.1 hT1 hF2 (fun a b z => hf2 a b (fun y => z (nz_X12_row_nb P1.2.1 _ _ y)))
  show mm_W d mmL_law 975 [some (.ref 5000), some (.ref 0), some (.ref 137), some (.ref 179), some (.int (Int32.ofInt i)), some (.int (Int32.ofInt r1)), o6] [.int (Int32.ofInt r2)] (mz_mk g2 x1) Q
  refine mm_g2 sg_20 1 (pc1 := 977) (lo1 := [some (.ref 5000), some (.ref 0), some (.ref 137), some (.ref 179), some (.int (Int32.ofInt i)), some (.int (Int32.ofInt r1)), some (.int (Int32.ofInt r2))]) (st1 := []) (H1 := mz_mk g2 x1) rfl ?_
  refine mz_gt (tgt := 1388) (sg_20 _ _ rfl) rfl ?_
  exact kk g2 x1 _ _ (mz_nl_i _) (mz_nl_i _) P2 hT2
set_option maxHeartbeats 4000000 in
set_option maxRecDepth 100000 in
theorem law_21 {d : Nat} (hd : 15 ≤ d) {so : Option Nat} {L : Nat} (hL : L ≤ 3072) {i : Int} (h0 : 0 ≤ i) (h6 : i + 6 ≤ L) {o5 o6 : Option Value} (h5 : mz_nl o5) (h6_ : mz_nl o6) {g : mz_G} {x : mm_X} (P : mz_Lq so L i g x) (T : RR x g) {Q : (Option Value ⊕ Nat) → mm_H → Prop} (kk : ∀ g1 x1 p5 p6, mz_nl p5 → mz_nl p6 → mz_Lq so L (i + 6) g1 x1 → RR x1 g1 → mm_W d mmL_law 1388 [some (.ref 5000), some (.ref 0), some (.ref 137), some (.ref 179), some (.int (Int32.ofInt i)), p5, p6] [] (mz_mk g1 x1) Q) : mm_W d mmL_law 980 [some (.ref 5000), some (.ref 0), some (.ref 137), some (.ref 179), some (.int (Int32.ofInt i)), o5, o6] [] (mz_mk g x) Q := by
  refine mm_g2 sg_21 4 (pc1 := 985) (lo1 := [some (.ref 5000), some (.ref 0), some (.ref 137), some (.ref 179), some (.int (Int32.ofInt i)), o5, o6]) (st1 := [.int (Int32.ofInt 1), .int (Int32.ofInt i), .ref 5000, .ref 0]) (H1 := mz_mk g x) rfl ?_
  refine mz_iadd (sg_21 _ _ rfl) ?_
  refine mz_iaS (v := (g 5000 ((i + 1) : Int).toNat)) (sg_21 _ _ rfl) (sh_5000 _) (by omega) (by have h9 := P.2.2.2.2.1; omega) (by have h9 := P.2.2.2.2.1; omega) rfl ?_
  refine mm_g2 sg_21 1 (pc1 := 988) (lo1 := [some (.ref 5000), some (.ref 0), some (.ref 137), some (.ref 179), some (.int (Int32.ofInt i)), o5, o6]) (st1 := [.ref 179, .int (Int32.ofInt (g 5000 ((i + 1) : Int).toNat)), .ref 0]) (H1 := mz_mk g x) rfl ?_
  refine mz_cs (sg_21 _ _ rfl) mt_13_169 (by decide) rfl (Nat.le_of_ble_eq_true rfl) (by omega) (w_L_chain (by omega) P.2.1 P.1 (mz_rd P.1 (bd_5000 _)).1 (mz_rd P.1 (bd_5000 _)).2 (fun r1 g1 x1 hI1 hX1 hS1 hW1 hN1 => ⟨_, rfl, ?_⟩))
  have P1 := mz_Lq_c P hI1 hS1 hX1
  have hT1 : RR x1 g1 := RR_q P.2.1 T hS1 hN1 hW1.2.2.2.1
  show mm_W d mmL_law 991 [some (.ref 5000), some (.ref 0), some (.ref 137), some (.ref 179), some (.int (Int32.ofInt i)), o5, o6] [.int (Int32.ofInt r1)] (mz_mk g1 x1) Q
  refine mm_g2 sg_21 5 (pc1 := 998) (lo1 := [some (.ref 5000), some (.ref 0), some (.ref 137), some (.ref 179), some (.int (Int32.ofInt i)), some (.int (Int32.ofInt r1)), o6]) (st1 := [.int (Int32.ofInt 1), .int (Int32.ofInt i), .ref 5000, .ref 137]) (H1 := mz_mk g1 x1) rfl ?_
  refine mz_iadd (sg_21 _ _ rfl) ?_
  refine mz_iaS (v := (g1 5000 ((i + 1) : Int).toNat)) (sg_21 _ _ rfl) (sh_5000 _) (by omega) (by have h9 := P1.2.2.2.2.1; omega) (by have h9 := P1.2.2.2.2.1; omega) rfl ?_
  refine mz_cv (sg_21 _ _ rfl) mt_13_171 (by decide) rfl rfl (Nat.le_of_ble_eq_true rfl) (by omega) (f_X12_chain (by omega) P1.2.1 P1.1 (mz_rd P1.1 (bd_5000 _)).1 (mz_rd P1.1 (bd_5000 _)).2 P1.2.2.1.1 P1.2.2.1.2.1 P1.2.2.1.2.2.2 (fun r2 g2 hI2 hf2 l_r2 u_r2 hp2_0 e2 => ⟨_, rfl, ?_⟩))
  have hq2 : ∀ j : Nat, g1 5000 j = g 5000 j := fun j => hS1 5000 j (by decide)
  rw [hq2] at e2
  have hF2 : ∀ a b : Nat, a < 137 ∨ 2000 ≤ a → g2 a b = g1 a b := fun a b z => hf2 a b (fun y => by have w := (nz_X12_chain_lo P1.2.1 _ _ y); omega)
  have hR2 : mz_sr g1 g2 := ⟨hf2 82 1 (nw_X12_chain_82 P1.2.1), hf2 137 15 (nw_X12_chain_15 P1.2.1), fun j => hf2 149 j (nw_X12_chain_149 P1.2.1 j), fun j => hf2 142 j (nw_X12_chain_142 P1.2.1 j), fun j hj => hf2 140 j (nw_X12_chain_140 P1.2.1 j hj)⟩
  have P2 := mz_Lq_r P1 hI2 hR2 hp2_0
  have hT2 := RR_b P1.2.1 hT1 hF2 (fun a b z => hf2 a b (fun y => z (nz_X12_chain_nb P1.2.1 _ _ y)))
  obtain ⟨hk2, hO2, hr0, hr2⟩ := RR_ka hW1 e2 (chain_a P.2.1 T.2 (RR_s T hS1))
  show mm_W d mmL_law 1003 [some (.ref 5000), some (.ref 0), some (.ref 137), some (.ref 179), some (.int (Int32.ofInt i)), some (.int (Int32.ofInt r1)), o6] [.int (Int32.ofInt r2)] (mz_mk g2 x1) Q
  refine mm_g2 sg_21 2 (pc1 := 1006) (lo1 := [some (.ref 5000), some (.ref 0), some (.ref 137), some (.ref 179), some (.int (Int32.ofInt i)), some (.int (Int32.ofInt r1)), some (.int (Int32.ofInt r2))]) (st1 := [.ref 137]) (H1 := mz_mk g2 x1) rfl ?_
  refine mz_cv (sg_21 _ _ rfl) mt_13_172 (by decide) rfl rfl (Nat.le_of_ble_eq_true rfl) (by omega) (f_X12_thrown (by omega) P2.2.1 P2.1 (fun r3 l_r3 u_r3 e3 => ⟨_, rfl, ?_⟩))
  have h3 := thr_e e3
  show mm_W d mmL_law 1009 [some (.ref 5000), some (.ref 0), some (.ref 137), some (.ref 179), some (.int (Int32.ofInt i)), some (.int (Int32.ofInt r1)), some (.int (Int32.ofInt r2))] [.int (Int32.ofInt r3)] (mz_mk g2 x1) Q
  refine mm_g2 sg_21 1 (pc1 := 1011) (lo1 := [some (.ref 5000), some (.ref 0), some (.ref 137), some (.ref 179), some (.int (Int32.ofInt i)), some (.int (Int32.ofInt r1)), some (.int (Int32.ofInt r2))]) (st1 := [.int (Int32.ofInt r1), .int (Int32.ofInt r3)]) (H1 := mz_mk g2 x1) rfl ?_
  have hE : r3 = r1 := by omega
  refine mz_ic_eq (tgt := 1016) (sg_21 _ _ rfl) rfl ⟨by omega, by omega⟩ ⟨by omega, by omega⟩ (fun _ => ?_) (fun z => absurd hE z)
  refine mm_g2 sg_21 1 (pc1 := 1018) (lo1 := [some (.ref 5000), some (.ref 0), some (.ref 137), some (.ref 179), some (.int (Int32.ofInt i)), some (.int (Int32.ofInt r1)), some (.int (Int32.ofInt r2))]) (st1 := [.int (Int32.ofInt r1)]) (H1 := mz_mk g2 x1) rfl ?_
  refine mz_if_ne (tgt := 1033) (sg_21 _ _ rfl) rfl ⟨by omega, by omega⟩ (fun _ => ?_) (fun hk => ?_)
  · refine mz_gt (tgt := 1388) (sg_21 _ _ rfl) rfl ?_
    exact kk g2 x1 _ _ (mz_nl_i _) (mz_nl_i _) P2 hT2
  refine mm_g2 sg_21 2 (pc1 := 1023) (lo1 := [some (.ref 5000), some (.ref 0), some (.ref 137), some (.ref 179), some (.int (Int32.ofInt i)), some (.int (Int32.ofInt r1)), some (.int (Int32.ofInt r2))]) (st1 := [.int (Int32.ofInt 0), .ref 179]) (H1 := mz_mk g2 x1) rfl ?_
  refine mz_lal (sg_21 _ _ rfl) (hO2 hk) ?_
  refine mm_g2 sg_21 1 (pc1 := 1026) (lo1 := [some (.ref 5000), some (.ref 0), some (.ref 137), some (.ref 179), some (.int (Int32.ofInt i)), some (.int (Int32.ofInt r1)), some (.int (Int32.ofInt r2))]) (st1 := [.int (Int32.ofInt r2), .long (Int64.ofInt r2)]) (H1 := mz_mk g2 x1) rfl ?_
  refine mz_i2l (sg_21 _ _ rfl) ⟨by omega, by omega⟩ ?_
  refine mz_lcmp (sg_21 _ _ rfl) ⟨by omega, by omega⟩ ⟨by omega, by omega⟩ (fun v hv hc => ?_)
  refine mz_if_eq (tgt := 1033) (sg_21 _ _ rfl) rfl hv (fun _ => ?_) (fun z => absurd (by omega : v = 0) z)
  refine mz_gt (tgt := 1388) (sg_21 _ _ rfl) rfl ?_
  exact kk g2 x1 _ _ (mz_nl_i _) (mz_nl_i _) P2 hT2
set_option maxHeartbeats 4000000 in
set_option maxRecDepth 100000 in
theorem law_22 {d : Nat} (hd : 18 ≤ d) {so : Option Nat} {L : Nat} (hL : L ≤ 3072) {i : Int} (h0 : 0 ≤ i) (h6 : i + 6 ≤ L) {o5 o6 : Option Value} (h5 : mz_nl o5) (h6_ : mz_nl o6) {g : mz_G} {x : mm_X} (P : mz_Lq so L i g x) (T : RR x g) {Q : (Option Value ⊕ Nat) → mm_H → Prop} (kk : ∀ g1 x1 p5 p6, mz_nl p5 → mz_nl p6 → mz_Lq so L (i + 6) g1 x1 → RR x1 g1 → mm_W d mmL_law 1388 [some (.ref 5000), some (.ref 0), some (.ref 137), some (.ref 179), some (.int (Int32.ofInt i)), p5, p6] [] (mz_mk g1 x1) Q) : mm_W d mmL_law 1036 [some (.ref 5000), some (.ref 0), some (.ref 137), some (.ref 179), some (.int (Int32.ofInt i)), o5, o6] [] (mz_mk g x) Q := by
  refine mm_g2 sg_22 4 (pc1 := 1041) (lo1 := [some (.ref 5000), some (.ref 0), some (.ref 137), some (.ref 179), some (.int (Int32.ofInt i)), o5, o6]) (st1 := [.int (Int32.ofInt 1), .int (Int32.ofInt i), .ref 5000, .ref 0]) (H1 := mz_mk g x) rfl ?_
  refine mz_iadd (sg_22 _ _ rfl) ?_
  refine mz_iaS (v := (g 5000 ((i + 1) : Int).toNat)) (sg_22 _ _ rfl) (sh_5000 _) (by omega) (by have h9 := P.2.2.2.2.1; omega) (by have h9 := P.2.2.2.2.1; omega) rfl ?_
  refine mm_g2 sg_22 3 (pc1 := 1047) (lo1 := [some (.ref 5000), some (.ref 0), some (.ref 137), some (.ref 179), some (.int (Int32.ofInt i)), o5, o6]) (st1 := [.int (Int32.ofInt 2), .int (Int32.ofInt i), .ref 5000, .int (Int32.ofInt (g 5000 ((i + 1) : Int).toNat)), .ref 0]) (H1 := mz_mk g x) rfl ?_
  refine mz_iadd (sg_22 _ _ rfl) ?_
  refine mz_iaS (v := (g 5000 ((i + 2) : Int).toNat)) (sg_22 _ _ rfl) (sh_5000 _) (by omega) (by have h9 := P.2.2.2.2.1; omega) (by have h9 := P.2.2.2.2.1; omega) rfl ?_
  refine mm_g2 sg_22 1 (pc1 := 1050) (lo1 := [some (.ref 5000), some (.ref 0), some (.ref 137), some (.ref 179), some (.int (Int32.ofInt i)), o5, o6]) (st1 := [.ref 179, .int (Int32.ofInt (g 5000 ((i + 2) : Int).toNat)), .int (Int32.ofInt (g 5000 ((i + 1) : Int).toNat)), .ref 0]) (H1 := mz_mk g x) rfl ?_
  refine mz_cs (sg_22 _ _ rfl) mt_13_175 (by decide) rfl (Nat.le_of_ble_eq_true rfl) (by omega) (w_L_toDraw (by omega) P.2.1 P.1 (mz_rd P.1 (bd_5000 _)).1 (mz_rd P.1 (bd_5000 _)).2 (mz_rd P.1 (bd_5000 _)).1 (mz_rd P.1 (bd_5000 _)).2 (fun r1 g1 x1 hI1 hX1 hS1 hW1 hN1 => ⟨_, rfl, ?_⟩))
  have P1 := mz_Lq_c P hI1 hS1 hX1
  have hT1 : RR x1 g1 := RR_q P.2.1 T hS1 hN1 hW1.2.2.2.1
  show mm_W d mmL_law 1053 [some (.ref 5000), some (.ref 0), some (.ref 137), some (.ref 179), some (.int (Int32.ofInt i)), o5, o6] [.int (Int32.ofInt r1)] (mz_mk g1 x1) Q
  refine mm_g2 sg_22 5 (pc1 := 1060) (lo1 := [some (.ref 5000), some (.ref 0), some (.ref 137), some (.ref 179), some (.int (Int32.ofInt i)), some (.int (Int32.ofInt r1)), o6]) (st1 := [.int (Int32.ofInt 1), .int (Int32.ofInt i), .ref 5000, .ref 137]) (H1 := mz_mk g1 x1) rfl ?_
  refine mz_iadd (sg_22 _ _ rfl) ?_
  refine mz_iaS (v := (g1 5000 ((i + 1) : Int).toNat)) (sg_22 _ _ rfl) (sh_5000 _) (by omega) (by have h9 := P1.2.2.2.2.1; omega) (by have h9 := P1.2.2.2.2.1; omega) rfl ?_
  refine mm_g2 sg_22 3 (pc1 := 1066) (lo1 := [some (.ref 5000), some (.ref 0), some (.ref 137), some (.ref 179), some (.int (Int32.ofInt i)), some (.int (Int32.ofInt r1)), o6]) (st1 := [.int (Int32.ofInt 2), .int (Int32.ofInt i), .ref 5000, .int (Int32.ofInt (g1 5000 ((i + 1) : Int).toNat)), .ref 137]) (H1 := mz_mk g1 x1) rfl ?_
  refine mz_iadd (sg_22 _ _ rfl) ?_
  refine mz_iaS (v := (g1 5000 ((i + 2) : Int).toNat)) (sg_22 _ _ rfl) (sh_5000 _) (by omega) (by have h9 := P1.2.2.2.2.1; omega) (by have h9 := P1.2.2.2.2.1; omega) rfl ?_
  refine mz_cv (sg_22 _ _ rfl) mt_13_177 (by decide) rfl rfl (Nat.le_of_ble_eq_true rfl) (by omega) (f_X12_toDraw (by omega) P1.2.1 P1.1 (mz_rd P1.1 (bd_5000 _)).1 (mz_rd P1.1 (bd_5000 _)).2 (mz_rd P1.1 (bd_5000 _)).1 (mz_rd P1.1 (bd_5000 _)).2 P1.2.2.1.1 P1.2.2.1.2.1 (fun r2 g2 hI2 hf2 l_r2 u_r2 hp2_0 e2 => ⟨_, rfl, ?_⟩))
  have hF2 : ∀ a b : Nat, a < 137 ∨ 2000 ≤ a → g2 a b = g1 a b := fun a b z => hf2 a b (fun y => by have w := (nz_X12_toDraw_lo P1.2.1 _ _ y); omega)
  have hR2 : mz_sr g1 g2 := ⟨hf2 82 1 (nw_X12_toDraw_82 P1.2.1), hf2 137 15 (nw_X12_toDraw_15 P1.2.1), fun j => hf2 149 j (nw_X12_toDraw_149 P1.2.1 j), fun j => hf2 142 j (nw_X12_toDraw_142 P1.2.1 j), fun j hj => hf2 140 j (nw_X12_toDraw_140 P1.2.1 j hj)⟩
  have P2 := mz_Lq_r P1 hI2 hR2 hp2_0
  have hT2 := RR_r P1.2.1 hT1 hF2 (fun a b z z1 z2 => hf2 a b (fun y => (nz_X12_toDraw_nb5 P1.2.1 _ _ y).elim z (fun w => w.elim z1 z2))) (sm_e e2 (toDraw_s (kr_P P1.1 P1.2.2.1)))
  show mm_W d mmL_law 1071 [some (.ref 5000), some (.ref 0), some (.ref 137), some (.ref 179), some (.int (Int32.ofInt i)), some (.int (Int32.ofInt r1)), o6] [.int (Int32.ofInt r2)] (mz_mk g2 x1) Q
  refine mm_g2 sg_22 1 (pc1 := 1073) (lo1 := [some (.ref 5000), some (.ref 0), some (.ref 137), some (.ref 179), some (.int (Int32.ofInt i)), some (.int (Int32.ofInt r1)), some (.int (Int32.ofInt r2))]) (st1 := []) (H1 := mz_mk g2 x1) rfl ?_
  refine mz_gt (tgt := 1388) (sg_22 _ _ rfl) rfl ?_
  exact kk g2 x1 _ _ (mz_nl_i _) (mz_nl_i _) P2 hT2
set_option maxHeartbeats 4000000 in
set_option maxRecDepth 100000 in
theorem law_23 {d : Nat} (hd : 16 ≤ d) {so : Option Nat} {L : Nat} (hL : L ≤ 3072) {i : Int} (h0 : 0 ≤ i) (h6 : i + 6 ≤ L) {o5 o6 : Option Value} (h5 : mz_nl o5) (h6_ : mz_nl o6) {g : mz_G} {x : mm_X} (P : mz_Lq so L i g x) (T : RR x g) {Q : (Option Value ⊕ Nat) → mm_H → Prop} (kk : ∀ g1 x1 p5 p6, mz_nl p5 → mz_nl p6 → mz_Lq so L (i + 6) g1 x1 → RR x1 g1 → mm_W d mmL_law 1388 [some (.ref 5000), some (.ref 0), some (.ref 137), some (.ref 179), some (.int (Int32.ofInt i)), p5, p6] [] (mz_mk g1 x1) Q) : mm_W d mmL_law 1076 [some (.ref 5000), some (.ref 0), some (.ref 137), some (.ref 179), some (.int (Int32.ofInt i)), o5, o6] [] (mz_mk g x) Q := by
  refine mm_g2 sg_23 1 (pc1 := 1077) (lo1 := [some (.ref 5000), some (.ref 0), some (.ref 137), some (.ref 179), some (.int (Int32.ofInt i)), o5, o6]) (st1 := [.ref 0]) (H1 := mz_mk g x) rfl ?_
  refine mz_cv (sg_23 _ _ rfl) mt_13_178 (by decide) rfl rfl (Nat.le_of_ble_eq_true rfl) (by omega) (f_X11_couples (by omega) P.2.1 P.1 (fun r1 g1 hI1 hf1 l_r1 u_r1 e1 => ⟨_, rfl, ?_⟩))
  have hS1 : ∀ k j : Nat, 137 ≤ k → g1 k j = g k j := fun k j hk => hf1 k j (nw_X11_couples_137 P.2.1 k j hk)
  have P1 := mz_Lq_c P hI1 hS1 (mz_xx_rf P.2.1)
  have hT1 : RR x g1 := RR_q P.2.1 T hS1 (fun a b z => hf1 a b (fun y => z (nz_X11_couples_na P.2.1 _ _ y))) rfl
  show mm_W d mmL_law 1080 [some (.ref 5000), some (.ref 0), some (.ref 137), some (.ref 179), some (.int (Int32.ofInt i)), o5, o6] [.int (Int32.ofInt r1)] (mz_mk g1 x) Q
  refine mm_g2 sg_23 2 (pc1 := 1082) (lo1 := [some (.ref 5000), some (.ref 0), some (.ref 137), some (.ref 179), some (.int (Int32.ofInt i)), o5, o6]) (st1 := [.ref 137]) (H1 := mz_mk g1 x) rfl ?_
  refine mz_cv (sg_23 _ _ rfl) mt_13_181 (by decide) rfl rfl (Nat.le_of_ble_eq_true rfl) (by omega) (f_X12_couples (by omega) P1.2.1 P1.1 P1.2.2.1.1 P1.2.2.1.2.1 (fun r2 g2 hI2 hf2 l_r2 u_r2 hp2_0 e2 => ⟨_, rfl, ?_⟩))
  have hF2 : ∀ a b : Nat, a < 137 ∨ 2000 ≤ a → g2 a b = g1 a b := fun a b z => hf2 a b (fun y => by have w := (nz_X12_couples_lo P1.2.1 _ _ y); omega)
  have hR2 : mz_sr g1 g2 := ⟨hf2 82 1 (nw_X12_couples_82 P1.2.1), hf2 137 15 (nw_X12_couples_15 P1.2.1), fun j => hf2 149 j (nw_X12_couples_149 P1.2.1 j), fun j => hf2 142 j (nw_X12_couples_142 P1.2.1 j), fun j hj => hf2 140 j (nw_X12_couples_140 P1.2.1 j hj)⟩
  have P2 := mz_Lq_r P1 hI2 hR2 hp2_0
  have hT2 := RR_b P1.2.1 hT1 hF2 (fun a b z => hf2 a b (fun y => z (nz_X12_couples_nb P1.2.1 _ _ y)))
  show mm_W d mmL_law 1085 [some (.ref 5000), some (.ref 0), some (.ref 137), some (.ref 179), some (.int (Int32.ofInt i)), o5, o6] [.int (Int32.ofInt r2)] (mz_mk g2 x) Q
  refine mm_g2 sg_23 1 (pc1 := 1086) (lo1 := [some (.ref 5000), some (.ref 0), some (.ref 137), some (.ref 179), some (.int (Int32.ofInt i)), o5, o6]) (st1 := []) (H1 := mz_mk g2 x) rfl ?_
  refine mz_gt (tgt := 1388) (sg_23 _ _ rfl) rfl ?_
  exact kk g2 x _ _ h5 h6_ P2 hT2
set_option maxHeartbeats 4000000 in
set_option maxRecDepth 100000 in
theorem law_24 {d : Nat} (hd : 15 ≤ d) {so : Option Nat} {L : Nat} (hL : L ≤ 3072) {i : Int} (h0 : 0 ≤ i) (h6 : i + 6 ≤ L) {o5 o6 : Option Value} (h5 : mz_nl o5) (h6_ : mz_nl o6) {g : mz_G} {x : mm_X} (P : mz_Lq so L i g x) (T : RR x g) {Q : (Option Value ⊕ Nat) → mm_H → Prop} (kk : ∀ g1 x1 p5 p6, mz_nl p5 → mz_nl p6 → mz_Lq so L (i + 6) g1 x1 → RR x1 g1 → mm_W d mmL_law 1388 [some (.ref 5000), some (.ref 0), some (.ref 137), some (.ref 179), some (.int (Int32.ofInt i)), p5, p6] [] (mz_mk g1 x1) Q) : mm_W d mmL_law 1089 [some (.ref 5000), some (.ref 0), some (.ref 137), some (.ref 179), some (.int (Int32.ofInt i)), o5, o6] [] (mz_mk g x) Q := by
  refine mm_g2 sg_24 4 (pc1 := 1094) (lo1 := [some (.ref 5000), some (.ref 0), some (.ref 137), some (.ref 179), some (.int (Int32.ofInt i)), o5, o6]) (st1 := [.int (Int32.ofInt 1), .int (Int32.ofInt i), .ref 5000, .ref 0]) (H1 := mz_mk g x) rfl ?_
  refine mz_iadd (sg_24 _ _ rfl) ?_
  refine mz_iaS (v := (g 5000 ((i + 1) : Int).toNat)) (sg_24 _ _ rfl) (sh_5000 _) (by omega) (by have h9 := P.2.2.2.2.1; omega) (by have h9 := P.2.2.2.2.1; omega) rfl ?_
  refine mm_g2 sg_24 3 (pc1 := 1100) (lo1 := [some (.ref 5000), some (.ref 0), some (.ref 137), some (.ref 179), some (.int (Int32.ofInt i)), o5, o6]) (st1 := [.int (Int32.ofInt 2), .int (Int32.ofInt i), .ref 5000, .int (Int32.ofInt (g 5000 ((i + 1) : Int).toNat)), .ref 0]) (H1 := mz_mk g x) rfl ?_
  refine mz_iadd (sg_24 _ _ rfl) ?_
  refine mz_iaS (v := (g 5000 ((i + 2) : Int).toNat)) (sg_24 _ _ rfl) (sh_5000 _) (by omega) (by have h9 := P.2.2.2.2.1; omega) (by have h9 := P.2.2.2.2.1; omega) rfl ?_
  refine mm_g2 sg_24 3 (pc1 := 1106) (lo1 := [some (.ref 5000), some (.ref 0), some (.ref 137), some (.ref 179), some (.int (Int32.ofInt i)), o5, o6]) (st1 := [.int (Int32.ofInt 3), .int (Int32.ofInt i), .ref 5000, .int (Int32.ofInt (g 5000 ((i + 2) : Int).toNat)), .int (Int32.ofInt (g 5000 ((i + 1) : Int).toNat)), .ref 0]) (H1 := mz_mk g x) rfl ?_
  refine mz_iadd (sg_24 _ _ rfl) ?_
  refine mz_iaS (v := (g 5000 ((i + 3) : Int).toNat)) (sg_24 _ _ rfl) (sh_5000 _) (by omega) (by have h9 := P.2.2.2.2.1; omega) (by have h9 := P.2.2.2.2.1; omega) rfl ?_
  refine mm_g2 sg_24 1 (pc1 := 1109) (lo1 := [some (.ref 5000), some (.ref 0), some (.ref 137), some (.ref 179), some (.int (Int32.ofInt i)), o5, o6]) (st1 := [.ref 179, .int (Int32.ofInt (g 5000 ((i + 3) : Int).toNat)), .int (Int32.ofInt (g 5000 ((i + 2) : Int).toNat)), .int (Int32.ofInt (g 5000 ((i + 1) : Int).toNat)), .ref 0]) (H1 := mz_mk g x) rfl ?_
  refine mz_cs (sg_24 _ _ rfl) mt_13_182 (by decide) rfl (Nat.le_of_ble_eq_true rfl) (by omega) (w_L_see (by omega) P.2.1 P.1 (mz_rd P.1 (bd_5000 _)).1 (mz_rd P.1 (bd_5000 _)).2 (mz_rd P.1 (bd_5000 _)).1 (mz_rd P.1 (bd_5000 _)).2 (mz_rd P.1 (bd_5000 _)).1 (mz_rd P.1 (bd_5000 _)).2 (fun r1 g1 x1 hI1 hX1 hS1 hW1 hM1 => ⟨_, rfl, ?_⟩))
  have P1 := mz_Lq_c P hI1 hS1 hX1
  show mm_W d mmL_law 1112 [some (.ref 5000), some (.ref 0), some (.ref 137), some (.ref 179), some (.int (Int32.ofInt i)), o5, o6] [.int (Int32.ofInt r1)] (mz_mk g1 x1) Q
  refine mm_g2 sg_24 5 (pc1 := 1119) (lo1 := [some (.ref 5000), some (.ref 0), some (.ref 137), some (.ref 179), some (.int (Int32.ofInt i)), some (.int (Int32.ofInt r1)), o6]) (st1 := [.int (Int32.ofInt 1), .int (Int32.ofInt i), .ref 5000, .ref 137]) (H1 := mz_mk g1 x1) rfl ?_
  refine mz_iadd (sg_24 _ _ rfl) ?_
  refine mz_iaS (v := (g1 5000 ((i + 1) : Int).toNat)) (sg_24 _ _ rfl) (sh_5000 _) (by omega) (by have h9 := P1.2.2.2.2.1; omega) (by have h9 := P1.2.2.2.2.1; omega) rfl ?_
  refine mm_g2 sg_24 3 (pc1 := 1125) (lo1 := [some (.ref 5000), some (.ref 0), some (.ref 137), some (.ref 179), some (.int (Int32.ofInt i)), some (.int (Int32.ofInt r1)), o6]) (st1 := [.int (Int32.ofInt 2), .int (Int32.ofInt i), .ref 5000, .int (Int32.ofInt (g1 5000 ((i + 1) : Int).toNat)), .ref 137]) (H1 := mz_mk g1 x1) rfl ?_
  refine mz_iadd (sg_24 _ _ rfl) ?_
  refine mz_iaS (v := (g1 5000 ((i + 2) : Int).toNat)) (sg_24 _ _ rfl) (sh_5000 _) (by omega) (by have h9 := P1.2.2.2.2.1; omega) (by have h9 := P1.2.2.2.2.1; omega) rfl ?_
  refine mm_g2 sg_24 3 (pc1 := 1131) (lo1 := [some (.ref 5000), some (.ref 0), some (.ref 137), some (.ref 179), some (.int (Int32.ofInt i)), some (.int (Int32.ofInt r1)), o6]) (st1 := [.int (Int32.ofInt 3), .int (Int32.ofInt i), .ref 5000, .int (Int32.ofInt (g1 5000 ((i + 2) : Int).toNat)), .int (Int32.ofInt (g1 5000 ((i + 1) : Int).toNat)), .ref 137]) (H1 := mz_mk g1 x1) rfl ?_
  refine mz_iadd (sg_24 _ _ rfl) ?_
  refine mz_iaS (v := (g1 5000 ((i + 3) : Int).toNat)) (sg_24 _ _ rfl) (sh_5000 _) (by omega) (by have h9 := P1.2.2.2.2.1; omega) (by have h9 := P1.2.2.2.2.1; omega) rfl ?_
  refine mz_cv (sg_24 _ _ rfl) mt_13_184 (by decide) rfl rfl (Nat.le_of_ble_eq_true rfl) (by omega) (f_X12_see (by omega) P1.2.1 P1.1 (mz_rd P1.1 (bd_5000 _)).1 (mz_rd P1.1 (bd_5000 _)).2 (mz_rd P1.1 (bd_5000 _)).1 (mz_rd P1.1 (bd_5000 _)).2 (mz_rd P1.1 (bd_5000 _)).1 (mz_rd P1.1 (bd_5000 _)).2 P1.2.2.1.1 P1.2.2.1.2.1 (fun r2 g2 hI2 hf2 l_r2 u_r2 hp2_0 e2 => ⟨_, rfl, ?_⟩))
  have hq2 : ∀ j : Nat, g1 5000 j = g 5000 j := fun j => hS1 5000 j (by decide)
  rw [hq2, hq2, hq2] at e2
  have hF2 : ∀ a b : Nat, a < 137 ∨ 2000 ≤ a → g2 a b = g1 a b := fun a b z => hf2 a b (fun y => by have w := (nz_X12_see_lo P1.2.1 _ _ y); omega)
  have hR2 : mz_sr g1 g2 := ⟨hf2 82 1 (nw_X12_see_82 P1.2.1), hf2 137 15 (nw_X12_see_15 P1.2.1), fun j => hf2 149 j (nw_X12_see_149 P1.2.1 j), fun j => hf2 142 j (nw_X12_see_142 P1.2.1 j), fun j hj => hf2 140 j (nw_X12_see_140 P1.2.1 j hj)⟩
  have P2 := mz_Lq_r P1 hI2 hR2 hp2_0
  obtain ⟨hT2, hk2, hO2, hr0, hr2⟩ := RR_kp P.2.1 hW1 e2 (see_k P.2.1 (RR_s T hS1)) hF2 T hM1
  show mm_W d mmL_law 1136 [some (.ref 5000), some (.ref 0), some (.ref 137), some (.ref 179), some (.int (Int32.ofInt i)), some (.int (Int32.ofInt r1)), o6] [.int (Int32.ofInt r2)] (mz_mk g2 x1) Q
  refine mm_g2 sg_24 1 (pc1 := 1138) (lo1 := [some (.ref 5000), some (.ref 0), some (.ref 137), some (.ref 179), some (.int (Int32.ofInt i)), some (.int (Int32.ofInt r1)), some (.int (Int32.ofInt r2))]) (st1 := []) (H1 := mz_mk g2 x1) rfl ?_
  refine mz_gt (tgt := 1388) (sg_24 _ _ rfl) rfl ?_
  exact kk g2 x1 _ _ (mz_nl_i _) (mz_nl_i _) P2 hT2
set_option maxHeartbeats 4000000 in
set_option maxRecDepth 100000 in
theorem law_25 {d : Nat} (hd : 19 ≤ d) {so : Option Nat} {L : Nat} (hL : L ≤ 3072) {i : Int} (h0 : 0 ≤ i) (h6 : i + 6 ≤ L) {o5 o6 : Option Value} (h5 : mz_nl o5) (h6_ : mz_nl o6) {g : mz_G} {x : mm_X} (P : mz_Lq so L i g x) (T : RR x g) {Q : (Option Value ⊕ Nat) → mm_H → Prop} (kk : ∀ g1 x1 p5 p6, mz_nl p5 → mz_nl p6 → mz_Lq so L (i + 6) g1 x1 → RR x1 g1 → mm_W d mmL_law 1388 [some (.ref 5000), some (.ref 0), some (.ref 137), some (.ref 179), some (.int (Int32.ofInt i)), p5, p6] [] (mz_mk g1 x1) Q) : mm_W d mmL_law 1141 [some (.ref 5000), some (.ref 0), some (.ref 137), some (.ref 179), some (.int (Int32.ofInt i)), o5, o6] [] (mz_mk g x) Q := by
  refine mm_g2 sg_25 4 (pc1 := 1146) (lo1 := [some (.ref 5000), some (.ref 0), some (.ref 137), some (.ref 179), some (.int (Int32.ofInt i)), o5, o6]) (st1 := [.int (Int32.ofInt 1), .int (Int32.ofInt i), .ref 5000, .ref 0]) (H1 := mz_mk g x) rfl ?_
  refine mz_iadd (sg_25 _ _ rfl) ?_
  refine mz_iaS (v := (g 5000 ((i + 1) : Int).toNat)) (sg_25 _ _ rfl) (sh_5000 _) (by omega) (by have h9 := P.2.2.2.2.1; omega) (by have h9 := P.2.2.2.2.1; omega) rfl ?_
  refine mm_g2 sg_25 1 (pc1 := 1149) (lo1 := [some (.ref 5000), some (.ref 0), some (.ref 137), some (.ref 179), some (.int (Int32.ofInt i)), o5, o6]) (st1 := [.ref 179, .int (Int32.ofInt (g 5000 ((i + 1) : Int).toNat)), .ref 0]) (H1 := mz_mk g x) rfl ?_
  refine mz_cs (sg_25 _ _ rfl) mt_13_185 (by decide) rfl (Nat.le_of_ble_eq_true rfl) (by omega) (w_L_loose (by omega) P.2.1 P.1 (mz_rd P.1 (bd_5000 _)).1 (mz_rd P.1 (bd_5000 _)).2 (fun r1 g1 x1 hI1 hX1 hS1 hW1 hN1 => ⟨_, rfl, ?_⟩))
  have P1 := mz_Lq_c P hI1 hS1 hX1
  have hT1 : RR x1 g1 := RR_q P.2.1 T hS1 hN1 hW1.2.2.2.1
  show mm_W d mmL_law 1152 [some (.ref 5000), some (.ref 0), some (.ref 137), some (.ref 179), some (.int (Int32.ofInt i)), o5, o6] [.int (Int32.ofInt r1)] (mz_mk g1 x1) Q
  refine mm_g2 sg_25 5 (pc1 := 1159) (lo1 := [some (.ref 5000), some (.ref 0), some (.ref 137), some (.ref 179), some (.int (Int32.ofInt i)), some (.int (Int32.ofInt r1)), o6]) (st1 := [.int (Int32.ofInt 1), .int (Int32.ofInt i), .ref 5000, .ref 137]) (H1 := mz_mk g1 x1) rfl ?_
  refine mz_iadd (sg_25 _ _ rfl) ?_
  refine mz_iaS (v := (g1 5000 ((i + 1) : Int).toNat)) (sg_25 _ _ rfl) (sh_5000 _) (by omega) (by have h9 := P1.2.2.2.2.1; omega) (by have h9 := P1.2.2.2.2.1; omega) rfl ?_
  refine mz_cv (sg_25 _ _ rfl) mt_13_187 (by decide) rfl rfl (Nat.le_of_ble_eq_true rfl) (by omega) (f_X12_loose (by omega) P1.2.1 P1.1 (mz_rd P1.1 (bd_5000 _)).1 (mz_rd P1.1 (bd_5000 _)).2 P1.2.2.1.1 P1.2.2.1.2.1 (fun r2 g2 hI2 hf2 l_r2 u_r2 hp2_0 e2 => ⟨_, rfl, ?_⟩))
  have hF2 : ∀ a b : Nat, a < 137 ∨ 2000 ≤ a → g2 a b = g1 a b := fun a b z => hf2 a b (fun y => by have w := (nz_X12_loose_lo P1.2.1 _ _ y); omega)
  have hR2 : mz_sr g1 g2 := ⟨hf2 82 1 (nw_X12_loose_82 P1.2.1), hf2 137 15 (nw_X12_loose_15 P1.2.1), fun j => hf2 149 j (nw_X12_loose_149 P1.2.1 j), fun j => hf2 142 j (nw_X12_loose_142 P1.2.1 j), fun j hj => hf2 140 j (nw_X12_loose_140 P1.2.1 j hj)⟩
  have P2 := mz_Lq_r P1 hI2 hR2 hp2_0
  have hT2 := RR_r P1.2.1 hT1 hF2 (fun a b z z1 z2 => hf2 a b (fun y => (nz_X12_loose_nb5 P1.2.1 _ _ y).elim z (fun w => w.elim z1 z2))) (sm_e e2 (loose_s (kr_P P1.1 P1.2.2.1) (sn_P P1.1)))
  show mm_W d mmL_law 1164 [some (.ref 5000), some (.ref 0), some (.ref 137), some (.ref 179), some (.int (Int32.ofInt i)), some (.int (Int32.ofInt r1)), o6] [.int (Int32.ofInt r2)] (mz_mk g2 x1) Q
  refine mm_g2 sg_25 1 (pc1 := 1166) (lo1 := [some (.ref 5000), some (.ref 0), some (.ref 137), some (.ref 179), some (.int (Int32.ofInt i)), some (.int (Int32.ofInt r1)), some (.int (Int32.ofInt r2))]) (st1 := []) (H1 := mz_mk g2 x1) rfl ?_
  refine mz_gt (tgt := 1388) (sg_25 _ _ rfl) rfl ?_
  exact kk g2 x1 _ _ (mz_nl_i _) (mz_nl_i _) P2 hT2
set_option maxHeartbeats 4000000 in
set_option maxRecDepth 100000 in
theorem law_26 {d : Nat} (hd : 19 ≤ d) {so : Option Nat} {L : Nat} (hL : L ≤ 3072) {i : Int} (h0 : 0 ≤ i) (h6 : i + 6 ≤ L) {o5 o6 : Option Value} (h5 : mz_nl o5) (h6_ : mz_nl o6) {g : mz_G} {x : mm_X} (P : mz_Lq so L i g x) (T : RR x g) {Q : (Option Value ⊕ Nat) → mm_H → Prop} (kk : ∀ g1 x1 p5 p6, mz_nl p5 → mz_nl p6 → mz_Lq so L (i + 6) g1 x1 → RR x1 g1 → mm_W d mmL_law 1388 [some (.ref 5000), some (.ref 0), some (.ref 137), some (.ref 179), some (.int (Int32.ofInt i)), p5, p6] [] (mz_mk g1 x1) Q) : mm_W d mmL_law 1169 [some (.ref 5000), some (.ref 0), some (.ref 137), some (.ref 179), some (.int (Int32.ofInt i)), o5, o6] [] (mz_mk g x) Q := by
  refine mm_g2 sg_26 4 (pc1 := 1174) (lo1 := [some (.ref 5000), some (.ref 0), some (.ref 137), some (.ref 179), some (.int (Int32.ofInt i)), o5, o6]) (st1 := [.int (Int32.ofInt 1), .int (Int32.ofInt i), .ref 5000, .ref 0]) (H1 := mz_mk g x) rfl ?_
  refine mz_iadd (sg_26 _ _ rfl) ?_
  refine mz_iaS (v := (g 5000 ((i + 1) : Int).toNat)) (sg_26 _ _ rfl) (sh_5000 _) (by omega) (by have h9 := P.2.2.2.2.1; omega) (by have h9 := P.2.2.2.2.1; omega) rfl ?_
  refine mm_g2 sg_26 1 (pc1 := 1177) (lo1 := [some (.ref 5000), some (.ref 0), some (.ref 137), some (.ref 179), some (.int (Int32.ofInt i)), o5, o6]) (st1 := [.ref 179, .int (Int32.ofInt (g 5000 ((i + 1) : Int).toNat)), .ref 0]) (H1 := mz_mk g x) rfl ?_
  refine mz_cs (sg_26 _ _ rfl) mt_13_188 (by decide) rfl (Nat.le_of_ble_eq_true rfl) (by omega) (w_L_look (by omega) P.2.1 P.1 (mz_rd P.1 (bd_5000 _)).1 (mz_rd P.1 (bd_5000 _)).2 (fun r1 g1 x1 hI1 hX1 hS1 hW1 hN1 => ⟨_, rfl, ?_⟩))
  have P1 := mz_Lq_c P hI1 hS1 hX1
  have hT1 : RR x1 g1 := RR_q P.2.1 T hS1 hN1 hW1.2.2.2.1
  show mm_W d mmL_law 1180 [some (.ref 5000), some (.ref 0), some (.ref 137), some (.ref 179), some (.int (Int32.ofInt i)), o5, o6] [.int (Int32.ofInt r1)] (mz_mk g1 x1) Q
  refine mm_g2 sg_26 5 (pc1 := 1187) (lo1 := [some (.ref 5000), some (.ref 0), some (.ref 137), some (.ref 179), some (.int (Int32.ofInt i)), some (.int (Int32.ofInt r1)), o6]) (st1 := [.int (Int32.ofInt 1), .int (Int32.ofInt i), .ref 5000, .ref 137]) (H1 := mz_mk g1 x1) rfl ?_
  refine mz_iadd (sg_26 _ _ rfl) ?_
  refine mz_iaS (v := (g1 5000 ((i + 1) : Int).toNat)) (sg_26 _ _ rfl) (sh_5000 _) (by omega) (by have h9 := P1.2.2.2.2.1; omega) (by have h9 := P1.2.2.2.2.1; omega) rfl ?_
  refine mz_cv (sg_26 _ _ rfl) mt_13_190 (by decide) rfl rfl (Nat.le_of_ble_eq_true rfl) (by omega) (f_X12_look (by omega) P1.2.1 P1.1 (mz_rd P1.1 (bd_5000 _)).1 (mz_rd P1.1 (bd_5000 _)).2 P1.2.2.1.1 P1.2.2.1.2.1 (fun r2 g2 hI2 hf2 l_r2 u_r2 hp2_0 e2 => ⟨_, rfl, ?_⟩))
  have hF2 : ∀ a b : Nat, a < 137 ∨ 2000 ≤ a → g2 a b = g1 a b := fun a b z => hf2 a b (fun y => by have w := (nz_X12_look_lo P1.2.1 _ _ y); omega)
  have hR2 : mz_sr g1 g2 := ⟨hf2 82 1 (nw_X12_look_82 P1.2.1), hf2 137 15 (nw_X12_look_15 P1.2.1), fun j => hf2 149 j (nw_X12_look_149 P1.2.1 j), fun j => hf2 142 j (nw_X12_look_142 P1.2.1 j), fun j hj => hf2 140 j (nw_X12_look_140 P1.2.1 j hj)⟩
  have P2 := mz_Lq_r P1 hI2 hR2 hp2_0
  have hT2 := RR_r P1.2.1 hT1 hF2 (fun a b z z1 z2 => hf2 a b (fun y => (nz_X12_look_nb5 P1.2.1 _ _ y).elim z (fun w => w.elim z1 z2))) (sm_e e2 (look_s (x := x1) P1.2.1 P1.1 (kr_P P1.1 P1.2.2.1) (sn_P P1.1) P1.2.2.1.2.1))
  show mm_W d mmL_law 1192 [some (.ref 5000), some (.ref 0), some (.ref 137), some (.ref 179), some (.int (Int32.ofInt i)), some (.int (Int32.ofInt r1)), o6] [.int (Int32.ofInt r2)] (mz_mk g2 x1) Q
  refine mm_g2 sg_26 1 (pc1 := 1194) (lo1 := [some (.ref 5000), some (.ref 0), some (.ref 137), some (.ref 179), some (.int (Int32.ofInt i)), some (.int (Int32.ofInt r1)), some (.int (Int32.ofInt r2))]) (st1 := []) (H1 := mz_mk g2 x1) rfl ?_
  refine mz_gt (tgt := 1388) (sg_26 _ _ rfl) rfl ?_
  exact kk g2 x1 _ _ (mz_nl_i _) (mz_nl_i _) P2 hT2
set_option maxHeartbeats 4000000 in
set_option maxRecDepth 100000 in
theorem law_27 {d : Nat} (hd : 3 ≤ d) {so : Option Nat} {L : Nat} (hL : L ≤ 3072) {i : Int} (h0 : 0 ≤ i) (h6 : i + 6 ≤ L) {o5 o6 : Option Value} (h5 : mz_nl o5) (h6_ : mz_nl o6) {g : mz_G} {x : mm_X} (P : mz_Lq so L i g x) (T : RR x g) {Q : (Option Value ⊕ Nat) → mm_H → Prop} (kk : ∀ g1 x1 p5 p6, mz_nl p5 → mz_nl p6 → mz_Lq so L (i + 6) g1 x1 → RR x1 g1 → mm_W d mmL_law 1388 [some (.ref 5000), some (.ref 0), some (.ref 137), some (.ref 179), some (.int (Int32.ofInt i)), p5, p6] [] (mz_mk g1 x1) Q) : mm_W d mmL_law 1197 [some (.ref 5000), some (.ref 0), some (.ref 137), some (.ref 179), some (.int (Int32.ofInt i)), o5, o6] [] (mz_mk g x) Q := by
  refine mm_g2 sg_27 1 (pc1 := 1198) (lo1 := [some (.ref 5000), some (.ref 0), some (.ref 137), some (.ref 179), some (.int (Int32.ofInt i)), o5, o6]) (st1 := [.ref 0]) (H1 := mz_mk g x) rfl ?_
  refine mz_cv (sg_27 _ _ rfl) mt_13_191 (by decide) rfl rfl (Nat.le_of_ble_eq_true rfl) (by omega) (f_X11_forget (by omega) P.2.1 P.1 (fun g1 hI1 hf1 e1 => ⟨_, rfl, ?_⟩))
  have hS1 : ∀ k j : Nat, 137 ≤ k → g1 k j = g k j := fun k j hk => hf1 k j (nw_X11_forget_137 P.2.1 k j hk)
  have P1 := mz_Lq_c P hI1 hS1 (mz_xx_rf P.2.1)
  show mm_W d mmL_law 1201 [some (.ref 5000), some (.ref 0), some (.ref 137), some (.ref 179), some (.int (Int32.ofInt i)), o5, o6] [] (mz_mk g1 x) Q
  refine mm_g2 sg_27 1 (pc1 := 1202) (lo1 := [some (.ref 5000), some (.ref 0), some (.ref 137), some (.ref 179), some (.int (Int32.ofInt i)), o5, o6]) (st1 := [.ref 137]) (H1 := mz_mk g1 x) rfl ?_
  refine mz_cv (sg_27 _ _ rfl) mt_13_194 (by decide) rfl rfl (Nat.le_of_ble_eq_true rfl) (by omega) (f_X12_forget (by omega) P1.2.1 P1.1 P1.2.2.1.1 P1.2.2.1.2.1 (fun g2 hI2 hf2 hp2_0 e2 => ⟨_, rfl, ?_⟩))
  have hF2 : ∀ a b : Nat, a < 137 ∨ 2000 ≤ a → g2 a b = g1 a b := fun a b z => hf2 a b (fun y => by have w := (nz_X12_forget_lo P1.2.1 _ _ y); omega)
  have hR2 : mz_sr g1 g2 := ⟨hf2 82 1 (nw_X12_forget_82 P1.2.1), hf2 137 15 (nw_X12_forget_15 P1.2.1), fun j => hf2 149 j (nw_X12_forget_149 P1.2.1 j), fun j => hf2 142 j (nw_X12_forget_142 P1.2.1 j), fun j hj => hf2 140 j (nw_X12_forget_140 P1.2.1 j hj)⟩
  have P2 := mz_Lq_r P1 hI2 hR2 hp2_0
  have hT2 := RR_kr P.2.1 e1 e2 (forget_k P.2.1 (RR_s T hS1)) hF2 T (fun a b z1 z2 => hf1 a b (fun y => (nz_X11_forget_ld P.2.1 _ _ y) ⟨z1, z2⟩))
  show mm_W d mmL_law 1205 [some (.ref 5000), some (.ref 0), some (.ref 137), some (.ref 179), some (.int (Int32.ofInt i)), o5, o6] [] (mz_mk g2 x) Q
  refine mz_gt (tgt := 1388) (sg_27 _ _ rfl) rfl ?_
  exact kk g2 x _ _ h5 h6_ P2 hT2
set_option maxHeartbeats 4000000 in
set_option maxRecDepth 100000 in
theorem law_28 {d : Nat} (hd : 16 ≤ d) {so : Option Nat} {L : Nat} (hL : L ≤ 3072) {i : Int} (h0 : 0 ≤ i) (h6 : i + 6 ≤ L) {o5 o6 : Option Value} (h5 : mz_nl o5) (h6_ : mz_nl o6) {g : mz_G} {x : mm_X} (P : mz_Lq so L i g x) (T : RR x g) {Q : (Option Value ⊕ Nat) → mm_H → Prop} (kk : ∀ g1 x1 p5 p6, mz_nl p5 → mz_nl p6 → mz_Lq so L (i + 6) g1 x1 → RR x1 g1 → mm_W d mmL_law 1388 [some (.ref 5000), some (.ref 0), some (.ref 137), some (.ref 179), some (.int (Int32.ofInt i)), p5, p6] [] (mz_mk g1 x1) Q) : mm_W d mmL_law 1208 [some (.ref 5000), some (.ref 0), some (.ref 137), some (.ref 179), some (.int (Int32.ofInt i)), o5, o6] [] (mz_mk g x) Q := by
  refine mm_g2 sg_28 4 (pc1 := 1213) (lo1 := [some (.ref 5000), some (.ref 0), some (.ref 137), some (.ref 179), some (.int (Int32.ofInt i)), o5, o6]) (st1 := [.int (Int32.ofInt 1), .int (Int32.ofInt i), .ref 5000, .ref 0]) (H1 := mz_mk g x) rfl ?_
  refine mz_iadd (sg_28 _ _ rfl) ?_
  refine mz_iaS (v := (g 5000 ((i + 1) : Int).toNat)) (sg_28 _ _ rfl) (sh_5000 _) (by omega) (by have h9 := P.2.2.2.2.1; omega) (by have h9 := P.2.2.2.2.1; omega) rfl ?_
  refine mm_g2 sg_28 3 (pc1 := 1219) (lo1 := [some (.ref 5000), some (.ref 0), some (.ref 137), some (.ref 179), some (.int (Int32.ofInt i)), o5, o6]) (st1 := [.int (Int32.ofInt 2), .int (Int32.ofInt i), .ref 5000, .int (Int32.ofInt (g 5000 ((i + 1) : Int).toNat)), .ref 0]) (H1 := mz_mk g x) rfl ?_
  refine mz_iadd (sg_28 _ _ rfl) ?_
  refine mz_iaS (v := (g 5000 ((i + 2) : Int).toNat)) (sg_28 _ _ rfl) (sh_5000 _) (by omega) (by have h9 := P.2.2.2.2.1; omega) (by have h9 := P.2.2.2.2.1; omega) rfl ?_
  refine mm_g2 sg_28 3 (pc1 := 1225) (lo1 := [some (.ref 5000), some (.ref 0), some (.ref 137), some (.ref 179), some (.int (Int32.ofInt i)), o5, o6]) (st1 := [.int (Int32.ofInt 3), .int (Int32.ofInt i), .ref 5000, .int (Int32.ofInt (g 5000 ((i + 2) : Int).toNat)), .int (Int32.ofInt (g 5000 ((i + 1) : Int).toNat)), .ref 0]) (H1 := mz_mk g x) rfl ?_
  refine mz_iadd (sg_28 _ _ rfl) ?_
  refine mz_iaS (v := (g 5000 ((i + 3) : Int).toNat)) (sg_28 _ _ rfl) (sh_5000 _) (by omega) (by have h9 := P.2.2.2.2.1; omega) (by have h9 := P.2.2.2.2.1; omega) rfl ?_
  refine mm_g2 sg_28 1 (pc1 := 1228) (lo1 := [some (.ref 5000), some (.ref 0), some (.ref 137), some (.ref 179), some (.int (Int32.ofInt i)), o5, o6]) (st1 := [.ref 179, .int (Int32.ofInt (g 5000 ((i + 3) : Int).toNat)), .int (Int32.ofInt (g 5000 ((i + 2) : Int).toNat)), .int (Int32.ofInt (g 5000 ((i + 1) : Int).toNat)), .ref 0]) (H1 := mz_mk g x) rfl ?_
  refine mz_cs (sg_28 _ _ rfl) mt_13_195 (by decide) rfl (Nat.le_of_ble_eq_true rfl) (by omega) (w_L_seasons (by omega) P.2.1 P.1 (mz_rd P.1 (bd_5000 _)).1 (mz_rd P.1 (bd_5000 _)).2 (mz_rd P.1 (bd_5000 _)).1 (mz_rd P.1 (bd_5000 _)).2 (mz_rd P.1 (bd_5000 _)).1 (mz_rd P.1 (bd_5000 _)).2 (fun r1 g1 x1 hI1 hX1 hS1 hW1 hN1 => ⟨_, rfl, ?_⟩))
  have P1 := mz_Lq_c P hI1 hS1 hX1
  have hT1 : RR x1 g1 := RR_q P.2.1 T hS1 hN1 hW1.2.2.2.1
  show mm_W d mmL_law 1231 [some (.ref 5000), some (.ref 0), some (.ref 137), some (.ref 179), some (.int (Int32.ofInt i)), o5, o6] [.int (Int32.ofInt r1)] (mz_mk g1 x1) Q
  refine mm_g2 sg_28 5 (pc1 := 1238) (lo1 := [some (.ref 5000), some (.ref 0), some (.ref 137), some (.ref 179), some (.int (Int32.ofInt i)), some (.int (Int32.ofInt r1)), o6]) (st1 := [.int (Int32.ofInt 1), .int (Int32.ofInt i), .ref 5000, .ref 137]) (H1 := mz_mk g1 x1) rfl ?_
  refine mz_iadd (sg_28 _ _ rfl) ?_
  refine mz_iaS (v := (g1 5000 ((i + 1) : Int).toNat)) (sg_28 _ _ rfl) (sh_5000 _) (by omega) (by have h9 := P1.2.2.2.2.1; omega) (by have h9 := P1.2.2.2.2.1; omega) rfl ?_
  refine mm_g2 sg_28 3 (pc1 := 1244) (lo1 := [some (.ref 5000), some (.ref 0), some (.ref 137), some (.ref 179), some (.int (Int32.ofInt i)), some (.int (Int32.ofInt r1)), o6]) (st1 := [.int (Int32.ofInt 2), .int (Int32.ofInt i), .ref 5000, .int (Int32.ofInt (g1 5000 ((i + 1) : Int).toNat)), .ref 137]) (H1 := mz_mk g1 x1) rfl ?_
  refine mz_iadd (sg_28 _ _ rfl) ?_
  refine mz_iaS (v := (g1 5000 ((i + 2) : Int).toNat)) (sg_28 _ _ rfl) (sh_5000 _) (by omega) (by have h9 := P1.2.2.2.2.1; omega) (by have h9 := P1.2.2.2.2.1; omega) rfl ?_
  refine mm_g2 sg_28 3 (pc1 := 1250) (lo1 := [some (.ref 5000), some (.ref 0), some (.ref 137), some (.ref 179), some (.int (Int32.ofInt i)), some (.int (Int32.ofInt r1)), o6]) (st1 := [.int (Int32.ofInt 3), .int (Int32.ofInt i), .ref 5000, .int (Int32.ofInt (g1 5000 ((i + 2) : Int).toNat)), .int (Int32.ofInt (g1 5000 ((i + 1) : Int).toNat)), .ref 137]) (H1 := mz_mk g1 x1) rfl ?_
  refine mz_iadd (sg_28 _ _ rfl) ?_
  refine mz_iaS (v := (g1 5000 ((i + 3) : Int).toNat)) (sg_28 _ _ rfl) (sh_5000 _) (by omega) (by have h9 := P1.2.2.2.2.1; omega) (by have h9 := P1.2.2.2.2.1; omega) rfl ?_
  refine mz_cv (sg_28 _ _ rfl) mt_13_197 (by decide) rfl rfl (Nat.le_of_ble_eq_true rfl) (by omega) (f_X12_seasons (by omega) P1.2.1 P1.1 (mz_rd P1.1 (bd_5000 _)).1 (mz_rd P1.1 (bd_5000 _)).2 (mz_rd P1.1 (bd_5000 _)).1 (mz_rd P1.1 (bd_5000 _)).2 (mz_rd P1.1 (bd_5000 _)).1 (mz_rd P1.1 (bd_5000 _)).2 P1.2.2.1.1 P1.2.2.1.2.1 (fun r2 g2 hI2 hf2 l_r2 u_r2 hp2_0 e2 => ⟨_, rfl, ?_⟩))
  have hF2 : ∀ a b : Nat, a < 137 ∨ 2000 ≤ a → g2 a b = g1 a b := fun a b z => hf2 a b (fun y => by have w := (nz_X12_seasons_lo P1.2.1 _ _ y); omega)
  have hR2 : mz_sr g1 g2 := ⟨hf2 82 1 (nw_X12_seasons_82 P1.2.1), hf2 137 15 (nw_X12_seasons_15 P1.2.1), fun j => hf2 149 j (nw_X12_seasons_149 P1.2.1 j), fun j => hf2 142 j (nw_X12_seasons_142 P1.2.1 j), fun j hj => hf2 140 j (nw_X12_seasons_140 P1.2.1 j hj)⟩
  have P2 := mz_Lq_r P1 hI2 hR2 hp2_0
  have hT2 := RR_r P1.2.1 hT1 hF2 (fun a b z z1 z2 => hf2 a b (fun y => (nz_X12_seasons_nb5 P1.2.1 _ _ y).elim z (fun w => w.elim z1 z2))) (sm_e e2 (seasons_s (kr_P P1.1 P1.2.2.1)))
  show mm_W d mmL_law 1255 [some (.ref 5000), some (.ref 0), some (.ref 137), some (.ref 179), some (.int (Int32.ofInt i)), some (.int (Int32.ofInt r1)), o6] [.int (Int32.ofInt r2)] (mz_mk g2 x1) Q
  refine mm_g2 sg_28 1 (pc1 := 1257) (lo1 := [some (.ref 5000), some (.ref 0), some (.ref 137), some (.ref 179), some (.int (Int32.ofInt i)), some (.int (Int32.ofInt r1)), some (.int (Int32.ofInt r2))]) (st1 := []) (H1 := mz_mk g2 x1) rfl ?_
  refine mz_gt (tgt := 1388) (sg_28 _ _ rfl) rfl ?_
  exact kk g2 x1 _ _ (mz_nl_i _) (mz_nl_i _) P2 hT2
set_option maxHeartbeats 4000000 in
set_option maxRecDepth 100000 in
theorem law_29 {d : Nat} (hd : 19 ≤ d) {so : Option Nat} {L : Nat} (hL : L ≤ 3072) {i : Int} (h0 : 0 ≤ i) (h6 : i + 6 ≤ L) {o5 o6 : Option Value} (h5 : mz_nl o5) (h6_ : mz_nl o6) {g : mz_G} {x : mm_X} (P : mz_Lq so L i g x) (T : RR x g) {Q : (Option Value ⊕ Nat) → mm_H → Prop} (kk : ∀ g1 x1 p5 p6, mz_nl p5 → mz_nl p6 → mz_Lq so L (i + 6) g1 x1 → RR x1 g1 → mm_W d mmL_law 1388 [some (.ref 5000), some (.ref 0), some (.ref 137), some (.ref 179), some (.int (Int32.ofInt i)), p5, p6] [] (mz_mk g1 x1) Q) : mm_W d mmL_law 1260 [some (.ref 5000), some (.ref 0), some (.ref 137), some (.ref 179), some (.int (Int32.ofInt i)), o5, o6] [] (mz_mk g x) Q := by
  refine mm_g2 sg_29 4 (pc1 := 1265) (lo1 := [some (.ref 5000), some (.ref 0), some (.ref 137), some (.ref 179), some (.int (Int32.ofInt i)), o5, o6]) (st1 := [.int (Int32.ofInt 1), .int (Int32.ofInt i), .ref 5000, .ref 0]) (H1 := mz_mk g x) rfl ?_
  refine mz_iadd (sg_29 _ _ rfl) ?_
  refine mz_iaS (v := (g 5000 ((i + 1) : Int).toNat)) (sg_29 _ _ rfl) (sh_5000 _) (by omega) (by have h9 := P.2.2.2.2.1; omega) (by have h9 := P.2.2.2.2.1; omega) rfl ?_
  refine mm_g2 sg_29 3 (pc1 := 1271) (lo1 := [some (.ref 5000), some (.ref 0), some (.ref 137), some (.ref 179), some (.int (Int32.ofInt i)), o5, o6]) (st1 := [.int (Int32.ofInt 2), .int (Int32.ofInt i), .ref 5000, .int (Int32.ofInt (g 5000 ((i + 1) : Int).toNat)), .ref 0]) (H1 := mz_mk g x) rfl ?_
  refine mz_iadd (sg_29 _ _ rfl) ?_
  refine mz_iaS (v := (g 5000 ((i + 2) : Int).toNat)) (sg_29 _ _ rfl) (sh_5000 _) (by omega) (by have h9 := P.2.2.2.2.1; omega) (by have h9 := P.2.2.2.2.1; omega) rfl ?_
  refine mm_g2 sg_29 3 (pc1 := 1277) (lo1 := [some (.ref 5000), some (.ref 0), some (.ref 137), some (.ref 179), some (.int (Int32.ofInt i)), o5, o6]) (st1 := [.int (Int32.ofInt 3), .int (Int32.ofInt i), .ref 5000, .int (Int32.ofInt (g 5000 ((i + 2) : Int).toNat)), .int (Int32.ofInt (g 5000 ((i + 1) : Int).toNat)), .ref 0]) (H1 := mz_mk g x) rfl ?_
  refine mz_iadd (sg_29 _ _ rfl) ?_
  refine mz_iaS (v := (g 5000 ((i + 3) : Int).toNat)) (sg_29 _ _ rfl) (sh_5000 _) (by omega) (by have h9 := P.2.2.2.2.1; omega) (by have h9 := P.2.2.2.2.1; omega) rfl ?_
  refine mm_g2 sg_29 1 (pc1 := 1280) (lo1 := [some (.ref 5000), some (.ref 0), some (.ref 137), some (.ref 179), some (.int (Int32.ofInt i)), o5, o6]) (st1 := [.ref 179, .int (Int32.ofInt (g 5000 ((i + 3) : Int).toNat)), .int (Int32.ofInt (g 5000 ((i + 2) : Int).toNat)), .int (Int32.ofInt (g 5000 ((i + 1) : Int).toNat)), .ref 0]) (H1 := mz_mk g x) rfl ?_
  refine mz_cs (sg_29 _ _ rfl) mt_13_198 (by decide) rfl (Nat.le_of_ble_eq_true rfl) (by omega) (w_L_game (by omega) P.2.1 P.1 (mz_rd P.1 (bd_5000 _)).1 (mz_rd P.1 (bd_5000 _)).2 (mz_rd P.1 (bd_5000 _)).1 (mz_rd P.1 (bd_5000 _)).2 (mz_rd P.1 (bd_5000 _)).1 (mz_rd P.1 (bd_5000 _)).2 (fun r1 g1 x1 hI1 hX1 hS1 hW1 hN1 => ⟨_, rfl, ?_⟩))
  have P1 := mz_Lq_c P hI1 hS1 hX1
  have hT1 : RR x1 g1 := RR_q P.2.1 T hS1 hN1 hW1.2.2.2.1
  show mm_W d mmL_law 1283 [some (.ref 5000), some (.ref 0), some (.ref 137), some (.ref 179), some (.int (Int32.ofInt i)), o5, o6] [.int (Int32.ofInt r1)] (mz_mk g1 x1) Q
  refine mm_g2 sg_29 5 (pc1 := 1290) (lo1 := [some (.ref 5000), some (.ref 0), some (.ref 137), some (.ref 179), some (.int (Int32.ofInt i)), some (.int (Int32.ofInt r1)), o6]) (st1 := [.int (Int32.ofInt 1), .int (Int32.ofInt i), .ref 5000, .ref 137]) (H1 := mz_mk g1 x1) rfl ?_
  refine mz_iadd (sg_29 _ _ rfl) ?_
  refine mz_iaS (v := (g1 5000 ((i + 1) : Int).toNat)) (sg_29 _ _ rfl) (sh_5000 _) (by omega) (by have h9 := P1.2.2.2.2.1; omega) (by have h9 := P1.2.2.2.2.1; omega) rfl ?_
  refine mm_g2 sg_29 3 (pc1 := 1296) (lo1 := [some (.ref 5000), some (.ref 0), some (.ref 137), some (.ref 179), some (.int (Int32.ofInt i)), some (.int (Int32.ofInt r1)), o6]) (st1 := [.int (Int32.ofInt 2), .int (Int32.ofInt i), .ref 5000, .int (Int32.ofInt (g1 5000 ((i + 1) : Int).toNat)), .ref 137]) (H1 := mz_mk g1 x1) rfl ?_
  refine mz_iadd (sg_29 _ _ rfl) ?_
  refine mz_iaS (v := (g1 5000 ((i + 2) : Int).toNat)) (sg_29 _ _ rfl) (sh_5000 _) (by omega) (by have h9 := P1.2.2.2.2.1; omega) (by have h9 := P1.2.2.2.2.1; omega) rfl ?_
  refine mm_g2 sg_29 3 (pc1 := 1302) (lo1 := [some (.ref 5000), some (.ref 0), some (.ref 137), some (.ref 179), some (.int (Int32.ofInt i)), some (.int (Int32.ofInt r1)), o6]) (st1 := [.int (Int32.ofInt 3), .int (Int32.ofInt i), .ref 5000, .int (Int32.ofInt (g1 5000 ((i + 2) : Int).toNat)), .int (Int32.ofInt (g1 5000 ((i + 1) : Int).toNat)), .ref 137]) (H1 := mz_mk g1 x1) rfl ?_
  refine mz_iadd (sg_29 _ _ rfl) ?_
  refine mz_iaS (v := (g1 5000 ((i + 3) : Int).toNat)) (sg_29 _ _ rfl) (sh_5000 _) (by omega) (by have h9 := P1.2.2.2.2.1; omega) (by have h9 := P1.2.2.2.2.1; omega) rfl ?_
  refine mz_cv (sg_29 _ _ rfl) mt_13_200 (by decide) rfl rfl (Nat.le_of_ble_eq_true rfl) (by omega) (f_X12_game (by omega) P1.2.1 P1.1 (mz_rd P1.1 (bd_5000 _)).1 (mz_rd P1.1 (bd_5000 _)).2 (mz_rd P1.1 (bd_5000 _)).1 (mz_rd P1.1 (bd_5000 _)).2 (mz_rd P1.1 (bd_5000 _)).1 (mz_rd P1.1 (bd_5000 _)).2 P1.2.2.1.1 P1.2.2.1.2.1 (fun r2 g2 hI2 hf2 l_r2 u_r2 hp2_0 e2 => ⟨_, rfl, ?_⟩))
  have hF2 : ∀ a b : Nat, a < 137 ∨ 2000 ≤ a → g2 a b = g1 a b := fun a b z => hf2 a b (fun y => by have w := (nz_X12_game_lo P1.2.1 _ _ y); omega)
  have hR2 : mz_sr g1 g2 := ⟨hf2 82 1 (nw_X12_game_82 P1.2.1), hf2 137 15 (nw_X12_game_15 P1.2.1), fun j => hf2 149 j (nw_X12_game_149 P1.2.1 j), fun j => hf2 142 j (nw_X12_game_142 P1.2.1 j), fun j hj => hf2 140 j (nw_X12_game_140 P1.2.1 j hj)⟩
  have P2 := mz_Lq_r P1 hI2 hR2 hp2_0
  have hT2 := RR_r P1.2.1 hT1 hF2 (fun a b z z1 z2 => hf2 a b (fun y => (nz_X12_game_nb5 P1.2.1 _ _ y).elim z (fun w => w.elim z1 z2))) (sm_e e2 (game_s (kr_P P1.1 P1.2.2.1)))
  show mm_W d mmL_law 1307 [some (.ref 5000), some (.ref 0), some (.ref 137), some (.ref 179), some (.int (Int32.ofInt i)), some (.int (Int32.ofInt r1)), o6] [.int (Int32.ofInt r2)] (mz_mk g2 x1) Q
  refine mm_g2 sg_29 1 (pc1 := 1309) (lo1 := [some (.ref 5000), some (.ref 0), some (.ref 137), some (.ref 179), some (.int (Int32.ofInt i)), some (.int (Int32.ofInt r1)), some (.int (Int32.ofInt r2))]) (st1 := []) (H1 := mz_mk g2 x1) rfl ?_
  refine mz_gt (tgt := 1388) (sg_29 _ _ rfl) rfl ?_
  exact kk g2 x1 _ _ (mz_nl_i _) (mz_nl_i _) P2 hT2
set_option maxHeartbeats 4000000 in
set_option maxRecDepth 100000 in
theorem law_30 {d : Nat} (hd : 17 ≤ d) {so : Option Nat} {L : Nat} (hL : L ≤ 3072) {i : Int} (h0 : 0 ≤ i) (h6 : i + 6 ≤ L) {o5 o6 : Option Value} (h5 : mz_nl o5) (h6_ : mz_nl o6) {g : mz_G} {x : mm_X} (P : mz_Lq so L i g x) (T : RR x g) {Q : (Option Value ⊕ Nat) → mm_H → Prop} (kk : ∀ g1 x1 p5 p6, mz_nl p5 → mz_nl p6 → mz_Lq so L (i + 6) g1 x1 → RR x1 g1 → mm_W d mmL_law 1388 [some (.ref 5000), some (.ref 0), some (.ref 137), some (.ref 179), some (.int (Int32.ofInt i)), p5, p6] [] (mz_mk g1 x1) Q) : mm_W d mmL_law 1312 [some (.ref 5000), some (.ref 0), some (.ref 137), some (.ref 179), some (.int (Int32.ofInt i)), o5, o6] [] (mz_mk g x) Q := by
  refine mm_g2 sg_30 4 (pc1 := 1317) (lo1 := [some (.ref 5000), some (.ref 0), some (.ref 137), some (.ref 179), some (.int (Int32.ofInt i)), o5, o6]) (st1 := [.int (Int32.ofInt 1), .int (Int32.ofInt i), .ref 5000, .ref 0]) (H1 := mz_mk g x) rfl ?_
  refine mz_iadd (sg_30 _ _ rfl) ?_
  refine mz_iaS (v := (g 5000 ((i + 1) : Int).toNat)) (sg_30 _ _ rfl) (sh_5000 _) (by omega) (by have h9 := P.2.2.2.2.1; omega) (by have h9 := P.2.2.2.2.1; omega) rfl ?_
  refine mm_g2 sg_30 3 (pc1 := 1323) (lo1 := [some (.ref 5000), some (.ref 0), some (.ref 137), some (.ref 179), some (.int (Int32.ofInt i)), o5, o6]) (st1 := [.int (Int32.ofInt 2), .int (Int32.ofInt i), .ref 5000, .int (Int32.ofInt (g 5000 ((i + 1) : Int).toNat)), .ref 0]) (H1 := mz_mk g x) rfl ?_
  refine mz_iadd (sg_30 _ _ rfl) ?_
  refine mz_iaS (v := (g 5000 ((i + 2) : Int).toNat)) (sg_30 _ _ rfl) (sh_5000 _) (by omega) (by have h9 := P.2.2.2.2.1; omega) (by have h9 := P.2.2.2.2.1; omega) rfl ?_
  refine mm_g2 sg_30 3 (pc1 := 1329) (lo1 := [some (.ref 5000), some (.ref 0), some (.ref 137), some (.ref 179), some (.int (Int32.ofInt i)), o5, o6]) (st1 := [.int (Int32.ofInt 3), .int (Int32.ofInt i), .ref 5000, .int (Int32.ofInt (g 5000 ((i + 2) : Int).toNat)), .int (Int32.ofInt (g 5000 ((i + 1) : Int).toNat)), .ref 0]) (H1 := mz_mk g x) rfl ?_
  refine mz_iadd (sg_30 _ _ rfl) ?_
  refine mz_iaS (v := (g 5000 ((i + 3) : Int).toNat)) (sg_30 _ _ rfl) (sh_5000 _) (by omega) (by have h9 := P.2.2.2.2.1; omega) (by have h9 := P.2.2.2.2.1; omega) rfl ?_
  refine mm_g2 sg_30 1 (pc1 := 1332) (lo1 := [some (.ref 5000), some (.ref 0), some (.ref 137), some (.ref 179), some (.int (Int32.ofInt i)), o5, o6]) (st1 := [.ref 179, .int (Int32.ofInt (g 5000 ((i + 3) : Int).toNat)), .int (Int32.ofInt (g 5000 ((i + 2) : Int).toNat)), .int (Int32.ofInt (g 5000 ((i + 1) : Int).toNat)), .ref 0]) (H1 := mz_mk g x) rfl ?_
  refine mz_cs (sg_30 _ _ rfl) mt_13_201 (by decide) rfl (Nat.le_of_ble_eq_true rfl) (by omega) (w_L_years (by omega) P.2.1 P.1 (mz_rd P.1 (bd_5000 _)).1 (mz_rd P.1 (bd_5000 _)).2 (mz_rd P.1 (bd_5000 _)).1 (mz_rd P.1 (bd_5000 _)).2 (mz_rd P.1 (bd_5000 _)).1 (mz_rd P.1 (bd_5000 _)).2 (fun r1 g1 x1 hI1 hX1 hS1 hW1 hN1 => ⟨_, rfl, ?_⟩))
  have P1 := mz_Lq_c P hI1 hS1 hX1
  have hT1 : RR x1 g1 := RR_q P.2.1 T hS1 hN1 hW1.2.2.2.1
  show mm_W d mmL_law 1335 [some (.ref 5000), some (.ref 0), some (.ref 137), some (.ref 179), some (.int (Int32.ofInt i)), o5, o6] [.int (Int32.ofInt r1)] (mz_mk g1 x1) Q
  refine mm_g2 sg_30 5 (pc1 := 1342) (lo1 := [some (.ref 5000), some (.ref 0), some (.ref 137), some (.ref 179), some (.int (Int32.ofInt i)), some (.int (Int32.ofInt r1)), o6]) (st1 := [.int (Int32.ofInt 1), .int (Int32.ofInt i), .ref 5000, .ref 137]) (H1 := mz_mk g1 x1) rfl ?_
  refine mz_iadd (sg_30 _ _ rfl) ?_
  refine mz_iaS (v := (g1 5000 ((i + 1) : Int).toNat)) (sg_30 _ _ rfl) (sh_5000 _) (by omega) (by have h9 := P1.2.2.2.2.1; omega) (by have h9 := P1.2.2.2.2.1; omega) rfl ?_
  refine mm_g2 sg_30 3 (pc1 := 1348) (lo1 := [some (.ref 5000), some (.ref 0), some (.ref 137), some (.ref 179), some (.int (Int32.ofInt i)), some (.int (Int32.ofInt r1)), o6]) (st1 := [.int (Int32.ofInt 2), .int (Int32.ofInt i), .ref 5000, .int (Int32.ofInt (g1 5000 ((i + 1) : Int).toNat)), .ref 137]) (H1 := mz_mk g1 x1) rfl ?_
  refine mz_iadd (sg_30 _ _ rfl) ?_
  refine mz_iaS (v := (g1 5000 ((i + 2) : Int).toNat)) (sg_30 _ _ rfl) (sh_5000 _) (by omega) (by have h9 := P1.2.2.2.2.1; omega) (by have h9 := P1.2.2.2.2.1; omega) rfl ?_
  refine mm_g2 sg_30 3 (pc1 := 1354) (lo1 := [some (.ref 5000), some (.ref 0), some (.ref 137), some (.ref 179), some (.int (Int32.ofInt i)), some (.int (Int32.ofInt r1)), o6]) (st1 := [.int (Int32.ofInt 3), .int (Int32.ofInt i), .ref 5000, .int (Int32.ofInt (g1 5000 ((i + 2) : Int).toNat)), .int (Int32.ofInt (g1 5000 ((i + 1) : Int).toNat)), .ref 137]) (H1 := mz_mk g1 x1) rfl ?_
  refine mz_iadd (sg_30 _ _ rfl) ?_
  refine mz_iaS (v := (g1 5000 ((i + 3) : Int).toNat)) (sg_30 _ _ rfl) (sh_5000 _) (by omega) (by have h9 := P1.2.2.2.2.1; omega) (by have h9 := P1.2.2.2.2.1; omega) rfl ?_
  refine mz_cv (sg_30 _ _ rfl) mt_13_203 (by decide) rfl rfl (Nat.le_of_ble_eq_true rfl) (by omega) (f_X12_years (by omega) P1.2.1 P1.1 (mz_rd P1.1 (bd_5000 _)).1 (mz_rd P1.1 (bd_5000 _)).2 (mz_rd P1.1 (bd_5000 _)).1 (mz_rd P1.1 (bd_5000 _)).2 (mz_rd P1.1 (bd_5000 _)).1 (mz_rd P1.1 (bd_5000 _)).2 P1.2.2.1.1 P1.2.2.1.2.1 P1.2.2.1.2.2.1 (fun r2 g2 hI2 hf2 l_r2 u_r2 hp2_0 e2 => ⟨_, rfl, ?_⟩))
  have hF2 : ∀ a b : Nat, a < 137 ∨ 2000 ≤ a → g2 a b = g1 a b := fun a b z => hf2 a b (fun y => by have w := (nz_X12_years_lo P1.2.1 _ _ y); omega)
  have hR2 : mz_sr g1 g2 := ⟨hf2 82 1 (nw_X12_years_82 P1.2.1), hf2 137 15 (nw_X12_years_15 P1.2.1), fun j => hf2 149 j (nw_X12_years_149 P1.2.1 j), fun j => hf2 142 j (nw_X12_years_142 P1.2.1 j), fun j hj => hf2 140 j (nw_X12_years_140 P1.2.1 j hj)⟩
  have P2 := mz_Lq_r P1 hI2 hR2 hp2_0
  have hT2 := RR_r P1.2.1 hT1 hF2 (fun a b z z1 z2 => hf2 a b (fun y => (nz_X12_years_nb5 P1.2.1 _ _ y).elim z (fun w => w.elim z1 z2))) (sm_e e2 (years_s (kr_P P1.1 P1.2.2.1)))
  show mm_W d mmL_law 1359 [some (.ref 5000), some (.ref 0), some (.ref 137), some (.ref 179), some (.int (Int32.ofInt i)), some (.int (Int32.ofInt r1)), o6] [.int (Int32.ofInt r2)] (mz_mk g2 x1) Q
  refine mm_g2 sg_30 1 (pc1 := 1361) (lo1 := [some (.ref 5000), some (.ref 0), some (.ref 137), some (.ref 179), some (.int (Int32.ofInt i)), some (.int (Int32.ofInt r1)), some (.int (Int32.ofInt r2))]) (st1 := []) (H1 := mz_mk g2 x1) rfl ?_
  refine mz_gt (tgt := 1388) (sg_30 _ _ rfl) rfl ?_
  exact kk g2 x1 _ _ (mz_nl_i _) (mz_nl_i _) P2 hT2
set_option maxHeartbeats 4000000 in
set_option maxRecDepth 100000 in
theorem law_31 {d : Nat} (hd : 5 ≤ d) {so : Option Nat} {L : Nat} (hL : L ≤ 3072) {i : Int} (h0 : 0 ≤ i) (h6 : i + 6 ≤ L) {o5 o6 : Option Value} (h5 : mz_nl o5) (h6_ : mz_nl o6) {g : mz_G} {x : mm_X} (P : mz_Lq so L i g x) (T : RR x g) {Q : (Option Value ⊕ Nat) → mm_H → Prop} (kk : ∀ g1 x1 p5 p6, mz_nl p5 → mz_nl p6 → mz_Lq so L (i + 6) g1 x1 → RR x1 g1 → mm_W d mmL_law 1388 [some (.ref 5000), some (.ref 0), some (.ref 137), some (.ref 179), some (.int (Int32.ofInt i)), p5, p6] [] (mz_mk g1 x1) Q) : mm_W d mmL_law 1364 [some (.ref 5000), some (.ref 0), some (.ref 137), some (.ref 179), some (.int (Int32.ofInt i)), o5, o6] [] (mz_mk g x) Q := by
  refine mm_g2 sg_31 1 (pc1 := 1365) (lo1 := [some (.ref 5000), some (.ref 0), some (.ref 137), some (.ref 179), some (.int (Int32.ofInt i)), o5, o6]) (st1 := [.ref 0]) (H1 := mz_mk g x) rfl ?_
  refine mz_cv (sg_31 _ _ rfl) mt_13_204 (by decide) rfl rfl (Nat.le_of_ble_eq_true rfl) (by omega) (f_X11_image (by omega) P.2.1 P.1 (fun g1 hI1 hf1 e1 => ⟨_, rfl, ?_⟩))
  have hS1 : ∀ k j : Nat, 137 ≤ k → g1 k j = g k j := fun k j hk => hf1 k j (nw_X11_image_137 P.2.1 k j hk)
  have P1 := mz_Lq_c P hI1 hS1 (mz_xx_rf P.2.1)
  show mm_W d mmL_law 1368 [some (.ref 5000), some (.ref 0), some (.ref 137), some (.ref 179), some (.int (Int32.ofInt i)), o5, o6] [] (mz_mk g1 x) Q
  refine mm_g2 sg_31 1 (pc1 := 1369) (lo1 := [some (.ref 5000), some (.ref 0), some (.ref 137), some (.ref 179), some (.int (Int32.ofInt i)), o5, o6]) (st1 := [.ref 137]) (H1 := mz_mk g1 x) rfl ?_
  refine mz_cv (sg_31 _ _ rfl) mt_13_207 (by decide) rfl rfl (Nat.le_of_ble_eq_true rfl) (by omega) (f_X12_image (by omega) P1.2.1 P1.1 P1.2.2.1.1 P1.2.2.1.2.1 (fun g2 hI2 hf2 hp2_0 e2 => ⟨_, rfl, ?_⟩))
  have hF2 : ∀ a b : Nat, a < 137 ∨ 2000 ≤ a → g2 a b = g1 a b := fun a b z => hf2 a b (fun y => by have w := (nz_X12_image_lo P1.2.1 _ _ y); omega)
  have hR2 : mz_sr g1 g2 := ⟨hf2 82 1 (nw_X12_image_82 P1.2.1), hf2 137 15 (nw_X12_image_15 P1.2.1), fun j => hf2 149 j (nw_X12_image_149 P1.2.1 j), fun j => hf2 142 j (nw_X12_image_142 P1.2.1 j), fun j hj => hf2 140 j (nw_X12_image_140 P1.2.1 j hj)⟩
  have P2 := mz_Lq_r P1 hI2 hR2 hp2_0
  have hT2 := RR_kr P.2.1 e1 e2 (image_k P.2.1 (RR_s T hS1)) hF2 T (fun a b z1 z2 => hf1 a b (fun y => (nz_X11_image_ld P.2.1 _ _ y) ⟨z1, z2⟩))
  show mm_W d mmL_law 1372 [some (.ref 5000), some (.ref 0), some (.ref 137), some (.ref 179), some (.int (Int32.ofInt i)), o5, o6] [] (mz_mk g2 x) Q
  refine mz_gt (tgt := 1388) (sg_31 _ _ rfl) rfl ?_
  exact kk g2 x _ _ h5 h6_ P2 hT2
set_option maxHeartbeats 4000000 in
set_option maxRecDepth 100000 in
theorem law_32 {d : Nat} (hd : 5 ≤ d) {so : Option Nat} {L : Nat} (hL : L ≤ 3072) {i : Int} (h0 : 0 ≤ i) (h6 : i + 6 ≤ L) {o5 o6 : Option Value} (h5 : mz_nl o5) (h6_ : mz_nl o6) {g : mz_G} {x : mm_X} (P : mz_Lq so L i g x) (T : RR x g) {Q : (Option Value ⊕ Nat) → mm_H → Prop} (kk : ∀ g1 x1 p5 p6, mz_nl p5 → mz_nl p6 → mz_Lq so L (i + 6) g1 x1 → RR x1 g1 → mm_W d mmL_law 1388 [some (.ref 5000), some (.ref 0), some (.ref 137), some (.ref 179), some (.int (Int32.ofInt i)), p5, p6] [] (mz_mk g1 x1) Q) : mm_W d mmL_law 1375 [some (.ref 5000), some (.ref 0), some (.ref 137), some (.ref 179), some (.int (Int32.ofInt i)), o5, o6] [] (mz_mk g x) Q := by
  refine mm_g2 sg_32 1 (pc1 := 1376) (lo1 := [some (.ref 5000), some (.ref 0), some (.ref 137), some (.ref 179), some (.int (Int32.ofInt i)), o5, o6]) (st1 := [.ref 0]) (H1 := mz_mk g x) rfl ?_
  refine mz_cv (sg_32 _ _ rfl) mt_13_208 (by decide) rfl rfl (Nat.le_of_ble_eq_true rfl) (by omega) (f_X11_restore (by omega) P.2.1 P.1 (fun r1 g1 hI1 hf1 l_r1 u_r1 e1 => ⟨_, rfl, ?_⟩))
  have hS1 : ∀ k j : Nat, 137 ≤ k → g1 k j = g k j := fun k j hk => hf1 k j (nw_X11_restore_137 P.2.1 k j hk)
  have P1 := mz_Lq_c P hI1 hS1 (mz_xx_rf P.2.1)
  show mm_W d mmL_law 1379 [some (.ref 5000), some (.ref 0), some (.ref 137), some (.ref 179), some (.int (Int32.ofInt i)), o5, o6] [.int (Int32.ofInt r1)] (mz_mk g1 x) Q
  refine mm_g2 sg_32 2 (pc1 := 1381) (lo1 := [some (.ref 5000), some (.ref 0), some (.ref 137), some (.ref 179), some (.int (Int32.ofInt i)), o5, o6]) (st1 := [.ref 137]) (H1 := mz_mk g1 x) rfl ?_
  refine mz_cv (sg_32 _ _ rfl) mt_13_212 (by decide) rfl rfl (Nat.le_of_ble_eq_true rfl) (by omega) (f_X12_restore (by omega) P1.2.1 P1.1 P1.2.2.1.1 P1.2.2.1.2.1 (fun r2 g2 hI2 hf2 l_r2 u_r2 hp2_0 e2 => ⟨_, rfl, ?_⟩))
  have hF2 : ∀ a b : Nat, a < 137 ∨ 2000 ≤ a → g2 a b = g1 a b := fun a b z => hf2 a b (fun y => by have w := (nz_X12_restore_lo P1.2.1 _ _ y); omega)
  have hR2 : mz_sr g1 g2 := ⟨hf2 82 1 (nw_X12_restore_82 P1.2.1), hf2 137 15 (nw_X12_restore_15 P1.2.1), fun j => hf2 149 j (nw_X12_restore_149 P1.2.1 j), fun j => hf2 142 j (nw_X12_restore_142 P1.2.1 j), fun j hj => hf2 140 j (nw_X12_restore_140 P1.2.1 j hj)⟩
  have P2 := mz_Lq_r P1 hI2 hR2 hp2_0
  obtain ⟨hT2, hE⟩ := RR_kq P.2.1 e1 e2 (restore_k P.2.1 (RR_s T hS1)) hF2 T (fun a b z1 z2 => hf1 a b (fun y => (nz_X11_restore_ld P.2.1 _ _ y) ⟨z1, z2⟩))
  show mm_W d mmL_law 1384 [some (.ref 5000), some (.ref 0), some (.ref 137), some (.ref 179), some (.int (Int32.ofInt i)), o5, o6] [.int (Int32.ofInt r2)] (mz_mk g2 x) Q
  refine mm_g2 sg_32 1 (pc1 := 1385) (lo1 := [some (.ref 5000), some (.ref 0), some (.ref 137), some (.ref 179), some (.int (Int32.ofInt i)), o5, o6]) (st1 := []) (H1 := mz_mk g2 x) rfl ?_
  refine mz_gt (tgt := 1388) (sg_32 _ _ rfl) rfl ?_
  exact kk g2 x _ _ h5 h6_ P2 hT2
set_option maxHeartbeats 4000000 in
set_option maxRecDepth 100000 in
theorem law_loop {d : Nat} (hd : 91 ≤ d) {so : Option Nat} {L : Nat} (hL : L ≤ 3072) {Q : (Option Value ⊕ Nat) → mm_H → Prop} (hQ : ∀ g x, mz_Lq so L (L : Int) g x → Q (.inl (some (.int (Int32.ofInt 1)))) (mz_mk g x)) : ∀ (n : Nat) (i : Int) (o5 o6 : Option Value) (g : mz_G) (x : mm_X), ((L : Int) - i).toNat = n → 0 ≤ i → i ≤ L → mz_nl o5 → mz_nl o6 → mz_Lq so L i g x → RR x g → mm_W d mmL_law 23 [some (.ref 5000), some (.ref 0), some (.ref 137), some (.ref 179), some (.int (Int32.ofInt i)), o5, o6] [] (mz_mk g x) Q := by
  intro n
  induction n using Nat.strongRecOn with
  | ind n ih =>
  intro i o5 o6 g x hn h0 hi h5 h6 P T
  have hx5 := P.2.2.2.2.1
  refine mm_g 2 (pc1 := 26) (lo1 := [some (.ref 5000), some (.ref 0), some (.ref 137), some (.ref 179), some (.int (Int32.ofInt i)), o5, o6]) (st1 := [.ref 5000, .int (Int32.ofInt i)]) (H1 := mz_mk g x) rfl ?_
  refine mz_al rfl (sh_5000 _) (by decide) ?_
  refine mz_bip rfl bip_6 ?_
  refine mz_isub rfl ?_
  refine mz_ic_gt (tgt := 1394) rfl rfl ⟨by omega, by omega⟩ ⟨by omega, by omega⟩ (fun c30 => ?_) (fun c30 => ?_)
  · have P2 : mz_Lq so L (L : Int) g x := ⟨P.1, P.2.1, P.2.2.1, P.2.2.2.1, hx5, by have h9 := P.2.2.2.2.2.1; omega, by have h9 := P.2.2.2.2.2.2; omega⟩
    exact mm_g 1 (pc1 := 1395) (lo1 := [some (.ref 5000), some (.ref 0), some (.ref 137), some (.ref 179), some (.int (Int32.ofInt i)), o5, o6]) (st1 := [.int (Int32.ofInt 1)]) (H1 := mz_mk g x) rfl (mz_rtZ rfl (by decide) (by omega) (hQ g x P2))
  · refine mm_g 2 (pc1 := 36) (lo1 := [some (.ref 5000), some (.ref 0), some (.ref 137), some (.ref 179), some (.int (Int32.ofInt i)), o5, o6]) (st1 := [.int (Int32.ofInt i), .ref 5000]) (H1 := mz_mk g x) rfl ?_
    refine mz_iaS (v := g 5000 i.toNat) rfl (sh_5000 _) h0 (by omega) (by omega) rfl ?_
    refine mz_bip rfl bip_63 ?_
    refine mz_iand rfl (fun v e_v hwv => ?_)
    have b_v : 0 ≤ v ∧ v ≤ 63 := by rw [e_v]; exact mz_and_r (by decide) (by decide) (mz_rg (mz_rd P.1 (bd_5000 _)).1 (mz_rd P.1 (bd_5000 _)).2)
    have l_v := b_v.1
    have u_v := b_v.2
    have kk : ∀ g1 x1 p5 p6, mz_nl p5 → mz_nl p6 → mz_Lq so L (i + 6) g1 x1 → RR x1 g1 → mm_W d mmL_law 1388 [some (.ref 5000), some (.ref 0), some (.ref 137), some (.ref 179), some (.int (Int32.ofInt i)), p5, p6] [] (mz_mk g1 x1) Q := by
      intro g1 x1 p5 p6 k5 k6 P1 T1
      refine mz_iincR (v := i) (lo2 := [some (.ref 5000), some (.ref 0), some (.ref 137), some (.ref 179), some (.int (Int32.ofInt (i + 6))), p5, p6]) rfl rfl rfl (Nat.le_of_ble_eq_true rfl) rfl ?_
      refine mz_gt (tgt := 23) rfl rfl ?_
      exact ih (((L : Int) - (i + 6)).toNat) (by omega) (i + 6) p5 p6 g1 x1 rfl (by omega) (by omega) k5 k6 P1 T1
    by_cases c40_0 : v = 0
    · exact mz_tsi (tgt := 188) rfl ⟨by omega, by omega⟩ (by omega) (by omega) (by rw [c40_0]; rfl) rfl (law_0 (by omega) hL h0 (by omega) h5 h6 P T kk)
    by_cases c40_1 : v = 1
    · exact mz_tsi (tgt := 261) rfl ⟨by omega, by omega⟩ (by omega) (by omega) (by rw [c40_1]; rfl) rfl (law_1 (by omega) hL h0 (by omega) h5 h6 P T kk)
    by_cases c40_2 : v = 2
    · exact mz_tsi (tgt := 289) rfl ⟨by omega, by omega⟩ (by omega) (by omega) (by rw [c40_2]; rfl) rfl (law_2 (by omega) hL h0 (by omega) h5 h6 P T kk)
    by_cases c40_3 : v = 3
    · exact mz_tsi (tgt := 302) rfl ⟨by omega, by omega⟩ (by omega) (by omega) (by rw [c40_3]; rfl) rfl (law_3 (by omega) hL h0 (by omega) h5 h6 P T kk)
    by_cases c40_4 : v = 4
    · exact mz_tsi (tgt := 330) rfl ⟨by omega, by omega⟩ (by omega) (by omega) (by rw [c40_4]; rfl) rfl (law_4 (by omega) hL h0 (by omega) h5 h6 P T kk)
    by_cases c40_5 : v = 5
    · exact mz_tsi (tgt := 370) rfl ⟨by omega, by omega⟩ (by omega) (by omega) (by rw [c40_5]; rfl) rfl (law_5 (by omega) hL h0 (by omega) h5 h6 P T kk)
    by_cases c40_6 : v = 6
    · exact mz_tsi (tgt := 410) rfl ⟨by omega, by omega⟩ (by omega) (by omega) (by rw [c40_6]; rfl) rfl (law_6 (by omega) hL h0 (by omega) h5 h6 P T kk)
    by_cases c40_7 : v = 7
    · exact mz_tsi (tgt := 450) rfl ⟨by omega, by omega⟩ (by omega) (by omega) (by rw [c40_7]; rfl) rfl (law_7 (by omega) hL h0 (by omega) h5 h6 P T kk)
    by_cases c40_8 : v = 8
    · exact mz_tsi (tgt := 475) rfl ⟨by omega, by omega⟩ (by omega) (by omega) (by rw [c40_8]; rfl) rfl (law_8 (by omega) hL h0 (by omega) h5 h6 P T kk)
    by_cases c40_9 : v = 9
    · exact mz_tsi (tgt := 515) rfl ⟨by omega, by omega⟩ (by omega) (by omega) (by rw [c40_9]; rfl) rfl (law_9 (by omega) hL h0 (by omega) h5 h6 P T kk)
    by_cases c40_10 : v = 10
    · exact mz_tsi (tgt := 555) rfl ⟨by omega, by omega⟩ (by omega) (by omega) (by rw [c40_10]; rfl) rfl (law_10 (by omega) hL h0 (by omega) h5 h6 P T kk)
    by_cases c40_11 : v = 11
    · exact mz_tsi (tgt := 583) rfl ⟨by omega, by omega⟩ (by omega) (by omega) (by rw [c40_11]; rfl) rfl (law_11 (by omega) hL h0 (by omega) h5 h6 P T kk)
    by_cases c40_12 : v = 12
    · exact mz_tsi (tgt := 635) rfl ⟨by omega, by omega⟩ (by omega) (by omega) (by rw [c40_12]; rfl) rfl (law_12 (by omega) hL h0 (by omega) h5 h6 P T kk)
    by_cases c40_13 : v = 13
    · exact mz_tsi (tgt := 648) rfl ⟨by omega, by omega⟩ (by omega) (by omega) (by rw [c40_13]; rfl) rfl (law_13 (by omega) hL h0 (by omega) h5 h6 P T kk)
    by_cases c40_14 : v = 14
    · exact mz_tsi (tgt := 700) rfl ⟨by omega, by omega⟩ (by omega) (by omega) (by rw [c40_14]; rfl) rfl (law_14 (by omega) hL h0 (by omega) h5 h6 P T kk)
    by_cases c40_15 : v = 15
    · exact mz_tsi (tgt := 752) rfl ⟨by omega, by omega⟩ (by omega) (by omega) (by rw [c40_15]; rfl) rfl (law_15 (by omega) hL h0 (by omega) h5 h6 P T kk)
    by_cases c40_16 : v = 16
    · exact mz_tsi (tgt := 792) rfl ⟨by omega, by omega⟩ (by omega) (by omega) (by rw [c40_16]; rfl) rfl (law_16 (by omega) hL h0 (by omega) h5 h6 P T kk)
    by_cases c40_17 : v = 17
    · exact mz_tsi (tgt := 820) rfl ⟨by omega, by omega⟩ (by omega) (by omega) (by rw [c40_17]; rfl) rfl (law_17 (by omega) hL h0 (by omega) h5 h6 P T kk)
    by_cases c40_18 : v = 18
    · exact mz_tsi (tgt := 860) rfl ⟨by omega, by omega⟩ (by omega) (by omega) (by rw [c40_18]; rfl) rfl (law_18 (by omega) hL h0 (by omega) h5 h6 P T kk)
    by_cases c40_19 : v = 19
    · exact mz_tsi (tgt := 900) rfl ⟨by omega, by omega⟩ (by omega) (by omega) (by rw [c40_19]; rfl) rfl (law_19 (by omega) hL h0 (by omega) h5 h6 P T kk)
    by_cases c40_20 : v = 20
    · exact mz_tsi (tgt := 952) rfl ⟨by omega, by omega⟩ (by omega) (by omega) (by rw [c40_20]; rfl) rfl (law_20 (by omega) hL h0 (by omega) h5 h6 P T kk)
    by_cases c40_21 : v = 21
    · exact mz_tsi (tgt := 980) rfl ⟨by omega, by omega⟩ (by omega) (by omega) (by rw [c40_21]; rfl) rfl (law_21 (by omega) hL h0 (by omega) h5 h6 P T kk)
    by_cases c40_22 : v = 22
    · exact mz_tsi (tgt := 1036) rfl ⟨by omega, by omega⟩ (by omega) (by omega) (by rw [c40_22]; rfl) rfl (law_22 (by omega) hL h0 (by omega) h5 h6 P T kk)
    by_cases c40_23 : v = 23
    · exact mz_tsi (tgt := 1076) rfl ⟨by omega, by omega⟩ (by omega) (by omega) (by rw [c40_23]; rfl) rfl (law_23 (by omega) hL h0 (by omega) h5 h6 P T kk)
    by_cases c40_24 : v = 24
    · exact mz_tsi (tgt := 1089) rfl ⟨by omega, by omega⟩ (by omega) (by omega) (by rw [c40_24]; rfl) rfl (law_24 (by omega) hL h0 (by omega) h5 h6 P T kk)
    by_cases c40_25 : v = 25
    · exact mz_tsi (tgt := 1141) rfl ⟨by omega, by omega⟩ (by omega) (by omega) (by rw [c40_25]; rfl) rfl (law_25 (by omega) hL h0 (by omega) h5 h6 P T kk)
    by_cases c40_26 : v = 26
    · exact mz_tsi (tgt := 1169) rfl ⟨by omega, by omega⟩ (by omega) (by omega) (by rw [c40_26]; rfl) rfl (law_26 (by omega) hL h0 (by omega) h5 h6 P T kk)
    by_cases c40_27 : v = 27
    · exact mz_tsi (tgt := 1197) rfl ⟨by omega, by omega⟩ (by omega) (by omega) (by rw [c40_27]; rfl) rfl (law_27 (by omega) hL h0 (by omega) h5 h6 P T kk)
    by_cases c40_28 : v = 28
    · exact mz_tsi (tgt := 1208) rfl ⟨by omega, by omega⟩ (by omega) (by omega) (by rw [c40_28]; rfl) rfl (law_28 (by omega) hL h0 (by omega) h5 h6 P T kk)
    by_cases c40_29 : v = 29
    · exact mz_tsi (tgt := 1260) rfl ⟨by omega, by omega⟩ (by omega) (by omega) (by rw [c40_29]; rfl) rfl (law_29 (by omega) hL h0 (by omega) h5 h6 P T kk)
    by_cases c40_30 : v = 30
    · exact mz_tsi (tgt := 1312) rfl ⟨by omega, by omega⟩ (by omega) (by omega) (by rw [c40_30]; rfl) rfl (law_30 (by omega) hL h0 (by omega) h5 h6 P T kk)
    by_cases c40_31 : v = 31
    · exact mz_tsi (tgt := 1364) rfl ⟨by omega, by omega⟩ (by omega) (by omega) (by rw [c40_31]; rfl) rfl (law_31 (by omega) hL h0 (by omega) h5 h6 P T kk)
    by_cases c40_32 : v = 32
    · exact mz_tsi (tgt := 1375) rfl ⟨by omega, by omega⟩ (by omega) (by omega) (by rw [c40_32]; rfl) rfl (law_32 (by omega) hL h0 (by omega) h5 h6 P T kk)
    · exact mz_tso (tgt := 1388) rfl ⟨by omega, by omega⟩ (by omega) rfl (kk g x o5 o6 h5 h6 ⟨P.1, P.2.1, P.2.2.1, P.2.2.2.1, hx5, by have h9 := P.2.2.2.2.2.1; omega, by have h9 := P.2.2.2.2.2.2; omega⟩ T)
