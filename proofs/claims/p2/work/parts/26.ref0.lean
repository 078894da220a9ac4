/-! CONTRACTS OF THE REFERENCE, by program (wip/p2/tools/gen25.py) -/
def fw_X12_fail (x : mm_X) (a1 : Int) : Nat → Nat → Prop := fun k j => (k = 137 ∧ j = 2)
theorem c_X12_fail {d : Nat} (hd : 1 ≤ d) {x : mm_X} (hx : mk_x x) {g : mz_G} (hI : mz_inv g) {a1 : Int} (l_a1 : (-2147483648) ≤ a1) (u_a1 : a1 ≤ 2147483647) {Q : (Option Value ⊕ Nat) → mm_H → Prop} (hQ : ∀ (r : Int) (g1 : mz_G), mz_inv g1 → mz_fr (fw_X12_fail x a1) g g1 → 0 ≤ r → r ≤ 0 → Q (.inl (some (.int (Int32.ofInt r)))) (mz_mk g1 x)) : mm_C d 181 [.ref 137, .int (Int32.ofInt a1)] (mz_mk g x) Q := by
  refine ⟨mmX12_fail, [some (.ref 137), some (.int (Int32.ofInt a1))], rfl, rfl, ?_⟩
  refine mm_g 2 (pc1 := 2) (lo1 := [some (.ref 137), some (.int (Int32.ofInt a1))]) (st1 := [.int (Int32.ofInt a1), .ref 137]) (H1 := mz_mk g x) rfl ?_
  refine mz_pI rfl fd_12_154 (sc_137 _) hI bd_137_2 (by omega) (by omega) (fun g1 hIg1 hug1 => ?_)
  refine mm_g 1 (pc1 := 6) (lo1 := [some (.ref 137), some (.int (Int32.ofInt a1))]) (st1 := [.int (Int32.ofInt 0)]) (H1 := mz_mk g1 x) rfl ?_
  exact mm_rt rfl rfl (hQ _ _ hIg1 (fun k j hk => (hug1.2 k j (fun h => hk h))) (by decide) (by decide))
theorem c_X12_isIn {d : Nat} (hd : 1 ≤ d) {x : mm_X} (hx : mk_x x) {g : mz_G} (hI : mz_inv g) {a1 : Int} (l_a1 : (-2147483648) ≤ a1) (u_a1 : a1 ≤ 2147483647) {a2 : Int} (l_a2 : (-2147483648) ≤ a2) (u_a2 : a2 ≤ 2147483647) {a3 : Int} (l_a3 : (-2147483648) ≤ a3) (u_a3 : a3 ≤ 2147483647) {Q : (Option Value ⊕ Nat) → mm_H → Prop} (hQ : ∀ (r : Int), 0 ≤ r → r ≤ 1 → (r = 1 ↔ (a2 ≤ a1 ∧ a1 ≤ a3)) → Q (.inl (some (.int (Int32.ofInt r)))) (mz_mk g x)) : mm_C d 182 [.long (Int64.ofInt a1), .long (Int64.ofInt a2), .long (Int64.ofInt a3)] (mz_mk g x) Q := by
  refine ⟨mmX12_isIn, [some (.long (Int64.ofInt a1)), none, some (.long (Int64.ofInt a2)), none, some (.long (Int64.ofInt a3)), none], rfl, rfl, ?_⟩
  refine mm_g 2 (pc1 := 2) (lo1 := [some (.long (Int64.ofInt a1)), none, some (.long (Int64.ofInt a2)), none, some (.long (Int64.ofInt a3)), none]) (st1 := [.long (Int64.ofInt a2), .long (Int64.ofInt a1)]) (H1 := mz_mk g x) rfl ?_
  refine mz_lcmp rfl (mz_rg l_a1 u_a1) (mz_rg l_a2 u_a2) (fun v1 hwv1 e_v1 => ?_)
  have l_v1 := hwv1.1
  have u_v1 := hwv1.2
  refine mz_if_lt (tgt := 17) rfl rfl (mz_rg l_v1 u_v1) (fun c3_1 => ?_) (fun c3_1 => ?_)
  · skip
    refine mm_g 1 (pc1 := 18) (lo1 := [some (.long (Int64.ofInt a1)), none, some (.long (Int64.ofInt a2)), none, some (.long (Int64.ofInt a3)), none]) (st1 := [.int (Int32.ofInt 0)]) (H1 := mz_mk g x) rfl ?_
    exact mz_rtZ rfl (by decide) (by omega) (hQ _ (by decide) (by decide) (by omega))
  · skip
    refine mm_g 2 (pc1 := 9) (lo1 := [some (.long (Int64.ofInt a1)), none, some (.long (Int64.ofInt a2)), none, some (.long (Int64.ofInt a3)), none]) (st1 := [.long (Int64.ofInt a3), .long (Int64.ofInt a1)]) (H1 := mz_mk g x) rfl ?_
    refine mz_lcmp rfl (mz_rg l_a1 u_a1) (mz_rg l_a3 u_a3) (fun v2 hwv2 e_v2 => ?_)
    have l_v2 := hwv2.1
    have u_v2 := hwv2.2
    refine mz_if_gt (tgt := 17) rfl rfl (mz_rg l_v2 u_v2) (fun c10_2 => ?_) (fun c10_2 => ?_)
    · skip
      refine mm_g 1 (pc1 := 18) (lo1 := [some (.long (Int64.ofInt a1)), none, some (.long (Int64.ofInt a2)), none, some (.long (Int64.ofInt a3)), none]) (st1 := [.int (Int32.ofInt 0)]) (H1 := mz_mk g x) rfl ?_
      exact mz_rtZ rfl (by decide) (by omega) (hQ _ (by decide) (by decide) (by omega))
    · skip
      refine mm_g 1 (pc1 := 14) (lo1 := [some (.long (Int64.ofInt a1)), none, some (.long (Int64.ofInt a2)), none, some (.long (Int64.ofInt a3)), none]) (st1 := [.int (Int32.ofInt 1)]) (H1 := mz_mk g x) rfl ?_
      refine mz_gt (tgt := 18) rfl rfl ?_
      exact mz_rtZ rfl (by decide) (by omega) (hQ _ (by decide) (by decide) (by omega))
theorem c_X12_isOf {d : Nat} (hd : 1 ≤ d) {x : mm_X} (hx : mk_x x) {g : mz_G} (hI : mz_inv g) {a1 : Int} (l_a1 : (-2147483648) ≤ a1) (u_a1 : a1 ≤ 2147483647) {a2 : Int} (l_a2 : (-2147483648) ≤ a2) (u_a2 : a2 ≤ 2147483647) {Q : (Option Value ⊕ Nat) → mm_H → Prop} (hQ : ∀ (r : Int), 0 ≤ r → r ≤ 1 → (0 ≤ a2 → a2 ≤ 31 → 0 ≤ a1 → r = mz_bit a1 a2) → Q (.inl (some (.int (Int32.ofInt r)))) (mz_mk g x)) : mm_C d 183 [.int (Int32.ofInt a1), .int (Int32.ofInt a2)] (mz_mk g x) Q := by
  refine ⟨mmX12_isOf, [some (.int (Int32.ofInt a1)), some (.int (Int32.ofInt a2))], rfl, rfl, ?_⟩
  refine mm_g 2 (pc1 := 2) (lo1 := [some (.int (Int32.ofInt a1)), some (.int (Int32.ofInt a2))]) (st1 := [.int (Int32.ofInt a2), .int (Int32.ofInt a1)]) (H1 := mz_mk g x) rfl ?_
  refine mz_ishr rfl (fun v1 e_v1 hwv1 => ?_)
  have l_v1 := hwv1.1
  have u_v1 := hwv1.2
  refine mm_g 1 (pc1 := 4) (lo1 := [some (.int (Int32.ofInt a1)), some (.int (Int32.ofInt a2))]) (st1 := [.int (Int32.ofInt 1), .int (Int32.ofInt v1)]) (H1 := mz_mk g x) rfl ?_
  refine mz_iand rfl (fun v2 e_v2 hwv2 => ?_)
  have b_v2 : 0 ≤ v2 ∧ v2 ≤ 1 := by rw [e_v2]; exact mz_and_r (by omega) (by omega) (mz_rg l_v1 u_v1)
  have l_v2 := b_v2.1
  have u_v2 := b_v2.2
  refine mm_g 1 (pc1 := 6) (lo1 := [some (.int (Int32.ofInt a1)), some (.int (Int32.ofInt a2))]) (st1 := [.int (Int32.ofInt 1), .int (Int32.ofInt v2)]) (H1 := mz_mk g x) rfl ?_
  refine mz_ic_ne (tgt := 13) rfl rfl (mz_rg l_v2 u_v2) ⟨by decide, by decide⟩ (fun c6_2 => ?_) (fun c6_2 => ?_)
  · skip
    refine mm_g 1 (pc1 := 14) (lo1 := [some (.int (Int32.ofInt a1)), some (.int (Int32.ofInt a2))]) (st1 := [.int (Int32.ofInt 0)]) (H1 := mz_mk g x) rfl ?_
    exact mz_rtZ rfl (by decide) (by omega) (hQ _ (by decide) (by decide) (fun _ _ _ => (by unfold mz_bit; rw [← e_v1, ← e_v2]; omega)))
  · skip
    refine mm_g 1 (pc1 := 10) (lo1 := [some (.int (Int32.ofInt a1)), some (.int (Int32.ofInt a2))]) (st1 := [.int (Int32.ofInt 1)]) (H1 := mz_mk g x) rfl ?_
    refine mz_gt (tgt := 14) rfl rfl ?_
    exact mz_rtZ rfl (by decide) (by omega) (hQ _ (by decide) (by decide) (fun _ _ _ => (by unfold mz_bit; rw [← e_v1, ← e_v2]; omega)))
theorem c_X12_bitsOf {d : Nat} (hd : 1 ≤ d) {x : mm_X} (hx : mk_x x) {g : mz_G} (hI : mz_inv g) {a1 : Int} (l_a1 : 0 ≤ a1) (u_a1 : a1 ≤ 2147483647) {Q : (Option Value ⊕ Nat) → mm_H → Prop} (hQ : ∀ (r : Int), (-2147483648) ≤ r → r ≤ 2147483647 → Q (.inl (some (.int (Int32.ofInt r)))) (mz_mk g x)) : mm_C d 184 [.int (Int32.ofInt a1)] (mz_mk g x) Q := by
  refine ⟨mmX12_bitsOf, [some (.int (Int32.ofInt a1)), none, none], rfl, rfl, ?_⟩
  refine mm_g 4 (pc1 := 4) (lo1 := [some (.int (Int32.ofInt a1)), some (.int (Int32.ofInt 0)), some (.int (Int32.ofInt a1))]) (st1 := []) (H1 := mz_mk g x) rfl ?_
  have L6 : ∀ n5 : Nat, ∀ (v1 : Int) (v2 : Int), (v2 - 0).toNat = n5 → (-2147483648) ≤ v1 → v1 ≤ 2147483647 → 0 ≤ v2 → v2 ≤ 2147483647 → mm_W d mmX12_bitsOf 4 [some (.int (Int32.ofInt a1)), some (.int (Int32.ofInt v1)), some (.int (Int32.ofInt v2))] [] (mz_mk g x) Q := by
    intro n5
    induction n5 using Nat.strongRecOn with
    | ind n5 ih4 =>
    intro v1 v2 hmn5 l_v1 u_v1 l_v2 u_v2
    refine mm_g 1 (pc1 := 5) (lo1 := [some (.int (Int32.ofInt a1)), some (.int (Int32.ofInt v1)), some (.int (Int32.ofInt v2))]) (st1 := [.int (Int32.ofInt v2)]) (H1 := mz_mk g x) rfl ?_
    refine mz_if_eq (tgt := 20) rfl rfl (mz_rg l_v2 u_v2) (fun c5_6 => ?_) (fun c5_6 => ?_)
    · skip
      refine mm_g 1 (pc1 := 21) (lo1 := [some (.int (Int32.ofInt a1)), some (.int (Int32.ofInt v1)), some (.int (Int32.ofInt v2))]) (st1 := [.int (Int32.ofInt v1)]) (H1 := mz_mk g x) rfl ?_
      exact mm_rt rfl rfl (hQ _ (by omega) (by omega))
    · skip
      refine mz_iincW (v := v1) (lo2 := fun v7 => [some (.int (Int32.ofInt a1)), some (.int (Int32.ofInt v7)), some (.int (Int32.ofInt v2))]) rfl rfl rfl (Nat.le_of_ble_eq_true rfl) (fun _ => rfl) (fun v7 _ hwv7 => ?_)
      have l_v7 := hwv7.1
      have u_v7 := hwv7.2
      refine mm_g 3 (pc1 := 14) (lo1 := [some (.int (Int32.ofInt a1)), some (.int (Int32.ofInt v7)), some (.int (Int32.ofInt v2))]) (st1 := [.int (Int32.ofInt 1), .int (Int32.ofInt v2), .int (Int32.ofInt v2)]) (H1 := mz_mk g x) rfl ?_
      refine mz_isub rfl ?_
      refine mz_iand rfl (fun v8 e_v8 hwv8 => ?_)
      have b_v8 : 0 ≤ v8 ∧ v8 ≤ 2147483646 := by rw [e_v8]; exact mz_and_r (by omega) (by omega) (mz_rg l_v2 u_v2)
      have l_v8 := b_v8.1
      have u_v8 := b_v8.2
      have w_v8 : v8 ≤ (v2 - 1) := by rw [e_v8]; exact (mz_and_r (hi := (v2 - 1)) (by omega) (Int.le_refl _) (mz_rg l_v2 u_v2) (by omega)).2
      refine mm_g 1 (pc1 := 17) (lo1 := [some (.int (Int32.ofInt a1)), some (.int (Int32.ofInt v7)), some (.int (Int32.ofInt v8))]) (st1 := []) (H1 := mz_mk g x) rfl ?_
      refine mz_gt (tgt := 4) rfl rfl ?_
      exact ih4 ((v8 - 0).toNat) (by omega) v7 v8 rfl (by omega) (by omega) (by omega) (by omega)
  exact L6 _ 0 a1 rfl (by decide) (by decide) (by omega) (by omega)
theorem c_X12_isWord {d : Nat} (hd : 2 ≤ d) {x : mm_X} (hx : mk_x x) {g : mz_G} (hI : mz_inv g) {a1 : Int} (l_a1 : (-2147483648) ≤ a1) (u_a1 : a1 ≤ 2147483647) {Q : (Option Value ⊕ Nat) → mm_H → Prop} (hQ : ∀ (r : Int), 0 ≤ r → r ≤ 1 → (r = 1 ↔ (0 ≤ a1 ∧ a1 < g 140 0)) → (r = 1 → a1 ≤ 7) → Q (.inl (some (.int (Int32.ofInt r)))) (mz_mk g x)) : mm_C d 185 [.ref 137, .int (Int32.ofInt a1)] (mz_mk g x) Q := by
  refine ⟨mmX12_isWord, [some (.ref 137), some (.int (Int32.ofInt a1))], rfl, rfl, ?_⟩
  refine mm_g 1 (pc1 := 1) (lo1 := [some (.ref 137), some (.int (Int32.ofInt a1))]) (st1 := [.int (Int32.ofInt a1)]) (H1 := mz_mk g x) rfl ?_
  refine mz_i2l rfl (mz_rg l_a1 u_a1) ?_
  refine mz_lcst (c := 0) rfl rfl ?_
  refine mm_g 1 (pc1 := 4) (lo1 := [some (.ref 137), some (.int (Int32.ofInt a1))]) (st1 := [.ref 137, .long (Int64.ofInt 0), .long (Int64.ofInt a1)]) (H1 := mz_mk g x) rfl ?_
  refine mz_fgR (v := 140) rfl fd_12_36 (by decide) (sc_137 _) (rf_137_3 _ _ _) ?_
  refine mm_g 1 (pc1 := 8) (lo1 := [some (.ref 137), some (.int (Int32.ofInt a1))]) (st1 := [.int (Int32.ofInt 0), .ref 140, .long (Int64.ofInt 0), .long (Int64.ofInt a1)]) (H1 := mz_mk g x) rfl ?_
  refine mz_aI rfl (sh_140 _) (by omega) (by omega) (by decide) hI bt_140_0 (fun v1 e_v1 l_v1 u_v1 => ?_)
  have e_v1 : g 140 0 = v1 := e_v1
  refine mm_g 1 (pc1 := 10) (lo1 := [some (.ref 137), some (.int (Int32.ofInt a1))]) (st1 := [.int (Int32.ofInt 1), .int (Int32.ofInt v1), .long (Int64.ofInt 0), .long (Int64.ofInt a1)]) (H1 := mz_mk g x) rfl ?_
  refine mz_isub rfl ?_
  refine mz_i2l rfl ⟨by omega, by omega⟩ ?_
  refine mz_cs rfl mt_12_157 (by decide) rfl (Nat.le_of_ble_eq_true rfl) (by omega) (c_X12_isIn (by omega) hx hI (by omega) (by omega) (by omega) (by omega) (by omega) (by omega) (fun v2 l_v2 u_v2 hp3 => ⟨_, rfl, ?_⟩))
  show mm_W d mmX12_isWord 15 [some (.ref 137), some (.int (Int32.ofInt a1))] [.int (Int32.ofInt v2)] (mz_mk g x) Q
  exact mz_rtZ rfl (by decide) (by omega) (hQ _ (by omega) (by omega) (by omega) (by omega))
theorem c_X12_isTrunk {d : Nat} (hd : 2 ≤ d) {x : mm_X} (hx : mk_x x) {g : mz_G} (hI : mz_inv g) {a1 : Int} (l_a1 : (-2147483648) ≤ a1) (u_a1 : a1 ≤ 2147483647) {Q : (Option Value ⊕ Nat) → mm_H → Prop} (hQ : ∀ (r : Int), 0 ≤ r → r ≤ 1 → (r = 1 ↔ (0 ≤ a1 ∧ a1 < g 140 1)) → (r = 1 → a1 ≤ 5) → Q (.inl (some (.int (Int32.ofInt r)))) (mz_mk g x)) : mm_C d 186 [.ref 137, .int (Int32.ofInt a1)] (mz_mk g x) Q := by
  refine ⟨mmX12_isTrunk, [some (.ref 137), some (.int (Int32.ofInt a1))], rfl, rfl, ?_⟩
  refine mm_g 1 (pc1 := 1) (lo1 := [some (.ref 137), some (.int (Int32.ofInt a1))]) (st1 := [.int (Int32.ofInt a1)]) (H1 := mz_mk g x) rfl ?_
  refine mz_i2l rfl (mz_rg l_a1 u_a1) ?_
  refine mz_lcst (c := 0) rfl rfl ?_
  refine mm_g 1 (pc1 := 4) (lo1 := [some (.ref 137), some (.int (Int32.ofInt a1))]) (st1 := [.ref 137, .long (Int64.ofInt 0), .long (Int64.ofInt a1)]) (H1 := mz_mk g x) rfl ?_
  refine mz_fgR (v := 140) rfl fd_12_36 (by decide) (sc_137 _) (rf_137_3 _ _ _) ?_
  refine mm_g 1 (pc1 := 8) (lo1 := [some (.ref 137), some (.int (Int32.ofInt a1))]) (st1 := [.int (Int32.ofInt 1), .ref 140, .long (Int64.ofInt 0), .long (Int64.ofInt a1)]) (H1 := mz_mk g x) rfl ?_
  refine mz_aI rfl (sh_140 _) (by omega) (by omega) (by decide) hI bt_140_1 (fun v1 e_v1 l_v1 u_v1 => ?_)
  have e_v1 : g 140 1 = v1 := e_v1
  refine mm_g 1 (pc1 := 10) (lo1 := [some (.ref 137), some (.int (Int32.ofInt a1))]) (st1 := [.int (Int32.ofInt 1), .int (Int32.ofInt v1), .long (Int64.ofInt 0), .long (Int64.ofInt a1)]) (H1 := mz_mk g x) rfl ?_
  refine mz_isub rfl ?_
  refine mz_i2l rfl ⟨by omega, by omega⟩ ?_
  refine mz_cs rfl mt_12_157 (by decide) rfl (Nat.le_of_ble_eq_true rfl) (by omega) (c_X12_isIn (by omega) hx hI (by omega) (by omega) (by omega) (by omega) (by omega) (by omega) (fun v2 l_v2 u_v2 hp3 => ⟨_, rfl, ?_⟩))
  show mm_W d mmX12_isTrunk 15 [some (.ref 137), some (.int (Int32.ofInt a1))] [.int (Int32.ofInt v2)] (mz_mk g x) Q
  exact mz_rtZ rfl (by decide) (by omega) (hQ _ (by omega) (by omega) (by omega) (by omega))
def fl_X12_feed_23 (x : mm_X) (a1 : Int) (a2 : Int) (a3 : Int) (a4 : Int) (a5 : Int) : Nat → Nat → Prop := fun k j => k = 151 ∨ (k = 137 ∧ j = 15)
def fw_X12_feed (x : mm_X) (a1 : Int) (a2 : Int) (a3 : Int) (a4 : Int) (a5 : Int) : Nat → Nat → Prop := fun k j => (k = 137 ∧ j = 2) ∨ k = 151 ∨ (k = 137 ∧ j = 15)
theorem c_X12_feed {d : Nat} (hd : 1 ≤ d) {x : mm_X} (hx : mk_x x) {g : mz_G} (hI : mz_inv g) {a1 : Int} (l_a1 : (-2147483648) ≤ a1) (u_a1 : a1 ≤ 2147483647) {a2 : Int} (l_a2 : (-2147483648) ≤ a2) (u_a2 : a2 ≤ 2147483647) {a3 : Int} (l_a3 : (-2147483648) ≤ a3) (u_a3 : a3 ≤ 2147483647) {a4 : Int} (l_a4 : (-2147483648) ≤ a4) (u_a4 : a4 ≤ 2147483647) {a5 : Int} (l_a5 : (-2147483648) ≤ a5) (u_a5 : a5 ≤ 2147483647) (p1 : mz_pv g) (p2 : g 137 30 ≤ 999) {Q : (Option Value ⊕ Nat) → mm_H → Prop} (hQ : ∀ (r : Int) (g1 : mz_G), mz_inv g1 → mz_fr (fw_X12_feed x a1 a2 a3 a4 a5) g g1 → (-1) ≤ r → r ≤ 700 → (g1 137 30 ≤ 999) → ((g 137 15 + 20 ≤ 700 → r = g 137 15 + 20 ∧ g1 137 15 = r) ∧ (700 < g 137 15 + 20 → r = -1 ∧ g1 137 15 = g 137 15)) → Q (.inl (some (.int (Int32.ofInt r)))) (mz_mk g1 x)) : mm_C d 187 [.ref 137, .int (Int32.ofInt a1), .int (Int32.ofInt a2), .int (Int32.ofInt a3), .int (Int32.ofInt a4), .int (Int32.ofInt a5)] (mz_mk g x) Q := by
  refine ⟨mmX12_feed, [some (.ref 137), some (.int (Int32.ofInt a1)), some (.int (Int32.ofInt a2)), some (.int (Int32.ofInt a3)), some (.int (Int32.ofInt a4)), some (.int (Int32.ofInt a5)), none, none], rfl, rfl, ?_⟩
  have bz0 := mz_rd hI bd_137_30
  have bz1 := mz_rd hI bd_137_15
  have hpv := p1
  refine mm_g 2 (pc1 := 2) (lo1 := [some (.ref 137), some (.int (Int32.ofInt a1)), some (.int (Int32.ofInt a2)), some (.int (Int32.ofInt a3)), some (.int (Int32.ofInt a4)), some (.int (Int32.ofInt a5)), none, none]) (st1 := [.int (Int32.ofInt 0), .ref 137]) (H1 := mz_mk g x) rfl ?_
  refine mz_pI rfl fd_12_154 (sc_137 _) hI bd_137_2 (by omega) (by omega) (fun g1 hIg1 hug1 => ?_)
  refine mm_g 1 (pc1 := 6) (lo1 := [some (.ref 137), some (.int (Int32.ofInt a1)), some (.int (Int32.ofInt a2)), some (.int (Int32.ofInt a3)), some (.int (Int32.ofInt a4)), some (.int (Int32.ofInt a5)), none, none]) (st1 := [.ref 137]) (H1 := mz_mk g1 x) rfl ?_
  refine mz_fgI (v := (g 137 15)) rfl fd_12_161 (by decide) (sc_137 _) (show g1 137 15 = (g 137 15) from ((hug1.2 137 15 (fun h => absurd h.2 (by decide))).trans rfl)) ?_
  refine mz_bip rfl bip_20 ?_
  refine mz_iadd rfl ?_
  refine mz_sip rfl sip_700 ?_
  refine mz_ic_le (tgt := 20) rfl rfl ⟨by omega, by omega⟩ ⟨by decide, by decide⟩ (fun c15_1 => ?_) (fun c15_1 => ?_)
  · skip
    refine mm_g 2 (pc1 := 23) (lo1 := [some (.ref 137), some (.int (Int32.ofInt a1)), some (.int (Int32.ofInt a2)), some (.int (Int32.ofInt a3)), some (.int (Int32.ofInt a4)), some (.int (Int32.ofInt a5)), some (.int (Int32.ofInt 0)), none]) (st1 := []) (H1 := mz_mk g1 x) rfl ?_
    have L7 : ∀ n6 : Nat, ∀ (v2 : Int) (o3 : Option Value) (g4 : mz_G), (20 - v2).toNat = n6 → 0 ≤ v2 → v2 ≤ 20 → mz_nl o3 → mz_inv g4 → mz_fr (fl_X12_feed_23 x a1 a2 a3 a4 a5) g1 g4 → (g4 137 15 = g 137 15 + v2) → mm_W d mmX12_feed 23 [some (.ref 137), some (.int (Int32.ofInt a1)), some (.int (Int32.ofInt a2)), some (.int (Int32.ofInt a3)), some (.int (Int32.ofInt a4)), some (.int (Int32.ofInt a5)), some (.int (Int32.ofInt v2)), o3] [] (mz_mk g4 x) Q := by
      intro n6
      induction n6 using Nat.strongRecOn with
      | ind n6 ih5 =>
      intro v2 o3 g4 hmn6 l_v2 u_v2 h_o3 hIg4 hfg4 hv8
      have bz_g4_15 := mz_rd hIg4 bd_137_15
      refine mm_g 1 (pc1 := 25) (lo1 := [some (.ref 137), some (.int (Int32.ofInt a1)), some (.int (Int32.ofInt a2)), some (.int (Int32.ofInt a3)), some (.int (Int32.ofInt a4)), some (.int (Int32.ofInt a5)), some (.int (Int32.ofInt v2)), o3]) (st1 := [.int (Int32.ofInt v2)]) (H1 := mz_mk g4 x) rfl ?_
      refine mz_bip rfl bip_20 ?_
      refine mz_ic_ge (tgt := 120) rfl rfl (mz_rg l_v2 u_v2) ⟨by decide, by decide⟩ (fun c27_8 => ?_) (fun c27_8 => ?_)
      · skip
        refine mm_g 1 (pc1 := 121) (lo1 := [some (.ref 137), some (.int (Int32.ofInt a1)), some (.int (Int32.ofInt a2)), some (.int (Int32.ofInt a3)), some (.int (Int32.ofInt a4)), some (.int (Int32.ofInt a5)), some (.int (Int32.ofInt v2)), o3]) (st1 := [.ref 137]) (H1 := mz_mk g4 x) rfl ?_
        refine mz_fgI (v := (g 137 15 + v2)) rfl fd_12_161 (by decide) (sc_137 _) hv8 ?_
        exact mm_rt rfl rfl (hQ _ _ hIg4 (fun k j hk => ((hfg4 k j (fun h => hk (Or.elim h (fun h => (Or.inr (Or.inl h))) (fun h => (Or.inr (Or.inr h)))))).trans (hug1.2 k j (fun h => hk (Or.inl h))))) (by omega) (by omega) (by have h9 := (show g4 137 30 = (g 137 30) from ((hfg4 137 30 (fun h => (Or.elim h (fun h => (absurd (show 137 = 151 from h) (by decide))) (fun h => (absurd (show (137 = 137 ∧ 30 = 15) from h) (by decide)))))).trans ((hug1.2 137 30 (fun h => absurd h.2 (by decide))).trans rfl))); omega) (by have h9 := hv8; omega))
      · skip
        refine mm_g 2 (pc1 := 33) (lo1 := [some (.ref 137), some (.int (Int32.ofInt a1)), some (.int (Int32.ofInt a2)), some (.int (Int32.ofInt a3)), some (.int (Int32.ofInt a4)), some (.int (Int32.ofInt a5)), some (.int (Int32.ofInt v2)), o3]) (st1 := [.int (Int32.ofInt 4), .int (Int32.ofInt v2)]) (H1 := mz_mk g4 x) rfl ?_
        refine mz_ic_ge (tgt := 40) rfl rfl (mz_rg l_v2 u_v2) ⟨by decide, by decide⟩ (fun c33_8 => ?_) (fun c33_8 => ?_)
        · skip
          refine mm_g 1 (pc1 := 42) (lo1 := [some (.ref 137), some (.int (Int32.ofInt a1)), some (.int (Int32.ofInt a2)), some (.int (Int32.ofInt a3)), some (.int (Int32.ofInt a4)), some (.int (Int32.ofInt a5)), some (.int (Int32.ofInt v2)), o3]) (st1 := [.int (Int32.ofInt v2)]) (H1 := mz_mk g4 x) rfl ?_
          refine mz_bip rfl bip_8 ?_
          refine mz_ic_ge (tgt := 51) rfl rfl (mz_rg l_v2 u_v2) ⟨by decide, by decide⟩ (fun c44_8 => ?_) (fun c44_8 => ?_)
          · skip
            refine mm_g 1 (pc1 := 53) (lo1 := [some (.ref 137), some (.int (Int32.ofInt a1)), some (.int (Int32.ofInt a2)), some (.int (Int32.ofInt a3)), some (.int (Int32.ofInt a4)), some (.int (Int32.ofInt a5)), some (.int (Int32.ofInt v2)), o3]) (st1 := [.int (Int32.ofInt v2)]) (H1 := mz_mk g4 x) rfl ?_
            refine mz_bip rfl bip_12 ?_
            refine mz_ic_ge (tgt := 62) rfl rfl (mz_rg l_v2 u_v2) ⟨by decide, by decide⟩ (fun c55_8 => ?_) (fun c55_8 => ?_)
            · skip
              refine mm_g 1 (pc1 := 64) (lo1 := [some (.ref 137), some (.int (Int32.ofInt a1)), some (.int (Int32.ofInt a2)), some (.int (Int32.ofInt a3)), some (.int (Int32.ofInt a4)), some (.int (Int32.ofInt a5)), some (.int (Int32.ofInt v2)), o3]) (st1 := [.int (Int32.ofInt v2)]) (H1 := mz_mk g4 x) rfl ?_
              refine mz_bip rfl bip_16 ?_
              refine mz_ic_ge (tgt := 74) rfl rfl (mz_rg l_v2 u_v2) ⟨by decide, by decide⟩ (fun c66_8 => ?_) (fun c66_8 => ?_)
              · skip
                refine mm_g 3 (pc1 := 79) (lo1 := [some (.ref 137), some (.int (Int32.ofInt a1)), some (.int (Int32.ofInt a2)), some (.int (Int32.ofInt a3)), some (.int (Int32.ofInt a4)), some (.int (Int32.ofInt a5)), some (.int (Int32.ofInt v2)), some (.int (Int32.ofInt a5))]) (st1 := [.ref 137]) (H1 := mz_mk g4 x) rfl ?_
                refine mz_fgR (v := 151) rfl fd_12_69 (by decide) (sc_137 _) (rf_137_14 _ _ _) ?_
                refine mm_g 1 (pc1 := 83) (lo1 := [some (.ref 137), some (.int (Int32.ofInt a1)), some (.int (Int32.ofInt a2)), some (.int (Int32.ofInt a3)), some (.int (Int32.ofInt a4)), some (.int (Int32.ofInt a5)), some (.int (Int32.ofInt v2)), some (.int (Int32.ofInt a5))]) (st1 := [.ref 137, .ref 151]) (H1 := mz_mk g4 x) rfl ?_
                refine mz_fgI (v := (g 137 15 + v2)) rfl fd_12_161 (by decide) (sc_137 _) hv8 ?_
                refine mm_g 1 (pc1 := 88) (lo1 := [some (.ref 137), some (.int (Int32.ofInt a1)), some (.int (Int32.ofInt a2)), some (.int (Int32.ofInt a3)), some (.int (Int32.ofInt a4)), some (.int (Int32.ofInt a5)), some (.int (Int32.ofInt v2)), some (.int (Int32.ofInt a5))]) (st1 := [.int (Int32.ofInt a5), .int (Int32.ofInt (g 137 15 + v2)), .ref 151]) (H1 := mz_mk g4 x) rfl ?_
                refine mz_bip rfl bip_24 ?_
                refine mz_bip rfl bip_8 ?_
                refine mm_g 2 (pc1 := 95) (lo1 := [some (.ref 137), some (.int (Int32.ofInt a1)), some (.int (Int32.ofInt a2)), some (.int (Int32.ofInt a3)), some (.int (Int32.ofInt a4)), some (.int (Int32.ofInt a5)), some (.int (Int32.ofInt v2)), some (.int (Int32.ofInt a5))]) (st1 := [.int (Int32.ofInt 4), .int (Int32.ofInt v2), .int (Int32.ofInt 8), .int (Int32.ofInt 24), .int (Int32.ofInt a5), .int (Int32.ofInt (g 137 15 + v2)), .ref 151]) (H1 := mz_mk g4 x) rfl ?_
                refine mz_iremq rfl (mz_rg l_v2 u_v2) ⟨by decide, by decide⟩ (by omega) (by omega) (fun v9 e_v9 l_v9 w_v9 z_v9 => ?_)
                have u_v9 : v9 ≤ 3 := by omega
                refine mz_imul rfl ?_
                refine mz_isub rfl ?_
                refine mz_ishr rfl (fun v10 e_v10 hwv10 => ?_)
                have l_v10 := hwv10.1
                have u_v10 := hwv10.2
                refine mz_sip rfl sip_255 ?_
                refine mz_iand rfl (fun v11 e_v11 hwv11 => ?_)
                have b_v11 : 0 ≤ v11 ∧ v11 ≤ 255 := by rw [e_v11]; exact mz_and_r (by omega) (by omega) (mz_rg l_v10 u_v10)
                have l_v11 := b_v11.1
                have u_v11 := b_v11.2
                refine mz_sI rfl (sh_151 _) (by omega) (by omega) (by decide) hIg4 (ba_151 _) (by omega) (by omega) (fun g12 hIg12 hug12 => ?_)
                refine mm_g 2 (pc1 := 106) (lo1 := [some (.ref 137), some (.int (Int32.ofInt a1)), some (.int (Int32.ofInt a2)), some (.int (Int32.ofInt a3)), some (.int (Int32.ofInt a4)), some (.int (Int32.ofInt a5)), some (.int (Int32.ofInt v2)), some (.int (Int32.ofInt a5))]) (st1 := [.ref 137, .ref 137]) (H1 := mz_mk g12 x) rfl ?_
                refine mz_fgI (v := (g 137 15 + v2)) rfl fd_12_161 (by decide) (sc_137 _) (show g12 137 15 = (g 137 15 + v2) from ((hug12.2 137 15 (fun h => absurd h.1 (by decide))).trans hv8)) ?_
                refine mm_g 1 (pc1 := 110) (lo1 := [some (.ref 137), some (.int (Int32.ofInt a1)), some (.int (Int32.ofInt a2)), some (.int (Int32.ofInt a3)), some (.int (Int32.ofInt a4)), some (.int (Int32.ofInt a5)), some (.int (Int32.ofInt v2)), some (.int (Int32.ofInt a5))]) (st1 := [.int (Int32.ofInt 1), .int (Int32.ofInt (g 137 15 + v2)), .ref 137]) (H1 := mz_mk g12 x) rfl ?_
                refine mz_iadd rfl ?_
                refine mz_pI rfl fd_12_161 (sc_137 _) hIg12 bd_137_15 (by omega) (by omega) (fun g13 hIg13 hug13 => ?_)
                refine mz_iincR (v := v2) (lo2 := [some (.ref 137), some (.int (Int32.ofInt a1)), some (.int (Int32.ofInt a2)), some (.int (Int32.ofInt a3)), some (.int (Int32.ofInt a4)), some (.int (Int32.ofInt a5)), some (.int (Int32.ofInt (v2 + 1))), some (.int (Int32.ofInt a5))]) rfl rfl rfl (Nat.le_of_ble_eq_true rfl) rfl ?_
                refine mz_gt (tgt := 23) rfl rfl ?_
                exact ih5 ((20 - (v2 + 1)).toNat) (by omega) (v2 + 1) (some (.int (Int32.ofInt a5))) g13 rfl (by omega) (by omega) (mz_nl_i _) hIg13 (fun k j hk => ((hug13.2 k j (fun h => hk (Or.inr h))).trans ((hug12.2 k j (fun h => hk (Or.inl h.1))).trans (hfg4 k j (fun h => hk (Or.elim h (fun h => (Or.inl h)) (fun h => (Or.inr h)))))))) (by have h9 := (show g13 137 15 = ((g 137 15 + v2) + 1) from hug13.1); omega)
              · skip
                refine mm_g 1 (pc1 := 71) (lo1 := [some (.ref 137), some (.int (Int32.ofInt a1)), some (.int (Int32.ofInt a2)), some (.int (Int32.ofInt a3)), some (.int (Int32.ofInt a4)), some (.int (Int32.ofInt a5)), some (.int (Int32.ofInt v2)), o3]) (st1 := [.int (Int32.ofInt a4)]) (H1 := mz_mk g4 x) rfl ?_
                refine mz_gt (tgt := 76) rfl rfl ?_
                refine mm_g 2 (pc1 := 79) (lo1 := [some (.ref 137), some (.int (Int32.ofInt a1)), some (.int (Int32.ofInt a2)), some (.int (Int32.ofInt a3)), some (.int (Int32.ofInt a4)), some (.int (Int32.ofInt a5)), some (.int (Int32.ofInt v2)), some (.int (Int32.ofInt a4))]) (st1 := [.ref 137]) (H1 := mz_mk g4 x) rfl ?_
                refine mz_fgR (v := 151) rfl fd_12_69 (by decide) (sc_137 _) (rf_137_14 _ _ _) ?_
                refine mm_g 1 (pc1 := 83) (lo1 := [some (.ref 137), some (.int (Int32.ofInt a1)), some (.int (Int32.ofInt a2)), some (.int (Int32.ofInt a3)), some (.int (Int32.ofInt a4)), some (.int (Int32.ofInt a5)), some (.int (Int32.ofInt v2)), some (.int (Int32.ofInt a4))]) (st1 := [.ref 137, .ref 151]) (H1 := mz_mk g4 x) rfl ?_
                refine mz_fgI (v := (g 137 15 + v2)) rfl fd_12_161 (by decide) (sc_137 _) hv8 ?_
                refine mm_g 1 (pc1 := 88) (lo1 := [some (.ref 137), some (.int (Int32.ofInt a1)), some (.int (Int32.ofInt a2)), some (.int (Int32.ofInt a3)), some (.int (Int32.ofInt a4)), some (.int (Int32.ofInt a5)), some (.int (Int32.ofInt v2)), some (.int (Int32.ofInt a4))]) (st1 := [.int (Int32.ofInt a4), .int (Int32.ofInt (g 137 15 + v2)), .ref 151]) (H1 := mz_mk g4 x) rfl ?_
                refine mz_bip rfl bip_24 ?_
                refine mz_bip rfl bip_8 ?_
                refine mm_g 2 (pc1 := 95) (lo1 := [some (.ref 137), some (.int (Int32.ofInt a1)), some (.int (Int32.ofInt a2)), some (.int (Int32.ofInt a3)), some (.int (Int32.ofInt a4)), some (.int (Int32.ofInt a5)), some (.int (Int32.ofInt v2)), some (.int (Int32.ofInt a4))]) (st1 := [.int (Int32.ofInt 4), .int (Int32.ofInt v2), .int (Int32.ofInt 8), .int (Int32.ofInt 24), .int (Int32.ofInt a4), .int (Int32.ofInt (g 137 15 + v2)), .ref 151]) (H1 := mz_mk g4 x) rfl ?_
                refine mz_iremq rfl (mz_rg l_v2 u_v2) ⟨by decide, by decide⟩ (by omega) (by omega) (fun v14 e_v14 l_v14 w_v14 z_v14 => ?_)
                have u_v14 : v14 ≤ 3 := by omega
                refine mz_imul rfl ?_
                refine mz_isub rfl ?_
                refine mz_ishr rfl (fun v15 e_v15 hwv15 => ?_)
                have l_v15 := hwv15.1
                have u_v15 := hwv15.2
                refine mz_sip rfl sip_255 ?_
                refine mz_iand rfl (fun v16 e_v16 hwv16 => ?_)
                have b_v16 : 0 ≤ v16 ∧ v16 ≤ 255 := by rw [e_v16]; exact mz_and_r (by omega) (by omega) (mz_rg l_v15 u_v15)
                have l_v16 := b_v16.1
                have u_v16 := b_v16.2
                refine mz_sI rfl (sh_151 _) (by omega) (by omega) (by decide) hIg4 (ba_151 _) (by omega) (by omega) (fun g17 hIg17 hug17 => ?_)
                refine mm_g 2 (pc1 := 106) (lo1 := [some (.ref 137), some (.int (Int32.ofInt a1)), some (.int (Int32.ofInt a2)), some (.int (Int32.ofInt a3)), some (.int (Int32.ofInt a4)), some (.int (Int32.ofInt a5)), some (.int (Int32.ofInt v2)), some (.int (Int32.ofInt a4))]) (st1 := [.ref 137, .ref 137]) (H1 := mz_mk g17 x) rfl ?_
                refine mz_fgI (v := (g 137 15 + v2)) rfl fd_12_161 (by decide) (sc_137 _) (show g17 137 15 = (g 137 15 + v2) from ((hug17.2 137 15 (fun h => absurd h.1 (by decide))).trans hv8)) ?_
                refine mm_g 1 (pc1 := 110) (lo1 := [some (.ref 137), some (.int (Int32.ofInt a1)), some (.int (Int32.ofInt a2)), some (.int (Int32.ofInt a3)), some (.int (Int32.ofInt a4)), some (.int (Int32.ofInt a5)), some (.int (Int32.ofInt v2)), some (.int (Int32.ofInt a4))]) (st1 := [.int (Int32.ofInt 1), .int (Int32.ofInt (g 137 15 + v2)), .ref 137]) (H1 := mz_mk g17 x) rfl ?_
                refine mz_iadd rfl ?_
                refine mz_pI rfl fd_12_161 (sc_137 _) hIg17 bd_137_15 (by omega) (by omega) (fun g18 hIg18 hug18 => ?_)
                refine mz_iincR (v := v2) (lo2 := [some (.ref 137), some (.int (Int32.ofInt a1)), some (.int (Int32.ofInt a2)), some (.int (Int32.ofInt a3)), some (.int (Int32.ofInt a4)), some (.int (Int32.ofInt a5)), some (.int (Int32.ofInt (v2 + 1))), some (.int (Int32.ofInt a4))]) rfl rfl rfl (Nat.le_of_ble_eq_true rfl) rfl ?_
                refine mz_gt (tgt := 23) rfl rfl ?_
                exact ih5 ((20 - (v2 + 1)).toNat) (by omega) (v2 + 1) (some (.int (Int32.ofInt a4))) g18 rfl (by omega) (by omega) (mz_nl_i _) hIg18 (fun k j hk => ((hug18.2 k j (fun h => hk (Or.inr h))).trans ((hug17.2 k j (fun h => hk (Or.inl h.1))).trans (hfg4 k j (fun h => hk (Or.elim h (fun h => (Or.inl h)) (fun h => (Or.inr h)))))))) (by have h9 := (show g18 137 15 = ((g 137 15 + v2) + 1) from hug18.1); omega)
            · skip
              refine mm_g 1 (pc1 := 59) (lo1 := [some (.ref 137), some (.int (Int32.ofInt a1)), some (.int (Int32.ofInt a2)), some (.int (Int32.ofInt a3)), some (.int (Int32.ofInt a4)), some (.int (Int32.ofInt a5)), some (.int (Int32.ofInt v2)), o3]) (st1 := [.int (Int32.ofInt a3)]) (H1 := mz_mk g4 x) rfl ?_
              refine mz_gt (tgt := 76) rfl rfl ?_
              refine mm_g 2 (pc1 := 79) (lo1 := [some (.ref 137), some (.int (Int32.ofInt a1)), some (.int (Int32.ofInt a2)), some (.int (Int32.ofInt a3)), some (.int (Int32.ofInt a4)), some (.int (Int32.ofInt a5)), some (.int (Int32.ofInt v2)), some (.int (Int32.ofInt a3))]) (st1 := [.ref 137]) (H1 := mz_mk g4 x) rfl ?_
              refine mz_fgR (v := 151) rfl fd_12_69 (by decide) (sc_137 _) (rf_137_14 _ _ _) ?_
              refine mm_g 1 (pc1 := 83) (lo1 := [some (.ref 137), some (.int (Int32.ofInt a1)), some (.int (Int32.ofInt a2)), some (.int (Int32.ofInt a3)), some (.int (Int32.ofInt a4)), some (.int (Int32.ofInt a5)), some (.int (Int32.ofInt v2)), some (.int (Int32.ofInt a3))]) (st1 := [.ref 137, .ref 151]) (H1 := mz_mk g4 x) rfl ?_
              refine mz_fgI (v := (g 137 15 + v2)) rfl fd_12_161 (by decide) (sc_137 _) hv8 ?_
              refine mm_g 1 (pc1 := 88) (lo1 := [some (.ref 137), some (.int (Int32.ofInt a1)), some (.int (Int32.ofInt a2)), some (.int (Int32.ofInt a3)), some (.int (Int32.ofInt a4)), some (.int (Int32.ofInt a5)), some (.int (Int32.ofInt v2)), some (.int (Int32.ofInt a3))]) (st1 := [.int (Int32.ofInt a3), .int (Int32.ofInt (g 137 15 + v2)), .ref 151]) (H1 := mz_mk g4 x) rfl ?_
              refine mz_bip rfl bip_24 ?_
              refine mz_bip rfl bip_8 ?_
              refine mm_g 2 (pc1 := 95) (lo1 := [some (.ref 137), some (.int (Int32.ofInt a1)), some (.int (Int32.ofInt a2)), some (.int (Int32.ofInt a3)), some (.int (Int32.ofInt a4)), some (.int (Int32.ofInt a5)), some (.int (Int32.ofInt v2)), some (.int (Int32.ofInt a3))]) (st1 := [.int (Int32.ofInt 4), .int (Int32.ofInt v2), .int (Int32.ofInt 8), .int (Int32.ofInt 24), .int (Int32.ofInt a3), .int (Int32.ofInt (g 137 15 + v2)), .ref 151]) (H1 := mz_mk g4 x) rfl ?_
              refine mz_iremq rfl (mz_rg l_v2 u_v2) ⟨by decide, by decide⟩ (by omega) (by omega) (fun v19 e_v19 l_v19 w_v19 z_v19 => ?_)
              have u_v19 : v19 ≤ 3 := by omega
              refine mz_imul rfl ?_
              refine mz_isub rfl ?_
              refine mz_ishr rfl (fun v20 e_v20 hwv20 => ?_)
              have l_v20 := hwv20.1
              have u_v20 := hwv20.2
              refine mz_sip rfl sip_255 ?_
              refine mz_iand rfl (fun v21 e_v21 hwv21 => ?_)
              have b_v21 : 0 ≤ v21 ∧ v21 ≤ 255 := by rw [e_v21]; exact mz_and_r (by omega) (by omega) (mz_rg l_v20 u_v20)
              have l_v21 := b_v21.1
              have u_v21 := b_v21.2
              refine mz_sI rfl (sh_151 _) (by omega) (by omega) (by decide) hIg4 (ba_151 _) (by omega) (by omega) (fun g22 hIg22 hug22 => ?_)
              refine mm_g 2 (pc1 := 106) (lo1 := [some (.ref 137), some (.int (Int32.ofInt a1)), some (.int (Int32.ofInt a2)), some (.int (Int32.ofInt a3)), some (.int (Int32.ofInt a4)), some (.int (Int32.ofInt a5)), some (.int (Int32.ofInt v2)), some (.int (Int32.ofInt a3))]) (st1 := [.ref 137, .ref 137]) (H1 := mz_mk g22 x) rfl ?_
              refine mz_fgI (v := (g 137 15 + v2)) rfl fd_12_161 (by decide) (sc_137 _) (show g22 137 15 = (g 137 15 + v2) from ((hug22.2 137 15 (fun h => absurd h.1 (by decide))).trans hv8)) ?_
              refine mm_g 1 (pc1 := 110) (lo1 := [some (.ref 137), some (.int (Int32.ofInt a1)), some (.int (Int32.ofInt a2)), some (.int (Int32.ofInt a3)), some (.int (Int32.ofInt a4)), some (.int (Int32.ofInt a5)), some (.int (Int32.ofInt v2)), some (.int (Int32.ofInt a3))]) (st1 := [.int (Int32.ofInt 1), .int (Int32.ofInt (g 137 15 + v2)), .ref 137]) (H1 := mz_mk g22 x) rfl ?_
              refine mz_iadd rfl ?_
              refine mz_pI rfl fd_12_161 (sc_137 _) hIg22 bd_137_15 (by omega) (by omega) (fun g23 hIg23 hug23 => ?_)
              refine mz_iincR (v := v2) (lo2 := [some (.ref 137), some (.int (Int32.ofInt a1)), some (.int (Int32.ofInt a2)), some (.int (Int32.ofInt a3)), some (.int (Int32.ofInt a4)), some (.int (Int32.ofInt a5)), some (.int (Int32.ofInt (v2 + 1))), some (.int (Int32.ofInt a3))]) rfl rfl rfl (Nat.le_of_ble_eq_true rfl) rfl ?_
              refine mz_gt (tgt := 23) rfl rfl ?_
              exact ih5 ((20 - (v2 + 1)).toNat) (by omega) (v2 + 1) (some (.int (Int32.ofInt a3))) g23 rfl (by omega) (by omega) (mz_nl_i _) hIg23 (fun k j hk => ((hug23.2 k j (fun h => hk (Or.inr h))).trans ((hug22.2 k j (fun h => hk (Or.inl h.1))).trans (hfg4 k j (fun h => hk (Or.elim h (fun h => (Or.inl h)) (fun h => (Or.inr h)))))))) (by have h9 := (show g23 137 15 = ((g 137 15 + v2) + 1) from hug23.1); omega)
          · skip
            refine mm_g 1 (pc1 := 48) (lo1 := [some (.ref 137), some (.int (Int32.ofInt a1)), some (.int (Int32.ofInt a2)), some (.int (Int32.ofInt a3)), some (.int (Int32.ofInt a4)), some (.int (Int32.ofInt a5)), some (.int (Int32.ofInt v2)), o3]) (st1 := [.int (Int32.ofInt a2)]) (H1 := mz_mk g4 x) rfl ?_
            refine mz_gt (tgt := 76) rfl rfl ?_
            refine mm_g 2 (pc1 := 79) (lo1 := [some (.ref 137), some (.int (Int32.ofInt a1)), some (.int (Int32.ofInt a2)), some (.int (Int32.ofInt a3)), some (.int (Int32.ofInt a4)), some (.int (Int32.ofInt a5)), some (.int (Int32.ofInt v2)), some (.int (Int32.ofInt a2))]) (st1 := [.ref 137]) (H1 := mz_mk g4 x) rfl ?_
            refine mz_fgR (v := 151) rfl fd_12_69 (by decide) (sc_137 _) (rf_137_14 _ _ _) ?_
            refine mm_g 1 (pc1 := 83) (lo1 := [some (.ref 137), some (.int (Int32.ofInt a1)), some (.int (Int32.ofInt a2)), some (.int (Int32.ofInt a3)), some (.int (Int32.ofInt a4)), some (.int (Int32.ofInt a5)), some (.int (Int32.ofInt v2)), some (.int (Int32.ofInt a2))]) (st1 := [.ref 137, .ref 151]) (H1 := mz_mk g4 x) rfl ?_
            refine mz_fgI (v := (g 137 15 + v2)) rfl fd_12_161 (by decide) (sc_137 _) hv8 ?_
            refine mm_g 1 (pc1 := 88) (lo1 := [some (.ref 137), some (.int (Int32.ofInt a1)), some (.int (Int32.ofInt a2)), some (.int (Int32.ofInt a3)), some (.int (Int32.ofInt a4)), some (.int (Int32.ofInt a5)), some (.int (Int32.ofInt v2)), some (.int (Int32.ofInt a2))]) (st1 := [.int (Int32.ofInt a2), .int (Int32.ofInt (g 137 15 + v2)), .ref 151]) (H1 := mz_mk g4 x) rfl ?_
            refine mz_bip rfl bip_24 ?_
            refine mz_bip rfl bip_8 ?_
            refine mm_g 2 (pc1 := 95) (lo1 := [some (.ref 137), some (.int (Int32.ofInt a1)), some (.int (Int32.ofInt a2)), some (.int (Int32.ofInt a3)), some (.int (Int32.ofInt a4)), some (.int (Int32.ofInt a5)), some (.int (Int32.ofInt v2)), some (.int (Int32.ofInt a2))]) (st1 := [.int (Int32.ofInt 4), .int (Int32.ofInt v2), .int (Int32.ofInt 8), .int (Int32.ofInt 24), .int (Int32.ofInt a2), .int (Int32.ofInt (g 137 15 + v2)), .ref 151]) (H1 := mz_mk g4 x) rfl ?_
            refine mz_iremq rfl (mz_rg l_v2 u_v2) ⟨by decide, by decide⟩ (by omega) (by omega) (fun v24 e_v24 l_v24 w_v24 z_v24 => ?_)
            have u_v24 : v24 ≤ 3 := by omega
            refine mz_imul rfl ?_
            refine mz_isub rfl ?_
            refine mz_ishr rfl (fun v25 e_v25 hwv25 => ?_)
            have l_v25 := hwv25.1
            have u_v25 := hwv25.2
            refine mz_sip rfl sip_255 ?_
            refine mz_iand rfl (fun v26 e_v26 hwv26 => ?_)
            have b_v26 : 0 ≤ v26 ∧ v26 ≤ 255 := by rw [e_v26]; exact mz_and_r (by omega) (by omega) (mz_rg l_v25 u_v25)
            have l_v26 := b_v26.1
            have u_v26 := b_v26.2
            refine mz_sI rfl (sh_151 _) (by omega) (by omega) (by decide) hIg4 (ba_151 _) (by omega) (by omega) (fun g27 hIg27 hug27 => ?_)
            refine mm_g 2 (pc1 := 106) (lo1 := [some (.ref 137), some (.int (Int32.ofInt a1)), some (.int (Int32.ofInt a2)), some (.int (Int32.ofInt a3)), some (.int (Int32.ofInt a4)), some (.int (Int32.ofInt a5)), some (.int (Int32.ofInt v2)), some (.int (Int32.ofInt a2))]) (st1 := [.ref 137, .ref 137]) (H1 := mz_mk g27 x) rfl ?_
            refine mz_fgI (v := (g 137 15 + v2)) rfl fd_12_161 (by decide) (sc_137 _) (show g27 137 15 = (g 137 15 + v2) from ((hug27.2 137 15 (fun h => absurd h.1 (by decide))).trans hv8)) ?_
            refine mm_g 1 (pc1 := 110) (lo1 := [some (.ref 137), some (.int (Int32.ofInt a1)), some (.int (Int32.ofInt a2)), some (.int (Int32.ofInt a3)), some (.int (Int32.ofInt a4)), some (.int (Int32.ofInt a5)), some (.int (Int32.ofInt v2)), some (.int (Int32.ofInt a2))]) (st1 := [.int (Int32.ofInt 1), .int (Int32.ofInt (g 137 15 + v2)), .ref 137]) (H1 := mz_mk g27 x) rfl ?_
            refine mz_iadd rfl ?_
            refine mz_pI rfl fd_12_161 (sc_137 _) hIg27 bd_137_15 (by omega) (by omega) (fun g28 hIg28 hug28 => ?_)
            refine mz_iincR (v := v2) (lo2 := [some (.ref 137), some (.int (Int32.ofInt a1)), some (.int (Int32.ofInt a2)), some (.int (Int32.ofInt a3)), some (.int (Int32.ofInt a4)), some (.int (Int32.ofInt a5)), some (.int (Int32.ofInt (v2 + 1))), some (.int (Int32.ofInt a2))]) rfl rfl rfl (Nat.le_of_ble_eq_true rfl) rfl ?_
            refine mz_gt (tgt := 23) rfl rfl ?_
            exact ih5 ((20 - (v2 + 1)).toNat) (by omega) (v2 + 1) (some (.int (Int32.ofInt a2))) g28 rfl (by omega) (by omega) (mz_nl_i _) hIg28 (fun k j hk => ((hug28.2 k j (fun h => hk (Or.inr h))).trans ((hug27.2 k j (fun h => hk (Or.inl h.1))).trans (hfg4 k j (fun h => hk (Or.elim h (fun h => (Or.inl h)) (fun h => (Or.inr h)))))))) (by have h9 := (show g28 137 15 = ((g 137 15 + v2) + 1) from hug28.1); omega)
        · skip
          refine mm_g 1 (pc1 := 37) (lo1 := [some (.ref 137), some (.int (Int32.ofInt a1)), some (.int (Int32.ofInt a2)), some (.int (Int32.ofInt a3)), some (.int (Int32.ofInt a4)), some (.int (Int32.ofInt a5)), some (.int (Int32.ofInt v2)), o3]) (st1 := [.int (Int32.ofInt a1)]) (H1 := mz_mk g4 x) rfl ?_
          refine mz_gt (tgt := 76) rfl rfl ?_
          refine mm_g 2 (pc1 := 79) (lo1 := [some (.ref 137), some (.int (Int32.ofInt a1)), some (.int (Int32.ofInt a2)), some (.int (Int32.ofInt a3)), some (.int (Int32.ofInt a4)), some (.int (Int32.ofInt a5)), some (.int (Int32.ofInt v2)), some (.int (Int32.ofInt a1))]) (st1 := [.ref 137]) (H1 := mz_mk g4 x) rfl ?_
          refine mz_fgR (v := 151) rfl fd_12_69 (by decide) (sc_137 _) (rf_137_14 _ _ _) ?_
          refine mm_g 1 (pc1 := 83) (lo1 := [some (.ref 137), some (.int (Int32.ofInt a1)), some (.int (Int32.ofInt a2)), some (.int (Int32.ofInt a3)), some (.int (Int32.ofInt a4)), some (.int (Int32.ofInt a5)), some (.int (Int32.ofInt v2)), some (.int (Int32.ofInt a1))]) (st1 := [.ref 137, .ref 151]) (H1 := mz_mk g4 x) rfl ?_
          refine mz_fgI (v := (g 137 15 + v2)) rfl fd_12_161 (by decide) (sc_137 _) hv8 ?_
          refine mm_g 1 (pc1 := 88) (lo1 := [some (.ref 137), some (.int (Int32.ofInt a1)), some (.int (Int32.ofInt a2)), some (.int (Int32.ofInt a3)), some (.int (Int32.ofInt a4)), some (.int (Int32.ofInt a5)), some (.int (Int32.ofInt v2)), some (.int (Int32.ofInt a1))]) (st1 := [.int (Int32.ofInt a1), .int (Int32.ofInt (g 137 15 + v2)), .ref 151]) (H1 := mz_mk g4 x) rfl ?_
          refine mz_bip rfl bip_24 ?_
          refine mz_bip rfl bip_8 ?_
          refine mm_g 2 (pc1 := 95) (lo1 := [some (.ref 137), some (.int (Int32.ofInt a1)), some (.int (Int32.ofInt a2)), some (.int (Int32.ofInt a3)), some (.int (Int32.ofInt a4)), some (.int (Int32.ofInt a5)), some (.int (Int32.ofInt v2)), some (.int (Int32.ofInt a1))]) (st1 := [.int (Int32.ofInt 4), .int (Int32.ofInt v2), .int (Int32.ofInt 8), .int (Int32.ofInt 24), .int (Int32.ofInt a1), .int (Int32.ofInt (g 137 15 + v2)), .ref 151]) (H1 := mz_mk g4 x) rfl ?_
          refine mz_iremq rfl (mz_rg l_v2 u_v2) ⟨by decide, by decide⟩ (by omega) (by omega) (fun v29 e_v29 l_v29 w_v29 z_v29 => ?_)
          have u_v29 : v29 ≤ 3 := by omega
          refine mz_imul rfl ?_
          refine mz_isub rfl ?_
          refine mz_ishr rfl (fun v30 e_v30 hwv30 => ?_)
          have l_v30 := hwv30.1
          have u_v30 := hwv30.2
          refine mz_sip rfl sip_255 ?_
          refine mz_iand rfl (fun v31 e_v31 hwv31 => ?_)
          have b_v31 : 0 ≤ v31 ∧ v31 ≤ 255 := by rw [e_v31]; exact mz_and_r (by omega) (by omega) (mz_rg l_v30 u_v30)
          have l_v31 := b_v31.1
          have u_v31 := b_v31.2
          refine mz_sI rfl (sh_151 _) (by omega) (by omega) (by decide) hIg4 (ba_151 _) (by omega) (by omega) (fun g32 hIg32 hug32 => ?_)
          refine mm_g 2 (pc1 := 106) (lo1 := [some (.ref 137), some (.int (Int32.ofInt a1)), some (.int (Int32.ofInt a2)), some (.int (Int32.ofInt a3)), some (.int (Int32.ofInt a4)), some (.int (Int32.ofInt a5)), some (.int (Int32.ofInt v2)), some (.int (Int32.ofInt a1))]) (st1 := [.ref 137, .ref 137]) (H1 := mz_mk g32 x) rfl ?_
          refine mz_fgI (v := (g 137 15 + v2)) rfl fd_12_161 (by decide) (sc_137 _) (show g32 137 15 = (g 137 15 + v2) from ((hug32.2 137 15 (fun h => absurd h.1 (by decide))).trans hv8)) ?_
          refine mm_g 1 (pc1 := 110) (lo1 := [some (.ref 137), some (.int (Int32.ofInt a1)), some (.int (Int32.ofInt a2)), some (.int (Int32.ofInt a3)), some (.int (Int32.ofInt a4)), some (.int (Int32.ofInt a5)), some (.int (Int32.ofInt v2)), some (.int (Int32.ofInt a1))]) (st1 := [.int (Int32.ofInt 1), .int (Int32.ofInt (g 137 15 + v2)), .ref 137]) (H1 := mz_mk g32 x) rfl ?_
          refine mz_iadd rfl ?_
          refine mz_pI rfl fd_12_161 (sc_137 _) hIg32 bd_137_15 (by omega) (by omega) (fun g33 hIg33 hug33 => ?_)
          refine mz_iincR (v := v2) (lo2 := [some (.ref 137), some (.int (Int32.ofInt a1)), some (.int (Int32.ofInt a2)), some (.int (Int32.ofInt a3)), some (.int (Int32.ofInt a4)), some (.int (Int32.ofInt a5)), some (.int (Int32.ofInt (v2 + 1))), some (.int (Int32.ofInt a1))]) rfl rfl rfl (Nat.le_of_ble_eq_true rfl) rfl ?_
          refine mz_gt (tgt := 23) rfl rfl ?_
          exact ih5 ((20 - (v2 + 1)).toNat) (by omega) (v2 + 1) (some (.int (Int32.ofInt a1))) g33 rfl (by omega) (by omega) (mz_nl_i _) hIg33 (fun k j hk => ((hug33.2 k j (fun h => hk (Or.inr h))).trans ((hug32.2 k j (fun h => hk (Or.inl h.1))).trans (hfg4 k j (fun h => hk (Or.elim h (fun h => (Or.inl h)) (fun h => (Or.inr h)))))))) (by have h9 := (show g33 137 15 = ((g 137 15 + v2) + 1) from hug33.1); omega)
    exact L7 _ 0 none g1 rfl (by decide) (by decide) mz_nl_n hIg1 (fun _ _ _ => rfl) (by have h9 := (show g1 137 15 = (g 137 15) from ((hug1.2 137 15 (fun h => absurd h.2 (by decide))).trans rfl)); omega)
  · skip
    refine mm_g 1 (pc1 := 19) (lo1 := [some (.ref 137), some (.int (Int32.ofInt a1)), some (.int (Int32.ofInt a2)), some (.int (Int32.ofInt a3)), some (.int (Int32.ofInt a4)), some (.int (Int32.ofInt a5)), none, none]) (st1 := [.int (Int32.ofInt (-1))]) (H1 := mz_mk g1 x) rfl ?_
    exact mm_rt rfl rfl (hQ _ _ hIg1 (fun k j hk => (hug1.2 k j (fun h => hk (Or.inl h)))) (by decide) (by decide) (by have h9 := (show g1 137 30 = (g 137 30) from ((hug1.2 137 30 (fun h => absurd h.2 (by decide))).trans rfl)); omega) (by have h9 := (show g1 137 15 = (g 137 15) from ((hug1.2 137 15 (fun h => absurd h.2 (by decide))).trans rfl)); omega))
theorem c_X12_byteAt {d : Nat} (hd : 1 ≤ d) {x : mm_X} (hx : mk_x x) {g : mz_G} (hI : mz_inv g) {a1 : Int} (l_a1 : 0 ≤ a1) (u_a1 : a1 ≤ 700) {Q : (Option Value ⊕ Nat) → mm_H → Prop} (hQ : ∀ (r : Int), (-1) ≤ r → r ≤ 255 → (r = mz_byte g a1) → ((r = -1 ↔ g 137 17 ≤ a1)) → Q (.inl (some (.int (Int32.ofInt r)))) (mz_mk g x)) : mm_C d 188 [.ref 137, .int (Int32.ofInt a1)] (mz_mk g x) Q := by
  refine ⟨mmX12_byteAt, [some (.ref 137), some (.int (Int32.ofInt a1))], rfl, rfl, ?_⟩
  have bz0 := mz_rd hI bd_137_17
  refine mm_g 2 (pc1 := 2) (lo1 := [some (.ref 137), some (.int (Int32.ofInt a1))]) (st1 := [.ref 137, .int (Int32.ofInt a1)]) (H1 := mz_mk g x) rfl ?_
  refine mz_fgI (v := (g 137 17)) rfl fd_12_164 (by decide) (sc_137 _) (show g 137 17 = (g 137 17) from rfl) ?_
  refine mz_ic_ge (tgt := 17) rfl rfl (mz_rg l_a1 u_a1) ⟨by omega, by omega⟩ (fun c5_0 => ?_) (fun c5_0 => ?_)
  · skip
    refine mm_g 1 (pc1 := 18) (lo1 := [some (.ref 137), some (.int (Int32.ofInt a1))]) (st1 := [.int (Int32.ofInt (-1))]) (H1 := mz_mk g x) rfl ?_
    exact mm_rt rfl rfl (hQ _ (by decide) (by decide) (by unfold mz_byte; first | (rw [if_pos (by omega)]; omega) | (rw [if_neg (by omega)])) (by omega))
  · skip
    refine mm_g 1 (pc1 := 9) (lo1 := [some (.ref 137), some (.int (Int32.ofInt a1))]) (st1 := [.ref 137]) (H1 := mz_mk g x) rfl ?_
    refine mz_fgR (v := 151) rfl fd_12_69 (by decide) (sc_137 _) (rf_137_14 _ _ _) ?_
    refine mm_g 1 (pc1 := 13) (lo1 := [some (.ref 137), some (.int (Int32.ofInt a1))]) (st1 := [.int (Int32.ofInt a1), .ref 151]) (H1 := mz_mk g x) rfl ?_
    refine mz_aI rfl (sh_151 _) (by omega) (by omega) (by decide) hI (ba_151 _) (fun v1 e_v1 l_v1 u_v1 => ?_)
    refine mz_gt (tgt := 18) rfl rfl ?_
    exact mm_rt rfl rfl (hQ _ (by omega) (by omega) (by unfold mz_byte; first | (rw [if_pos (by omega)]; omega) | (rw [if_neg (by omega)])) (by omega))
theorem c_X12_isLetter {d : Nat} (hd : 1 ≤ d) {x : mm_X} (hx : mk_x x) {g : mz_G} (hI : mz_inv g) {a1 : Int} (l_a1 : (-2147483648) ≤ a1) (u_a1 : a1 ≤ 2147483647) {Q : (Option Value ⊕ Nat) → mm_H → Prop} (hQ : ∀ (r : Int), 0 ≤ r → r ≤ 1 → (r = 1 ↔ (97 ≤ a1 ∧ a1 ≤ 122)) → Q (.inl (some (.int (Int32.ofInt r)))) (mz_mk g x)) : mm_C d 189 [.int (Int32.ofInt a1)] (mz_mk g x) Q := by
  refine ⟨mmX12_isLetter, [some (.int (Int32.ofInt a1))], rfl, rfl, ?_⟩
  refine mm_g 1 (pc1 := 1) (lo1 := [some (.int (Int32.ofInt a1))]) (st1 := [.int (Int32.ofInt a1)]) (H1 := mz_mk g x) rfl ?_
  refine mz_bip rfl bip_97 ?_
  refine mz_ic_lt (tgt := 16) rfl rfl (mz_rg l_a1 u_a1) ⟨by decide, by decide⟩ (fun c3_0 => ?_) (fun c3_0 => ?_)
  · skip
    refine mm_g 1 (pc1 := 17) (lo1 := [some (.int (Int32.ofInt a1))]) (st1 := [.int (Int32.ofInt 0)]) (H1 := mz_mk g x) rfl ?_
    exact mz_rtZ rfl (by decide) (by omega) (hQ _ (by decide) (by decide) (by omega))
  · skip
    refine mm_g 1 (pc1 := 7) (lo1 := [some (.int (Int32.ofInt a1))]) (st1 := [.int (Int32.ofInt a1)]) (H1 := mz_mk g x) rfl ?_
    refine mz_bip rfl bip_122 ?_
    refine mz_ic_gt (tgt := 16) rfl rfl (mz_rg l_a1 u_a1) ⟨by decide, by decide⟩ (fun c9_0 => ?_) (fun c9_0 => ?_)
    · skip
      refine mm_g 1 (pc1 := 17) (lo1 := [some (.int (Int32.ofInt a1))]) (st1 := [.int (Int32.ofInt 0)]) (H1 := mz_mk g x) rfl ?_
      exact mz_rtZ rfl (by decide) (by omega) (hQ _ (by decide) (by decide) (by omega))
    · skip
      refine mm_g 1 (pc1 := 13) (lo1 := [some (.int (Int32.ofInt a1))]) (st1 := [.int (Int32.ofInt 1)]) (H1 := mz_mk g x) rfl ?_
      refine mz_gt (tgt := 17) rfl rfl ?_
      exact mz_rtZ rfl (by decide) (by omega) (hQ _ (by decide) (by decide) (by omega))
theorem c_X12_isDigit {d : Nat} (hd : 1 ≤ d) {x : mm_X} (hx : mk_x x) {g : mz_G} (hI : mz_inv g) {a1 : Int} (l_a1 : (-2147483648) ≤ a1) (u_a1 : a1 ≤ 2147483647) {Q : (Option Value ⊕ Nat) → mm_H → Prop} (hQ : ∀ (r : Int), 0 ≤ r → r ≤ 1 → (r = 1 ↔ (48 ≤ a1 ∧ a1 ≤ 57)) → Q (.inl (some (.int (Int32.ofInt r)))) (mz_mk g x)) : mm_C d 190 [.int (Int32.ofInt a1)] (mz_mk g x) Q := by
  refine ⟨mmX12_isDigit, [some (.int (Int32.ofInt a1))], rfl, rfl, ?_⟩
  refine mm_g 1 (pc1 := 1) (lo1 := [some (.int (Int32.ofInt a1))]) (st1 := [.int (Int32.ofInt a1)]) (H1 := mz_mk g x) rfl ?_
  refine mz_bip rfl bip_48 ?_
  refine mz_ic_lt (tgt := 16) rfl rfl (mz_rg l_a1 u_a1) ⟨by decide, by decide⟩ (fun c3_0 => ?_) (fun c3_0 => ?_)
  · skip
    refine mm_g 1 (pc1 := 17) (lo1 := [some (.int (Int32.ofInt a1))]) (st1 := [.int (Int32.ofInt 0)]) (H1 := mz_mk g x) rfl ?_
    exact mz_rtZ rfl (by decide) (by omega) (hQ _ (by decide) (by decide) (by omega))
  · skip
    refine mm_g 1 (pc1 := 7) (lo1 := [some (.int (Int32.ofInt a1))]) (st1 := [.int (Int32.ofInt a1)]) (H1 := mz_mk g x) rfl ?_
    refine mz_bip rfl bip_57 ?_
    refine mz_ic_gt (tgt := 16) rfl rfl (mz_rg l_a1 u_a1) ⟨by decide, by decide⟩ (fun c9_0 => ?_) (fun c9_0 => ?_)
    · skip
      refine mm_g 1 (pc1 := 17) (lo1 := [some (.int (Int32.ofInt a1))]) (st1 := [.int (Int32.ofInt 0)]) (H1 := mz_mk g x) rfl ?_
      exact mz_rtZ rfl (by decide) (by omega) (hQ _ (by decide) (by decide) (by omega))
    · skip
      refine mm_g 1 (pc1 := 13) (lo1 := [some (.int (Int32.ofInt a1))]) (st1 := [.int (Int32.ofInt 1)]) (H1 := mz_mk g x) rfl ?_
      refine mz_gt (tgt := 17) rfl rfl ?_
      exact mz_rtZ rfl (by decide) (by omega) (hQ _ (by decide) (by decide) (by omega))
theorem c_X12_isMark {d : Nat} (hd : 1 ≤ d) {x : mm_X} (hx : mk_x x) {g : mz_G} (hI : mz_inv g) {a1 : Int} (l_a1 : (-2147483648) ≤ a1) (u_a1 : a1 ≤ 2147483647) {Q : (Option Value ⊕ Nat) → mm_H → Prop} (hQ : ∀ (r : Int), 0 ≤ r → r ≤ 1 → Q (.inl (some (.int (Int32.ofInt r)))) (mz_mk g x)) : mm_C d 191 [.int (Int32.ofInt a1)] (mz_mk g x) Q := by
  refine ⟨mmX12_isMark, [some (.int (Int32.ofInt a1))], rfl, rfl, ?_⟩
  refine mm_g 1 (pc1 := 1) (lo1 := [some (.int (Int32.ofInt a1))]) (st1 := [.int (Int32.ofInt a1)]) (H1 := mz_mk g x) rfl ?_
  refine mz_bip rfl bip_59 ?_
  refine mz_ic_eq (tgt := 54) rfl rfl (mz_rg l_a1 u_a1) ⟨by decide, by decide⟩ (fun c3_0 => ?_) (fun c3_0 => ?_)
  · skip
    refine mm_g 1 (pc1 := 55) (lo1 := [some (.int (Int32.ofInt a1))]) (st1 := [.int (Int32.ofInt 1)]) (H1 := mz_mk g x) rfl ?_
    refine mz_gt (tgt := 59) rfl rfl ?_
    exact mz_rtZ rfl (by decide) (by omega) (hQ _ (by decide) (by decide))
  · skip
    refine mm_g 1 (pc1 := 7) (lo1 := [some (.int (Int32.ofInt a1))]) (st1 := [.int (Int32.ofInt a1)]) (H1 := mz_mk g x) rfl ?_
    refine mz_bip rfl bip_40 ?_
    refine mz_ic_eq (tgt := 54) rfl rfl (mz_rg l_a1 u_a1) ⟨by decide, by decide⟩ (fun c9_0 => ?_) (fun c9_0 => ?_)
    · skip
      refine mm_g 1 (pc1 := 55) (lo1 := [some (.int (Int32.ofInt a1))]) (st1 := [.int (Int32.ofInt 1)]) (H1 := mz_mk g x) rfl ?_
      refine mz_gt (tgt := 59) rfl rfl ?_
      exact mz_rtZ rfl (by decide) (by omega) (hQ _ (by decide) (by decide))
    · skip
      refine mm_g 1 (pc1 := 13) (lo1 := [some (.int (Int32.ofInt a1))]) (st1 := [.int (Int32.ofInt a1)]) (H1 := mz_mk g x) rfl ?_
      refine mz_bip rfl bip_41 ?_
      refine mz_ic_eq (tgt := 54) rfl rfl (mz_rg l_a1 u_a1) ⟨by decide, by decide⟩ (fun c15_0 => ?_) (fun c15_0 => ?_)
      · skip
        refine mm_g 1 (pc1 := 55) (lo1 := [some (.int (Int32.ofInt a1))]) (st1 := [.int (Int32.ofInt 1)]) (H1 := mz_mk g x) rfl ?_
        refine mz_gt (tgt := 59) rfl rfl ?_
        exact mz_rtZ rfl (by decide) (by omega) (hQ _ (by decide) (by decide))
      · skip
        refine mm_g 1 (pc1 := 19) (lo1 := [some (.int (Int32.ofInt a1))]) (st1 := [.int (Int32.ofInt a1)]) (H1 := mz_mk g x) rfl ?_
        refine mz_bip rfl bip_43 ?_
        refine mz_ic_eq (tgt := 54) rfl rfl (mz_rg l_a1 u_a1) ⟨by decide, by decide⟩ (fun c21_0 => ?_) (fun c21_0 => ?_)
        · skip
          refine mm_g 1 (pc1 := 55) (lo1 := [some (.int (Int32.ofInt a1))]) (st1 := [.int (Int32.ofInt 1)]) (H1 := mz_mk g x) rfl ?_
          refine mz_gt (tgt := 59) rfl rfl ?_
          exact mz_rtZ rfl (by decide) (by omega) (hQ _ (by decide) (by decide))
        · skip
          refine mm_g 1 (pc1 := 25) (lo1 := [some (.int (Int32.ofInt a1))]) (st1 := [.int (Int32.ofInt a1)]) (H1 := mz_mk g x) rfl ?_
          refine mz_bip rfl bip_45 ?_
          refine mz_ic_eq (tgt := 54) rfl rfl (mz_rg l_a1 u_a1) ⟨by decide, by decide⟩ (fun c27_0 => ?_) (fun c27_0 => ?_)
          · skip
            refine mm_g 1 (pc1 := 55) (lo1 := [some (.int (Int32.ofInt a1))]) (st1 := [.int (Int32.ofInt 1)]) (H1 := mz_mk g x) rfl ?_
            refine mz_gt (tgt := 59) rfl rfl ?_
            exact mz_rtZ rfl (by decide) (by omega) (hQ _ (by decide) (by decide))
          · skip
            refine mm_g 1 (pc1 := 31) (lo1 := [some (.int (Int32.ofInt a1))]) (st1 := [.int (Int32.ofInt a1)]) (H1 := mz_mk g x) rfl ?_
            refine mz_bip rfl bip_42 ?_
            refine mz_ic_eq (tgt := 54) rfl rfl (mz_rg l_a1 u_a1) ⟨by decide, by decide⟩ (fun c33_0 => ?_) (fun c33_0 => ?_)
            · skip
              refine mm_g 1 (pc1 := 55) (lo1 := [some (.int (Int32.ofInt a1))]) (st1 := [.int (Int32.ofInt 1)]) (H1 := mz_mk g x) rfl ?_
              refine mz_gt (tgt := 59) rfl rfl ?_
              exact mz_rtZ rfl (by decide) (by omega) (hQ _ (by decide) (by decide))
            · skip
              refine mm_g 1 (pc1 := 37) (lo1 := [some (.int (Int32.ofInt a1))]) (st1 := [.int (Int32.ofInt a1)]) (H1 := mz_mk g x) rfl ?_
              refine mz_bip rfl bip_47 ?_
              refine mz_ic_eq (tgt := 54) rfl rfl (mz_rg l_a1 u_a1) ⟨by decide, by decide⟩ (fun c39_0 => ?_) (fun c39_0 => ?_)
              · skip
                refine mm_g 1 (pc1 := 55) (lo1 := [some (.int (Int32.ofInt a1))]) (st1 := [.int (Int32.ofInt 1)]) (H1 := mz_mk g x) rfl ?_
                refine mz_gt (tgt := 59) rfl rfl ?_
                exact mz_rtZ rfl (by decide) (by omega) (hQ _ (by decide) (by decide))
              · skip
                refine mm_g 1 (pc1 := 43) (lo1 := [some (.int (Int32.ofInt a1))]) (st1 := [.int (Int32.ofInt a1)]) (H1 := mz_mk g x) rfl ?_
                refine mz_bip rfl bip_60 ?_
                refine mz_ic_eq (tgt := 54) rfl rfl (mz_rg l_a1 u_a1) ⟨by decide, by decide⟩ (fun c45_0 => ?_) (fun c45_0 => ?_)
                · skip
                  refine mm_g 1 (pc1 := 55) (lo1 := [some (.int (Int32.ofInt a1))]) (st1 := [.int (Int32.ofInt 1)]) (H1 := mz_mk g x) rfl ?_
                  refine mz_gt (tgt := 59) rfl rfl ?_
                  exact mz_rtZ rfl (by decide) (by omega) (hQ _ (by decide) (by decide))
                · skip
                  refine mm_g 1 (pc1 := 49) (lo1 := [some (.int (Int32.ofInt a1))]) (st1 := [.int (Int32.ofInt a1)]) (H1 := mz_mk g x) rfl ?_
                  refine mz_bip rfl bip_61 ?_
                  refine mz_ic_ne (tgt := 58) rfl rfl (mz_rg l_a1 u_a1) ⟨by decide, by decide⟩ (fun c51_0 => ?_) (fun c51_0 => ?_)
                  · skip
                    refine mm_g 1 (pc1 := 59) (lo1 := [some (.int (Int32.ofInt a1))]) (st1 := [.int (Int32.ofInt 0)]) (H1 := mz_mk g x) rfl ?_
                    exact mz_rtZ rfl (by decide) (by omega) (hQ _ (by decide) (by decide))
                  · skip
                    refine mm_g 1 (pc1 := 55) (lo1 := [some (.int (Int32.ofInt a1))]) (st1 := [.int (Int32.ofInt 1)]) (H1 := mz_mk g x) rfl ?_
                    refine mz_gt (tgt := 59) rfl rfl ?_
                    exact mz_rtZ rfl (by decide) (by omega) (hQ _ (by decide) (by decide))
def fl_X12_stepOn_0 (x : mm_X) : Nat → Nat → Prop := fun k j => (k = 137 ∧ j = 16)
def fl_X12_stepOn_123 (x : mm_X) : Nat → Nat → Prop := fun k j => (k = 137 ∧ j = 19) ∨ (k = 137 ∧ j = 16)
def fl_X12_stepOn_76 (x : mm_X) : Nat → Nat → Prop := fun k j => (k = 137 ∧ j = 16)
def fw_X12_stepOn (x : mm_X) : Nat → Nat → Prop := fun k j => (k = 137 ∧ j = 16) ∨ (k = 137 ∧ j = 20) ∨ (k = 137 ∧ j = 18) ∨ (k = 137 ∧ j = 21) ∨ (k = 137 ∧ j = 19)
theorem c_X12_stepOn {d : Nat} (hd : 12 ≤ d) {x : mm_X} (hx : mk_x x) {g : mz_G} (hI : mz_inv g) (p1 : g 137 16 ≤ g 137 17) {Q : (Option Value ⊕ Nat) → mm_H → Prop} (hQ : ∀ (g1 : mz_G), mz_inv g1 → mz_fr (fw_X12_stepOn x) g g1 → (g1 137 20 ≤ g1 137 16 ∧ g1 137 21 = g1 137 16 ∧ g1 137 16 ≤ g1 137 17 ∧ (g1 137 18 ≠ 0 → g1 137 20 < g1 137 16)) → (g 137 16 ≤ g1 137 20) → Q (.inl none) (mz_mk g1 x)) : mm_C d 192 [.ref 137] (mz_mk g x) Q := by
  refine ⟨mmX12_stepOn, [some (.ref 137), none], rfl, rfl, ?_⟩
  have bz0 := mz_rd hI bd_137_16
  have bz1 := mz_rd hI bd_137_17
  have bz2 := mz_rd hI bd_137_18
  have bz3 := mz_rd hI bd_137_20
  have bz4 := mz_rd hI bd_137_21
  have bz5 := mz_rd hI bd_137_22
  have L4 : ∀ n3 : Nat, ∀ (g1 : mz_G), (701 - g1 137 16).toNat = n3 → mz_inv g1 → mz_fr (fl_X12_stepOn_0 x) g g1 → (g1 137 16 ≤ g 137 17) → (g 137 16 ≤ g1 137 16) → mm_W d mmX12_stepOn 0 [some (.ref 137), none] [] (mz_mk g1 x) Q := by
    intro n3
    induction n3 using Nat.strongRecOn with
    | ind n3 ih2 =>
    intro g1 hmn3 hIg1 hfg1 hv5 hv6
    have bz_g1_16 := mz_rd hIg1 bd_137_16
    refine mm_g 2 (pc1 := 2) (lo1 := [some (.ref 137), none]) (st1 := [.ref 137, .ref 137]) (H1 := mz_mk g1 x) rfl ?_
    refine mz_fgI (v := (g1 137 16)) rfl fd_12_167 (by decide) (sc_137 _) (show g1 137 16 = (g1 137 16) from rfl) ?_
    have hq7 : g1 137 17 = (g 137 17) := (show g1 137 17 = (g 137 17) from ((hfg1 137 17 (fun h => (absurd (show (137 = 137 ∧ 17 = 16) from h) (by decide)))).trans rfl))
    refine mz_cv rfl mt_12_170 (by decide) (sc_137 _) rfl (Nat.le_of_ble_eq_true rfl) (by omega) (c_X12_byteAt (by omega) hx hIg1 (by omega) (by omega) (fun v8 l_v8 u_v8 hp9 hp10 => ⟨_, rfl, ?_⟩))
    show mm_W d mmX12_stepOn 8 [some (.ref 137), none] [.int (Int32.ofInt v8)] (mz_mk g1 x) Q
    refine mz_bip rfl bip_32 ?_
    refine mz_ic_eq (tgt := 26) rfl rfl (mz_rg l_v8 u_v8) ⟨by decide, by decide⟩ (fun c10_10 => ?_) (fun c10_10 => ?_)
    · skip
      refine mm_g 2 (pc1 := 28) (lo1 := [some (.ref 137), none]) (st1 := [.ref 137, .ref 137]) (H1 := mz_mk g1 x) rfl ?_
      refine mz_fgI (v := (g1 137 16)) rfl fd_12_167 (by decide) (sc_137 _) (show g1 137 16 = (g1 137 16) from rfl) ?_
      refine mm_g 1 (pc1 := 32) (lo1 := [some (.ref 137), none]) (st1 := [.int (Int32.ofInt 1), .int (Int32.ofInt (g1 137 16)), .ref 137]) (H1 := mz_mk g1 x) rfl ?_
      refine mz_iadd rfl ?_
      refine mz_pI rfl fd_12_167 (sc_137 _) hIg1 bd_137_16 (by omega) (by omega) (fun g11 hIg11 hug11 => ?_)
      refine mz_gt (tgt := 0) rfl rfl ?_
      exact ih2 ((701 - g11 137 16).toNat) (by have h9 := (show g11 137 16 = ((g1 137 16) + 1) from hug11.1); omega) g11 rfl hIg11 (fun k j hk => ((hug11.2 k j (fun h => hk h)).trans (hfg1 k j (fun h => hk h)))) (by have h90 := (show g11 137 16 = ((g1 137 16) + 1) from hug11.1); omega) (by have h90 := (show g11 137 16 = ((g1 137 16) + 1) from hug11.1); omega)
    · skip
      refine mm_g 2 (pc1 := 15) (lo1 := [some (.ref 137), none]) (st1 := [.ref 137, .ref 137]) (H1 := mz_mk g1 x) rfl ?_
      refine mz_fgI (v := (g1 137 16)) rfl fd_12_167 (by decide) (sc_137 _) (show g1 137 16 = (g1 137 16) from rfl) ?_
      have hq12 : g1 137 17 = (g 137 17) := (show g1 137 17 = (g 137 17) from ((hfg1 137 17 (fun h => (absurd (show (137 = 137 ∧ 17 = 16) from h) (by decide)))).trans rfl))
      refine mz_cv rfl mt_12_170 (by decide) (sc_137 _) rfl (Nat.le_of_ble_eq_true rfl) (by omega) (c_X12_byteAt (by omega) hx hIg1 (by omega) (by omega) (fun v13 l_v13 u_v13 hp14 hp15 => ⟨_, rfl, ?_⟩))
      show mm_W d mmX12_stepOn 21 [some (.ref 137), none] [.int (Int32.ofInt v13)] (mz_mk g1 x) Q
      refine mz_bip rfl bip_10 ?_
      refine mz_ic_ne (tgt := 39) rfl rfl (mz_rg l_v13 u_v13) ⟨by decide, by decide⟩ (fun c23_15 => ?_) (fun c23_15 => ?_)
      · skip
        refine mm_g 2 (pc1 := 41) (lo1 := [some (.ref 137), none]) (st1 := [.ref 137, .ref 137]) (H1 := mz_mk g1 x) rfl ?_
        refine mz_fgI (v := (g1 137 16)) rfl fd_12_167 (by decide) (sc_137 _) (show g1 137 16 = (g1 137 16) from rfl) ?_
        refine mz_pI rfl fd_12_174 (sc_137 _) hIg1 bd_137_20 (by omega) (by omega) (fun g16 hIg16 hug16 => ?_)
        refine mm_g 2 (pc1 := 49) (lo1 := [some (.ref 137), none]) (st1 := [.ref 137, .ref 137]) (H1 := mz_mk g16 x) rfl ?_
        refine mz_fgI (v := (g1 137 16)) rfl fd_12_167 (by decide) (sc_137 _) (show g16 137 16 = (g1 137 16) from ((hug16.2 137 16 (fun h => absurd h.2 (by decide))).trans rfl)) ?_
        have hq17 : g16 137 17 = (g 137 17) := (show g16 137 17 = (g 137 17) from ((hug16.2 137 17 (fun h => absurd h.2 (by decide))).trans ((hfg1 137 17 (fun h => (absurd (show (137 = 137 ∧ 17 = 16) from h) (by decide)))).trans rfl)))
        refine mz_cv rfl mt_12_170 (by decide) (sc_137 _) rfl (Nat.le_of_ble_eq_true rfl) (by omega) (c_X12_byteAt (by omega) hx hIg16 (by omega) (by omega) (fun v18 l_v18 u_v18 hp19 hp20 => ⟨_, rfl, ?_⟩))
        show mm_W d mmX12_stepOn 55 [some (.ref 137), none] [.int (Int32.ofInt v18)] (mz_mk g16 x) Q
        refine mm_g 3 (pc1 := 58) (lo1 := [some (.ref 137), some (.int (Int32.ofInt v18))]) (st1 := [.int (Int32.ofInt (-1)), .int (Int32.ofInt v18)]) (H1 := mz_mk g16 x) rfl ?_
        refine mz_ic_ne (tgt := 69) rfl rfl (mz_rg l_v18 u_v18) ⟨by decide, by decide⟩ (fun c58_20 => ?_) (fun c58_20 => ?_)
        · skip
          refine mm_g 1 (pc1 := 70) (lo1 := [some (.ref 137), some (.int (Int32.ofInt v18))]) (st1 := [.int (Int32.ofInt v18)]) (H1 := mz_mk g16 x) rfl ?_
          refine mz_cs rfl mt_12_180 (by decide) rfl (Nat.le_of_ble_eq_true rfl) (by omega) (c_X12_isLetter (by omega) hx hIg16 (by omega) (by omega) (fun v21 l_v21 u_v21 hp22 => ⟨_, rfl, ?_⟩))
          show mm_W d mmX12_stepOn 73 [some (.ref 137), some (.int (Int32.ofInt v18))] [.int (Int32.ofInt v21)] (mz_mk g16 x) Q
          refine mz_if_eq (tgt := 111) rfl rfl (mz_rg l_v21 u_v21) (fun c73_22 => ?_) (fun c73_22 => ?_)
          · skip
            refine mm_g 1 (pc1 := 112) (lo1 := [some (.ref 137), some (.int (Int32.ofInt v18))]) (st1 := [.int (Int32.ofInt v18)]) (H1 := mz_mk g16 x) rfl ?_
            refine mz_cs rfl mt_12_184 (by decide) rfl (Nat.le_of_ble_eq_true rfl) (by omega) (c_X12_isDigit (by omega) hx hIg16 (by omega) (by omega) (fun v23 l_v23 u_v23 hp24 => ⟨_, rfl, ?_⟩))
            show mm_W d mmX12_stepOn 115 [some (.ref 137), some (.int (Int32.ofInt v18))] [.int (Int32.ofInt v23)] (mz_mk g16 x) Q
            refine mz_if_eq (tgt := 186) rfl rfl (mz_rg l_v23 u_v23) (fun c115_24 => ?_) (fun c115_24 => ?_)
            · skip
              refine mm_g 2 (pc1 := 188) (lo1 := [some (.ref 137), some (.int (Int32.ofInt v18))]) (st1 := [.ref 137, .ref 137]) (H1 := mz_mk g16 x) rfl ?_
              refine mz_fgI (v := (g1 137 16)) rfl fd_12_167 (by decide) (sc_137 _) (show g16 137 16 = (g1 137 16) from ((hug16.2 137 16 (fun h => absurd h.2 (by decide))).trans rfl)) ?_
              refine mm_g 1 (pc1 := 192) (lo1 := [some (.ref 137), some (.int (Int32.ofInt v18))]) (st1 := [.int (Int32.ofInt 1), .int (Int32.ofInt (g1 137 16)), .ref 137]) (H1 := mz_mk g16 x) rfl ?_
              refine mz_iadd rfl ?_
              refine mz_pI rfl fd_12_167 (sc_137 _) hIg16 bd_137_16 (by omega) (by omega) (fun g25 hIg25 hug25 => ?_)
              refine mm_g 2 (pc1 := 198) (lo1 := [some (.ref 137), some (.int (Int32.ofInt v18))]) (st1 := [.int (Int32.ofInt v18), .ref 137]) (H1 := mz_mk g25 x) rfl ?_
              refine mz_cs rfl mt_12_197 (by decide) rfl (Nat.le_of_ble_eq_true rfl) (by omega) (c_X12_isMark (by omega) hx hIg25 (by omega) (by omega) (fun v26 l_v26 u_v26 => ⟨_, rfl, ?_⟩))
              show mm_W d mmX12_stepOn 201 [some (.ref 137), some (.int (Int32.ofInt v18))] [.int (Int32.ofInt v26), .ref 137] (mz_mk g25 x) Q
              refine mz_if_eq (tgt := 208) rfl rfl (mz_rg l_v26 u_v26) (fun c201_26 => ?_) (fun c201_26 => ?_)
              · skip
                refine mm_g 1 (pc1 := 209) (lo1 := [some (.ref 137), some (.int (Int32.ofInt v18))]) (st1 := [.int (Int32.ofInt 4), .ref 137]) (H1 := mz_mk g25 x) rfl ?_
                refine mz_pI rfl fd_12_177 (sc_137 _) hIg25 bd_137_18 (by omega) (by omega) (fun g27 hIg27 hug27 => ?_)
                refine mm_g 2 (pc1 := 214) (lo1 := [some (.ref 137), some (.int (Int32.ofInt v18))]) (st1 := [.ref 137, .ref 137]) (H1 := mz_mk g27 x) rfl ?_
                refine mz_fgI (v := ((g1 137 16) + 1)) rfl fd_12_167 (by decide) (sc_137 _) (show g27 137 16 = ((g1 137 16) + 1) from ((hug27.2 137 16 (fun h => absurd h.2 (by decide))).trans hug25.1)) ?_
                refine mz_pI rfl fd_12_200 (sc_137 _) hIg27 bd_137_21 (by omega) (by omega) (fun g28 hIg28 hug28 => ?_)
                exact mm_rt rfl rfl (hQ _ hIg28 (fun k j hk => ((hug28.2 k j (fun h => hk (Or.inr (Or.inr (Or.inr (Or.inl h)))))).trans ((hug27.2 k j (fun h => hk (Or.inr (Or.inr (Or.inl h))))).trans ((hug25.2 k j (fun h => hk (Or.inl h))).trans ((hug16.2 k j (fun h => hk (Or.inr (Or.inl h)))).trans (hfg1 k j (fun h => hk (Or.inl h)))))))) (by have h90 := (show g28 137 16 = ((g1 137 16) + 1) from ((hug28.2 137 16 (fun h => absurd h.2 (by decide))).trans ((hug27.2 137 16 (fun h => absurd h.2 (by decide))).trans hug25.1))); have h91 := (show g28 137 17 = (g 137 17) from ((hug28.2 137 17 (fun h => absurd h.2 (by decide))).trans ((hug27.2 137 17 (fun h => absurd h.2 (by decide))).trans ((hug25.2 137 17 (fun h => absurd h.2 (by decide))).trans ((hug16.2 137 17 (fun h => absurd h.2 (by decide))).trans ((hfg1 137 17 (fun h => (absurd (show (137 = 137 ∧ 17 = 16) from h) (by decide)))).trans rfl)))))); have h92 := (show g28 137 18 = 4 from ((hug28.2 137 18 (fun h => absurd h.2 (by decide))).trans hug27.1)); have h93 := (show g28 137 20 = (g1 137 16) from ((hug28.2 137 20 (fun h => absurd h.2 (by decide))).trans ((hug27.2 137 20 (fun h => absurd h.2 (by decide))).trans ((hug25.2 137 20 (fun h => absurd h.2 (by decide))).trans hug16.1)))); have h94 := (show g28 137 21 = ((g1 137 16) + 1) from hug28.1); have h95 := (show g28 137 22 = (g 137 22) from ((hug28.2 137 22 (fun h => absurd h.2 (by decide))).trans ((hug27.2 137 22 (fun h => absurd h.2 (by decide))).trans ((hug25.2 137 22 (fun h => absurd h.2 (by decide))).trans ((hug16.2 137 22 (fun h => absurd h.2 (by decide))).trans ((hfg1 137 22 (fun h => (absurd (show (137 = 137 ∧ 22 = 16) from h) (by decide)))).trans rfl)))))); omega) (by have h90 := (show g28 137 16 = ((g1 137 16) + 1) from ((hug28.2 137 16 (fun h => absurd h.2 (by decide))).trans ((hug27.2 137 16 (fun h => absurd h.2 (by decide))).trans hug25.1))); have h91 := (show g28 137 17 = (g 137 17) from ((hug28.2 137 17 (fun h => absurd h.2 (by decide))).trans ((hug27.2 137 17 (fun h => absurd h.2 (by decide))).trans ((hug25.2 137 17 (fun h => absurd h.2 (by decide))).trans ((hug16.2 137 17 (fun h => absurd h.2 (by decide))).trans ((hfg1 137 17 (fun h => (absurd (show (137 = 137 ∧ 17 = 16) from h) (by decide)))).trans rfl)))))); have h92 := (show g28 137 18 = 4 from ((hug28.2 137 18 (fun h => absurd h.2 (by decide))).trans hug27.1)); have h93 := (show g28 137 20 = (g1 137 16) from ((hug28.2 137 20 (fun h => absurd h.2 (by decide))).trans ((hug27.2 137 20 (fun h => absurd h.2 (by decide))).trans ((hug25.2 137 20 (fun h => absurd h.2 (by decide))).trans hug16.1)))); have h94 := (show g28 137 21 = ((g1 137 16) + 1) from hug28.1); have h95 := (show g28 137 22 = (g 137 22) from ((hug28.2 137 22 (fun h => absurd h.2 (by decide))).trans ((hug27.2 137 22 (fun h => absurd h.2 (by decide))).trans ((hug25.2 137 22 (fun h => absurd h.2 (by decide))).trans ((hug16.2 137 22 (fun h => absurd h.2 (by decide))).trans ((hfg1 137 22 (fun h => (absurd (show (137 = 137 ∧ 22 = 16) from h) (by decide)))).trans rfl)))))); omega))
              · skip
                refine mm_g 1 (pc1 := 205) (lo1 := [some (.ref 137), some (.int (Int32.ofInt v18))]) (st1 := [.int (Int32.ofInt 3), .ref 137]) (H1 := mz_mk g25 x) rfl ?_
                refine mz_gt (tgt := 209) rfl rfl ?_
                refine mz_pI rfl fd_12_177 (sc_137 _) hIg25 bd_137_18 (by omega) (by omega) (fun g29 hIg29 hug29 => ?_)
                refine mm_g 2 (pc1 := 214) (lo1 := [some (.ref 137), some (.int (Int32.ofInt v18))]) (st1 := [.ref 137, .ref 137]) (H1 := mz_mk g29 x) rfl ?_
                refine mz_fgI (v := ((g1 137 16) + 1)) rfl fd_12_167 (by decide) (sc_137 _) (show g29 137 16 = ((g1 137 16) + 1) from ((hug29.2 137 16 (fun h => absurd h.2 (by decide))).trans hug25.1)) ?_
                refine mz_pI rfl fd_12_200 (sc_137 _) hIg29 bd_137_21 (by omega) (by omega) (fun g30 hIg30 hug30 => ?_)
                exact mm_rt rfl rfl (hQ _ hIg30 (fun k j hk => ((hug30.2 k j (fun h => hk (Or.inr (Or.inr (Or.inr (Or.inl h)))))).trans ((hug29.2 k j (fun h => hk (Or.inr (Or.inr (Or.inl h))))).trans ((hug25.2 k j (fun h => hk (Or.inl h))).trans ((hug16.2 k j (fun h => hk (Or.inr (Or.inl h)))).trans (hfg1 k j (fun h => hk (Or.inl h)))))))) (by have h90 := (show g30 137 16 = ((g1 137 16) + 1) from ((hug30.2 137 16 (fun h => absurd h.2 (by decide))).trans ((hug29.2 137 16 (fun h => absurd h.2 (by decide))).trans hug25.1))); have h91 := (show g30 137 17 = (g 137 17) from ((hug30.2 137 17 (fun h => absurd h.2 (by decide))).trans ((hug29.2 137 17 (fun h => absurd h.2 (by decide))).trans ((hug25.2 137 17 (fun h => absurd h.2 (by decide))).trans ((hug16.2 137 17 (fun h => absurd h.2 (by decide))).trans ((hfg1 137 17 (fun h => (absurd (show (137 = 137 ∧ 17 = 16) from h) (by decide)))).trans rfl)))))); have h92 := (show g30 137 18 = 3 from ((hug30.2 137 18 (fun h => absurd h.2 (by decide))).trans hug29.1)); have h93 := (show g30 137 20 = (g1 137 16) from ((hug30.2 137 20 (fun h => absurd h.2 (by decide))).trans ((hug29.2 137 20 (fun h => absurd h.2 (by decide))).trans ((hug25.2 137 20 (fun h => absurd h.2 (by decide))).trans hug16.1)))); have h94 := (show g30 137 21 = ((g1 137 16) + 1) from hug30.1); have h95 := (show g30 137 22 = (g 137 22) from ((hug30.2 137 22 (fun h => absurd h.2 (by decide))).trans ((hug29.2 137 22 (fun h => absurd h.2 (by decide))).trans ((hug25.2 137 22 (fun h => absurd h.2 (by decide))).trans ((hug16.2 137 22 (fun h => absurd h.2 (by decide))).trans ((hfg1 137 22 (fun h => (absurd (show (137 = 137 ∧ 22 = 16) from h) (by decide)))).trans rfl)))))); omega) (by have h90 := (show g30 137 16 = ((g1 137 16) + 1) from ((hug30.2 137 16 (fun h => absurd h.2 (by decide))).trans ((hug29.2 137 16 (fun h => absurd h.2 (by decide))).trans hug25.1))); have h91 := (show g30 137 17 = (g 137 17) from ((hug30.2 137 17 (fun h => absurd h.2 (by decide))).trans ((hug29.2 137 17 (fun h => absurd h.2 (by decide))).trans ((hug25.2 137 17 (fun h => absurd h.2 (by decide))).trans ((hug16.2 137 17 (fun h => absurd h.2 (by decide))).trans ((hfg1 137 17 (fun h => (absurd (show (137 = 137 ∧ 17 = 16) from h) (by decide)))).trans rfl)))))); have h92 := (show g30 137 18 = 3 from ((hug30.2 137 18 (fun h => absurd h.2 (by decide))).trans hug29.1)); have h93 := (show g30 137 20 = (g1 137 16) from ((hug30.2 137 20 (fun h => absurd h.2 (by decide))).trans ((hug29.2 137 20 (fun h => absurd h.2 (by decide))).trans ((hug25.2 137 20 (fun h => absurd h.2 (by decide))).trans hug16.1)))); have h94 := (show g30 137 21 = ((g1 137 16) + 1) from hug30.1); have h95 := (show g30 137 22 = (g 137 22) from ((hug30.2 137 22 (fun h => absurd h.2 (by decide))).trans ((hug29.2 137 22 (fun h => absurd h.2 (by decide))).trans ((hug25.2 137 22 (fun h => absurd h.2 (by decide))).trans ((hug16.2 137 22 (fun h => absurd h.2 (by decide))).trans ((hfg1 137 22 (fun h => (absurd (show (137 = 137 ∧ 22 = 16) from h) (by decide)))).trans rfl)))))); omega))
            · skip
              refine mm_g 2 (pc1 := 120) (lo1 := [some (.ref 137), some (.int (Int32.ofInt v18))]) (st1 := [.int (Int32.ofInt 0), .ref 137]) (H1 := mz_mk g16 x) rfl ?_
              refine mz_pI rfl fd_12_187 (sc_137 _) hIg16 bd_137_19 (by omega) (by omega) (fun g31 hIg31 hug31 => ?_)
              have L35 : ∀ n34 : Nat, ∀ (g32 : mz_G), (701 - g32 137 16).toNat = n34 → mz_inv g32 → mz_fr (fl_X12_stepOn_123 x) g31 g32 → (g32 137 16 ≤ g 137 17) → (g 137 16 ≤ g32 137 16) → ((g1 137 16) ≤ g32 137 16) → (g32 137 16 = (g1 137 16) → mz_byte g32 (g32 137 16) = v18) → mm_W d mmX12_stepOn 123 [some (.ref 137), some (.int (Int32.ofInt v18))] [] (mz_mk g32 x) Q := by
                intro n34
                induction n34 using Nat.strongRecOn with
                | ind n34 ih33 =>
                intro g32 hmn34 hIg32 hfg32 hv36 hv37 hv38 hv39
                have bz_g32_16 := mz_rd hIg32 bd_137_16
                refine mm_g 2 (pc1 := 125) (lo1 := [some (.ref 137), some (.int (Int32.ofInt v18))]) (st1 := [.ref 137, .ref 137]) (H1 := mz_mk g32 x) rfl ?_
                refine mz_fgI (v := (g32 137 16)) rfl fd_12_167 (by decide) (sc_137 _) (show g32 137 16 = (g32 137 16) from rfl) ?_
                have hq40 : g32 137 17 = (g 137 17) := (show g32 137 17 = (g 137 17) from ((hfg32 137 17 (fun h => (Or.elim h (fun h => (absurd (show (137 = 137 ∧ 17 = 19) from h) (by decide))) (fun h => (absurd (show (137 = 137 ∧ 17 = 16) from h) (by decide)))))).trans ((hug31.2 137 17 (fun h => absurd h.2 (by decide))).trans ((hug16.2 137 17 (fun h => absurd h.2 (by decide))).trans ((hfg1 137 17 (fun h => (absurd (show (137 = 137 ∧ 17 = 16) from h) (by decide)))).trans rfl)))))
                refine mz_cv rfl mt_12_170 (by decide) (sc_137 _) rfl (Nat.le_of_ble_eq_true rfl) (by omega) (c_X12_byteAt (by omega) hx hIg32 (by omega) (by omega) (fun v41 l_v41 u_v41 hp42 hp43 => ⟨_, rfl, ?_⟩))
                show mm_W d mmX12_stepOn 131 [some (.ref 137), some (.int (Int32.ofInt v18))] [.int (Int32.ofInt v41)] (mz_mk g32 x) Q
                refine mz_cs rfl mt_12_184 (by decide) rfl (Nat.le_of_ble_eq_true rfl) (by omega) (c_X12_isDigit (by omega) hx hIg32 (by omega) (by omega) (fun v44 l_v44 u_v44 hp45 => ⟨_, rfl, ?_⟩))
                show mm_W d mmX12_stepOn 134 [some (.ref 137), some (.int (Int32.ofInt v18))] [.int (Int32.ofInt v44)] (mz_mk g32 x) Q
                refine mz_if_eq (tgt := 178) rfl rfl (mz_rg l_v44 u_v44) (fun c134_45 => ?_) (fun c134_45 => ?_)
                · skip
                  refine mm_g 2 (pc1 := 180) (lo1 := [some (.ref 137), some (.int (Int32.ofInt v18))]) (st1 := [.int (Int32.ofInt 2), .ref 137]) (H1 := mz_mk g32 x) rfl ?_
                  refine mz_pI rfl fd_12_177 (sc_137 _) hIg32 bd_137_18 (by omega) (by omega) (fun g46 hIg46 hug46 => ?_)
                  refine mz_gt (tgt := 212) rfl rfl ?_
                  refine mm_g 2 (pc1 := 214) (lo1 := [some (.ref 137), some (.int (Int32.ofInt v18))]) (st1 := [.ref 137, .ref 137]) (H1 := mz_mk g46 x) rfl ?_
                  refine mz_fgI (v := (g32 137 16)) rfl fd_12_167 (by decide) (sc_137 _) (show g46 137 16 = (g32 137 16) from ((hug46.2 137 16 (fun h => absurd h.2 (by decide))).trans rfl)) ?_
                  refine mz_pI rfl fd_12_200 (sc_137 _) hIg46 bd_137_21 (by omega) (by omega) (fun g47 hIg47 hug47 => ?_)
                  exact mm_rt rfl rfl (hQ _ hIg47 (fun k j hk => ((hug47.2 k j (fun h => hk (Or.inr (Or.inr (Or.inr (Or.inl h)))))).trans ((hug46.2 k j (fun h => hk (Or.inr (Or.inr (Or.inl h))))).trans ((hfg32 k j (fun h => hk (Or.elim h (fun h => (Or.inr (Or.inr (Or.inr (Or.inr h))))) (fun h => (Or.inl h))))).trans ((hug31.2 k j (fun h => hk (Or.inr (Or.inr (Or.inr (Or.inr h)))))).trans ((hug16.2 k j (fun h => hk (Or.inr (Or.inl h)))).trans (hfg1 k j (fun h => hk (Or.inl h))))))))) (by have h90 := (show g47 137 16 = (g32 137 16) from ((hug47.2 137 16 (fun h => absurd h.2 (by decide))).trans ((hug46.2 137 16 (fun h => absurd h.2 (by decide))).trans rfl))); have h91 := (show g47 137 17 = (g 137 17) from ((hug47.2 137 17 (fun h => absurd h.2 (by decide))).trans ((hug46.2 137 17 (fun h => absurd h.2 (by decide))).trans ((hfg32 137 17 (fun h => (Or.elim h (fun h => (absurd (show (137 = 137 ∧ 17 = 19) from h) (by decide))) (fun h => (absurd (show (137 = 137 ∧ 17 = 16) from h) (by decide)))))).trans ((hug31.2 137 17 (fun h => absurd h.2 (by decide))).trans ((hug16.2 137 17 (fun h => absurd h.2 (by decide))).trans ((hfg1 137 17 (fun h => (absurd (show (137 = 137 ∧ 17 = 16) from h) (by decide)))).trans rfl))))))); have h92 := (show g47 137 18 = 2 from ((hug47.2 137 18 (fun h => absurd h.2 (by decide))).trans hug46.1)); have h93 := (show g47 137 20 = (g1 137 16) from ((hug47.2 137 20 (fun h => absurd h.2 (by decide))).trans ((hug46.2 137 20 (fun h => absurd h.2 (by decide))).trans ((hfg32 137 20 (fun h => (Or.elim h (fun h => (absurd (show (137 = 137 ∧ 20 = 19) from h) (by decide))) (fun h => (absurd (show (137 = 137 ∧ 20 = 16) from h) (by decide)))))).trans ((hug31.2 137 20 (fun h => absurd h.2 (by decide))).trans hug16.1))))); have h94 := (show g47 137 21 = (g32 137 16) from hug47.1); have h95 := (show g47 137 22 = (g 137 22) from ((hug47.2 137 22 (fun h => absurd h.2 (by decide))).trans ((hug46.2 137 22 (fun h => absurd h.2 (by decide))).trans ((hfg32 137 22 (fun h => (Or.elim h (fun h => (absurd (show (137 = 137 ∧ 22 = 19) from h) (by decide))) (fun h => (absurd (show (137 = 137 ∧ 22 = 16) from h) (by decide)))))).trans ((hug31.2 137 22 (fun h => absurd h.2 (by decide))).trans ((hug16.2 137 22 (fun h => absurd h.2 (by decide))).trans ((hfg1 137 22 (fun h => (absurd (show (137 = 137 ∧ 22 = 16) from h) (by decide)))).trans rfl))))))); omega) (by have h90 := (show g47 137 16 = (g32 137 16) from ((hug47.2 137 16 (fun h => absurd h.2 (by decide))).trans ((hug46.2 137 16 (fun h => absurd h.2 (by decide))).trans rfl))); have h91 := (show g47 137 17 = (g 137 17) from ((hug47.2 137 17 (fun h => absurd h.2 (by decide))).trans ((hug46.2 137 17 (fun h => absurd h.2 (by decide))).trans ((hfg32 137 17 (fun h => (Or.elim h (fun h => (absurd (show (137 = 137 ∧ 17 = 19) from h) (by decide))) (fun h => (absurd (show (137 = 137 ∧ 17 = 16) from h) (by decide)))))).trans ((hug31.2 137 17 (fun h => absurd h.2 (by decide))).trans ((hug16.2 137 17 (fun h => absurd h.2 (by decide))).trans ((hfg1 137 17 (fun h => (absurd (show (137 = 137 ∧ 17 = 16) from h) (by decide)))).trans rfl))))))); have h92 := (show g47 137 18 = 2 from ((hug47.2 137 18 (fun h => absurd h.2 (by decide))).trans hug46.1)); have h93 := (show g47 137 20 = (g1 137 16) from ((hug47.2 137 20 (fun h => absurd h.2 (by decide))).trans ((hug46.2 137 20 (fun h => absurd h.2 (by decide))).trans ((hfg32 137 20 (fun h => (Or.elim h (fun h => (absurd (show (137 = 137 ∧ 20 = 19) from h) (by decide))) (fun h => (absurd (show (137 = 137 ∧ 20 = 16) from h) (by decide)))))).trans ((hug31.2 137 20 (fun h => absurd h.2 (by decide))).trans hug16.1))))); have h94 := (show g47 137 21 = (g32 137 16) from hug47.1); have h95 := (show g47 137 22 = (g 137 22) from ((hug47.2 137 22 (fun h => absurd h.2 (by decide))).trans ((hug46.2 137 22 (fun h => absurd h.2 (by decide))).trans ((hfg32 137 22 (fun h => (Or.elim h (fun h => (absurd (show (137 = 137 ∧ 22 = 19) from h) (by decide))) (fun h => (absurd (show (137 = 137 ∧ 22 = 16) from h) (by decide)))))).trans ((hug31.2 137 22 (fun h => absurd h.2 (by decide))).trans ((hug16.2 137 22 (fun h => absurd h.2 (by decide))).trans ((hfg1 137 22 (fun h => (absurd (show (137 = 137 ∧ 22 = 16) from h) (by decide)))).trans rfl))))))); omega))
                · skip
                  refine mm_g 1 (pc1 := 138) (lo1 := [some (.ref 137), some (.int (Int32.ofInt v18))]) (st1 := [.ref 137]) (H1 := mz_mk g32 x) rfl ?_
                  refine mz_ldcI (c := 100000) rfl rfl rfl ?_
                  refine mz_bip rfl bip_10 ?_
                  refine mm_g 1 (pc1 := 143) (lo1 := [some (.ref 137), some (.int (Int32.ofInt v18))]) (st1 := [.ref 137, .int (Int32.ofInt 10), .int (Int32.ofInt 100000), .ref 137]) (H1 := mz_mk g32 x) rfl ?_
                  refine mz_gI rfl fd_12_187 (by decide) (sc_137 _) hIg32 bd_137_19 (fun v48 e_v48 l_v48 u_v48 => ?_)
                  refine mz_imul_w rfl (fun v49 _ hwv49 => ?_)
                  have l_v49 := hwv49.1
                  have u_v49 := hwv49.2
                  refine mm_g 2 (pc1 := 149) (lo1 := [some (.ref 137), some (.int (Int32.ofInt v18))]) (st1 := [.ref 137, .ref 137, .int (Int32.ofInt v49), .int (Int32.ofInt 100000), .ref 137]) (H1 := mz_mk g32 x) rfl ?_
                  refine mz_fgI (v := (g32 137 16)) rfl fd_12_167 (by decide) (sc_137 _) (show g32 137 16 = (g32 137 16) from rfl) ?_
                  have hq50 : g32 137 17 = (g 137 17) := (show g32 137 17 = (g 137 17) from ((hfg32 137 17 (fun h => (Or.elim h (fun h => (absurd (show (137 = 137 ∧ 17 = 19) from h) (by decide))) (fun h => (absurd (show (137 = 137 ∧ 17 = 16) from h) (by decide)))))).trans ((hug31.2 137 17 (fun h => absurd h.2 (by decide))).trans ((hug16.2 137 17 (fun h => absurd h.2 (by decide))).trans ((hfg1 137 17 (fun h => (absurd (show (137 = 137 ∧ 17 = 16) from h) (by decide)))).trans rfl)))))
                  refine mz_cv rfl mt_12_170 (by decide) (sc_137 _) rfl (Nat.le_of_ble_eq_true rfl) (by omega) (c_X12_byteAt (by omega) hx hIg32 (by omega) (by omega) (fun v51 l_v51 u_v51 hp52 hp53 => ⟨_, rfl, ?_⟩))
                  show mm_W d mmX12_stepOn 155 [some (.ref 137), some (.int (Int32.ofInt v18))] [.int (Int32.ofInt v51), .int (Int32.ofInt v49), .int (Int32.ofInt 100000), .ref 137] (mz_mk g32 x) Q
                  refine mz_iadd_w rfl (fun v54 _ hwv54 => ?_)
                  have l_v54 := hwv54.1
                  have u_v54 := hwv54.2
                  refine mz_bip rfl bip_48 ?_
                  refine mz_isub_w rfl (fun v55 _ hwv55 => ?_)
                  have l_v55 := hwv55.1
                  have u_v55 := hwv55.2
                  refine mz_mn rfl mt_12_191 (Nat.le_of_ble_eq_true rfl) (by omega) ⟨by decide, by decide⟩ (mz_rg l_v55 u_v55) (fun v56 e_v56 => ?_)
                  have l_v56 : (-2147483648) ≤ v56 := by omega
                  have u_v56 : v56 ≤ 100000 := by omega
                  refine mz_pI rfl fd_12_187 (sc_137 _) hIg32 bd_137_19 (by omega) (by omega) (fun g57 hIg57 hug57 => ?_)
                  refine mm_g 2 (pc1 := 167) (lo1 := [some (.ref 137), some (.int (Int32.ofInt v18))]) (st1 := [.ref 137, .ref 137]) (H1 := mz_mk g57 x) rfl ?_
                  refine mz_fgI (v := (g32 137 16)) rfl fd_12_167 (by decide) (sc_137 _) (show g57 137 16 = (g32 137 16) from ((hug57.2 137 16 (fun h => absurd h.2 (by decide))).trans rfl)) ?_
                  refine mm_g 1 (pc1 := 171) (lo1 := [some (.ref 137), some (.int (Int32.ofInt v18))]) (st1 := [.int (Int32.ofInt 1), .int (Int32.ofInt (g32 137 16)), .ref 137]) (H1 := mz_mk g57 x) rfl ?_
                  refine mz_iadd rfl ?_
                  refine mz_pI rfl fd_12_167 (sc_137 _) hIg57 bd_137_16 (by omega) (by omega) (fun g58 hIg58 hug58 => ?_)
                  refine mz_gt (tgt := 123) rfl rfl ?_
                  exact ih33 ((701 - g58 137 16).toNat) (by have h9 := (show g58 137 16 = ((g32 137 16) + 1) from hug58.1); omega) g58 rfl hIg58 (fun k j hk => ((hug58.2 k j (fun h => hk (Or.inr h))).trans ((hug57.2 k j (fun h => hk (Or.inl h))).trans (hfg32 k j (fun h => hk (Or.elim h (fun h => (Or.inl h)) (fun h => (Or.inr h)))))))) (by have h90 := (show g58 137 16 = ((g32 137 16) + 1) from hug58.1); omega) (by have h90 := (show g58 137 16 = ((g32 137 16) + 1) from hug58.1); omega) (by have h90 := (show g58 137 16 = ((g32 137 16) + 1) from hug58.1); omega) (by intro hz; exfalso; have h90 := (show g58 137 16 = ((g32 137 16) + 1) from hug58.1); omega)
              exact L35 _ g31 rfl hIg31 (fun _ _ _ => rfl) (by have h90 := (show g31 137 16 = (g1 137 16) from ((hug31.2 137 16 (fun h => absurd h.2 (by decide))).trans ((hug16.2 137 16 (fun h => absurd h.2 (by decide))).trans rfl))); omega) (by have h90 := (show g31 137 16 = (g1 137 16) from ((hug31.2 137 16 (fun h => absurd h.2 (by decide))).trans ((hug16.2 137 16 (fun h => absurd h.2 (by decide))).trans rfl))); omega) (by have h90 := (show g31 137 16 = (g1 137 16) from ((hug31.2 137 16 (fun h => absurd h.2 (by decide))).trans ((hug16.2 137 16 (fun h => absurd h.2 (by decide))).trans rfl))); omega) (by intro _; rw [show g31 137 16 = (g1 137 16) from (show g31 137 16 = (g1 137 16) from ((hug31.2 137 16 (fun h => absurd h.2 (by decide))).trans ((hug16.2 137 16 (fun h => absurd h.2 (by decide))).trans rfl)))]; exact (mz_byte_eq ((hug31.2 137 17 (fun h => absurd h.2 (by decide))).trans rfl) (fun _j => ((hug31.2 151 _j (fun h => absurd h.1 (by decide))).trans rfl))).trans hp19.symm)
          · skip
            have L62 : ∀ n61 : Nat, ∀ (g59 : mz_G), (701 - g59 137 16).toNat = n61 → mz_inv g59 → mz_fr (fl_X12_stepOn_76 x) g16 g59 → (g59 137 16 ≤ g 137 17) → (g 137 16 ≤ g59 137 16) → ((g1 137 16) ≤ g59 137 16) → (g59 137 16 = (g1 137 16) → mz_byte g59 (g59 137 16) = v18) → mm_W d mmX12_stepOn 76 [some (.ref 137), some (.int (Int32.ofInt v18))] [] (mz_mk g59 x) Q := by
              intro n61
              induction n61 using Nat.strongRecOn with
              | ind n61 ih60 =>
              intro g59 hmn61 hIg59 hfg59 hv63 hv64 hv65 hv66
              have bz_g59_16 := mz_rd hIg59 bd_137_16
              refine mm_g 2 (pc1 := 78) (lo1 := [some (.ref 137), some (.int (Int32.ofInt v18))]) (st1 := [.ref 137, .ref 137]) (H1 := mz_mk g59 x) rfl ?_
              refine mz_fgI (v := (g59 137 16)) rfl fd_12_167 (by decide) (sc_137 _) (show g59 137 16 = (g59 137 16) from rfl) ?_
              have hq67 : g59 137 17 = (g 137 17) := (show g59 137 17 = (g 137 17) from ((hfg59 137 17 (fun h => (absurd (show (137 = 137 ∧ 17 = 16) from h) (by decide)))).trans ((hug16.2 137 17 (fun h => absurd h.2 (by decide))).trans ((hfg1 137 17 (fun h => (absurd (show (137 = 137 ∧ 17 = 16) from h) (by decide)))).trans rfl))))
              refine mz_cv rfl mt_12_170 (by decide) (sc_137 _) rfl (Nat.le_of_ble_eq_true rfl) (by omega) (c_X12_byteAt (by omega) hx hIg59 (by omega) (by omega) (fun v68 l_v68 u_v68 hp69 hp70 => ⟨_, rfl, ?_⟩))
              show mm_W d mmX12_stepOn 84 [some (.ref 137), some (.int (Int32.ofInt v18))] [.int (Int32.ofInt v68)] (mz_mk g59 x) Q
              refine mz_cs rfl mt_12_180 (by decide) rfl (Nat.le_of_ble_eq_true rfl) (by omega) (c_X12_isLetter (by omega) hx hIg59 (by omega) (by omega) (fun v71 l_v71 u_v71 hp72 => ⟨_, rfl, ?_⟩))
              show mm_W d mmX12_stepOn 87 [some (.ref 137), some (.int (Int32.ofInt v18))] [.int (Int32.ofInt v71)] (mz_mk g59 x) Q
              refine mz_if_eq (tgt := 103) rfl rfl (mz_rg l_v71 u_v71) (fun c87_72 => ?_) (fun c87_72 => ?_)
              · skip
                refine mm_g 2 (pc1 := 105) (lo1 := [some (.ref 137), some (.int (Int32.ofInt v18))]) (st1 := [.int (Int32.ofInt 1), .ref 137]) (H1 := mz_mk g59 x) rfl ?_
                refine mz_pI rfl fd_12_177 (sc_137 _) hIg59 bd_137_18 (by omega) (by omega) (fun g73 hIg73 hug73 => ?_)
                refine mz_gt (tgt := 212) rfl rfl ?_
                refine mm_g 2 (pc1 := 214) (lo1 := [some (.ref 137), some (.int (Int32.ofInt v18))]) (st1 := [.ref 137, .ref 137]) (H1 := mz_mk g73 x) rfl ?_
                refine mz_fgI (v := (g59 137 16)) rfl fd_12_167 (by decide) (sc_137 _) (show g73 137 16 = (g59 137 16) from ((hug73.2 137 16 (fun h => absurd h.2 (by decide))).trans rfl)) ?_
                refine mz_pI rfl fd_12_200 (sc_137 _) hIg73 bd_137_21 (by omega) (by omega) (fun g74 hIg74 hug74 => ?_)
                exact mm_rt rfl rfl (hQ _ hIg74 (fun k j hk => ((hug74.2 k j (fun h => hk (Or.inr (Or.inr (Or.inr (Or.inl h)))))).trans ((hug73.2 k j (fun h => hk (Or.inr (Or.inr (Or.inl h))))).trans ((hfg59 k j (fun h => hk (Or.inl h))).trans ((hug16.2 k j (fun h => hk (Or.inr (Or.inl h)))).trans (hfg1 k j (fun h => hk (Or.inl h)))))))) (by have h90 := (show g74 137 16 = (g59 137 16) from ((hug74.2 137 16 (fun h => absurd h.2 (by decide))).trans ((hug73.2 137 16 (fun h => absurd h.2 (by decide))).trans rfl))); have h91 := (show g74 137 17 = (g 137 17) from ((hug74.2 137 17 (fun h => absurd h.2 (by decide))).trans ((hug73.2 137 17 (fun h => absurd h.2 (by decide))).trans ((hfg59 137 17 (fun h => (absurd (show (137 = 137 ∧ 17 = 16) from h) (by decide)))).trans ((hug16.2 137 17 (fun h => absurd h.2 (by decide))).trans ((hfg1 137 17 (fun h => (absurd (show (137 = 137 ∧ 17 = 16) from h) (by decide)))).trans rfl)))))); have h92 := (show g74 137 18 = 1 from ((hug74.2 137 18 (fun h => absurd h.2 (by decide))).trans hug73.1)); have h93 := (show g74 137 20 = (g1 137 16) from ((hug74.2 137 20 (fun h => absurd h.2 (by decide))).trans ((hug73.2 137 20 (fun h => absurd h.2 (by decide))).trans ((hfg59 137 20 (fun h => (absurd (show (137 = 137 ∧ 20 = 16) from h) (by decide)))).trans hug16.1)))); have h94 := (show g74 137 21 = (g59 137 16) from hug74.1); have h95 := (show g74 137 22 = (g 137 22) from ((hug74.2 137 22 (fun h => absurd h.2 (by decide))).trans ((hug73.2 137 22 (fun h => absurd h.2 (by decide))).trans ((hfg59 137 22 (fun h => (absurd (show (137 = 137 ∧ 22 = 16) from h) (by decide)))).trans ((hug16.2 137 22 (fun h => absurd h.2 (by decide))).trans ((hfg1 137 22 (fun h => (absurd (show (137 = 137 ∧ 22 = 16) from h) (by decide)))).trans rfl)))))); omega) (by have h90 := (show g74 137 16 = (g59 137 16) from ((hug74.2 137 16 (fun h => absurd h.2 (by decide))).trans ((hug73.2 137 16 (fun h => absurd h.2 (by decide))).trans rfl))); have h91 := (show g74 137 17 = (g 137 17) from ((hug74.2 137 17 (fun h => absurd h.2 (by decide))).trans ((hug73.2 137 17 (fun h => absurd h.2 (by decide))).trans ((hfg59 137 17 (fun h => (absurd (show (137 = 137 ∧ 17 = 16) from h) (by decide)))).trans ((hug16.2 137 17 (fun h => absurd h.2 (by decide))).trans ((hfg1 137 17 (fun h => (absurd (show (137 = 137 ∧ 17 = 16) from h) (by decide)))).trans rfl)))))); have h92 := (show g74 137 18 = 1 from ((hug74.2 137 18 (fun h => absurd h.2 (by decide))).trans hug73.1)); have h93 := (show g74 137 20 = (g1 137 16) from ((hug74.2 137 20 (fun h => absurd h.2 (by decide))).trans ((hug73.2 137 20 (fun h => absurd h.2 (by decide))).trans ((hfg59 137 20 (fun h => (absurd (show (137 = 137 ∧ 20 = 16) from h) (by decide)))).trans hug16.1)))); have h94 := (show g74 137 21 = (g59 137 16) from hug74.1); have h95 := (show g74 137 22 = (g 137 22) from ((hug74.2 137 22 (fun h => absurd h.2 (by decide))).trans ((hug73.2 137 22 (fun h => absurd h.2 (by decide))).trans ((hfg59 137 22 (fun h => (absurd (show (137 = 137 ∧ 22 = 16) from h) (by decide)))).trans ((hug16.2 137 22 (fun h => absurd h.2 (by decide))).trans ((hfg1 137 22 (fun h => (absurd (show (137 = 137 ∧ 22 = 16) from h) (by decide)))).trans rfl)))))); omega))
              · skip
                refine mm_g 2 (pc1 := 92) (lo1 := [some (.ref 137), some (.int (Int32.ofInt v18))]) (st1 := [.ref 137, .ref 137]) (H1 := mz_mk g59 x) rfl ?_
                refine mz_fgI (v := (g59 137 16)) rfl fd_12_167 (by decide) (sc_137 _) (show g59 137 16 = (g59 137 16) from rfl) ?_
                refine mm_g 1 (pc1 := 96) (lo1 := [some (.ref 137), some (.int (Int32.ofInt v18))]) (st1 := [.int (Int32.ofInt 1), .int (Int32.ofInt (g59 137 16)), .ref 137]) (H1 := mz_mk g59 x) rfl ?_
                refine mz_iadd rfl ?_
                refine mz_pI rfl fd_12_167 (sc_137 _) hIg59 bd_137_16 (by omega) (by omega) (fun g75 hIg75 hug75 => ?_)
                refine mz_gt (tgt := 76) rfl rfl ?_
                exact ih60 ((701 - g75 137 16).toNat) (by have h9 := (show g75 137 16 = ((g59 137 16) + 1) from hug75.1); omega) g75 rfl hIg75 (fun k j hk => ((hug75.2 k j (fun h => hk h)).trans (hfg59 k j (fun h => hk h)))) (by have h90 := (show g75 137 16 = ((g59 137 16) + 1) from hug75.1); omega) (by have h90 := (show g75 137 16 = ((g59 137 16) + 1) from hug75.1); omega) (by have h90 := (show g75 137 16 = ((g59 137 16) + 1) from hug75.1); omega) (by intro hz; exfalso; have h90 := (show g75 137 16 = ((g59 137 16) + 1) from hug75.1); omega)
            exact L62 _ g16 rfl hIg16 (fun _ _ _ => rfl) (by have h90 := (show g16 137 16 = (g1 137 16) from ((hug16.2 137 16 (fun h => absurd h.2 (by decide))).trans rfl)); omega) (by have h90 := (show g16 137 16 = (g1 137 16) from ((hug16.2 137 16 (fun h => absurd h.2 (by decide))).trans rfl)); omega) (by have h90 := (show g16 137 16 = (g1 137 16) from ((hug16.2 137 16 (fun h => absurd h.2 (by decide))).trans rfl)); omega) (by intro _; rw [show g16 137 16 = (g1 137 16) from (show g16 137 16 = (g1 137 16) from ((hug16.2 137 16 (fun h => absurd h.2 (by decide))).trans rfl))]; exact (mz_byte_eq rfl (fun _j => rfl)).trans hp19.symm)
        · skip
          refine mm_g 2 (pc1 := 63) (lo1 := [some (.ref 137), some (.int (Int32.ofInt v18))]) (st1 := [.int (Int32.ofInt 0), .ref 137]) (H1 := mz_mk g16 x) rfl ?_
          refine mz_pI rfl fd_12_177 (sc_137 _) hIg16 bd_137_18 (by omega) (by omega) (fun g76 hIg76 hug76 => ?_)
          refine mz_gt (tgt := 212) rfl rfl ?_
          refine mm_g 2 (pc1 := 214) (lo1 := [some (.ref 137), some (.int (Int32.ofInt v18))]) (st1 := [.ref 137, .ref 137]) (H1 := mz_mk g76 x) rfl ?_
          refine mz_fgI (v := (g1 137 16)) rfl fd_12_167 (by decide) (sc_137 _) (show g76 137 16 = (g1 137 16) from ((hug76.2 137 16 (fun h => absurd h.2 (by decide))).trans ((hug16.2 137 16 (fun h => absurd h.2 (by decide))).trans rfl))) ?_
          refine mz_pI rfl fd_12_200 (sc_137 _) hIg76 bd_137_21 (by omega) (by omega) (fun g77 hIg77 hug77 => ?_)
          exact mm_rt rfl rfl (hQ _ hIg77 (fun k j hk => ((hug77.2 k j (fun h => hk (Or.inr (Or.inr (Or.inr (Or.inl h)))))).trans ((hug76.2 k j (fun h => hk (Or.inr (Or.inr (Or.inl h))))).trans ((hug16.2 k j (fun h => hk (Or.inr (Or.inl h)))).trans (hfg1 k j (fun h => hk (Or.inl h))))))) (by have h90 := (show g77 137 16 = (g1 137 16) from ((hug77.2 137 16 (fun h => absurd h.2 (by decide))).trans ((hug76.2 137 16 (fun h => absurd h.2 (by decide))).trans ((hug16.2 137 16 (fun h => absurd h.2 (by decide))).trans rfl)))); have h91 := (show g77 137 17 = (g 137 17) from ((hug77.2 137 17 (fun h => absurd h.2 (by decide))).trans ((hug76.2 137 17 (fun h => absurd h.2 (by decide))).trans ((hug16.2 137 17 (fun h => absurd h.2 (by decide))).trans ((hfg1 137 17 (fun h => (absurd (show (137 = 137 ∧ 17 = 16) from h) (by decide)))).trans rfl))))); have h92 := (show g77 137 18 = 0 from ((hug77.2 137 18 (fun h => absurd h.2 (by decide))).trans hug76.1)); have h93 := (show g77 137 20 = (g1 137 16) from ((hug77.2 137 20 (fun h => absurd h.2 (by decide))).trans ((hug76.2 137 20 (fun h => absurd h.2 (by decide))).trans hug16.1))); have h94 := (show g77 137 21 = (g1 137 16) from hug77.1); have h95 := (show g77 137 22 = (g 137 22) from ((hug77.2 137 22 (fun h => absurd h.2 (by decide))).trans ((hug76.2 137 22 (fun h => absurd h.2 (by decide))).trans ((hug16.2 137 22 (fun h => absurd h.2 (by decide))).trans ((hfg1 137 22 (fun h => (absurd (show (137 = 137 ∧ 22 = 16) from h) (by decide)))).trans rfl))))); omega) (by have h90 := (show g77 137 16 = (g1 137 16) from ((hug77.2 137 16 (fun h => absurd h.2 (by decide))).trans ((hug76.2 137 16 (fun h => absurd h.2 (by decide))).trans ((hug16.2 137 16 (fun h => absurd h.2 (by decide))).trans rfl)))); have h91 := (show g77 137 17 = (g 137 17) from ((hug77.2 137 17 (fun h => absurd h.2 (by decide))).trans ((hug76.2 137 17 (fun h => absurd h.2 (by decide))).trans ((hug16.2 137 17 (fun h => absurd h.2 (by decide))).trans ((hfg1 137 17 (fun h => (absurd (show (137 = 137 ∧ 17 = 16) from h) (by decide)))).trans rfl))))); have h92 := (show g77 137 18 = 0 from ((hug77.2 137 18 (fun h => absurd h.2 (by decide))).trans hug76.1)); have h93 := (show g77 137 20 = (g1 137 16) from ((hug77.2 137 20 (fun h => absurd h.2 (by decide))).trans ((hug76.2 137 20 (fun h => absurd h.2 (by decide))).trans hug16.1))); have h94 := (show g77 137 21 = (g1 137 16) from hug77.1); have h95 := (show g77 137 22 = (g 137 22) from ((hug77.2 137 22 (fun h => absurd h.2 (by decide))).trans ((hug76.2 137 22 (fun h => absurd h.2 (by decide))).trans ((hug16.2 137 22 (fun h => absurd h.2 (by decide))).trans ((hfg1 137 22 (fun h => (absurd (show (137 = 137 ∧ 22 = 16) from h) (by decide)))).trans rfl))))); omega))
      · skip
        refine mm_g 2 (pc1 := 28) (lo1 := [some (.ref 137), none]) (st1 := [.ref 137, .ref 137]) (H1 := mz_mk g1 x) rfl ?_
        refine mz_fgI (v := (g1 137 16)) rfl fd_12_167 (by decide) (sc_137 _) (show g1 137 16 = (g1 137 16) from rfl) ?_
        refine mm_g 1 (pc1 := 32) (lo1 := [some (.ref 137), none]) (st1 := [.int (Int32.ofInt 1), .int (Int32.ofInt (g1 137 16)), .ref 137]) (H1 := mz_mk g1 x) rfl ?_
        refine mz_iadd rfl ?_
        refine mz_pI rfl fd_12_167 (sc_137 _) hIg1 bd_137_16 (by omega) (by omega) (fun g78 hIg78 hug78 => ?_)
        refine mz_gt (tgt := 0) rfl rfl ?_
        exact ih2 ((701 - g78 137 16).toNat) (by have h9 := (show g78 137 16 = ((g1 137 16) + 1) from hug78.1); omega) g78 rfl hIg78 (fun k j hk => ((hug78.2 k j (fun h => hk h)).trans (hfg1 k j (fun h => hk h)))) (by have h90 := (show g78 137 16 = ((g1 137 16) + 1) from hug78.1); omega) (by have h90 := (show g78 137 16 = ((g1 137 16) + 1) from hug78.1); omega)
  exact L4 _ g rfl hI (fun _ _ _ => rfl) (by have h90 := (show g 137 16 = (g 137 16) from rfl); omega) (by have h90 := (show g 137 16 = (g 137 16) from rfl); omega)
def fw_X12_wrong (x : mm_X) (a1 : Int) : Nat → Nat → Prop := fun k j => (k = 137 ∧ j = 22) ∨ (k = 137 ∧ j = 23)
theorem c_X12_wrong {d : Nat} (hd : 1 ≤ d) {x : mm_X} (hx : mk_x x) {g : mz_G} (hI : mz_inv g) {a1 : Int} (l_a1 : 1 ≤ a1) (u_a1 : a1 ≤ 5) {Q : (Option Value ⊕ Nat) → mm_H → Prop} (hQ : ∀ (g1 : mz_G), mz_inv g1 → mz_fr (fw_X12_wrong x a1) g g1 → (g1 137 22 ≠ 0) → (g 137 22 ≠ 0 → g1 137 22 = g 137 22) → Q (.inl none) (mz_mk g1 x)) : mm_C d 193 [.ref 137, .int (Int32.ofInt a1)] (mz_mk g x) Q := by
  refine ⟨mmX12_wrong, [some (.ref 137), some (.int (Int32.ofInt a1))], rfl, rfl, ?_⟩
  have bz0 := mz_rd hI bd_137_22
  refine mm_g 1 (pc1 := 1) (lo1 := [some (.ref 137), some (.int (Int32.ofInt a1))]) (st1 := [.ref 137]) (H1 := mz_mk g x) rfl ?_
  refine mz_fgI (v := (g 137 22)) rfl fd_12_203 (by decide) (sc_137 _) (show g 137 22 = (g 137 22) from rfl) ?_
  refine mz_if_eq (tgt := 8) rfl rfl ⟨by omega, by omega⟩ (fun c4_0 => ?_) (fun c4_0 => ?_)
  · skip
    refine mm_g 2 (pc1 := 10) (lo1 := [some (.ref 137), some (.int (Int32.ofInt a1))]) (st1 := [.int (Int32.ofInt a1), .ref 137]) (H1 := mz_mk g x) rfl ?_
    refine mz_pI rfl fd_12_203 (sc_137 _) hI bd_137_22 (by omega) (by omega) (fun g1 hIg1 hug1 => ?_)
    refine mm_g 2 (pc1 := 15) (lo1 := [some (.ref 137), some (.int (Int32.ofInt a1))]) (st1 := [.ref 137, .ref 137]) (H1 := mz_mk g1 x) rfl ?_
    refine mz_gI rfl fd_12_174 (by decide) (sc_137 _) hIg1 bd_137_20 (fun v2 e_v2 l_v2 u_v2 => ?_)
    refine mz_pI rfl fd_12_206 (sc_137 _) hIg1 bd_137_23 (by omega) (by omega) (fun g3 hIg3 hug3 => ?_)
    exact mm_rt rfl rfl (hQ _ hIg3 (fun k j hk => ((hug3.2 k j (fun h => hk (Or.inr h))).trans (hug1.2 k j (fun h => hk (Or.inl h))))) (by have h90 := (show g3 137 22 = a1 from ((hug3.2 137 22 (fun h => absurd h.2 (by decide))).trans hug1.1)); omega) (by have h90 := (show g3 137 22 = a1 from ((hug3.2 137 22 (fun h => absurd h.2 (by decide))).trans hug1.1)); omega))
  · skip
    exact mm_rt rfl rfl (hQ _ hI (fun _ _ _ => rfl) (by have h90 := (show g 137 22 = (g 137 22) from rfl); omega) (by have h90 := (show g 137 22 = (g 137 22) from rfl); omega))
theorem c_X12_is {d : Nat} (hd : 5 ≤ d) {x : mm_X} (hx : mk_x x) {g : mz_G} (hI : mz_inv g) {q1 : Nat} (h_q1 : q1 < 28) (p1 : g 137 20 ≤ g 137 16 ∧ g 137 21 = g 137 16 ∧ g 137 16 ≤ g 137 17 ∧ (g 137 18 ≠ 0 → g 137 20 < g 137 16)) {Q : (Option Value ⊕ Nat) → mm_H → Prop} (hQ : ∀ (r : Int), 0 ≤ r → r ≤ 1 → (r = 1 → g 137 22 = 0 ∧ g 137 18 = 1) → Q (.inl (some (.int (Int32.ofInt r)))) (mz_mk g x)) : mm_C d 194 [.ref 137, .ref (1000 + q1)] (mz_mk g x) Q := by
  refine ⟨mmX12_is, [some (.ref 137), some (.ref (1000 + q1)), none, none], rfl, rfl, ?_⟩
  have bz0 := mz_rd hI bd_137_16
  have bz1 := mz_rd hI bd_137_17
  have bz2 := mz_rd hI bd_137_18
  have bz3 := mz_rd hI bd_137_20
  have bz4 := mz_rd hI bd_137_21
  have bz5 := mz_rd hI bd_137_22
  refine mm_g 1 (pc1 := 1) (lo1 := [some (.ref 137), some (.ref (1000 + q1)), none, none]) (st1 := [.ref 137]) (H1 := mz_mk g x) rfl ?_
  refine mz_fgI (v := (g 137 22)) rfl fd_12_203 (by decide) (sc_137 _) (show g 137 22 = (g 137 22) from rfl) ?_
  refine mz_if_ne (tgt := 35) rfl rfl ⟨by omega, by omega⟩ (fun c4_0 => ?_) (fun c4_0 => ?_)
  · skip
    refine mm_g 4 (pc1 := 39) (lo1 := [some (.ref 137), some (.ref (1000 + q1)), some (.int (Int32.ofInt 0)), some (.int (Int32.ofInt 0))]) (st1 := []) (H1 := mz_mk g x) rfl ?_
    have L6 : ∀ n5 : Nat, ∀ (v1 : Int) (v2 : Int), (0 : Nat) = n5 → 0 ≤ v1 → v1 ≤ 0 → 0 ≤ v2 → v2 ≤ 0 → mm_W d mmX12_is 39 [some (.ref 137), some (.ref (1000 + q1)), some (.int (Int32.ofInt v1)), some (.int (Int32.ofInt v2))] [] (mz_mk g x) Q := by
      intro n5
      induction n5 using Nat.strongRecOn with
      | ind n5 ih4 =>
      intro v1 v2 hmn5 l_v1 u_v1 l_v2 u_v2
      refine mm_g 1 (pc1 := 40) (lo1 := [some (.ref 137), some (.ref (1000 + q1)), some (.int (Int32.ofInt v1)), some (.int (Int32.ofInt v2))]) (st1 := [.int (Int32.ofInt v1)]) (H1 := mz_mk g x) rfl ?_
      refine mz_if_eq (tgt := 82) rfl rfl (mz_rg l_v1 u_v1) (fun c40_6 => ?_) (fun c40_6 => ?_)
      · skip
        refine mm_g 1 (pc1 := 83) (lo1 := [some (.ref 137), some (.ref (1000 + q1)), some (.int (Int32.ofInt v1)), some (.int (Int32.ofInt v2))]) (st1 := [.int (Int32.ofInt v1)]) (H1 := mz_mk g x) rfl ?_
        exact mz_rtZ rfl (by decide) (by omega) (hQ _ (by omega) (by omega) (by omega))
      · exfalso; omega
    exact L6 _ 0 0 rfl (by decide) (by decide) (by decide) (by decide)
  · skip
    refine mm_g 1 (pc1 := 8) (lo1 := [some (.ref 137), some (.ref (1000 + q1)), none, none]) (st1 := [.ref 137]) (H1 := mz_mk g x) rfl ?_
    refine mz_fgI (v := (g 137 18)) rfl fd_12_177 (by decide) (sc_137 _) (show g 137 18 = (g 137 18) from rfl) ?_
    refine mm_g 1 (pc1 := 12) (lo1 := [some (.ref 137), some (.ref (1000 + q1)), none, none]) (st1 := [.int (Int32.ofInt 1), .int (Int32.ofInt (g 137 18))]) (H1 := mz_mk g x) rfl ?_
    refine mz_ic_ne (tgt := 35) rfl rfl ⟨by omega, by omega⟩ ⟨by decide, by decide⟩ (fun c12_6 => ?_) (fun c12_6 => ?_)
    · skip
      refine mm_g 4 (pc1 := 39) (lo1 := [some (.ref 137), some (.ref (1000 + q1)), some (.int (Int32.ofInt 0)), some (.int (Int32.ofInt 0))]) (st1 := []) (H1 := mz_mk g x) rfl ?_
      have L12 : ∀ n11 : Nat, ∀ (v7 : Int) (v8 : Int), (0 : Nat) = n11 → 0 ≤ v7 → v7 ≤ 0 → 0 ≤ v8 → v8 ≤ 0 → mm_W d mmX12_is 39 [some (.ref 137), some (.ref (1000 + q1)), some (.int (Int32.ofInt v7)), some (.int (Int32.ofInt v8))] [] (mz_mk g x) Q := by
        intro n11
        induction n11 using Nat.strongRecOn with
        | ind n11 ih10 =>
        intro v7 v8 hmn11 l_v7 u_v7 l_v8 u_v8
        refine mm_g 1 (pc1 := 40) (lo1 := [some (.ref 137), some (.ref (1000 + q1)), some (.int (Int32.ofInt v7)), some (.int (Int32.ofInt v8))]) (st1 := [.int (Int32.ofInt v7)]) (H1 := mz_mk g x) rfl ?_
        refine mz_if_eq (tgt := 82) rfl rfl (mz_rg l_v7 u_v7) (fun c40_12 => ?_) (fun c40_12 => ?_)
        · skip
          refine mm_g 1 (pc1 := 83) (lo1 := [some (.ref 137), some (.ref (1000 + q1)), some (.int (Int32.ofInt v7)), some (.int (Int32.ofInt v8))]) (st1 := [.int (Int32.ofInt v7)]) (H1 := mz_mk g x) rfl ?_
          exact mz_rtZ rfl (by decide) (by omega) (hQ _ (by omega) (by omega) (by omega))
        · exfalso; omega
      exact L12 _ 0 0 rfl (by decide) (by decide) (by decide) (by decide)
    · skip
      refine mm_g 1 (pc1 := 16) (lo1 := [some (.ref 137), some (.ref (1000 + q1)), none, none]) (st1 := [.ref (1000 + q1)]) (H1 := mz_mk g x) rfl ?_
      refine mz_cv rfl mt_12_209 (by decide) (kc_str h_q1 _) rfl (Nat.le_of_ble_eq_true rfl) (by omega) (c_J0_length (by omega) hx hI h_q1 (fun v13 l_v13 u_v13 hp14 => ⟨_, rfl, ?_⟩))
      show mm_W d mmX12_is 19 [some (.ref 137), some (.ref (1000 + q1)), none, none] [.int (Int32.ofInt v13)] (mz_mk g x) Q
      refine mm_g 1 (pc1 := 20) (lo1 := [some (.ref 137), some (.ref (1000 + q1)), none, none]) (st1 := [.ref 137, .int (Int32.ofInt v13)]) (H1 := mz_mk g x) rfl ?_
      refine mz_fgI (v := (g 137 21)) rfl fd_12_200 (by decide) (sc_137 _) (show g 137 21 = (g 137 21) from rfl) ?_
      refine mm_g 1 (pc1 := 24) (lo1 := [some (.ref 137), some (.ref (1000 + q1)), none, none]) (st1 := [.ref 137, .int (Int32.ofInt (g 137 21)), .int (Int32.ofInt v13)]) (H1 := mz_mk g x) rfl ?_
      refine mz_fgI (v := (g 137 20)) rfl fd_12_174 (by decide) (sc_137 _) (show g 137 20 = (g 137 20) from rfl) ?_
      refine mz_isub rfl ?_
      refine mz_ic_ne (tgt := 35) rfl rfl (mz_rg l_v13 u_v13) ⟨by omega, by omega⟩ (fun c28_14 => ?_) (fun c28_14 => ?_)
      · skip
        refine mm_g 4 (pc1 := 39) (lo1 := [some (.ref 137), some (.ref (1000 + q1)), some (.int (Int32.ofInt 0)), some (.int (Int32.ofInt 0))]) (st1 := []) (H1 := mz_mk g x) rfl ?_
        have L20 : ∀ n19 : Nat, ∀ (v15 : Int) (v16 : Int), (0 : Nat) = n19 → 0 ≤ v15 → v15 ≤ 0 → 0 ≤ v16 → v16 ≤ 0 → mm_W d mmX12_is 39 [some (.ref 137), some (.ref (1000 + q1)), some (.int (Int32.ofInt v15)), some (.int (Int32.ofInt v16))] [] (mz_mk g x) Q := by
          intro n19
          induction n19 using Nat.strongRecOn with
          | ind n19 ih18 =>
          intro v15 v16 hmn19 l_v15 u_v15 l_v16 u_v16
          refine mm_g 1 (pc1 := 40) (lo1 := [some (.ref 137), some (.ref (1000 + q1)), some (.int (Int32.ofInt v15)), some (.int (Int32.ofInt v16))]) (st1 := [.int (Int32.ofInt v15)]) (H1 := mz_mk g x) rfl ?_
          refine mz_if_eq (tgt := 82) rfl rfl (mz_rg l_v15 u_v15) (fun c40_20 => ?_) (fun c40_20 => ?_)
          · skip
            refine mm_g 1 (pc1 := 83) (lo1 := [some (.ref 137), some (.ref (1000 + q1)), some (.int (Int32.ofInt v15)), some (.int (Int32.ofInt v16))]) (st1 := [.int (Int32.ofInt v15)]) (H1 := mz_mk g x) rfl ?_
            exact mz_rtZ rfl (by decide) (by omega) (hQ _ (by omega) (by omega) (by omega))
          · exfalso; omega
        exact L20 _ 0 0 rfl (by decide) (by decide) (by decide) (by decide)
      · skip
        refine mm_g 1 (pc1 := 32) (lo1 := [some (.ref 137), some (.ref (1000 + q1)), none, none]) (st1 := [.int (Int32.ofInt 1)]) (H1 := mz_mk g x) rfl ?_
        refine mz_gt (tgt := 36) rfl rfl ?_
        refine mm_g 3 (pc1 := 39) (lo1 := [some (.ref 137), some (.ref (1000 + q1)), some (.int (Int32.ofInt 1)), some (.int (Int32.ofInt 0))]) (st1 := []) (H1 := mz_mk g x) rfl ?_
        have L26 : ∀ n25 : Nat, ∀ (v21 : Int) (v22 : Int), (100 - v22).toNat = n25 → 0 ≤ v21 → v21 ≤ 1 → 0 ≤ v22 → v22 ≤ 100 → mm_W d mmX12_is 39 [some (.ref 137), some (.ref (1000 + q1)), some (.int (Int32.ofInt v21)), some (.int (Int32.ofInt v22))] [] (mz_mk g x) Q := by
          intro n25
          induction n25 using Nat.strongRecOn with
          | ind n25 ih24 =>
          intro v21 v22 hmn25 l_v21 u_v21 l_v22 u_v22
          refine mm_g 1 (pc1 := 40) (lo1 := [some (.ref 137), some (.ref (1000 + q1)), some (.int (Int32.ofInt v21)), some (.int (Int32.ofInt v22))]) (st1 := [.int (Int32.ofInt v21)]) (H1 := mz_mk g x) rfl ?_
          refine mz_if_eq (tgt := 82) rfl rfl (mz_rg l_v21 u_v21) (fun c40_26 => ?_) (fun c40_26 => ?_)
          · skip
            refine mm_g 1 (pc1 := 83) (lo1 := [some (.ref 137), some (.ref (1000 + q1)), some (.int (Int32.ofInt v21)), some (.int (Int32.ofInt v22))]) (st1 := [.int (Int32.ofInt v21)]) (H1 := mz_mk g x) rfl ?_
            exact mz_rtZ rfl (by decide) (by omega) (hQ _ (by omega) (by omega) (by omega))
          · skip
            refine mm_g 2 (pc1 := 45) (lo1 := [some (.ref 137), some (.ref (1000 + q1)), some (.int (Int32.ofInt v21)), some (.int (Int32.ofInt v22))]) (st1 := [.ref (1000 + q1), .int (Int32.ofInt v22)]) (H1 := mz_mk g x) rfl ?_
            refine mz_cv rfl mt_12_209 (by decide) (kc_str h_q1 _) rfl (Nat.le_of_ble_eq_true rfl) (by omega) (c_J0_length (by omega) hx hI h_q1 (fun v27 l_v27 u_v27 hp28 => ⟨_, rfl, ?_⟩))
            show mm_W d mmX12_is 48 [some (.ref 137), some (.ref (1000 + q1)), some (.int (Int32.ofInt v21)), some (.int (Int32.ofInt v22))] [.int (Int32.ofInt v27), .int (Int32.ofInt v22)] (mz_mk g x) Q
            refine mz_ic_ge (tgt := 82) rfl rfl (mz_rg l_v22 u_v22) (mz_rg l_v27 u_v27) (fun c48_28 => ?_) (fun c48_28 => ?_)
            · skip
              refine mm_g 1 (pc1 := 83) (lo1 := [some (.ref 137), some (.ref (1000 + q1)), some (.int (Int32.ofInt v21)), some (.int (Int32.ofInt v22))]) (st1 := [.int (Int32.ofInt v21)]) (H1 := mz_mk g x) rfl ?_
              exact mz_rtZ rfl (by decide) (by omega) (hQ _ (by omega) (by omega) (by omega))
            · skip
              refine mm_g 2 (pc1 := 53) (lo1 := [some (.ref 137), some (.ref (1000 + q1)), some (.int (Int32.ofInt v21)), some (.int (Int32.ofInt v22))]) (st1 := [.int (Int32.ofInt v22), .ref (1000 + q1)]) (H1 := mz_mk g x) rfl ?_
              refine mz_cv rfl mt_12_213 (by decide) (kc_str h_q1 _) rfl (Nat.le_of_ble_eq_true rfl) (by omega) (c_J0_charAt (by omega) hx hI h_q1 (by omega) (by omega) (by omega) (fun v29 l_v29 u_v29 => ⟨_, rfl, ?_⟩))
              show mm_W d mmX12_is 56 [some (.ref 137), some (.ref (1000 + q1)), some (.int (Int32.ofInt v21)), some (.int (Int32.ofInt v22))] [.int (Int32.ofInt v29)] (mz_mk g x) Q
              refine mm_g 1 (pc1 := 57) (lo1 := [some (.ref 137), some (.ref (1000 + q1)), some (.int (Int32.ofInt v21)), some (.int (Int32.ofInt v22))]) (st1 := [.ref 137, .int (Int32.ofInt v29)]) (H1 := mz_mk g x) rfl ?_
              refine mz_fgR (v := 151) rfl fd_12_69 (by decide) (sc_137 _) (rf_137_14 _ _ _) ?_
              refine mm_g 1 (pc1 := 61) (lo1 := [some (.ref 137), some (.ref (1000 + q1)), some (.int (Int32.ofInt v21)), some (.int (Int32.ofInt v22))]) (st1 := [.ref 137, .ref 151, .int (Int32.ofInt v29)]) (H1 := mz_mk g x) rfl ?_
              refine mz_fgI (v := (g 137 20)) rfl fd_12_174 (by decide) (sc_137 _) (show g 137 20 = (g 137 20) from rfl) ?_
              refine mm_g 1 (pc1 := 65) (lo1 := [some (.ref 137), some (.ref (1000 + q1)), some (.int (Int32.ofInt v21)), some (.int (Int32.ofInt v22))]) (st1 := [.int (Int32.ofInt v22), .int (Int32.ofInt (g 137 20)), .ref 151, .int (Int32.ofInt v29)]) (H1 := mz_mk g x) rfl ?_
              refine mz_iadd rfl ?_
              refine mz_aI rfl (sh_151 _) (by omega) (by omega) (by decide) hI (ba_151 _) (fun v30 e_v30 l_v30 u_v30 => ?_)
              refine mz_ic_ne (tgt := 74) rfl rfl (mz_rg l_v29 u_v29) (mz_rg l_v30 u_v30) (fun c67_30 => ?_) (fun c67_30 => ?_)
              · skip
                refine mm_g 2 (pc1 := 76) (lo1 := [some (.ref 137), some (.ref (1000 + q1)), some (.int (Int32.ofInt 0)), some (.int (Int32.ofInt v22))]) (st1 := []) (H1 := mz_mk g x) rfl ?_
                refine mz_iincR (v := v22) (lo2 := [some (.ref 137), some (.ref (1000 + q1)), some (.int (Int32.ofInt 0)), some (.int (Int32.ofInt (v22 + 1)))]) rfl rfl rfl (Nat.le_of_ble_eq_true rfl) rfl ?_
                refine mz_gt (tgt := 39) rfl rfl ?_
                exact ih24 ((100 - (v22 + 1)).toNat) (by omega) 0 (v22 + 1) rfl (by decide) (by decide) (by omega) (by omega)
              · skip
                refine mm_g 1 (pc1 := 71) (lo1 := [some (.ref 137), some (.ref (1000 + q1)), some (.int (Int32.ofInt v21)), some (.int (Int32.ofInt v22))]) (st1 := [.int (Int32.ofInt 1)]) (H1 := mz_mk g x) rfl ?_
                refine mz_gt (tgt := 75) rfl rfl ?_
                refine mm_g 1 (pc1 := 76) (lo1 := [some (.ref 137), some (.ref (1000 + q1)), some (.int (Int32.ofInt 1)), some (.int (Int32.ofInt v22))]) (st1 := []) (H1 := mz_mk g x) rfl ?_
                refine mz_iincR (v := v22) (lo2 := [some (.ref 137), some (.ref (1000 + q1)), some (.int (Int32.ofInt 1)), some (.int (Int32.ofInt (v22 + 1)))]) rfl rfl rfl (Nat.le_of_ble_eq_true rfl) rfl ?_
                refine mz_gt (tgt := 39) rfl rfl ?_
                exact ih24 ((100 - (v22 + 1)).toNat) (by omega) 1 (v22 + 1) rfl (by decide) (by decide) (by omega) (by omega)
        exact L26 _ 1 0 rfl (by decide) (by decide) (by decide) (by decide)
theorem c_X12_which {d : Nat} (hd : 6 ≤ d) {x : mm_X} (hx : mk_x x) {g : mz_G} (hI : mz_inv g) {q1 n_q1 : Nat} (h_q1 : mk_sa q1 n_q1) (p1 : g 137 20 ≤ g 137 16 ∧ g 137 21 = g 137 16 ∧ g 137 16 ≤ g 137 17 ∧ (g 137 18 ≠ 0 → g 137 20 < g 137 16)) {Q : (Option Value ⊕ Nat) → mm_H → Prop} (hQ : ∀ (r : Int), (-1) ≤ r → r ≤ 6 → (r ≠ -1 → g 137 22 = 0 ∧ g 137 18 = 1) → (r < (n_q1 : Int)) → Q (.inl (some (.int (Int32.ofInt r)))) (mz_mk g x)) : mm_C d 195 [.ref 137, .ref q1] (mz_mk g x) Q := by
  refine ⟨mmX12_which, [some (.ref 137), some (.ref q1), none], rfl, rfl, ?_⟩
  have bz0 := mz_rd hI bd_137_16
  have bz1 := mz_rd hI bd_137_17
  have bz2 := mz_rd hI bd_137_18
  have bz3 := mz_rd hI bd_137_20
  have bz4 := mz_rd hI bd_137_21
  have bz5 := mz_rd hI bd_137_22
  have kq := mk_sa_n h_q1
  refine mm_g 2 (pc1 := 2) (lo1 := [some (.ref 137), some (.ref q1), some (.int (Int32.ofInt 0))]) (st1 := []) (H1 := mz_mk g x) rfl ?_
  have L5 : ∀ n4 : Nat, ∀ (v1 : Int), (7 - v1).toNat = n4 → 0 ≤ v1 → v1 ≤ 7 → mm_W d mmX12_which 2 [some (.ref 137), some (.ref q1), some (.int (Int32.ofInt v1))] [] (mz_mk g x) Q := by
    intro n4
    induction n4 using Nat.strongRecOn with
    | ind n4 ih3 =>
    intro v1 hmn4 l_v1 u_v1
    refine mm_g 2 (pc1 := 4) (lo1 := [some (.ref 137), some (.ref q1), some (.int (Int32.ofInt v1))]) (st1 := [.ref q1, .int (Int32.ofInt v1)]) (H1 := mz_mk g x) rfl ?_
    refine mz_al rfl (kc_sa h_q1 _) (by decide) ?_
    refine mz_ic_ge (tgt := 26) rfl rfl (mz_rg l_v1 u_v1) ⟨by omega, by omega⟩ (fun c5_5 => ?_) (fun c5_5 => ?_)
    · skip
      refine mm_g 1 (pc1 := 27) (lo1 := [some (.ref 137), some (.ref q1), some (.int (Int32.ofInt v1))]) (st1 := [.int (Int32.ofInt (-1))]) (H1 := mz_mk g x) rfl ?_
      exact mm_rt rfl rfl (hQ _ (by decide) (by decide) (by omega) (by omega))
    · skip
      refine mm_g 3 (pc1 := 11) (lo1 := [some (.ref 137), some (.ref q1), some (.int (Int32.ofInt v1))]) (st1 := [.int (Int32.ofInt v1), .ref q1, .ref 137]) (H1 := mz_mk g x) rfl ?_
      obtain ⟨u6, k_u6, e_u6⟩ := kw_sa x h_q1 (a := v1) (by omega) (by omega)
      refine mz_aa rfl (kc_sa h_q1 _) (by decide) (by omega) (by omega) (km_sa h_q1) e_u6 ?_
      have hq7 : g 137 16 = (g 137 16) := (show g 137 16 = (g 137 16) from rfl)
      have hq8 : g 137 17 = (g 137 17) := (show g 137 17 = (g 137 17) from rfl)
      have hq9 : g 137 18 = (g 137 18) := (show g 137 18 = (g 137 18) from rfl)
      have hq10 : g 137 20 = (g 137 20) := (show g 137 20 = (g 137 20) from rfl)
      have hq11 : g 137 21 = (g 137 21) := (show g 137 21 = (g 137 21) from rfl)
      have hq12 : g 137 22 = (g 137 22) := (show g 137 22 = (g 137 22) from rfl)
      refine mz_cv rfl mt_12_217 (by decide) (sc_137 _) rfl (Nat.le_of_ble_eq_true rfl) (by omega) (c_X12_is (by omega) hx hI k_u6 (by have h90 := (show g 137 16 = (g 137 16) from rfl); have h91 := (show g 137 17 = (g 137 17) from rfl); have h92 := (show g 137 18 = (g 137 18) from rfl); have h93 := (show g 137 20 = (g 137 20) from rfl); have h94 := (show g 137 21 = (g 137 21) from rfl); have h95 := (show g 137 22 = (g 137 22) from rfl); omega) (fun v13 l_v13 u_v13 hp14 => ⟨_, rfl, ?_⟩))
      show mm_W d mmX12_which 15 [some (.ref 137), some (.ref q1), some (.int (Int32.ofInt v1))] [.int (Int32.ofInt v13)] (mz_mk g x) Q
      refine mz_if_eq (tgt := 20) rfl rfl (mz_rg l_v13 u_v13) (fun c15_14 => ?_) (fun c15_14 => ?_)
      · skip
        refine mz_iincR (v := v1) (lo2 := [some (.ref 137), some (.ref q1), some (.int (Int32.ofInt (v1 + 1)))]) rfl rfl rfl (Nat.le_of_ble_eq_true rfl) rfl ?_
        refine mz_gt (tgt := 2) rfl rfl ?_
        exact ih3 ((7 - (v1 + 1)).toNat) (by omega) (v1 + 1) rfl (by omega) (by omega)
      · skip
        refine mm_g 1 (pc1 := 19) (lo1 := [some (.ref 137), some (.ref q1), some (.int (Int32.ofInt v1))]) (st1 := [.int (Int32.ofInt v1)]) (H1 := mz_mk g x) rfl ?_
        exact mm_rt rfl rfl (hQ _ (by omega) (by omega) (by omega) (by omega))
  exact L5 _ 0 rfl (by decide) (by decide)
theorem c_X12_isMarked {d : Nat} (hd : 1 ≤ d) {x : mm_X} (hx : mk_x x) {g : mz_G} (hI : mz_inv g) {a1 : Int} (l_a1 : (-2147483648) ≤ a1) (u_a1 : a1 ≤ 2147483647) (p1 : g 137 20 ≤ g 137 16 ∧ g 137 21 = g 137 16 ∧ g 137 16 ≤ g 137 17 ∧ (g 137 18 ≠ 0 → g 137 20 < g 137 16)) {Q : (Option Value ⊕ Nat) → mm_H → Prop} (hQ : ∀ (r : Int), 0 ≤ r → r ≤ 1 → (r = 1 → g 137 22 = 0 ∧ g 137 18 = 3) → Q (.inl (some (.int (Int32.ofInt r)))) (mz_mk g x)) : mm_C d 196 [.ref 137, .int (Int32.ofInt a1)] (mz_mk g x) Q := by
  refine ⟨mmX12_isMarked, [some (.ref 137), some (.int (Int32.ofInt a1))], rfl, rfl, ?_⟩
  have bz0 := mz_rd hI bd_137_16
  have bz1 := mz_rd hI bd_137_17
  have bz2 := mz_rd hI bd_137_18
  have bz3 := mz_rd hI bd_137_20
  have bz4 := mz_rd hI bd_137_21
  have bz5 := mz_rd hI bd_137_22
  refine mm_g 1 (pc1 := 1) (lo1 := [some (.ref 137), some (.int (Int32.ofInt a1))]) (st1 := [.ref 137]) (H1 := mz_mk g x) rfl ?_
  refine mz_fgI (v := (g 137 22)) rfl fd_12_203 (by decide) (sc_137 _) (show g 137 22 = (g 137 22) from rfl) ?_
  refine mz_if_ne (tgt := 32) rfl rfl ⟨by omega, by omega⟩ (fun c4_0 => ?_) (fun c4_0 => ?_)
  · skip
    refine mm_g 1 (pc1 := 33) (lo1 := [some (.ref 137), some (.int (Int32.ofInt a1))]) (st1 := [.int (Int32.ofInt 0)]) (H1 := mz_mk g x) rfl ?_
    exact mz_rtZ rfl (by decide) (by omega) (hQ _ (by decide) (by decide) (by omega))
  · skip
    refine mm_g 1 (pc1 := 8) (lo1 := [some (.ref 137), some (.int (Int32.ofInt a1))]) (st1 := [.ref 137]) (H1 := mz_mk g x) rfl ?_
    refine mz_fgI (v := (g 137 18)) rfl fd_12_177 (by decide) (sc_137 _) (show g 137 18 = (g 137 18) from rfl) ?_
    refine mm_g 1 (pc1 := 12) (lo1 := [some (.ref 137), some (.int (Int32.ofInt a1))]) (st1 := [.int (Int32.ofInt 3), .int (Int32.ofInt (g 137 18))]) (H1 := mz_mk g x) rfl ?_
    refine mz_ic_ne (tgt := 32) rfl rfl ⟨by omega, by omega⟩ ⟨by decide, by decide⟩ (fun c12_0 => ?_) (fun c12_0 => ?_)
    · skip
      refine mm_g 1 (pc1 := 33) (lo1 := [some (.ref 137), some (.int (Int32.ofInt a1))]) (st1 := [.int (Int32.ofInt 0)]) (H1 := mz_mk g x) rfl ?_
      exact mz_rtZ rfl (by decide) (by omega) (hQ _ (by decide) (by decide) (by omega))
    · skip
      refine mm_g 1 (pc1 := 16) (lo1 := [some (.ref 137), some (.int (Int32.ofInt a1))]) (st1 := [.ref 137]) (H1 := mz_mk g x) rfl ?_
      refine mz_fgR (v := 151) rfl fd_12_69 (by decide) (sc_137 _) (rf_137_14 _ _ _) ?_
      refine mm_g 1 (pc1 := 20) (lo1 := [some (.ref 137), some (.int (Int32.ofInt a1))]) (st1 := [.ref 137, .ref 151]) (H1 := mz_mk g x) rfl ?_
      refine mz_fgI (v := (g 137 20)) rfl fd_12_174 (by decide) (sc_137 _) (show g 137 20 = (g 137 20) from rfl) ?_
      refine mz_aI rfl (sh_151 _) (by omega) (by omega) (by decide) hI (ba_151 _) (fun v1 e_v1 l_v1 u_v1 => ?_)
      refine mm_g 1 (pc1 := 25) (lo1 := [some (.ref 137), some (.int (Int32.ofInt a1))]) (st1 := [.int (Int32.ofInt a1), .int (Int32.ofInt v1)]) (H1 := mz_mk g x) rfl ?_
      refine mz_ic_ne (tgt := 32) rfl rfl (mz_rg l_v1 u_v1) (mz_rg l_a1 u_a1) (fun c25_1 => ?_) (fun c25_1 => ?_)
      · skip
        refine mm_g 1 (pc1 := 33) (lo1 := [some (.ref 137), some (.int (Int32.ofInt a1))]) (st1 := [.int (Int32.ofInt 0)]) (H1 := mz_mk g x) rfl ?_
        exact mz_rtZ rfl (by decide) (by omega) (hQ _ (by decide) (by decide) (by omega))
      · skip
        refine mm_g 1 (pc1 := 29) (lo1 := [some (.ref 137), some (.int (Int32.ofInt a1))]) (st1 := [.int (Int32.ofInt 1)]) (H1 := mz_mk g x) rfl ?_
        refine mz_gt (tgt := 33) rfl rfl ?_
        exact mz_rtZ rfl (by decide) (by omega) (hQ _ (by decide) (by decide) (by omega))
def fw_X12_mark (x : mm_X) (a1 : Int) : Nat → Nat → Prop := fun k j => (k = 137 ∧ j = 16) ∨ (k = 137 ∧ j = 20) ∨ (k = 137 ∧ j = 18) ∨ (k = 137 ∧ j = 21) ∨ (k = 137 ∧ j = 19) ∨ (k = 137 ∧ j = 22) ∨ (k = 137 ∧ j = 23)
theorem c_X12_mark {d : Nat} (hd : 13 ≤ d) {x : mm_X} (hx : mk_x x) {g : mz_G} (hI : mz_inv g) {a1 : Int} (l_a1 : (-2147483648) ≤ a1) (u_a1 : a1 ≤ 2147483647) (p1 : g 137 20 ≤ g 137 16 ∧ g 137 21 = g 137 16 ∧ g 137 16 ≤ g 137 17 ∧ (g 137 18 ≠ 0 → g 137 20 < g 137 16)) {Q : (Option Value ⊕ Nat) → mm_H → Prop} (hQ : ∀ (g1 : mz_G), mz_inv g1 → mz_fr (fw_X12_mark x a1) g g1 → (g1 137 20 ≤ g1 137 16 ∧ g1 137 21 = g1 137 16 ∧ g1 137 16 ≤ g1 137 17 ∧ (g1 137 18 ≠ 0 → g1 137 20 < g1 137 16)) → (g 137 20 ≤ g1 137 20) → (g1 137 22 = 0 → g 137 22 = 0) → (g1 137 22 = 0 → g 137 20 < g1 137 20) → Q (.inl none) (mz_mk g1 x)) : mm_C d 197 [.ref 137, .int (Int32.ofInt a1)] (mz_mk g x) Q := by
  refine ⟨mmX12_mark, [some (.ref 137), some (.int (Int32.ofInt a1))], rfl, rfl, ?_⟩
  have bz0 := mz_rd hI bd_137_16
  have bz1 := mz_rd hI bd_137_17
  have bz2 := mz_rd hI bd_137_18
  have bz3 := mz_rd hI bd_137_20
  have bz4 := mz_rd hI bd_137_21
  have bz5 := mz_rd hI bd_137_22
  refine mm_g 1 (pc1 := 1) (lo1 := [some (.ref 137), some (.int (Int32.ofInt a1))]) (st1 := [.ref 137]) (H1 := mz_mk g x) rfl ?_
  refine mz_fgI (v := (g 137 22)) rfl fd_12_203 (by decide) (sc_137 _) (show g 137 22 = (g 137 22) from rfl) ?_
  refine mz_if_ne (tgt := 20) rfl rfl ⟨by omega, by omega⟩ (fun c4_0 => ?_) (fun c4_0 => ?_)
  · skip
    refine mm_g 1 (pc1 := 21) (lo1 := [some (.ref 137), some (.int (Int32.ofInt a1))]) (st1 := [.ref 137]) (H1 := mz_mk g x) rfl ?_
    refine mz_fgI (v := (g 137 22)) rfl fd_12_203 (by decide) (sc_137 _) (show g 137 22 = (g 137 22) from rfl) ?_
    refine mz_if_ne (tgt := 31) rfl rfl ⟨by omega, by omega⟩ (fun c24_0 => ?_) (fun c24_0 => ?_)
    · skip
      exact mm_rt rfl rfl (hQ _ hI (fun _ _ _ => rfl) (by have h90 := (show g 137 16 = (g 137 16) from rfl); have h91 := (show g 137 17 = (g 137 17) from rfl); have h92 := (show g 137 18 = (g 137 18) from rfl); have h93 := (show g 137 20 = (g 137 20) from rfl); have h94 := (show g 137 21 = (g 137 21) from rfl); have h95 := (show g 137 22 = (g 137 22) from rfl); omega) (by have h90 := (show g 137 16 = (g 137 16) from rfl); have h91 := (show g 137 17 = (g 137 17) from rfl); have h92 := (show g 137 18 = (g 137 18) from rfl); have h93 := (show g 137 20 = (g 137 20) from rfl); have h94 := (show g 137 21 = (g 137 21) from rfl); have h95 := (show g 137 22 = (g 137 22) from rfl); omega) (by have h90 := (show g 137 16 = (g 137 16) from rfl); have h91 := (show g 137 17 = (g 137 17) from rfl); have h92 := (show g 137 18 = (g 137 18) from rfl); have h93 := (show g 137 20 = (g 137 20) from rfl); have h94 := (show g 137 21 = (g 137 21) from rfl); have h95 := (show g 137 22 = (g 137 22) from rfl); omega) (by have h90 := (show g 137 16 = (g 137 16) from rfl); have h91 := (show g 137 17 = (g 137 17) from rfl); have h92 := (show g 137 18 = (g 137 18) from rfl); have h93 := (show g 137 20 = (g 137 20) from rfl); have h94 := (show g 137 21 = (g 137 21) from rfl); have h95 := (show g 137 22 = (g 137 22) from rfl); omega))
    · skip
      refine mm_g 1 (pc1 := 28) (lo1 := [some (.ref 137), some (.int (Int32.ofInt a1))]) (st1 := [.ref 137]) (H1 := mz_mk g x) rfl ?_
      have hq1 : g 137 16 = (g 137 16) := (show g 137 16 = (g 137 16) from rfl)
      have hq2 : g 137 17 = (g 137 17) := (show g 137 17 = (g 137 17) from rfl)
      have hq3 : g 137 18 = (g 137 18) := (show g 137 18 = (g 137 18) from rfl)
      have hq4 : g 137 20 = (g 137 20) := (show g 137 20 = (g 137 20) from rfl)
      have hq5 : g 137 21 = (g 137 21) := (show g 137 21 = (g 137 21) from rfl)
      have hq6 : g 137 22 = (g 137 22) := (show g 137 22 = (g 137 22) from rfl)
      refine mz_cv rfl mt_12_228 (by decide) (sc_137 _) rfl (Nat.le_of_ble_eq_true rfl) (by omega) (c_X12_stepOn (by omega) hx hI (by have h90 := (show g 137 16 = (g 137 16) from rfl); have h91 := (show g 137 17 = (g 137 17) from rfl); omega) (fun g7 hIg7 hfg7 hp8 hp9 => ⟨_, rfl, ?_⟩))
      show mm_W d mmX12_mark 31 [some (.ref 137), some (.int (Int32.ofInt a1))] [] (mz_mk g7 x) Q
      have bz_g7_16 := mz_rd hIg7 bd_137_16
      have bz_g7_18 := mz_rd hIg7 bd_137_18
      have bz_g7_20 := mz_rd hIg7 bd_137_20
      have bz_g7_21 := mz_rd hIg7 bd_137_21
      exact mm_rt rfl rfl (hQ _ hIg7 (fun k j hk => (hfg7 k j (fun h => hk (Or.elim h (fun h => (Or.inl h)) (fun h => (Or.elim h (fun h => (Or.inr (Or.inl h))) (fun h => (Or.elim h (fun h => (Or.inr (Or.inr (Or.inl h)))) (fun h => (Or.elim h (fun h => (Or.inr (Or.inr (Or.inr (Or.inl h))))) (fun h => (Or.inr (Or.inr (Or.inr (Or.inr (Or.inl h)))))))))))))))) (by have h90 := (show g7 137 16 = (g7 137 16) from rfl); have h91 := (show g7 137 17 = (g 137 17) from ((hfg7 137 17 (fun h => (Or.elim h (fun h => (absurd (show (137 = 137 ∧ 17 = 16) from h) (by decide))) (fun h => (Or.elim h (fun h => (absurd (show (137 = 137 ∧ 17 = 20) from h) (by decide))) (fun h => (Or.elim h (fun h => (absurd (show (137 = 137 ∧ 17 = 18) from h) (by decide))) (fun h => (Or.elim h (fun h => (absurd (show (137 = 137 ∧ 17 = 21) from h) (by decide))) (fun h => (absurd (show (137 = 137 ∧ 17 = 19) from h) (by decide)))))))))))).trans rfl)); have h92 := (show g7 137 18 = (g7 137 18) from rfl); have h93 := (show g7 137 20 = (g7 137 20) from rfl); have h94 := (show g7 137 21 = (g7 137 21) from rfl); have h95 := (show g7 137 22 = (g 137 22) from ((hfg7 137 22 (fun h => (Or.elim h (fun h => (absurd (show (137 = 137 ∧ 22 = 16) from h) (by decide))) (fun h => (Or.elim h (fun h => (absurd (show (137 = 137 ∧ 22 = 20) from h) (by decide))) (fun h => (Or.elim h (fun h => (absurd (show (137 = 137 ∧ 22 = 18) from h) (by decide))) (fun h => (Or.elim h (fun h => (absurd (show (137 = 137 ∧ 22 = 21) from h) (by decide))) (fun h => (absurd (show (137 = 137 ∧ 22 = 19) from h) (by decide)))))))))))).trans rfl)); omega) (by have h90 := (show g7 137 16 = (g7 137 16) from rfl); have h91 := (show g7 137 17 = (g 137 17) from ((hfg7 137 17 (fun h => (Or.elim h (fun h => (absurd (show (137 = 137 ∧ 17 = 16) from h) (by decide))) (fun h => (Or.elim h (fun h => (absurd (show (137 = 137 ∧ 17 = 20) from h) (by decide))) (fun h => (Or.elim h (fun h => (absurd (show (137 = 137 ∧ 17 = 18) from h) (by decide))) (fun h => (Or.elim h (fun h => (absurd (show (137 = 137 ∧ 17 = 21) from h) (by decide))) (fun h => (absurd (show (137 = 137 ∧ 17 = 19) from h) (by decide)))))))))))).trans rfl)); have h92 := (show g7 137 18 = (g7 137 18) from rfl); have h93 := (show g7 137 20 = (g7 137 20) from rfl); have h94 := (show g7 137 21 = (g7 137 21) from rfl); have h95 := (show g7 137 22 = (g 137 22) from ((hfg7 137 22 (fun h => (Or.elim h (fun h => (absurd (show (137 = 137 ∧ 22 = 16) from h) (by decide))) (fun h => (Or.elim h (fun h => (absurd (show (137 = 137 ∧ 22 = 20) from h) (by decide))) (fun h => (Or.elim h (fun h => (absurd (show (137 = 137 ∧ 22 = 18) from h) (by decide))) (fun h => (Or.elim h (fun h => (absurd (show (137 = 137 ∧ 22 = 21) from h) (by decide))) (fun h => (absurd (show (137 = 137 ∧ 22 = 19) from h) (by decide)))))))))))).trans rfl)); omega) (by have h90 := (show g7 137 16 = (g7 137 16) from rfl); have h91 := (show g7 137 17 = (g 137 17) from ((hfg7 137 17 (fun h => (Or.elim h (fun h => (absurd (show (137 = 137 ∧ 17 = 16) from h) (by decide))) (fun h => (Or.elim h (fun h => (absurd (show (137 = 137 ∧ 17 = 20) from h) (by decide))) (fun h => (Or.elim h (fun h => (absurd (show (137 = 137 ∧ 17 = 18) from h) (by decide))) (fun h => (Or.elim h (fun h => (absurd (show (137 = 137 ∧ 17 = 21) from h) (by decide))) (fun h => (absurd (show (137 = 137 ∧ 17 = 19) from h) (by decide)))))))))))).trans rfl)); have h92 := (show g7 137 18 = (g7 137 18) from rfl); have h93 := (show g7 137 20 = (g7 137 20) from rfl); have h94 := (show g7 137 21 = (g7 137 21) from rfl); have h95 := (show g7 137 22 = (g 137 22) from ((hfg7 137 22 (fun h => (Or.elim h (fun h => (absurd (show (137 = 137 ∧ 22 = 16) from h) (by decide))) (fun h => (Or.elim h (fun h => (absurd (show (137 = 137 ∧ 22 = 20) from h) (by decide))) (fun h => (Or.elim h (fun h => (absurd (show (137 = 137 ∧ 22 = 18) from h) (by decide))) (fun h => (Or.elim h (fun h => (absurd (show (137 = 137 ∧ 22 = 21) from h) (by decide))) (fun h => (absurd (show (137 = 137 ∧ 22 = 19) from h) (by decide)))))))))))).trans rfl)); omega) (by have h90 := (show g7 137 16 = (g7 137 16) from rfl); have h91 := (show g7 137 17 = (g 137 17) from ((hfg7 137 17 (fun h => (Or.elim h (fun h => (absurd (show (137 = 137 ∧ 17 = 16) from h) (by decide))) (fun h => (Or.elim h (fun h => (absurd (show (137 = 137 ∧ 17 = 20) from h) (by decide))) (fun h => (Or.elim h (fun h => (absurd (show (137 = 137 ∧ 17 = 18) from h) (by decide))) (fun h => (Or.elim h (fun h => (absurd (show (137 = 137 ∧ 17 = 21) from h) (by decide))) (fun h => (absurd (show (137 = 137 ∧ 17 = 19) from h) (by decide)))))))))))).trans rfl)); have h92 := (show g7 137 18 = (g7 137 18) from rfl); have h93 := (show g7 137 20 = (g7 137 20) from rfl); have h94 := (show g7 137 21 = (g7 137 21) from rfl); have h95 := (show g7 137 22 = (g 137 22) from ((hfg7 137 22 (fun h => (Or.elim h (fun h => (absurd (show (137 = 137 ∧ 22 = 16) from h) (by decide))) (fun h => (Or.elim h (fun h => (absurd (show (137 = 137 ∧ 22 = 20) from h) (by decide))) (fun h => (Or.elim h (fun h => (absurd (show (137 = 137 ∧ 22 = 18) from h) (by decide))) (fun h => (Or.elim h (fun h => (absurd (show (137 = 137 ∧ 22 = 21) from h) (by decide))) (fun h => (absurd (show (137 = 137 ∧ 22 = 19) from h) (by decide)))))))))))).trans rfl)); omega))
  · skip
    refine mm_g 2 (pc1 := 9) (lo1 := [some (.ref 137), some (.int (Int32.ofInt a1))]) (st1 := [.int (Int32.ofInt a1), .ref 137]) (H1 := mz_mk g x) rfl ?_
    have hq10 : g 137 16 = (g 137 16) := (show g 137 16 = (g 137 16) from rfl)
    have hq11 : g 137 17 = (g 137 17) := (show g 137 17 = (g 137 17) from rfl)
    have hq12 : g 137 18 = (g 137 18) := (show g 137 18 = (g 137 18) from rfl)
    have hq13 : g 137 20 = (g 137 20) := (show g 137 20 = (g 137 20) from rfl)
    have hq14 : g 137 21 = (g 137 21) := (show g 137 21 = (g 137 21) from rfl)
    have hq15 : g 137 22 = (g 137 22) := (show g 137 22 = (g 137 22) from rfl)
    refine mz_cv rfl mt_12_221 (by decide) (sc_137 _) rfl (Nat.le_of_ble_eq_true rfl) (by omega) (c_X12_isMarked (by omega) hx hI l_a1 u_a1 (by have h90 := (show g 137 16 = (g 137 16) from rfl); have h91 := (show g 137 17 = (g 137 17) from rfl); have h92 := (show g 137 18 = (g 137 18) from rfl); have h93 := (show g 137 20 = (g 137 20) from rfl); have h94 := (show g 137 21 = (g 137 21) from rfl); have h95 := (show g 137 22 = (g 137 22) from rfl); omega) (fun v16 l_v16 u_v16 hp17 => ⟨_, rfl, ?_⟩))
    show mm_W d mmX12_mark 12 [some (.ref 137), some (.int (Int32.ofInt a1))] [.int (Int32.ofInt v16)] (mz_mk g x) Q
    refine mz_if_ne (tgt := 20) rfl rfl (mz_rg l_v16 u_v16) (fun c12_17 => ?_) (fun c12_17 => ?_)
    · skip
      refine mm_g 1 (pc1 := 21) (lo1 := [some (.ref 137), some (.int (Int32.ofInt a1))]) (st1 := [.ref 137]) (H1 := mz_mk g x) rfl ?_
      refine mz_fgI (v := (g 137 22)) rfl fd_12_203 (by decide) (sc_137 _) (show g 137 22 = (g 137 22) from rfl) ?_
      refine mz_if_ne (tgt := 31) rfl rfl ⟨by omega, by omega⟩ (fun c24_17 => ?_) (fun c24_17 => ?_)
      · exfalso; omega
      · skip
        refine mm_g 1 (pc1 := 28) (lo1 := [some (.ref 137), some (.int (Int32.ofInt a1))]) (st1 := [.ref 137]) (H1 := mz_mk g x) rfl ?_
        have hq18 : g 137 16 = (g 137 16) := (show g 137 16 = (g 137 16) from rfl)
        have hq19 : g 137 17 = (g 137 17) := (show g 137 17 = (g 137 17) from rfl)
        have hq20 : g 137 18 = (g 137 18) := (show g 137 18 = (g 137 18) from rfl)
        have hq21 : g 137 20 = (g 137 20) := (show g 137 20 = (g 137 20) from rfl)
        have hq22 : g 137 21 = (g 137 21) := (show g 137 21 = (g 137 21) from rfl)
        have hq23 : g 137 22 = (g 137 22) := (show g 137 22 = (g 137 22) from rfl)
        refine mz_cv rfl mt_12_228 (by decide) (sc_137 _) rfl (Nat.le_of_ble_eq_true rfl) (by omega) (c_X12_stepOn (by omega) hx hI (by have h90 := (show g 137 16 = (g 137 16) from rfl); have h91 := (show g 137 17 = (g 137 17) from rfl); omega) (fun g24 hIg24 hfg24 hp25 hp26 => ⟨_, rfl, ?_⟩))
        show mm_W d mmX12_mark 31 [some (.ref 137), some (.int (Int32.ofInt a1))] [] (mz_mk g24 x) Q
        have bz_g24_16 := mz_rd hIg24 bd_137_16
        have bz_g24_18 := mz_rd hIg24 bd_137_18
        have bz_g24_20 := mz_rd hIg24 bd_137_20
        have bz_g24_21 := mz_rd hIg24 bd_137_21
        exact mm_rt rfl rfl (hQ _ hIg24 (fun k j hk => (hfg24 k j (fun h => hk (Or.elim h (fun h => (Or.inl h)) (fun h => (Or.elim h (fun h => (Or.inr (Or.inl h))) (fun h => (Or.elim h (fun h => (Or.inr (Or.inr (Or.inl h)))) (fun h => (Or.elim h (fun h => (Or.inr (Or.inr (Or.inr (Or.inl h))))) (fun h => (Or.inr (Or.inr (Or.inr (Or.inr (Or.inl h)))))))))))))))) (by have h90 := (show g24 137 16 = (g24 137 16) from rfl); have h91 := (show g24 137 17 = (g 137 17) from ((hfg24 137 17 (fun h => (Or.elim h (fun h => (absurd (show (137 = 137 ∧ 17 = 16) from h) (by decide))) (fun h => (Or.elim h (fun h => (absurd (show (137 = 137 ∧ 17 = 20) from h) (by decide))) (fun h => (Or.elim h (fun h => (absurd (show (137 = 137 ∧ 17 = 18) from h) (by decide))) (fun h => (Or.elim h (fun h => (absurd (show (137 = 137 ∧ 17 = 21) from h) (by decide))) (fun h => (absurd (show (137 = 137 ∧ 17 = 19) from h) (by decide)))))))))))).trans rfl)); have h92 := (show g24 137 18 = (g24 137 18) from rfl); have h93 := (show g24 137 20 = (g24 137 20) from rfl); have h94 := (show g24 137 21 = (g24 137 21) from rfl); have h95 := (show g24 137 22 = (g 137 22) from ((hfg24 137 22 (fun h => (Or.elim h (fun h => (absurd (show (137 = 137 ∧ 22 = 16) from h) (by decide))) (fun h => (Or.elim h (fun h => (absurd (show (137 = 137 ∧ 22 = 20) from h) (by decide))) (fun h => (Or.elim h (fun h => (absurd (show (137 = 137 ∧ 22 = 18) from h) (by decide))) (fun h => (Or.elim h (fun h => (absurd (show (137 = 137 ∧ 22 = 21) from h) (by decide))) (fun h => (absurd (show (137 = 137 ∧ 22 = 19) from h) (by decide)))))))))))).trans rfl)); omega) (by have h90 := (show g24 137 16 = (g24 137 16) from rfl); have h91 := (show g24 137 17 = (g 137 17) from ((hfg24 137 17 (fun h => (Or.elim h (fun h => (absurd (show (137 = 137 ∧ 17 = 16) from h) (by decide))) (fun h => (Or.elim h (fun h => (absurd (show (137 = 137 ∧ 17 = 20) from h) (by decide))) (fun h => (Or.elim h (fun h => (absurd (show (137 = 137 ∧ 17 = 18) from h) (by decide))) (fun h => (Or.elim h (fun h => (absurd (show (137 = 137 ∧ 17 = 21) from h) (by decide))) (fun h => (absurd (show (137 = 137 ∧ 17 = 19) from h) (by decide)))))))))))).trans rfl)); have h92 := (show g24 137 18 = (g24 137 18) from rfl); have h93 := (show g24 137 20 = (g24 137 20) from rfl); have h94 := (show g24 137 21 = (g24 137 21) from rfl); have h95 := (show g24 137 22 = (g 137 22) from ((hfg24 137 22 (fun h => (Or.elim h (fun h => (absurd (show (137 = 137 ∧ 22 = 16) from h) (by decide))) (fun h => (Or.elim h (fun h => (absurd (show (137 = 137 ∧ 22 = 20) from h) (by decide))) (fun h => (Or.elim h (fun h => (absurd (show (137 = 137 ∧ 22 = 18) from h) (by decide))) (fun h => (Or.elim h (fun h => (absurd (show (137 = 137 ∧ 22 = 21) from h) (by decide))) (fun h => (absurd (show (137 = 137 ∧ 22 = 19) from h) (by decide)))))))))))).trans rfl)); omega) (by have h90 := (show g24 137 16 = (g24 137 16) from rfl); have h91 := (show g24 137 17 = (g 137 17) from ((hfg24 137 17 (fun h => (Or.elim h (fun h => (absurd (show (137 = 137 ∧ 17 = 16) from h) (by decide))) (fun h => (Or.elim h (fun h => (absurd (show (137 = 137 ∧ 17 = 20) from h) (by decide))) (fun h => (Or.elim h (fun h => (absurd (show (137 = 137 ∧ 17 = 18) from h) (by decide))) (fun h => (Or.elim h (fun h => (absurd (show (137 = 137 ∧ 17 = 21) from h) (by decide))) (fun h => (absurd (show (137 = 137 ∧ 17 = 19) from h) (by decide)))))))))))).trans rfl)); have h92 := (show g24 137 18 = (g24 137 18) from rfl); have h93 := (show g24 137 20 = (g24 137 20) from rfl); have h94 := (show g24 137 21 = (g24 137 21) from rfl); have h95 := (show g24 137 22 = (g 137 22) from ((hfg24 137 22 (fun h => (Or.elim h (fun h => (absurd (show (137 = 137 ∧ 22 = 16) from h) (by decide))) (fun h => (Or.elim h (fun h => (absurd (show (137 = 137 ∧ 22 = 20) from h) (by decide))) (fun h => (Or.elim h (fun h => (absurd (show (137 = 137 ∧ 22 = 18) from h) (by decide))) (fun h => (Or.elim h (fun h => (absurd (show (137 = 137 ∧ 22 = 21) from h) (by decide))) (fun h => (absurd (show (137 = 137 ∧ 22 = 19) from h) (by decide)))))))))))).trans rfl)); omega) (by have h90 := (show g24 137 16 = (g24 137 16) from rfl); have h91 := (show g24 137 17 = (g 137 17) from ((hfg24 137 17 (fun h => (Or.elim h (fun h => (absurd (show (137 = 137 ∧ 17 = 16) from h) (by decide))) (fun h => (Or.elim h (fun h => (absurd (show (137 = 137 ∧ 17 = 20) from h) (by decide))) (fun h => (Or.elim h (fun h => (absurd (show (137 = 137 ∧ 17 = 18) from h) (by decide))) (fun h => (Or.elim h (fun h => (absurd (show (137 = 137 ∧ 17 = 21) from h) (by decide))) (fun h => (absurd (show (137 = 137 ∧ 17 = 19) from h) (by decide)))))))))))).trans rfl)); have h92 := (show g24 137 18 = (g24 137 18) from rfl); have h93 := (show g24 137 20 = (g24 137 20) from rfl); have h94 := (show g24 137 21 = (g24 137 21) from rfl); have h95 := (show g24 137 22 = (g 137 22) from ((hfg24 137 22 (fun h => (Or.elim h (fun h => (absurd (show (137 = 137 ∧ 22 = 16) from h) (by decide))) (fun h => (Or.elim h (fun h => (absurd (show (137 = 137 ∧ 22 = 20) from h) (by decide))) (fun h => (Or.elim h (fun h => (absurd (show (137 = 137 ∧ 22 = 18) from h) (by decide))) (fun h => (Or.elim h (fun h => (absurd (show (137 = 137 ∧ 22 = 21) from h) (by decide))) (fun h => (absurd (show (137 = 137 ∧ 22 = 19) from h) (by decide)))))))))))).trans rfl)); omega))
    · skip
      refine mm_g 2 (pc1 := 17) (lo1 := [some (.ref 137), some (.int (Int32.ofInt a1))]) (st1 := [.int (Int32.ofInt 1), .ref 137]) (H1 := mz_mk g x) rfl ?_
      have hq27 : g 137 22 = (g 137 22) := (show g 137 22 = (g 137 22) from rfl)
      refine mz_cv rfl mt_12_224 (by decide) (sc_137 _) rfl (Nat.le_of_ble_eq_true rfl) (by omega) (c_X12_wrong (by omega) hx hI (by decide) (by decide) (fun g28 hIg28 hfg28 hp29 hp30 => ⟨_, rfl, ?_⟩))
      show mm_W d mmX12_mark 20 [some (.ref 137), some (.int (Int32.ofInt a1))] [] (mz_mk g28 x) Q
      have bz_g28_22 := mz_rd hIg28 bd_137_22
      refine mm_g 1 (pc1 := 21) (lo1 := [some (.ref 137), some (.int (Int32.ofInt a1))]) (st1 := [.ref 137]) (H1 := mz_mk g28 x) rfl ?_
      refine mz_fgI (v := (g28 137 22)) rfl fd_12_203 (by decide) (sc_137 _) (show g28 137 22 = (g28 137 22) from rfl) ?_
      refine mz_if_ne (tgt := 31) rfl rfl ⟨by omega, by omega⟩ (fun c24_30 => ?_) (fun c24_30 => ?_)
      · skip
        exact mm_rt rfl rfl (hQ _ hIg28 (fun k j hk => (hfg28 k j (fun h => hk (Or.elim h (fun h => (Or.inr (Or.inr (Or.inr (Or.inr (Or.inr (Or.inl h))))))) (fun h => (Or.inr (Or.inr (Or.inr (Or.inr (Or.inr (Or.inr h))))))))))) (by have h90 := (show g28 137 16 = (g 137 16) from ((hfg28 137 16 (fun h => (Or.elim h (fun h => (absurd (show (137 = 137 ∧ 16 = 22) from h) (by decide))) (fun h => (absurd (show (137 = 137 ∧ 16 = 23) from h) (by decide)))))).trans rfl)); have h91 := (show g28 137 17 = (g 137 17) from ((hfg28 137 17 (fun h => (Or.elim h (fun h => (absurd (show (137 = 137 ∧ 17 = 22) from h) (by decide))) (fun h => (absurd (show (137 = 137 ∧ 17 = 23) from h) (by decide)))))).trans rfl)); have h92 := (show g28 137 18 = (g 137 18) from ((hfg28 137 18 (fun h => (Or.elim h (fun h => (absurd (show (137 = 137 ∧ 18 = 22) from h) (by decide))) (fun h => (absurd (show (137 = 137 ∧ 18 = 23) from h) (by decide)))))).trans rfl)); have h93 := (show g28 137 20 = (g 137 20) from ((hfg28 137 20 (fun h => (Or.elim h (fun h => (absurd (show (137 = 137 ∧ 20 = 22) from h) (by decide))) (fun h => (absurd (show (137 = 137 ∧ 20 = 23) from h) (by decide)))))).trans rfl)); have h94 := (show g28 137 21 = (g 137 21) from ((hfg28 137 21 (fun h => (Or.elim h (fun h => (absurd (show (137 = 137 ∧ 21 = 22) from h) (by decide))) (fun h => (absurd (show (137 = 137 ∧ 21 = 23) from h) (by decide)))))).trans rfl)); have h95 := (show g28 137 22 = (g28 137 22) from rfl); omega) (by have h90 := (show g28 137 16 = (g 137 16) from ((hfg28 137 16 (fun h => (Or.elim h (fun h => (absurd (show (137 = 137 ∧ 16 = 22) from h) (by decide))) (fun h => (absurd (show (137 = 137 ∧ 16 = 23) from h) (by decide)))))).trans rfl)); have h91 := (show g28 137 17 = (g 137 17) from ((hfg28 137 17 (fun h => (Or.elim h (fun h => (absurd (show (137 = 137 ∧ 17 = 22) from h) (by decide))) (fun h => (absurd (show (137 = 137 ∧ 17 = 23) from h) (by decide)))))).trans rfl)); have h92 := (show g28 137 18 = (g 137 18) from ((hfg28 137 18 (fun h => (Or.elim h (fun h => (absurd (show (137 = 137 ∧ 18 = 22) from h) (by decide))) (fun h => (absurd (show (137 = 137 ∧ 18 = 23) from h) (by decide)))))).trans rfl)); have h93 := (show g28 137 20 = (g 137 20) from ((hfg28 137 20 (fun h => (Or.elim h (fun h => (absurd (show (137 = 137 ∧ 20 = 22) from h) (by decide))) (fun h => (absurd (show (137 = 137 ∧ 20 = 23) from h) (by decide)))))).trans rfl)); have h94 := (show g28 137 21 = (g 137 21) from ((hfg28 137 21 (fun h => (Or.elim h (fun h => (absurd (show (137 = 137 ∧ 21 = 22) from h) (by decide))) (fun h => (absurd (show (137 = 137 ∧ 21 = 23) from h) (by decide)))))).trans rfl)); have h95 := (show g28 137 22 = (g28 137 22) from rfl); omega) (by have h90 := (show g28 137 16 = (g 137 16) from ((hfg28 137 16 (fun h => (Or.elim h (fun h => (absurd (show (137 = 137 ∧ 16 = 22) from h) (by decide))) (fun h => (absurd (show (137 = 137 ∧ 16 = 23) from h) (by decide)))))).trans rfl)); have h91 := (show g28 137 17 = (g 137 17) from ((hfg28 137 17 (fun h => (Or.elim h (fun h => (absurd (show (137 = 137 ∧ 17 = 22) from h) (by decide))) (fun h => (absurd (show (137 = 137 ∧ 17 = 23) from h) (by decide)))))).trans rfl)); have h92 := (show g28 137 18 = (g 137 18) from ((hfg28 137 18 (fun h => (Or.elim h (fun h => (absurd (show (137 = 137 ∧ 18 = 22) from h) (by decide))) (fun h => (absurd (show (137 = 137 ∧ 18 = 23) from h) (by decide)))))).trans rfl)); have h93 := (show g28 137 20 = (g 137 20) from ((hfg28 137 20 (fun h => (Or.elim h (fun h => (absurd (show (137 = 137 ∧ 20 = 22) from h) (by decide))) (fun h => (absurd (show (137 = 137 ∧ 20 = 23) from h) (by decide)))))).trans rfl)); have h94 := (show g28 137 21 = (g 137 21) from ((hfg28 137 21 (fun h => (Or.elim h (fun h => (absurd (show (137 = 137 ∧ 21 = 22) from h) (by decide))) (fun h => (absurd (show (137 = 137 ∧ 21 = 23) from h) (by decide)))))).trans rfl)); have h95 := (show g28 137 22 = (g28 137 22) from rfl); omega) (by have h90 := (show g28 137 16 = (g 137 16) from ((hfg28 137 16 (fun h => (Or.elim h (fun h => (absurd (show (137 = 137 ∧ 16 = 22) from h) (by decide))) (fun h => (absurd (show (137 = 137 ∧ 16 = 23) from h) (by decide)))))).trans rfl)); have h91 := (show g28 137 17 = (g 137 17) from ((hfg28 137 17 (fun h => (Or.elim h (fun h => (absurd (show (137 = 137 ∧ 17 = 22) from h) (by decide))) (fun h => (absurd (show (137 = 137 ∧ 17 = 23) from h) (by decide)))))).trans rfl)); have h92 := (show g28 137 18 = (g 137 18) from ((hfg28 137 18 (fun h => (Or.elim h (fun h => (absurd (show (137 = 137 ∧ 18 = 22) from h) (by decide))) (fun h => (absurd (show (137 = 137 ∧ 18 = 23) from h) (by decide)))))).trans rfl)); have h93 := (show g28 137 20 = (g 137 20) from ((hfg28 137 20 (fun h => (Or.elim h (fun h => (absurd (show (137 = 137 ∧ 20 = 22) from h) (by decide))) (fun h => (absurd (show (137 = 137 ∧ 20 = 23) from h) (by decide)))))).trans rfl)); have h94 := (show g28 137 21 = (g 137 21) from ((hfg28 137 21 (fun h => (Or.elim h (fun h => (absurd (show (137 = 137 ∧ 21 = 22) from h) (by decide))) (fun h => (absurd (show (137 = 137 ∧ 21 = 23) from h) (by decide)))))).trans rfl)); have h95 := (show g28 137 22 = (g28 137 22) from rfl); omega))
      · skip
        refine mm_g 1 (pc1 := 28) (lo1 := [some (.ref 137), some (.int (Int32.ofInt a1))]) (st1 := [.ref 137]) (H1 := mz_mk g28 x) rfl ?_
        have hq31 : g28 137 16 = (g 137 16) := (show g28 137 16 = (g 137 16) from ((hfg28 137 16 (fun h => (Or.elim h (fun h => (absurd (show (137 = 137 ∧ 16 = 22) from h) (by decide))) (fun h => (absurd (show (137 = 137 ∧ 16 = 23) from h) (by decide)))))).trans rfl))
        have hq32 : g28 137 17 = (g 137 17) := (show g28 137 17 = (g 137 17) from ((hfg28 137 17 (fun h => (Or.elim h (fun h => (absurd (show (137 = 137 ∧ 17 = 22) from h) (by decide))) (fun h => (absurd (show (137 = 137 ∧ 17 = 23) from h) (by decide)))))).trans rfl))
        have hq33 : g28 137 18 = (g 137 18) := (show g28 137 18 = (g 137 18) from ((hfg28 137 18 (fun h => (Or.elim h (fun h => (absurd (show (137 = 137 ∧ 18 = 22) from h) (by decide))) (fun h => (absurd (show (137 = 137 ∧ 18 = 23) from h) (by decide)))))).trans rfl))
        have hq34 : g28 137 20 = (g 137 20) := (show g28 137 20 = (g 137 20) from ((hfg28 137 20 (fun h => (Or.elim h (fun h => (absurd (show (137 = 137 ∧ 20 = 22) from h) (by decide))) (fun h => (absurd (show (137 = 137 ∧ 20 = 23) from h) (by decide)))))).trans rfl))
        have hq35 : g28 137 21 = (g 137 21) := (show g28 137 21 = (g 137 21) from ((hfg28 137 21 (fun h => (Or.elim h (fun h => (absurd (show (137 = 137 ∧ 21 = 22) from h) (by decide))) (fun h => (absurd (show (137 = 137 ∧ 21 = 23) from h) (by decide)))))).trans rfl))
        have hq36 : g28 137 22 = (g28 137 22) := (show g28 137 22 = (g28 137 22) from rfl)
        refine mz_cv rfl mt_12_228 (by decide) (sc_137 _) rfl (Nat.le_of_ble_eq_true rfl) (by omega) (c_X12_stepOn (by omega) hx hIg28 (by have h90 := (show g28 137 16 = (g 137 16) from ((hfg28 137 16 (fun h => (Or.elim h (fun h => (absurd (show (137 = 137 ∧ 16 = 22) from h) (by decide))) (fun h => (absurd (show (137 = 137 ∧ 16 = 23) from h) (by decide)))))).trans rfl)); have h91 := (show g28 137 17 = (g 137 17) from ((hfg28 137 17 (fun h => (Or.elim h (fun h => (absurd (show (137 = 137 ∧ 17 = 22) from h) (by decide))) (fun h => (absurd (show (137 = 137 ∧ 17 = 23) from h) (by decide)))))).trans rfl)); omega) (fun g37 hIg37 hfg37 hp38 hp39 => ⟨_, rfl, ?_⟩))
        show mm_W d mmX12_mark 31 [some (.ref 137), some (.int (Int32.ofInt a1))] [] (mz_mk g37 x) Q
        have bz_g37_16 := mz_rd hIg37 bd_137_16
        have bz_g37_18 := mz_rd hIg37 bd_137_18
        have bz_g37_20 := mz_rd hIg37 bd_137_20
        have bz_g37_21 := mz_rd hIg37 bd_137_21
        exact mm_rt rfl rfl (hQ _ hIg37 (fun k j hk => ((hfg37 k j (fun h => hk (Or.elim h (fun h => (Or.inl h)) (fun h => (Or.elim h (fun h => (Or.inr (Or.inl h))) (fun h => (Or.elim h (fun h => (Or.inr (Or.inr (Or.inl h)))) (fun h => (Or.elim h (fun h => (Or.inr (Or.inr (Or.inr (Or.inl h))))) (fun h => (Or.inr (Or.inr (Or.inr (Or.inr (Or.inl h))))))))))))))).trans (hfg28 k j (fun h => hk (Or.elim h (fun h => (Or.inr (Or.inr (Or.inr (Or.inr (Or.inr (Or.inl h))))))) (fun h => (Or.inr (Or.inr (Or.inr (Or.inr (Or.inr (Or.inr h)))))))))))) (by have h90 := (show g37 137 16 = (g37 137 16) from rfl); have h91 := (show g37 137 17 = (g 137 17) from ((hfg37 137 17 (fun h => (Or.elim h (fun h => (absurd (show (137 = 137 ∧ 17 = 16) from h) (by decide))) (fun h => (Or.elim h (fun h => (absurd (show (137 = 137 ∧ 17 = 20) from h) (by decide))) (fun h => (Or.elim h (fun h => (absurd (show (137 = 137 ∧ 17 = 18) from h) (by decide))) (fun h => (Or.elim h (fun h => (absurd (show (137 = 137 ∧ 17 = 21) from h) (by decide))) (fun h => (absurd (show (137 = 137 ∧ 17 = 19) from h) (by decide)))))))))))).trans ((hfg28 137 17 (fun h => (Or.elim h (fun h => (absurd (show (137 = 137 ∧ 17 = 22) from h) (by decide))) (fun h => (absurd (show (137 = 137 ∧ 17 = 23) from h) (by decide)))))).trans rfl))); have h92 := (show g37 137 18 = (g37 137 18) from rfl); have h93 := (show g37 137 20 = (g37 137 20) from rfl); have h94 := (show g37 137 21 = (g37 137 21) from rfl); have h95 := (show g37 137 22 = (g28 137 22) from ((hfg37 137 22 (fun h => (Or.elim h (fun h => (absurd (show (137 = 137 ∧ 22 = 16) from h) (by decide))) (fun h => (Or.elim h (fun h => (absurd (show (137 = 137 ∧ 22 = 20) from h) (by decide))) (fun h => (Or.elim h (fun h => (absurd (show (137 = 137 ∧ 22 = 18) from h) (by decide))) (fun h => (Or.elim h (fun h => (absurd (show (137 = 137 ∧ 22 = 21) from h) (by decide))) (fun h => (absurd (show (137 = 137 ∧ 22 = 19) from h) (by decide)))))))))))).trans rfl)); omega) (by have h90 := (show g37 137 16 = (g37 137 16) from rfl); have h91 := (show g37 137 17 = (g 137 17) from ((hfg37 137 17 (fun h => (Or.elim h (fun h => (absurd (show (137 = 137 ∧ 17 = 16) from h) (by decide))) (fun h => (Or.elim h (fun h => (absurd (show (137 = 137 ∧ 17 = 20) from h) (by decide))) (fun h => (Or.elim h (fun h => (absurd (show (137 = 137 ∧ 17 = 18) from h) (by decide))) (fun h => (Or.elim h (fun h => (absurd (show (137 = 137 ∧ 17 = 21) from h) (by decide))) (fun h => (absurd (show (137 = 137 ∧ 17 = 19) from h) (by decide)))))))))))).trans ((hfg28 137 17 (fun h => (Or.elim h (fun h => (absurd (show (137 = 137 ∧ 17 = 22) from h) (by decide))) (fun h => (absurd (show (137 = 137 ∧ 17 = 23) from h) (by decide)))))).trans rfl))); have h92 := (show g37 137 18 = (g37 137 18) from rfl); have h93 := (show g37 137 20 = (g37 137 20) from rfl); have h94 := (show g37 137 21 = (g37 137 21) from rfl); have h95 := (show g37 137 22 = (g28 137 22) from ((hfg37 137 22 (fun h => (Or.elim h (fun h => (absurd (show (137 = 137 ∧ 22 = 16) from h) (by decide))) (fun h => (Or.elim h (fun h => (absurd (show (137 = 137 ∧ 22 = 20) from h) (by decide))) (fun h => (Or.elim h (fun h => (absurd (show (137 = 137 ∧ 22 = 18) from h) (by decide))) (fun h => (Or.elim h (fun h => (absurd (show (137 = 137 ∧ 22 = 21) from h) (by decide))) (fun h => (absurd (show (137 = 137 ∧ 22 = 19) from h) (by decide)))))))))))).trans rfl)); omega) (by have h90 := (show g37 137 16 = (g37 137 16) from rfl); have h91 := (show g37 137 17 = (g 137 17) from ((hfg37 137 17 (fun h => (Or.elim h (fun h => (absurd (show (137 = 137 ∧ 17 = 16) from h) (by decide))) (fun h => (Or.elim h (fun h => (absurd (show (137 = 137 ∧ 17 = 20) from h) (by decide))) (fun h => (Or.elim h (fun h => (absurd (show (137 = 137 ∧ 17 = 18) from h) (by decide))) (fun h => (Or.elim h (fun h => (absurd (show (137 = 137 ∧ 17 = 21) from h) (by decide))) (fun h => (absurd (show (137 = 137 ∧ 17 = 19) from h) (by decide)))))))))))).trans ((hfg28 137 17 (fun h => (Or.elim h (fun h => (absurd (show (137 = 137 ∧ 17 = 22) from h) (by decide))) (fun h => (absurd (show (137 = 137 ∧ 17 = 23) from h) (by decide)))))).trans rfl))); have h92 := (show g37 137 18 = (g37 137 18) from rfl); have h93 := (show g37 137 20 = (g37 137 20) from rfl); have h94 := (show g37 137 21 = (g37 137 21) from rfl); have h95 := (show g37 137 22 = (g28 137 22) from ((hfg37 137 22 (fun h => (Or.elim h (fun h => (absurd (show (137 = 137 ∧ 22 = 16) from h) (by decide))) (fun h => (Or.elim h (fun h => (absurd (show (137 = 137 ∧ 22 = 20) from h) (by decide))) (fun h => (Or.elim h (fun h => (absurd (show (137 = 137 ∧ 22 = 18) from h) (by decide))) (fun h => (Or.elim h (fun h => (absurd (show (137 = 137 ∧ 22 = 21) from h) (by decide))) (fun h => (absurd (show (137 = 137 ∧ 22 = 19) from h) (by decide)))))))))))).trans rfl)); omega) (by have h90 := (show g37 137 16 = (g37 137 16) from rfl); have h91 := (show g37 137 17 = (g 137 17) from ((hfg37 137 17 (fun h => (Or.elim h (fun h => (absurd (show (137 = 137 ∧ 17 = 16) from h) (by decide))) (fun h => (Or.elim h (fun h => (absurd (show (137 = 137 ∧ 17 = 20) from h) (by decide))) (fun h => (Or.elim h (fun h => (absurd (show (137 = 137 ∧ 17 = 18) from h) (by decide))) (fun h => (Or.elim h (fun h => (absurd (show (137 = 137 ∧ 17 = 21) from h) (by decide))) (fun h => (absurd (show (137 = 137 ∧ 17 = 19) from h) (by decide)))))))))))).trans ((hfg28 137 17 (fun h => (Or.elim h (fun h => (absurd (show (137 = 137 ∧ 17 = 22) from h) (by decide))) (fun h => (absurd (show (137 = 137 ∧ 17 = 23) from h) (by decide)))))).trans rfl))); have h92 := (show g37 137 18 = (g37 137 18) from rfl); have h93 := (show g37 137 20 = (g37 137 20) from rfl); have h94 := (show g37 137 21 = (g37 137 21) from rfl); have h95 := (show g37 137 22 = (g28 137 22) from ((hfg37 137 22 (fun h => (Or.elim h (fun h => (absurd (show (137 = 137 ∧ 22 = 16) from h) (by decide))) (fun h => (Or.elim h (fun h => (absurd (show (137 = 137 ∧ 22 = 20) from h) (by decide))) (fun h => (Or.elim h (fun h => (absurd (show (137 = 137 ∧ 22 = 18) from h) (by decide))) (fun h => (Or.elim h (fun h => (absurd (show (137 = 137 ∧ 22 = 21) from h) (by decide))) (fun h => (absurd (show (137 = 137 ∧ 22 = 19) from h) (by decide)))))))))))).trans rfl)); omega))
def fw_X12_numberNow (x : mm_X) (a1 : Int) (a2 : Int) : Nat → Nat → Prop := fun k j => (k = 137 ∧ j = 22) ∨ (k = 137 ∧ j = 23)
theorem c_X12_numberNow {d : Nat} (hd : 2 ≤ d) {x : mm_X} (hx : mk_x x) {g : mz_G} (hI : mz_inv g) {a1 : Int} (l_a1 : 0 ≤ a1) (u_a1 : a1 ≤ 9999) {a2 : Int} (l_a2 : 0 ≤ a2) (u_a2 : a2 ≤ 9999) (p1 : g 137 20 ≤ g 137 16 ∧ g 137 21 = g 137 16 ∧ g 137 16 ≤ g 137 17 ∧ (g 137 18 ≠ 0 → g 137 20 < g 137 16)) {Q : (Option Value ⊕ Nat) → mm_H → Prop} (hQ : ∀ (r : Int) (g1 : mz_G), mz_inv g1 → mz_fr (fw_X12_numberNow x a1 a2) g g1 → (-2147483648) ≤ r → r ≤ 2147483647 → (g1 137 22 = 0 → g 137 22 = 0 ∧ g 137 18 = 2 ∧ a1 ≤ r ∧ r ≤ a2) → (g1 137 22 ≠ 0 → r = 0) → Q (.inl (some (.int (Int32.ofInt r)))) (mz_mk g1 x)) : mm_C d 198 [.ref 137, .int (Int32.ofInt a1), .int (Int32.ofInt a2)] (mz_mk g x) Q := by
  refine ⟨mmX12_numberNow, [some (.ref 137), some (.int (Int32.ofInt a1)), some (.int (Int32.ofInt a2))], rfl, rfl, ?_⟩
  have bz0 := mz_rd hI bd_137_16
  have bz1 := mz_rd hI bd_137_17
  have bz2 := mz_rd hI bd_137_18
  have bz3 := mz_rd hI bd_137_20
  have bz4 := mz_rd hI bd_137_21
  have bz5 := mz_rd hI bd_137_22
  refine mm_g 1 (pc1 := 1) (lo1 := [some (.ref 137), some (.int (Int32.ofInt a1)), some (.int (Int32.ofInt a2))]) (st1 := [.ref 137]) (H1 := mz_mk g x) rfl ?_
  refine mz_fgI (v := (g 137 22)) rfl fd_12_203 (by decide) (sc_137 _) (show g 137 22 = (g 137 22) from rfl) ?_
  refine mz_if_eq (tgt := 9) rfl rfl ⟨by omega, by omega⟩ (fun c4_0 => ?_) (fun c4_0 => ?_)
  · skip
    refine mm_g 1 (pc1 := 10) (lo1 := [some (.ref 137), some (.int (Int32.ofInt a1)), some (.int (Int32.ofInt a2))]) (st1 := [.ref 137]) (H1 := mz_mk g x) rfl ?_
    refine mz_fgI (v := (g 137 18)) rfl fd_12_177 (by decide) (sc_137 _) (show g 137 18 = (g 137 18) from rfl) ?_
    refine mm_g 1 (pc1 := 14) (lo1 := [some (.ref 137), some (.int (Int32.ofInt a1)), some (.int (Int32.ofInt a2))]) (st1 := [.int (Int32.ofInt 2), .int (Int32.ofInt (g 137 18))]) (H1 := mz_mk g x) rfl ?_
    refine mz_ic_eq (tgt := 25) rfl rfl ⟨by omega, by omega⟩ ⟨by decide, by decide⟩ (fun c14_0 => ?_) (fun c14_0 => ?_)
    · skip
      refine mm_g 1 (pc1 := 26) (lo1 := [some (.ref 137), some (.int (Int32.ofInt a1)), some (.int (Int32.ofInt a2))]) (st1 := [.ref 137]) (H1 := mz_mk g x) rfl ?_
      refine mz_fgI (v := (g 137 21)) rfl fd_12_200 (by decide) (sc_137 _) (show g 137 21 = (g 137 21) from rfl) ?_
      refine mm_g 1 (pc1 := 30) (lo1 := [some (.ref 137), some (.int (Int32.ofInt a1)), some (.int (Int32.ofInt a2))]) (st1 := [.ref 137, .int (Int32.ofInt (g 137 21))]) (H1 := mz_mk g x) rfl ?_
      refine mz_fgI (v := (g 137 20)) rfl fd_12_174 (by decide) (sc_137 _) (show g 137 20 = (g 137 20) from rfl) ?_
      refine mz_isub rfl ?_
      refine mm_g 1 (pc1 := 35) (lo1 := [some (.ref 137), some (.int (Int32.ofInt a1)), some (.int (Int32.ofInt a2))]) (st1 := [.int (Int32.ofInt 4), .int (Int32.ofInt ((g 137 21) - (g 137 20)))]) (H1 := mz_mk g x) rfl ?_
      refine mz_ic_gt (tgt := 54) rfl rfl ⟨by omega, by omega⟩ ⟨by decide, by decide⟩ (fun c35_0 => ?_) (fun c35_0 => ?_)
      · skip
        refine mm_g 2 (pc1 := 56) (lo1 := [some (.ref 137), some (.int (Int32.ofInt a1)), some (.int (Int32.ofInt a2))]) (st1 := [.int (Int32.ofInt 2), .ref 137]) (H1 := mz_mk g x) rfl ?_
        have hq1 : g 137 22 = (g 137 22) := (show g 137 22 = (g 137 22) from rfl)
        refine mz_cv rfl mt_12_224 (by decide) (sc_137 _) rfl (Nat.le_of_ble_eq_true rfl) (by omega) (c_X12_wrong (by omega) hx hI (by decide) (by decide) (fun g2 hIg2 hfg2 hp3 hp4 => ⟨_, rfl, ?_⟩))
        show mm_W d mmX12_numberNow 59 [some (.ref 137), some (.int (Int32.ofInt a1)), some (.int (Int32.ofInt a2))] [] (mz_mk g2 x) Q
        have bz_g2_22 := mz_rd hIg2 bd_137_22
        refine mm_g 1 (pc1 := 60) (lo1 := [some (.ref 137), some (.int (Int32.ofInt a1)), some (.int (Int32.ofInt a2))]) (st1 := [.ref 137]) (H1 := mz_mk g2 x) rfl ?_
        refine mz_fgI (v := (g2 137 22)) rfl fd_12_203 (by decide) (sc_137 _) (show g2 137 22 = (g2 137 22) from rfl) ?_
        refine mz_if_ne (tgt := 73) rfl rfl ⟨by omega, by omega⟩ (fun c63_4 => ?_) (fun c63_4 => ?_)
        · skip
          refine mm_g 1 (pc1 := 74) (lo1 := [some (.ref 137), some (.int (Int32.ofInt a1)), some (.int (Int32.ofInt a2))]) (st1 := [.int (Int32.ofInt 0)]) (H1 := mz_mk g2 x) rfl ?_
          exact mm_rt rfl rfl (hQ _ _ hIg2 (fun k j hk => (hfg2 k j (fun h => hk (Or.elim h (fun h => (Or.inl h)) (fun h => (Or.inr h)))))) (by decide) (by decide) (by have h90 := (show g2 137 16 = (g 137 16) from ((hfg2 137 16 (fun h => (Or.elim h (fun h => (absurd (show (137 = 137 ∧ 16 = 22) from h) (by decide))) (fun h => (absurd (show (137 = 137 ∧ 16 = 23) from h) (by decide)))))).trans rfl)); have h91 := (show g2 137 17 = (g 137 17) from ((hfg2 137 17 (fun h => (Or.elim h (fun h => (absurd (show (137 = 137 ∧ 17 = 22) from h) (by decide))) (fun h => (absurd (show (137 = 137 ∧ 17 = 23) from h) (by decide)))))).trans rfl)); have h92 := (show g2 137 18 = (g 137 18) from ((hfg2 137 18 (fun h => (Or.elim h (fun h => (absurd (show (137 = 137 ∧ 18 = 22) from h) (by decide))) (fun h => (absurd (show (137 = 137 ∧ 18 = 23) from h) (by decide)))))).trans rfl)); have h93 := (show g2 137 20 = (g 137 20) from ((hfg2 137 20 (fun h => (Or.elim h (fun h => (absurd (show (137 = 137 ∧ 20 = 22) from h) (by decide))) (fun h => (absurd (show (137 = 137 ∧ 20 = 23) from h) (by decide)))))).trans rfl)); have h94 := (show g2 137 21 = (g 137 21) from ((hfg2 137 21 (fun h => (Or.elim h (fun h => (absurd (show (137 = 137 ∧ 21 = 22) from h) (by decide))) (fun h => (absurd (show (137 = 137 ∧ 21 = 23) from h) (by decide)))))).trans rfl)); have h95 := (show g2 137 22 = (g2 137 22) from rfl); omega) (by have h90 := (show g2 137 16 = (g 137 16) from ((hfg2 137 16 (fun h => (Or.elim h (fun h => (absurd (show (137 = 137 ∧ 16 = 22) from h) (by decide))) (fun h => (absurd (show (137 = 137 ∧ 16 = 23) from h) (by decide)))))).trans rfl)); have h91 := (show g2 137 17 = (g 137 17) from ((hfg2 137 17 (fun h => (Or.elim h (fun h => (absurd (show (137 = 137 ∧ 17 = 22) from h) (by decide))) (fun h => (absurd (show (137 = 137 ∧ 17 = 23) from h) (by decide)))))).trans rfl)); have h92 := (show g2 137 18 = (g 137 18) from ((hfg2 137 18 (fun h => (Or.elim h (fun h => (absurd (show (137 = 137 ∧ 18 = 22) from h) (by decide))) (fun h => (absurd (show (137 = 137 ∧ 18 = 23) from h) (by decide)))))).trans rfl)); have h93 := (show g2 137 20 = (g 137 20) from ((hfg2 137 20 (fun h => (Or.elim h (fun h => (absurd (show (137 = 137 ∧ 20 = 22) from h) (by decide))) (fun h => (absurd (show (137 = 137 ∧ 20 = 23) from h) (by decide)))))).trans rfl)); have h94 := (show g2 137 21 = (g 137 21) from ((hfg2 137 21 (fun h => (Or.elim h (fun h => (absurd (show (137 = 137 ∧ 21 = 22) from h) (by decide))) (fun h => (absurd (show (137 = 137 ∧ 21 = 23) from h) (by decide)))))).trans rfl)); have h95 := (show g2 137 22 = (g2 137 22) from rfl); omega))
        · skip
          refine mm_g 1 (pc1 := 67) (lo1 := [some (.ref 137), some (.int (Int32.ofInt a1)), some (.int (Int32.ofInt a2))]) (st1 := [.ref 137]) (H1 := mz_mk g2 x) rfl ?_
          refine mz_gI rfl fd_12_187 (by decide) (sc_137 _) hIg2 bd_137_19 (fun v5 e_v5 l_v5 u_v5 => ?_)
          refine mz_gt (tgt := 74) rfl rfl ?_
          exact mm_rt rfl rfl (hQ _ _ hIg2 (fun k j hk => (hfg2 k j (fun h => hk (Or.elim h (fun h => (Or.inl h)) (fun h => (Or.inr h)))))) (by omega) (by omega) (by have h90 := (show g2 137 16 = (g 137 16) from ((hfg2 137 16 (fun h => (Or.elim h (fun h => (absurd (show (137 = 137 ∧ 16 = 22) from h) (by decide))) (fun h => (absurd (show (137 = 137 ∧ 16 = 23) from h) (by decide)))))).trans rfl)); have h91 := (show g2 137 17 = (g 137 17) from ((hfg2 137 17 (fun h => (Or.elim h (fun h => (absurd (show (137 = 137 ∧ 17 = 22) from h) (by decide))) (fun h => (absurd (show (137 = 137 ∧ 17 = 23) from h) (by decide)))))).trans rfl)); have h92 := (show g2 137 18 = (g 137 18) from ((hfg2 137 18 (fun h => (Or.elim h (fun h => (absurd (show (137 = 137 ∧ 18 = 22) from h) (by decide))) (fun h => (absurd (show (137 = 137 ∧ 18 = 23) from h) (by decide)))))).trans rfl)); have h93 := (show g2 137 20 = (g 137 20) from ((hfg2 137 20 (fun h => (Or.elim h (fun h => (absurd (show (137 = 137 ∧ 20 = 22) from h) (by decide))) (fun h => (absurd (show (137 = 137 ∧ 20 = 23) from h) (by decide)))))).trans rfl)); have h94 := (show g2 137 21 = (g 137 21) from ((hfg2 137 21 (fun h => (Or.elim h (fun h => (absurd (show (137 = 137 ∧ 21 = 22) from h) (by decide))) (fun h => (absurd (show (137 = 137 ∧ 21 = 23) from h) (by decide)))))).trans rfl)); have h95 := (show g2 137 22 = (g2 137 22) from rfl); omega) (by have h90 := (show g2 137 16 = (g 137 16) from ((hfg2 137 16 (fun h => (Or.elim h (fun h => (absurd (show (137 = 137 ∧ 16 = 22) from h) (by decide))) (fun h => (absurd (show (137 = 137 ∧ 16 = 23) from h) (by decide)))))).trans rfl)); have h91 := (show g2 137 17 = (g 137 17) from ((hfg2 137 17 (fun h => (Or.elim h (fun h => (absurd (show (137 = 137 ∧ 17 = 22) from h) (by decide))) (fun h => (absurd (show (137 = 137 ∧ 17 = 23) from h) (by decide)))))).trans rfl)); have h92 := (show g2 137 18 = (g 137 18) from ((hfg2 137 18 (fun h => (Or.elim h (fun h => (absurd (show (137 = 137 ∧ 18 = 22) from h) (by decide))) (fun h => (absurd (show (137 = 137 ∧ 18 = 23) from h) (by decide)))))).trans rfl)); have h93 := (show g2 137 20 = (g 137 20) from ((hfg2 137 20 (fun h => (Or.elim h (fun h => (absurd (show (137 = 137 ∧ 20 = 22) from h) (by decide))) (fun h => (absurd (show (137 = 137 ∧ 20 = 23) from h) (by decide)))))).trans rfl)); have h94 := (show g2 137 21 = (g 137 21) from ((hfg2 137 21 (fun h => (Or.elim h (fun h => (absurd (show (137 = 137 ∧ 21 = 22) from h) (by decide))) (fun h => (absurd (show (137 = 137 ∧ 21 = 23) from h) (by decide)))))).trans rfl)); have h95 := (show g2 137 22 = (g2 137 22) from rfl); omega))
      · skip
        refine mm_g 1 (pc1 := 39) (lo1 := [some (.ref 137), some (.int (Int32.ofInt a1)), some (.int (Int32.ofInt a2))]) (st1 := [.ref 137]) (H1 := mz_mk g x) rfl ?_
        refine mz_gI rfl fd_12_187 (by decide) (sc_137 _) hI bd_137_19 (fun v6 e_v6 l_v6 u_v6 => ?_)
        refine mm_g 1 (pc1 := 43) (lo1 := [some (.ref 137), some (.int (Int32.ofInt a1)), some (.int (Int32.ofInt a2))]) (st1 := [.int (Int32.ofInt a1), .int (Int32.ofInt v6)]) (H1 := mz_mk g x) rfl ?_
        refine mz_ic_lt (tgt := 54) rfl rfl (mz_rg l_v6 u_v6) (mz_rg l_a1 u_a1) (fun c43_6 => ?_) (fun c43_6 => ?_)
        · skip
          refine mm_g 2 (pc1 := 56) (lo1 := [some (.ref 137), some (.int (Int32.ofInt a1)), some (.int (Int32.ofInt a2))]) (st1 := [.int (Int32.ofInt 2), .ref 137]) (H1 := mz_mk g x) rfl ?_
          have hq7 : g 137 22 = (g 137 22) := (show g 137 22 = (g 137 22) from rfl)
          refine mz_cv rfl mt_12_224 (by decide) (sc_137 _) rfl (Nat.le_of_ble_eq_true rfl) (by omega) (c_X12_wrong (by omega) hx hI (by decide) (by decide) (fun g8 hIg8 hfg8 hp9 hp10 => ⟨_, rfl, ?_⟩))
          show mm_W d mmX12_numberNow 59 [some (.ref 137), some (.int (Int32.ofInt a1)), some (.int (Int32.ofInt a2))] [] (mz_mk g8 x) Q
          have bz_g8_22 := mz_rd hIg8 bd_137_22
          refine mm_g 1 (pc1 := 60) (lo1 := [some (.ref 137), some (.int (Int32.ofInt a1)), some (.int (Int32.ofInt a2))]) (st1 := [.ref 137]) (H1 := mz_mk g8 x) rfl ?_
          refine mz_fgI (v := (g8 137 22)) rfl fd_12_203 (by decide) (sc_137 _) (show g8 137 22 = (g8 137 22) from rfl) ?_
          refine mz_if_ne (tgt := 73) rfl rfl ⟨by omega, by omega⟩ (fun c63_10 => ?_) (fun c63_10 => ?_)
          · skip
            refine mm_g 1 (pc1 := 74) (lo1 := [some (.ref 137), some (.int (Int32.ofInt a1)), some (.int (Int32.ofInt a2))]) (st1 := [.int (Int32.ofInt 0)]) (H1 := mz_mk g8 x) rfl ?_
            exact mm_rt rfl rfl (hQ _ _ hIg8 (fun k j hk => (hfg8 k j (fun h => hk (Or.elim h (fun h => (Or.inl h)) (fun h => (Or.inr h)))))) (by decide) (by decide) (by have h90 := (show g8 137 16 = (g 137 16) from ((hfg8 137 16 (fun h => (Or.elim h (fun h => (absurd (show (137 = 137 ∧ 16 = 22) from h) (by decide))) (fun h => (absurd (show (137 = 137 ∧ 16 = 23) from h) (by decide)))))).trans rfl)); have h91 := (show g8 137 17 = (g 137 17) from ((hfg8 137 17 (fun h => (Or.elim h (fun h => (absurd (show (137 = 137 ∧ 17 = 22) from h) (by decide))) (fun h => (absurd (show (137 = 137 ∧ 17 = 23) from h) (by decide)))))).trans rfl)); have h92 := (show g8 137 18 = (g 137 18) from ((hfg8 137 18 (fun h => (Or.elim h (fun h => (absurd (show (137 = 137 ∧ 18 = 22) from h) (by decide))) (fun h => (absurd (show (137 = 137 ∧ 18 = 23) from h) (by decide)))))).trans rfl)); have h93 := (show g8 137 20 = (g 137 20) from ((hfg8 137 20 (fun h => (Or.elim h (fun h => (absurd (show (137 = 137 ∧ 20 = 22) from h) (by decide))) (fun h => (absurd (show (137 = 137 ∧ 20 = 23) from h) (by decide)))))).trans rfl)); have h94 := (show g8 137 21 = (g 137 21) from ((hfg8 137 21 (fun h => (Or.elim h (fun h => (absurd (show (137 = 137 ∧ 21 = 22) from h) (by decide))) (fun h => (absurd (show (137 = 137 ∧ 21 = 23) from h) (by decide)))))).trans rfl)); have h95 := (show g8 137 22 = (g8 137 22) from rfl); omega) (by have h90 := (show g8 137 16 = (g 137 16) from ((hfg8 137 16 (fun h => (Or.elim h (fun h => (absurd (show (137 = 137 ∧ 16 = 22) from h) (by decide))) (fun h => (absurd (show (137 = 137 ∧ 16 = 23) from h) (by decide)))))).trans rfl)); have h91 := (show g8 137 17 = (g 137 17) from ((hfg8 137 17 (fun h => (Or.elim h (fun h => (absurd (show (137 = 137 ∧ 17 = 22) from h) (by decide))) (fun h => (absurd (show (137 = 137 ∧ 17 = 23) from h) (by decide)))))).trans rfl)); have h92 := (show g8 137 18 = (g 137 18) from ((hfg8 137 18 (fun h => (Or.elim h (fun h => (absurd (show (137 = 137 ∧ 18 = 22) from h) (by decide))) (fun h => (absurd (show (137 = 137 ∧ 18 = 23) from h) (by decide)))))).trans rfl)); have h93 := (show g8 137 20 = (g 137 20) from ((hfg8 137 20 (fun h => (Or.elim h (fun h => (absurd (show (137 = 137 ∧ 20 = 22) from h) (by decide))) (fun h => (absurd (show (137 = 137 ∧ 20 = 23) from h) (by decide)))))).trans rfl)); have h94 := (show g8 137 21 = (g 137 21) from ((hfg8 137 21 (fun h => (Or.elim h (fun h => (absurd (show (137 = 137 ∧ 21 = 22) from h) (by decide))) (fun h => (absurd (show (137 = 137 ∧ 21 = 23) from h) (by decide)))))).trans rfl)); have h95 := (show g8 137 22 = (g8 137 22) from rfl); omega))
          · skip
            refine mm_g 1 (pc1 := 67) (lo1 := [some (.ref 137), some (.int (Int32.ofInt a1)), some (.int (Int32.ofInt a2))]) (st1 := [.ref 137]) (H1 := mz_mk g8 x) rfl ?_
            refine mz_fgI (v := v6) rfl fd_12_187 (by decide) (sc_137 _) (show g8 137 19 = v6 from ((hfg8 137 19 (fun h => (Or.elim h (fun h => (absurd (show (137 = 137 ∧ 19 = 22) from h) (by decide))) (fun h => (absurd (show (137 = 137 ∧ 19 = 23) from h) (by decide)))))).trans e_v6)) ?_
            refine mz_gt (tgt := 74) rfl rfl ?_
            exact mm_rt rfl rfl (hQ _ _ hIg8 (fun k j hk => (hfg8 k j (fun h => hk (Or.elim h (fun h => (Or.inl h)) (fun h => (Or.inr h)))))) (by omega) (by omega) (by have h90 := (show g8 137 16 = (g 137 16) from ((hfg8 137 16 (fun h => (Or.elim h (fun h => (absurd (show (137 = 137 ∧ 16 = 22) from h) (by decide))) (fun h => (absurd (show (137 = 137 ∧ 16 = 23) from h) (by decide)))))).trans rfl)); have h91 := (show g8 137 17 = (g 137 17) from ((hfg8 137 17 (fun h => (Or.elim h (fun h => (absurd (show (137 = 137 ∧ 17 = 22) from h) (by decide))) (fun h => (absurd (show (137 = 137 ∧ 17 = 23) from h) (by decide)))))).trans rfl)); have h92 := (show g8 137 18 = (g 137 18) from ((hfg8 137 18 (fun h => (Or.elim h (fun h => (absurd (show (137 = 137 ∧ 18 = 22) from h) (by decide))) (fun h => (absurd (show (137 = 137 ∧ 18 = 23) from h) (by decide)))))).trans rfl)); have h93 := (show g8 137 20 = (g 137 20) from ((hfg8 137 20 (fun h => (Or.elim h (fun h => (absurd (show (137 = 137 ∧ 20 = 22) from h) (by decide))) (fun h => (absurd (show (137 = 137 ∧ 20 = 23) from h) (by decide)))))).trans rfl)); have h94 := (show g8 137 21 = (g 137 21) from ((hfg8 137 21 (fun h => (Or.elim h (fun h => (absurd (show (137 = 137 ∧ 21 = 22) from h) (by decide))) (fun h => (absurd (show (137 = 137 ∧ 21 = 23) from h) (by decide)))))).trans rfl)); have h95 := (show g8 137 22 = (g8 137 22) from rfl); omega) (by have h90 := (show g8 137 16 = (g 137 16) from ((hfg8 137 16 (fun h => (Or.elim h (fun h => (absurd (show (137 = 137 ∧ 16 = 22) from h) (by decide))) (fun h => (absurd (show (137 = 137 ∧ 16 = 23) from h) (by decide)))))).trans rfl)); have h91 := (show g8 137 17 = (g 137 17) from ((hfg8 137 17 (fun h => (Or.elim h (fun h => (absurd (show (137 = 137 ∧ 17 = 22) from h) (by decide))) (fun h => (absurd (show (137 = 137 ∧ 17 = 23) from h) (by decide)))))).trans rfl)); have h92 := (show g8 137 18 = (g 137 18) from ((hfg8 137 18 (fun h => (Or.elim h (fun h => (absurd (show (137 = 137 ∧ 18 = 22) from h) (by decide))) (fun h => (absurd (show (137 = 137 ∧ 18 = 23) from h) (by decide)))))).trans rfl)); have h93 := (show g8 137 20 = (g 137 20) from ((hfg8 137 20 (fun h => (Or.elim h (fun h => (absurd (show (137 = 137 ∧ 20 = 22) from h) (by decide))) (fun h => (absurd (show (137 = 137 ∧ 20 = 23) from h) (by decide)))))).trans rfl)); have h94 := (show g8 137 21 = (g 137 21) from ((hfg8 137 21 (fun h => (Or.elim h (fun h => (absurd (show (137 = 137 ∧ 21 = 22) from h) (by decide))) (fun h => (absurd (show (137 = 137 ∧ 21 = 23) from h) (by decide)))))).trans rfl)); have h95 := (show g8 137 22 = (g8 137 22) from rfl); omega))
        · skip
          refine mm_g 1 (pc1 := 47) (lo1 := [some (.ref 137), some (.int (Int32.ofInt a1)), some (.int (Int32.ofInt a2))]) (st1 := [.ref 137]) (H1 := mz_mk g x) rfl ?_
          refine mz_fgI (v := v6) rfl fd_12_187 (by decide) (sc_137 _) e_v6 ?_
          refine mm_g 1 (pc1 := 51) (lo1 := [some (.ref 137), some (.int (Int32.ofInt a1)), some (.int (Int32.ofInt a2))]) (st1 := [.int (Int32.ofInt a2), .int (Int32.ofInt v6)]) (H1 := mz_mk g x) rfl ?_
          refine mz_ic_le (tgt := 59) rfl rfl (mz_rg l_v6 u_v6) (mz_rg l_a2 u_a2) (fun c51_10 => ?_) (fun c51_10 => ?_)
          · skip
            refine mm_g 1 (pc1 := 60) (lo1 := [some (.ref 137), some (.int (Int32.ofInt a1)), some (.int (Int32.ofInt a2))]) (st1 := [.ref 137]) (H1 := mz_mk g x) rfl ?_
            refine mz_fgI (v := (g 137 22)) rfl fd_12_203 (by decide) (sc_137 _) (show g 137 22 = (g 137 22) from rfl) ?_
            refine mz_if_ne (tgt := 73) rfl rfl ⟨by omega, by omega⟩ (fun c63_10 => ?_) (fun c63_10 => ?_)
            · exfalso; omega
            · skip
              refine mm_g 1 (pc1 := 67) (lo1 := [some (.ref 137), some (.int (Int32.ofInt a1)), some (.int (Int32.ofInt a2))]) (st1 := [.ref 137]) (H1 := mz_mk g x) rfl ?_
              refine mz_fgI (v := v6) rfl fd_12_187 (by decide) (sc_137 _) e_v6 ?_
              refine mz_gt (tgt := 74) rfl rfl ?_
              exact mm_rt rfl rfl (hQ _ _ hI (fun _ _ _ => rfl) (by omega) (by omega) (by have h90 := (show g 137 16 = (g 137 16) from rfl); have h91 := (show g 137 17 = (g 137 17) from rfl); have h92 := (show g 137 18 = (g 137 18) from rfl); have h93 := (show g 137 20 = (g 137 20) from rfl); have h94 := (show g 137 21 = (g 137 21) from rfl); have h95 := (show g 137 22 = (g 137 22) from rfl); omega) (by have h90 := (show g 137 16 = (g 137 16) from rfl); have h91 := (show g 137 17 = (g 137 17) from rfl); have h92 := (show g 137 18 = (g 137 18) from rfl); have h93 := (show g 137 20 = (g 137 20) from rfl); have h94 := (show g 137 21 = (g 137 21) from rfl); have h95 := (show g 137 22 = (g 137 22) from rfl); omega))
          · skip
            refine mm_g 2 (pc1 := 56) (lo1 := [some (.ref 137), some (.int (Int32.ofInt a1)), some (.int (Int32.ofInt a2))]) (st1 := [.int (Int32.ofInt 2), .ref 137]) (H1 := mz_mk g x) rfl ?_
            have hq11 : g 137 22 = (g 137 22) := (show g 137 22 = (g 137 22) from rfl)
            refine mz_cv rfl mt_12_224 (by decide) (sc_137 _) rfl (Nat.le_of_ble_eq_true rfl) (by omega) (c_X12_wrong (by omega) hx hI (by decide) (by decide) (fun g12 hIg12 hfg12 hp13 hp14 => ⟨_, rfl, ?_⟩))
            show mm_W d mmX12_numberNow 59 [some (.ref 137), some (.int (Int32.ofInt a1)), some (.int (Int32.ofInt a2))] [] (mz_mk g12 x) Q
            have bz_g12_22 := mz_rd hIg12 bd_137_22
            refine mm_g 1 (pc1 := 60) (lo1 := [some (.ref 137), some (.int (Int32.ofInt a1)), some (.int (Int32.ofInt a2))]) (st1 := [.ref 137]) (H1 := mz_mk g12 x) rfl ?_
            refine mz_fgI (v := (g12 137 22)) rfl fd_12_203 (by decide) (sc_137 _) (show g12 137 22 = (g12 137 22) from rfl) ?_
            refine mz_if_ne (tgt := 73) rfl rfl ⟨by omega, by omega⟩ (fun c63_14 => ?_) (fun c63_14 => ?_)
            · skip
              refine mm_g 1 (pc1 := 74) (lo1 := [some (.ref 137), some (.int (Int32.ofInt a1)), some (.int (Int32.ofInt a2))]) (st1 := [.int (Int32.ofInt 0)]) (H1 := mz_mk g12 x) rfl ?_
              exact mm_rt rfl rfl (hQ _ _ hIg12 (fun k j hk => (hfg12 k j (fun h => hk (Or.elim h (fun h => (Or.inl h)) (fun h => (Or.inr h)))))) (by decide) (by decide) (by have h90 := (show g12 137 16 = (g 137 16) from ((hfg12 137 16 (fun h => (Or.elim h (fun h => (absurd (show (137 = 137 ∧ 16 = 22) from h) (by decide))) (fun h => (absurd (show (137 = 137 ∧ 16 = 23) from h) (by decide)))))).trans rfl)); have h91 := (show g12 137 17 = (g 137 17) from ((hfg12 137 17 (fun h => (Or.elim h (fun h => (absurd (show (137 = 137 ∧ 17 = 22) from h) (by decide))) (fun h => (absurd (show (137 = 137 ∧ 17 = 23) from h) (by decide)))))).trans rfl)); have h92 := (show g12 137 18 = (g 137 18) from ((hfg12 137 18 (fun h => (Or.elim h (fun h => (absurd (show (137 = 137 ∧ 18 = 22) from h) (by decide))) (fun h => (absurd (show (137 = 137 ∧ 18 = 23) from h) (by decide)))))).trans rfl)); have h93 := (show g12 137 20 = (g 137 20) from ((hfg12 137 20 (fun h => (Or.elim h (fun h => (absurd (show (137 = 137 ∧ 20 = 22) from h) (by decide))) (fun h => (absurd (show (137 = 137 ∧ 20 = 23) from h) (by decide)))))).trans rfl)); have h94 := (show g12 137 21 = (g 137 21) from ((hfg12 137 21 (fun h => (Or.elim h (fun h => (absurd (show (137 = 137 ∧ 21 = 22) from h) (by decide))) (fun h => (absurd (show (137 = 137 ∧ 21 = 23) from h) (by decide)))))).trans rfl)); have h95 := (show g12 137 22 = (g12 137 22) from rfl); omega) (by have h90 := (show g12 137 16 = (g 137 16) from ((hfg12 137 16 (fun h => (Or.elim h (fun h => (absurd (show (137 = 137 ∧ 16 = 22) from h) (by decide))) (fun h => (absurd (show (137 = 137 ∧ 16 = 23) from h) (by decide)))))).trans rfl)); have h91 := (show g12 137 17 = (g 137 17) from ((hfg12 137 17 (fun h => (Or.elim h (fun h => (absurd (show (137 = 137 ∧ 17 = 22) from h) (by decide))) (fun h => (absurd (show (137 = 137 ∧ 17 = 23) from h) (by decide)))))).trans rfl)); have h92 := (show g12 137 18 = (g 137 18) from ((hfg12 137 18 (fun h => (Or.elim h (fun h => (absurd (show (137 = 137 ∧ 18 = 22) from h) (by decide))) (fun h => (absurd (show (137 = 137 ∧ 18 = 23) from h) (by decide)))))).trans rfl)); have h93 := (show g12 137 20 = (g 137 20) from ((hfg12 137 20 (fun h => (Or.elim h (fun h => (absurd (show (137 = 137 ∧ 20 = 22) from h) (by decide))) (fun h => (absurd (show (137 = 137 ∧ 20 = 23) from h) (by decide)))))).trans rfl)); have h94 := (show g12 137 21 = (g 137 21) from ((hfg12 137 21 (fun h => (Or.elim h (fun h => (absurd (show (137 = 137 ∧ 21 = 22) from h) (by decide))) (fun h => (absurd (show (137 = 137 ∧ 21 = 23) from h) (by decide)))))).trans rfl)); have h95 := (show g12 137 22 = (g12 137 22) from rfl); omega))
            · skip
              refine mm_g 1 (pc1 := 67) (lo1 := [some (.ref 137), some (.int (Int32.ofInt a1)), some (.int (Int32.ofInt a2))]) (st1 := [.ref 137]) (H1 := mz_mk g12 x) rfl ?_
              refine mz_fgI (v := v6) rfl fd_12_187 (by decide) (sc_137 _) (show g12 137 19 = v6 from ((hfg12 137 19 (fun h => (Or.elim h (fun h => (absurd (show (137 = 137 ∧ 19 = 22) from h) (by decide))) (fun h => (absurd (show (137 = 137 ∧ 19 = 23) from h) (by decide)))))).trans e_v6)) ?_
              refine mz_gt (tgt := 74) rfl rfl ?_
              exact mm_rt rfl rfl (hQ _ _ hIg12 (fun k j hk => (hfg12 k j (fun h => hk (Or.elim h (fun h => (Or.inl h)) (fun h => (Or.inr h)))))) (by omega) (by omega) (by have h90 := (show g12 137 16 = (g 137 16) from ((hfg12 137 16 (fun h => (Or.elim h (fun h => (absurd (show (137 = 137 ∧ 16 = 22) from h) (by decide))) (fun h => (absurd (show (137 = 137 ∧ 16 = 23) from h) (by decide)))))).trans rfl)); have h91 := (show g12 137 17 = (g 137 17) from ((hfg12 137 17 (fun h => (Or.elim h (fun h => (absurd (show (137 = 137 ∧ 17 = 22) from h) (by decide))) (fun h => (absurd (show (137 = 137 ∧ 17 = 23) from h) (by decide)))))).trans rfl)); have h92 := (show g12 137 18 = (g 137 18) from ((hfg12 137 18 (fun h => (Or.elim h (fun h => (absurd (show (137 = 137 ∧ 18 = 22) from h) (by decide))) (fun h => (absurd (show (137 = 137 ∧ 18 = 23) from h) (by decide)))))).trans rfl)); have h93 := (show g12 137 20 = (g 137 20) from ((hfg12 137 20 (fun h => (Or.elim h (fun h => (absurd (show (137 = 137 ∧ 20 = 22) from h) (by decide))) (fun h => (absurd (show (137 = 137 ∧ 20 = 23) from h) (by decide)))))).trans rfl)); have h94 := (show g12 137 21 = (g 137 21) from ((hfg12 137 21 (fun h => (Or.elim h (fun h => (absurd (show (137 = 137 ∧ 21 = 22) from h) (by decide))) (fun h => (absurd (show (137 = 137 ∧ 21 = 23) from h) (by decide)))))).trans rfl)); have h95 := (show g12 137 22 = (g12 137 22) from rfl); omega) (by have h90 := (show g12 137 16 = (g 137 16) from ((hfg12 137 16 (fun h => (Or.elim h (fun h => (absurd (show (137 = 137 ∧ 16 = 22) from h) (by decide))) (fun h => (absurd (show (137 = 137 ∧ 16 = 23) from h) (by decide)))))).trans rfl)); have h91 := (show g12 137 17 = (g 137 17) from ((hfg12 137 17 (fun h => (Or.elim h (fun h => (absurd (show (137 = 137 ∧ 17 = 22) from h) (by decide))) (fun h => (absurd (show (137 = 137 ∧ 17 = 23) from h) (by decide)))))).trans rfl)); have h92 := (show g12 137 18 = (g 137 18) from ((hfg12 137 18 (fun h => (Or.elim h (fun h => (absurd (show (137 = 137 ∧ 18 = 22) from h) (by decide))) (fun h => (absurd (show (137 = 137 ∧ 18 = 23) from h) (by decide)))))).trans rfl)); have h93 := (show g12 137 20 = (g 137 20) from ((hfg12 137 20 (fun h => (Or.elim h (fun h => (absurd (show (137 = 137 ∧ 20 = 22) from h) (by decide))) (fun h => (absurd (show (137 = 137 ∧ 20 = 23) from h) (by decide)))))).trans rfl)); have h94 := (show g12 137 21 = (g 137 21) from ((hfg12 137 21 (fun h => (Or.elim h (fun h => (absurd (show (137 = 137 ∧ 21 = 22) from h) (by decide))) (fun h => (absurd (show (137 = 137 ∧ 21 = 23) from h) (by decide)))))).trans rfl)); have h95 := (show g12 137 22 = (g12 137 22) from rfl); omega))
    · skip
      refine mm_g 2 (pc1 := 19) (lo1 := [some (.ref 137), some (.int (Int32.ofInt a1)), some (.int (Int32.ofInt a2))]) (st1 := [.int (Int32.ofInt 1), .ref 137]) (H1 := mz_mk g x) rfl ?_
      have hq15 : g 137 22 = (g 137 22) := (show g 137 22 = (g 137 22) from rfl)
      refine mz_cv rfl mt_12_224 (by decide) (sc_137 _) rfl (Nat.le_of_ble_eq_true rfl) (by omega) (c_X12_wrong (by omega) hx hI (by decide) (by decide) (fun g16 hIg16 hfg16 hp17 hp18 => ⟨_, rfl, ?_⟩))
      show mm_W d mmX12_numberNow 22 [some (.ref 137), some (.int (Int32.ofInt a1)), some (.int (Int32.ofInt a2))] [] (mz_mk g16 x) Q
      have bz_g16_22 := mz_rd hIg16 bd_137_22
      refine mz_gt (tgt := 59) rfl rfl ?_
      refine mm_g 1 (pc1 := 60) (lo1 := [some (.ref 137), some (.int (Int32.ofInt a1)), some (.int (Int32.ofInt a2))]) (st1 := [.ref 137]) (H1 := mz_mk g16 x) rfl ?_
      refine mz_fgI (v := (g16 137 22)) rfl fd_12_203 (by decide) (sc_137 _) (show g16 137 22 = (g16 137 22) from rfl) ?_
      refine mz_if_ne (tgt := 73) rfl rfl ⟨by omega, by omega⟩ (fun c63_18 => ?_) (fun c63_18 => ?_)
      · skip
        refine mm_g 1 (pc1 := 74) (lo1 := [some (.ref 137), some (.int (Int32.ofInt a1)), some (.int (Int32.ofInt a2))]) (st1 := [.int (Int32.ofInt 0)]) (H1 := mz_mk g16 x) rfl ?_
        exact mm_rt rfl rfl (hQ _ _ hIg16 (fun k j hk => (hfg16 k j (fun h => hk (Or.elim h (fun h => (Or.inl h)) (fun h => (Or.inr h)))))) (by decide) (by decide) (by have h90 := (show g16 137 16 = (g 137 16) from ((hfg16 137 16 (fun h => (Or.elim h (fun h => (absurd (show (137 = 137 ∧ 16 = 22) from h) (by decide))) (fun h => (absurd (show (137 = 137 ∧ 16 = 23) from h) (by decide)))))).trans rfl)); have h91 := (show g16 137 17 = (g 137 17) from ((hfg16 137 17 (fun h => (Or.elim h (fun h => (absurd (show (137 = 137 ∧ 17 = 22) from h) (by decide))) (fun h => (absurd (show (137 = 137 ∧ 17 = 23) from h) (by decide)))))).trans rfl)); have h92 := (show g16 137 18 = (g 137 18) from ((hfg16 137 18 (fun h => (Or.elim h (fun h => (absurd (show (137 = 137 ∧ 18 = 22) from h) (by decide))) (fun h => (absurd (show (137 = 137 ∧ 18 = 23) from h) (by decide)))))).trans rfl)); have h93 := (show g16 137 20 = (g 137 20) from ((hfg16 137 20 (fun h => (Or.elim h (fun h => (absurd (show (137 = 137 ∧ 20 = 22) from h) (by decide))) (fun h => (absurd (show (137 = 137 ∧ 20 = 23) from h) (by decide)))))).trans rfl)); have h94 := (show g16 137 21 = (g 137 21) from ((hfg16 137 21 (fun h => (Or.elim h (fun h => (absurd (show (137 = 137 ∧ 21 = 22) from h) (by decide))) (fun h => (absurd (show (137 = 137 ∧ 21 = 23) from h) (by decide)))))).trans rfl)); have h95 := (show g16 137 22 = (g16 137 22) from rfl); omega) (by have h90 := (show g16 137 16 = (g 137 16) from ((hfg16 137 16 (fun h => (Or.elim h (fun h => (absurd (show (137 = 137 ∧ 16 = 22) from h) (by decide))) (fun h => (absurd (show (137 = 137 ∧ 16 = 23) from h) (by decide)))))).trans rfl)); have h91 := (show g16 137 17 = (g 137 17) from ((hfg16 137 17 (fun h => (Or.elim h (fun h => (absurd (show (137 = 137 ∧ 17 = 22) from h) (by decide))) (fun h => (absurd (show (137 = 137 ∧ 17 = 23) from h) (by decide)))))).trans rfl)); have h92 := (show g16 137 18 = (g 137 18) from ((hfg16 137 18 (fun h => (Or.elim h (fun h => (absurd (show (137 = 137 ∧ 18 = 22) from h) (by decide))) (fun h => (absurd (show (137 = 137 ∧ 18 = 23) from h) (by decide)))))).trans rfl)); have h93 := (show g16 137 20 = (g 137 20) from ((hfg16 137 20 (fun h => (Or.elim h (fun h => (absurd (show (137 = 137 ∧ 20 = 22) from h) (by decide))) (fun h => (absurd (show (137 = 137 ∧ 20 = 23) from h) (by decide)))))).trans rfl)); have h94 := (show g16 137 21 = (g 137 21) from ((hfg16 137 21 (fun h => (Or.elim h (fun h => (absurd (show (137 = 137 ∧ 21 = 22) from h) (by decide))) (fun h => (absurd (show (137 = 137 ∧ 21 = 23) from h) (by decide)))))).trans rfl)); have h95 := (show g16 137 22 = (g16 137 22) from rfl); omega))
      · skip
        refine mm_g 1 (pc1 := 67) (lo1 := [some (.ref 137), some (.int (Int32.ofInt a1)), some (.int (Int32.ofInt a2))]) (st1 := [.ref 137]) (H1 := mz_mk g16 x) rfl ?_
        refine mz_gI rfl fd_12_187 (by decide) (sc_137 _) hIg16 bd_137_19 (fun v19 e_v19 l_v19 u_v19 => ?_)
        refine mz_gt (tgt := 74) rfl rfl ?_
        exact mm_rt rfl rfl (hQ _ _ hIg16 (fun k j hk => (hfg16 k j (fun h => hk (Or.elim h (fun h => (Or.inl h)) (fun h => (Or.inr h)))))) (by omega) (by omega) (by have h90 := (show g16 137 16 = (g 137 16) from ((hfg16 137 16 (fun h => (Or.elim h (fun h => (absurd (show (137 = 137 ∧ 16 = 22) from h) (by decide))) (fun h => (absurd (show (137 = 137 ∧ 16 = 23) from h) (by decide)))))).trans rfl)); have h91 := (show g16 137 17 = (g 137 17) from ((hfg16 137 17 (fun h => (Or.elim h (fun h => (absurd (show (137 = 137 ∧ 17 = 22) from h) (by decide))) (fun h => (absurd (show (137 = 137 ∧ 17 = 23) from h) (by decide)))))).trans rfl)); have h92 := (show g16 137 18 = (g 137 18) from ((hfg16 137 18 (fun h => (Or.elim h (fun h => (absurd (show (137 = 137 ∧ 18 = 22) from h) (by decide))) (fun h => (absurd (show (137 = 137 ∧ 18 = 23) from h) (by decide)))))).trans rfl)); have h93 := (show g16 137 20 = (g 137 20) from ((hfg16 137 20 (fun h => (Or.elim h (fun h => (absurd (show (137 = 137 ∧ 20 = 22) from h) (by decide))) (fun h => (absurd (show (137 = 137 ∧ 20 = 23) from h) (by decide)))))).trans rfl)); have h94 := (show g16 137 21 = (g 137 21) from ((hfg16 137 21 (fun h => (Or.elim h (fun h => (absurd (show (137 = 137 ∧ 21 = 22) from h) (by decide))) (fun h => (absurd (show (137 = 137 ∧ 21 = 23) from h) (by decide)))))).trans rfl)); have h95 := (show g16 137 22 = (g16 137 22) from rfl); omega) (by have h90 := (show g16 137 16 = (g 137 16) from ((hfg16 137 16 (fun h => (Or.elim h (fun h => (absurd (show (137 = 137 ∧ 16 = 22) from h) (by decide))) (fun h => (absurd (show (137 = 137 ∧ 16 = 23) from h) (by decide)))))).trans rfl)); have h91 := (show g16 137 17 = (g 137 17) from ((hfg16 137 17 (fun h => (Or.elim h (fun h => (absurd (show (137 = 137 ∧ 17 = 22) from h) (by decide))) (fun h => (absurd (show (137 = 137 ∧ 17 = 23) from h) (by decide)))))).trans rfl)); have h92 := (show g16 137 18 = (g 137 18) from ((hfg16 137 18 (fun h => (Or.elim h (fun h => (absurd (show (137 = 137 ∧ 18 = 22) from h) (by decide))) (fun h => (absurd (show (137 = 137 ∧ 18 = 23) from h) (by decide)))))).trans rfl)); have h93 := (show g16 137 20 = (g 137 20) from ((hfg16 137 20 (fun h => (Or.elim h (fun h => (absurd (show (137 = 137 ∧ 20 = 22) from h) (by decide))) (fun h => (absurd (show (137 = 137 ∧ 20 = 23) from h) (by decide)))))).trans rfl)); have h94 := (show g16 137 21 = (g 137 21) from ((hfg16 137 21 (fun h => (Or.elim h (fun h => (absurd (show (137 = 137 ∧ 21 = 22) from h) (by decide))) (fun h => (absurd (show (137 = 137 ∧ 21 = 23) from h) (by decide)))))).trans rfl)); have h95 := (show g16 137 22 = (g16 137 22) from rfl); omega))
  · skip
    refine mm_g 1 (pc1 := 8) (lo1 := [some (.ref 137), some (.int (Int32.ofInt a1)), some (.int (Int32.ofInt a2))]) (st1 := [.int (Int32.ofInt 0)]) (H1 := mz_mk g x) rfl ?_
    exact mm_rt rfl rfl (hQ _ _ hI (fun _ _ _ => rfl) (by decide) (by decide) (by have h90 := (show g 137 16 = (g 137 16) from rfl); have h91 := (show g 137 17 = (g 137 17) from rfl); have h92 := (show g 137 18 = (g 137 18) from rfl); have h93 := (show g 137 20 = (g 137 20) from rfl); have h94 := (show g 137 21 = (g 137 21) from rfl); have h95 := (show g 137 22 = (g 137 22) from rfl); omega) (by have h90 := (show g 137 16 = (g 137 16) from rfl); have h91 := (show g 137 17 = (g 137 17) from rfl); have h92 := (show g 137 18 = (g 137 18) from rfl); have h93 := (show g 137 20 = (g 137 20) from rfl); have h94 := (show g 137 21 = (g 137 21) from rfl); have h95 := (show g 137 22 = (g 137 22) from rfl); omega))
def fw_X12_readNumber (x : mm_X) (a1 : Int) (a2 : Int) : Nat → Nat → Prop := fun k j => (k = 137 ∧ j = 22) ∨ (k = 137 ∧ j = 23) ∨ (k = 137 ∧ j = 16) ∨ (k = 137 ∧ j = 20) ∨ (k = 137 ∧ j = 18) ∨ (k = 137 ∧ j = 21) ∨ (k = 137 ∧ j = 19)
theorem c_X12_readNumber {d : Nat} (hd : 13 ≤ d) {x : mm_X} (hx : mk_x x) {g : mz_G} (hI : mz_inv g) {a1 : Int} (l_a1 : 0 ≤ a1) (u_a1 : a1 ≤ 9999) {a2 : Int} (l_a2 : 0 ≤ a2) (u_a2 : a2 ≤ 9999) (p1 : g 137 20 ≤ g 137 16 ∧ g 137 21 = g 137 16 ∧ g 137 16 ≤ g 137 17 ∧ (g 137 18 ≠ 0 → g 137 20 < g 137 16)) {Q : (Option Value ⊕ Nat) → mm_H → Prop} (hQ : ∀ (r : Int) (g1 : mz_G), mz_inv g1 → mz_fr (fw_X12_readNumber x a1 a2) g g1 → (-2147483648) ≤ r → r ≤ 2147483647 → (g1 137 20 ≤ g1 137 16 ∧ g1 137 21 = g1 137 16 ∧ g1 137 16 ≤ g1 137 17 ∧ (g1 137 18 ≠ 0 → g1 137 20 < g1 137 16)) → (g 137 20 ≤ g1 137 20) → (g1 137 22 = 0 → g 137 22 = 0) → (g1 137 22 = 0 → g 137 20 < g1 137 20) → (g1 137 22 = 0 → a1 ≤ r ∧ r ≤ a2) → (g1 137 22 ≠ 0 → r = 0) → Q (.inl (some (.int (Int32.ofInt r)))) (mz_mk g1 x)) : mm_C d 199 [.ref 137, .int (Int32.ofInt a1), .int (Int32.ofInt a2)] (mz_mk g x) Q := by
  refine ⟨mmX12_readNumber, [some (.ref 137), some (.int (Int32.ofInt a1)), some (.int (Int32.ofInt a2)), none], rfl, rfl, ?_⟩
  have bz0 := mz_rd hI bd_137_16
  have bz1 := mz_rd hI bd_137_17
  have bz2 := mz_rd hI bd_137_18
  have bz3 := mz_rd hI bd_137_20
  have bz4 := mz_rd hI bd_137_21
  have bz5 := mz_rd hI bd_137_22
  refine mm_g 3 (pc1 := 3) (lo1 := [some (.ref 137), some (.int (Int32.ofInt a1)), some (.int (Int32.ofInt a2)), none]) (st1 := [.int (Int32.ofInt a2), .int (Int32.ofInt a1), .ref 137]) (H1 := mz_mk g x) rfl ?_
  have hq1 : g 137 16 = (g 137 16) := (show g 137 16 = (g 137 16) from rfl)
  have hq2 : g 137 17 = (g 137 17) := (show g 137 17 = (g 137 17) from rfl)
  have hq3 : g 137 18 = (g 137 18) := (show g 137 18 = (g 137 18) from rfl)
  have hq4 : g 137 20 = (g 137 20) := (show g 137 20 = (g 137 20) from rfl)
  have hq5 : g 137 21 = (g 137 21) := (show g 137 21 = (g 137 21) from rfl)
  have hq6 : g 137 22 = (g 137 22) := (show g 137 22 = (g 137 22) from rfl)
  refine mz_cv rfl mt_12_231 (by decide) (sc_137 _) rfl (Nat.le_of_ble_eq_true rfl) (by omega) (c_X12_numberNow (by omega) hx hI l_a1 u_a1 l_a2 u_a2 (by have h90 := (show g 137 16 = (g 137 16) from rfl); have h91 := (show g 137 17 = (g 137 17) from rfl); have h92 := (show g 137 18 = (g 137 18) from rfl); have h93 := (show g 137 20 = (g 137 20) from rfl); have h94 := (show g 137 21 = (g 137 21) from rfl); have h95 := (show g 137 22 = (g 137 22) from rfl); omega) (fun v7 g8 hIg8 hfg8 l_v7 u_v7 hp9 hp10 => ⟨_, rfl, ?_⟩))
  show mm_W d mmX12_readNumber 6 [some (.ref 137), some (.int (Int32.ofInt a1)), some (.int (Int32.ofInt a2)), none] [.int (Int32.ofInt v7)] (mz_mk g8 x) Q
  have bz_g8_22 := mz_rd hIg8 bd_137_22
  refine mm_g 2 (pc1 := 8) (lo1 := [some (.ref 137), some (.int (Int32.ofInt a1)), some (.int (Int32.ofInt a2)), some (.int (Int32.ofInt v7))]) (st1 := [.ref 137]) (H1 := mz_mk g8 x) rfl ?_
  refine mz_fgI (v := (g8 137 22)) rfl fd_12_203 (by decide) (sc_137 _) (show g8 137 22 = (g8 137 22) from rfl) ?_
  refine mz_if_ne (tgt := 18) rfl rfl ⟨by omega, by omega⟩ (fun c11_10 => ?_) (fun c11_10 => ?_)
  · skip
    refine mm_g 1 (pc1 := 19) (lo1 := [some (.ref 137), some (.int (Int32.ofInt a1)), some (.int (Int32.ofInt a2)), some (.int (Int32.ofInt v7))]) (st1 := [.int (Int32.ofInt v7)]) (H1 := mz_mk g8 x) rfl ?_
    exact mm_rt rfl rfl (hQ _ _ hIg8 (fun k j hk => (hfg8 k j (fun h => hk (Or.elim h (fun h => (Or.inl h)) (fun h => (Or.inr (Or.inl h))))))) (by omega) (by omega) (by have h90 := (show g8 137 16 = (g 137 16) from ((hfg8 137 16 (fun h => (Or.elim h (fun h => (absurd (show (137 = 137 ∧ 16 = 22) from h) (by decide))) (fun h => (absurd (show (137 = 137 ∧ 16 = 23) from h) (by decide)))))).trans rfl)); have h91 := (show g8 137 17 = (g 137 17) from ((hfg8 137 17 (fun h => (Or.elim h (fun h => (absurd (show (137 = 137 ∧ 17 = 22) from h) (by decide))) (fun h => (absurd (show (137 = 137 ∧ 17 = 23) from h) (by decide)))))).trans rfl)); have h92 := (show g8 137 18 = (g 137 18) from ((hfg8 137 18 (fun h => (Or.elim h (fun h => (absurd (show (137 = 137 ∧ 18 = 22) from h) (by decide))) (fun h => (absurd (show (137 = 137 ∧ 18 = 23) from h) (by decide)))))).trans rfl)); have h93 := (show g8 137 20 = (g 137 20) from ((hfg8 137 20 (fun h => (Or.elim h (fun h => (absurd (show (137 = 137 ∧ 20 = 22) from h) (by decide))) (fun h => (absurd (show (137 = 137 ∧ 20 = 23) from h) (by decide)))))).trans rfl)); have h94 := (show g8 137 21 = (g 137 21) from ((hfg8 137 21 (fun h => (Or.elim h (fun h => (absurd (show (137 = 137 ∧ 21 = 22) from h) (by decide))) (fun h => (absurd (show (137 = 137 ∧ 21 = 23) from h) (by decide)))))).trans rfl)); have h95 := (show g8 137 22 = (g8 137 22) from rfl); omega) (by have h90 := (show g8 137 16 = (g 137 16) from ((hfg8 137 16 (fun h => (Or.elim h (fun h => (absurd (show (137 = 137 ∧ 16 = 22) from h) (by decide))) (fun h => (absurd (show (137 = 137 ∧ 16 = 23) from h) (by decide)))))).trans rfl)); have h91 := (show g8 137 17 = (g 137 17) from ((hfg8 137 17 (fun h => (Or.elim h (fun h => (absurd (show (137 = 137 ∧ 17 = 22) from h) (by decide))) (fun h => (absurd (show (137 = 137 ∧ 17 = 23) from h) (by decide)))))).trans rfl)); have h92 := (show g8 137 18 = (g 137 18) from ((hfg8 137 18 (fun h => (Or.elim h (fun h => (absurd (show (137 = 137 ∧ 18 = 22) from h) (by decide))) (fun h => (absurd (show (137 = 137 ∧ 18 = 23) from h) (by decide)))))).trans rfl)); have h93 := (show g8 137 20 = (g 137 20) from ((hfg8 137 20 (fun h => (Or.elim h (fun h => (absurd (show (137 = 137 ∧ 20 = 22) from h) (by decide))) (fun h => (absurd (show (137 = 137 ∧ 20 = 23) from h) (by decide)))))).trans rfl)); have h94 := (show g8 137 21 = (g 137 21) from ((hfg8 137 21 (fun h => (Or.elim h (fun h => (absurd (show (137 = 137 ∧ 21 = 22) from h) (by decide))) (fun h => (absurd (show (137 = 137 ∧ 21 = 23) from h) (by decide)))))).trans rfl)); have h95 := (show g8 137 22 = (g8 137 22) from rfl); omega) (by have h90 := (show g8 137 16 = (g 137 16) from ((hfg8 137 16 (fun h => (Or.elim h (fun h => (absurd (show (137 = 137 ∧ 16 = 22) from h) (by decide))) (fun h => (absurd (show (137 = 137 ∧ 16 = 23) from h) (by decide)))))).trans rfl)); have h91 := (show g8 137 17 = (g 137 17) from ((hfg8 137 17 (fun h => (Or.elim h (fun h => (absurd (show (137 = 137 ∧ 17 = 22) from h) (by decide))) (fun h => (absurd (show (137 = 137 ∧ 17 = 23) from h) (by decide)))))).trans rfl)); have h92 := (show g8 137 18 = (g 137 18) from ((hfg8 137 18 (fun h => (Or.elim h (fun h => (absurd (show (137 = 137 ∧ 18 = 22) from h) (by decide))) (fun h => (absurd (show (137 = 137 ∧ 18 = 23) from h) (by decide)))))).trans rfl)); have h93 := (show g8 137 20 = (g 137 20) from ((hfg8 137 20 (fun h => (Or.elim h (fun h => (absurd (show (137 = 137 ∧ 20 = 22) from h) (by decide))) (fun h => (absurd (show (137 = 137 ∧ 20 = 23) from h) (by decide)))))).trans rfl)); have h94 := (show g8 137 21 = (g 137 21) from ((hfg8 137 21 (fun h => (Or.elim h (fun h => (absurd (show (137 = 137 ∧ 21 = 22) from h) (by decide))) (fun h => (absurd (show (137 = 137 ∧ 21 = 23) from h) (by decide)))))).trans rfl)); have h95 := (show g8 137 22 = (g8 137 22) from rfl); omega) (by have h90 := (show g8 137 16 = (g 137 16) from ((hfg8 137 16 (fun h => (Or.elim h (fun h => (absurd (show (137 = 137 ∧ 16 = 22) from h) (by decide))) (fun h => (absurd (show (137 = 137 ∧ 16 = 23) from h) (by decide)))))).trans rfl)); have h91 := (show g8 137 17 = (g 137 17) from ((hfg8 137 17 (fun h => (Or.elim h (fun h => (absurd (show (137 = 137 ∧ 17 = 22) from h) (by decide))) (fun h => (absurd (show (137 = 137 ∧ 17 = 23) from h) (by decide)))))).trans rfl)); have h92 := (show g8 137 18 = (g 137 18) from ((hfg8 137 18 (fun h => (Or.elim h (fun h => (absurd (show (137 = 137 ∧ 18 = 22) from h) (by decide))) (fun h => (absurd (show (137 = 137 ∧ 18 = 23) from h) (by decide)))))).trans rfl)); have h93 := (show g8 137 20 = (g 137 20) from ((hfg8 137 20 (fun h => (Or.elim h (fun h => (absurd (show (137 = 137 ∧ 20 = 22) from h) (by decide))) (fun h => (absurd (show (137 = 137 ∧ 20 = 23) from h) (by decide)))))).trans rfl)); have h94 := (show g8 137 21 = (g 137 21) from ((hfg8 137 21 (fun h => (Or.elim h (fun h => (absurd (show (137 = 137 ∧ 21 = 22) from h) (by decide))) (fun h => (absurd (show (137 = 137 ∧ 21 = 23) from h) (by decide)))))).trans rfl)); have h95 := (show g8 137 22 = (g8 137 22) from rfl); omega) (by have h90 := (show g8 137 16 = (g 137 16) from ((hfg8 137 16 (fun h => (Or.elim h (fun h => (absurd (show (137 = 137 ∧ 16 = 22) from h) (by decide))) (fun h => (absurd (show (137 = 137 ∧ 16 = 23) from h) (by decide)))))).trans rfl)); have h91 := (show g8 137 17 = (g 137 17) from ((hfg8 137 17 (fun h => (Or.elim h (fun h => (absurd (show (137 = 137 ∧ 17 = 22) from h) (by decide))) (fun h => (absurd (show (137 = 137 ∧ 17 = 23) from h) (by decide)))))).trans rfl)); have h92 := (show g8 137 18 = (g 137 18) from ((hfg8 137 18 (fun h => (Or.elim h (fun h => (absurd (show (137 = 137 ∧ 18 = 22) from h) (by decide))) (fun h => (absurd (show (137 = 137 ∧ 18 = 23) from h) (by decide)))))).trans rfl)); have h93 := (show g8 137 20 = (g 137 20) from ((hfg8 137 20 (fun h => (Or.elim h (fun h => (absurd (show (137 = 137 ∧ 20 = 22) from h) (by decide))) (fun h => (absurd (show (137 = 137 ∧ 20 = 23) from h) (by decide)))))).trans rfl)); have h94 := (show g8 137 21 = (g 137 21) from ((hfg8 137 21 (fun h => (Or.elim h (fun h => (absurd (show (137 = 137 ∧ 21 = 22) from h) (by decide))) (fun h => (absurd (show (137 = 137 ∧ 21 = 23) from h) (by decide)))))).trans rfl)); have h95 := (show g8 137 22 = (g8 137 22) from rfl); omega) (by have h90 := (show g8 137 16 = (g 137 16) from ((hfg8 137 16 (fun h => (Or.elim h (fun h => (absurd (show (137 = 137 ∧ 16 = 22) from h) (by decide))) (fun h => (absurd (show (137 = 137 ∧ 16 = 23) from h) (by decide)))))).trans rfl)); have h91 := (show g8 137 17 = (g 137 17) from ((hfg8 137 17 (fun h => (Or.elim h (fun h => (absurd (show (137 = 137 ∧ 17 = 22) from h) (by decide))) (fun h => (absurd (show (137 = 137 ∧ 17 = 23) from h) (by decide)))))).trans rfl)); have h92 := (show g8 137 18 = (g 137 18) from ((hfg8 137 18 (fun h => (Or.elim h (fun h => (absurd (show (137 = 137 ∧ 18 = 22) from h) (by decide))) (fun h => (absurd (show (137 = 137 ∧ 18 = 23) from h) (by decide)))))).trans rfl)); have h93 := (show g8 137 20 = (g 137 20) from ((hfg8 137 20 (fun h => (Or.elim h (fun h => (absurd (show (137 = 137 ∧ 20 = 22) from h) (by decide))) (fun h => (absurd (show (137 = 137 ∧ 20 = 23) from h) (by decide)))))).trans rfl)); have h94 := (show g8 137 21 = (g 137 21) from ((hfg8 137 21 (fun h => (Or.elim h (fun h => (absurd (show (137 = 137 ∧ 21 = 22) from h) (by decide))) (fun h => (absurd (show (137 = 137 ∧ 21 = 23) from h) (by decide)))))).trans rfl)); have h95 := (show g8 137 22 = (g8 137 22) from rfl); omega))
  · skip
    refine mm_g 1 (pc1 := 15) (lo1 := [some (.ref 137), some (.int (Int32.ofInt a1)), some (.int (Int32.ofInt a2)), some (.int (Int32.ofInt v7))]) (st1 := [.ref 137]) (H1 := mz_mk g8 x) rfl ?_
    have hq11 : g8 137 16 = (g 137 16) := (show g8 137 16 = (g 137 16) from ((hfg8 137 16 (fun h => (Or.elim h (fun h => (absurd (show (137 = 137 ∧ 16 = 22) from h) (by decide))) (fun h => (absurd (show (137 = 137 ∧ 16 = 23) from h) (by decide)))))).trans rfl))
    have hq12 : g8 137 17 = (g 137 17) := (show g8 137 17 = (g 137 17) from ((hfg8 137 17 (fun h => (Or.elim h (fun h => (absurd (show (137 = 137 ∧ 17 = 22) from h) (by decide))) (fun h => (absurd (show (137 = 137 ∧ 17 = 23) from h) (by decide)))))).trans rfl))
    have hq13 : g8 137 18 = (g 137 18) := (show g8 137 18 = (g 137 18) from ((hfg8 137 18 (fun h => (Or.elim h (fun h => (absurd (show (137 = 137 ∧ 18 = 22) from h) (by decide))) (fun h => (absurd (show (137 = 137 ∧ 18 = 23) from h) (by decide)))))).trans rfl))
    have hq14 : g8 137 20 = (g 137 20) := (show g8 137 20 = (g 137 20) from ((hfg8 137 20 (fun h => (Or.elim h (fun h => (absurd (show (137 = 137 ∧ 20 = 22) from h) (by decide))) (fun h => (absurd (show (137 = 137 ∧ 20 = 23) from h) (by decide)))))).trans rfl))
    have hq15 : g8 137 21 = (g 137 21) := (show g8 137 21 = (g 137 21) from ((hfg8 137 21 (fun h => (Or.elim h (fun h => (absurd (show (137 = 137 ∧ 21 = 22) from h) (by decide))) (fun h => (absurd (show (137 = 137 ∧ 21 = 23) from h) (by decide)))))).trans rfl))
    have hq16 : g8 137 22 = (g8 137 22) := (show g8 137 22 = (g8 137 22) from rfl)
    refine mz_cv rfl mt_12_228 (by decide) (sc_137 _) rfl (Nat.le_of_ble_eq_true rfl) (by omega) (c_X12_stepOn (by omega) hx hIg8 (by have h90 := (show g8 137 16 = (g 137 16) from ((hfg8 137 16 (fun h => (Or.elim h (fun h => (absurd (show (137 = 137 ∧ 16 = 22) from h) (by decide))) (fun h => (absurd (show (137 = 137 ∧ 16 = 23) from h) (by decide)))))).trans rfl)); have h91 := (show g8 137 17 = (g 137 17) from ((hfg8 137 17 (fun h => (Or.elim h (fun h => (absurd (show (137 = 137 ∧ 17 = 22) from h) (by decide))) (fun h => (absurd (show (137 = 137 ∧ 17 = 23) from h) (by decide)))))).trans rfl)); omega) (fun g17 hIg17 hfg17 hp18 hp19 => ⟨_, rfl, ?_⟩))
    show mm_W d mmX12_readNumber 18 [some (.ref 137), some (.int (Int32.ofInt a1)), some (.int (Int32.ofInt a2)), some (.int (Int32.ofInt v7))] [] (mz_mk g17 x) Q
    have bz_g17_16 := mz_rd hIg17 bd_137_16
    have bz_g17_18 := mz_rd hIg17 bd_137_18
    have bz_g17_20 := mz_rd hIg17 bd_137_20
    have bz_g17_21 := mz_rd hIg17 bd_137_21
    refine mm_g 1 (pc1 := 19) (lo1 := [some (.ref 137), some (.int (Int32.ofInt a1)), some (.int (Int32.ofInt a2)), some (.int (Int32.ofInt v7))]) (st1 := [.int (Int32.ofInt v7)]) (H1 := mz_mk g17 x) rfl ?_
    exact mm_rt rfl rfl (hQ _ _ hIg17 (fun k j hk => ((hfg17 k j (fun h => hk (Or.elim h (fun h => (Or.inr (Or.inr (Or.inl h)))) (fun h => (Or.elim h (fun h => (Or.inr (Or.inr (Or.inr (Or.inl h))))) (fun h => (Or.elim h (fun h => (Or.inr (Or.inr (Or.inr (Or.inr (Or.inl h)))))) (fun h => (Or.elim h (fun h => (Or.inr (Or.inr (Or.inr (Or.inr (Or.inr (Or.inl h))))))) (fun h => (Or.inr (Or.inr (Or.inr (Or.inr (Or.inr (Or.inr h)))))))))))))))).trans (hfg8 k j (fun h => hk (Or.elim h (fun h => (Or.inl h)) (fun h => (Or.inr (Or.inl h)))))))) (by omega) (by omega) (by have h90 := (show g17 137 16 = (g17 137 16) from rfl); have h91 := (show g17 137 17 = (g 137 17) from ((hfg17 137 17 (fun h => (Or.elim h (fun h => (absurd (show (137 = 137 ∧ 17 = 16) from h) (by decide))) (fun h => (Or.elim h (fun h => (absurd (show (137 = 137 ∧ 17 = 20) from h) (by decide))) (fun h => (Or.elim h (fun h => (absurd (show (137 = 137 ∧ 17 = 18) from h) (by decide))) (fun h => (Or.elim h (fun h => (absurd (show (137 = 137 ∧ 17 = 21) from h) (by decide))) (fun h => (absurd (show (137 = 137 ∧ 17 = 19) from h) (by decide)))))))))))).trans ((hfg8 137 17 (fun h => (Or.elim h (fun h => (absurd (show (137 = 137 ∧ 17 = 22) from h) (by decide))) (fun h => (absurd (show (137 = 137 ∧ 17 = 23) from h) (by decide)))))).trans rfl))); have h92 := (show g17 137 18 = (g17 137 18) from rfl); have h93 := (show g17 137 20 = (g17 137 20) from rfl); have h94 := (show g17 137 21 = (g17 137 21) from rfl); have h95 := (show g17 137 22 = (g8 137 22) from ((hfg17 137 22 (fun h => (Or.elim h (fun h => (absurd (show (137 = 137 ∧ 22 = 16) from h) (by decide))) (fun h => (Or.elim h (fun h => (absurd (show (137 = 137 ∧ 22 = 20) from h) (by decide))) (fun h => (Or.elim h (fun h => (absurd (show (137 = 137 ∧ 22 = 18) from h) (by decide))) (fun h => (Or.elim h (fun h => (absurd (show (137 = 137 ∧ 22 = 21) from h) (by decide))) (fun h => (absurd (show (137 = 137 ∧ 22 = 19) from h) (by decide)))))))))))).trans rfl)); omega) (by have h90 := (show g17 137 16 = (g17 137 16) from rfl); have h91 := (show g17 137 17 = (g 137 17) from ((hfg17 137 17 (fun h => (Or.elim h (fun h => (absurd (show (137 = 137 ∧ 17 = 16) from h) (by decide))) (fun h => (Or.elim h (fun h => (absurd (show (137 = 137 ∧ 17 = 20) from h) (by decide))) (fun h => (Or.elim h (fun h => (absurd (show (137 = 137 ∧ 17 = 18) from h) (by decide))) (fun h => (Or.elim h (fun h => (absurd (show (137 = 137 ∧ 17 = 21) from h) (by decide))) (fun h => (absurd (show (137 = 137 ∧ 17 = 19) from h) (by decide)))))))))))).trans ((hfg8 137 17 (fun h => (Or.elim h (fun h => (absurd (show (137 = 137 ∧ 17 = 22) from h) (by decide))) (fun h => (absurd (show (137 = 137 ∧ 17 = 23) from h) (by decide)))))).trans rfl))); have h92 := (show g17 137 18 = (g17 137 18) from rfl); have h93 := (show g17 137 20 = (g17 137 20) from rfl); have h94 := (show g17 137 21 = (g17 137 21) from rfl); have h95 := (show g17 137 22 = (g8 137 22) from ((hfg17 137 22 (fun h => (Or.elim h (fun h => (absurd (show (137 = 137 ∧ 22 = 16) from h) (by decide))) (fun h => (Or.elim h (fun h => (absurd (show (137 = 137 ∧ 22 = 20) from h) (by decide))) (fun h => (Or.elim h (fun h => (absurd (show (137 = 137 ∧ 22 = 18) from h) (by decide))) (fun h => (Or.elim h (fun h => (absurd (show (137 = 137 ∧ 22 = 21) from h) (by decide))) (fun h => (absurd (show (137 = 137 ∧ 22 = 19) from h) (by decide)))))))))))).trans rfl)); omega) (by have h90 := (show g17 137 16 = (g17 137 16) from rfl); have h91 := (show g17 137 17 = (g 137 17) from ((hfg17 137 17 (fun h => (Or.elim h (fun h => (absurd (show (137 = 137 ∧ 17 = 16) from h) (by decide))) (fun h => (Or.elim h (fun h => (absurd (show (137 = 137 ∧ 17 = 20) from h) (by decide))) (fun h => (Or.elim h (fun h => (absurd (show (137 = 137 ∧ 17 = 18) from h) (by decide))) (fun h => (Or.elim h (fun h => (absurd (show (137 = 137 ∧ 17 = 21) from h) (by decide))) (fun h => (absurd (show (137 = 137 ∧ 17 = 19) from h) (by decide)))))))))))).trans ((hfg8 137 17 (fun h => (Or.elim h (fun h => (absurd (show (137 = 137 ∧ 17 = 22) from h) (by decide))) (fun h => (absurd (show (137 = 137 ∧ 17 = 23) from h) (by decide)))))).trans rfl))); have h92 := (show g17 137 18 = (g17 137 18) from rfl); have h93 := (show g17 137 20 = (g17 137 20) from rfl); have h94 := (show g17 137 21 = (g17 137 21) from rfl); have h95 := (show g17 137 22 = (g8 137 22) from ((hfg17 137 22 (fun h => (Or.elim h (fun h => (absurd (show (137 = 137 ∧ 22 = 16) from h) (by decide))) (fun h => (Or.elim h (fun h => (absurd (show (137 = 137 ∧ 22 = 20) from h) (by decide))) (fun h => (Or.elim h (fun h => (absurd (show (137 = 137 ∧ 22 = 18) from h) (by decide))) (fun h => (Or.elim h (fun h => (absurd (show (137 = 137 ∧ 22 = 21) from h) (by decide))) (fun h => (absurd (show (137 = 137 ∧ 22 = 19) from h) (by decide)))))))))))).trans rfl)); omega) (by have h90 := (show g17 137 16 = (g17 137 16) from rfl); have h91 := (show g17 137 17 = (g 137 17) from ((hfg17 137 17 (fun h => (Or.elim h (fun h => (absurd (show (137 = 137 ∧ 17 = 16) from h) (by decide))) (fun h => (Or.elim h (fun h => (absurd (show (137 = 137 ∧ 17 = 20) from h) (by decide))) (fun h => (Or.elim h (fun h => (absurd (show (137 = 137 ∧ 17 = 18) from h) (by decide))) (fun h => (Or.elim h (fun h => (absurd (show (137 = 137 ∧ 17 = 21) from h) (by decide))) (fun h => (absurd (show (137 = 137 ∧ 17 = 19) from h) (by decide)))))))))))).trans ((hfg8 137 17 (fun h => (Or.elim h (fun h => (absurd (show (137 = 137 ∧ 17 = 22) from h) (by decide))) (fun h => (absurd (show (137 = 137 ∧ 17 = 23) from h) (by decide)))))).trans rfl))); have h92 := (show g17 137 18 = (g17 137 18) from rfl); have h93 := (show g17 137 20 = (g17 137 20) from rfl); have h94 := (show g17 137 21 = (g17 137 21) from rfl); have h95 := (show g17 137 22 = (g8 137 22) from ((hfg17 137 22 (fun h => (Or.elim h (fun h => (absurd (show (137 = 137 ∧ 22 = 16) from h) (by decide))) (fun h => (Or.elim h (fun h => (absurd (show (137 = 137 ∧ 22 = 20) from h) (by decide))) (fun h => (Or.elim h (fun h => (absurd (show (137 = 137 ∧ 22 = 18) from h) (by decide))) (fun h => (Or.elim h (fun h => (absurd (show (137 = 137 ∧ 22 = 21) from h) (by decide))) (fun h => (absurd (show (137 = 137 ∧ 22 = 19) from h) (by decide)))))))))))).trans rfl)); omega) (by have h90 := (show g17 137 16 = (g17 137 16) from rfl); have h91 := (show g17 137 17 = (g 137 17) from ((hfg17 137 17 (fun h => (Or.elim h (fun h => (absurd (show (137 = 137 ∧ 17 = 16) from h) (by decide))) (fun h => (Or.elim h (fun h => (absurd (show (137 = 137 ∧ 17 = 20) from h) (by decide))) (fun h => (Or.elim h (fun h => (absurd (show (137 = 137 ∧ 17 = 18) from h) (by decide))) (fun h => (Or.elim h (fun h => (absurd (show (137 = 137 ∧ 17 = 21) from h) (by decide))) (fun h => (absurd (show (137 = 137 ∧ 17 = 19) from h) (by decide)))))))))))).trans ((hfg8 137 17 (fun h => (Or.elim h (fun h => (absurd (show (137 = 137 ∧ 17 = 22) from h) (by decide))) (fun h => (absurd (show (137 = 137 ∧ 17 = 23) from h) (by decide)))))).trans rfl))); have h92 := (show g17 137 18 = (g17 137 18) from rfl); have h93 := (show g17 137 20 = (g17 137 20) from rfl); have h94 := (show g17 137 21 = (g17 137 21) from rfl); have h95 := (show g17 137 22 = (g8 137 22) from ((hfg17 137 22 (fun h => (Or.elim h (fun h => (absurd (show (137 = 137 ∧ 22 = 16) from h) (by decide))) (fun h => (Or.elim h (fun h => (absurd (show (137 = 137 ∧ 22 = 20) from h) (by decide))) (fun h => (Or.elim h (fun h => (absurd (show (137 = 137 ∧ 22 = 18) from h) (by decide))) (fun h => (Or.elim h (fun h => (absurd (show (137 = 137 ∧ 22 = 21) from h) (by decide))) (fun h => (absurd (show (137 = 137 ∧ 22 = 19) from h) (by decide)))))))))))).trans rfl)); omega) (by have h90 := (show g17 137 16 = (g17 137 16) from rfl); have h91 := (show g17 137 17 = (g 137 17) from ((hfg17 137 17 (fun h => (Or.elim h (fun h => (absurd (show (137 = 137 ∧ 17 = 16) from h) (by decide))) (fun h => (Or.elim h (fun h => (absurd (show (137 = 137 ∧ 17 = 20) from h) (by decide))) (fun h => (Or.elim h (fun h => (absurd (show (137 = 137 ∧ 17 = 18) from h) (by decide))) (fun h => (Or.elim h (fun h => (absurd (show (137 = 137 ∧ 17 = 21) from h) (by decide))) (fun h => (absurd (show (137 = 137 ∧ 17 = 19) from h) (by decide)))))))))))).trans ((hfg8 137 17 (fun h => (Or.elim h (fun h => (absurd (show (137 = 137 ∧ 17 = 22) from h) (by decide))) (fun h => (absurd (show (137 = 137 ∧ 17 = 23) from h) (by decide)))))).trans rfl))); have h92 := (show g17 137 18 = (g17 137 18) from rfl); have h93 := (show g17 137 20 = (g17 137 20) from rfl); have h94 := (show g17 137 21 = (g17 137 21) from rfl); have h95 := (show g17 137 22 = (g8 137 22) from ((hfg17 137 22 (fun h => (Or.elim h (fun h => (absurd (show (137 = 137 ∧ 22 = 16) from h) (by decide))) (fun h => (Or.elim h (fun h => (absurd (show (137 = 137 ∧ 22 = 20) from h) (by decide))) (fun h => (Or.elim h (fun h => (absurd (show (137 = 137 ∧ 22 = 18) from h) (by decide))) (fun h => (Or.elim h (fun h => (absurd (show (137 = 137 ∧ 22 = 21) from h) (by decide))) (fun h => (absurd (show (137 = 137 ∧ 22 = 19) from h) (by decide)))))))))))).trans rfl)); omega))
def fw_X12_lay (x : mm_X) (a1 : Int) : Nat → Nat → Prop := fun k j => k = 149 ∨ (k = 140 ∧ j = 7)
theorem c_X12_lay {d : Nat} (hd : 1 ≤ d) {x : mm_X} (hx : mk_x x) {g : mz_G} (hI : mz_inv g) {a1 : Int} (l_a1 : (-2147483648) ≤ a1) (u_a1 : a1 ≤ 2147483647) (p1 : g 137 22 = 0 → g 140 7 < 700) {Q : (Option Value ⊕ Nat) → mm_H → Prop} (hQ : ∀ (g1 : mz_G), mz_inv g1 → mz_fr (fw_X12_lay x a1) g g1 → (g 137 22 = 0 → g1 140 7 = g 140 7 + 1 ∧ g1 149 (700 + g 140 7).toNat = a1) → (g 137 22 ≠ 0 → g1 140 7 = g 140 7) → (∀ j : Nat, (j : Int) ≠ 700 + g 140 7 → g1 149 j = g 149 j) → Q (.inl none) (mz_mk g1 x)) : mm_C d 200 [.ref 137, .int (Int32.ofInt a1)] (mz_mk g x) Q := by
  refine ⟨mmX12_lay, [some (.ref 137), some (.int (Int32.ofInt a1))], rfl, rfl, ?_⟩
  have bz0 := mz_rd hI bd_137_22
  have bz1 := mz_rd hI bt_140_4
  have bz2 := mz_rd hI bt_140_5
  have bz3 := mz_rd hI bt_140_6
  have bz4 := mz_rd hI bt_140_7
  refine mm_g 1 (pc1 := 1) (lo1 := [some (.ref 137), some (.int (Int32.ofInt a1))]) (st1 := [.ref 137]) (H1 := mz_mk g x) rfl ?_
  refine mz_fgI (v := (g 137 22)) rfl fd_12_203 (by decide) (sc_137 _) (show g 137 22 = (g 137 22) from rfl) ?_
  refine mz_if_eq (tgt := 8) rfl rfl ⟨by omega, by omega⟩ (fun c4_0 => ?_) (fun c4_0 => ?_)
  · skip
    refine mm_g 1 (pc1 := 9) (lo1 := [some (.ref 137), some (.int (Int32.ofInt a1))]) (st1 := [.ref 137]) (H1 := mz_mk g x) rfl ?_
    refine mz_fgR (v := 149) rfl fd_12_63 (by decide) (sc_137 _) (rf_137_12 _ _ _) ?_
    refine mz_sip rfl sip_700 ?_
    refine mm_g 1 (pc1 := 16) (lo1 := [some (.ref 137), some (.int (Int32.ofInt a1))]) (st1 := [.ref 137, .int (Int32.ofInt 700), .ref 149]) (H1 := mz_mk g x) rfl ?_
    refine mz_fgR (v := 140) rfl fd_12_36 (by decide) (sc_137 _) (rf_137_3 _ _ _) ?_
    refine mz_bip rfl bip_7 ?_
    refine mz_ia (v := (g 140 7)) rfl (sh_140 _) (by decide) (by decide) (by decide) (show g 140 7 = (g 140 7) from rfl) ?_
    refine mz_iadd rfl ?_
    refine mm_g 1 (pc1 := 24) (lo1 := [some (.ref 137), some (.int (Int32.ofInt a1))]) (st1 := [.int (Int32.ofInt a1), .int (Int32.ofInt (700 + (g 140 7))), .ref 149]) (H1 := mz_mk g x) rfl ?_
    refine mz_sI rfl (sh_149 _) (by omega) (by omega) (by decide) hI (ba_149 _) (by omega) (by omega) (fun g1 hIg1 hug1 => ?_)
    refine mm_g 1 (pc1 := 26) (lo1 := [some (.ref 137), some (.int (Int32.ofInt a1))]) (st1 := [.ref 137]) (H1 := mz_mk g1 x) rfl ?_
    refine mz_fgR (v := 140) rfl fd_12_36 (by decide) (sc_137 _) (rf_137_3 _ _ _) ?_
    refine mz_bip rfl bip_7 ?_
    refine mm_g 1 (pc1 := 32) (lo1 := [some (.ref 137), some (.int (Int32.ofInt a1))]) (st1 := [.int (Int32.ofInt 7), .ref 140, .int (Int32.ofInt 7), .ref 140]) (H1 := mz_mk g1 x) rfl ?_
    refine mz_ia (v := (g 140 7)) rfl (sh_140 _) (by decide) (by decide) (by decide) (show g1 140 7 = (g 140 7) from ((hug1.2 140 7 (fun h => absurd h.1 (by decide))).trans rfl)) ?_
    refine mm_g 1 (pc1 := 34) (lo1 := [some (.ref 137), some (.int (Int32.ofInt a1))]) (st1 := [.int (Int32.ofInt 1), .int (Int32.ofInt (g 140 7)), .int (Int32.ofInt 7), .ref 140]) (H1 := mz_mk g1 x) rfl ?_
    refine mz_iadd rfl ?_
    refine mz_sI rfl (sh_140 _) (by omega) (by omega) (by decide) hIg1 bt_140_7 (by omega) (by omega) (fun g2 hIg2 hug2 => ?_)
    exact mm_rt rfl rfl (hQ _ hIg2 (fun k j hk => ((hug2.2 k j (fun h => hk (Or.inr h))).trans (hug1.2 k j (fun h => hk (Or.inl h.1))))) (by intro _; have h90 := (show g2 140 7 = ((g 140 7) + 1) from hug2.1); have h8 := (show g2 149 ((700 + (g 140 7)) : Int).toNat = a1 from ((hug2.2 149 ((700 + (g 140 7)) : Int).toNat (fun h => absurd h.1 (by decide))).trans hug1.1)); exact ⟨by omega, h8⟩) (by intro _; have h90 := (show g2 140 7 = ((g 140 7) + 1) from hug2.1); omega) (fun j hj => ((hug2.2 149 j (fun h => absurd h.1 (by decide))).trans (hug1.2 149 j (by omega)))))
  · skip
    exact mm_rt rfl rfl (hQ _ hI (fun _ _ _ => rfl) (by intro _; exfalso; omega) (by intro _; have h90 := (show g 140 7 = (g 140 7) from rfl); omega) (fun j hj => rfl))
