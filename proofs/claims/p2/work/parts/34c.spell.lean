/-! SPELLING: a word of the text against a constant -/
def mz_sy (q i : Nat) : Int := ((((mm_at mm_strs q).getD []).getD i 0 : Nat) : Int)
def mz_str (g : mz_G) : Prop := ∀ q i : Nat, q < 28 → g ((1000 + q) + 1000) i = mz_sy q i
theorem mz_sy_k : ∀ q : Fin 28, ∀ i : Fin 8, mz_andI (mz_sy q.val i.val) 255 = mz_sy q.val i.val := by decide +kernel
theorem mz_sl_k : ∀ q : Fin 28, mz_sl q.val ≤ 7 := by decide +kernel
theorem mz_sy_a {q i : Nat} (hq : q < 28) (hi : i < mz_sl q) : mz_andI (mz_sy q i) 255 = mz_sy q i := by
  have h := mz_sl_k ⟨q, hq⟩
  dsimp only at h
  exact mz_sy_k ⟨q, hq⟩ ⟨i, by omega⟩
theorem mz_str_fr {g g1 : mz_G} (h : mz_str g) (hf : ∀ k j : Nat, 2000 ≤ k → g1 k j = g k j) : mz_str g1 := fun q i hq => (hf _ _ (by omega)).trans (h q i hq)
def tk_ma (B : Int → Int) (b : Int) (q : Nat) (k : Int) : Prop := ∀ i : Nat, (i : Int) < k → B (b + (i : Int)) = mz_sy q i
def tk_sp (B : Int → Int) (kd b e : Int) (q : Nat) : Prop := kd = 1 ∧ e - b = (mz_sl q : Int) ∧ tk_ma B b q (mz_sl q)
theorem tk_ma_0 {B : Int → Int} {b : Int} {q : Nat} : tk_ma B b q 0 := fun i h => absurd h (by omega)
theorem tk_ma_up {B : Int → Int} {b k : Int} {q : Nat} (h : tk_ma B b q k) (h0 : 0 ≤ k) (e : B (b + k) = mz_sy q k.toNat) : tk_ma B b q (k + 1) := fun i hi => by
  rcases (by omega : (i : Int) < k ∨ (i : Int) = k) with z | z
  · exact h i z
  · rw [z, e, show k.toNat = i by omega]
theorem tk_ma_le {B : Int → Int} {b k j : Int} {q : Nat} (h : tk_ma B b q k) (hj : j ≤ k) : tk_ma B b q j := fun i hi => h i (by omega)
theorem tk_ma_at {B : Int → Int} {b k : Int} {q : Nat} (h : tk_ma B b q (mz_sl q)) (h0 : 0 ≤ k) (h1 : k < (mz_sl q : Int)) : B (b + k) = mz_sy q k.toNat := by
  have := h k.toNat (by omega)
  rw [show ((k.toNat : Nat) : Int) = k by omega] at this
  exact this
def tk_iq (g : mz_G) (q : Nat) : Prop := g 137 22 = 0 ∧ tk_sp (mz_rb g) (g 137 18) (g 137 20) (g 137 21) q
/-- one word, one constant's letters -/
theorem tk_sp_eq {B C : Int → Int} {n kd b e : Int} {q r : Nat} (h0 : 0 ≤ b) (he : e ≤ n) (hb : ∀ k, 0 ≤ k → k < n → C k = B k) (hl : mz_sl r = mz_sl q) (hs : ∀ i, i < mz_sl q → mz_sy r i = mz_sy q i) (h : tk_sp B kd b e q) : tk_sp C kd b e r := by
  obtain ⟨h1, h2, h3⟩ := h
  refine ⟨h1, by rw [hl]; exact h2, fun i hi => ?_⟩
  rw [hb _ (by omega) (by omega), hs i (by omega)]
  exact h3 i (by omega)
theorem e_J1_charAt {d : Nat} (hd : 3 ≤ d) {x : mm_X} (hx : mk_x x) {g : mz_G} (hI : mz_inv g) {q1 : Nat} (h_q1 : q1 < 28) {a2 : Int} (l_a2 : (-2147483648) ≤ a2) (u_a2 : a2 ≤ 2147483647) (p1 : 0 ≤ a2 ∧ a2 < (mz_sl q1 : Int)) (p2 : mz_str g) {Q : (Option Value ⊕ Nat) → mm_H → Prop} (hQ : ∀ (r : Int), 0 ≤ r → r ≤ 255 → (r = mz_sy q1 a2.toNat) → Q (.inl (some (.int (Int32.ofInt r)))) (mz_mk g x)) : mm_C d 298 [.ref ((1000 + q1) + 1000), .int (Int32.ofInt a2)] (mz_mk g x) Q := by
  refine ⟨mmJ1_charAt, [some (.ref ((1000 + q1) + 1000)), some (.int (Int32.ofInt a2))], rfl, rfl, ?_⟩
  have hstr := p2
  refine mm_g 2 (pc1 := 2) (lo1 := [some (.ref ((1000 + q1) + 1000)), some (.int (Int32.ofInt a2))]) (st1 := [.ref ((1000 + q1) + 1000), .int (Int32.ofInt a2)]) (H1 := mz_mk g x) rfl ?_
  refine mz_al rfl (sb_sh h_q1 _) (by decide) ?_
  have ml := mz_sl_le h_q1
  refine mz_cs rfl mt_17_9 (by decide) rfl (Nat.le_of_ble_eq_true rfl) (by omega) (c_J0_checkIndex (by omega) hx hI l_a2 u_a2 (by omega) (by omega) (by omega) (⟨_, rfl, ?_⟩))
  show mm_W d mmJ1_charAt 6 [some (.ref ((1000 + q1) + 1000)), some (.int (Int32.ofInt a2))] [] (mz_mk g x) Q
  refine mm_g 2 (pc1 := 8) (lo1 := [some (.ref ((1000 + q1) + 1000)), some (.int (Int32.ofInt a2))]) (st1 := [.int (Int32.ofInt a2), .ref ((1000 + q1) + 1000)]) (H1 := mz_mk g x) rfl ?_
  have ml := mz_sl_le h_q1
  refine mz_bI rfl (sb_sh h_q1 _) (Or.inr rfl) (by omega) (by omega) (by omega) hI (sb_bd _ _) (fun v1 e_v1 l_v1 u_v1 => ?_)
  refine mz_sip rfl sip_255 ?_
  refine mz_iand rfl (fun v2 e_v2 hwv2 => ?_)
  have b_v2 : 0 ≤ v2 ∧ v2 ≤ 255 := by rw [e_v2]; exact mz_and_r (by omega) (by omega) (mz_rg l_v1 u_v1)
  have l_v2 := b_v2.1
  have u_v2 := b_v2.2
  refine mz_i2c rfl (by omega) (by omega) ?_
  exact mz_rtC rfl rfl (by omega) (by omega) (hQ _ (by omega) (by omega) (by rw [e_v2, ← e_v1, p2 _ _ h_q1]; exact mz_sy_a h_q1 (by omega)))
theorem e_J0_charAt {d : Nat} (hd : 4 ≤ d) {x : mm_X} (hx : mk_x x) {g : mz_G} (hI : mz_inv g) {q0 : Nat} (h_q0 : q0 < 28) {a1 : Int} (l_a1 : (-2147483648) ≤ a1) (u_a1 : a1 ≤ 2147483647) (p1 : 0 ≤ a1 ∧ a1 < (mz_sl q0 : Int)) (p2 : mz_str g) {Q : (Option Value ⊕ Nat) → mm_H → Prop} (hQ : ∀ (r : Int), 0 ≤ r → r ≤ 255 → (r = mz_sy q0 a1.toNat) → Q (.inl (some (.int (Int32.ofInt r)))) (mz_mk g x)) : mm_C d 294 [.ref (1000 + q0), .int (Int32.ofInt a1)] (mz_mk g x) Q := by
  refine ⟨mmJ0_charAt, [some (.ref (1000 + q0)), some (.int (Int32.ofInt a1))], rfl, rfl, ?_⟩
  have hstr := p2
  refine mm_g 1 (pc1 := 1) (lo1 := [some (.ref (1000 + q0)), some (.int (Int32.ofInt a1))]) (st1 := [.ref (1000 + q0)]) (H1 := mz_mk g x) rfl ?_
  refine mz_cv rfl mt_16_492 (by decide) (kc_str h_q0 _) rfl (Nat.le_of_ble_eq_true rfl) (by omega) (c_J0_isLatin1 (by omega) hx hI h_q0 (fun v1 l_v1 u_v1 hp2 => ⟨_, rfl, ?_⟩))
  show mm_W d mmJ0_charAt 4 [some (.ref (1000 + q0)), some (.int (Int32.ofInt a1))] [.int (Int32.ofInt v1)] (mz_mk g x) Q
  refine mz_if_eq (tgt := 16) rfl rfl (mz_rg l_v1 u_v1) (fun c4_2 => ?_) (fun c4_2 => ?_)
  · exfalso; omega
  · skip
    refine mm_g 1 (pc1 := 8) (lo1 := [some (.ref (1000 + q0)), some (.int (Int32.ofInt a1))]) (st1 := [.ref (1000 + q0)]) (H1 := mz_mk g x) rfl ?_
    refine mz_sfv rfl rfl rfl (kc_str h_q0 _) ?_
    refine mm_g 1 (pc1 := 12) (lo1 := [some (.ref (1000 + q0)), some (.int (Int32.ofInt a1))]) (st1 := [.int (Int32.ofInt a1), .ref ((1000 + q0) + 1000)]) (H1 := mz_mk g x) rfl ?_
    refine mz_cs rfl mt_16_495 (by decide) rfl (Nat.le_of_ble_eq_true rfl) (by omega) (e_J1_charAt (by omega) hx hI h_q0 l_a1 u_a1 (by omega) hstr (fun v3 l_v3 u_v3 hp4 => ⟨_, rfl, ?_⟩))
    show mm_W d mmJ0_charAt 15 [some (.ref (1000 + q0)), some (.int (Int32.ofInt a1))] [.int (Int32.ofInt v3)] (mz_mk g x) Q
    exact mz_rtC rfl rfl (by omega) (by omega) (hQ _ (by omega) (by omega) hp4)
theorem e_X7_tokenSize {d : Nat} (hd : 1 ≤ d) {x : mm_X} (hx : mk_x x) {g : mz_G} (hI : mz_inv g) {Q : (Option Value ⊕ Nat) → mm_H → Prop} (hQ : ∀ (r : Int), (-700) ≤ r → r ≤ 700 → (r = g 82 3 - g 82 5) → Q (.inl (some (.int (Int32.ofInt r)))) (mz_mk g x)) : mm_C d 90 [.ref 82] (mz_mk g x) Q := by
  refine ⟨mmX7_tokenSize, [some (.ref 82)], rfl, rfl, ?_⟩
  refine mm_g 1 (pc1 := 1) (lo1 := [some (.ref 82)]) (st1 := [.ref 82]) (H1 := mz_mk g x) rfl ?_
  refine mz_gI rfl fd_7_22 (by decide) (sc_82 _) hI bd_82_3 (fun v1 e_v1 l_v1 u_v1 => ?_)
  refine mm_g 1 (pc1 := 5) (lo1 := [some (.ref 82)]) (st1 := [.ref 82, .int (Int32.ofInt v1)]) (H1 := mz_mk g x) rfl ?_
  refine mz_gI rfl fd_7_28 (by decide) (sc_82 _) hI bd_82_5 (fun v2 e_v2 l_v2 u_v2 => ?_)
  refine mz_isub rfl ?_
  exact mm_rt rfl rfl (hQ _ (by omega) (by omega) (by omega))
theorem e_X7_spells {d : Nat} (hd : 5 ≤ d) {x : mm_X} (hx : mk_x x) {g : mz_G} (hI : mz_inv g) {q1 : Nat} (h_q1 : q1 < 28) (p1 : mz_str g) (p2 : g 82 5 ≤ g 82 3) {Q : (Option Value ⊕ Nat) → mm_H → Prop} (hQ : ∀ (r : Int), 0 ≤ r → r ≤ 1 → (r = 1 ↔ tk_sp (mz_cb g) (g 82 4) (g 82 5) (g 82 3) q1) → Q (.inl (some (.int (Int32.ofInt r)))) (mz_mk g x)) : mm_C d 92 [.ref 82, .ref (1000 + q1)] (mz_mk g x) Q := by
  refine ⟨mmX7_spells, [some (.ref 82), some (.ref (1000 + q1)), none], rfl, rfl, ?_⟩
  have bz0 := mz_rd hI bd_82_3
  have bz1 := mz_rd hI bd_82_4
  have bz2 := mz_rd hI bd_82_5
  have hstr := p1
  refine mm_g 1 (pc1 := 1) (lo1 := [some (.ref 82), some (.ref (1000 + q1)), none]) (st1 := [.ref 82]) (H1 := mz_mk g x) rfl ?_
  refine mz_fgI (v := (g 82 4)) rfl fd_7_25 (by decide) (sc_82 _) (show g 82 4 = (g 82 4) from rfl) ?_
  refine mm_g 1 (pc1 := 5) (lo1 := [some (.ref 82), some (.ref (1000 + q1)), none]) (st1 := [.int (Int32.ofInt 1), .int (Int32.ofInt (g 82 4))]) (H1 := mz_mk g x) rfl ?_
  refine mz_ic_ne (tgt := 19) rfl rfl ⟨by omega, by omega⟩ ⟨by decide, by decide⟩ (fun c5_0 => ?_) (fun c5_0 => ?_)
  · skip
    refine mm_g 1 (pc1 := 20) (lo1 := [some (.ref 82), some (.ref (1000 + q1)), none]) (st1 := [.int (Int32.ofInt 0)]) (H1 := mz_mk g x) rfl ?_
    exact mz_rtZ rfl (by decide) (by omega) (hQ _ (by decide) (by decide) (by refine ⟨fun z => absurd z (by decide), fun z => ?_⟩; have z1 := z.1; have z2 := z.2.1; exfalso; omega))
  · skip
    refine mm_g 1 (pc1 := 9) (lo1 := [some (.ref 82), some (.ref (1000 + q1)), none]) (st1 := [.ref 82]) (H1 := mz_mk g x) rfl ?_
    refine mz_cv rfl mt_7_57 (by decide) (sc_82 _) rfl (Nat.le_of_ble_eq_true rfl) (by omega) (e_X7_tokenSize (by omega) hx hI (fun v1 l_v1 u_v1 hp2 => ⟨_, rfl, ?_⟩))
    show mm_W d mmX7_spells 12 [some (.ref 82), some (.ref (1000 + q1)), none] [.int (Int32.ofInt v1)] (mz_mk g x) Q
    refine mm_g 1 (pc1 := 13) (lo1 := [some (.ref 82), some (.ref (1000 + q1)), none]) (st1 := [.ref (1000 + q1), .int (Int32.ofInt v1)]) (H1 := mz_mk g x) rfl ?_
    refine mz_cv rfl mt_7_61 (by decide) (kc_str h_q1 _) rfl (Nat.le_of_ble_eq_true rfl) (by omega) (c_J0_length (by omega) hx hI h_q1 (fun v3 l_v3 u_v3 hp4 => ⟨_, rfl, ?_⟩))
    show mm_W d mmX7_spells 16 [some (.ref 82), some (.ref (1000 + q1)), none] [.int (Int32.ofInt v3), .int (Int32.ofInt v1)] (mz_mk g x) Q
    refine mz_ic_eq (tgt := 21) rfl rfl (mz_rg l_v1 u_v1) (mz_rg l_v3 u_v3) (fun c16_4 => ?_) (fun c16_4 => ?_)
    · skip
      refine mm_g 2 (pc1 := 23) (lo1 := [some (.ref 82), some (.ref (1000 + q1)), some (.int (Int32.ofInt 0))]) (st1 := []) (H1 := mz_mk g x) rfl ?_
      have L9 : ∀ n8 : Nat, ∀ (v5 : Int), (100 - v5).toNat = n8 → 0 ≤ v5 → v5 ≤ 100 → (tk_ma (mz_cb g) (g 82 5) q1 v5) → mm_W d mmX7_spells 23 [some (.ref 82), some (.ref (1000 + q1)), some (.int (Int32.ofInt v5))] [] (mz_mk g x) Q := by
        intro n8
        induction n8 using Nat.strongRecOn with
        | ind n8 ih7 =>
        intro v5 hmn8 l_v5 u_v5 hv10
        refine mm_g 2 (pc1 := 25) (lo1 := [some (.ref 82), some (.ref (1000 + q1)), some (.int (Int32.ofInt v5))]) (st1 := [.ref (1000 + q1), .int (Int32.ofInt v5)]) (H1 := mz_mk g x) rfl ?_
        refine mz_cv rfl mt_7_61 (by decide) (kc_str h_q1 _) rfl (Nat.le_of_ble_eq_true rfl) (by omega) (c_J0_length (by omega) hx hI h_q1 (fun v11 l_v11 u_v11 hp12 => ⟨_, rfl, ?_⟩))
        show mm_W d mmX7_spells 28 [some (.ref 82), some (.ref (1000 + q1)), some (.int (Int32.ofInt v5))] [.int (Int32.ofInt v11), .int (Int32.ofInt v5)] (mz_mk g x) Q
        refine mz_ic_ge (tgt := 57) rfl rfl (mz_rg l_v5 u_v5) (mz_rg l_v11 u_v11) (fun c28_12 => ?_) (fun c28_12 => ?_)
        · skip
          refine mm_g 1 (pc1 := 58) (lo1 := [some (.ref 82), some (.ref (1000 + q1)), some (.int (Int32.ofInt v5))]) (st1 := [.int (Int32.ofInt 1)]) (H1 := mz_mk g x) rfl ?_
          exact mz_rtZ rfl (by decide) (by omega) (hQ _ (by decide) (by decide) ⟨fun _ => ⟨by omega, by omega, tk_ma_le hv10 (by omega)⟩, fun _ => rfl⟩)
        · skip
          refine mm_g 2 (pc1 := 33) (lo1 := [some (.ref 82), some (.ref (1000 + q1)), some (.int (Int32.ofInt v5))]) (st1 := [.ref 82, .ref 82]) (H1 := mz_mk g x) rfl ?_
          refine mz_fgI (v := (g 82 5)) rfl fd_7_28 (by decide) (sc_82 _) (show g 82 5 = (g 82 5) from rfl) ?_
          refine mm_g 1 (pc1 := 37) (lo1 := [some (.ref 82), some (.ref (1000 + q1)), some (.int (Int32.ofInt v5))]) (st1 := [.int (Int32.ofInt v5), .int (Int32.ofInt (g 82 5)), .ref 82]) (H1 := mz_mk g x) rfl ?_
          refine mz_iadd rfl ?_
          refine mz_cv rfl mt_7_37 (by decide) (sc_82 _) rfl (Nat.le_of_ble_eq_true rfl) (by omega) (e_X7_byteAt (by omega) hx hI (by omega) (by omega) (fun v13 l_v13 u_v13 hp14 => ⟨_, rfl, ?_⟩))
          show mm_W d mmX7_spells 41 [some (.ref 82), some (.ref (1000 + q1)), some (.int (Int32.ofInt v5))] [.int (Int32.ofInt v13)] (mz_mk g x) Q
          refine mm_g 2 (pc1 := 43) (lo1 := [some (.ref 82), some (.ref (1000 + q1)), some (.int (Int32.ofInt v5))]) (st1 := [.int (Int32.ofInt v5), .ref (1000 + q1), .int (Int32.ofInt v13)]) (H1 := mz_mk g x) rfl ?_
          refine mz_cv rfl mt_7_65 (by decide) (kc_str h_q1 _) rfl (Nat.le_of_ble_eq_true rfl) (by omega) (e_J0_charAt (by omega) hx hI h_q1 (by omega) (by omega) (by omega) hstr (fun v15 l_v15 u_v15 hp16 => ⟨_, rfl, ?_⟩))
          show mm_W d mmX7_spells 46 [some (.ref 82), some (.ref (1000 + q1)), some (.int (Int32.ofInt v5))] [.int (Int32.ofInt v15), .int (Int32.ofInt v13)] (mz_mk g x) Q
          refine mz_ic_eq (tgt := 51) rfl rfl (mz_rg l_v13 u_v13) (mz_rg l_v15 u_v15) (fun c46_16 => ?_) (fun c46_16 => ?_)
          · skip
            refine mz_iincR (v := v5) (lo2 := [some (.ref 82), some (.ref (1000 + q1)), some (.int (Int32.ofInt (v5 + 1)))]) rfl rfl rfl (Nat.le_of_ble_eq_true rfl) rfl ?_
            refine mz_gt (tgt := 23) rfl rfl ?_
            exact ih7 ((100 - (v5 + 1)).toNat) (by omega) (v5 + 1) rfl (by omega) (by omega) (tk_ma_up hv10 (by omega) (by rw [← hp14 (by omega) (by omega), ← hp16]; omega))
          · skip
            refine mm_g 1 (pc1 := 50) (lo1 := [some (.ref 82), some (.ref (1000 + q1)), some (.int (Int32.ofInt v5))]) (st1 := [.int (Int32.ofInt 0)]) (H1 := mz_mk g x) rfl ?_
            exact mz_rtZ rfl (by decide) (by omega) (hQ _ (by decide) (by decide) (by refine ⟨fun z => absurd z (by decide), fun z => ?_⟩; have z1 := tk_ma_at (k := v5) z.2.2 (by omega) (by omega); rw [← hp14 (by omega) (by omega), ← hp16] at z1; omega))
      exact L9 _ 0 rfl (by decide) (by decide) tk_ma_0
    · skip
      refine mm_g 1 (pc1 := 20) (lo1 := [some (.ref 82), some (.ref (1000 + q1)), none]) (st1 := [.int (Int32.ofInt 0)]) (H1 := mz_mk g x) rfl ?_
      exact mz_rtZ rfl (by decide) (by omega) (hQ _ (by decide) (by decide) (by refine ⟨fun z => absurd z (by decide), fun z => ?_⟩; have z1 := z.1; have z2 := z.2.1; exfalso; omega))
theorem e_X12_is {d : Nat} (hd : 5 ≤ d) {x : mm_X} (hx : mk_x x) {g : mz_G} (hI : mz_inv g) {q1 : Nat} (h_q1 : q1 < 28) (p1 : g 137 20 ≤ g 137 16 ∧ g 137 21 = g 137 16 ∧ g 137 16 ≤ g 137 17 ∧ (g 137 18 ≠ 0 → g 137 20 < g 137 16)) (p2 : mz_str g) {Q : (Option Value ⊕ Nat) → mm_H → Prop} (hQ : ∀ (r : Int), 0 ≤ r → r ≤ 1 → (r = 1 ↔ tk_iq g q1) → Q (.inl (some (.int (Int32.ofInt r)))) (mz_mk g x)) : mm_C d 194 [.ref 137, .ref (1000 + q1)] (mz_mk g x) Q := by
  refine ⟨mmX12_is, [some (.ref 137), some (.ref (1000 + q1)), none, none], rfl, rfl, ?_⟩
  have bz0 := mz_rd hI bd_137_16
  have bz1 := mz_rd hI bd_137_17
  have bz2 := mz_rd hI bd_137_18
  have bz3 := mz_rd hI bd_137_20
  have bz4 := mz_rd hI bd_137_21
  have bz5 := mz_rd hI bd_137_22
  have hstr := p2
  refine mm_g 1 (pc1 := 1) (lo1 := [some (.ref 137), some (.ref (1000 + q1)), none, none]) (st1 := [.ref 137]) (H1 := mz_mk g x) rfl ?_
  refine mz_fgI (v := (g 137 22)) rfl fd_12_203 (by decide) (sc_137 _) (show g 137 22 = (g 137 22) from rfl) ?_
  refine mz_if_ne (tgt := 35) rfl rfl ⟨by omega, by omega⟩ (fun c4_0 => ?_) (fun c4_0 => ?_)
  · skip
    refine mm_g 4 (pc1 := 39) (lo1 := [some (.ref 137), some (.ref (1000 + q1)), some (.int (Int32.ofInt 0)), some (.int (Int32.ofInt 0))]) (st1 := []) (H1 := mz_mk g x) rfl ?_
    have L6 : ∀ n5 : Nat, ∀ (v1 : Int) (v2 : Int), (0 : Nat) = n5 → 0 ≤ v1 → v1 ≤ 0 → 0 ≤ v2 → v2 ≤ 0 → (v1 ≠ 0 → tk_ma (mz_rb g) (g 137 20) q1 v2) → (v1 = 0 → ¬ tk_iq g q1) → (v1 ≠ 0 → g 137 22 = 0 ∧ g 137 18 = 1 ∧ g 137 21 - g 137 20 = (mz_sl q1 : Int)) → mm_W d mmX12_is 39 [some (.ref 137), some (.ref (1000 + q1)), some (.int (Int32.ofInt v1)), some (.int (Int32.ofInt v2))] [] (mz_mk g x) Q := by
      intro n5
      induction n5 using Nat.strongRecOn with
      | ind n5 ih4 =>
      intro v1 v2 hmn5 l_v1 u_v1 l_v2 u_v2 hv7 hv8 hv9
      refine mm_g 1 (pc1 := 40) (lo1 := [some (.ref 137), some (.ref (1000 + q1)), some (.int (Int32.ofInt v1)), some (.int (Int32.ofInt v2))]) (st1 := [.int (Int32.ofInt v1)]) (H1 := mz_mk g x) rfl ?_
      refine mz_if_eq (tgt := 82) rfl rfl (mz_rg l_v1 u_v1) (fun c40_9 => ?_) (fun c40_9 => ?_)
      · skip
        refine mm_g 1 (pc1 := 83) (lo1 := [some (.ref 137), some (.ref (1000 + q1)), some (.int (Int32.ofInt v1)), some (.int (Int32.ofInt v2))]) (st1 := [.int (Int32.ofInt v1)]) (H1 := mz_mk g x) rfl ?_
        exact mz_rtZ rfl (by decide) (by omega) (hQ _ (by omega) (by omega) (by rcases (by omega : v1 = 0 ∨ v1 = 1) with z | z; exact ⟨fun y => by omega, fun y => absurd y (hv8 z)⟩; exact ⟨fun _ => ⟨by have h := hv9 (by omega); omega, by have h := hv9 (by omega); omega, by have h := hv9 (by omega); omega, tk_ma_le (hv7 (by omega)) (by omega)⟩, fun _ => z⟩))
      · exfalso; omega
    exact L6 _ 0 0 rfl (by decide) (by decide) (by decide) (by decide) (fun _ => tk_ma_0) (fun _ y => by have y1 := y.1; have y2 := y.2.1; have y3 := y.2.2.1; omega) (by intro z; omega)
  · skip
    refine mm_g 1 (pc1 := 8) (lo1 := [some (.ref 137), some (.ref (1000 + q1)), none, none]) (st1 := [.ref 137]) (H1 := mz_mk g x) rfl ?_
    refine mz_fgI (v := (g 137 18)) rfl fd_12_177 (by decide) (sc_137 _) (show g 137 18 = (g 137 18) from rfl) ?_
    refine mm_g 1 (pc1 := 12) (lo1 := [some (.ref 137), some (.ref (1000 + q1)), none, none]) (st1 := [.int (Int32.ofInt 1), .int (Int32.ofInt (g 137 18))]) (H1 := mz_mk g x) rfl ?_
    refine mz_ic_ne (tgt := 35) rfl rfl ⟨by omega, by omega⟩ ⟨by decide, by decide⟩ (fun c12_9 => ?_) (fun c12_9 => ?_)
    · skip
      refine mm_g 4 (pc1 := 39) (lo1 := [some (.ref 137), some (.ref (1000 + q1)), some (.int (Int32.ofInt 0)), some (.int (Int32.ofInt 0))]) (st1 := []) (H1 := mz_mk g x) rfl ?_
      have L15 : ∀ n14 : Nat, ∀ (v10 : Int) (v11 : Int), (0 : Nat) = n14 → 0 ≤ v10 → v10 ≤ 0 → 0 ≤ v11 → v11 ≤ 0 → (v10 ≠ 0 → tk_ma (mz_rb g) (g 137 20) q1 v11) → (v10 = 0 → ¬ tk_iq g q1) → (v10 ≠ 0 → g 137 22 = 0 ∧ g 137 18 = 1 ∧ g 137 21 - g 137 20 = (mz_sl q1 : Int)) → mm_W d mmX12_is 39 [some (.ref 137), some (.ref (1000 + q1)), some (.int (Int32.ofInt v10)), some (.int (Int32.ofInt v11))] [] (mz_mk g x) Q := by
        intro n14
        induction n14 using Nat.strongRecOn with
        | ind n14 ih13 =>
        intro v10 v11 hmn14 l_v10 u_v10 l_v11 u_v11 hv16 hv17 hv18
        refine mm_g 1 (pc1 := 40) (lo1 := [some (.ref 137), some (.ref (1000 + q1)), some (.int (Int32.ofInt v10)), some (.int (Int32.ofInt v11))]) (st1 := [.int (Int32.ofInt v10)]) (H1 := mz_mk g x) rfl ?_
        refine mz_if_eq (tgt := 82) rfl rfl (mz_rg l_v10 u_v10) (fun c40_18 => ?_) (fun c40_18 => ?_)
        · skip
          refine mm_g 1 (pc1 := 83) (lo1 := [some (.ref 137), some (.ref (1000 + q1)), some (.int (Int32.ofInt v10)), some (.int (Int32.ofInt v11))]) (st1 := [.int (Int32.ofInt v10)]) (H1 := mz_mk g x) rfl ?_
          exact mz_rtZ rfl (by decide) (by omega) (hQ _ (by omega) (by omega) (by rcases (by omega : v10 = 0 ∨ v10 = 1) with z | z; exact ⟨fun y => by omega, fun y => absurd y (hv17 z)⟩; exact ⟨fun _ => ⟨by have h := hv18 (by omega); omega, by have h := hv18 (by omega); omega, by have h := hv18 (by omega); omega, tk_ma_le (hv16 (by omega)) (by omega)⟩, fun _ => z⟩))
        · exfalso; omega
      exact L15 _ 0 0 rfl (by decide) (by decide) (by decide) (by decide) (fun _ => tk_ma_0) (fun _ y => by have y1 := y.1; have y2 := y.2.1; have y3 := y.2.2.1; omega) (by intro z; omega)
    · skip
      refine mm_g 1 (pc1 := 16) (lo1 := [some (.ref 137), some (.ref (1000 + q1)), none, none]) (st1 := [.ref (1000 + q1)]) (H1 := mz_mk g x) rfl ?_
      refine mz_cv rfl mt_12_209 (by decide) (kc_str h_q1 _) rfl (Nat.le_of_ble_eq_true rfl) (by omega) (c_J0_length (by omega) hx hI h_q1 (fun v19 l_v19 u_v19 hp20 => ⟨_, rfl, ?_⟩))
      show mm_W d mmX12_is 19 [some (.ref 137), some (.ref (1000 + q1)), none, none] [.int (Int32.ofInt v19)] (mz_mk g x) Q
      refine mm_g 1 (pc1 := 20) (lo1 := [some (.ref 137), some (.ref (1000 + q1)), none, none]) (st1 := [.ref 137, .int (Int32.ofInt v19)]) (H1 := mz_mk g x) rfl ?_
      refine mz_fgI (v := (g 137 21)) rfl fd_12_200 (by decide) (sc_137 _) (show g 137 21 = (g 137 21) from rfl) ?_
      refine mm_g 1 (pc1 := 24) (lo1 := [some (.ref 137), some (.ref (1000 + q1)), none, none]) (st1 := [.ref 137, .int (Int32.ofInt (g 137 21)), .int (Int32.ofInt v19)]) (H1 := mz_mk g x) rfl ?_
      refine mz_fgI (v := (g 137 20)) rfl fd_12_174 (by decide) (sc_137 _) (show g 137 20 = (g 137 20) from rfl) ?_
      refine mz_isub rfl ?_
      refine mz_ic_ne (tgt := 35) rfl rfl (mz_rg l_v19 u_v19) ⟨by omega, by omega⟩ (fun c28_20 => ?_) (fun c28_20 => ?_)
      · skip
        refine mm_g 4 (pc1 := 39) (lo1 := [some (.ref 137), some (.ref (1000 + q1)), some (.int (Int32.ofInt 0)), some (.int (Int32.ofInt 0))]) (st1 := []) (H1 := mz_mk g x) rfl ?_
        have L26 : ∀ n25 : Nat, ∀ (v21 : Int) (v22 : Int), (0 : Nat) = n25 → 0 ≤ v21 → v21 ≤ 0 → 0 ≤ v22 → v22 ≤ 0 → (v21 ≠ 0 → tk_ma (mz_rb g) (g 137 20) q1 v22) → (v21 = 0 → ¬ tk_iq g q1) → (v21 ≠ 0 → g 137 22 = 0 ∧ g 137 18 = 1 ∧ g 137 21 - g 137 20 = (mz_sl q1 : Int)) → mm_W d mmX12_is 39 [some (.ref 137), some (.ref (1000 + q1)), some (.int (Int32.ofInt v21)), some (.int (Int32.ofInt v22))] [] (mz_mk g x) Q := by
          intro n25
          induction n25 using Nat.strongRecOn with
          | ind n25 ih24 =>
          intro v21 v22 hmn25 l_v21 u_v21 l_v22 u_v22 hv27 hv28 hv29
          refine mm_g 1 (pc1 := 40) (lo1 := [some (.ref 137), some (.ref (1000 + q1)), some (.int (Int32.ofInt v21)), some (.int (Int32.ofInt v22))]) (st1 := [.int (Int32.ofInt v21)]) (H1 := mz_mk g x) rfl ?_
          refine mz_if_eq (tgt := 82) rfl rfl (mz_rg l_v21 u_v21) (fun c40_29 => ?_) (fun c40_29 => ?_)
          · skip
            refine mm_g 1 (pc1 := 83) (lo1 := [some (.ref 137), some (.ref (1000 + q1)), some (.int (Int32.ofInt v21)), some (.int (Int32.ofInt v22))]) (st1 := [.int (Int32.ofInt v21)]) (H1 := mz_mk g x) rfl ?_
            exact mz_rtZ rfl (by decide) (by omega) (hQ _ (by omega) (by omega) (by rcases (by omega : v21 = 0 ∨ v21 = 1) with z | z; exact ⟨fun y => by omega, fun y => absurd y (hv28 z)⟩; exact ⟨fun _ => ⟨by have h := hv29 (by omega); omega, by have h := hv29 (by omega); omega, by have h := hv29 (by omega); omega, tk_ma_le (hv27 (by omega)) (by omega)⟩, fun _ => z⟩))
          · exfalso; omega
        exact L26 _ 0 0 rfl (by decide) (by decide) (by decide) (by decide) (fun _ => tk_ma_0) (fun _ y => by have y1 := y.1; have y2 := y.2.1; have y3 := y.2.2.1; omega) (by intro z; omega)
      · skip
        refine mm_g 1 (pc1 := 32) (lo1 := [some (.ref 137), some (.ref (1000 + q1)), none, none]) (st1 := [.int (Int32.ofInt 1)]) (H1 := mz_mk g x) rfl ?_
        refine mz_gt (tgt := 36) rfl rfl ?_
        refine mm_g 3 (pc1 := 39) (lo1 := [some (.ref 137), some (.ref (1000 + q1)), some (.int (Int32.ofInt 1)), some (.int (Int32.ofInt 0))]) (st1 := []) (H1 := mz_mk g x) rfl ?_
        have L35 : ∀ n34 : Nat, ∀ (v30 : Int) (v31 : Int), (100 - v31).toNat = n34 → 0 ≤ v30 → v30 ≤ 1 → 0 ≤ v31 → v31 ≤ 100 → (v30 ≠ 0 → tk_ma (mz_rb g) (g 137 20) q1 v31) → (v30 = 0 → ¬ tk_iq g q1) → (v30 ≠ 0 → g 137 22 = 0 ∧ g 137 18 = 1 ∧ g 137 21 - g 137 20 = (mz_sl q1 : Int)) → mm_W d mmX12_is 39 [some (.ref 137), some (.ref (1000 + q1)), some (.int (Int32.ofInt v30)), some (.int (Int32.ofInt v31))] [] (mz_mk g x) Q := by
          intro n34
          induction n34 using Nat.strongRecOn with
          | ind n34 ih33 =>
          intro v30 v31 hmn34 l_v30 u_v30 l_v31 u_v31 hv36 hv37 hv38
          refine mm_g 1 (pc1 := 40) (lo1 := [some (.ref 137), some (.ref (1000 + q1)), some (.int (Int32.ofInt v30)), some (.int (Int32.ofInt v31))]) (st1 := [.int (Int32.ofInt v30)]) (H1 := mz_mk g x) rfl ?_
          refine mz_if_eq (tgt := 82) rfl rfl (mz_rg l_v30 u_v30) (fun c40_38 => ?_) (fun c40_38 => ?_)
          · skip
            refine mm_g 1 (pc1 := 83) (lo1 := [some (.ref 137), some (.ref (1000 + q1)), some (.int (Int32.ofInt v30)), some (.int (Int32.ofInt v31))]) (st1 := [.int (Int32.ofInt v30)]) (H1 := mz_mk g x) rfl ?_
            exact mz_rtZ rfl (by decide) (by omega) (hQ _ (by omega) (by omega) (by rcases (by omega : v30 = 0 ∨ v30 = 1) with z | z; exact ⟨fun y => by omega, fun y => absurd y (hv37 z)⟩; exact ⟨fun _ => ⟨by have h := hv38 (by omega); omega, by have h := hv38 (by omega); omega, by have h := hv38 (by omega); omega, tk_ma_le (hv36 (by omega)) (by omega)⟩, fun _ => z⟩))
          · skip
            refine mm_g 2 (pc1 := 45) (lo1 := [some (.ref 137), some (.ref (1000 + q1)), some (.int (Int32.ofInt v30)), some (.int (Int32.ofInt v31))]) (st1 := [.ref (1000 + q1), .int (Int32.ofInt v31)]) (H1 := mz_mk g x) rfl ?_
            refine mz_cv rfl mt_12_209 (by decide) (kc_str h_q1 _) rfl (Nat.le_of_ble_eq_true rfl) (by omega) (c_J0_length (by omega) hx hI h_q1 (fun v39 l_v39 u_v39 hp40 => ⟨_, rfl, ?_⟩))
            show mm_W d mmX12_is 48 [some (.ref 137), some (.ref (1000 + q1)), some (.int (Int32.ofInt v30)), some (.int (Int32.ofInt v31))] [.int (Int32.ofInt v39), .int (Int32.ofInt v31)] (mz_mk g x) Q
            refine mz_ic_ge (tgt := 82) rfl rfl (mz_rg l_v31 u_v31) (mz_rg l_v39 u_v39) (fun c48_40 => ?_) (fun c48_40 => ?_)
            · skip
              refine mm_g 1 (pc1 := 83) (lo1 := [some (.ref 137), some (.ref (1000 + q1)), some (.int (Int32.ofInt v30)), some (.int (Int32.ofInt v31))]) (st1 := [.int (Int32.ofInt v30)]) (H1 := mz_mk g x) rfl ?_
              exact mz_rtZ rfl (by decide) (by omega) (hQ _ (by omega) (by omega) (by rcases (by omega : v30 = 0 ∨ v30 = 1) with z | z; exact ⟨fun y => by omega, fun y => absurd y (hv37 z)⟩; exact ⟨fun _ => ⟨by have h := hv38 (by omega); omega, by have h := hv38 (by omega); omega, by have h := hv38 (by omega); omega, tk_ma_le (hv36 (by omega)) (by omega)⟩, fun _ => z⟩))
            · skip
              refine mm_g 2 (pc1 := 53) (lo1 := [some (.ref 137), some (.ref (1000 + q1)), some (.int (Int32.ofInt v30)), some (.int (Int32.ofInt v31))]) (st1 := [.int (Int32.ofInt v31), .ref (1000 + q1)]) (H1 := mz_mk g x) rfl ?_
              refine mz_cv rfl mt_12_213 (by decide) (kc_str h_q1 _) rfl (Nat.le_of_ble_eq_true rfl) (by omega) (e_J0_charAt (by omega) hx hI h_q1 (by omega) (by omega) (by omega) hstr (fun v41 l_v41 u_v41 hp42 => ⟨_, rfl, ?_⟩))
              show mm_W d mmX12_is 56 [some (.ref 137), some (.ref (1000 + q1)), some (.int (Int32.ofInt v30)), some (.int (Int32.ofInt v31))] [.int (Int32.ofInt v41)] (mz_mk g x) Q
              refine mm_g 1 (pc1 := 57) (lo1 := [some (.ref 137), some (.ref (1000 + q1)), some (.int (Int32.ofInt v30)), some (.int (Int32.ofInt v31))]) (st1 := [.ref 137, .int (Int32.ofInt v41)]) (H1 := mz_mk g x) rfl ?_
              refine mz_fgR (v := 151) rfl fd_12_69 (by decide) (sc_137 _) (rf_137_14 _ _ _) ?_
              refine mm_g 1 (pc1 := 61) (lo1 := [some (.ref 137), some (.ref (1000 + q1)), some (.int (Int32.ofInt v30)), some (.int (Int32.ofInt v31))]) (st1 := [.ref 137, .ref 151, .int (Int32.ofInt v41)]) (H1 := mz_mk g x) rfl ?_
              refine mz_fgI (v := (g 137 20)) rfl fd_12_174 (by decide) (sc_137 _) (show g 137 20 = (g 137 20) from rfl) ?_
              refine mm_g 1 (pc1 := 65) (lo1 := [some (.ref 137), some (.ref (1000 + q1)), some (.int (Int32.ofInt v30)), some (.int (Int32.ofInt v31))]) (st1 := [.int (Int32.ofInt v31), .int (Int32.ofInt (g 137 20)), .ref 151, .int (Int32.ofInt v41)]) (H1 := mz_mk g x) rfl ?_
              refine mz_iadd rfl ?_
              refine mz_aI rfl (sh_151 _) (by omega) (by omega) (by decide) hI (ba_151 _) (fun v43 e_v43 l_v43 u_v43 => ?_)
              refine mz_ic_ne (tgt := 74) rfl rfl (mz_rg l_v41 u_v41) (mz_rg l_v43 u_v43) (fun c67_43 => ?_) (fun c67_43 => ?_)
              · skip
                refine mm_g 2 (pc1 := 76) (lo1 := [some (.ref 137), some (.ref (1000 + q1)), some (.int (Int32.ofInt 0)), some (.int (Int32.ofInt v31))]) (st1 := []) (H1 := mz_mk g x) rfl ?_
                refine mz_iincR (v := v31) (lo2 := [some (.ref 137), some (.ref (1000 + q1)), some (.int (Int32.ofInt 0)), some (.int (Int32.ofInt (v31 + 1)))]) rfl rfl rfl (Nat.le_of_ble_eq_true rfl) rfl ?_
                refine mz_gt (tgt := 39) rfl rfl ?_
                exact ih33 ((100 - (v31 + 1)).toNat) (by omega) 0 (v31 + 1) rfl (by decide) (by decide) (by omega) (by omega) (by intro z; exfalso; omega) (by intro _ z; have z1 := tk_ma_at (k := v31) z.2.2.2 (by omega) (by omega); unfold mz_rb at z1; rw [e_v43, ← hp42] at z1; omega) (by intro _; exact hv38 (by omega))
              · skip
                refine mm_g 1 (pc1 := 71) (lo1 := [some (.ref 137), some (.ref (1000 + q1)), some (.int (Int32.ofInt v30)), some (.int (Int32.ofInt v31))]) (st1 := [.int (Int32.ofInt 1)]) (H1 := mz_mk g x) rfl ?_
                refine mz_gt (tgt := 75) rfl rfl ?_
                refine mm_g 1 (pc1 := 76) (lo1 := [some (.ref 137), some (.ref (1000 + q1)), some (.int (Int32.ofInt 1)), some (.int (Int32.ofInt v31))]) (st1 := []) (H1 := mz_mk g x) rfl ?_
                refine mz_iincR (v := v31) (lo2 := [some (.ref 137), some (.ref (1000 + q1)), some (.int (Int32.ofInt 1)), some (.int (Int32.ofInt (v31 + 1)))]) rfl rfl rfl (Nat.le_of_ble_eq_true rfl) rfl ?_
                refine mz_gt (tgt := 39) rfl rfl ?_
                exact ih33 ((100 - (v31 + 1)).toNat) (by omega) 1 (v31 + 1) rfl (by decide) (by decide) (by omega) (by omega) (by intro _; exact tk_ma_up (hv36 (by omega)) (by omega) (by unfold mz_rb; rw [e_v43, ← hp42]; omega)) (by intro z; exfalso; omega) (by intro _; exact hv38 (by omega))
        exact L35 _ 1 0 rfl (by decide) (by decide) (by decide) (by decide) (fun _ => tk_ma_0) (by intro z; exfalso; omega) (by intro z; omega)
