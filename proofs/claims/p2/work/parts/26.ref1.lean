/-! CONTRACTS OF THE REFERENCE, by program (wip/p2/tools/gen25.py) -/
def fw_X12_another (x : mm_X) (a1 : Int) (a2 : Int) : Nat → Nat → Prop := fun k j => (k = 137 ∧ j = 16) ∨ (k = 137 ∧ j = 20) ∨ (k = 137 ∧ j = 18) ∨ (k = 137 ∧ j = 21) ∨ (k = 137 ∧ j = 19) ∨ (k = 137 ∧ j = 22) ∨ (k = 137 ∧ j = 23)
theorem c_X12_another {d : Nat} (hd : 13 ≤ d) {x : mm_X} (hx : mk_x x) {g : mz_G} (hI : mz_inv g) {a1 : Int} (l_a1 : 0 ≤ a1) (u_a1 : a1 ≤ 1) {a2 : Int} (l_a2 : 6 ≤ a2) (u_a2 : a2 ≤ 8) (p1 : g 137 20 ≤ g 137 16 ∧ g 137 21 = g 137 16 ∧ g 137 16 ≤ g 137 17 ∧ (g 137 18 ≠ 0 → g 137 20 < g 137 16)) {Q : (Option Value ⊕ Nat) → mm_H → Prop} (hQ : ∀ (r : Int) (g1 : mz_G), mz_inv g1 → mz_fr (fw_X12_another x a1 a2) g g1 → 0 ≤ r → r ≤ 1 → (g1 137 20 ≤ g1 137 16 ∧ g1 137 21 = g1 137 16 ∧ g1 137 16 ≤ g1 137 17 ∧ (g1 137 18 ≠ 0 → g1 137 20 < g1 137 16)) → (g 137 20 ≤ g1 137 20) → (g1 137 22 = 0 → g 137 22 = 0) → (r = 1 → g 137 22 = 0 ∧ g1 137 22 = 0 ∧ g 137 16 ≤ g1 137 20) → (a1 = 0 → r = 1 → g 140 4 ≠ a2) → (a1 = 1 → r = 1 → g 140 5 ≠ a2) → (r = 0 → g1 137 22 ≠ 0) → Q (.inl (some (.int (Int32.ofInt r)))) (mz_mk g1 x)) : mm_C d 207 [.ref 137, .int (Int32.ofInt a1), .int (Int32.ofInt a2)] (mz_mk g x) Q := by
  refine ⟨mmX12_another, [some (.ref 137), some (.int (Int32.ofInt a1)), some (.int (Int32.ofInt a2))], rfl, rfl, ?_⟩
  have bz0 := mz_rd hI bd_137_16
  have bz1 := mz_rd hI bd_137_17
  have bz2 := mz_rd hI bd_137_18
  have bz3 := mz_rd hI bd_137_20
  have bz4 := mz_rd hI bd_137_21
  have bz5 := mz_rd hI bd_137_22
  have bz6 := mz_rd hI bt_140_4
  have bz7 := mz_rd hI bt_140_5
  refine mm_g 1 (pc1 := 1) (lo1 := [some (.ref 137), some (.int (Int32.ofInt a1)), some (.int (Int32.ofInt a2))]) (st1 := [.ref 137]) (H1 := mz_mk g x) rfl ?_
  refine mz_fgR (v := 140) rfl fd_12_36 (by decide) (sc_137 _) (rf_137_3 _ _ _) ?_
  refine mm_g 2 (pc1 := 6) (lo1 := [some (.ref 137), some (.int (Int32.ofInt a1)), some (.int (Int32.ofInt a2))]) (st1 := [.int (Int32.ofInt a1), .int (Int32.ofInt 4), .ref 140]) (H1 := mz_mk g x) rfl ?_
  refine mz_iadd rfl ?_
  refine mz_aI rfl (sh_140 _) (by omega) (by omega) (by decide) hI (Prod.eta (mz_bd 140 ((4 + a1) : Int).toNat)).symm (fun v1 e_v1 l_v1 u_v1 => ?_)
  have t_v1 := told_le ((4 + a1) : Int).toNat
  have l0_v1 := l_v1
  have u0_v1 := u_v1
  have l_v1 : 0 ≤ v1 := by omega
  have u_v1 : v1 ≤ 700 := by omega
  refine mm_g 1 (pc1 := 9) (lo1 := [some (.ref 137), some (.int (Int32.ofInt a1)), some (.int (Int32.ofInt a2))]) (st1 := [.int (Int32.ofInt a2), .int (Int32.ofInt v1)]) (H1 := mz_mk g x) rfl ?_
  refine mz_ic_ne (tgt := 17) rfl rfl (mz_rg l_v1 u_v1) (mz_rg l_a2 u_a2) (fun c9_1 => ?_) (fun c9_1 => ?_)
  · skip
    refine mm_g 1 (pc1 := 18) (lo1 := [some (.ref 137), some (.int (Int32.ofInt a1)), some (.int (Int32.ofInt a2))]) (st1 := [.ref 137]) (H1 := mz_mk g x) rfl ?_
    refine mz_fgI (v := (g 137 22)) rfl fd_12_203 (by decide) (sc_137 _) (show g 137 22 = (g 137 22) from rfl) ?_
    refine mz_if_eq (tgt := 26) rfl rfl ⟨by omega, by omega⟩ (fun c21_1 => ?_) (fun c21_1 => ?_)
    · skip
      refine mm_g 1 (pc1 := 27) (lo1 := [some (.ref 137), some (.int (Int32.ofInt a1)), some (.int (Int32.ofInt a2))]) (st1 := [.ref 137]) (H1 := mz_mk g x) rfl ?_
      have hq2 : g 137 16 = (g 137 16) := (show g 137 16 = (g 137 16) from rfl)
      have hq3 : g 137 17 = (g 137 17) := (show g 137 17 = (g 137 17) from rfl)
      have hq4 : g 137 18 = (g 137 18) := (show g 137 18 = (g 137 18) from rfl)
      have hq5 : g 137 20 = (g 137 20) := (show g 137 20 = (g 137 20) from rfl)
      have hq6 : g 137 21 = (g 137 21) := (show g 137 21 = (g 137 21) from rfl)
      have hq7 : g 137 22 = (g 137 22) := (show g 137 22 = (g 137 22) from rfl)
      refine mz_cv rfl mt_12_228 (by decide) (sc_137 _) rfl (Nat.le_of_ble_eq_true rfl) (by omega) (c_X12_stepOn (by omega) hx hI (by have h90 := (show g 137 16 = (g 137 16) from rfl); have h91 := (show g 137 17 = (g 137 17) from rfl); omega) (fun g8 hIg8 hfg8 hp9 hp10 => ⟨_, rfl, ?_⟩))
      show mm_W d mmX12_another 30 [some (.ref 137), some (.int (Int32.ofInt a1)), some (.int (Int32.ofInt a2))] [] (mz_mk g8 x) Q
      have bz_g8_16 := mz_rd hIg8 bd_137_16
      have bz_g8_18 := mz_rd hIg8 bd_137_18
      have bz_g8_20 := mz_rd hIg8 bd_137_20
      have bz_g8_21 := mz_rd hIg8 bd_137_21
      refine mm_g 1 (pc1 := 31) (lo1 := [some (.ref 137), some (.int (Int32.ofInt a1)), some (.int (Int32.ofInt a2))]) (st1 := [.int (Int32.ofInt 1)]) (H1 := mz_mk g8 x) rfl ?_
      exact mz_rtZ rfl (by decide) (by omega) (hQ _ _ hIg8 (fun k j hk => (hfg8 k j (fun h => hk (Or.elim h (fun h => (Or.inl h)) (fun h => (Or.elim h (fun h => (Or.inr (Or.inl h))) (fun h => (Or.elim h (fun h => (Or.inr (Or.inr (Or.inl h)))) (fun h => (Or.elim h (fun h => (Or.inr (Or.inr (Or.inr (Or.inl h))))) (fun h => (Or.inr (Or.inr (Or.inr (Or.inr (Or.inl h)))))))))))))))) (by decide) (by decide) (by have h90 := (show g8 137 16 = (g8 137 16) from rfl); have h91 := (show g8 137 17 = (g 137 17) from ((hfg8 137 17 (fun h => (Or.elim h (fun h => (absurd (show (137 = 137 ∧ 17 = 16) from h) (by decide))) (fun h => (Or.elim h (fun h => (absurd (show (137 = 137 ∧ 17 = 20) from h) (by decide))) (fun h => (Or.elim h (fun h => (absurd (show (137 = 137 ∧ 17 = 18) from h) (by decide))) (fun h => (Or.elim h (fun h => (absurd (show (137 = 137 ∧ 17 = 21) from h) (by decide))) (fun h => (absurd (show (137 = 137 ∧ 17 = 19) from h) (by decide)))))))))))).trans rfl)); have h92 := (show g8 137 18 = (g8 137 18) from rfl); have h93 := (show g8 137 20 = (g8 137 20) from rfl); have h94 := (show g8 137 21 = (g8 137 21) from rfl); have h95 := (show g8 137 22 = (g 137 22) from ((hfg8 137 22 (fun h => (Or.elim h (fun h => (absurd (show (137 = 137 ∧ 22 = 16) from h) (by decide))) (fun h => (Or.elim h (fun h => (absurd (show (137 = 137 ∧ 22 = 20) from h) (by decide))) (fun h => (Or.elim h (fun h => (absurd (show (137 = 137 ∧ 22 = 18) from h) (by decide))) (fun h => (Or.elim h (fun h => (absurd (show (137 = 137 ∧ 22 = 21) from h) (by decide))) (fun h => (absurd (show (137 = 137 ∧ 22 = 19) from h) (by decide)))))))))))).trans rfl)); omega) (by have h90 := (show g8 137 16 = (g8 137 16) from rfl); have h91 := (show g8 137 17 = (g 137 17) from ((hfg8 137 17 (fun h => (Or.elim h (fun h => (absurd (show (137 = 137 ∧ 17 = 16) from h) (by decide))) (fun h => (Or.elim h (fun h => (absurd (show (137 = 137 ∧ 17 = 20) from h) (by decide))) (fun h => (Or.elim h (fun h => (absurd (show (137 = 137 ∧ 17 = 18) from h) (by decide))) (fun h => (Or.elim h (fun h => (absurd (show (137 = 137 ∧ 17 = 21) from h) (by decide))) (fun h => (absurd (show (137 = 137 ∧ 17 = 19) from h) (by decide)))))))))))).trans rfl)); have h92 := (show g8 137 18 = (g8 137 18) from rfl); have h93 := (show g8 137 20 = (g8 137 20) from rfl); have h94 := (show g8 137 21 = (g8 137 21) from rfl); have h95 := (show g8 137 22 = (g 137 22) from ((hfg8 137 22 (fun h => (Or.elim h (fun h => (absurd (show (137 = 137 ∧ 22 = 16) from h) (by decide))) (fun h => (Or.elim h (fun h => (absurd (show (137 = 137 ∧ 22 = 20) from h) (by decide))) (fun h => (Or.elim h (fun h => (absurd (show (137 = 137 ∧ 22 = 18) from h) (by decide))) (fun h => (Or.elim h (fun h => (absurd (show (137 = 137 ∧ 22 = 21) from h) (by decide))) (fun h => (absurd (show (137 = 137 ∧ 22 = 19) from h) (by decide)))))))))))).trans rfl)); omega) (by have h90 := (show g8 137 16 = (g8 137 16) from rfl); have h91 := (show g8 137 17 = (g 137 17) from ((hfg8 137 17 (fun h => (Or.elim h (fun h => (absurd (show (137 = 137 ∧ 17 = 16) from h) (by decide))) (fun h => (Or.elim h (fun h => (absurd (show (137 = 137 ∧ 17 = 20) from h) (by decide))) (fun h => (Or.elim h (fun h => (absurd (show (137 = 137 ∧ 17 = 18) from h) (by decide))) (fun h => (Or.elim h (fun h => (absurd (show (137 = 137 ∧ 17 = 21) from h) (by decide))) (fun h => (absurd (show (137 = 137 ∧ 17 = 19) from h) (by decide)))))))))))).trans rfl)); have h92 := (show g8 137 18 = (g8 137 18) from rfl); have h93 := (show g8 137 20 = (g8 137 20) from rfl); have h94 := (show g8 137 21 = (g8 137 21) from rfl); have h95 := (show g8 137 22 = (g 137 22) from ((hfg8 137 22 (fun h => (Or.elim h (fun h => (absurd (show (137 = 137 ∧ 22 = 16) from h) (by decide))) (fun h => (Or.elim h (fun h => (absurd (show (137 = 137 ∧ 22 = 20) from h) (by decide))) (fun h => (Or.elim h (fun h => (absurd (show (137 = 137 ∧ 22 = 18) from h) (by decide))) (fun h => (Or.elim h (fun h => (absurd (show (137 = 137 ∧ 22 = 21) from h) (by decide))) (fun h => (absurd (show (137 = 137 ∧ 22 = 19) from h) (by decide)))))))))))).trans rfl)); omega) (by have h90 := (show g8 137 16 = (g8 137 16) from rfl); have h91 := (show g8 137 17 = (g 137 17) from ((hfg8 137 17 (fun h => (Or.elim h (fun h => (absurd (show (137 = 137 ∧ 17 = 16) from h) (by decide))) (fun h => (Or.elim h (fun h => (absurd (show (137 = 137 ∧ 17 = 20) from h) (by decide))) (fun h => (Or.elim h (fun h => (absurd (show (137 = 137 ∧ 17 = 18) from h) (by decide))) (fun h => (Or.elim h (fun h => (absurd (show (137 = 137 ∧ 17 = 21) from h) (by decide))) (fun h => (absurd (show (137 = 137 ∧ 17 = 19) from h) (by decide)))))))))))).trans rfl)); have h92 := (show g8 137 18 = (g8 137 18) from rfl); have h93 := (show g8 137 20 = (g8 137 20) from rfl); have h94 := (show g8 137 21 = (g8 137 21) from rfl); have h95 := (show g8 137 22 = (g 137 22) from ((hfg8 137 22 (fun h => (Or.elim h (fun h => (absurd (show (137 = 137 ∧ 22 = 16) from h) (by decide))) (fun h => (Or.elim h (fun h => (absurd (show (137 = 137 ∧ 22 = 20) from h) (by decide))) (fun h => (Or.elim h (fun h => (absurd (show (137 = 137 ∧ 22 = 18) from h) (by decide))) (fun h => (Or.elim h (fun h => (absurd (show (137 = 137 ∧ 22 = 21) from h) (by decide))) (fun h => (absurd (show (137 = 137 ∧ 22 = 19) from h) (by decide)))))))))))).trans rfl)); omega) (by intro h0 h1; have e9 : g 140 4 = v1 := (by rw [← e_v1, h0]; rfl); have h90 := (show g8 137 16 = (g8 137 16) from rfl); have h91 := (show g8 137 17 = (g 137 17) from ((hfg8 137 17 (fun h => (Or.elim h (fun h => (absurd (show (137 = 137 ∧ 17 = 16) from h) (by decide))) (fun h => (Or.elim h (fun h => (absurd (show (137 = 137 ∧ 17 = 20) from h) (by decide))) (fun h => (Or.elim h (fun h => (absurd (show (137 = 137 ∧ 17 = 18) from h) (by decide))) (fun h => (Or.elim h (fun h => (absurd (show (137 = 137 ∧ 17 = 21) from h) (by decide))) (fun h => (absurd (show (137 = 137 ∧ 17 = 19) from h) (by decide)))))))))))).trans rfl)); have h92 := (show g8 137 18 = (g8 137 18) from rfl); have h93 := (show g8 137 20 = (g8 137 20) from rfl); have h94 := (show g8 137 21 = (g8 137 21) from rfl); have h95 := (show g8 137 22 = (g 137 22) from ((hfg8 137 22 (fun h => (Or.elim h (fun h => (absurd (show (137 = 137 ∧ 22 = 16) from h) (by decide))) (fun h => (Or.elim h (fun h => (absurd (show (137 = 137 ∧ 22 = 20) from h) (by decide))) (fun h => (Or.elim h (fun h => (absurd (show (137 = 137 ∧ 22 = 18) from h) (by decide))) (fun h => (Or.elim h (fun h => (absurd (show (137 = 137 ∧ 22 = 21) from h) (by decide))) (fun h => (absurd (show (137 = 137 ∧ 22 = 19) from h) (by decide)))))))))))).trans rfl)); omega) (by intro h0 h1; have e9 : g 140 5 = v1 := (by rw [← e_v1, h0]; rfl); have h90 := (show g8 137 16 = (g8 137 16) from rfl); have h91 := (show g8 137 17 = (g 137 17) from ((hfg8 137 17 (fun h => (Or.elim h (fun h => (absurd (show (137 = 137 ∧ 17 = 16) from h) (by decide))) (fun h => (Or.elim h (fun h => (absurd (show (137 = 137 ∧ 17 = 20) from h) (by decide))) (fun h => (Or.elim h (fun h => (absurd (show (137 = 137 ∧ 17 = 18) from h) (by decide))) (fun h => (Or.elim h (fun h => (absurd (show (137 = 137 ∧ 17 = 21) from h) (by decide))) (fun h => (absurd (show (137 = 137 ∧ 17 = 19) from h) (by decide)))))))))))).trans rfl)); have h92 := (show g8 137 18 = (g8 137 18) from rfl); have h93 := (show g8 137 20 = (g8 137 20) from rfl); have h94 := (show g8 137 21 = (g8 137 21) from rfl); have h95 := (show g8 137 22 = (g 137 22) from ((hfg8 137 22 (fun h => (Or.elim h (fun h => (absurd (show (137 = 137 ∧ 22 = 16) from h) (by decide))) (fun h => (Or.elim h (fun h => (absurd (show (137 = 137 ∧ 22 = 20) from h) (by decide))) (fun h => (Or.elim h (fun h => (absurd (show (137 = 137 ∧ 22 = 18) from h) (by decide))) (fun h => (Or.elim h (fun h => (absurd (show (137 = 137 ∧ 22 = 21) from h) (by decide))) (fun h => (absurd (show (137 = 137 ∧ 22 = 19) from h) (by decide)))))))))))).trans rfl)); omega) (by have h90 := (show g8 137 16 = (g8 137 16) from rfl); have h91 := (show g8 137 17 = (g 137 17) from ((hfg8 137 17 (fun h => (Or.elim h (fun h => (absurd (show (137 = 137 ∧ 17 = 16) from h) (by decide))) (fun h => (Or.elim h (fun h => (absurd (show (137 = 137 ∧ 17 = 20) from h) (by decide))) (fun h => (Or.elim h (fun h => (absurd (show (137 = 137 ∧ 17 = 18) from h) (by decide))) (fun h => (Or.elim h (fun h => (absurd (show (137 = 137 ∧ 17 = 21) from h) (by decide))) (fun h => (absurd (show (137 = 137 ∧ 17 = 19) from h) (by decide)))))))))))).trans rfl)); have h92 := (show g8 137 18 = (g8 137 18) from rfl); have h93 := (show g8 137 20 = (g8 137 20) from rfl); have h94 := (show g8 137 21 = (g8 137 21) from rfl); have h95 := (show g8 137 22 = (g 137 22) from ((hfg8 137 22 (fun h => (Or.elim h (fun h => (absurd (show (137 = 137 ∧ 22 = 16) from h) (by decide))) (fun h => (Or.elim h (fun h => (absurd (show (137 = 137 ∧ 22 = 20) from h) (by decide))) (fun h => (Or.elim h (fun h => (absurd (show (137 = 137 ∧ 22 = 18) from h) (by decide))) (fun h => (Or.elim h (fun h => (absurd (show (137 = 137 ∧ 22 = 21) from h) (by decide))) (fun h => (absurd (show (137 = 137 ∧ 22 = 19) from h) (by decide)))))))))))).trans rfl)); omega))
    · skip
      refine mm_g 1 (pc1 := 25) (lo1 := [some (.ref 137), some (.int (Int32.ofInt a1)), some (.int (Int32.ofInt a2))]) (st1 := [.int (Int32.ofInt 0)]) (H1 := mz_mk g x) rfl ?_
      exact mz_rtZ rfl (by decide) (by omega) (hQ _ _ hI (fun _ _ _ => rfl) (by decide) (by decide) (by have h90 := (show g 137 16 = (g 137 16) from rfl); have h91 := (show g 137 17 = (g 137 17) from rfl); have h92 := (show g 137 18 = (g 137 18) from rfl); have h93 := (show g 137 20 = (g 137 20) from rfl); have h94 := (show g 137 21 = (g 137 21) from rfl); have h95 := (show g 137 22 = (g 137 22) from rfl); omega) (by have h90 := (show g 137 16 = (g 137 16) from rfl); have h91 := (show g 137 17 = (g 137 17) from rfl); have h92 := (show g 137 18 = (g 137 18) from rfl); have h93 := (show g 137 20 = (g 137 20) from rfl); have h94 := (show g 137 21 = (g 137 21) from rfl); have h95 := (show g 137 22 = (g 137 22) from rfl); omega) (by have h90 := (show g 137 16 = (g 137 16) from rfl); have h91 := (show g 137 17 = (g 137 17) from rfl); have h92 := (show g 137 18 = (g 137 18) from rfl); have h93 := (show g 137 20 = (g 137 20) from rfl); have h94 := (show g 137 21 = (g 137 21) from rfl); have h95 := (show g 137 22 = (g 137 22) from rfl); omega) (by have h90 := (show g 137 16 = (g 137 16) from rfl); have h91 := (show g 137 17 = (g 137 17) from rfl); have h92 := (show g 137 18 = (g 137 18) from rfl); have h93 := (show g 137 20 = (g 137 20) from rfl); have h94 := (show g 137 21 = (g 137 21) from rfl); have h95 := (show g 137 22 = (g 137 22) from rfl); omega) (by intro h0 h1; have e9 : g 140 4 = v1 := (by rw [← e_v1, h0]; rfl); have h90 := (show g 137 16 = (g 137 16) from rfl); have h91 := (show g 137 17 = (g 137 17) from rfl); have h92 := (show g 137 18 = (g 137 18) from rfl); have h93 := (show g 137 20 = (g 137 20) from rfl); have h94 := (show g 137 21 = (g 137 21) from rfl); have h95 := (show g 137 22 = (g 137 22) from rfl); omega) (by intro h0 h1; have e9 : g 140 5 = v1 := (by rw [← e_v1, h0]; rfl); have h90 := (show g 137 16 = (g 137 16) from rfl); have h91 := (show g 137 17 = (g 137 17) from rfl); have h92 := (show g 137 18 = (g 137 18) from rfl); have h93 := (show g 137 20 = (g 137 20) from rfl); have h94 := (show g 137 21 = (g 137 21) from rfl); have h95 := (show g 137 22 = (g 137 22) from rfl); omega) (by have h90 := (show g 137 16 = (g 137 16) from rfl); have h91 := (show g 137 17 = (g 137 17) from rfl); have h92 := (show g 137 18 = (g 137 18) from rfl); have h93 := (show g 137 20 = (g 137 20) from rfl); have h94 := (show g 137 21 = (g 137 21) from rfl); have h95 := (show g 137 22 = (g 137 22) from rfl); omega))
  · skip
    refine mm_g 2 (pc1 := 14) (lo1 := [some (.ref 137), some (.int (Int32.ofInt a1)), some (.int (Int32.ofInt a2))]) (st1 := [.int (Int32.ofInt 2), .ref 137]) (H1 := mz_mk g x) rfl ?_
    have hq11 : g 137 22 = (g 137 22) := (show g 137 22 = (g 137 22) from rfl)
    refine mz_cv rfl mt_12_224 (by decide) (sc_137 _) rfl (Nat.le_of_ble_eq_true rfl) (by omega) (c_X12_wrong (by omega) hx hI (by decide) (by decide) (fun g12 hIg12 hfg12 hp13 hp14 => ⟨_, rfl, ?_⟩))
    show mm_W d mmX12_another 17 [some (.ref 137), some (.int (Int32.ofInt a1)), some (.int (Int32.ofInt a2))] [] (mz_mk g12 x) Q
    have bz_g12_22 := mz_rd hIg12 bd_137_22
    refine mm_g 1 (pc1 := 18) (lo1 := [some (.ref 137), some (.int (Int32.ofInt a1)), some (.int (Int32.ofInt a2))]) (st1 := [.ref 137]) (H1 := mz_mk g12 x) rfl ?_
    refine mz_fgI (v := (g12 137 22)) rfl fd_12_203 (by decide) (sc_137 _) (show g12 137 22 = (g12 137 22) from rfl) ?_
    refine mz_if_eq (tgt := 26) rfl rfl ⟨by omega, by omega⟩ (fun c21_14 => ?_) (fun c21_14 => ?_)
    · skip
      refine mm_g 1 (pc1 := 27) (lo1 := [some (.ref 137), some (.int (Int32.ofInt a1)), some (.int (Int32.ofInt a2))]) (st1 := [.ref 137]) (H1 := mz_mk g12 x) rfl ?_
      have hq15 : g12 137 16 = (g 137 16) := (show g12 137 16 = (g 137 16) from ((hfg12 137 16 (fun h => (Or.elim h (fun h => (absurd (show (137 = 137 ∧ 16 = 22) from h) (by decide))) (fun h => (absurd (show (137 = 137 ∧ 16 = 23) from h) (by decide)))))).trans rfl))
      have hq16 : g12 137 17 = (g 137 17) := (show g12 137 17 = (g 137 17) from ((hfg12 137 17 (fun h => (Or.elim h (fun h => (absurd (show (137 = 137 ∧ 17 = 22) from h) (by decide))) (fun h => (absurd (show (137 = 137 ∧ 17 = 23) from h) (by decide)))))).trans rfl))
      have hq17 : g12 137 18 = (g 137 18) := (show g12 137 18 = (g 137 18) from ((hfg12 137 18 (fun h => (Or.elim h (fun h => (absurd (show (137 = 137 ∧ 18 = 22) from h) (by decide))) (fun h => (absurd (show (137 = 137 ∧ 18 = 23) from h) (by decide)))))).trans rfl))
      have hq18 : g12 137 20 = (g 137 20) := (show g12 137 20 = (g 137 20) from ((hfg12 137 20 (fun h => (Or.elim h (fun h => (absurd (show (137 = 137 ∧ 20 = 22) from h) (by decide))) (fun h => (absurd (show (137 = 137 ∧ 20 = 23) from h) (by decide)))))).trans rfl))
      have hq19 : g12 137 21 = (g 137 21) := (show g12 137 21 = (g 137 21) from ((hfg12 137 21 (fun h => (Or.elim h (fun h => (absurd (show (137 = 137 ∧ 21 = 22) from h) (by decide))) (fun h => (absurd (show (137 = 137 ∧ 21 = 23) from h) (by decide)))))).trans rfl))
      have hq20 : g12 137 22 = (g12 137 22) := (show g12 137 22 = (g12 137 22) from rfl)
      refine mz_cv rfl mt_12_228 (by decide) (sc_137 _) rfl (Nat.le_of_ble_eq_true rfl) (by omega) (c_X12_stepOn (by omega) hx hIg12 (by have h90 := (show g12 137 16 = (g 137 16) from ((hfg12 137 16 (fun h => (Or.elim h (fun h => (absurd (show (137 = 137 ∧ 16 = 22) from h) (by decide))) (fun h => (absurd (show (137 = 137 ∧ 16 = 23) from h) (by decide)))))).trans rfl)); have h91 := (show g12 137 17 = (g 137 17) from ((hfg12 137 17 (fun h => (Or.elim h (fun h => (absurd (show (137 = 137 ∧ 17 = 22) from h) (by decide))) (fun h => (absurd (show (137 = 137 ∧ 17 = 23) from h) (by decide)))))).trans rfl)); omega) (fun g21 hIg21 hfg21 hp22 hp23 => ⟨_, rfl, ?_⟩))
      show mm_W d mmX12_another 30 [some (.ref 137), some (.int (Int32.ofInt a1)), some (.int (Int32.ofInt a2))] [] (mz_mk g21 x) Q
      have bz_g21_16 := mz_rd hIg21 bd_137_16
      have bz_g21_18 := mz_rd hIg21 bd_137_18
      have bz_g21_20 := mz_rd hIg21 bd_137_20
      have bz_g21_21 := mz_rd hIg21 bd_137_21
      refine mm_g 1 (pc1 := 31) (lo1 := [some (.ref 137), some (.int (Int32.ofInt a1)), some (.int (Int32.ofInt a2))]) (st1 := [.int (Int32.ofInt 1)]) (H1 := mz_mk g21 x) rfl ?_
      exact mz_rtZ rfl (by decide) (by omega) (hQ _ _ hIg21 (fun k j hk => ((hfg21 k j (fun h => hk (Or.elim h (fun h => (Or.inl h)) (fun h => (Or.elim h (fun h => (Or.inr (Or.inl h))) (fun h => (Or.elim h (fun h => (Or.inr (Or.inr (Or.inl h)))) (fun h => (Or.elim h (fun h => (Or.inr (Or.inr (Or.inr (Or.inl h))))) (fun h => (Or.inr (Or.inr (Or.inr (Or.inr (Or.inl h))))))))))))))).trans (hfg12 k j (fun h => hk (Or.elim h (fun h => (Or.inr (Or.inr (Or.inr (Or.inr (Or.inr (Or.inl h))))))) (fun h => (Or.inr (Or.inr (Or.inr (Or.inr (Or.inr (Or.inr h)))))))))))) (by decide) (by decide) (by have h90 := (show g21 137 16 = (g21 137 16) from rfl); have h91 := (show g21 137 17 = (g 137 17) from ((hfg21 137 17 (fun h => (Or.elim h (fun h => (absurd (show (137 = 137 ∧ 17 = 16) from h) (by decide))) (fun h => (Or.elim h (fun h => (absurd (show (137 = 137 ∧ 17 = 20) from h) (by decide))) (fun h => (Or.elim h (fun h => (absurd (show (137 = 137 ∧ 17 = 18) from h) (by decide))) (fun h => (Or.elim h (fun h => (absurd (show (137 = 137 ∧ 17 = 21) from h) (by decide))) (fun h => (absurd (show (137 = 137 ∧ 17 = 19) from h) (by decide)))))))))))).trans ((hfg12 137 17 (fun h => (Or.elim h (fun h => (absurd (show (137 = 137 ∧ 17 = 22) from h) (by decide))) (fun h => (absurd (show (137 = 137 ∧ 17 = 23) from h) (by decide)))))).trans rfl))); have h92 := (show g21 137 18 = (g21 137 18) from rfl); have h93 := (show g21 137 20 = (g21 137 20) from rfl); have h94 := (show g21 137 21 = (g21 137 21) from rfl); have h95 := (show g21 137 22 = (g12 137 22) from ((hfg21 137 22 (fun h => (Or.elim h (fun h => (absurd (show (137 = 137 ∧ 22 = 16) from h) (by decide))) (fun h => (Or.elim h (fun h => (absurd (show (137 = 137 ∧ 22 = 20) from h) (by decide))) (fun h => (Or.elim h (fun h => (absurd (show (137 = 137 ∧ 22 = 18) from h) (by decide))) (fun h => (Or.elim h (fun h => (absurd (show (137 = 137 ∧ 22 = 21) from h) (by decide))) (fun h => (absurd (show (137 = 137 ∧ 22 = 19) from h) (by decide)))))))))))).trans rfl)); omega) (by have h90 := (show g21 137 16 = (g21 137 16) from rfl); have h91 := (show g21 137 17 = (g 137 17) from ((hfg21 137 17 (fun h => (Or.elim h (fun h => (absurd (show (137 = 137 ∧ 17 = 16) from h) (by decide))) (fun h => (Or.elim h (fun h => (absurd (show (137 = 137 ∧ 17 = 20) from h) (by decide))) (fun h => (Or.elim h (fun h => (absurd (show (137 = 137 ∧ 17 = 18) from h) (by decide))) (fun h => (Or.elim h (fun h => (absurd (show (137 = 137 ∧ 17 = 21) from h) (by decide))) (fun h => (absurd (show (137 = 137 ∧ 17 = 19) from h) (by decide)))))))))))).trans ((hfg12 137 17 (fun h => (Or.elim h (fun h => (absurd (show (137 = 137 ∧ 17 = 22) from h) (by decide))) (fun h => (absurd (show (137 = 137 ∧ 17 = 23) from h) (by decide)))))).trans rfl))); have h92 := (show g21 137 18 = (g21 137 18) from rfl); have h93 := (show g21 137 20 = (g21 137 20) from rfl); have h94 := (show g21 137 21 = (g21 137 21) from rfl); have h95 := (show g21 137 22 = (g12 137 22) from ((hfg21 137 22 (fun h => (Or.elim h (fun h => (absurd (show (137 = 137 ∧ 22 = 16) from h) (by decide))) (fun h => (Or.elim h (fun h => (absurd (show (137 = 137 ∧ 22 = 20) from h) (by decide))) (fun h => (Or.elim h (fun h => (absurd (show (137 = 137 ∧ 22 = 18) from h) (by decide))) (fun h => (Or.elim h (fun h => (absurd (show (137 = 137 ∧ 22 = 21) from h) (by decide))) (fun h => (absurd (show (137 = 137 ∧ 22 = 19) from h) (by decide)))))))))))).trans rfl)); omega) (by have h90 := (show g21 137 16 = (g21 137 16) from rfl); have h91 := (show g21 137 17 = (g 137 17) from ((hfg21 137 17 (fun h => (Or.elim h (fun h => (absurd (show (137 = 137 ∧ 17 = 16) from h) (by decide))) (fun h => (Or.elim h (fun h => (absurd (show (137 = 137 ∧ 17 = 20) from h) (by decide))) (fun h => (Or.elim h (fun h => (absurd (show (137 = 137 ∧ 17 = 18) from h) (by decide))) (fun h => (Or.elim h (fun h => (absurd (show (137 = 137 ∧ 17 = 21) from h) (by decide))) (fun h => (absurd (show (137 = 137 ∧ 17 = 19) from h) (by decide)))))))))))).trans ((hfg12 137 17 (fun h => (Or.elim h (fun h => (absurd (show (137 = 137 ∧ 17 = 22) from h) (by decide))) (fun h => (absurd (show (137 = 137 ∧ 17 = 23) from h) (by decide)))))).trans rfl))); have h92 := (show g21 137 18 = (g21 137 18) from rfl); have h93 := (show g21 137 20 = (g21 137 20) from rfl); have h94 := (show g21 137 21 = (g21 137 21) from rfl); have h95 := (show g21 137 22 = (g12 137 22) from ((hfg21 137 22 (fun h => (Or.elim h (fun h => (absurd (show (137 = 137 ∧ 22 = 16) from h) (by decide))) (fun h => (Or.elim h (fun h => (absurd (show (137 = 137 ∧ 22 = 20) from h) (by decide))) (fun h => (Or.elim h (fun h => (absurd (show (137 = 137 ∧ 22 = 18) from h) (by decide))) (fun h => (Or.elim h (fun h => (absurd (show (137 = 137 ∧ 22 = 21) from h) (by decide))) (fun h => (absurd (show (137 = 137 ∧ 22 = 19) from h) (by decide)))))))))))).trans rfl)); omega) (by have h90 := (show g21 137 16 = (g21 137 16) from rfl); have h91 := (show g21 137 17 = (g 137 17) from ((hfg21 137 17 (fun h => (Or.elim h (fun h => (absurd (show (137 = 137 ∧ 17 = 16) from h) (by decide))) (fun h => (Or.elim h (fun h => (absurd (show (137 = 137 ∧ 17 = 20) from h) (by decide))) (fun h => (Or.elim h (fun h => (absurd (show (137 = 137 ∧ 17 = 18) from h) (by decide))) (fun h => (Or.elim h (fun h => (absurd (show (137 = 137 ∧ 17 = 21) from h) (by decide))) (fun h => (absurd (show (137 = 137 ∧ 17 = 19) from h) (by decide)))))))))))).trans ((hfg12 137 17 (fun h => (Or.elim h (fun h => (absurd (show (137 = 137 ∧ 17 = 22) from h) (by decide))) (fun h => (absurd (show (137 = 137 ∧ 17 = 23) from h) (by decide)))))).trans rfl))); have h92 := (show g21 137 18 = (g21 137 18) from rfl); have h93 := (show g21 137 20 = (g21 137 20) from rfl); have h94 := (show g21 137 21 = (g21 137 21) from rfl); have h95 := (show g21 137 22 = (g12 137 22) from ((hfg21 137 22 (fun h => (Or.elim h (fun h => (absurd (show (137 = 137 ∧ 22 = 16) from h) (by decide))) (fun h => (Or.elim h (fun h => (absurd (show (137 = 137 ∧ 22 = 20) from h) (by decide))) (fun h => (Or.elim h (fun h => (absurd (show (137 = 137 ∧ 22 = 18) from h) (by decide))) (fun h => (Or.elim h (fun h => (absurd (show (137 = 137 ∧ 22 = 21) from h) (by decide))) (fun h => (absurd (show (137 = 137 ∧ 22 = 19) from h) (by decide)))))))))))).trans rfl)); omega) (by intro h0 h1; have e9 : g 140 4 = v1 := (by rw [← e_v1, h0]; rfl); have h90 := (show g21 137 16 = (g21 137 16) from rfl); have h91 := (show g21 137 17 = (g 137 17) from ((hfg21 137 17 (fun h => (Or.elim h (fun h => (absurd (show (137 = 137 ∧ 17 = 16) from h) (by decide))) (fun h => (Or.elim h (fun h => (absurd (show (137 = 137 ∧ 17 = 20) from h) (by decide))) (fun h => (Or.elim h (fun h => (absurd (show (137 = 137 ∧ 17 = 18) from h) (by decide))) (fun h => (Or.elim h (fun h => (absurd (show (137 = 137 ∧ 17 = 21) from h) (by decide))) (fun h => (absurd (show (137 = 137 ∧ 17 = 19) from h) (by decide)))))))))))).trans ((hfg12 137 17 (fun h => (Or.elim h (fun h => (absurd (show (137 = 137 ∧ 17 = 22) from h) (by decide))) (fun h => (absurd (show (137 = 137 ∧ 17 = 23) from h) (by decide)))))).trans rfl))); have h92 := (show g21 137 18 = (g21 137 18) from rfl); have h93 := (show g21 137 20 = (g21 137 20) from rfl); have h94 := (show g21 137 21 = (g21 137 21) from rfl); have h95 := (show g21 137 22 = (g12 137 22) from ((hfg21 137 22 (fun h => (Or.elim h (fun h => (absurd (show (137 = 137 ∧ 22 = 16) from h) (by decide))) (fun h => (Or.elim h (fun h => (absurd (show (137 = 137 ∧ 22 = 20) from h) (by decide))) (fun h => (Or.elim h (fun h => (absurd (show (137 = 137 ∧ 22 = 18) from h) (by decide))) (fun h => (Or.elim h (fun h => (absurd (show (137 = 137 ∧ 22 = 21) from h) (by decide))) (fun h => (absurd (show (137 = 137 ∧ 22 = 19) from h) (by decide)))))))))))).trans rfl)); omega) (by intro h0 h1; have e9 : g 140 5 = v1 := (by rw [← e_v1, h0]; rfl); have h90 := (show g21 137 16 = (g21 137 16) from rfl); have h91 := (show g21 137 17 = (g 137 17) from ((hfg21 137 17 (fun h => (Or.elim h (fun h => (absurd (show (137 = 137 ∧ 17 = 16) from h) (by decide))) (fun h => (Or.elim h (fun h => (absurd (show (137 = 137 ∧ 17 = 20) from h) (by decide))) (fun h => (Or.elim h (fun h => (absurd (show (137 = 137 ∧ 17 = 18) from h) (by decide))) (fun h => (Or.elim h (fun h => (absurd (show (137 = 137 ∧ 17 = 21) from h) (by decide))) (fun h => (absurd (show (137 = 137 ∧ 17 = 19) from h) (by decide)))))))))))).trans ((hfg12 137 17 (fun h => (Or.elim h (fun h => (absurd (show (137 = 137 ∧ 17 = 22) from h) (by decide))) (fun h => (absurd (show (137 = 137 ∧ 17 = 23) from h) (by decide)))))).trans rfl))); have h92 := (show g21 137 18 = (g21 137 18) from rfl); have h93 := (show g21 137 20 = (g21 137 20) from rfl); have h94 := (show g21 137 21 = (g21 137 21) from rfl); have h95 := (show g21 137 22 = (g12 137 22) from ((hfg21 137 22 (fun h => (Or.elim h (fun h => (absurd (show (137 = 137 ∧ 22 = 16) from h) (by decide))) (fun h => (Or.elim h (fun h => (absurd (show (137 = 137 ∧ 22 = 20) from h) (by decide))) (fun h => (Or.elim h (fun h => (absurd (show (137 = 137 ∧ 22 = 18) from h) (by decide))) (fun h => (Or.elim h (fun h => (absurd (show (137 = 137 ∧ 22 = 21) from h) (by decide))) (fun h => (absurd (show (137 = 137 ∧ 22 = 19) from h) (by decide)))))))))))).trans rfl)); omega) (by have h90 := (show g21 137 16 = (g21 137 16) from rfl); have h91 := (show g21 137 17 = (g 137 17) from ((hfg21 137 17 (fun h => (Or.elim h (fun h => (absurd (show (137 = 137 ∧ 17 = 16) from h) (by decide))) (fun h => (Or.elim h (fun h => (absurd (show (137 = 137 ∧ 17 = 20) from h) (by decide))) (fun h => (Or.elim h (fun h => (absurd (show (137 = 137 ∧ 17 = 18) from h) (by decide))) (fun h => (Or.elim h (fun h => (absurd (show (137 = 137 ∧ 17 = 21) from h) (by decide))) (fun h => (absurd (show (137 = 137 ∧ 17 = 19) from h) (by decide)))))))))))).trans ((hfg12 137 17 (fun h => (Or.elim h (fun h => (absurd (show (137 = 137 ∧ 17 = 22) from h) (by decide))) (fun h => (absurd (show (137 = 137 ∧ 17 = 23) from h) (by decide)))))).trans rfl))); have h92 := (show g21 137 18 = (g21 137 18) from rfl); have h93 := (show g21 137 20 = (g21 137 20) from rfl); have h94 := (show g21 137 21 = (g21 137 21) from rfl); have h95 := (show g21 137 22 = (g12 137 22) from ((hfg21 137 22 (fun h => (Or.elim h (fun h => (absurd (show (137 = 137 ∧ 22 = 16) from h) (by decide))) (fun h => (Or.elim h (fun h => (absurd (show (137 = 137 ∧ 22 = 20) from h) (by decide))) (fun h => (Or.elim h (fun h => (absurd (show (137 = 137 ∧ 22 = 18) from h) (by decide))) (fun h => (Or.elim h (fun h => (absurd (show (137 = 137 ∧ 22 = 21) from h) (by decide))) (fun h => (absurd (show (137 = 137 ∧ 22 = 19) from h) (by decide)))))))))))).trans rfl)); omega))
    · skip
      refine mm_g 1 (pc1 := 25) (lo1 := [some (.ref 137), some (.int (Int32.ofInt a1)), some (.int (Int32.ofInt a2))]) (st1 := [.int (Int32.ofInt 0)]) (H1 := mz_mk g12 x) rfl ?_
      exact mz_rtZ rfl (by decide) (by omega) (hQ _ _ hIg12 (fun k j hk => (hfg12 k j (fun h => hk (Or.elim h (fun h => (Or.inr (Or.inr (Or.inr (Or.inr (Or.inr (Or.inl h))))))) (fun h => (Or.inr (Or.inr (Or.inr (Or.inr (Or.inr (Or.inr h))))))))))) (by decide) (by decide) (by have h90 := (show g12 137 16 = (g 137 16) from ((hfg12 137 16 (fun h => (Or.elim h (fun h => (absurd (show (137 = 137 ∧ 16 = 22) from h) (by decide))) (fun h => (absurd (show (137 = 137 ∧ 16 = 23) from h) (by decide)))))).trans rfl)); have h91 := (show g12 137 17 = (g 137 17) from ((hfg12 137 17 (fun h => (Or.elim h (fun h => (absurd (show (137 = 137 ∧ 17 = 22) from h) (by decide))) (fun h => (absurd (show (137 = 137 ∧ 17 = 23) from h) (by decide)))))).trans rfl)); have h92 := (show g12 137 18 = (g 137 18) from ((hfg12 137 18 (fun h => (Or.elim h (fun h => (absurd (show (137 = 137 ∧ 18 = 22) from h) (by decide))) (fun h => (absurd (show (137 = 137 ∧ 18 = 23) from h) (by decide)))))).trans rfl)); have h93 := (show g12 137 20 = (g 137 20) from ((hfg12 137 20 (fun h => (Or.elim h (fun h => (absurd (show (137 = 137 ∧ 20 = 22) from h) (by decide))) (fun h => (absurd (show (137 = 137 ∧ 20 = 23) from h) (by decide)))))).trans rfl)); have h94 := (show g12 137 21 = (g 137 21) from ((hfg12 137 21 (fun h => (Or.elim h (fun h => (absurd (show (137 = 137 ∧ 21 = 22) from h) (by decide))) (fun h => (absurd (show (137 = 137 ∧ 21 = 23) from h) (by decide)))))).trans rfl)); have h95 := (show g12 137 22 = (g12 137 22) from rfl); omega) (by have h90 := (show g12 137 16 = (g 137 16) from ((hfg12 137 16 (fun h => (Or.elim h (fun h => (absurd (show (137 = 137 ∧ 16 = 22) from h) (by decide))) (fun h => (absurd (show (137 = 137 ∧ 16 = 23) from h) (by decide)))))).trans rfl)); have h91 := (show g12 137 17 = (g 137 17) from ((hfg12 137 17 (fun h => (Or.elim h (fun h => (absurd (show (137 = 137 ∧ 17 = 22) from h) (by decide))) (fun h => (absurd (show (137 = 137 ∧ 17 = 23) from h) (by decide)))))).trans rfl)); have h92 := (show g12 137 18 = (g 137 18) from ((hfg12 137 18 (fun h => (Or.elim h (fun h => (absurd (show (137 = 137 ∧ 18 = 22) from h) (by decide))) (fun h => (absurd (show (137 = 137 ∧ 18 = 23) from h) (by decide)))))).trans rfl)); have h93 := (show g12 137 20 = (g 137 20) from ((hfg12 137 20 (fun h => (Or.elim h (fun h => (absurd (show (137 = 137 ∧ 20 = 22) from h) (by decide))) (fun h => (absurd (show (137 = 137 ∧ 20 = 23) from h) (by decide)))))).trans rfl)); have h94 := (show g12 137 21 = (g 137 21) from ((hfg12 137 21 (fun h => (Or.elim h (fun h => (absurd (show (137 = 137 ∧ 21 = 22) from h) (by decide))) (fun h => (absurd (show (137 = 137 ∧ 21 = 23) from h) (by decide)))))).trans rfl)); have h95 := (show g12 137 22 = (g12 137 22) from rfl); omega) (by have h90 := (show g12 137 16 = (g 137 16) from ((hfg12 137 16 (fun h => (Or.elim h (fun h => (absurd (show (137 = 137 ∧ 16 = 22) from h) (by decide))) (fun h => (absurd (show (137 = 137 ∧ 16 = 23) from h) (by decide)))))).trans rfl)); have h91 := (show g12 137 17 = (g 137 17) from ((hfg12 137 17 (fun h => (Or.elim h (fun h => (absurd (show (137 = 137 ∧ 17 = 22) from h) (by decide))) (fun h => (absurd (show (137 = 137 ∧ 17 = 23) from h) (by decide)))))).trans rfl)); have h92 := (show g12 137 18 = (g 137 18) from ((hfg12 137 18 (fun h => (Or.elim h (fun h => (absurd (show (137 = 137 ∧ 18 = 22) from h) (by decide))) (fun h => (absurd (show (137 = 137 ∧ 18 = 23) from h) (by decide)))))).trans rfl)); have h93 := (show g12 137 20 = (g 137 20) from ((hfg12 137 20 (fun h => (Or.elim h (fun h => (absurd (show (137 = 137 ∧ 20 = 22) from h) (by decide))) (fun h => (absurd (show (137 = 137 ∧ 20 = 23) from h) (by decide)))))).trans rfl)); have h94 := (show g12 137 21 = (g 137 21) from ((hfg12 137 21 (fun h => (Or.elim h (fun h => (absurd (show (137 = 137 ∧ 21 = 22) from h) (by decide))) (fun h => (absurd (show (137 = 137 ∧ 21 = 23) from h) (by decide)))))).trans rfl)); have h95 := (show g12 137 22 = (g12 137 22) from rfl); omega) (by have h90 := (show g12 137 16 = (g 137 16) from ((hfg12 137 16 (fun h => (Or.elim h (fun h => (absurd (show (137 = 137 ∧ 16 = 22) from h) (by decide))) (fun h => (absurd (show (137 = 137 ∧ 16 = 23) from h) (by decide)))))).trans rfl)); have h91 := (show g12 137 17 = (g 137 17) from ((hfg12 137 17 (fun h => (Or.elim h (fun h => (absurd (show (137 = 137 ∧ 17 = 22) from h) (by decide))) (fun h => (absurd (show (137 = 137 ∧ 17 = 23) from h) (by decide)))))).trans rfl)); have h92 := (show g12 137 18 = (g 137 18) from ((hfg12 137 18 (fun h => (Or.elim h (fun h => (absurd (show (137 = 137 ∧ 18 = 22) from h) (by decide))) (fun h => (absurd (show (137 = 137 ∧ 18 = 23) from h) (by decide)))))).trans rfl)); have h93 := (show g12 137 20 = (g 137 20) from ((hfg12 137 20 (fun h => (Or.elim h (fun h => (absurd (show (137 = 137 ∧ 20 = 22) from h) (by decide))) (fun h => (absurd (show (137 = 137 ∧ 20 = 23) from h) (by decide)))))).trans rfl)); have h94 := (show g12 137 21 = (g 137 21) from ((hfg12 137 21 (fun h => (Or.elim h (fun h => (absurd (show (137 = 137 ∧ 21 = 22) from h) (by decide))) (fun h => (absurd (show (137 = 137 ∧ 21 = 23) from h) (by decide)))))).trans rfl)); have h95 := (show g12 137 22 = (g12 137 22) from rfl); omega) (by intro h0 h1; have e9 : g 140 4 = v1 := (by rw [← e_v1, h0]; rfl); have h90 := (show g12 137 16 = (g 137 16) from ((hfg12 137 16 (fun h => (Or.elim h (fun h => (absurd (show (137 = 137 ∧ 16 = 22) from h) (by decide))) (fun h => (absurd (show (137 = 137 ∧ 16 = 23) from h) (by decide)))))).trans rfl)); have h91 := (show g12 137 17 = (g 137 17) from ((hfg12 137 17 (fun h => (Or.elim h (fun h => (absurd (show (137 = 137 ∧ 17 = 22) from h) (by decide))) (fun h => (absurd (show (137 = 137 ∧ 17 = 23) from h) (by decide)))))).trans rfl)); have h92 := (show g12 137 18 = (g 137 18) from ((hfg12 137 18 (fun h => (Or.elim h (fun h => (absurd (show (137 = 137 ∧ 18 = 22) from h) (by decide))) (fun h => (absurd (show (137 = 137 ∧ 18 = 23) from h) (by decide)))))).trans rfl)); have h93 := (show g12 137 20 = (g 137 20) from ((hfg12 137 20 (fun h => (Or.elim h (fun h => (absurd (show (137 = 137 ∧ 20 = 22) from h) (by decide))) (fun h => (absurd (show (137 = 137 ∧ 20 = 23) from h) (by decide)))))).trans rfl)); have h94 := (show g12 137 21 = (g 137 21) from ((hfg12 137 21 (fun h => (Or.elim h (fun h => (absurd (show (137 = 137 ∧ 21 = 22) from h) (by decide))) (fun h => (absurd (show (137 = 137 ∧ 21 = 23) from h) (by decide)))))).trans rfl)); have h95 := (show g12 137 22 = (g12 137 22) from rfl); omega) (by intro h0 h1; have e9 : g 140 5 = v1 := (by rw [← e_v1, h0]; rfl); have h90 := (show g12 137 16 = (g 137 16) from ((hfg12 137 16 (fun h => (Or.elim h (fun h => (absurd (show (137 = 137 ∧ 16 = 22) from h) (by decide))) (fun h => (absurd (show (137 = 137 ∧ 16 = 23) from h) (by decide)))))).trans rfl)); have h91 := (show g12 137 17 = (g 137 17) from ((hfg12 137 17 (fun h => (Or.elim h (fun h => (absurd (show (137 = 137 ∧ 17 = 22) from h) (by decide))) (fun h => (absurd (show (137 = 137 ∧ 17 = 23) from h) (by decide)))))).trans rfl)); have h92 := (show g12 137 18 = (g 137 18) from ((hfg12 137 18 (fun h => (Or.elim h (fun h => (absurd (show (137 = 137 ∧ 18 = 22) from h) (by decide))) (fun h => (absurd (show (137 = 137 ∧ 18 = 23) from h) (by decide)))))).trans rfl)); have h93 := (show g12 137 20 = (g 137 20) from ((hfg12 137 20 (fun h => (Or.elim h (fun h => (absurd (show (137 = 137 ∧ 20 = 22) from h) (by decide))) (fun h => (absurd (show (137 = 137 ∧ 20 = 23) from h) (by decide)))))).trans rfl)); have h94 := (show g12 137 21 = (g 137 21) from ((hfg12 137 21 (fun h => (Or.elim h (fun h => (absurd (show (137 = 137 ∧ 21 = 22) from h) (by decide))) (fun h => (absurd (show (137 = 137 ∧ 21 = 23) from h) (by decide)))))).trans rfl)); have h95 := (show g12 137 22 = (g12 137 22) from rfl); omega) (by have h90 := (show g12 137 16 = (g 137 16) from ((hfg12 137 16 (fun h => (Or.elim h (fun h => (absurd (show (137 = 137 ∧ 16 = 22) from h) (by decide))) (fun h => (absurd (show (137 = 137 ∧ 16 = 23) from h) (by decide)))))).trans rfl)); have h91 := (show g12 137 17 = (g 137 17) from ((hfg12 137 17 (fun h => (Or.elim h (fun h => (absurd (show (137 = 137 ∧ 17 = 22) from h) (by decide))) (fun h => (absurd (show (137 = 137 ∧ 17 = 23) from h) (by decide)))))).trans rfl)); have h92 := (show g12 137 18 = (g 137 18) from ((hfg12 137 18 (fun h => (Or.elim h (fun h => (absurd (show (137 = 137 ∧ 18 = 22) from h) (by decide))) (fun h => (absurd (show (137 = 137 ∧ 18 = 23) from h) (by decide)))))).trans rfl)); have h93 := (show g12 137 20 = (g 137 20) from ((hfg12 137 20 (fun h => (Or.elim h (fun h => (absurd (show (137 = 137 ∧ 20 = 22) from h) (by decide))) (fun h => (absurd (show (137 = 137 ∧ 20 = 23) from h) (by decide)))))).trans rfl)); have h94 := (show g12 137 21 = (g 137 21) from ((hfg12 137 21 (fun h => (Or.elim h (fun h => (absurd (show (137 = 137 ∧ 21 = 22) from h) (by decide))) (fun h => (absurd (show (137 = 137 ∧ 21 = 23) from h) (by decide)))))).trans rfl)); have h95 := (show g12 137 22 = (g12 137 22) from rfl); omega))
theorem c_X12_isToldAhead {d : Nat} (hd : 1 ≤ d) {x : mm_X} (hx : mk_x x) {g : mz_G} (hI : mz_inv g) {a1 : Int} (l_a1 : 0 ≤ a1) (u_a1 : a1 ≤ 8) (p1 : g 137 20 ≤ g 137 16 ∧ g 137 21 = g 137 16 ∧ g 137 16 ≤ g 137 17 ∧ (g 137 18 ≠ 0 → g 137 20 < g 137 16)) (p2 : g 137 20 + a1 ≤ g 137 16) {Q : (Option Value ⊕ Nat) → mm_H → Prop} (hQ : ∀ (r : Int), 0 ≤ r → r ≤ 1 → Q (.inl (some (.int (Int32.ofInt r)))) (mz_mk g x)) : mm_C d 208 [.ref 137, .int (Int32.ofInt a1)] (mz_mk g x) Q := by
  refine ⟨mmX12_isToldAhead, [some (.ref 137), some (.int (Int32.ofInt a1)), none, none, none], rfl, rfl, ?_⟩
  have bz0 := mz_rd hI bd_137_16
  have bz1 := mz_rd hI bd_137_17
  have bz2 := mz_rd hI bd_137_18
  have bz3 := mz_rd hI bd_137_20
  have bz4 := mz_rd hI bd_137_21
  have bz5 := mz_rd hI bd_137_22
  have bz6 := mz_rd hI bt_140_4
  refine mm_g 2 (pc1 := 2) (lo1 := [some (.ref 137), some (.int (Int32.ofInt a1)), some (.int (Int32.ofInt 0)), none, none]) (st1 := []) (H1 := mz_mk g x) rfl ?_
  have L7 : ∀ n6 : Nat, ∀ (v1 : Int) (o2 : Option Value) (o3 : Option Value), (8 - v1).toNat = n6 → 0 ≤ v1 → v1 ≤ 8 → mz_nl o2 → mz_nl o3 → mm_W d mmX12_isToldAhead 2 [some (.ref 137), some (.int (Int32.ofInt a1)), some (.int (Int32.ofInt v1)), o2, o3] [] (mz_mk g x) Q := by
    intro n6
    induction n6 using Nat.strongRecOn with
    | ind n6 ih5 =>
    intro v1 o2 o3 hmn6 l_v1 u_v1 h_o2 h_o3
    refine mm_g 2 (pc1 := 4) (lo1 := [some (.ref 137), some (.int (Int32.ofInt a1)), some (.int (Int32.ofInt v1)), o2, o3]) (st1 := [.ref 137, .int (Int32.ofInt v1)]) (H1 := mz_mk g x) rfl ?_
    refine mz_fgR (v := 140) rfl fd_12_36 (by decide) (sc_137 _) (rf_137_3 _ _ _) ?_
    refine mm_g 1 (pc1 := 8) (lo1 := [some (.ref 137), some (.int (Int32.ofInt a1)), some (.int (Int32.ofInt v1)), o2, o3]) (st1 := [.int (Int32.ofInt 4), .ref 140, .int (Int32.ofInt v1)]) (H1 := mz_mk g x) rfl ?_
    refine mz_ia (v := (g 140 4)) rfl (sh_140 _) (by decide) (by decide) (by decide) (show g 140 4 = (g 140 4) from rfl) ?_
    refine mz_ic_ge (tgt := 103) rfl rfl (mz_rg l_v1 u_v1) ⟨by omega, by omega⟩ (fun c9_7 => ?_) (fun c9_7 => ?_)
    · skip
      refine mm_g 1 (pc1 := 104) (lo1 := [some (.ref 137), some (.int (Int32.ofInt a1)), some (.int (Int32.ofInt v1)), o2, o3]) (st1 := [.int (Int32.ofInt 0)]) (H1 := mz_mk g x) rfl ?_
      exact mz_rtZ rfl (by decide) (by omega) (hQ _ (by decide) (by decide))
    · skip
      refine mm_g 1 (pc1 := 13) (lo1 := [some (.ref 137), some (.int (Int32.ofInt a1)), some (.int (Int32.ofInt v1)), o2, o3]) (st1 := [.ref 137]) (H1 := mz_mk g x) rfl ?_
      refine mz_fgR (v := 142) rfl fd_12_43 (by decide) (sc_137 _) (rf_137_5 _ _ _) ?_
      refine mz_bip rfl bip_8 ?_
      refine mm_g 1 (pc1 := 19) (lo1 := [some (.ref 137), some (.int (Int32.ofInt a1)), some (.int (Int32.ofInt v1)), o2, o3]) (st1 := [.int (Int32.ofInt v1), .int (Int32.ofInt 8), .ref 142]) (H1 := mz_mk g x) rfl ?_
      refine mz_iadd rfl ?_
      refine mz_aI rfl (sh_142 _) (by omega) (by omega) (by decide) hI (ba_142 _) (fun v8 e_v8 l_v8 u_v8 => ?_)
      refine mm_g 1 (pc1 := 22) (lo1 := [some (.ref 137), some (.int (Int32.ofInt a1)), some (.int (Int32.ofInt v1)), o2, o3]) (st1 := [.int (Int32.ofInt a1), .int (Int32.ofInt v8)]) (H1 := mz_mk g x) rfl ?_
      refine mz_ic_ne (tgt := 29) rfl rfl (mz_rg l_v8 u_v8) (mz_rg l_a1 u_a1) (fun c22_8 => ?_) (fun c22_8 => ?_)
      · skip
        refine mm_g 4 (pc1 := 34) (lo1 := [some (.ref 137), some (.int (Int32.ofInt a1)), some (.int (Int32.ofInt v1)), some (.int (Int32.ofInt 0)), some (.int (Int32.ofInt 0))]) (st1 := []) (H1 := mz_mk g x) rfl ?_
        have L14 : ∀ n13 : Nat, ∀ (v9 : Int) (v10 : Int), (0 : Nat) = n13 → 0 ≤ v9 → v9 ≤ 0 → 0 ≤ v10 → v10 ≤ 0 → mm_W d mmX12_isToldAhead 34 [some (.ref 137), some (.int (Int32.ofInt a1)), some (.int (Int32.ofInt v1)), some (.int (Int32.ofInt v9)), some (.int (Int32.ofInt v10))] [] (mz_mk g x) Q := by
          intro n13
          induction n13 using Nat.strongRecOn with
          | ind n13 ih12 =>
          intro v9 v10 hmn13 l_v9 u_v9 l_v10 u_v10
          refine mm_g 2 (pc1 := 37) (lo1 := [some (.ref 137), some (.int (Int32.ofInt a1)), some (.int (Int32.ofInt v1)), some (.int (Int32.ofInt v9)), some (.int (Int32.ofInt v10))]) (st1 := [.int (Int32.ofInt a1), .int (Int32.ofInt v10)]) (H1 := mz_mk g x) rfl ?_
          refine mz_ic_ge (tgt := 91) rfl rfl (mz_rg l_v10 u_v10) (mz_rg l_a1 u_a1) (fun c37_14 => ?_) (fun c37_14 => ?_)
          · skip
            refine mm_g 1 (pc1 := 92) (lo1 := [some (.ref 137), some (.int (Int32.ofInt a1)), some (.int (Int32.ofInt v1)), some (.int (Int32.ofInt v9)), some (.int (Int32.ofInt v10))]) (st1 := [.int (Int32.ofInt v9)]) (H1 := mz_mk g x) rfl ?_
            refine mz_if_eq (tgt := 97) rfl rfl (mz_rg l_v9 u_v9) (fun c92_14 => ?_) (fun c92_14 => ?_)
            · skip
              refine mz_iincR (v := v1) (lo2 := [some (.ref 137), some (.int (Int32.ofInt a1)), some (.int (Int32.ofInt (v1 + 1))), some (.int (Int32.ofInt v9)), some (.int (Int32.ofInt v10))]) rfl rfl rfl (Nat.le_of_ble_eq_true rfl) rfl ?_
              refine mz_gt (tgt := 2) rfl rfl ?_
              exact ih5 ((8 - (v1 + 1)).toNat) (by omega) (v1 + 1) (some (.int (Int32.ofInt v9))) (some (.int (Int32.ofInt v10))) rfl (by omega) (by omega) (mz_nl_i _) (mz_nl_i _)
            · exfalso; omega
          · skip
            refine mm_g 1 (pc1 := 41) (lo1 := [some (.ref 137), some (.int (Int32.ofInt a1)), some (.int (Int32.ofInt v1)), some (.int (Int32.ofInt v9)), some (.int (Int32.ofInt v10))]) (st1 := [.int (Int32.ofInt v9)]) (H1 := mz_mk g x) rfl ?_
            refine mz_if_eq (tgt := 91) rfl rfl (mz_rg l_v9 u_v9) (fun c41_14 => ?_) (fun c41_14 => ?_)
            · skip
              refine mm_g 1 (pc1 := 92) (lo1 := [some (.ref 137), some (.int (Int32.ofInt a1)), some (.int (Int32.ofInt v1)), some (.int (Int32.ofInt v9)), some (.int (Int32.ofInt v10))]) (st1 := [.int (Int32.ofInt v9)]) (H1 := mz_mk g x) rfl ?_
              refine mz_if_eq (tgt := 97) rfl rfl (mz_rg l_v9 u_v9) (fun c92_14 => ?_) (fun c92_14 => ?_)
              · skip
                refine mz_iincR (v := v1) (lo2 := [some (.ref 137), some (.int (Int32.ofInt a1)), some (.int (Int32.ofInt (v1 + 1))), some (.int (Int32.ofInt v9)), some (.int (Int32.ofInt v10))]) rfl rfl rfl (Nat.le_of_ble_eq_true rfl) rfl ?_
                refine mz_gt (tgt := 2) rfl rfl ?_
                exact ih5 ((8 - (v1 + 1)).toNat) (by omega) (v1 + 1) (some (.int (Int32.ofInt v9))) (some (.int (Int32.ofInt v10))) rfl (by omega) (by omega) (mz_nl_i _) (mz_nl_i _)
              · exfalso; omega
            · exfalso; omega
        exact L14 _ 0 0 rfl (by decide) (by decide) (by decide) (by decide)
      · skip
        refine mm_g 1 (pc1 := 26) (lo1 := [some (.ref 137), some (.int (Int32.ofInt a1)), some (.int (Int32.ofInt v1)), o2, o3]) (st1 := [.int (Int32.ofInt 1)]) (H1 := mz_mk g x) rfl ?_
        refine mz_gt (tgt := 30) rfl rfl ?_
        refine mm_g 3 (pc1 := 34) (lo1 := [some (.ref 137), some (.int (Int32.ofInt a1)), some (.int (Int32.ofInt v1)), some (.int (Int32.ofInt 1)), some (.int (Int32.ofInt 0))]) (st1 := []) (H1 := mz_mk g x) rfl ?_
        have L20 : ∀ n19 : Nat, ∀ (v15 : Int) (v16 : Int), (8 - v16).toNat = n19 → 0 ≤ v15 → v15 ≤ 1 → 0 ≤ v16 → v16 ≤ 8 → mm_W d mmX12_isToldAhead 34 [some (.ref 137), some (.int (Int32.ofInt a1)), some (.int (Int32.ofInt v1)), some (.int (Int32.ofInt v15)), some (.int (Int32.ofInt v16))] [] (mz_mk g x) Q := by
          intro n19
          induction n19 using Nat.strongRecOn with
          | ind n19 ih18 =>
          intro v15 v16 hmn19 l_v15 u_v15 l_v16 u_v16
          refine mm_g 2 (pc1 := 37) (lo1 := [some (.ref 137), some (.int (Int32.ofInt a1)), some (.int (Int32.ofInt v1)), some (.int (Int32.ofInt v15)), some (.int (Int32.ofInt v16))]) (st1 := [.int (Int32.ofInt a1), .int (Int32.ofInt v16)]) (H1 := mz_mk g x) rfl ?_
          refine mz_ic_ge (tgt := 91) rfl rfl (mz_rg l_v16 u_v16) (mz_rg l_a1 u_a1) (fun c37_20 => ?_) (fun c37_20 => ?_)
          · skip
            refine mm_g 1 (pc1 := 92) (lo1 := [some (.ref 137), some (.int (Int32.ofInt a1)), some (.int (Int32.ofInt v1)), some (.int (Int32.ofInt v15)), some (.int (Int32.ofInt v16))]) (st1 := [.int (Int32.ofInt v15)]) (H1 := mz_mk g x) rfl ?_
            refine mz_if_eq (tgt := 97) rfl rfl (mz_rg l_v15 u_v15) (fun c92_20 => ?_) (fun c92_20 => ?_)
            · skip
              refine mz_iincR (v := v1) (lo2 := [some (.ref 137), some (.int (Int32.ofInt a1)), some (.int (Int32.ofInt (v1 + 1))), some (.int (Int32.ofInt v15)), some (.int (Int32.ofInt v16))]) rfl rfl rfl (Nat.le_of_ble_eq_true rfl) rfl ?_
              refine mz_gt (tgt := 2) rfl rfl ?_
              exact ih5 ((8 - (v1 + 1)).toNat) (by omega) (v1 + 1) (some (.int (Int32.ofInt v15))) (some (.int (Int32.ofInt v16))) rfl (by omega) (by omega) (mz_nl_i _) (mz_nl_i _)
            · skip
              refine mm_g 1 (pc1 := 96) (lo1 := [some (.ref 137), some (.int (Int32.ofInt a1)), some (.int (Int32.ofInt v1)), some (.int (Int32.ofInt v15)), some (.int (Int32.ofInt v16))]) (st1 := [.int (Int32.ofInt 1)]) (H1 := mz_mk g x) rfl ?_
              exact mz_rtZ rfl (by decide) (by omega) (hQ _ (by decide) (by decide))
          · skip
            refine mm_g 1 (pc1 := 41) (lo1 := [some (.ref 137), some (.int (Int32.ofInt a1)), some (.int (Int32.ofInt v1)), some (.int (Int32.ofInt v15)), some (.int (Int32.ofInt v16))]) (st1 := [.int (Int32.ofInt v15)]) (H1 := mz_mk g x) rfl ?_
            refine mz_if_eq (tgt := 91) rfl rfl (mz_rg l_v15 u_v15) (fun c41_20 => ?_) (fun c41_20 => ?_)
            · skip
              refine mm_g 1 (pc1 := 92) (lo1 := [some (.ref 137), some (.int (Int32.ofInt a1)), some (.int (Int32.ofInt v1)), some (.int (Int32.ofInt v15)), some (.int (Int32.ofInt v16))]) (st1 := [.int (Int32.ofInt v15)]) (H1 := mz_mk g x) rfl ?_
              refine mz_if_eq (tgt := 97) rfl rfl (mz_rg l_v15 u_v15) (fun c92_20 => ?_) (fun c92_20 => ?_)
              · skip
                refine mz_iincR (v := v1) (lo2 := [some (.ref 137), some (.int (Int32.ofInt a1)), some (.int (Int32.ofInt (v1 + 1))), some (.int (Int32.ofInt v15)), some (.int (Int32.ofInt v16))]) rfl rfl rfl (Nat.le_of_ble_eq_true rfl) rfl ?_
                refine mz_gt (tgt := 2) rfl rfl ?_
                exact ih5 ((8 - (v1 + 1)).toNat) (by omega) (v1 + 1) (some (.int (Int32.ofInt v15))) (some (.int (Int32.ofInt v16))) rfl (by omega) (by omega) (mz_nl_i _) (mz_nl_i _)
              · exfalso; omega
            · skip
              refine mm_g 1 (pc1 := 45) (lo1 := [some (.ref 137), some (.int (Int32.ofInt a1)), some (.int (Int32.ofInt v1)), some (.int (Int32.ofInt v15)), some (.int (Int32.ofInt v16))]) (st1 := [.ref 137]) (H1 := mz_mk g x) rfl ?_
              refine mz_fgR (v := 141) rfl fd_12_40 (by decide) (sc_137 _) (rf_137_4 _ _ _) ?_
              refine mz_bip rfl bip_8 ?_
              refine mz_bip rfl bip_8 ?_
              refine mm_g 1 (pc1 := 53) (lo1 := [some (.ref 137), some (.int (Int32.ofInt a1)), some (.int (Int32.ofInt v1)), some (.int (Int32.ofInt v15)), some (.int (Int32.ofInt v16))]) (st1 := [.int (Int32.ofInt v1), .int (Int32.ofInt 8), .int (Int32.ofInt 8), .ref 141]) (H1 := mz_mk g x) rfl ?_
              refine mz_iadd rfl ?_
              refine mz_imul rfl ?_
              refine mm_g 1 (pc1 := 57) (lo1 := [some (.ref 137), some (.int (Int32.ofInt a1)), some (.int (Int32.ofInt v1)), some (.int (Int32.ofInt v15)), some (.int (Int32.ofInt v16))]) (st1 := [.int (Int32.ofInt v16), .int (Int32.ofInt (8 * (8 + v1))), .ref 141]) (H1 := mz_mk g x) rfl ?_
              refine mz_iadd rfl ?_
              refine mz_aI rfl (sh_141 _) (by omega) (by omega) (by decide) hI (ba_141 _) (fun v21 e_v21 l_v21 u_v21 => ?_)
              refine mm_g 1 (pc1 := 60) (lo1 := [some (.ref 137), some (.int (Int32.ofInt a1)), some (.int (Int32.ofInt v1)), some (.int (Int32.ofInt v15)), some (.int (Int32.ofInt v16))]) (st1 := [.ref 137, .int (Int32.ofInt v21)]) (H1 := mz_mk g x) rfl ?_
              refine mz_fgR (v := 151) rfl fd_12_69 (by decide) (sc_137 _) (rf_137_14 _ _ _) ?_
              refine mm_g 1 (pc1 := 64) (lo1 := [some (.ref 137), some (.int (Int32.ofInt a1)), some (.int (Int32.ofInt v1)), some (.int (Int32.ofInt v15)), some (.int (Int32.ofInt v16))]) (st1 := [.ref 137, .ref 151, .int (Int32.ofInt v21)]) (H1 := mz_mk g x) rfl ?_
              refine mz_fgI (v := (g 137 20)) rfl fd_12_174 (by decide) (sc_137 _) (show g 137 20 = (g 137 20) from rfl) ?_
              refine mm_g 1 (pc1 := 69) (lo1 := [some (.ref 137), some (.int (Int32.ofInt a1)), some (.int (Int32.ofInt v1)), some (.int (Int32.ofInt v15)), some (.int (Int32.ofInt v16))]) (st1 := [.int (Int32.ofInt v16), .int (Int32.ofInt (g 137 20)), .ref 151, .int (Int32.ofInt v21)]) (H1 := mz_mk g x) rfl ?_
              refine mz_iadd rfl ?_
              refine mz_aI rfl (sh_151 _) (by omega) (by omega) (by decide) hI (ba_151 _) (fun v22 e_v22 l_v22 u_v22 => ?_)
              refine mz_bip rfl bip_97 ?_
              refine mz_isub rfl ?_
              refine mm_g 1 (pc1 := 75) (lo1 := [some (.ref 137), some (.int (Int32.ofInt a1)), some (.int (Int32.ofInt v1)), some (.int (Int32.ofInt v15)), some (.int (Int32.ofInt v16))]) (st1 := [.int (Int32.ofInt 1), .int (Int32.ofInt (v22 - 97)), .int (Int32.ofInt v21)]) (H1 := mz_mk g x) rfl ?_
              refine mz_iadd rfl ?_
              refine mz_ic_ne (tgt := 83) rfl rfl (mz_rg l_v21 u_v21) ⟨by omega, by omega⟩ (fun c76_22 => ?_) (fun c76_22 => ?_)
              · skip
                refine mm_g 2 (pc1 := 85) (lo1 := [some (.ref 137), some (.int (Int32.ofInt a1)), some (.int (Int32.ofInt v1)), some (.int (Int32.ofInt 0)), some (.int (Int32.ofInt v16))]) (st1 := []) (H1 := mz_mk g x) rfl ?_
                refine mz_iincR (v := v16) (lo2 := [some (.ref 137), some (.int (Int32.ofInt a1)), some (.int (Int32.ofInt v1)), some (.int (Int32.ofInt 0)), some (.int (Int32.ofInt (v16 + 1)))]) rfl rfl rfl (Nat.le_of_ble_eq_true rfl) rfl ?_
                refine mz_gt (tgt := 34) rfl rfl ?_
                exact ih18 ((8 - (v16 + 1)).toNat) (by omega) 0 (v16 + 1) rfl (by decide) (by decide) (by omega) (by omega)
              · skip
                refine mm_g 1 (pc1 := 80) (lo1 := [some (.ref 137), some (.int (Int32.ofInt a1)), some (.int (Int32.ofInt v1)), some (.int (Int32.ofInt v15)), some (.int (Int32.ofInt v16))]) (st1 := [.int (Int32.ofInt 1)]) (H1 := mz_mk g x) rfl ?_
                refine mz_gt (tgt := 84) rfl rfl ?_
                refine mm_g 1 (pc1 := 85) (lo1 := [some (.ref 137), some (.int (Int32.ofInt a1)), some (.int (Int32.ofInt v1)), some (.int (Int32.ofInt 1)), some (.int (Int32.ofInt v16))]) (st1 := []) (H1 := mz_mk g x) rfl ?_
                refine mz_iincR (v := v16) (lo2 := [some (.ref 137), some (.int (Int32.ofInt a1)), some (.int (Int32.ofInt v1)), some (.int (Int32.ofInt 1)), some (.int (Int32.ofInt (v16 + 1)))]) rfl rfl rfl (Nat.le_of_ble_eq_true rfl) rfl ?_
                refine mz_gt (tgt := 34) rfl rfl ?_
                exact ih18 ((8 - (v16 + 1)).toNat) (by omega) 1 (v16 + 1) rfl (by decide) (by decide) (by omega) (by omega)
        exact L20 _ 1 0 rfl (by decide) (by decide) (by decide) (by decide)
  exact L7 _ 0 none none rfl (by decide) (by decide) mz_nl_n mz_nl_n
def fw_X12_readWhich (x : mm_X) : Nat → Nat → Prop := fun k j => (k = 137 ∧ j = 22) ∨ (k = 137 ∧ j = 23) ∨ (k = 137 ∧ j = 16) ∨ (k = 137 ∧ j = 20) ∨ (k = 137 ∧ j = 18) ∨ (k = 137 ∧ j = 21) ∨ (k = 137 ∧ j = 19)
theorem c_X12_readWhich {d : Nat} (hd : 13 ≤ d) {x : mm_X} (hx : mk_x x) {g : mz_G} (hI : mz_inv g) (p1 : g 137 20 ≤ g 137 16 ∧ g 137 21 = g 137 16 ∧ g 137 16 ≤ g 137 17 ∧ (g 137 18 ≠ 0 → g 137 20 < g 137 16)) {Q : (Option Value ⊕ Nat) → mm_H → Prop} (hQ : ∀ (r : Int) (g1 : mz_G), mz_inv g1 → mz_fr (fw_X12_readWhich x) g g1 → (-2147483648) ≤ r → r ≤ 2147483647 → (g1 137 20 ≤ g1 137 16 ∧ g1 137 21 = g1 137 16 ∧ g1 137 16 ≤ g1 137 17 ∧ (g1 137 18 ≠ 0 → g1 137 20 < g1 137 16)) → (g 137 20 ≤ g1 137 20) → (g1 137 22 = 0 → g 137 22 = 0) → (g1 137 22 = 0 → g 137 20 < g1 137 20) → (g1 137 22 = 0 → 0 ≤ r ∧ r < g 140 4) → Q (.inl (some (.int (Int32.ofInt r)))) (mz_mk g1 x)) : mm_C d 210 [.ref 137] (mz_mk g x) Q := by
  refine ⟨mmX12_readWhich, [some (.ref 137), none], rfl, rfl, ?_⟩
  have bz0 := mz_rd hI bd_137_16
  have bz1 := mz_rd hI bd_137_17
  have bz2 := mz_rd hI bd_137_18
  have bz3 := mz_rd hI bd_137_20
  have bz4 := mz_rd hI bd_137_21
  have bz5 := mz_rd hI bd_137_22
  have bz6 := mz_rd hI bt_140_4
  refine mm_g 2 (pc1 := 2) (lo1 := [some (.ref 137), none]) (st1 := [.int (Int32.ofInt 0), .ref 137]) (H1 := mz_mk g x) rfl ?_
  refine mz_sip rfl sip_9999 ?_
  have hq1 : g 137 16 = (g 137 16) := (show g 137 16 = (g 137 16) from rfl)
  have hq2 : g 137 17 = (g 137 17) := (show g 137 17 = (g 137 17) from rfl)
  have hq3 : g 137 18 = (g 137 18) := (show g 137 18 = (g 137 18) from rfl)
  have hq4 : g 137 20 = (g 137 20) := (show g 137 20 = (g 137 20) from rfl)
  have hq5 : g 137 21 = (g 137 21) := (show g 137 21 = (g 137 21) from rfl)
  have hq6 : g 137 22 = (g 137 22) := (show g 137 22 = (g 137 22) from rfl)
  refine mz_cv rfl mt_12_231 (by decide) (sc_137 _) rfl (Nat.le_of_ble_eq_true rfl) (by omega) (c_X12_numberNow (by omega) hx hI (by decide) (by decide) (by decide) (by decide) (by have h90 := (show g 137 16 = (g 137 16) from rfl); have h91 := (show g 137 17 = (g 137 17) from rfl); have h92 := (show g 137 18 = (g 137 18) from rfl); have h93 := (show g 137 20 = (g 137 20) from rfl); have h94 := (show g 137 21 = (g 137 21) from rfl); have h95 := (show g 137 22 = (g 137 22) from rfl); omega) (fun v7 g8 hIg8 hfg8 l_v7 u_v7 hp9 hp10 => ⟨_, rfl, ?_⟩))
  show mm_W d mmX12_readWhich 8 [some (.ref 137), none] [.int (Int32.ofInt v7)] (mz_mk g8 x) Q
  have bz_g8_22 := mz_rd hIg8 bd_137_22
  refine mm_g 2 (pc1 := 10) (lo1 := [some (.ref 137), some (.int (Int32.ofInt v7))]) (st1 := [.ref 137]) (H1 := mz_mk g8 x) rfl ?_
  refine mz_fgI (v := (g8 137 22)) rfl fd_12_203 (by decide) (sc_137 _) (show g8 137 22 = (g8 137 22) from rfl) ?_
  refine mz_if_ne (tgt := 31) rfl rfl ⟨by omega, by omega⟩ (fun c13_10 => ?_) (fun c13_10 => ?_)
  · skip
    refine mm_g 1 (pc1 := 32) (lo1 := [some (.ref 137), some (.int (Int32.ofInt v7))]) (st1 := [.ref 137]) (H1 := mz_mk g8 x) rfl ?_
    refine mz_fgI (v := (g8 137 22)) rfl fd_12_203 (by decide) (sc_137 _) (show g8 137 22 = (g8 137 22) from rfl) ?_
    refine mz_if_ne (tgt := 42) rfl rfl ⟨by omega, by omega⟩ (fun c35_10 => ?_) (fun c35_10 => ?_)
    · skip
      refine mm_g 1 (pc1 := 43) (lo1 := [some (.ref 137), some (.int (Int32.ofInt v7))]) (st1 := [.int (Int32.ofInt v7)]) (H1 := mz_mk g8 x) rfl ?_
      exact mm_rt rfl rfl (hQ _ _ hIg8 (fun k j hk => (hfg8 k j (fun h => hk (Or.elim h (fun h => (Or.inl h)) (fun h => (Or.inr (Or.inl h))))))) (by omega) (by omega) (by have h90 := (show g8 137 16 = (g 137 16) from ((hfg8 137 16 (fun h => (Or.elim h (fun h => (absurd (show (137 = 137 ∧ 16 = 22) from h) (by decide))) (fun h => (absurd (show (137 = 137 ∧ 16 = 23) from h) (by decide)))))).trans rfl)); have h91 := (show g8 137 17 = (g 137 17) from ((hfg8 137 17 (fun h => (Or.elim h (fun h => (absurd (show (137 = 137 ∧ 17 = 22) from h) (by decide))) (fun h => (absurd (show (137 = 137 ∧ 17 = 23) from h) (by decide)))))).trans rfl)); have h92 := (show g8 137 18 = (g 137 18) from ((hfg8 137 18 (fun h => (Or.elim h (fun h => (absurd (show (137 = 137 ∧ 18 = 22) from h) (by decide))) (fun h => (absurd (show (137 = 137 ∧ 18 = 23) from h) (by decide)))))).trans rfl)); have h93 := (show g8 137 20 = (g 137 20) from ((hfg8 137 20 (fun h => (Or.elim h (fun h => (absurd (show (137 = 137 ∧ 20 = 22) from h) (by decide))) (fun h => (absurd (show (137 = 137 ∧ 20 = 23) from h) (by decide)))))).trans rfl)); have h94 := (show g8 137 21 = (g 137 21) from ((hfg8 137 21 (fun h => (Or.elim h (fun h => (absurd (show (137 = 137 ∧ 21 = 22) from h) (by decide))) (fun h => (absurd (show (137 = 137 ∧ 21 = 23) from h) (by decide)))))).trans rfl)); have h95 := (show g8 137 22 = (g8 137 22) from rfl); omega) (by have h90 := (show g8 137 16 = (g 137 16) from ((hfg8 137 16 (fun h => (Or.elim h (fun h => (absurd (show (137 = 137 ∧ 16 = 22) from h) (by decide))) (fun h => (absurd (show (137 = 137 ∧ 16 = 23) from h) (by decide)))))).trans rfl)); have h91 := (show g8 137 17 = (g 137 17) from ((hfg8 137 17 (fun h => (Or.elim h (fun h => (absurd (show (137 = 137 ∧ 17 = 22) from h) (by decide))) (fun h => (absurd (show (137 = 137 ∧ 17 = 23) from h) (by decide)))))).trans rfl)); have h92 := (show g8 137 18 = (g 137 18) from ((hfg8 137 18 (fun h => (Or.elim h (fun h => (absurd (show (137 = 137 ∧ 18 = 22) from h) (by decide))) (fun h => (absurd (show (137 = 137 ∧ 18 = 23) from h) (by decide)))))).trans rfl)); have h93 := (show g8 137 20 = (g 137 20) from ((hfg8 137 20 (fun h => (Or.elim h (fun h => (absurd (show (137 = 137 ∧ 20 = 22) from h) (by decide))) (fun h => (absurd (show (137 = 137 ∧ 20 = 23) from h) (by decide)))))).trans rfl)); have h94 := (show g8 137 21 = (g 137 21) from ((hfg8 137 21 (fun h => (Or.elim h (fun h => (absurd (show (137 = 137 ∧ 21 = 22) from h) (by decide))) (fun h => (absurd (show (137 = 137 ∧ 21 = 23) from h) (by decide)))))).trans rfl)); have h95 := (show g8 137 22 = (g8 137 22) from rfl); omega) (by have h90 := (show g8 137 16 = (g 137 16) from ((hfg8 137 16 (fun h => (Or.elim h (fun h => (absurd (show (137 = 137 ∧ 16 = 22) from h) (by decide))) (fun h => (absurd (show (137 = 137 ∧ 16 = 23) from h) (by decide)))))).trans rfl)); have h91 := (show g8 137 17 = (g 137 17) from ((hfg8 137 17 (fun h => (Or.elim h (fun h => (absurd (show (137 = 137 ∧ 17 = 22) from h) (by decide))) (fun h => (absurd (show (137 = 137 ∧ 17 = 23) from h) (by decide)))))).trans rfl)); have h92 := (show g8 137 18 = (g 137 18) from ((hfg8 137 18 (fun h => (Or.elim h (fun h => (absurd (show (137 = 137 ∧ 18 = 22) from h) (by decide))) (fun h => (absurd (show (137 = 137 ∧ 18 = 23) from h) (by decide)))))).trans rfl)); have h93 := (show g8 137 20 = (g 137 20) from ((hfg8 137 20 (fun h => (Or.elim h (fun h => (absurd (show (137 = 137 ∧ 20 = 22) from h) (by decide))) (fun h => (absurd (show (137 = 137 ∧ 20 = 23) from h) (by decide)))))).trans rfl)); have h94 := (show g8 137 21 = (g 137 21) from ((hfg8 137 21 (fun h => (Or.elim h (fun h => (absurd (show (137 = 137 ∧ 21 = 22) from h) (by decide))) (fun h => (absurd (show (137 = 137 ∧ 21 = 23) from h) (by decide)))))).trans rfl)); have h95 := (show g8 137 22 = (g8 137 22) from rfl); omega) (by have h90 := (show g8 137 16 = (g 137 16) from ((hfg8 137 16 (fun h => (Or.elim h (fun h => (absurd (show (137 = 137 ∧ 16 = 22) from h) (by decide))) (fun h => (absurd (show (137 = 137 ∧ 16 = 23) from h) (by decide)))))).trans rfl)); have h91 := (show g8 137 17 = (g 137 17) from ((hfg8 137 17 (fun h => (Or.elim h (fun h => (absurd (show (137 = 137 ∧ 17 = 22) from h) (by decide))) (fun h => (absurd (show (137 = 137 ∧ 17 = 23) from h) (by decide)))))).trans rfl)); have h92 := (show g8 137 18 = (g 137 18) from ((hfg8 137 18 (fun h => (Or.elim h (fun h => (absurd (show (137 = 137 ∧ 18 = 22) from h) (by decide))) (fun h => (absurd (show (137 = 137 ∧ 18 = 23) from h) (by decide)))))).trans rfl)); have h93 := (show g8 137 20 = (g 137 20) from ((hfg8 137 20 (fun h => (Or.elim h (fun h => (absurd (show (137 = 137 ∧ 20 = 22) from h) (by decide))) (fun h => (absurd (show (137 = 137 ∧ 20 = 23) from h) (by decide)))))).trans rfl)); have h94 := (show g8 137 21 = (g 137 21) from ((hfg8 137 21 (fun h => (Or.elim h (fun h => (absurd (show (137 = 137 ∧ 21 = 22) from h) (by decide))) (fun h => (absurd (show (137 = 137 ∧ 21 = 23) from h) (by decide)))))).trans rfl)); have h95 := (show g8 137 22 = (g8 137 22) from rfl); omega) (by have h90 := (show g8 137 16 = (g 137 16) from ((hfg8 137 16 (fun h => (Or.elim h (fun h => (absurd (show (137 = 137 ∧ 16 = 22) from h) (by decide))) (fun h => (absurd (show (137 = 137 ∧ 16 = 23) from h) (by decide)))))).trans rfl)); have h91 := (show g8 137 17 = (g 137 17) from ((hfg8 137 17 (fun h => (Or.elim h (fun h => (absurd (show (137 = 137 ∧ 17 = 22) from h) (by decide))) (fun h => (absurd (show (137 = 137 ∧ 17 = 23) from h) (by decide)))))).trans rfl)); have h92 := (show g8 137 18 = (g 137 18) from ((hfg8 137 18 (fun h => (Or.elim h (fun h => (absurd (show (137 = 137 ∧ 18 = 22) from h) (by decide))) (fun h => (absurd (show (137 = 137 ∧ 18 = 23) from h) (by decide)))))).trans rfl)); have h93 := (show g8 137 20 = (g 137 20) from ((hfg8 137 20 (fun h => (Or.elim h (fun h => (absurd (show (137 = 137 ∧ 20 = 22) from h) (by decide))) (fun h => (absurd (show (137 = 137 ∧ 20 = 23) from h) (by decide)))))).trans rfl)); have h94 := (show g8 137 21 = (g 137 21) from ((hfg8 137 21 (fun h => (Or.elim h (fun h => (absurd (show (137 = 137 ∧ 21 = 22) from h) (by decide))) (fun h => (absurd (show (137 = 137 ∧ 21 = 23) from h) (by decide)))))).trans rfl)); have h95 := (show g8 137 22 = (g8 137 22) from rfl); omega))
    · skip
      refine mm_g 1 (pc1 := 39) (lo1 := [some (.ref 137), some (.int (Int32.ofInt v7))]) (st1 := [.ref 137]) (H1 := mz_mk g8 x) rfl ?_
      have hq11 : g8 137 16 = (g 137 16) := (show g8 137 16 = (g 137 16) from ((hfg8 137 16 (fun h => (Or.elim h (fun h => (absurd (show (137 = 137 ∧ 16 = 22) from h) (by decide))) (fun h => (absurd (show (137 = 137 ∧ 16 = 23) from h) (by decide)))))).trans rfl))
      have hq12 : g8 137 17 = (g 137 17) := (show g8 137 17 = (g 137 17) from ((hfg8 137 17 (fun h => (Or.elim h (fun h => (absurd (show (137 = 137 ∧ 17 = 22) from h) (by decide))) (fun h => (absurd (show (137 = 137 ∧ 17 = 23) from h) (by decide)))))).trans rfl))
      have hq13 : g8 137 18 = (g 137 18) := (show g8 137 18 = (g 137 18) from ((hfg8 137 18 (fun h => (Or.elim h (fun h => (absurd (show (137 = 137 ∧ 18 = 22) from h) (by decide))) (fun h => (absurd (show (137 = 137 ∧ 18 = 23) from h) (by decide)))))).trans rfl))
      have hq14 : g8 137 20 = (g 137 20) := (show g8 137 20 = (g 137 20) from ((hfg8 137 20 (fun h => (Or.elim h (fun h => (absurd (show (137 = 137 ∧ 20 = 22) from h) (by decide))) (fun h => (absurd (show (137 = 137 ∧ 20 = 23) from h) (by decide)))))).trans rfl))
      have hq15 : g8 137 21 = (g 137 21) := (show g8 137 21 = (g 137 21) from ((hfg8 137 21 (fun h => (Or.elim h (fun h => (absurd (show (137 = 137 ∧ 21 = 22) from h) (by decide))) (fun h => (absurd (show (137 = 137 ∧ 21 = 23) from h) (by decide)))))).trans rfl))
      have hq16 : g8 137 22 = (g8 137 22) := (show g8 137 22 = (g8 137 22) from rfl)
      refine mz_cv rfl mt_12_228 (by decide) (sc_137 _) rfl (Nat.le_of_ble_eq_true rfl) (by omega) (c_X12_stepOn (by omega) hx hIg8 (by have h90 := (show g8 137 16 = (g 137 16) from ((hfg8 137 16 (fun h => (Or.elim h (fun h => (absurd (show (137 = 137 ∧ 16 = 22) from h) (by decide))) (fun h => (absurd (show (137 = 137 ∧ 16 = 23) from h) (by decide)))))).trans rfl)); have h91 := (show g8 137 17 = (g 137 17) from ((hfg8 137 17 (fun h => (Or.elim h (fun h => (absurd (show (137 = 137 ∧ 17 = 22) from h) (by decide))) (fun h => (absurd (show (137 = 137 ∧ 17 = 23) from h) (by decide)))))).trans rfl)); omega) (fun g17 hIg17 hfg17 hp18 hp19 => ⟨_, rfl, ?_⟩))
      show mm_W d mmX12_readWhich 42 [some (.ref 137), some (.int (Int32.ofInt v7))] [] (mz_mk g17 x) Q
      have bz_g17_16 := mz_rd hIg17 bd_137_16
      have bz_g17_18 := mz_rd hIg17 bd_137_18
      have bz_g17_20 := mz_rd hIg17 bd_137_20
      have bz_g17_21 := mz_rd hIg17 bd_137_21
      refine mm_g 1 (pc1 := 43) (lo1 := [some (.ref 137), some (.int (Int32.ofInt v7))]) (st1 := [.int (Int32.ofInt v7)]) (H1 := mz_mk g17 x) rfl ?_
      exact mm_rt rfl rfl (hQ _ _ hIg17 (fun k j hk => ((hfg17 k j (fun h => hk (Or.elim h (fun h => (Or.inr (Or.inr (Or.inl h)))) (fun h => (Or.elim h (fun h => (Or.inr (Or.inr (Or.inr (Or.inl h))))) (fun h => (Or.elim h (fun h => (Or.inr (Or.inr (Or.inr (Or.inr (Or.inl h)))))) (fun h => (Or.elim h (fun h => (Or.inr (Or.inr (Or.inr (Or.inr (Or.inr (Or.inl h))))))) (fun h => (Or.inr (Or.inr (Or.inr (Or.inr (Or.inr (Or.inr h)))))))))))))))).trans (hfg8 k j (fun h => hk (Or.elim h (fun h => (Or.inl h)) (fun h => (Or.inr (Or.inl h)))))))) (by omega) (by omega) (by have h90 := (show g17 137 16 = (g17 137 16) from rfl); have h91 := (show g17 137 17 = (g 137 17) from ((hfg17 137 17 (fun h => (Or.elim h (fun h => (absurd (show (137 = 137 ∧ 17 = 16) from h) (by decide))) (fun h => (Or.elim h (fun h => (absurd (show (137 = 137 ∧ 17 = 20) from h) (by decide))) (fun h => (Or.elim h (fun h => (absurd (show (137 = 137 ∧ 17 = 18) from h) (by decide))) (fun h => (Or.elim h (fun h => (absurd (show (137 = 137 ∧ 17 = 21) from h) (by decide))) (fun h => (absurd (show (137 = 137 ∧ 17 = 19) from h) (by decide)))))))))))).trans ((hfg8 137 17 (fun h => (Or.elim h (fun h => (absurd (show (137 = 137 ∧ 17 = 22) from h) (by decide))) (fun h => (absurd (show (137 = 137 ∧ 17 = 23) from h) (by decide)))))).trans rfl))); have h92 := (show g17 137 18 = (g17 137 18) from rfl); have h93 := (show g17 137 20 = (g17 137 20) from rfl); have h94 := (show g17 137 21 = (g17 137 21) from rfl); have h95 := (show g17 137 22 = (g8 137 22) from ((hfg17 137 22 (fun h => (Or.elim h (fun h => (absurd (show (137 = 137 ∧ 22 = 16) from h) (by decide))) (fun h => (Or.elim h (fun h => (absurd (show (137 = 137 ∧ 22 = 20) from h) (by decide))) (fun h => (Or.elim h (fun h => (absurd (show (137 = 137 ∧ 22 = 18) from h) (by decide))) (fun h => (Or.elim h (fun h => (absurd (show (137 = 137 ∧ 22 = 21) from h) (by decide))) (fun h => (absurd (show (137 = 137 ∧ 22 = 19) from h) (by decide)))))))))))).trans rfl)); omega) (by have h90 := (show g17 137 16 = (g17 137 16) from rfl); have h91 := (show g17 137 17 = (g 137 17) from ((hfg17 137 17 (fun h => (Or.elim h (fun h => (absurd (show (137 = 137 ∧ 17 = 16) from h) (by decide))) (fun h => (Or.elim h (fun h => (absurd (show (137 = 137 ∧ 17 = 20) from h) (by decide))) (fun h => (Or.elim h (fun h => (absurd (show (137 = 137 ∧ 17 = 18) from h) (by decide))) (fun h => (Or.elim h (fun h => (absurd (show (137 = 137 ∧ 17 = 21) from h) (by decide))) (fun h => (absurd (show (137 = 137 ∧ 17 = 19) from h) (by decide)))))))))))).trans ((hfg8 137 17 (fun h => (Or.elim h (fun h => (absurd (show (137 = 137 ∧ 17 = 22) from h) (by decide))) (fun h => (absurd (show (137 = 137 ∧ 17 = 23) from h) (by decide)))))).trans rfl))); have h92 := (show g17 137 18 = (g17 137 18) from rfl); have h93 := (show g17 137 20 = (g17 137 20) from rfl); have h94 := (show g17 137 21 = (g17 137 21) from rfl); have h95 := (show g17 137 22 = (g8 137 22) from ((hfg17 137 22 (fun h => (Or.elim h (fun h => (absurd (show (137 = 137 ∧ 22 = 16) from h) (by decide))) (fun h => (Or.elim h (fun h => (absurd (show (137 = 137 ∧ 22 = 20) from h) (by decide))) (fun h => (Or.elim h (fun h => (absurd (show (137 = 137 ∧ 22 = 18) from h) (by decide))) (fun h => (Or.elim h (fun h => (absurd (show (137 = 137 ∧ 22 = 21) from h) (by decide))) (fun h => (absurd (show (137 = 137 ∧ 22 = 19) from h) (by decide)))))))))))).trans rfl)); omega) (by have h90 := (show g17 137 16 = (g17 137 16) from rfl); have h91 := (show g17 137 17 = (g 137 17) from ((hfg17 137 17 (fun h => (Or.elim h (fun h => (absurd (show (137 = 137 ∧ 17 = 16) from h) (by decide))) (fun h => (Or.elim h (fun h => (absurd (show (137 = 137 ∧ 17 = 20) from h) (by decide))) (fun h => (Or.elim h (fun h => (absurd (show (137 = 137 ∧ 17 = 18) from h) (by decide))) (fun h => (Or.elim h (fun h => (absurd (show (137 = 137 ∧ 17 = 21) from h) (by decide))) (fun h => (absurd (show (137 = 137 ∧ 17 = 19) from h) (by decide)))))))))))).trans ((hfg8 137 17 (fun h => (Or.elim h (fun h => (absurd (show (137 = 137 ∧ 17 = 22) from h) (by decide))) (fun h => (absurd (show (137 = 137 ∧ 17 = 23) from h) (by decide)))))).trans rfl))); have h92 := (show g17 137 18 = (g17 137 18) from rfl); have h93 := (show g17 137 20 = (g17 137 20) from rfl); have h94 := (show g17 137 21 = (g17 137 21) from rfl); have h95 := (show g17 137 22 = (g8 137 22) from ((hfg17 137 22 (fun h => (Or.elim h (fun h => (absurd (show (137 = 137 ∧ 22 = 16) from h) (by decide))) (fun h => (Or.elim h (fun h => (absurd (show (137 = 137 ∧ 22 = 20) from h) (by decide))) (fun h => (Or.elim h (fun h => (absurd (show (137 = 137 ∧ 22 = 18) from h) (by decide))) (fun h => (Or.elim h (fun h => (absurd (show (137 = 137 ∧ 22 = 21) from h) (by decide))) (fun h => (absurd (show (137 = 137 ∧ 22 = 19) from h) (by decide)))))))))))).trans rfl)); omega) (by have h90 := (show g17 137 16 = (g17 137 16) from rfl); have h91 := (show g17 137 17 = (g 137 17) from ((hfg17 137 17 (fun h => (Or.elim h (fun h => (absurd (show (137 = 137 ∧ 17 = 16) from h) (by decide))) (fun h => (Or.elim h (fun h => (absurd (show (137 = 137 ∧ 17 = 20) from h) (by decide))) (fun h => (Or.elim h (fun h => (absurd (show (137 = 137 ∧ 17 = 18) from h) (by decide))) (fun h => (Or.elim h (fun h => (absurd (show (137 = 137 ∧ 17 = 21) from h) (by decide))) (fun h => (absurd (show (137 = 137 ∧ 17 = 19) from h) (by decide)))))))))))).trans ((hfg8 137 17 (fun h => (Or.elim h (fun h => (absurd (show (137 = 137 ∧ 17 = 22) from h) (by decide))) (fun h => (absurd (show (137 = 137 ∧ 17 = 23) from h) (by decide)))))).trans rfl))); have h92 := (show g17 137 18 = (g17 137 18) from rfl); have h93 := (show g17 137 20 = (g17 137 20) from rfl); have h94 := (show g17 137 21 = (g17 137 21) from rfl); have h95 := (show g17 137 22 = (g8 137 22) from ((hfg17 137 22 (fun h => (Or.elim h (fun h => (absurd (show (137 = 137 ∧ 22 = 16) from h) (by decide))) (fun h => (Or.elim h (fun h => (absurd (show (137 = 137 ∧ 22 = 20) from h) (by decide))) (fun h => (Or.elim h (fun h => (absurd (show (137 = 137 ∧ 22 = 18) from h) (by decide))) (fun h => (Or.elim h (fun h => (absurd (show (137 = 137 ∧ 22 = 21) from h) (by decide))) (fun h => (absurd (show (137 = 137 ∧ 22 = 19) from h) (by decide)))))))))))).trans rfl)); omega) (by have h90 := (show g17 137 16 = (g17 137 16) from rfl); have h91 := (show g17 137 17 = (g 137 17) from ((hfg17 137 17 (fun h => (Or.elim h (fun h => (absurd (show (137 = 137 ∧ 17 = 16) from h) (by decide))) (fun h => (Or.elim h (fun h => (absurd (show (137 = 137 ∧ 17 = 20) from h) (by decide))) (fun h => (Or.elim h (fun h => (absurd (show (137 = 137 ∧ 17 = 18) from h) (by decide))) (fun h => (Or.elim h (fun h => (absurd (show (137 = 137 ∧ 17 = 21) from h) (by decide))) (fun h => (absurd (show (137 = 137 ∧ 17 = 19) from h) (by decide)))))))))))).trans ((hfg8 137 17 (fun h => (Or.elim h (fun h => (absurd (show (137 = 137 ∧ 17 = 22) from h) (by decide))) (fun h => (absurd (show (137 = 137 ∧ 17 = 23) from h) (by decide)))))).trans rfl))); have h92 := (show g17 137 18 = (g17 137 18) from rfl); have h93 := (show g17 137 20 = (g17 137 20) from rfl); have h94 := (show g17 137 21 = (g17 137 21) from rfl); have h95 := (show g17 137 22 = (g8 137 22) from ((hfg17 137 22 (fun h => (Or.elim h (fun h => (absurd (show (137 = 137 ∧ 22 = 16) from h) (by decide))) (fun h => (Or.elim h (fun h => (absurd (show (137 = 137 ∧ 22 = 20) from h) (by decide))) (fun h => (Or.elim h (fun h => (absurd (show (137 = 137 ∧ 22 = 18) from h) (by decide))) (fun h => (Or.elim h (fun h => (absurd (show (137 = 137 ∧ 22 = 21) from h) (by decide))) (fun h => (absurd (show (137 = 137 ∧ 22 = 19) from h) (by decide)))))))))))).trans rfl)); omega))
  · skip
    refine mm_g 2 (pc1 := 18) (lo1 := [some (.ref 137), some (.int (Int32.ofInt v7))]) (st1 := [.ref 137, .int (Int32.ofInt v7)]) (H1 := mz_mk g8 x) rfl ?_
    refine mz_fgR (v := 140) rfl fd_12_36 (by decide) (sc_137 _) (rf_137_3 _ _ _) ?_
    refine mm_g 1 (pc1 := 22) (lo1 := [some (.ref 137), some (.int (Int32.ofInt v7))]) (st1 := [.int (Int32.ofInt 4), .ref 140, .int (Int32.ofInt v7)]) (H1 := mz_mk g8 x) rfl ?_
    refine mz_ia (v := (g 140 4)) rfl (sh_140 _) (by decide) (by decide) (by decide) (show g8 140 4 = (g 140 4) from ((hfg8 140 4 (fun h => (Or.elim h (fun h => (absurd (show 140 = 137 from (h).1) (by decide))) (fun h => (absurd (show 140 = 137 from (h).1) (by decide)))))).trans rfl)) ?_
    refine mz_ic_lt (tgt := 31) rfl rfl (mz_rg l_v7 u_v7) ⟨by omega, by omega⟩ (fun c23_19 => ?_) (fun c23_19 => ?_)
    · skip
      refine mm_g 1 (pc1 := 32) (lo1 := [some (.ref 137), some (.int (Int32.ofInt v7))]) (st1 := [.ref 137]) (H1 := mz_mk g8 x) rfl ?_
      refine mz_fgI (v := (g8 137 22)) rfl fd_12_203 (by decide) (sc_137 _) (show g8 137 22 = (g8 137 22) from rfl) ?_
      refine mz_if_ne (tgt := 42) rfl rfl ⟨by omega, by omega⟩ (fun c35_19 => ?_) (fun c35_19 => ?_)
      · exfalso; omega
      · skip
        refine mm_g 1 (pc1 := 39) (lo1 := [some (.ref 137), some (.int (Int32.ofInt v7))]) (st1 := [.ref 137]) (H1 := mz_mk g8 x) rfl ?_
        have hq20 : g8 137 16 = (g 137 16) := (show g8 137 16 = (g 137 16) from ((hfg8 137 16 (fun h => (Or.elim h (fun h => (absurd (show (137 = 137 ∧ 16 = 22) from h) (by decide))) (fun h => (absurd (show (137 = 137 ∧ 16 = 23) from h) (by decide)))))).trans rfl))
        have hq21 : g8 137 17 = (g 137 17) := (show g8 137 17 = (g 137 17) from ((hfg8 137 17 (fun h => (Or.elim h (fun h => (absurd (show (137 = 137 ∧ 17 = 22) from h) (by decide))) (fun h => (absurd (show (137 = 137 ∧ 17 = 23) from h) (by decide)))))).trans rfl))
        have hq22 : g8 137 18 = (g 137 18) := (show g8 137 18 = (g 137 18) from ((hfg8 137 18 (fun h => (Or.elim h (fun h => (absurd (show (137 = 137 ∧ 18 = 22) from h) (by decide))) (fun h => (absurd (show (137 = 137 ∧ 18 = 23) from h) (by decide)))))).trans rfl))
        have hq23 : g8 137 20 = (g 137 20) := (show g8 137 20 = (g 137 20) from ((hfg8 137 20 (fun h => (Or.elim h (fun h => (absurd (show (137 = 137 ∧ 20 = 22) from h) (by decide))) (fun h => (absurd (show (137 = 137 ∧ 20 = 23) from h) (by decide)))))).trans rfl))
        have hq24 : g8 137 21 = (g 137 21) := (show g8 137 21 = (g 137 21) from ((hfg8 137 21 (fun h => (Or.elim h (fun h => (absurd (show (137 = 137 ∧ 21 = 22) from h) (by decide))) (fun h => (absurd (show (137 = 137 ∧ 21 = 23) from h) (by decide)))))).trans rfl))
        have hq25 : g8 137 22 = (g8 137 22) := (show g8 137 22 = (g8 137 22) from rfl)
        refine mz_cv rfl mt_12_228 (by decide) (sc_137 _) rfl (Nat.le_of_ble_eq_true rfl) (by omega) (c_X12_stepOn (by omega) hx hIg8 (by have h90 := (show g8 137 16 = (g 137 16) from ((hfg8 137 16 (fun h => (Or.elim h (fun h => (absurd (show (137 = 137 ∧ 16 = 22) from h) (by decide))) (fun h => (absurd (show (137 = 137 ∧ 16 = 23) from h) (by decide)))))).trans rfl)); have h91 := (show g8 137 17 = (g 137 17) from ((hfg8 137 17 (fun h => (Or.elim h (fun h => (absurd (show (137 = 137 ∧ 17 = 22) from h) (by decide))) (fun h => (absurd (show (137 = 137 ∧ 17 = 23) from h) (by decide)))))).trans rfl)); omega) (fun g26 hIg26 hfg26 hp27 hp28 => ⟨_, rfl, ?_⟩))
        show mm_W d mmX12_readWhich 42 [some (.ref 137), some (.int (Int32.ofInt v7))] [] (mz_mk g26 x) Q
        have bz_g26_16 := mz_rd hIg26 bd_137_16
        have bz_g26_18 := mz_rd hIg26 bd_137_18
        have bz_g26_20 := mz_rd hIg26 bd_137_20
        have bz_g26_21 := mz_rd hIg26 bd_137_21
        refine mm_g 1 (pc1 := 43) (lo1 := [some (.ref 137), some (.int (Int32.ofInt v7))]) (st1 := [.int (Int32.ofInt v7)]) (H1 := mz_mk g26 x) rfl ?_
        exact mm_rt rfl rfl (hQ _ _ hIg26 (fun k j hk => ((hfg26 k j (fun h => hk (Or.elim h (fun h => (Or.inr (Or.inr (Or.inl h)))) (fun h => (Or.elim h (fun h => (Or.inr (Or.inr (Or.inr (Or.inl h))))) (fun h => (Or.elim h (fun h => (Or.inr (Or.inr (Or.inr (Or.inr (Or.inl h)))))) (fun h => (Or.elim h (fun h => (Or.inr (Or.inr (Or.inr (Or.inr (Or.inr (Or.inl h))))))) (fun h => (Or.inr (Or.inr (Or.inr (Or.inr (Or.inr (Or.inr h)))))))))))))))).trans (hfg8 k j (fun h => hk (Or.elim h (fun h => (Or.inl h)) (fun h => (Or.inr (Or.inl h)))))))) (by omega) (by omega) (by have h90 := (show g26 137 16 = (g26 137 16) from rfl); have h91 := (show g26 137 17 = (g 137 17) from ((hfg26 137 17 (fun h => (Or.elim h (fun h => (absurd (show (137 = 137 ∧ 17 = 16) from h) (by decide))) (fun h => (Or.elim h (fun h => (absurd (show (137 = 137 ∧ 17 = 20) from h) (by decide))) (fun h => (Or.elim h (fun h => (absurd (show (137 = 137 ∧ 17 = 18) from h) (by decide))) (fun h => (Or.elim h (fun h => (absurd (show (137 = 137 ∧ 17 = 21) from h) (by decide))) (fun h => (absurd (show (137 = 137 ∧ 17 = 19) from h) (by decide)))))))))))).trans ((hfg8 137 17 (fun h => (Or.elim h (fun h => (absurd (show (137 = 137 ∧ 17 = 22) from h) (by decide))) (fun h => (absurd (show (137 = 137 ∧ 17 = 23) from h) (by decide)))))).trans rfl))); have h92 := (show g26 137 18 = (g26 137 18) from rfl); have h93 := (show g26 137 20 = (g26 137 20) from rfl); have h94 := (show g26 137 21 = (g26 137 21) from rfl); have h95 := (show g26 137 22 = (g8 137 22) from ((hfg26 137 22 (fun h => (Or.elim h (fun h => (absurd (show (137 = 137 ∧ 22 = 16) from h) (by decide))) (fun h => (Or.elim h (fun h => (absurd (show (137 = 137 ∧ 22 = 20) from h) (by decide))) (fun h => (Or.elim h (fun h => (absurd (show (137 = 137 ∧ 22 = 18) from h) (by decide))) (fun h => (Or.elim h (fun h => (absurd (show (137 = 137 ∧ 22 = 21) from h) (by decide))) (fun h => (absurd (show (137 = 137 ∧ 22 = 19) from h) (by decide)))))))))))).trans rfl)); omega) (by have h90 := (show g26 137 16 = (g26 137 16) from rfl); have h91 := (show g26 137 17 = (g 137 17) from ((hfg26 137 17 (fun h => (Or.elim h (fun h => (absurd (show (137 = 137 ∧ 17 = 16) from h) (by decide))) (fun h => (Or.elim h (fun h => (absurd (show (137 = 137 ∧ 17 = 20) from h) (by decide))) (fun h => (Or.elim h (fun h => (absurd (show (137 = 137 ∧ 17 = 18) from h) (by decide))) (fun h => (Or.elim h (fun h => (absurd (show (137 = 137 ∧ 17 = 21) from h) (by decide))) (fun h => (absurd (show (137 = 137 ∧ 17 = 19) from h) (by decide)))))))))))).trans ((hfg8 137 17 (fun h => (Or.elim h (fun h => (absurd (show (137 = 137 ∧ 17 = 22) from h) (by decide))) (fun h => (absurd (show (137 = 137 ∧ 17 = 23) from h) (by decide)))))).trans rfl))); have h92 := (show g26 137 18 = (g26 137 18) from rfl); have h93 := (show g26 137 20 = (g26 137 20) from rfl); have h94 := (show g26 137 21 = (g26 137 21) from rfl); have h95 := (show g26 137 22 = (g8 137 22) from ((hfg26 137 22 (fun h => (Or.elim h (fun h => (absurd (show (137 = 137 ∧ 22 = 16) from h) (by decide))) (fun h => (Or.elim h (fun h => (absurd (show (137 = 137 ∧ 22 = 20) from h) (by decide))) (fun h => (Or.elim h (fun h => (absurd (show (137 = 137 ∧ 22 = 18) from h) (by decide))) (fun h => (Or.elim h (fun h => (absurd (show (137 = 137 ∧ 22 = 21) from h) (by decide))) (fun h => (absurd (show (137 = 137 ∧ 22 = 19) from h) (by decide)))))))))))).trans rfl)); omega) (by have h90 := (show g26 137 16 = (g26 137 16) from rfl); have h91 := (show g26 137 17 = (g 137 17) from ((hfg26 137 17 (fun h => (Or.elim h (fun h => (absurd (show (137 = 137 ∧ 17 = 16) from h) (by decide))) (fun h => (Or.elim h (fun h => (absurd (show (137 = 137 ∧ 17 = 20) from h) (by decide))) (fun h => (Or.elim h (fun h => (absurd (show (137 = 137 ∧ 17 = 18) from h) (by decide))) (fun h => (Or.elim h (fun h => (absurd (show (137 = 137 ∧ 17 = 21) from h) (by decide))) (fun h => (absurd (show (137 = 137 ∧ 17 = 19) from h) (by decide)))))))))))).trans ((hfg8 137 17 (fun h => (Or.elim h (fun h => (absurd (show (137 = 137 ∧ 17 = 22) from h) (by decide))) (fun h => (absurd (show (137 = 137 ∧ 17 = 23) from h) (by decide)))))).trans rfl))); have h92 := (show g26 137 18 = (g26 137 18) from rfl); have h93 := (show g26 137 20 = (g26 137 20) from rfl); have h94 := (show g26 137 21 = (g26 137 21) from rfl); have h95 := (show g26 137 22 = (g8 137 22) from ((hfg26 137 22 (fun h => (Or.elim h (fun h => (absurd (show (137 = 137 ∧ 22 = 16) from h) (by decide))) (fun h => (Or.elim h (fun h => (absurd (show (137 = 137 ∧ 22 = 20) from h) (by decide))) (fun h => (Or.elim h (fun h => (absurd (show (137 = 137 ∧ 22 = 18) from h) (by decide))) (fun h => (Or.elim h (fun h => (absurd (show (137 = 137 ∧ 22 = 21) from h) (by decide))) (fun h => (absurd (show (137 = 137 ∧ 22 = 19) from h) (by decide)))))))))))).trans rfl)); omega) (by have h90 := (show g26 137 16 = (g26 137 16) from rfl); have h91 := (show g26 137 17 = (g 137 17) from ((hfg26 137 17 (fun h => (Or.elim h (fun h => (absurd (show (137 = 137 ∧ 17 = 16) from h) (by decide))) (fun h => (Or.elim h (fun h => (absurd (show (137 = 137 ∧ 17 = 20) from h) (by decide))) (fun h => (Or.elim h (fun h => (absurd (show (137 = 137 ∧ 17 = 18) from h) (by decide))) (fun h => (Or.elim h (fun h => (absurd (show (137 = 137 ∧ 17 = 21) from h) (by decide))) (fun h => (absurd (show (137 = 137 ∧ 17 = 19) from h) (by decide)))))))))))).trans ((hfg8 137 17 (fun h => (Or.elim h (fun h => (absurd (show (137 = 137 ∧ 17 = 22) from h) (by decide))) (fun h => (absurd (show (137 = 137 ∧ 17 = 23) from h) (by decide)))))).trans rfl))); have h92 := (show g26 137 18 = (g26 137 18) from rfl); have h93 := (show g26 137 20 = (g26 137 20) from rfl); have h94 := (show g26 137 21 = (g26 137 21) from rfl); have h95 := (show g26 137 22 = (g8 137 22) from ((hfg26 137 22 (fun h => (Or.elim h (fun h => (absurd (show (137 = 137 ∧ 22 = 16) from h) (by decide))) (fun h => (Or.elim h (fun h => (absurd (show (137 = 137 ∧ 22 = 20) from h) (by decide))) (fun h => (Or.elim h (fun h => (absurd (show (137 = 137 ∧ 22 = 18) from h) (by decide))) (fun h => (Or.elim h (fun h => (absurd (show (137 = 137 ∧ 22 = 21) from h) (by decide))) (fun h => (absurd (show (137 = 137 ∧ 22 = 19) from h) (by decide)))))))))))).trans rfl)); omega) (by have h90 := (show g26 137 16 = (g26 137 16) from rfl); have h91 := (show g26 137 17 = (g 137 17) from ((hfg26 137 17 (fun h => (Or.elim h (fun h => (absurd (show (137 = 137 ∧ 17 = 16) from h) (by decide))) (fun h => (Or.elim h (fun h => (absurd (show (137 = 137 ∧ 17 = 20) from h) (by decide))) (fun h => (Or.elim h (fun h => (absurd (show (137 = 137 ∧ 17 = 18) from h) (by decide))) (fun h => (Or.elim h (fun h => (absurd (show (137 = 137 ∧ 17 = 21) from h) (by decide))) (fun h => (absurd (show (137 = 137 ∧ 17 = 19) from h) (by decide)))))))))))).trans ((hfg8 137 17 (fun h => (Or.elim h (fun h => (absurd (show (137 = 137 ∧ 17 = 22) from h) (by decide))) (fun h => (absurd (show (137 = 137 ∧ 17 = 23) from h) (by decide)))))).trans rfl))); have h92 := (show g26 137 18 = (g26 137 18) from rfl); have h93 := (show g26 137 20 = (g26 137 20) from rfl); have h94 := (show g26 137 21 = (g26 137 21) from rfl); have h95 := (show g26 137 22 = (g8 137 22) from ((hfg26 137 22 (fun h => (Or.elim h (fun h => (absurd (show (137 = 137 ∧ 22 = 16) from h) (by decide))) (fun h => (Or.elim h (fun h => (absurd (show (137 = 137 ∧ 22 = 20) from h) (by decide))) (fun h => (Or.elim h (fun h => (absurd (show (137 = 137 ∧ 22 = 18) from h) (by decide))) (fun h => (Or.elim h (fun h => (absurd (show (137 = 137 ∧ 22 = 21) from h) (by decide))) (fun h => (absurd (show (137 = 137 ∧ 22 = 19) from h) (by decide)))))))))))).trans rfl)); omega))
    · skip
      refine mm_g 2 (pc1 := 28) (lo1 := [some (.ref 137), some (.int (Int32.ofInt v7))]) (st1 := [.int (Int32.ofInt 3), .ref 137]) (H1 := mz_mk g8 x) rfl ?_
      have hq29 : g8 137 22 = (g8 137 22) := (show g8 137 22 = (g8 137 22) from rfl)
      refine mz_cv rfl mt_12_224 (by decide) (sc_137 _) rfl (Nat.le_of_ble_eq_true rfl) (by omega) (c_X12_wrong (by omega) hx hIg8 (by decide) (by decide) (fun g30 hIg30 hfg30 hp31 hp32 => ⟨_, rfl, ?_⟩))
      show mm_W d mmX12_readWhich 31 [some (.ref 137), some (.int (Int32.ofInt v7))] [] (mz_mk g30 x) Q
      have bz_g30_22 := mz_rd hIg30 bd_137_22
      refine mm_g 1 (pc1 := 32) (lo1 := [some (.ref 137), some (.int (Int32.ofInt v7))]) (st1 := [.ref 137]) (H1 := mz_mk g30 x) rfl ?_
      refine mz_fgI (v := (g30 137 22)) rfl fd_12_203 (by decide) (sc_137 _) (show g30 137 22 = (g30 137 22) from rfl) ?_
      refine mz_if_ne (tgt := 42) rfl rfl ⟨by omega, by omega⟩ (fun c35_32 => ?_) (fun c35_32 => ?_)
      · skip
        refine mm_g 1 (pc1 := 43) (lo1 := [some (.ref 137), some (.int (Int32.ofInt v7))]) (st1 := [.int (Int32.ofInt v7)]) (H1 := mz_mk g30 x) rfl ?_
        exact mm_rt rfl rfl (hQ _ _ hIg30 (fun k j hk => ((hfg30 k j (fun h => hk (Or.elim h (fun h => (Or.inl h)) (fun h => (Or.inr (Or.inl h)))))).trans (hfg8 k j (fun h => hk (Or.elim h (fun h => (Or.inl h)) (fun h => (Or.inr (Or.inl h)))))))) (by omega) (by omega) (by have h90 := (show g30 137 16 = (g 137 16) from ((hfg30 137 16 (fun h => (Or.elim h (fun h => (absurd (show (137 = 137 ∧ 16 = 22) from h) (by decide))) (fun h => (absurd (show (137 = 137 ∧ 16 = 23) from h) (by decide)))))).trans ((hfg8 137 16 (fun h => (Or.elim h (fun h => (absurd (show (137 = 137 ∧ 16 = 22) from h) (by decide))) (fun h => (absurd (show (137 = 137 ∧ 16 = 23) from h) (by decide)))))).trans rfl))); have h91 := (show g30 137 17 = (g 137 17) from ((hfg30 137 17 (fun h => (Or.elim h (fun h => (absurd (show (137 = 137 ∧ 17 = 22) from h) (by decide))) (fun h => (absurd (show (137 = 137 ∧ 17 = 23) from h) (by decide)))))).trans ((hfg8 137 17 (fun h => (Or.elim h (fun h => (absurd (show (137 = 137 ∧ 17 = 22) from h) (by decide))) (fun h => (absurd (show (137 = 137 ∧ 17 = 23) from h) (by decide)))))).trans rfl))); have h92 := (show g30 137 18 = (g 137 18) from ((hfg30 137 18 (fun h => (Or.elim h (fun h => (absurd (show (137 = 137 ∧ 18 = 22) from h) (by decide))) (fun h => (absurd (show (137 = 137 ∧ 18 = 23) from h) (by decide)))))).trans ((hfg8 137 18 (fun h => (Or.elim h (fun h => (absurd (show (137 = 137 ∧ 18 = 22) from h) (by decide))) (fun h => (absurd (show (137 = 137 ∧ 18 = 23) from h) (by decide)))))).trans rfl))); have h93 := (show g30 137 20 = (g 137 20) from ((hfg30 137 20 (fun h => (Or.elim h (fun h => (absurd (show (137 = 137 ∧ 20 = 22) from h) (by decide))) (fun h => (absurd (show (137 = 137 ∧ 20 = 23) from h) (by decide)))))).trans ((hfg8 137 20 (fun h => (Or.elim h (fun h => (absurd (show (137 = 137 ∧ 20 = 22) from h) (by decide))) (fun h => (absurd (show (137 = 137 ∧ 20 = 23) from h) (by decide)))))).trans rfl))); have h94 := (show g30 137 21 = (g 137 21) from ((hfg30 137 21 (fun h => (Or.elim h (fun h => (absurd (show (137 = 137 ∧ 21 = 22) from h) (by decide))) (fun h => (absurd (show (137 = 137 ∧ 21 = 23) from h) (by decide)))))).trans ((hfg8 137 21 (fun h => (Or.elim h (fun h => (absurd (show (137 = 137 ∧ 21 = 22) from h) (by decide))) (fun h => (absurd (show (137 = 137 ∧ 21 = 23) from h) (by decide)))))).trans rfl))); have h95 := (show g30 137 22 = (g30 137 22) from rfl); omega) (by have h90 := (show g30 137 16 = (g 137 16) from ((hfg30 137 16 (fun h => (Or.elim h (fun h => (absurd (show (137 = 137 ∧ 16 = 22) from h) (by decide))) (fun h => (absurd (show (137 = 137 ∧ 16 = 23) from h) (by decide)))))).trans ((hfg8 137 16 (fun h => (Or.elim h (fun h => (absurd (show (137 = 137 ∧ 16 = 22) from h) (by decide))) (fun h => (absurd (show (137 = 137 ∧ 16 = 23) from h) (by decide)))))).trans rfl))); have h91 := (show g30 137 17 = (g 137 17) from ((hfg30 137 17 (fun h => (Or.elim h (fun h => (absurd (show (137 = 137 ∧ 17 = 22) from h) (by decide))) (fun h => (absurd (show (137 = 137 ∧ 17 = 23) from h) (by decide)))))).trans ((hfg8 137 17 (fun h => (Or.elim h (fun h => (absurd (show (137 = 137 ∧ 17 = 22) from h) (by decide))) (fun h => (absurd (show (137 = 137 ∧ 17 = 23) from h) (by decide)))))).trans rfl))); have h92 := (show g30 137 18 = (g 137 18) from ((hfg30 137 18 (fun h => (Or.elim h (fun h => (absurd (show (137 = 137 ∧ 18 = 22) from h) (by decide))) (fun h => (absurd (show (137 = 137 ∧ 18 = 23) from h) (by decide)))))).trans ((hfg8 137 18 (fun h => (Or.elim h (fun h => (absurd (show (137 = 137 ∧ 18 = 22) from h) (by decide))) (fun h => (absurd (show (137 = 137 ∧ 18 = 23) from h) (by decide)))))).trans rfl))); have h93 := (show g30 137 20 = (g 137 20) from ((hfg30 137 20 (fun h => (Or.elim h (fun h => (absurd (show (137 = 137 ∧ 20 = 22) from h) (by decide))) (fun h => (absurd (show (137 = 137 ∧ 20 = 23) from h) (by decide)))))).trans ((hfg8 137 20 (fun h => (Or.elim h (fun h => (absurd (show (137 = 137 ∧ 20 = 22) from h) (by decide))) (fun h => (absurd (show (137 = 137 ∧ 20 = 23) from h) (by decide)))))).trans rfl))); have h94 := (show g30 137 21 = (g 137 21) from ((hfg30 137 21 (fun h => (Or.elim h (fun h => (absurd (show (137 = 137 ∧ 21 = 22) from h) (by decide))) (fun h => (absurd (show (137 = 137 ∧ 21 = 23) from h) (by decide)))))).trans ((hfg8 137 21 (fun h => (Or.elim h (fun h => (absurd (show (137 = 137 ∧ 21 = 22) from h) (by decide))) (fun h => (absurd (show (137 = 137 ∧ 21 = 23) from h) (by decide)))))).trans rfl))); have h95 := (show g30 137 22 = (g30 137 22) from rfl); omega) (by have h90 := (show g30 137 16 = (g 137 16) from ((hfg30 137 16 (fun h => (Or.elim h (fun h => (absurd (show (137 = 137 ∧ 16 = 22) from h) (by decide))) (fun h => (absurd (show (137 = 137 ∧ 16 = 23) from h) (by decide)))))).trans ((hfg8 137 16 (fun h => (Or.elim h (fun h => (absurd (show (137 = 137 ∧ 16 = 22) from h) (by decide))) (fun h => (absurd (show (137 = 137 ∧ 16 = 23) from h) (by decide)))))).trans rfl))); have h91 := (show g30 137 17 = (g 137 17) from ((hfg30 137 17 (fun h => (Or.elim h (fun h => (absurd (show (137 = 137 ∧ 17 = 22) from h) (by decide))) (fun h => (absurd (show (137 = 137 ∧ 17 = 23) from h) (by decide)))))).trans ((hfg8 137 17 (fun h => (Or.elim h (fun h => (absurd (show (137 = 137 ∧ 17 = 22) from h) (by decide))) (fun h => (absurd (show (137 = 137 ∧ 17 = 23) from h) (by decide)))))).trans rfl))); have h92 := (show g30 137 18 = (g 137 18) from ((hfg30 137 18 (fun h => (Or.elim h (fun h => (absurd (show (137 = 137 ∧ 18 = 22) from h) (by decide))) (fun h => (absurd (show (137 = 137 ∧ 18 = 23) from h) (by decide)))))).trans ((hfg8 137 18 (fun h => (Or.elim h (fun h => (absurd (show (137 = 137 ∧ 18 = 22) from h) (by decide))) (fun h => (absurd (show (137 = 137 ∧ 18 = 23) from h) (by decide)))))).trans rfl))); have h93 := (show g30 137 20 = (g 137 20) from ((hfg30 137 20 (fun h => (Or.elim h (fun h => (absurd (show (137 = 137 ∧ 20 = 22) from h) (by decide))) (fun h => (absurd (show (137 = 137 ∧ 20 = 23) from h) (by decide)))))).trans ((hfg8 137 20 (fun h => (Or.elim h (fun h => (absurd (show (137 = 137 ∧ 20 = 22) from h) (by decide))) (fun h => (absurd (show (137 = 137 ∧ 20 = 23) from h) (by decide)))))).trans rfl))); have h94 := (show g30 137 21 = (g 137 21) from ((hfg30 137 21 (fun h => (Or.elim h (fun h => (absurd (show (137 = 137 ∧ 21 = 22) from h) (by decide))) (fun h => (absurd (show (137 = 137 ∧ 21 = 23) from h) (by decide)))))).trans ((hfg8 137 21 (fun h => (Or.elim h (fun h => (absurd (show (137 = 137 ∧ 21 = 22) from h) (by decide))) (fun h => (absurd (show (137 = 137 ∧ 21 = 23) from h) (by decide)))))).trans rfl))); have h95 := (show g30 137 22 = (g30 137 22) from rfl); omega) (by have h90 := (show g30 137 16 = (g 137 16) from ((hfg30 137 16 (fun h => (Or.elim h (fun h => (absurd (show (137 = 137 ∧ 16 = 22) from h) (by decide))) (fun h => (absurd (show (137 = 137 ∧ 16 = 23) from h) (by decide)))))).trans ((hfg8 137 16 (fun h => (Or.elim h (fun h => (absurd (show (137 = 137 ∧ 16 = 22) from h) (by decide))) (fun h => (absurd (show (137 = 137 ∧ 16 = 23) from h) (by decide)))))).trans rfl))); have h91 := (show g30 137 17 = (g 137 17) from ((hfg30 137 17 (fun h => (Or.elim h (fun h => (absurd (show (137 = 137 ∧ 17 = 22) from h) (by decide))) (fun h => (absurd (show (137 = 137 ∧ 17 = 23) from h) (by decide)))))).trans ((hfg8 137 17 (fun h => (Or.elim h (fun h => (absurd (show (137 = 137 ∧ 17 = 22) from h) (by decide))) (fun h => (absurd (show (137 = 137 ∧ 17 = 23) from h) (by decide)))))).trans rfl))); have h92 := (show g30 137 18 = (g 137 18) from ((hfg30 137 18 (fun h => (Or.elim h (fun h => (absurd (show (137 = 137 ∧ 18 = 22) from h) (by decide))) (fun h => (absurd (show (137 = 137 ∧ 18 = 23) from h) (by decide)))))).trans ((hfg8 137 18 (fun h => (Or.elim h (fun h => (absurd (show (137 = 137 ∧ 18 = 22) from h) (by decide))) (fun h => (absurd (show (137 = 137 ∧ 18 = 23) from h) (by decide)))))).trans rfl))); have h93 := (show g30 137 20 = (g 137 20) from ((hfg30 137 20 (fun h => (Or.elim h (fun h => (absurd (show (137 = 137 ∧ 20 = 22) from h) (by decide))) (fun h => (absurd (show (137 = 137 ∧ 20 = 23) from h) (by decide)))))).trans ((hfg8 137 20 (fun h => (Or.elim h (fun h => (absurd (show (137 = 137 ∧ 20 = 22) from h) (by decide))) (fun h => (absurd (show (137 = 137 ∧ 20 = 23) from h) (by decide)))))).trans rfl))); have h94 := (show g30 137 21 = (g 137 21) from ((hfg30 137 21 (fun h => (Or.elim h (fun h => (absurd (show (137 = 137 ∧ 21 = 22) from h) (by decide))) (fun h => (absurd (show (137 = 137 ∧ 21 = 23) from h) (by decide)))))).trans ((hfg8 137 21 (fun h => (Or.elim h (fun h => (absurd (show (137 = 137 ∧ 21 = 22) from h) (by decide))) (fun h => (absurd (show (137 = 137 ∧ 21 = 23) from h) (by decide)))))).trans rfl))); have h95 := (show g30 137 22 = (g30 137 22) from rfl); omega) (by have h90 := (show g30 137 16 = (g 137 16) from ((hfg30 137 16 (fun h => (Or.elim h (fun h => (absurd (show (137 = 137 ∧ 16 = 22) from h) (by decide))) (fun h => (absurd (show (137 = 137 ∧ 16 = 23) from h) (by decide)))))).trans ((hfg8 137 16 (fun h => (Or.elim h (fun h => (absurd (show (137 = 137 ∧ 16 = 22) from h) (by decide))) (fun h => (absurd (show (137 = 137 ∧ 16 = 23) from h) (by decide)))))).trans rfl))); have h91 := (show g30 137 17 = (g 137 17) from ((hfg30 137 17 (fun h => (Or.elim h (fun h => (absurd (show (137 = 137 ∧ 17 = 22) from h) (by decide))) (fun h => (absurd (show (137 = 137 ∧ 17 = 23) from h) (by decide)))))).trans ((hfg8 137 17 (fun h => (Or.elim h (fun h => (absurd (show (137 = 137 ∧ 17 = 22) from h) (by decide))) (fun h => (absurd (show (137 = 137 ∧ 17 = 23) from h) (by decide)))))).trans rfl))); have h92 := (show g30 137 18 = (g 137 18) from ((hfg30 137 18 (fun h => (Or.elim h (fun h => (absurd (show (137 = 137 ∧ 18 = 22) from h) (by decide))) (fun h => (absurd (show (137 = 137 ∧ 18 = 23) from h) (by decide)))))).trans ((hfg8 137 18 (fun h => (Or.elim h (fun h => (absurd (show (137 = 137 ∧ 18 = 22) from h) (by decide))) (fun h => (absurd (show (137 = 137 ∧ 18 = 23) from h) (by decide)))))).trans rfl))); have h93 := (show g30 137 20 = (g 137 20) from ((hfg30 137 20 (fun h => (Or.elim h (fun h => (absurd (show (137 = 137 ∧ 20 = 22) from h) (by decide))) (fun h => (absurd (show (137 = 137 ∧ 20 = 23) from h) (by decide)))))).trans ((hfg8 137 20 (fun h => (Or.elim h (fun h => (absurd (show (137 = 137 ∧ 20 = 22) from h) (by decide))) (fun h => (absurd (show (137 = 137 ∧ 20 = 23) from h) (by decide)))))).trans rfl))); have h94 := (show g30 137 21 = (g 137 21) from ((hfg30 137 21 (fun h => (Or.elim h (fun h => (absurd (show (137 = 137 ∧ 21 = 22) from h) (by decide))) (fun h => (absurd (show (137 = 137 ∧ 21 = 23) from h) (by decide)))))).trans ((hfg8 137 21 (fun h => (Or.elim h (fun h => (absurd (show (137 = 137 ∧ 21 = 22) from h) (by decide))) (fun h => (absurd (show (137 = 137 ∧ 21 = 23) from h) (by decide)))))).trans rfl))); have h95 := (show g30 137 22 = (g30 137 22) from rfl); omega))
      · skip
        refine mm_g 1 (pc1 := 39) (lo1 := [some (.ref 137), some (.int (Int32.ofInt v7))]) (st1 := [.ref 137]) (H1 := mz_mk g30 x) rfl ?_
        have hq33 : g30 137 16 = (g 137 16) := (show g30 137 16 = (g 137 16) from ((hfg30 137 16 (fun h => (Or.elim h (fun h => (absurd (show (137 = 137 ∧ 16 = 22) from h) (by decide))) (fun h => (absurd (show (137 = 137 ∧ 16 = 23) from h) (by decide)))))).trans ((hfg8 137 16 (fun h => (Or.elim h (fun h => (absurd (show (137 = 137 ∧ 16 = 22) from h) (by decide))) (fun h => (absurd (show (137 = 137 ∧ 16 = 23) from h) (by decide)))))).trans rfl)))
        have hq34 : g30 137 17 = (g 137 17) := (show g30 137 17 = (g 137 17) from ((hfg30 137 17 (fun h => (Or.elim h (fun h => (absurd (show (137 = 137 ∧ 17 = 22) from h) (by decide))) (fun h => (absurd (show (137 = 137 ∧ 17 = 23) from h) (by decide)))))).trans ((hfg8 137 17 (fun h => (Or.elim h (fun h => (absurd (show (137 = 137 ∧ 17 = 22) from h) (by decide))) (fun h => (absurd (show (137 = 137 ∧ 17 = 23) from h) (by decide)))))).trans rfl)))
        have hq35 : g30 137 18 = (g 137 18) := (show g30 137 18 = (g 137 18) from ((hfg30 137 18 (fun h => (Or.elim h (fun h => (absurd (show (137 = 137 ∧ 18 = 22) from h) (by decide))) (fun h => (absurd (show (137 = 137 ∧ 18 = 23) from h) (by decide)))))).trans ((hfg8 137 18 (fun h => (Or.elim h (fun h => (absurd (show (137 = 137 ∧ 18 = 22) from h) (by decide))) (fun h => (absurd (show (137 = 137 ∧ 18 = 23) from h) (by decide)))))).trans rfl)))
        have hq36 : g30 137 20 = (g 137 20) := (show g30 137 20 = (g 137 20) from ((hfg30 137 20 (fun h => (Or.elim h (fun h => (absurd (show (137 = 137 ∧ 20 = 22) from h) (by decide))) (fun h => (absurd (show (137 = 137 ∧ 20 = 23) from h) (by decide)))))).trans ((hfg8 137 20 (fun h => (Or.elim h (fun h => (absurd (show (137 = 137 ∧ 20 = 22) from h) (by decide))) (fun h => (absurd (show (137 = 137 ∧ 20 = 23) from h) (by decide)))))).trans rfl)))
        have hq37 : g30 137 21 = (g 137 21) := (show g30 137 21 = (g 137 21) from ((hfg30 137 21 (fun h => (Or.elim h (fun h => (absurd (show (137 = 137 ∧ 21 = 22) from h) (by decide))) (fun h => (absurd (show (137 = 137 ∧ 21 = 23) from h) (by decide)))))).trans ((hfg8 137 21 (fun h => (Or.elim h (fun h => (absurd (show (137 = 137 ∧ 21 = 22) from h) (by decide))) (fun h => (absurd (show (137 = 137 ∧ 21 = 23) from h) (by decide)))))).trans rfl)))
        have hq38 : g30 137 22 = (g30 137 22) := (show g30 137 22 = (g30 137 22) from rfl)
        refine mz_cv rfl mt_12_228 (by decide) (sc_137 _) rfl (Nat.le_of_ble_eq_true rfl) (by omega) (c_X12_stepOn (by omega) hx hIg30 (by have h90 := (show g30 137 16 = (g 137 16) from ((hfg30 137 16 (fun h => (Or.elim h (fun h => (absurd (show (137 = 137 ∧ 16 = 22) from h) (by decide))) (fun h => (absurd (show (137 = 137 ∧ 16 = 23) from h) (by decide)))))).trans ((hfg8 137 16 (fun h => (Or.elim h (fun h => (absurd (show (137 = 137 ∧ 16 = 22) from h) (by decide))) (fun h => (absurd (show (137 = 137 ∧ 16 = 23) from h) (by decide)))))).trans rfl))); have h91 := (show g30 137 17 = (g 137 17) from ((hfg30 137 17 (fun h => (Or.elim h (fun h => (absurd (show (137 = 137 ∧ 17 = 22) from h) (by decide))) (fun h => (absurd (show (137 = 137 ∧ 17 = 23) from h) (by decide)))))).trans ((hfg8 137 17 (fun h => (Or.elim h (fun h => (absurd (show (137 = 137 ∧ 17 = 22) from h) (by decide))) (fun h => (absurd (show (137 = 137 ∧ 17 = 23) from h) (by decide)))))).trans rfl))); omega) (fun g39 hIg39 hfg39 hp40 hp41 => ⟨_, rfl, ?_⟩))
        show mm_W d mmX12_readWhich 42 [some (.ref 137), some (.int (Int32.ofInt v7))] [] (mz_mk g39 x) Q
        have bz_g39_16 := mz_rd hIg39 bd_137_16
        have bz_g39_18 := mz_rd hIg39 bd_137_18
        have bz_g39_20 := mz_rd hIg39 bd_137_20
        have bz_g39_21 := mz_rd hIg39 bd_137_21
        refine mm_g 1 (pc1 := 43) (lo1 := [some (.ref 137), some (.int (Int32.ofInt v7))]) (st1 := [.int (Int32.ofInt v7)]) (H1 := mz_mk g39 x) rfl ?_
        exact mm_rt rfl rfl (hQ _ _ hIg39 (fun k j hk => ((hfg39 k j (fun h => hk (Or.elim h (fun h => (Or.inr (Or.inr (Or.inl h)))) (fun h => (Or.elim h (fun h => (Or.inr (Or.inr (Or.inr (Or.inl h))))) (fun h => (Or.elim h (fun h => (Or.inr (Or.inr (Or.inr (Or.inr (Or.inl h)))))) (fun h => (Or.elim h (fun h => (Or.inr (Or.inr (Or.inr (Or.inr (Or.inr (Or.inl h))))))) (fun h => (Or.inr (Or.inr (Or.inr (Or.inr (Or.inr (Or.inr h)))))))))))))))).trans ((hfg30 k j (fun h => hk (Or.elim h (fun h => (Or.inl h)) (fun h => (Or.inr (Or.inl h)))))).trans (hfg8 k j (fun h => hk (Or.elim h (fun h => (Or.inl h)) (fun h => (Or.inr (Or.inl h))))))))) (by omega) (by omega) (by have h90 := (show g39 137 16 = (g39 137 16) from rfl); have h91 := (show g39 137 17 = (g 137 17) from ((hfg39 137 17 (fun h => (Or.elim h (fun h => (absurd (show (137 = 137 ∧ 17 = 16) from h) (by decide))) (fun h => (Or.elim h (fun h => (absurd (show (137 = 137 ∧ 17 = 20) from h) (by decide))) (fun h => (Or.elim h (fun h => (absurd (show (137 = 137 ∧ 17 = 18) from h) (by decide))) (fun h => (Or.elim h (fun h => (absurd (show (137 = 137 ∧ 17 = 21) from h) (by decide))) (fun h => (absurd (show (137 = 137 ∧ 17 = 19) from h) (by decide)))))))))))).trans ((hfg30 137 17 (fun h => (Or.elim h (fun h => (absurd (show (137 = 137 ∧ 17 = 22) from h) (by decide))) (fun h => (absurd (show (137 = 137 ∧ 17 = 23) from h) (by decide)))))).trans ((hfg8 137 17 (fun h => (Or.elim h (fun h => (absurd (show (137 = 137 ∧ 17 = 22) from h) (by decide))) (fun h => (absurd (show (137 = 137 ∧ 17 = 23) from h) (by decide)))))).trans rfl)))); have h92 := (show g39 137 18 = (g39 137 18) from rfl); have h93 := (show g39 137 20 = (g39 137 20) from rfl); have h94 := (show g39 137 21 = (g39 137 21) from rfl); have h95 := (show g39 137 22 = (g30 137 22) from ((hfg39 137 22 (fun h => (Or.elim h (fun h => (absurd (show (137 = 137 ∧ 22 = 16) from h) (by decide))) (fun h => (Or.elim h (fun h => (absurd (show (137 = 137 ∧ 22 = 20) from h) (by decide))) (fun h => (Or.elim h (fun h => (absurd (show (137 = 137 ∧ 22 = 18) from h) (by decide))) (fun h => (Or.elim h (fun h => (absurd (show (137 = 137 ∧ 22 = 21) from h) (by decide))) (fun h => (absurd (show (137 = 137 ∧ 22 = 19) from h) (by decide)))))))))))).trans rfl)); omega) (by have h90 := (show g39 137 16 = (g39 137 16) from rfl); have h91 := (show g39 137 17 = (g 137 17) from ((hfg39 137 17 (fun h => (Or.elim h (fun h => (absurd (show (137 = 137 ∧ 17 = 16) from h) (by decide))) (fun h => (Or.elim h (fun h => (absurd (show (137 = 137 ∧ 17 = 20) from h) (by decide))) (fun h => (Or.elim h (fun h => (absurd (show (137 = 137 ∧ 17 = 18) from h) (by decide))) (fun h => (Or.elim h (fun h => (absurd (show (137 = 137 ∧ 17 = 21) from h) (by decide))) (fun h => (absurd (show (137 = 137 ∧ 17 = 19) from h) (by decide)))))))))))).trans ((hfg30 137 17 (fun h => (Or.elim h (fun h => (absurd (show (137 = 137 ∧ 17 = 22) from h) (by decide))) (fun h => (absurd (show (137 = 137 ∧ 17 = 23) from h) (by decide)))))).trans ((hfg8 137 17 (fun h => (Or.elim h (fun h => (absurd (show (137 = 137 ∧ 17 = 22) from h) (by decide))) (fun h => (absurd (show (137 = 137 ∧ 17 = 23) from h) (by decide)))))).trans rfl)))); have h92 := (show g39 137 18 = (g39 137 18) from rfl); have h93 := (show g39 137 20 = (g39 137 20) from rfl); have h94 := (show g39 137 21 = (g39 137 21) from rfl); have h95 := (show g39 137 22 = (g30 137 22) from ((hfg39 137 22 (fun h => (Or.elim h (fun h => (absurd (show (137 = 137 ∧ 22 = 16) from h) (by decide))) (fun h => (Or.elim h (fun h => (absurd (show (137 = 137 ∧ 22 = 20) from h) (by decide))) (fun h => (Or.elim h (fun h => (absurd (show (137 = 137 ∧ 22 = 18) from h) (by decide))) (fun h => (Or.elim h (fun h => (absurd (show (137 = 137 ∧ 22 = 21) from h) (by decide))) (fun h => (absurd (show (137 = 137 ∧ 22 = 19) from h) (by decide)))))))))))).trans rfl)); omega) (by have h90 := (show g39 137 16 = (g39 137 16) from rfl); have h91 := (show g39 137 17 = (g 137 17) from ((hfg39 137 17 (fun h => (Or.elim h (fun h => (absurd (show (137 = 137 ∧ 17 = 16) from h) (by decide))) (fun h => (Or.elim h (fun h => (absurd (show (137 = 137 ∧ 17 = 20) from h) (by decide))) (fun h => (Or.elim h (fun h => (absurd (show (137 = 137 ∧ 17 = 18) from h) (by decide))) (fun h => (Or.elim h (fun h => (absurd (show (137 = 137 ∧ 17 = 21) from h) (by decide))) (fun h => (absurd (show (137 = 137 ∧ 17 = 19) from h) (by decide)))))))))))).trans ((hfg30 137 17 (fun h => (Or.elim h (fun h => (absurd (show (137 = 137 ∧ 17 = 22) from h) (by decide))) (fun h => (absurd (show (137 = 137 ∧ 17 = 23) from h) (by decide)))))).trans ((hfg8 137 17 (fun h => (Or.elim h (fun h => (absurd (show (137 = 137 ∧ 17 = 22) from h) (by decide))) (fun h => (absurd (show (137 = 137 ∧ 17 = 23) from h) (by decide)))))).trans rfl)))); have h92 := (show g39 137 18 = (g39 137 18) from rfl); have h93 := (show g39 137 20 = (g39 137 20) from rfl); have h94 := (show g39 137 21 = (g39 137 21) from rfl); have h95 := (show g39 137 22 = (g30 137 22) from ((hfg39 137 22 (fun h => (Or.elim h (fun h => (absurd (show (137 = 137 ∧ 22 = 16) from h) (by decide))) (fun h => (Or.elim h (fun h => (absurd (show (137 = 137 ∧ 22 = 20) from h) (by decide))) (fun h => (Or.elim h (fun h => (absurd (show (137 = 137 ∧ 22 = 18) from h) (by decide))) (fun h => (Or.elim h (fun h => (absurd (show (137 = 137 ∧ 22 = 21) from h) (by decide))) (fun h => (absurd (show (137 = 137 ∧ 22 = 19) from h) (by decide)))))))))))).trans rfl)); omega) (by have h90 := (show g39 137 16 = (g39 137 16) from rfl); have h91 := (show g39 137 17 = (g 137 17) from ((hfg39 137 17 (fun h => (Or.elim h (fun h => (absurd (show (137 = 137 ∧ 17 = 16) from h) (by decide))) (fun h => (Or.elim h (fun h => (absurd (show (137 = 137 ∧ 17 = 20) from h) (by decide))) (fun h => (Or.elim h (fun h => (absurd (show (137 = 137 ∧ 17 = 18) from h) (by decide))) (fun h => (Or.elim h (fun h => (absurd (show (137 = 137 ∧ 17 = 21) from h) (by decide))) (fun h => (absurd (show (137 = 137 ∧ 17 = 19) from h) (by decide)))))))))))).trans ((hfg30 137 17 (fun h => (Or.elim h (fun h => (absurd (show (137 = 137 ∧ 17 = 22) from h) (by decide))) (fun h => (absurd (show (137 = 137 ∧ 17 = 23) from h) (by decide)))))).trans ((hfg8 137 17 (fun h => (Or.elim h (fun h => (absurd (show (137 = 137 ∧ 17 = 22) from h) (by decide))) (fun h => (absurd (show (137 = 137 ∧ 17 = 23) from h) (by decide)))))).trans rfl)))); have h92 := (show g39 137 18 = (g39 137 18) from rfl); have h93 := (show g39 137 20 = (g39 137 20) from rfl); have h94 := (show g39 137 21 = (g39 137 21) from rfl); have h95 := (show g39 137 22 = (g30 137 22) from ((hfg39 137 22 (fun h => (Or.elim h (fun h => (absurd (show (137 = 137 ∧ 22 = 16) from h) (by decide))) (fun h => (Or.elim h (fun h => (absurd (show (137 = 137 ∧ 22 = 20) from h) (by decide))) (fun h => (Or.elim h (fun h => (absurd (show (137 = 137 ∧ 22 = 18) from h) (by decide))) (fun h => (Or.elim h (fun h => (absurd (show (137 = 137 ∧ 22 = 21) from h) (by decide))) (fun h => (absurd (show (137 = 137 ∧ 22 = 19) from h) (by decide)))))))))))).trans rfl)); omega) (by have h90 := (show g39 137 16 = (g39 137 16) from rfl); have h91 := (show g39 137 17 = (g 137 17) from ((hfg39 137 17 (fun h => (Or.elim h (fun h => (absurd (show (137 = 137 ∧ 17 = 16) from h) (by decide))) (fun h => (Or.elim h (fun h => (absurd (show (137 = 137 ∧ 17 = 20) from h) (by decide))) (fun h => (Or.elim h (fun h => (absurd (show (137 = 137 ∧ 17 = 18) from h) (by decide))) (fun h => (Or.elim h (fun h => (absurd (show (137 = 137 ∧ 17 = 21) from h) (by decide))) (fun h => (absurd (show (137 = 137 ∧ 17 = 19) from h) (by decide)))))))))))).trans ((hfg30 137 17 (fun h => (Or.elim h (fun h => (absurd (show (137 = 137 ∧ 17 = 22) from h) (by decide))) (fun h => (absurd (show (137 = 137 ∧ 17 = 23) from h) (by decide)))))).trans ((hfg8 137 17 (fun h => (Or.elim h (fun h => (absurd (show (137 = 137 ∧ 17 = 22) from h) (by decide))) (fun h => (absurd (show (137 = 137 ∧ 17 = 23) from h) (by decide)))))).trans rfl)))); have h92 := (show g39 137 18 = (g39 137 18) from rfl); have h93 := (show g39 137 20 = (g39 137 20) from rfl); have h94 := (show g39 137 21 = (g39 137 21) from rfl); have h95 := (show g39 137 22 = (g30 137 22) from ((hfg39 137 22 (fun h => (Or.elim h (fun h => (absurd (show (137 = 137 ∧ 22 = 16) from h) (by decide))) (fun h => (Or.elim h (fun h => (absurd (show (137 = 137 ∧ 22 = 20) from h) (by decide))) (fun h => (Or.elim h (fun h => (absurd (show (137 = 137 ∧ 22 = 18) from h) (by decide))) (fun h => (Or.elim h (fun h => (absurd (show (137 = 137 ∧ 22 = 21) from h) (by decide))) (fun h => (absurd (show (137 = 137 ∧ 22 = 19) from h) (by decide)))))))))))).trans rfl)); omega))
def fl_X12_takeHalf_2 (x : mm_X) (q1 : Nat) : Nat → Nat → Prop := fun k j => k = q1
def fw_X12_takeHalf (x : mm_X) (q1 : Nat) : Nat → Nat → Prop := fun k j => k = q1
theorem c_X12_takeHalf {d : Nat} (hd : 1 ≤ d) {x : mm_X} (hx : mk_x x) {g : mz_G} (hI : mz_inv g) {q1 n_q1 : Nat} (h_q1 : mm_SH x.2.2.2.1 q1 = (100, n_q1)) (m_q1 : n_q1 ≤ 2048) (p1 : ∀ j, mz_bd q1 (n_q1 / 2 + j) = mz_bd q1 j) {Q : (Option Value ⊕ Nat) → mm_H → Prop} (hQ : ∀ (g1 : mz_G), mz_inv g1 → mz_fr (fw_X12_takeHalf x q1) g g1 → (∀ j : Nat, j < n_q1 / 2 → g1 q1 j = g q1 (n_q1 / 2 + j)) → Q (.inl none) (mz_mk g1 x)) : mm_C d 215 [.ref q1] (mz_mk g x) Q := by
  refine ⟨mmX12_takeHalf, [some (.ref q1), none], rfl, rfl, ?_⟩
  refine mm_g 2 (pc1 := 2) (lo1 := [some (.ref q1), some (.int (Int32.ofInt 0))]) (st1 := []) (H1 := mz_mk g x) rfl ?_
  have L5 : ∀ n4 : Nat, ∀ (v1 : Int) (g2 : mz_G), (1024 - v1).toNat = n4 → 0 ≤ v1 → v1 ≤ 1024 → mz_inv g2 → mz_fr (fl_X12_takeHalf_2 x q1) g g2 → (∀ j : Nat, (j : Int) < v1 → g2 q1 j = g q1 (n_q1 / 2 + j)) → (∀ j : Nat, n_q1 / 2 ≤ j → g2 q1 j = g q1 j) → mm_W d mmX12_takeHalf 2 [some (.ref q1), some (.int (Int32.ofInt v1))] [] (mz_mk g2 x) Q := by
    intro n4
    induction n4 using Nat.strongRecOn with
    | ind n4 ih3 =>
    intro v1 g2 hmn4 l_v1 u_v1 hIg2 hfg2 hv6 hv7
    refine mm_g 2 (pc1 := 4) (lo1 := [some (.ref q1), some (.int (Int32.ofInt v1))]) (st1 := [.ref q1, .int (Int32.ofInt v1)]) (H1 := mz_mk g2 x) rfl ?_
    refine mz_al rfl h_q1 (by decide) ?_
    refine mm_g 1 (pc1 := 6) (lo1 := [some (.ref q1), some (.int (Int32.ofInt v1))]) (st1 := [.int (Int32.ofInt 2), .int (Int32.ofInt (n_q1 : Int)), .int (Int32.ofInt v1)]) (H1 := mz_mk g2 x) rfl ?_
    refine mz_idivp rfl ⟨by omega, by omega⟩ ⟨by decide, by decide⟩ (by omega) (by omega) (fun v8 e_v8 => ?_)
    have l_v8 : 0 ≤ v8 := by omega
    have u_v8 : v8 ≤ 1024 := by omega
    refine mz_ic_ge (tgt := 27) rfl rfl (mz_rg l_v1 u_v1) (mz_rg l_v8 u_v8) (fun c7_8 => ?_) (fun c7_8 => ?_)
    · skip
      exact mm_rt rfl rfl (hQ _ hIg2 (fun k j hk => (hfg2 k j (fun h => hk h))) (fun j hj => hv6 j (by omega)))
    · skip
      refine mm_g 4 (pc1 := 14) (lo1 := [some (.ref q1), some (.int (Int32.ofInt v1))]) (st1 := [.ref q1, .ref q1, .int (Int32.ofInt v1), .ref q1]) (H1 := mz_mk g2 x) rfl ?_
      refine mz_al rfl h_q1 (by decide) ?_
      refine mm_g 1 (pc1 := 16) (lo1 := [some (.ref q1), some (.int (Int32.ofInt v1))]) (st1 := [.int (Int32.ofInt 2), .int (Int32.ofInt (n_q1 : Int)), .ref q1, .int (Int32.ofInt v1), .ref q1]) (H1 := mz_mk g2 x) rfl ?_
      refine mz_idivp rfl ⟨by omega, by omega⟩ ⟨by decide, by decide⟩ (by omega) (by omega) (fun v9 e_v9 => ?_)
      have l_v9 : 0 ≤ v9 := by omega
      have u_v9 : v9 ≤ 1024 := by omega
      refine mm_g 1 (pc1 := 18) (lo1 := [some (.ref q1), some (.int (Int32.ofInt v1))]) (st1 := [.int (Int32.ofInt v1), .int (Int32.ofInt v9), .ref q1, .int (Int32.ofInt v1), .ref q1]) (H1 := mz_mk g2 x) rfl ?_
      refine mz_iadd rfl ?_
      refine mz_aI rfl h_q1 (by omega) (by omega) (by omega) hIg2 (Prod.eta _).symm (fun v10 e_v10 l_v10 u_v10 => ?_)
      refine mz_sI rfl h_q1 (by omega) (by omega) (by omega) hIg2 ((show mz_bd q1 (v1 : Int).toNat = mz_bd q1 ((v9 + v1) : Int).toNat from (p1 (v1 : Int).toNat).symm.trans (congrArg (mz_bd q1) (by omega))).trans (Prod.eta _).symm) (by omega) (by omega) (fun g11 hIg11 hug11 => ?_)
      refine mz_iincR (v := v1) (lo2 := [some (.ref q1), some (.int (Int32.ofInt (v1 + 1)))]) rfl rfl rfl (Nat.le_of_ble_eq_true rfl) rfl ?_
      refine mz_gt (tgt := 2) rfl rfl ?_
      exact ih3 ((1024 - (v1 + 1)).toNat) (by omega) (v1 + 1) g11 rfl (by omega) (by omega) hIg11 (fun k j hk => ((hug11.2 k j (fun h => hk h.1)).trans (hfg2 k j (fun h => hk h)))) (by intro j hj; rcases (by omega : (j : Int) < v1 ∨ j = (v1 : Int).toNat) with z | z; rw [hug11.2 q1 j (by omega)]; exact hv6 j z; rw [z]; exact (hug11.1.trans (e_v10.symm.trans ((hv7 _ (by omega)).trans (congrArg (g q1) (by omega)))))) (by intro j hj; rw [hug11.2 q1 j (by omega)]; exact hv7 j hj)
  exact L5 _ 0 g rfl (by decide) (by decide) hI (fun _ _ _ => rfl) (by intro j hj; omega) (fun _ _ => rfl)
def fw_X12_fault (x : mm_X) : Nat → Nat → Prop := fun k j => (k = 137 ∧ j = 2)
theorem c_X12_fault {d : Nat} (hd : 1 ≤ d) {x : mm_X} (hx : mk_x x) {g : mz_G} (hI : mz_inv g) (p1 : mz_pv g) (p2 : g 137 30 ≤ 999) {Q : (Option Value ⊕ Nat) → mm_H → Prop} (hQ : ∀ (r : Int) (g1 : mz_G), mz_inv g1 → mz_fr (fw_X12_fault x) g g1 → (-2147483648) ≤ r → r ≤ 2147483647 → (g1 137 30 ≤ 999) → Q (.inl (some (.int (Int32.ofInt r)))) (mz_mk g1 x)) : mm_C d 217 [.ref 137] (mz_mk g x) Q := by
  refine ⟨mmX12_fault, [some (.ref 137)], rfl, rfl, ?_⟩
  have bz0 := mz_rd hI bd_137_30
  have hpv := p1
  refine mm_g 2 (pc1 := 2) (lo1 := [some (.ref 137)]) (st1 := [.int (Int32.ofInt 0), .ref 137]) (H1 := mz_mk g x) rfl ?_
  refine mz_pI rfl fd_12_154 (sc_137 _) hI bd_137_2 (by omega) (by omega) (fun g1 hIg1 hug1 => ?_)
  refine mm_g 1 (pc1 := 6) (lo1 := [some (.ref 137)]) (st1 := [.ref 137]) (H1 := mz_mk g1 x) rfl ?_
  refine mz_gI rfl fd_12_72 (by decide) (sc_137 _) hIg1 bd_137_24 (fun v2 e_v2 l_v2 u_v2 => ?_)
  exact mm_rt rfl rfl (hQ _ _ hIg1 (fun k j hk => (hug1.2 k j (fun h => hk h))) (by omega) (by omega) (by have h9 := (show g1 137 30 = (g 137 30) from ((hug1.2 137 30 (fun h => absurd h.2 (by decide))).trans rfl)); omega))
def fl_X12_store_9 (x : mm_X) (q1 : Nat) (a2 : Int) : Nat → Nat → Prop := fun k j => k = q1
def fw_X12_store (x : mm_X) (q1 : Nat) (a2 : Int) : Nat → Nat → Prop := fun k j => k = q1
theorem c_X12_store {d : Nat} (hd : 1 ≤ d) {x : mm_X} (hx : mk_x x) {g : mz_G} (hI : mz_inv g) {q1 n_q1 : Nat} (h_q1 : mk_rw q1 n_q1) {a2 : Int} (l_a2 : 0 ≤ a2) (u_a2 : a2 ≤ 975) (p1 : 0 ≤ a2 ∧ a2 % 25 = 0) (p2 : a2 + 25 ≤ (n_q1 : Int)) (p3 : g 137 30 ≤ 999) {Q : (Option Value ⊕ Nat) → mm_H → Prop} (hQ : ∀ (g1 : mz_G), mz_inv g1 → mz_fr (fw_X12_store x q1 a2) g g1 → Q (.inl none) (mz_mk g1 x)) : mm_C d 218 [.ref 137, .ref q1, .int (Int32.ofInt a2)] (mz_mk g x) Q := by
  refine ⟨mmX12_store, [some (.ref 137), some (.ref q1), some (.int (Int32.ofInt a2)), none], rfl, rfl, ?_⟩
  have bz0 := mz_rd hI bd_137_30
  refine mm_g 3 (pc1 := 3) (lo1 := [some (.ref 137), some (.ref q1), some (.int (Int32.ofInt a2)), none]) (st1 := [.ref 137, .int (Int32.ofInt a2), .ref q1]) (H1 := mz_mk g x) rfl ?_
  refine mz_fgI (v := (g 137 30)) rfl fd_12_307 (by decide) (sc_137 _) (show g 137 30 = (g 137 30) from rfl) ?_
  refine mz_sI rfl (rw_sh h_q1 _) (by omega) (by omega) (rw_m h_q1) hI (rwb0 h_q1 (f := a2) (by omega) (by omega) (by omega)) (by omega) (by omega) (fun g1 hIg1 hug1 => ?_)
  refine mm_g 2 (pc1 := 9) (lo1 := [some (.ref 137), some (.ref q1), some (.int (Int32.ofInt a2)), some (.int (Int32.ofInt 0))]) (st1 := []) (H1 := mz_mk g1 x) rfl ?_
  have L6 : ∀ n5 : Nat, ∀ (v2 : Int) (g3 : mz_G), (6 - v2).toNat = n5 → 0 ≤ v2 → v2 ≤ 6 → mz_inv g3 → mz_fr (fl_X12_store_9 x q1 a2) g1 g3 → mm_W d mmX12_store 9 [some (.ref 137), some (.ref q1), some (.int (Int32.ofInt a2)), some (.int (Int32.ofInt v2))] [] (mz_mk g3 x) Q := by
    intro n5
    induction n5 using Nat.strongRecOn with
    | ind n5 ih4 =>
    intro v2 g3 hmn5 l_v2 u_v2 hIg3 hfg3
    refine mm_g 1 (pc1 := 10) (lo1 := [some (.ref 137), some (.ref q1), some (.int (Int32.ofInt a2)), some (.int (Int32.ofInt v2))]) (st1 := [.int (Int32.ofInt v2)]) (H1 := mz_mk g3 x) rfl ?_
    refine mz_bip rfl bip_6 ?_
    refine mz_ic_ge (tgt := 82) rfl rfl (mz_rg l_v2 u_v2) ⟨by decide, by decide⟩ (fun c12_6 => ?_) (fun c12_6 => ?_)
    · skip
      exact mm_rt rfl rfl (hQ _ hIg3 (fun k j hk => ((hfg3 k j (fun h => hk h)).trans (hug1.2 k j (fun h => hk h.1)))))
    · skip
      refine mm_g 3 (pc1 := 18) (lo1 := [some (.ref 137), some (.ref q1), some (.int (Int32.ofInt a2)), some (.int (Int32.ofInt v2))]) (st1 := [.int (Int32.ofInt 1), .int (Int32.ofInt a2), .ref q1]) (H1 := mz_mk g3 x) rfl ?_
      refine mz_iadd rfl ?_
      refine mm_g 1 (pc1 := 20) (lo1 := [some (.ref 137), some (.ref q1), some (.int (Int32.ofInt a2)), some (.int (Int32.ofInt v2))]) (st1 := [.int (Int32.ofInt v2), .int (Int32.ofInt (a2 + 1)), .ref q1]) (H1 := mz_mk g3 x) rfl ?_
      refine mz_iadd rfl ?_
      refine mm_g 1 (pc1 := 22) (lo1 := [some (.ref 137), some (.ref q1), some (.int (Int32.ofInt a2)), some (.int (Int32.ofInt v2))]) (st1 := [.ref 137, .int (Int32.ofInt ((a2 + 1) + v2)), .ref q1]) (H1 := mz_mk g3 x) rfl ?_
      refine mz_fgR (v := 152) rfl fd_12_76 (by decide) (sc_137 _) (rf_137_25 _ _ _) ?_
      refine mm_g 1 (pc1 := 26) (lo1 := [some (.ref 137), some (.ref q1), some (.int (Int32.ofInt a2)), some (.int (Int32.ofInt v2))]) (st1 := [.int (Int32.ofInt v2), .ref 152, .int (Int32.ofInt ((a2 + 1) + v2)), .ref q1]) (H1 := mz_mk g3 x) rfl ?_
      refine mz_aI rfl (sh_152 _) (by omega) (by omega) (by decide) hIg3 (ba_152 _) (fun v7 e_v7 l_v7 u_v7 => ?_)
      refine mz_sI rfl (rw_sh h_q1 _) (by omega) (by omega) (rw_m h_q1) hIg3 (rwb1 h_q1 (f := a2) (by omega) (by omega) (by omega)) (by omega) (by omega) (fun g8 hIg8 hug8 => ?_)
      refine mm_g 3 (pc1 := 31) (lo1 := [some (.ref 137), some (.ref q1), some (.int (Int32.ofInt a2)), some (.int (Int32.ofInt v2))]) (st1 := [.int (Int32.ofInt 1), .int (Int32.ofInt a2), .ref q1]) (H1 := mz_mk g8 x) rfl ?_
      refine mz_iadd rfl ?_
      refine mz_bip rfl bip_6 ?_
      refine mz_iadd rfl ?_
      refine mm_g 1 (pc1 := 36) (lo1 := [some (.ref 137), some (.ref q1), some (.int (Int32.ofInt a2)), some (.int (Int32.ofInt v2))]) (st1 := [.int (Int32.ofInt v2), .int (Int32.ofInt ((a2 + 1) + 6)), .ref q1]) (H1 := mz_mk g8 x) rfl ?_
      refine mz_iadd rfl ?_
      refine mm_g 1 (pc1 := 38) (lo1 := [some (.ref 137), some (.ref q1), some (.int (Int32.ofInt a2)), some (.int (Int32.ofInt v2))]) (st1 := [.ref 137, .int (Int32.ofInt (((a2 + 1) + 6) + v2)), .ref q1]) (H1 := mz_mk g8 x) rfl ?_
      refine mz_fgR (v := 153) rfl fd_12_78 (by decide) (sc_137 _) (rf_137_26 _ _ _) ?_
      refine mm_g 1 (pc1 := 42) (lo1 := [some (.ref 137), some (.ref q1), some (.int (Int32.ofInt a2)), some (.int (Int32.ofInt v2))]) (st1 := [.int (Int32.ofInt v2), .ref 153, .int (Int32.ofInt (((a2 + 1) + 6) + v2)), .ref q1]) (H1 := mz_mk g8 x) rfl ?_
      refine mz_aI rfl (sh_153 _) (by omega) (by omega) (by decide) hIg8 (ba_153 _) (fun v9 e_v9 l_v9 u_v9 => ?_)
      refine mz_sI rfl (rw_sh h_q1 _) (by omega) (by omega) (rw_m h_q1) hIg8 (rwb2 h_q1 (f := a2) (by omega) (by omega) (by omega)) (by omega) (by omega) (fun g10 hIg10 hug10 => ?_)
      refine mm_g 3 (pc1 := 47) (lo1 := [some (.ref 137), some (.ref q1), some (.int (Int32.ofInt a2)), some (.int (Int32.ofInt v2))]) (st1 := [.int (Int32.ofInt 1), .int (Int32.ofInt a2), .ref q1]) (H1 := mz_mk g10 x) rfl ?_
      refine mz_iadd rfl ?_
      refine mz_bip rfl bip_12 ?_
      refine mz_iadd rfl ?_
      refine mm_g 1 (pc1 := 52) (lo1 := [some (.ref 137), some (.ref q1), some (.int (Int32.ofInt a2)), some (.int (Int32.ofInt v2))]) (st1 := [.int (Int32.ofInt v2), .int (Int32.ofInt ((a2 + 1) + 12)), .ref q1]) (H1 := mz_mk g10 x) rfl ?_
      refine mz_iadd rfl ?_
      refine mm_g 1 (pc1 := 54) (lo1 := [some (.ref 137), some (.ref q1), some (.int (Int32.ofInt a2)), some (.int (Int32.ofInt v2))]) (st1 := [.ref 137, .int (Int32.ofInt (((a2 + 1) + 12) + v2)), .ref q1]) (H1 := mz_mk g10 x) rfl ?_
      refine mz_fgR (v := 154) rfl fd_12_80 (by decide) (sc_137 _) (rf_137_27 _ _ _) ?_
      refine mm_g 1 (pc1 := 58) (lo1 := [some (.ref 137), some (.ref q1), some (.int (Int32.ofInt a2)), some (.int (Int32.ofInt v2))]) (st1 := [.int (Int32.ofInt v2), .ref 154, .int (Int32.ofInt (((a2 + 1) + 12) + v2)), .ref q1]) (H1 := mz_mk g10 x) rfl ?_
      refine mz_aI rfl (sh_154 _) (by omega) (by omega) (by decide) hIg10 (ba_154 _) (fun v11 e_v11 l_v11 u_v11 => ?_)
      refine mz_sI rfl (rw_sh h_q1 _) (by omega) (by omega) (rw_m h_q1) hIg10 (rwb2 h_q1 (f := a2) (by omega) (by omega) (by omega)) (by omega) (by omega) (fun g12 hIg12 hug12 => ?_)
      refine mm_g 3 (pc1 := 63) (lo1 := [some (.ref 137), some (.ref q1), some (.int (Int32.ofInt a2)), some (.int (Int32.ofInt v2))]) (st1 := [.int (Int32.ofInt 1), .int (Int32.ofInt a2), .ref q1]) (H1 := mz_mk g12 x) rfl ?_
      refine mz_iadd rfl ?_
      refine mz_bip rfl bip_18 ?_
      refine mz_iadd rfl ?_
      refine mm_g 1 (pc1 := 68) (lo1 := [some (.ref 137), some (.ref q1), some (.int (Int32.ofInt a2)), some (.int (Int32.ofInt v2))]) (st1 := [.int (Int32.ofInt v2), .int (Int32.ofInt ((a2 + 1) + 18)), .ref q1]) (H1 := mz_mk g12 x) rfl ?_
      refine mz_iadd rfl ?_
      refine mm_g 1 (pc1 := 70) (lo1 := [some (.ref 137), some (.ref q1), some (.int (Int32.ofInt a2)), some (.int (Int32.ofInt v2))]) (st1 := [.ref 137, .int (Int32.ofInt (((a2 + 1) + 18) + v2)), .ref q1]) (H1 := mz_mk g12 x) rfl ?_
      refine mz_fgR (v := 155) rfl fd_12_82 (by decide) (sc_137 _) (rf_137_28 _ _ _) ?_
      refine mm_g 1 (pc1 := 74) (lo1 := [some (.ref 137), some (.ref q1), some (.int (Int32.ofInt a2)), some (.int (Int32.ofInt v2))]) (st1 := [.int (Int32.ofInt v2), .ref 155, .int (Int32.ofInt (((a2 + 1) + 18) + v2)), .ref q1]) (H1 := mz_mk g12 x) rfl ?_
      refine mz_aI rfl (sh_155 _) (by omega) (by omega) (by decide) hIg12 (ba_155 _) (fun v13 e_v13 l_v13 u_v13 => ?_)
      refine mz_sI rfl (rw_sh h_q1 _) (by omega) (by omega) (rw_m h_q1) hIg12 (rwb3 h_q1 (f := a2) (by omega) (by omega) (by omega)) (by omega) (by omega) (fun g14 hIg14 hug14 => ?_)
      refine mz_iincR (v := v2) (lo2 := [some (.ref 137), some (.ref q1), some (.int (Int32.ofInt a2)), some (.int (Int32.ofInt (v2 + 1)))]) rfl rfl rfl (Nat.le_of_ble_eq_true rfl) rfl ?_
      refine mz_gt (tgt := 9) rfl rfl ?_
      exact ih4 ((6 - (v2 + 1)).toNat) (by omega) (v2 + 1) g14 rfl (by omega) (by omega) hIg14 (fun k j hk => ((hug14.2 k j (fun h => hk h.1)).trans ((hug12.2 k j (fun h => hk h.1)).trans ((hug10.2 k j (fun h => hk h.1)).trans ((hug8.2 k j (fun h => hk h.1)).trans (hfg3 k j (fun h => hk h)))))))
  exact L6 _ 0 g1 rfl (by decide) (by decide) hIg1 (fun _ _ _ => rfl)
def fl_X12_recall_9 (x : mm_X) (q1 : Nat) (a2 : Int) : Nat → Nat → Prop := fun k j => k = 152 ∨ k = 153 ∨ k = 154 ∨ k = 155
def fw_X12_recall (x : mm_X) (q1 : Nat) (a2 : Int) : Nat → Nat → Prop := fun k j => (k = 137 ∧ j = 30) ∨ k = 152 ∨ k = 153 ∨ k = 154 ∨ k = 155
theorem c_X12_recall {d : Nat} (hd : 1 ≤ d) {x : mm_X} (hx : mk_x x) {g : mz_G} (hI : mz_inv g) {q1 n_q1 : Nat} (h_q1 : mk_rw q1 n_q1) {a2 : Int} (l_a2 : 0 ≤ a2) (u_a2 : a2 ≤ 975) (p1 : 0 ≤ a2 ∧ a2 % 25 = 0) (p2 : a2 + 25 ≤ (n_q1 : Int)) {Q : (Option Value ⊕ Nat) → mm_H → Prop} (hQ : ∀ (g1 : mz_G), mz_inv g1 → mz_fr (fw_X12_recall x q1 a2) g g1 → (g1 137 30 ≤ 999) → Q (.inl none) (mz_mk g1 x)) : mm_C d 219 [.ref 137, .ref q1, .int (Int32.ofInt a2)] (mz_mk g x) Q := by
  refine ⟨mmX12_recall, [some (.ref 137), some (.ref q1), some (.int (Int32.ofInt a2)), none], rfl, rfl, ?_⟩
  refine mm_g 3 (pc1 := 3) (lo1 := [some (.ref 137), some (.ref q1), some (.int (Int32.ofInt a2)), none]) (st1 := [.int (Int32.ofInt a2), .ref q1, .ref 137]) (H1 := mz_mk g x) rfl ?_
  refine mz_aI rfl (rw_sh h_q1 _) (by omega) (by omega) (rw_m h_q1) hI (rwb0 h_q1 (f := a2) (by omega) (by omega) (by omega)) (fun v1 e_v1 l_v1 u_v1 => ?_)
  refine mz_pI rfl fd_12_307 (sc_137 _) hI bd_137_30 (by omega) (by omega) (fun g2 hIg2 hug2 => ?_)
  refine mm_g 2 (pc1 := 9) (lo1 := [some (.ref 137), some (.ref q1), some (.int (Int32.ofInt a2)), some (.int (Int32.ofInt 0))]) (st1 := []) (H1 := mz_mk g2 x) rfl ?_
  have L7 : ∀ n6 : Nat, ∀ (v3 : Int) (g4 : mz_G), (6 - v3).toNat = n6 → 0 ≤ v3 → v3 ≤ 6 → mz_inv g4 → mz_fr (fl_X12_recall_9 x q1 a2) g2 g4 → mm_W d mmX12_recall 9 [some (.ref 137), some (.ref q1), some (.int (Int32.ofInt a2)), some (.int (Int32.ofInt v3))] [] (mz_mk g4 x) Q := by
    intro n6
    induction n6 using Nat.strongRecOn with
    | ind n6 ih5 =>
    intro v3 g4 hmn6 l_v3 u_v3 hIg4 hfg4
    refine mm_g 1 (pc1 := 10) (lo1 := [some (.ref 137), some (.ref q1), some (.int (Int32.ofInt a2)), some (.int (Int32.ofInt v3))]) (st1 := [.int (Int32.ofInt v3)]) (H1 := mz_mk g4 x) rfl ?_
    refine mz_bip rfl bip_6 ?_
    refine mz_ic_ge (tgt := 82) rfl rfl (mz_rg l_v3 u_v3) ⟨by decide, by decide⟩ (fun c12_7 => ?_) (fun c12_7 => ?_)
    · skip
      exact mm_rt rfl rfl (hQ _ hIg4 (fun k j hk => ((hfg4 k j (fun h => hk (Or.elim h (fun h => (Or.inr (Or.inl h))) (fun h => (Or.elim h (fun h => (Or.inr (Or.inr (Or.inl h)))) (fun h => (Or.elim h (fun h => (Or.inr (Or.inr (Or.inr (Or.inl h))))) (fun h => (Or.inr (Or.inr (Or.inr (Or.inr h)))))))))))).trans (hug2.2 k j (fun h => hk (Or.inl h))))) (by have h9 := (show g4 137 30 = v1 from ((hfg4 137 30 (fun h => (Or.elim h (fun h => (absurd (show 137 = 152 from h) (by decide))) (fun h => (Or.elim h (fun h => (absurd (show 137 = 153 from h) (by decide))) (fun h => (Or.elim h (fun h => (absurd (show 137 = 154 from h) (by decide))) (fun h => (absurd (show 137 = 155 from h) (by decide)))))))))).trans hug2.1)); omega))
    · skip
      refine mm_g 1 (pc1 := 16) (lo1 := [some (.ref 137), some (.ref q1), some (.int (Int32.ofInt a2)), some (.int (Int32.ofInt v3))]) (st1 := [.ref 137]) (H1 := mz_mk g4 x) rfl ?_
      refine mz_fgR (v := 152) rfl fd_12_76 (by decide) (sc_137 _) (rf_137_25 _ _ _) ?_
      refine mm_g 4 (pc1 := 23) (lo1 := [some (.ref 137), some (.ref q1), some (.int (Int32.ofInt a2)), some (.int (Int32.ofInt v3))]) (st1 := [.int (Int32.ofInt 1), .int (Int32.ofInt a2), .ref q1, .int (Int32.ofInt v3), .ref 152]) (H1 := mz_mk g4 x) rfl ?_
      refine mz_iadd rfl ?_
      refine mm_g 1 (pc1 := 25) (lo1 := [some (.ref 137), some (.ref q1), some (.int (Int32.ofInt a2)), some (.int (Int32.ofInt v3))]) (st1 := [.int (Int32.ofInt v3), .int (Int32.ofInt (a2 + 1)), .ref q1, .int (Int32.ofInt v3), .ref 152]) (H1 := mz_mk g4 x) rfl ?_
      refine mz_iadd rfl ?_
      refine mz_aI rfl (rw_sh h_q1 _) (by omega) (by omega) (rw_m h_q1) hIg4 (rwb1 h_q1 (f := a2) (by omega) (by omega) (by omega)) (fun v8 e_v8 l_v8 u_v8 => ?_)
      refine mz_sI rfl (sh_152 _) (by omega) (by omega) (by decide) hIg4 (ba_152 _) (by omega) (by omega) (fun g9 hIg9 hug9 => ?_)
      refine mm_g 1 (pc1 := 29) (lo1 := [some (.ref 137), some (.ref q1), some (.int (Int32.ofInt a2)), some (.int (Int32.ofInt v3))]) (st1 := [.ref 137]) (H1 := mz_mk g9 x) rfl ?_
      refine mz_fgR (v := 153) rfl fd_12_78 (by decide) (sc_137 _) (rf_137_26 _ _ _) ?_
      refine mm_g 4 (pc1 := 36) (lo1 := [some (.ref 137), some (.ref q1), some (.int (Int32.ofInt a2)), some (.int (Int32.ofInt v3))]) (st1 := [.int (Int32.ofInt 1), .int (Int32.ofInt a2), .ref q1, .int (Int32.ofInt v3), .ref 153]) (H1 := mz_mk g9 x) rfl ?_
      refine mz_iadd rfl ?_
      refine mz_bip rfl bip_6 ?_
      refine mz_iadd rfl ?_
      refine mm_g 1 (pc1 := 41) (lo1 := [some (.ref 137), some (.ref q1), some (.int (Int32.ofInt a2)), some (.int (Int32.ofInt v3))]) (st1 := [.int (Int32.ofInt v3), .int (Int32.ofInt ((a2 + 1) + 6)), .ref q1, .int (Int32.ofInt v3), .ref 153]) (H1 := mz_mk g9 x) rfl ?_
      refine mz_iadd rfl ?_
      refine mz_aI rfl (rw_sh h_q1 _) (by omega) (by omega) (rw_m h_q1) hIg9 (rwb2 h_q1 (f := a2) (by omega) (by omega) (by omega)) (fun v10 e_v10 l_v10 u_v10 => ?_)
      refine mz_sI rfl (sh_153 _) (by omega) (by omega) (by decide) hIg9 (ba_153 _) (by omega) (by omega) (fun g11 hIg11 hug11 => ?_)
      refine mm_g 1 (pc1 := 45) (lo1 := [some (.ref 137), some (.ref q1), some (.int (Int32.ofInt a2)), some (.int (Int32.ofInt v3))]) (st1 := [.ref 137]) (H1 := mz_mk g11 x) rfl ?_
      refine mz_fgR (v := 154) rfl fd_12_80 (by decide) (sc_137 _) (rf_137_27 _ _ _) ?_
      refine mm_g 4 (pc1 := 52) (lo1 := [some (.ref 137), some (.ref q1), some (.int (Int32.ofInt a2)), some (.int (Int32.ofInt v3))]) (st1 := [.int (Int32.ofInt 1), .int (Int32.ofInt a2), .ref q1, .int (Int32.ofInt v3), .ref 154]) (H1 := mz_mk g11 x) rfl ?_
      refine mz_iadd rfl ?_
      refine mz_bip rfl bip_12 ?_
      refine mz_iadd rfl ?_
      refine mm_g 1 (pc1 := 57) (lo1 := [some (.ref 137), some (.ref q1), some (.int (Int32.ofInt a2)), some (.int (Int32.ofInt v3))]) (st1 := [.int (Int32.ofInt v3), .int (Int32.ofInt ((a2 + 1) + 12)), .ref q1, .int (Int32.ofInt v3), .ref 154]) (H1 := mz_mk g11 x) rfl ?_
      refine mz_iadd rfl ?_
      refine mz_aI rfl (rw_sh h_q1 _) (by omega) (by omega) (rw_m h_q1) hIg11 (rwb2 h_q1 (f := a2) (by omega) (by omega) (by omega)) (fun v12 e_v12 l_v12 u_v12 => ?_)
      refine mz_sI rfl (sh_154 _) (by omega) (by omega) (by decide) hIg11 (ba_154 _) (by omega) (by omega) (fun g13 hIg13 hug13 => ?_)
      refine mm_g 1 (pc1 := 61) (lo1 := [some (.ref 137), some (.ref q1), some (.int (Int32.ofInt a2)), some (.int (Int32.ofInt v3))]) (st1 := [.ref 137]) (H1 := mz_mk g13 x) rfl ?_
      refine mz_fgR (v := 155) rfl fd_12_82 (by decide) (sc_137 _) (rf_137_28 _ _ _) ?_
      refine mm_g 4 (pc1 := 68) (lo1 := [some (.ref 137), some (.ref q1), some (.int (Int32.ofInt a2)), some (.int (Int32.ofInt v3))]) (st1 := [.int (Int32.ofInt 1), .int (Int32.ofInt a2), .ref q1, .int (Int32.ofInt v3), .ref 155]) (H1 := mz_mk g13 x) rfl ?_
      refine mz_iadd rfl ?_
      refine mz_bip rfl bip_18 ?_
      refine mz_iadd rfl ?_
      refine mm_g 1 (pc1 := 73) (lo1 := [some (.ref 137), some (.ref q1), some (.int (Int32.ofInt a2)), some (.int (Int32.ofInt v3))]) (st1 := [.int (Int32.ofInt v3), .int (Int32.ofInt ((a2 + 1) + 18)), .ref q1, .int (Int32.ofInt v3), .ref 155]) (H1 := mz_mk g13 x) rfl ?_
      refine mz_iadd rfl ?_
      refine mz_aI rfl (rw_sh h_q1 _) (by omega) (by omega) (rw_m h_q1) hIg13 (rwb3 h_q1 (f := a2) (by omega) (by omega) (by omega)) (fun v14 e_v14 l_v14 u_v14 => ?_)
      refine mz_sI rfl (sh_155 _) (by omega) (by omega) (by decide) hIg13 (ba_155 _) (by omega) (by omega) (fun g15 hIg15 hug15 => ?_)
      refine mz_iincR (v := v3) (lo2 := [some (.ref 137), some (.ref q1), some (.int (Int32.ofInt a2)), some (.int (Int32.ofInt (v3 + 1)))]) rfl rfl rfl (Nat.le_of_ble_eq_true rfl) rfl ?_
      refine mz_gt (tgt := 9) rfl rfl ?_
      exact ih5 ((6 - (v3 + 1)).toNat) (by omega) (v3 + 1) g15 rfl (by omega) (by omega) hIg15 (fun k j hk => ((hug15.2 k j (fun h => hk (Or.inr (Or.inr (Or.inr h.1))))).trans ((hug13.2 k j (fun h => hk (Or.inr (Or.inr (Or.inl h.1))))).trans ((hug11.2 k j (fun h => hk (Or.inr (Or.inl h.1)))).trans ((hug9.2 k j (fun h => hk (Or.inl h.1))).trans (hfg4 k j (fun h => hk (Or.elim h (fun h => (Or.inl h)) (fun h => (Or.elim h (fun h => (Or.inr (Or.inl h))) (fun h => (Or.elim h (fun h => (Or.inr (Or.inr (Or.inl h)))) (fun h => (Or.inr (Or.inr (Or.inr h))))))))))))))))
  exact L7 _ 0 g2 rfl (by decide) (by decide) hIg2 (fun _ _ _ => rfl)
theorem c_X12_letterOf {d : Nat} (hd : 1 ≤ d) {x : mm_X} (hx : mk_x x) {g : mz_G} (hI : mz_inv g) {a1 : Int} (l_a1 : 0 ≤ a1) (u_a1 : a1 ≤ 7) {a2 : Int} (l_a2 : 0 ≤ a2) (u_a2 : a2 ≤ 7) {Q : (Option Value ⊕ Nat) → mm_H → Prop} (hQ : ∀ (r : Int), (-2147483648) ≤ r → r ≤ 2147483647 → (r = g 141 (8 * a1 + a2).toNat) → Q (.inl (some (.int (Int32.ofInt r)))) (mz_mk g x)) : mm_C d 220 [.ref 137, .int (Int32.ofInt a1), .int (Int32.ofInt a2)] (mz_mk g x) Q := by
  refine ⟨mmX12_letterOf, [some (.ref 137), some (.int (Int32.ofInt a1)), some (.int (Int32.ofInt a2))], rfl, rfl, ?_⟩
  refine mm_g 1 (pc1 := 1) (lo1 := [some (.ref 137), some (.int (Int32.ofInt a1)), some (.int (Int32.ofInt a2))]) (st1 := [.ref 137]) (H1 := mz_mk g x) rfl ?_
  refine mz_fgR (v := 141) rfl fd_12_40 (by decide) (sc_137 _) (rf_137_4 _ _ _) ?_
  refine mz_bip rfl bip_8 ?_
  refine mm_g 1 (pc1 := 7) (lo1 := [some (.ref 137), some (.int (Int32.ofInt a1)), some (.int (Int32.ofInt a2))]) (st1 := [.int (Int32.ofInt a1), .int (Int32.ofInt 8), .ref 141]) (H1 := mz_mk g x) rfl ?_
  refine mz_imul rfl ?_
  refine mm_g 1 (pc1 := 9) (lo1 := [some (.ref 137), some (.int (Int32.ofInt a1)), some (.int (Int32.ofInt a2))]) (st1 := [.int (Int32.ofInt a2), .int (Int32.ofInt (8 * a1)), .ref 141]) (H1 := mz_mk g x) rfl ?_
  refine mz_iadd rfl ?_
  refine mz_aI rfl (sh_141 _) (by omega) (by omega) (by decide) hI (ba_141 _) (fun v1 e_v1 l_v1 u_v1 => ?_)
  exact mm_rt rfl rfl (hQ _ (by omega) (by omega) e_v1.symm)
theorem c_X12_overlapOf {d : Nat} (hd : 12 ≤ d) {x : mm_X} (hx : mk_x x) {g : mz_G} (hI : mz_inv g) {a1 : Int} (l_a1 : 0 ≤ a1) (u_a1 : a1 ≤ 7) {a2 : Int} (l_a2 : 0 ≤ a2) (u_a2 : a2 ≤ 7) {Q : (Option Value ⊕ Nat) → mm_H → Prop} (hQ : ∀ (r : Int), 0 ≤ r → r ≤ 7 → (r = mz_ov (g 141) (g 142) a1 a2) → (r ≤ g 142 a2.toNat) → Q (.inl (some (.int (Int32.ofInt r)))) (mz_mk g x)) : mm_C d 221 [.ref 137, .int (Int32.ofInt a1), .int (Int32.ofInt a2)] (mz_mk g x) Q := by
  refine ⟨mmX12_overlapOf, [some (.ref 137), some (.int (Int32.ofInt a1)), some (.int (Int32.ofInt a2)), none, none, none], rfl, rfl, ?_⟩
  refine mm_g 1 (pc1 := 1) (lo1 := [some (.ref 137), some (.int (Int32.ofInt a1)), some (.int (Int32.ofInt a2)), none, none, none]) (st1 := [.ref 137]) (H1 := mz_mk g x) rfl ?_
  refine mz_fgR (v := 142) rfl fd_12_43 (by decide) (sc_137 _) (rf_137_5 _ _ _) ?_
  refine mm_g 1 (pc1 := 5) (lo1 := [some (.ref 137), some (.int (Int32.ofInt a1)), some (.int (Int32.ofInt a2)), none, none, none]) (st1 := [.int (Int32.ofInt a1), .ref 142]) (H1 := mz_mk g x) rfl ?_
  refine mz_aI rfl (sh_142 _) (by omega) (by omega) (by decide) hI (ba_142 _) (fun v1 e_v1 l_v1 u_v1 => ?_)
  refine mm_g 1 (pc1 := 7) (lo1 := [some (.ref 137), some (.int (Int32.ofInt a1)), some (.int (Int32.ofInt a2)), none, none, none]) (st1 := [.ref 137, .int (Int32.ofInt v1)]) (H1 := mz_mk g x) rfl ?_
  refine mz_fgR (v := 142) rfl fd_12_43 (by decide) (sc_137 _) (rf_137_5 _ _ _) ?_
  refine mm_g 1 (pc1 := 11) (lo1 := [some (.ref 137), some (.int (Int32.ofInt a1)), some (.int (Int32.ofInt a2)), none, none, none]) (st1 := [.int (Int32.ofInt a2), .ref 142, .int (Int32.ofInt v1)]) (H1 := mz_mk g x) rfl ?_
  refine mz_aI rfl (sh_142 _) (by omega) (by omega) (by decide) hI (ba_142 _) (fun v2 e_v2 l_v2 u_v2 => ?_)
  refine mz_mn rfl mt_12_191 (Nat.le_of_ble_eq_true rfl) (by omega) (mz_rg l_v1 u_v1) (mz_rg l_v2 u_v2) (fun v3 e_v3 => ?_)
  have l_v3 : 0 ≤ v3 := by omega
  have u_v3 : v3 ≤ 8 := by omega
  refine mm_g 1 (pc1 := 16) (lo1 := [some (.ref 137), some (.int (Int32.ofInt a1)), some (.int (Int32.ofInt a2)), none, none, none]) (st1 := [.int (Int32.ofInt 1), .int (Int32.ofInt v3)]) (H1 := mz_mk g x) rfl ?_
  refine mz_isub rfl ?_
  refine mm_g 1 (pc1 := 18) (lo1 := [some (.ref 137), some (.int (Int32.ofInt a1)), some (.int (Int32.ofInt a2)), some (.int (Int32.ofInt (v3 - 1))), none, none]) (st1 := []) (H1 := mz_mk g x) rfl ?_
  have L10 : ∀ n9 : Nat, ∀ (v4 : Int) (o5 : Option Value) (o6 : Option Value), (v4 - 0).toNat = n9 → (-1) ≤ v4 → v4 ≤ 7 → mz_nl o5 → mz_nl o6 → (v4 + 1 ≤ v1) → (v4 + 1 ≤ v2) → (∀ n : Int, v4 < n → n + 1 ≤ g 142 a1.toNat → n + 1 ≤ g 142 a2.toNat → mz_mm (g 141) (g 142) a1 a2 n n) → mm_W d mmX12_overlapOf 18 [some (.ref 137), some (.int (Int32.ofInt a1)), some (.int (Int32.ofInt a2)), some (.int (Int32.ofInt v4)), o5, o6] [] (mz_mk g x) Q := by
    intro n9
    induction n9 using Nat.strongRecOn with
    | ind n9 ih8 =>
    intro v4 o5 o6 hmn9 l_v4 u_v4 h_o5 h_o6 hv11 hv12 hv13
    refine mm_g 1 (pc1 := 19) (lo1 := [some (.ref 137), some (.int (Int32.ofInt a1)), some (.int (Int32.ofInt a2)), some (.int (Int32.ofInt v4)), o5, o6]) (st1 := [.int (Int32.ofInt v4)]) (H1 := mz_mk g x) rfl ?_
    refine mz_if_le (tgt := 91) rfl rfl (mz_rg l_v4 u_v4) (fun c19_13 => ?_) (fun c19_13 => ?_)
    · skip
      refine mm_g 1 (pc1 := 92) (lo1 := [some (.ref 137), some (.int (Int32.ofInt a1)), some (.int (Int32.ofInt a2)), some (.int (Int32.ofInt v4)), o5, o6]) (st1 := [.int (Int32.ofInt 0)]) (H1 := mz_mk g x) rfl ?_
      exact mm_rt rfl rfl (hQ _ (by decide) (by decide) (mz_ov_eq ⟨by omega, fun z => absurd z (by decide), fun n h0 h1 h2 => hv13 n (by omega) h1 h2⟩) (by omega))
    · skip
      refine mm_g 4 (pc1 := 28) (lo1 := [some (.ref 137), some (.int (Int32.ofInt a1)), some (.int (Int32.ofInt a2)), some (.int (Int32.ofInt v4)), some (.int (Int32.ofInt 1)), some (.int (Int32.ofInt 0))]) (st1 := []) (H1 := mz_mk g x) rfl ?_
      have L19 : ∀ n18 : Nat, ∀ (v14 : Int) (v15 : Int), (7 - v15).toNat = n18 → 0 ≤ v14 → v14 ≤ 1 → 0 ≤ v15 → v15 ≤ 7 → (v14 ≠ 0 → ∀ i : Int, 0 ≤ i → i < v15 → mz_mt (g 141) (g 142) a1 a2 v4 i) → (v14 = 0 → mz_mm (g 141) (g 142) a1 a2 v4 v15) → (v15 ≤ v4) → mm_W d mmX12_overlapOf 28 [some (.ref 137), some (.int (Int32.ofInt a1)), some (.int (Int32.ofInt a2)), some (.int (Int32.ofInt v4)), some (.int (Int32.ofInt v14)), some (.int (Int32.ofInt v15))] [] (mz_mk g x) Q := by
        intro n18
        induction n18 using Nat.strongRecOn with
        | ind n18 ih17 =>
        intro v14 v15 hmn18 l_v14 u_v14 l_v15 u_v15 hv20 hv21 hv22
        refine mm_g 2 (pc1 := 31) (lo1 := [some (.ref 137), some (.int (Int32.ofInt a1)), some (.int (Int32.ofInt a2)), some (.int (Int32.ofInt v4)), some (.int (Int32.ofInt v14)), some (.int (Int32.ofInt v15))]) (st1 := [.int (Int32.ofInt v4), .int (Int32.ofInt v15)]) (H1 := mz_mk g x) rfl ?_
        refine mz_ic_ge (tgt := 78) rfl rfl (mz_rg l_v15 u_v15) (mz_rg l_v4 u_v4) (fun c31_22 => ?_) (fun c31_22 => ?_)
        · skip
          refine mm_g 1 (pc1 := 80) (lo1 := [some (.ref 137), some (.int (Int32.ofInt a1)), some (.int (Int32.ofInt a2)), some (.int (Int32.ofInt v4)), some (.int (Int32.ofInt v14)), some (.int (Int32.ofInt v15))]) (st1 := [.int (Int32.ofInt v14)]) (H1 := mz_mk g x) rfl ?_
          refine mz_if_eq (tgt := 85) rfl rfl (mz_rg l_v14 u_v14) (fun c80_22 => ?_) (fun c80_22 => ?_)
          · skip
            refine mz_iincR (v := v4) (lo2 := [some (.ref 137), some (.int (Int32.ofInt a1)), some (.int (Int32.ofInt a2)), some (.int (Int32.ofInt (v4 + (-1)))), some (.int (Int32.ofInt v14)), some (.int (Int32.ofInt v15))]) rfl rfl rfl (Nat.le_of_ble_eq_true rfl) rfl ?_
            refine mz_gt (tgt := 18) rfl rfl ?_
            exact ih8 (((v4 + (-1)) - 0).toNat) (by omega) (v4 + (-1)) (some (.int (Int32.ofInt v14))) (some (.int (Int32.ofInt v15))) rfl (by omega) (by omega) (mz_nl_i _) (mz_nl_i _) (by omega) (by omega) (by intro n h0 h1 h2; rcases (by omega : v4 < n ∨ n = v4) with z | z; exact hv13 n z h1 h2; rw [z]; obtain ⟨i, i0, i1, i2⟩ := hv21 (by omega); exact ⟨i, i0, by omega, i2⟩)
          · skip
            refine mm_g 1 (pc1 := 84) (lo1 := [some (.ref 137), some (.int (Int32.ofInt a1)), some (.int (Int32.ofInt a2)), some (.int (Int32.ofInt v4)), some (.int (Int32.ofInt v14)), some (.int (Int32.ofInt v15))]) (st1 := [.int (Int32.ofInt v4)]) (H1 := mz_mk g x) rfl ?_
            exact mm_rt rfl rfl (hQ _ (by omega) (by omega) (mz_ov_eq ⟨by omega, fun _ => ⟨by omega, by omega, fun i h0 h1 => hv20 (by omega) i h0 (by omega)⟩, hv13⟩) (by omega))
        · skip
          refine mm_g 1 (pc1 := 36) (lo1 := [some (.ref 137), some (.int (Int32.ofInt a1)), some (.int (Int32.ofInt a2)), some (.int (Int32.ofInt v4)), some (.int (Int32.ofInt v14)), some (.int (Int32.ofInt v15))]) (st1 := [.int (Int32.ofInt v14)]) (H1 := mz_mk g x) rfl ?_
          refine mz_if_eq (tgt := 78) rfl rfl (mz_rg l_v14 u_v14) (fun c36_22 => ?_) (fun c36_22 => ?_)
          · skip
            refine mm_g 1 (pc1 := 80) (lo1 := [some (.ref 137), some (.int (Int32.ofInt a1)), some (.int (Int32.ofInt a2)), some (.int (Int32.ofInt v4)), some (.int (Int32.ofInt v14)), some (.int (Int32.ofInt v15))]) (st1 := [.int (Int32.ofInt v14)]) (H1 := mz_mk g x) rfl ?_
            refine mz_if_eq (tgt := 85) rfl rfl (mz_rg l_v14 u_v14) (fun c80_22 => ?_) (fun c80_22 => ?_)
            · skip
              refine mz_iincR (v := v4) (lo2 := [some (.ref 137), some (.int (Int32.ofInt a1)), some (.int (Int32.ofInt a2)), some (.int (Int32.ofInt (v4 + (-1)))), some (.int (Int32.ofInt v14)), some (.int (Int32.ofInt v15))]) rfl rfl rfl (Nat.le_of_ble_eq_true rfl) rfl ?_
              refine mz_gt (tgt := 18) rfl rfl ?_
              exact ih8 (((v4 + (-1)) - 0).toNat) (by omega) (v4 + (-1)) (some (.int (Int32.ofInt v14))) (some (.int (Int32.ofInt v15))) rfl (by omega) (by omega) (mz_nl_i _) (mz_nl_i _) (by omega) (by omega) (by intro n h0 h1 h2; rcases (by omega : v4 < n ∨ n = v4) with z | z; exact hv13 n z h1 h2; rw [z]; obtain ⟨i, i0, i1, i2⟩ := hv21 (by omega); exact ⟨i, i0, by omega, i2⟩)
            · exfalso; omega
          · skip
            refine mm_g 3 (pc1 := 42) (lo1 := [some (.ref 137), some (.int (Int32.ofInt a1)), some (.int (Int32.ofInt a2)), some (.int (Int32.ofInt v4)), some (.int (Int32.ofInt v14)), some (.int (Int32.ofInt v15))]) (st1 := [.ref 137, .int (Int32.ofInt a1), .ref 137]) (H1 := mz_mk g x) rfl ?_
            refine mz_fgR (v := 142) rfl fd_12_43 (by decide) (sc_137 _) (rf_137_5 _ _ _) ?_
            refine mm_g 1 (pc1 := 46) (lo1 := [some (.ref 137), some (.int (Int32.ofInt a1)), some (.int (Int32.ofInt a2)), some (.int (Int32.ofInt v4)), some (.int (Int32.ofInt v14)), some (.int (Int32.ofInt v15))]) (st1 := [.int (Int32.ofInt a1), .ref 142, .int (Int32.ofInt a1), .ref 137]) (H1 := mz_mk g x) rfl ?_
            refine mz_ia (v := v1) rfl (sh_142 _) (by omega) (by omega) (by decide) e_v1 ?_
            refine mm_g 1 (pc1 := 48) (lo1 := [some (.ref 137), some (.int (Int32.ofInt a1)), some (.int (Int32.ofInt a2)), some (.int (Int32.ofInt v4)), some (.int (Int32.ofInt v14)), some (.int (Int32.ofInt v15))]) (st1 := [.int (Int32.ofInt v4), .int (Int32.ofInt v1), .int (Int32.ofInt a1), .ref 137]) (H1 := mz_mk g x) rfl ?_
            refine mz_isub rfl ?_
            refine mm_g 1 (pc1 := 51) (lo1 := [some (.ref 137), some (.int (Int32.ofInt a1)), some (.int (Int32.ofInt a2)), some (.int (Int32.ofInt v4)), some (.int (Int32.ofInt v14)), some (.int (Int32.ofInt v15))]) (st1 := [.int (Int32.ofInt v15), .int (Int32.ofInt (v1 - v4)), .int (Int32.ofInt a1), .ref 137]) (H1 := mz_mk g x) rfl ?_
            refine mz_iadd rfl ?_
            refine mz_cv rfl mt_12_320 (by decide) (sc_137 _) rfl (Nat.le_of_ble_eq_true rfl) (by omega) (c_X12_letterOf (by omega) hx hI l_a1 u_a1 (by omega) (by omega) (fun v23 l_v23 u_v23 hp24 => ⟨_, rfl, ?_⟩))
            show mm_W d mmX12_overlapOf 55 [some (.ref 137), some (.int (Int32.ofInt a1)), some (.int (Int32.ofInt a2)), some (.int (Int32.ofInt v4)), some (.int (Int32.ofInt v14)), some (.int (Int32.ofInt v15))] [.int (Int32.ofInt v23)] (mz_mk g x) Q
            refine mm_g 3 (pc1 := 59) (lo1 := [some (.ref 137), some (.int (Int32.ofInt a1)), some (.int (Int32.ofInt a2)), some (.int (Int32.ofInt v4)), some (.int (Int32.ofInt v14)), some (.int (Int32.ofInt v15))]) (st1 := [.int (Int32.ofInt v15), .int (Int32.ofInt a2), .ref 137, .int (Int32.ofInt v23)]) (H1 := mz_mk g x) rfl ?_
            refine mz_cv rfl mt_12_320 (by decide) (sc_137 _) rfl (Nat.le_of_ble_eq_true rfl) (by omega) (c_X12_letterOf (by omega) hx hI l_a2 u_a2 l_v15 u_v15 (fun v25 l_v25 u_v25 hp26 => ⟨_, rfl, ?_⟩))
            show mm_W d mmX12_overlapOf 62 [some (.ref 137), some (.int (Int32.ofInt a1)), some (.int (Int32.ofInt a2)), some (.int (Int32.ofInt v4)), some (.int (Int32.ofInt v14)), some (.int (Int32.ofInt v15))] [.int (Int32.ofInt v25), .int (Int32.ofInt v23)] (mz_mk g x) Q
            refine mz_ic_ne (tgt := 69) rfl rfl (mz_rg l_v23 u_v23) (mz_rg l_v25 u_v25) (fun c62_26 => ?_) (fun c62_26 => ?_)
            · skip
              refine mm_g 2 (pc1 := 72) (lo1 := [some (.ref 137), some (.int (Int32.ofInt a1)), some (.int (Int32.ofInt a2)), some (.int (Int32.ofInt v4)), some (.int (Int32.ofInt 0)), some (.int (Int32.ofInt v15))]) (st1 := []) (H1 := mz_mk g x) rfl ?_
              refine mz_iincR (v := v15) (lo2 := [some (.ref 137), some (.int (Int32.ofInt a1)), some (.int (Int32.ofInt a2)), some (.int (Int32.ofInt v4)), some (.int (Int32.ofInt 0)), some (.int (Int32.ofInt (v15 + 1)))]) rfl rfl rfl (Nat.le_of_ble_eq_true rfl) rfl ?_
              refine mz_gt (tgt := 28) rfl rfl ?_
              exact ih17 ((7 - (v15 + 1)).toNat) (by omega) 0 (v15 + 1) rfl (by decide) (by decide) (by omega) (by omega) (by intro z; exfalso; omega) (by intro _; refine ⟨v15, by omega, by omega, ?_⟩; unfold mz_mt; rw [e_v1, ← hp24, ← hp26]; omega) (by omega)
            · skip
              refine mm_g 1 (pc1 := 66) (lo1 := [some (.ref 137), some (.int (Int32.ofInt a1)), some (.int (Int32.ofInt a2)), some (.int (Int32.ofInt v4)), some (.int (Int32.ofInt v14)), some (.int (Int32.ofInt v15))]) (st1 := [.int (Int32.ofInt 1)]) (H1 := mz_mk g x) rfl ?_
              refine mz_gt (tgt := 70) rfl rfl ?_
              refine mm_g 1 (pc1 := 72) (lo1 := [some (.ref 137), some (.int (Int32.ofInt a1)), some (.int (Int32.ofInt a2)), some (.int (Int32.ofInt v4)), some (.int (Int32.ofInt 1)), some (.int (Int32.ofInt v15))]) (st1 := []) (H1 := mz_mk g x) rfl ?_
              refine mz_iincR (v := v15) (lo2 := [some (.ref 137), some (.int (Int32.ofInt a1)), some (.int (Int32.ofInt a2)), some (.int (Int32.ofInt v4)), some (.int (Int32.ofInt 1)), some (.int (Int32.ofInt (v15 + 1)))]) rfl rfl rfl (Nat.le_of_ble_eq_true rfl) rfl ?_
              refine mz_gt (tgt := 28) rfl rfl ?_
              exact ih17 ((7 - (v15 + 1)).toNat) (by omega) 1 (v15 + 1) rfl (by decide) (by decide) (by omega) (by omega) (by intro _ i h0 h1; rcases (by omega : i < v15 ∨ i = v15) with z | z; exact hv20 (by omega) i h0 z; rw [z]; unfold mz_mt; rw [e_v1, ← hp24, ← hp26]; omega) (by intro z; exfalso; omega) (by omega)
      exact L19 _ 1 0 rfl (by decide) (by decide) (by decide) (by decide) (by intro _ i h0 h1; exfalso; omega) (by intro z; exfalso; omega) (by omega)
  exact L10 _ (v3 - 1) none none rfl (by omega) (by omega) mz_nl_n mz_nl_n (by omega) (by omega) (by intro n h0 h1 h2; exfalso; omega)
def fl_X12_wordInto_2 (x : mm_X) (q1 : Nat) (a2 : Int) : Nat → Nat → Prop := fun k j => k = q1
def fw_X12_wordInto (x : mm_X) (q1 : Nat) (a2 : Int) : Nat → Nat → Prop := fun k j => k = q1
theorem c_X12_wordInto {d : Nat} (hd : 2 ≤ d) {x : mm_X} (hx : mk_x x) {g : mz_G} (hI : mz_inv g) {q1 n_q1 : Nat} (h_q1 : mm_SH x.2.2.2.1 q1 = (100, n_q1)) (m_q1 : n_q1 ≤ 2048) (b_q1 : ∀ j, mz_bd q1 j = (-2147483648, 2147483647)) {a2 : Int} (l_a2 : 0 ≤ a2) (u_a2 : a2 ≤ 7) (p1 : 8 ≤ n_q1) {Q : (Option Value ⊕ Nat) → mm_H → Prop} (hQ : ∀ (r : Int) (g1 : mz_G), mz_inv g1 → mz_fr (fw_X12_wordInto x q1 a2) g g1 → 0 ≤ r → r ≤ 8 → Q (.inl (some (.int (Int32.ofInt r)))) (mz_mk g1 x)) : mm_C d 222 [.ref 137, .ref q1, .int (Int32.ofInt a2)] (mz_mk g x) Q := by
  refine ⟨mmX12_wordInto, [some (.ref 137), some (.ref q1), some (.int (Int32.ofInt a2)), none], rfl, rfl, ?_⟩
  refine mm_g 2 (pc1 := 2) (lo1 := [some (.ref 137), some (.ref q1), some (.int (Int32.ofInt a2)), some (.int (Int32.ofInt 0))]) (st1 := []) (H1 := mz_mk g x) rfl ?_
  have L5 : ∀ n4 : Nat, ∀ (v1 : Int) (g2 : mz_G), (8 - v1).toNat = n4 → 0 ≤ v1 → v1 ≤ 8 → mz_inv g2 → mz_fr (fl_X12_wordInto_2 x q1 a2) g g2 → mm_W d mmX12_wordInto 2 [some (.ref 137), some (.ref q1), some (.int (Int32.ofInt a2)), some (.int (Int32.ofInt v1))] [] (mz_mk g2 x) Q := by
    intro n4
    induction n4 using Nat.strongRecOn with
    | ind n4 ih3 =>
    intro v1 g2 hmn4 l_v1 u_v1 hIg2 hfg2
    refine mm_g 2 (pc1 := 4) (lo1 := [some (.ref 137), some (.ref q1), some (.int (Int32.ofInt a2)), some (.int (Int32.ofInt v1))]) (st1 := [.ref 137, .int (Int32.ofInt v1)]) (H1 := mz_mk g2 x) rfl ?_
    refine mz_fgR (v := 142) rfl fd_12_43 (by decide) (sc_137 _) (rf_137_5 _ _ _) ?_
    refine mm_g 1 (pc1 := 8) (lo1 := [some (.ref 137), some (.ref q1), some (.int (Int32.ofInt a2)), some (.int (Int32.ofInt v1))]) (st1 := [.int (Int32.ofInt a2), .ref 142, .int (Int32.ofInt v1)]) (H1 := mz_mk g2 x) rfl ?_
    refine mz_aI rfl (sh_142 _) (by omega) (by omega) (by decide) hIg2 (ba_142 _) (fun v6 e_v6 l_v6 u_v6 => ?_)
    refine mz_ic_ge (tgt := 27) rfl rfl (mz_rg l_v1 u_v1) (mz_rg l_v6 u_v6) (fun c9_6 => ?_) (fun c9_6 => ?_)
    · skip
      refine mm_g 1 (pc1 := 28) (lo1 := [some (.ref 137), some (.ref q1), some (.int (Int32.ofInt a2)), some (.int (Int32.ofInt v1))]) (st1 := [.ref 137]) (H1 := mz_mk g2 x) rfl ?_
      refine mz_fgR (v := 142) rfl fd_12_43 (by decide) (sc_137 _) (rf_137_5 _ _ _) ?_
      refine mm_g 1 (pc1 := 32) (lo1 := [some (.ref 137), some (.ref q1), some (.int (Int32.ofInt a2)), some (.int (Int32.ofInt v1))]) (st1 := [.int (Int32.ofInt a2), .ref 142]) (H1 := mz_mk g2 x) rfl ?_
      refine mz_ia (v := v6) rfl (sh_142 _) (by omega) (by omega) (by decide) e_v6 ?_
      exact mm_rt rfl rfl (hQ _ _ hIg2 (fun k j hk => (hfg2 k j (fun h => hk h))) (by omega) (by omega))
    · skip
      refine mm_g 5 (pc1 := 17) (lo1 := [some (.ref 137), some (.ref q1), some (.int (Int32.ofInt a2)), some (.int (Int32.ofInt v1))]) (st1 := [.int (Int32.ofInt v1), .int (Int32.ofInt a2), .ref 137, .int (Int32.ofInt v1), .ref q1]) (H1 := mz_mk g2 x) rfl ?_
      refine mz_cv rfl mt_12_320 (by decide) (sc_137 _) rfl (Nat.le_of_ble_eq_true rfl) (by omega) (c_X12_letterOf (by omega) hx hIg2 l_a2 u_a2 (by omega) (by omega) (fun v7 l_v7 u_v7 hp8 => ⟨_, rfl, ?_⟩))
      show mm_W d mmX12_wordInto 20 [some (.ref 137), some (.ref q1), some (.int (Int32.ofInt a2)), some (.int (Int32.ofInt v1))] [.int (Int32.ofInt v7), .int (Int32.ofInt v1), .ref q1] (mz_mk g2 x) Q
      refine mz_sI rfl h_q1 (by omega) (by omega) (by omega) hIg2 (b_q1 _) (by omega) (by omega) (fun g9 hIg9 hug9 => ?_)
      refine mz_iincR (v := v1) (lo2 := [some (.ref 137), some (.ref q1), some (.int (Int32.ofInt a2)), some (.int (Int32.ofInt (v1 + 1)))]) rfl rfl rfl (Nat.le_of_ble_eq_true rfl) rfl ?_
      refine mz_gt (tgt := 2) rfl rfl ?_
      exact ih3 ((8 - (v1 + 1)).toNat) (by omega) (v1 + 1) g9 rfl (by omega) (by omega) hIg9 (fun k j hk => ((hug9.2 k j (fun h => hk h.1)).trans (hfg2 k j (fun h => hk h))))
  exact L5 _ 0 g rfl (by decide) (by decide) hI (fun _ _ _ => rfl)
def fl_X12_blendInto_5 (x : mm_X) (q1 : Nat) (a2 : Int) : Nat → Nat → Prop := fun k j => k = q1
def fl_X12_blendInto_66 (x : mm_X) (q1 : Nat) (a2 : Int) : Nat → Nat → Prop := fun k j => k = q1
def fw_X12_blendInto (x : mm_X) (q1 : Nat) (a2 : Int) : Nat → Nat → Prop := fun k j => k = q1
theorem c_X12_blendInto {d : Nat} (hd : 2 ≤ d) {x : mm_X} (hx : mk_x x) {g : mz_G} (hI : mz_inv g) {q1 n_q1 : Nat} (h_q1 : mm_SH x.2.2.2.1 q1 = (100, n_q1)) (m_q1 : n_q1 ≤ 2048) (b_q1 : ∀ j, mz_bd q1 j = (-2147483648, 2147483647)) {a2 : Int} (l_a2 : 0 ≤ a2) (u_a2 : a2 ≤ 5) (p1 : 16 ≤ n_q1) {Q : (Option Value ⊕ Nat) → mm_H → Prop} (hQ : ∀ (r : Int) (g1 : mz_G), mz_inv g1 → mz_fr (fw_X12_blendInto x q1 a2) g g1 → 0 ≤ r → r ≤ 16 → Q (.inl (some (.int (Int32.ofInt r)))) (mz_mk g1 x)) : mm_C d 223 [.ref 137, .ref q1, .int (Int32.ofInt a2)] (mz_mk g x) Q := by
  refine ⟨mmX12_blendInto, [some (.ref 137), some (.ref q1), some (.int (Int32.ofInt a2)), none, none], rfl, rfl, ?_⟩
  refine mm_g 4 (pc1 := 5) (lo1 := [some (.ref 137), some (.ref q1), some (.int (Int32.ofInt a2)), some (.int (Int32.ofInt 0)), some (.int (Int32.ofInt 0))]) (st1 := []) (H1 := mz_mk g x) rfl ?_
  have L6 : ∀ n5 : Nat, ∀ (v1 : Int) (v2 : Int) (g3 : mz_G), (8 - v1).toNat = n5 → 0 ≤ v1 → v1 ≤ 8 → 0 ≤ v2 → v2 ≤ 8 → mz_inv g3 → mz_fr (fl_X12_blendInto_5 x q1 a2) g g3 → (v1 ≤ v2) → mm_W d mmX12_blendInto 5 [some (.ref 137), some (.ref q1), some (.int (Int32.ofInt a2)), some (.int (Int32.ofInt v1)), some (.int (Int32.ofInt v2))] [] (mz_mk g3 x) Q := by
    intro n5
    induction n5 using Nat.strongRecOn with
    | ind n5 ih4 =>
    intro v1 v2 g3 hmn5 l_v1 u_v1 l_v2 u_v2 hIg3 hfg3 hv7
    refine mm_g 2 (pc1 := 8) (lo1 := [some (.ref 137), some (.ref q1), some (.int (Int32.ofInt a2)), some (.int (Int32.ofInt v1)), some (.int (Int32.ofInt v2))]) (st1 := [.ref 137, .int (Int32.ofInt v2)]) (H1 := mz_mk g3 x) rfl ?_
    refine mz_fgR (v := 142) rfl fd_12_43 (by decide) (sc_137 _) (rf_137_5 _ _ _) ?_
    refine mm_g 1 (pc1 := 12) (lo1 := [some (.ref 137), some (.ref q1), some (.int (Int32.ofInt a2)), some (.int (Int32.ofInt v1)), some (.int (Int32.ofInt v2))]) (st1 := [.ref 137, .ref 142, .int (Int32.ofInt v2)]) (H1 := mz_mk g3 x) rfl ?_
    refine mz_fgR (v := 153) rfl fd_12_78 (by decide) (sc_137 _) (rf_137_26 _ _ _) ?_
    refine mm_g 1 (pc1 := 16) (lo1 := [some (.ref 137), some (.ref q1), some (.int (Int32.ofInt a2)), some (.int (Int32.ofInt v1)), some (.int (Int32.ofInt v2))]) (st1 := [.int (Int32.ofInt a2), .ref 153, .ref 142, .int (Int32.ofInt v2)]) (H1 := mz_mk g3 x) rfl ?_
    refine mz_aI rfl (sh_153 _) (by omega) (by omega) (by decide) hIg3 (ba_153 _) (fun v8 e_v8 l_v8 u_v8 => ?_)
    refine mz_aI rfl (sh_142 _) (by omega) (by omega) (by decide) hIg3 (ba_142 _) (fun v9 e_v9 l_v9 u_v9 => ?_)
    refine mm_g 1 (pc1 := 19) (lo1 := [some (.ref 137), some (.ref q1), some (.int (Int32.ofInt a2)), some (.int (Int32.ofInt v1)), some (.int (Int32.ofInt v2))]) (st1 := [.ref 137, .int (Int32.ofInt v9), .int (Int32.ofInt v2)]) (H1 := mz_mk g3 x) rfl ?_
    refine mz_fgR (v := 152) rfl fd_12_76 (by decide) (sc_137 _) (rf_137_25 _ _ _) ?_
    refine mm_g 1 (pc1 := 23) (lo1 := [some (.ref 137), some (.ref q1), some (.int (Int32.ofInt a2)), some (.int (Int32.ofInt v1)), some (.int (Int32.ofInt v2))]) (st1 := [.int (Int32.ofInt a2), .ref 152, .int (Int32.ofInt v9), .int (Int32.ofInt v2)]) (H1 := mz_mk g3 x) rfl ?_
    refine mz_aI rfl (sh_152 _) (by omega) (by omega) (by decide) hIg3 (ba_152 _) (fun v10 e_v10 l_v10 u_v10 => ?_)
    refine mm_g 1 (pc1 := 25) (lo1 := [some (.ref 137), some (.ref q1), some (.int (Int32.ofInt a2)), some (.int (Int32.ofInt v1)), some (.int (Int32.ofInt v2))]) (st1 := [.int (Int32.ofInt 1), .int (Int32.ofInt v10), .int (Int32.ofInt v9), .int (Int32.ofInt v2)]) (H1 := mz_mk g3 x) rfl ?_
    refine mz_iadd rfl ?_
    refine mm_g 1 (pc1 := 27) (lo1 := [some (.ref 137), some (.ref q1), some (.int (Int32.ofInt a2)), some (.int (Int32.ofInt v1)), some (.int (Int32.ofInt v2))]) (st1 := [.int (Int32.ofInt 2), .int (Int32.ofInt (v10 + 1)), .int (Int32.ofInt v9), .int (Int32.ofInt v2)]) (H1 := mz_mk g3 x) rfl ?_
    refine mz_idivp rfl ⟨by omega, by omega⟩ ⟨by decide, by decide⟩ (by omega) (by omega) (fun v11 e_v11 => ?_)
    have l_v11 : 0 ≤ v11 := by omega
    have u_v11 : v11 ≤ 4 := by omega
    refine mz_isub rfl ?_
    refine mz_ic_ge (tgt := 56) rfl rfl (mz_rg l_v2 u_v2) ⟨by omega, by omega⟩ (fun c29_11 => ?_) (fun c29_11 => ?_)
    · skip
      refine mm_g 1 (pc1 := 57) (lo1 := [some (.ref 137), some (.ref q1), some (.int (Int32.ofInt a2)), some (.int (Int32.ofInt v1)), some (.int (Int32.ofInt v2))]) (st1 := [.ref 137]) (H1 := mz_mk g3 x) rfl ?_
      refine mz_fgR (v := 152) rfl fd_12_76 (by decide) (sc_137 _) (rf_137_25 _ _ _) ?_
      refine mm_g 1 (pc1 := 61) (lo1 := [some (.ref 137), some (.ref q1), some (.int (Int32.ofInt a2)), some (.int (Int32.ofInt v1)), some (.int (Int32.ofInt v2))]) (st1 := [.int (Int32.ofInt a2), .ref 152]) (H1 := mz_mk g3 x) rfl ?_
      refine mz_ia (v := v10) rfl (sh_152 _) (by omega) (by omega) (by decide) e_v10 ?_
      refine mm_g 1 (pc1 := 63) (lo1 := [some (.ref 137), some (.ref q1), some (.int (Int32.ofInt a2)), some (.int (Int32.ofInt v1)), some (.int (Int32.ofInt v2))]) (st1 := [.int (Int32.ofInt 2), .int (Int32.ofInt v10)]) (H1 := mz_mk g3 x) rfl ?_
      refine mz_idivp rfl (mz_rg l_v10 u_v10) ⟨by decide, by decide⟩ (by omega) (by omega) (fun v12 e_v12 => ?_)
      have l_v12 : 0 ≤ v12 := by omega
      have u_v12 : v12 ≤ 4 := by omega
      refine mm_g 1 (pc1 := 66) (lo1 := [some (.ref 137), some (.ref q1), some (.int (Int32.ofInt a2)), some (.int (Int32.ofInt v1)), some (.int (Int32.ofInt v12))]) (st1 := []) (H1 := mz_mk g3 x) rfl ?_
      have L18 : ∀ n17 : Nat, ∀ (v13 : Int) (v14 : Int) (g15 : mz_G), (16 - v13).toNat = n17 → 0 ≤ v13 → v13 ≤ 16 → 0 ≤ v14 → v14 ≤ 8 → mz_inv g15 → mz_fr (fl_X12_blendInto_66 x q1 a2) g3 g15 → (v13 ≤ v14 + 8) → mm_W d mmX12_blendInto 66 [some (.ref 137), some (.ref q1), some (.int (Int32.ofInt a2)), some (.int (Int32.ofInt v13)), some (.int (Int32.ofInt v14))] [] (mz_mk g15 x) Q := by
        intro n17
        induction n17 using Nat.strongRecOn with
        | ind n17 ih16 =>
        intro v13 v14 g15 hmn17 l_v13 u_v13 l_v14 u_v14 hIg15 hfg15 hv19
        refine mm_g 2 (pc1 := 69) (lo1 := [some (.ref 137), some (.ref q1), some (.int (Int32.ofInt a2)), some (.int (Int32.ofInt v13)), some (.int (Int32.ofInt v14))]) (st1 := [.ref 137, .int (Int32.ofInt v14)]) (H1 := mz_mk g15 x) rfl ?_
        refine mz_fgR (v := 142) rfl fd_12_43 (by decide) (sc_137 _) (rf_137_5 _ _ _) ?_
        refine mm_g 1 (pc1 := 73) (lo1 := [some (.ref 137), some (.ref q1), some (.int (Int32.ofInt a2)), some (.int (Int32.ofInt v13)), some (.int (Int32.ofInt v14))]) (st1 := [.ref 137, .ref 142, .int (Int32.ofInt v14)]) (H1 := mz_mk g15 x) rfl ?_
        refine mz_fgR (v := 154) rfl fd_12_80 (by decide) (sc_137 _) (rf_137_27 _ _ _) ?_
        refine mm_g 1 (pc1 := 77) (lo1 := [some (.ref 137), some (.ref q1), some (.int (Int32.ofInt a2)), some (.int (Int32.ofInt v13)), some (.int (Int32.ofInt v14))]) (st1 := [.int (Int32.ofInt a2), .ref 154, .ref 142, .int (Int32.ofInt v14)]) (H1 := mz_mk g15 x) rfl ?_
        refine mz_aI rfl (sh_154 _) (by omega) (by omega) (by decide) hIg15 (ba_154 _) (fun v20 e_v20 l_v20 u_v20 => ?_)
        refine mz_aI rfl (sh_142 _) (by omega) (by omega) (by decide) hIg15 (ba_142 _) (fun v21 e_v21 l_v21 u_v21 => ?_)
        refine mz_ic_ge (tgt := 106) rfl rfl (mz_rg l_v14 u_v14) (mz_rg l_v21 u_v21) (fun c79_21 => ?_) (fun c79_21 => ?_)
        · skip
          refine mm_g 1 (pc1 := 107) (lo1 := [some (.ref 137), some (.ref q1), some (.int (Int32.ofInt a2)), some (.int (Int32.ofInt v13)), some (.int (Int32.ofInt v14))]) (st1 := [.int (Int32.ofInt v13)]) (H1 := mz_mk g15 x) rfl ?_
          exact mm_rt rfl rfl (hQ _ _ hIg15 (fun k j hk => ((hfg15 k j (fun h => hk h)).trans (hfg3 k j (fun h => hk h)))) (by omega) (by omega))
        · skip
          refine mm_g 4 (pc1 := 86) (lo1 := [some (.ref 137), some (.ref q1), some (.int (Int32.ofInt a2)), some (.int (Int32.ofInt v13)), some (.int (Int32.ofInt v14))]) (st1 := [.ref 137, .ref 137, .int (Int32.ofInt v13), .ref q1]) (H1 := mz_mk g15 x) rfl ?_
          refine mz_fgR (v := 154) rfl fd_12_80 (by decide) (sc_137 _) (rf_137_27 _ _ _) ?_
          refine mm_g 1 (pc1 := 90) (lo1 := [some (.ref 137), some (.ref q1), some (.int (Int32.ofInt a2)), some (.int (Int32.ofInt v13)), some (.int (Int32.ofInt v14))]) (st1 := [.int (Int32.ofInt a2), .ref 154, .ref 137, .int (Int32.ofInt v13), .ref q1]) (H1 := mz_mk g15 x) rfl ?_
          refine mz_ia (v := v20) rfl (sh_154 _) (by omega) (by omega) (by decide) e_v20 ?_
          refine mm_g 1 (pc1 := 93) (lo1 := [some (.ref 137), some (.ref q1), some (.int (Int32.ofInt a2)), some (.int (Int32.ofInt v13)), some (.int (Int32.ofInt v14))]) (st1 := [.int (Int32.ofInt v14), .int (Int32.ofInt v20), .ref 137, .int (Int32.ofInt v13), .ref q1]) (H1 := mz_mk g15 x) rfl ?_
          refine mz_cv rfl mt_12_320 (by decide) (sc_137 _) rfl (Nat.le_of_ble_eq_true rfl) (by omega) (c_X12_letterOf (by omega) hx hIg15 l_v20 u_v20 (by omega) (by omega) (fun v22 l_v22 u_v22 hp23 => ⟨_, rfl, ?_⟩))
          show mm_W d mmX12_blendInto 96 [some (.ref 137), some (.ref q1), some (.int (Int32.ofInt a2)), some (.int (Int32.ofInt v13)), some (.int (Int32.ofInt v14))] [.int (Int32.ofInt v22), .int (Int32.ofInt v13), .ref q1] (mz_mk g15 x) Q
          refine mz_sI rfl h_q1 (by omega) (by omega) (by omega) hIg15 (b_q1 _) (by omega) (by omega) (fun g24 hIg24 hug24 => ?_)
          refine mz_iincR (v := v13) (lo2 := [some (.ref 137), some (.ref q1), some (.int (Int32.ofInt a2)), some (.int (Int32.ofInt (v13 + 1))), some (.int (Int32.ofInt v14))]) rfl rfl rfl (Nat.le_of_ble_eq_true rfl) rfl ?_
          refine mz_iincR (v := v14) (lo2 := [some (.ref 137), some (.ref q1), some (.int (Int32.ofInt a2)), some (.int (Int32.ofInt (v13 + 1))), some (.int (Int32.ofInt (v14 + 1)))]) rfl rfl rfl (Nat.le_of_ble_eq_true rfl) rfl ?_
          refine mz_gt (tgt := 66) rfl rfl ?_
          exact ih16 ((16 - (v13 + 1)).toNat) (by omega) (v13 + 1) (v14 + 1) g24 rfl (by omega) (by omega) (by omega) (by omega) hIg24 (fun k j hk => ((hug24.2 k j (fun h => hk h.1)).trans (hfg15 k j (fun h => hk h)))) (by omega)
      exact L18 _ v1 v12 g3 rfl (by omega) (by omega) (by omega) (by omega) hIg3 (fun _ _ _ => rfl) (by omega)
    · skip
      refine mm_g 4 (pc1 := 36) (lo1 := [some (.ref 137), some (.ref q1), some (.int (Int32.ofInt a2)), some (.int (Int32.ofInt v1)), some (.int (Int32.ofInt v2))]) (st1 := [.ref 137, .ref 137, .int (Int32.ofInt v1), .ref q1]) (H1 := mz_mk g3 x) rfl ?_
      refine mz_fgR (v := 153) rfl fd_12_78 (by decide) (sc_137 _) (rf_137_26 _ _ _) ?_
      refine mm_g 1 (pc1 := 40) (lo1 := [some (.ref 137), some (.ref q1), some (.int (Int32.ofInt a2)), some (.int (Int32.ofInt v1)), some (.int (Int32.ofInt v2))]) (st1 := [.int (Int32.ofInt a2), .ref 153, .ref 137, .int (Int32.ofInt v1), .ref q1]) (H1 := mz_mk g3 x) rfl ?_
      refine mz_ia (v := v8) rfl (sh_153 _) (by omega) (by omega) (by decide) e_v8 ?_
      refine mm_g 1 (pc1 := 43) (lo1 := [some (.ref 137), some (.ref q1), some (.int (Int32.ofInt a2)), some (.int (Int32.ofInt v1)), some (.int (Int32.ofInt v2))]) (st1 := [.int (Int32.ofInt v2), .int (Int32.ofInt v8), .ref 137, .int (Int32.ofInt v1), .ref q1]) (H1 := mz_mk g3 x) rfl ?_
      refine mz_cv rfl mt_12_320 (by decide) (sc_137 _) rfl (Nat.le_of_ble_eq_true rfl) (by omega) (c_X12_letterOf (by omega) hx hIg3 l_v8 u_v8 (by omega) (by omega) (fun v25 l_v25 u_v25 hp26 => ⟨_, rfl, ?_⟩))
      show mm_W d mmX12_blendInto 46 [some (.ref 137), some (.ref q1), some (.int (Int32.ofInt a2)), some (.int (Int32.ofInt v1)), some (.int (Int32.ofInt v2))] [.int (Int32.ofInt v25), .int (Int32.ofInt v1), .ref q1] (mz_mk g3 x) Q
      refine mz_sI rfl h_q1 (by omega) (by omega) (by omega) hIg3 (b_q1 _) (by omega) (by omega) (fun g27 hIg27 hug27 => ?_)
      refine mz_iincR (v := v1) (lo2 := [some (.ref 137), some (.ref q1), some (.int (Int32.ofInt a2)), some (.int (Int32.ofInt (v1 + 1))), some (.int (Int32.ofInt v2))]) rfl rfl rfl (Nat.le_of_ble_eq_true rfl) rfl ?_
      refine mz_iincR (v := v2) (lo2 := [some (.ref 137), some (.ref q1), some (.int (Int32.ofInt a2)), some (.int (Int32.ofInt (v1 + 1))), some (.int (Int32.ofInt (v2 + 1)))]) rfl rfl rfl (Nat.le_of_ble_eq_true rfl) rfl ?_
      refine mz_gt (tgt := 5) rfl rfl ?_
      exact ih4 ((8 - (v1 + 1)).toNat) (by omega) (v1 + 1) (v2 + 1) g27 rfl (by omega) (by omega) (by omega) (by omega) hIg27 (fun k j hk => ((hug27.2 k j (fun h => hk h.1)).trans (hfg3 k j (fun h => hk h)))) (by omega)
  exact L6 _ 0 0 g rfl (by decide) (by decide) (by decide) (by decide) hI (fun _ _ _ => rfl) (by omega)
def fl_X12_compared_5 (x : mm_X) (a1 : Int) : Nat → Nat → Prop := fun k j => k = 159
def fl_X12_compared_16 (x : mm_X) (a1 : Int) : Nat → Nat → Prop := fun k j => k = 159
def fw_X12_compared (x : mm_X) (a1 : Int) : Nat → Nat → Prop := fun k j => k = 159
theorem c_X12_compared {d : Nat} (hd : 12 ≤ d) {x : mm_X} (hx : mk_x x) {g : mz_G} (hI : mz_inv g) {a1 : Int} (l_a1 : 0 ≤ a1) (u_a1 : a1 ≤ 1) {Q : (Option Value ⊕ Nat) → mm_H → Prop} (hQ : ∀ (r : Int) (g1 : mz_G), mz_inv g1 → mz_fr (fw_X12_compared x a1) g g1 → (-2147483648) ≤ r → r ≤ 2147483647 → Q (.inl (some (.int (Int32.ofInt r)))) (mz_mk g1 x)) : mm_C d 224 [.ref 137, .int (Int32.ofInt a1)] (mz_mk g x) Q := by
  refine ⟨mmX12_compared, [some (.ref 137), some (.int (Int32.ofInt a1)), none, none, none, none, none, none, none, none], rfl, rfl, ?_⟩
  refine mz_bip rfl bip_17 ?_
  refine mm_g 3 (pc1 := 5) (lo1 := [some (.ref 137), some (.int (Int32.ofInt a1)), some (.int (Int32.ofInt 17)), some (.int (Int32.ofInt 0)), none, none, none, none, none, none]) (st1 := []) (H1 := mz_mk g x) rfl ?_
  have L11 : ∀ n10 : Nat, ∀ (v1 : Int) (o2 : Option Value) (o3 : Option Value) (o4 : Option Value) (o5 : Option Value) (o6 : Option Value) (o7 : Option Value) (g8 : mz_G), (17 - v1).toNat = n10 → 0 ≤ v1 → v1 ≤ 17 → mz_nl o2 → mz_nl o3 → mz_nl o4 → mz_nl o5 → mz_nl o6 → mz_nl o7 → mz_inv g8 → mz_fr (fl_X12_compared_5 x a1) g g8 → mm_W d mmX12_compared 5 [some (.ref 137), some (.int (Int32.ofInt a1)), some (.int (Int32.ofInt 17)), some (.int (Int32.ofInt v1)), o2, o3, o4, o5, o6, o7] [] (mz_mk g8 x) Q := by
    intro n10
    induction n10 using Nat.strongRecOn with
    | ind n10 ih9 =>
    intro v1 o2 o3 o4 o5 o6 o7 g8 hmn10 l_v1 u_v1 h_o2 h_o3 h_o4 h_o5 h_o6 h_o7 hIg8 hfg8
    refine mm_g 2 (pc1 := 7) (lo1 := [some (.ref 137), some (.int (Int32.ofInt a1)), some (.int (Int32.ofInt 17)), some (.int (Int32.ofInt v1)), o2, o3, o4, o5, o6, o7]) (st1 := [.ref 137, .int (Int32.ofInt v1)]) (H1 := mz_mk g8 x) rfl ?_
    refine mz_gI rfl fd_12_323 (by decide) (sc_137 _) hIg8 bd_137_36 (fun v12 e_v12 l_v12 u_v12 => ?_)
    refine mz_ic_gt (tgt := 196) rfl rfl (mz_rg l_v1 u_v1) (mz_rg l_v12 u_v12) (fun c10_12 => ?_) (fun c10_12 => ?_)
    · skip
      refine mm_g 1 (pc1 := 197) (lo1 := [some (.ref 137), some (.int (Int32.ofInt a1)), some (.int (Int32.ofInt 17)), some (.int (Int32.ofInt v1)), o2, o3, o4, o5, o6, o7]) (st1 := [.ref 137]) (H1 := mz_mk g8 x) rfl ?_
      refine mz_fgR (v := 159) rfl fd_12_94 (by decide) (sc_137 _) (rf_137_35 _ _ _) ?_
      refine mm_g 2 (pc1 := 202) (lo1 := [some (.ref 137), some (.int (Int32.ofInt a1)), some (.int (Int32.ofInt 17)), some (.int (Int32.ofInt v1)), o2, o3, o4, o5, o6, o7]) (st1 := [.ref 137, .int (Int32.ofInt 17), .ref 159]) (H1 := mz_mk g8 x) rfl ?_
      refine mz_fgI (v := v12) rfl fd_12_323 (by decide) (sc_137 _) e_v12 ?_
      refine mz_imul rfl ?_
      refine mm_g 1 (pc1 := 207) (lo1 := [some (.ref 137), some (.int (Int32.ofInt a1)), some (.int (Int32.ofInt 17)), some (.int (Int32.ofInt v1)), o2, o3, o4, o5, o6, o7]) (st1 := [.ref 137, .int (Int32.ofInt (17 * v12)), .ref 159]) (H1 := mz_mk g8 x) rfl ?_
      refine mz_gI rfl fd_12_326 (by decide) (sc_137 _) hIg8 bd_137_37 (fun v13 e_v13 l_v13 u_v13 => ?_)
      refine mz_iadd rfl ?_
      refine mz_aI rfl (sh_159 _) (by omega) (by omega) (by decide) hIg8 (ba_159 _) (fun v14 e_v14 l_v14 u_v14 => ?_)
      exact mm_rt rfl rfl (hQ _ _ hIg8 (fun k j hk => (hfg8 k j (fun h => hk h))) (by omega) (by omega))
    · skip
      refine mm_g 2 (pc1 := 16) (lo1 := [some (.ref 137), some (.int (Int32.ofInt a1)), some (.int (Int32.ofInt 17)), some (.int (Int32.ofInt v1)), some (.int (Int32.ofInt 0)), o3, o4, o5, o6, o7]) (st1 := []) (H1 := mz_mk g8 x) rfl ?_
      have L24 : ∀ n23 : Nat, ∀ (v15 : Int) (o16 : Option Value) (o17 : Option Value) (o18 : Option Value) (o19 : Option Value) (o20 : Option Value) (g21 : mz_G), (17 - v15).toNat = n23 → 0 ≤ v15 → v15 ≤ 17 → mz_nl o16 → mz_nl o17 → mz_nl o18 → mz_nl o19 → mz_nl o20 → mz_inv g21 → mz_fr (fl_X12_compared_16 x a1) g8 g21 → mm_W d mmX12_compared 16 [some (.ref 137), some (.int (Int32.ofInt a1)), some (.int (Int32.ofInt 17)), some (.int (Int32.ofInt v1)), some (.int (Int32.ofInt v15)), o16, o17, o18, o19, o20] [] (mz_mk g21 x) Q := by
        intro n23
        induction n23 using Nat.strongRecOn with
        | ind n23 ih22 =>
        intro v15 o16 o17 o18 o19 o20 g21 hmn23 l_v15 u_v15 h_o16 h_o17 h_o18 h_o19 h_o20 hIg21 hfg21
        refine mm_g 2 (pc1 := 19) (lo1 := [some (.ref 137), some (.int (Int32.ofInt a1)), some (.int (Int32.ofInt 17)), some (.int (Int32.ofInt v1)), some (.int (Int32.ofInt v15)), o16, o17, o18, o19, o20]) (st1 := [.ref 137, .int (Int32.ofInt v15)]) (H1 := mz_mk g21 x) rfl ?_
        refine mz_gI rfl fd_12_326 (by decide) (sc_137 _) hIg21 bd_137_37 (fun v25 e_v25 l_v25 u_v25 => ?_)
        refine mz_ic_gt (tgt := 190) rfl rfl (mz_rg l_v15 u_v15) (mz_rg l_v25 u_v25) (fun c22_25 => ?_) (fun c22_25 => ?_)
        · skip
          refine mz_iincR (v := v1) (lo2 := [some (.ref 137), some (.int (Int32.ofInt a1)), some (.int (Int32.ofInt 17)), some (.int (Int32.ofInt (v1 + 1))), some (.int (Int32.ofInt v15)), o16, o17, o18, o19, o20]) rfl rfl rfl (Nat.le_of_ble_eq_true rfl) rfl ?_
          refine mz_gt (tgt := 5) rfl rfl ?_
          exact ih9 ((17 - (v1 + 1)).toNat) (by omega) (v1 + 1) (some (.int (Int32.ofInt v15))) o16 o17 o18 o19 o20 g21 rfl (by omega) (by omega) (mz_nl_i _) h_o16 h_o17 h_o18 h_o19 h_o20 hIg21 (fun k j hk => ((hfg21 k j (fun h => hk h)).trans (hfg8 k j (fun h => hk h))))
        · skip
          refine mm_g 2 (pc1 := 27) (lo1 := [some (.ref 137), some (.int (Int32.ofInt a1)), some (.int (Int32.ofInt 17)), some (.int (Int32.ofInt v1)), some (.int (Int32.ofInt v15)), o16, o17, o18, o19, o20]) (st1 := [.int (Int32.ofInt v1), .int (Int32.ofInt 17)]) (H1 := mz_mk g21 x) rfl ?_
          refine mz_imul rfl ?_
          refine mm_g 1 (pc1 := 30) (lo1 := [some (.ref 137), some (.int (Int32.ofInt a1)), some (.int (Int32.ofInt 17)), some (.int (Int32.ofInt v1)), some (.int (Int32.ofInt v15)), o16, o17, o18, o19, o20]) (st1 := [.int (Int32.ofInt v15), .int (Int32.ofInt (17 * v1))]) (H1 := mz_mk g21 x) rfl ?_
          refine mz_iadd rfl ?_
          refine mm_g 2 (pc1 := 34) (lo1 := [some (.ref 137), some (.int (Int32.ofInt a1)), some (.int (Int32.ofInt 17)), some (.int (Int32.ofInt v1)), some (.int (Int32.ofInt v15)), some (.int (Int32.ofInt ((17 * v1) + v15))), o17, o18, o19, o20]) (st1 := [.int (Int32.ofInt v1)]) (H1 := mz_mk g21 x) rfl ?_
          refine mz_if_eq (tgt := 42) rfl rfl (mz_rg l_v1 u_v1) (fun c34_25 => ?_) (fun c34_25 => ?_)
          · skip
            refine mm_g 1 (pc1 := 43) (lo1 := [some (.ref 137), some (.int (Int32.ofInt a1)), some (.int (Int32.ofInt 17)), some (.int (Int32.ofInt v1)), some (.int (Int32.ofInt v15)), some (.int (Int32.ofInt ((17 * v1) + v15))), o17, o18, o19, o20]) (st1 := [.ref 137]) (H1 := mz_mk g21 x) rfl ?_
            refine mz_fgR (v := 159) rfl fd_12_94 (by decide) (sc_137 _) (rf_137_35 _ _ _) ?_
            refine mm_g 2 (pc1 := 49) (lo1 := [some (.ref 137), some (.int (Int32.ofInt a1)), some (.int (Int32.ofInt 17)), some (.int (Int32.ofInt v1)), some (.int (Int32.ofInt v15)), some (.int (Int32.ofInt ((17 * v1) + v15))), o17, o18, o19, o20]) (st1 := [.int (Int32.ofInt a1), .int (Int32.ofInt ((17 * v1) + v15)), .ref 159]) (H1 := mz_mk g21 x) rfl ?_
            refine mz_if_eq (tgt := 59) rfl rfl (mz_rg l_a1 u_a1) (fun c49_25 => ?_) (fun c49_25 => ?_)
            · skip
              refine mm_g 1 (pc1 := 60) (lo1 := [some (.ref 137), some (.int (Int32.ofInt a1)), some (.int (Int32.ofInt 17)), some (.int (Int32.ofInt v1)), some (.int (Int32.ofInt v15)), some (.int (Int32.ofInt ((17 * v1) + v15))), o17, o18, o19, o20]) (st1 := [.int (Int32.ofInt 0), .int (Int32.ofInt ((17 * v1) + v15)), .ref 159]) (H1 := mz_mk g21 x) rfl ?_
              refine mz_sI rfl (sh_159 _) (by omega) (by omega) (by decide) hIg21 (ba_159 _) (by omega) (by omega) (fun g26 hIg26 hug26 => ?_)
              refine mz_gt (tgt := 184) rfl rfl ?_
              refine mz_iincR (v := v15) (lo2 := [some (.ref 137), some (.int (Int32.ofInt a1)), some (.int (Int32.ofInt 17)), some (.int (Int32.ofInt v1)), some (.int (Int32.ofInt (v15 + 1))), some (.int (Int32.ofInt ((17 * v1) + v15))), o17, o18, o19, o20]) rfl rfl rfl (Nat.le_of_ble_eq_true rfl) rfl ?_
              refine mz_gt (tgt := 16) rfl rfl ?_
              exact ih22 ((17 - (v15 + 1)).toNat) (by omega) (v15 + 1) (some (.int (Int32.ofInt ((17 * v1) + v15)))) o17 o18 o19 o20 g26 rfl (by omega) (by omega) (mz_nl_i _) h_o17 h_o18 h_o19 h_o20 hIg26 (fun k j hk => ((hug26.2 k j (fun h => hk h.1)).trans (hfg21 k j (fun h => hk h))))
            · skip
              refine mm_g 2 (pc1 := 55) (lo1 := [some (.ref 137), some (.int (Int32.ofInt a1)), some (.int (Int32.ofInt 17)), some (.int (Int32.ofInt v1)), some (.int (Int32.ofInt v15)), some (.int (Int32.ofInt ((17 * v1) + v15))), o17, o18, o19, o20]) (st1 := [.int (Int32.ofInt v15), .int (Int32.ofInt v1), .int (Int32.ofInt ((17 * v1) + v15)), .ref 159]) (H1 := mz_mk g21 x) rfl ?_
              refine mz_iadd rfl ?_
              refine mz_gt (tgt := 60) rfl rfl ?_
              refine mz_sI rfl (sh_159 _) (by omega) (by omega) (by decide) hIg21 (ba_159 _) (by omega) (by omega) (fun g27 hIg27 hug27 => ?_)
              refine mz_gt (tgt := 184) rfl rfl ?_
              refine mz_iincR (v := v15) (lo2 := [some (.ref 137), some (.int (Int32.ofInt a1)), some (.int (Int32.ofInt 17)), some (.int (Int32.ofInt v1)), some (.int (Int32.ofInt (v15 + 1))), some (.int (Int32.ofInt ((17 * v1) + v15))), o17, o18, o19, o20]) rfl rfl rfl (Nat.le_of_ble_eq_true rfl) rfl ?_
              refine mz_gt (tgt := 16) rfl rfl ?_
              exact ih22 ((17 - (v15 + 1)).toNat) (by omega) (v15 + 1) (some (.int (Int32.ofInt ((17 * v1) + v15)))) o17 o18 o19 o20 g27 rfl (by omega) (by omega) (mz_nl_i _) h_o17 h_o18 h_o19 h_o20 hIg27 (fun k j hk => ((hug27.2 k j (fun h => hk h.1)).trans (hfg21 k j (fun h => hk h))))
          · skip
            refine mm_g 1 (pc1 := 39) (lo1 := [some (.ref 137), some (.int (Int32.ofInt a1)), some (.int (Int32.ofInt 17)), some (.int (Int32.ofInt v1)), some (.int (Int32.ofInt v15)), some (.int (Int32.ofInt ((17 * v1) + v15))), o17, o18, o19, o20]) (st1 := [.int (Int32.ofInt v15)]) (H1 := mz_mk g21 x) rfl ?_
            refine mz_if_ne (tgt := 64) rfl rfl (mz_rg l_v15 u_v15) (fun c39_27 => ?_) (fun c39_27 => ?_)
            · skip
              refine mm_g 1 (pc1 := 65) (lo1 := [some (.ref 137), some (.int (Int32.ofInt a1)), some (.int (Int32.ofInt 17)), some (.int (Int32.ofInt v1)), some (.int (Int32.ofInt v15)), some (.int (Int32.ofInt ((17 * v1) + v15))), o17, o18, o19, o20]) (st1 := [.ref 137]) (H1 := mz_mk g21 x) rfl ?_
              refine mz_fgR (v := 157) rfl fd_12_88 (by decide) (sc_137 _) (rf_137_33 _ _ _) ?_
              refine mm_g 2 (pc1 := 70) (lo1 := [some (.ref 137), some (.int (Int32.ofInt a1)), some (.int (Int32.ofInt 17)), some (.int (Int32.ofInt v1)), some (.int (Int32.ofInt v15)), some (.int (Int32.ofInt ((17 * v1) + v15))), o17, o18, o19, o20]) (st1 := [.int (Int32.ofInt 1), .int (Int32.ofInt v1), .ref 157]) (H1 := mz_mk g21 x) rfl ?_
              refine mz_isub rfl ?_
              refine mz_aI rfl (sh_157 _) (by omega) (by omega) (by decide) hIg21 (ba_157 _) (fun v28 e_v28 l_v28 u_v28 => ?_)
              refine mm_g 1 (pc1 := 73) (lo1 := [some (.ref 137), some (.int (Int32.ofInt a1)), some (.int (Int32.ofInt 17)), some (.int (Int32.ofInt v1)), some (.int (Int32.ofInt v15)), some (.int (Int32.ofInt ((17 * v1) + v15))), o17, o18, o19, o20]) (st1 := [.ref 137, .int (Int32.ofInt v28)]) (H1 := mz_mk g21 x) rfl ?_
              refine mz_fgR (v := 158) rfl fd_12_91 (by decide) (sc_137 _) (rf_137_34 _ _ _) ?_
              refine mm_g 2 (pc1 := 79) (lo1 := [some (.ref 137), some (.int (Int32.ofInt a1)), some (.int (Int32.ofInt 17)), some (.int (Int32.ofInt v1)), some (.int (Int32.ofInt v15)), some (.int (Int32.ofInt ((17 * v1) + v15))), o17, o18, o19, o20]) (st1 := [.int (Int32.ofInt 1), .int (Int32.ofInt v15), .ref 158, .int (Int32.ofInt v28)]) (H1 := mz_mk g21 x) rfl ?_
              refine mz_isub rfl ?_
              refine mz_aI rfl (sh_158 _) (by omega) (by omega) (by decide) hIg21 (ba_158 _) (fun v29 e_v29 l_v29 u_v29 => ?_)
              refine mz_ic_ne (tgt := 88) rfl rfl (mz_rg l_v28 u_v28) (mz_rg l_v29 u_v29) (fun c81_29 => ?_) (fun c81_29 => ?_)
              · skip
                refine mm_g 3 (pc1 := 92) (lo1 := [some (.ref 137), some (.int (Int32.ofInt a1)), some (.int (Int32.ofInt 17)), some (.int (Int32.ofInt v1)), some (.int (Int32.ofInt v15)), some (.int (Int32.ofInt ((17 * v1) + v15))), some (.int (Int32.ofInt 0)), o18, o19, o20]) (st1 := [.ref 137]) (H1 := mz_mk g21 x) rfl ?_
                refine mz_fgR (v := 159) rfl fd_12_94 (by decide) (sc_137 _) (rf_137_35 _ _ _) ?_
                refine mm_g 2 (pc1 := 98) (lo1 := [some (.ref 137), some (.int (Int32.ofInt a1)), some (.int (Int32.ofInt 17)), some (.int (Int32.ofInt v1)), some (.int (Int32.ofInt v15)), some (.int (Int32.ofInt ((17 * v1) + v15))), some (.int (Int32.ofInt 0)), o18, o19, o20]) (st1 := [.int (Int32.ofInt 17), .int (Int32.ofInt ((17 * v1) + v15)), .ref 159]) (H1 := mz_mk g21 x) rfl ?_
                refine mz_isub rfl ?_
                refine mz_aI rfl (sh_159 _) (by omega) (by omega) (by decide) hIg21 (ba_159 _) (fun v30 e_v30 l_v30 u_v30 => ?_)
                refine mm_g 2 (pc1 := 103) (lo1 := [some (.ref 137), some (.int (Int32.ofInt a1)), some (.int (Int32.ofInt 17)), some (.int (Int32.ofInt v1)), some (.int (Int32.ofInt v15)), some (.int (Int32.ofInt ((17 * v1) + v15))), some (.int (Int32.ofInt 0)), some (.int (Int32.ofInt v30)), o19, o20]) (st1 := [.ref 137]) (H1 := mz_mk g21 x) rfl ?_
                refine mz_fgR (v := 159) rfl fd_12_94 (by decide) (sc_137 _) (rf_137_35 _ _ _) ?_
                refine mm_g 2 (pc1 := 109) (lo1 := [some (.ref 137), some (.int (Int32.ofInt a1)), some (.int (Int32.ofInt 17)), some (.int (Int32.ofInt v1)), some (.int (Int32.ofInt v15)), some (.int (Int32.ofInt ((17 * v1) + v15))), some (.int (Int32.ofInt 0)), some (.int (Int32.ofInt v30)), o19, o20]) (st1 := [.int (Int32.ofInt 1), .int (Int32.ofInt ((17 * v1) + v15)), .ref 159]) (H1 := mz_mk g21 x) rfl ?_
                refine mz_isub rfl ?_
                refine mz_aI rfl (sh_159 _) (by omega) (by omega) (by decide) hIg21 (ba_159 _) (fun v31 e_v31 l_v31 u_v31 => ?_)
                refine mm_g 2 (pc1 := 114) (lo1 := [some (.ref 137), some (.int (Int32.ofInt a1)), some (.int (Int32.ofInt 17)), some (.int (Int32.ofInt v1)), some (.int (Int32.ofInt v15)), some (.int (Int32.ofInt ((17 * v1) + v15))), some (.int (Int32.ofInt 0)), some (.int (Int32.ofInt v30)), some (.int (Int32.ofInt v31)), o20]) (st1 := [.ref 137]) (H1 := mz_mk g21 x) rfl ?_
                refine mz_fgR (v := 159) rfl fd_12_94 (by decide) (sc_137 _) (rf_137_35 _ _ _) ?_
                refine mm_g 2 (pc1 := 120) (lo1 := [some (.ref 137), some (.int (Int32.ofInt a1)), some (.int (Int32.ofInt 17)), some (.int (Int32.ofInt v1)), some (.int (Int32.ofInt v15)), some (.int (Int32.ofInt ((17 * v1) + v15))), some (.int (Int32.ofInt 0)), some (.int (Int32.ofInt v30)), some (.int (Int32.ofInt v31)), o20]) (st1 := [.int (Int32.ofInt 17), .int (Int32.ofInt ((17 * v1) + v15)), .ref 159]) (H1 := mz_mk g21 x) rfl ?_
                refine mz_isub rfl ?_
                refine mm_g 1 (pc1 := 122) (lo1 := [some (.ref 137), some (.int (Int32.ofInt a1)), some (.int (Int32.ofInt 17)), some (.int (Int32.ofInt v1)), some (.int (Int32.ofInt v15)), some (.int (Int32.ofInt ((17 * v1) + v15))), some (.int (Int32.ofInt 0)), some (.int (Int32.ofInt v30)), some (.int (Int32.ofInt v31)), o20]) (st1 := [.int (Int32.ofInt 1), .int (Int32.ofInt (((17 * v1) + v15) - 17)), .ref 159]) (H1 := mz_mk g21 x) rfl ?_
                refine mz_isub rfl ?_
                refine mz_aI rfl (sh_159 _) (by omega) (by omega) (by decide) hIg21 (ba_159 _) (fun v32 e_v32 l_v32 u_v32 => ?_)
                refine mm_g 2 (pc1 := 127) (lo1 := [some (.ref 137), some (.int (Int32.ofInt a1)), some (.int (Int32.ofInt 17)), some (.int (Int32.ofInt v1)), some (.int (Int32.ofInt v15)), some (.int (Int32.ofInt ((17 * v1) + v15))), some (.int (Int32.ofInt 0)), some (.int (Int32.ofInt v30)), some (.int (Int32.ofInt v31)), some (.int (Int32.ofInt v32))]) (st1 := [.ref 137]) (H1 := mz_mk g21 x) rfl ?_
                refine mz_fgR (v := 159) rfl fd_12_94 (by decide) (sc_137 _) (rf_137_35 _ _ _) ?_
                refine mm_g 2 (pc1 := 133) (lo1 := [some (.ref 137), some (.int (Int32.ofInt a1)), some (.int (Int32.ofInt 17)), some (.int (Int32.ofInt v1)), some (.int (Int32.ofInt v15)), some (.int (Int32.ofInt ((17 * v1) + v15))), some (.int (Int32.ofInt 0)), some (.int (Int32.ofInt v30)), some (.int (Int32.ofInt v31)), some (.int (Int32.ofInt v32))]) (st1 := [.int (Int32.ofInt a1), .int (Int32.ofInt ((17 * v1) + v15)), .ref 159]) (H1 := mz_mk g21 x) rfl ?_
                refine mz_if_eq (tgt := 164) rfl rfl (mz_rg l_a1 u_a1) (fun c133_32 => ?_) (fun c133_32 => ?_)
                · skip
                  refine mm_g 1 (pc1 := 166) (lo1 := [some (.ref 137), some (.int (Int32.ofInt a1)), some (.int (Int32.ofInt 17)), some (.int (Int32.ofInt v1)), some (.int (Int32.ofInt v15)), some (.int (Int32.ofInt ((17 * v1) + v15))), some (.int (Int32.ofInt 0)), some (.int (Int32.ofInt v30)), some (.int (Int32.ofInt v31)), some (.int (Int32.ofInt v32))]) (st1 := [.int (Int32.ofInt 0), .int (Int32.ofInt ((17 * v1) + v15)), .ref 159]) (H1 := mz_mk g21 x) rfl ?_
                  refine mz_if_eq (tgt := 176) rfl rfl ⟨by decide, by decide⟩ (fun c166_32 => ?_) (fun c166_32 => ?_)
                  · skip
                    refine mm_g 2 (pc1 := 180) (lo1 := [some (.ref 137), some (.int (Int32.ofInt a1)), some (.int (Int32.ofInt 17)), some (.int (Int32.ofInt v1)), some (.int (Int32.ofInt v15)), some (.int (Int32.ofInt ((17 * v1) + v15))), some (.int (Int32.ofInt 0)), some (.int (Int32.ofInt v30)), some (.int (Int32.ofInt v31)), some (.int (Int32.ofInt v32))]) (st1 := [.int (Int32.ofInt v31), .int (Int32.ofInt v30), .int (Int32.ofInt ((17 * v1) + v15)), .ref 159]) (H1 := mz_mk g21 x) rfl ?_
                    refine mz_mx rfl mt_12_329 (Nat.le_of_ble_eq_true rfl) (by omega) (mz_rg l_v30 u_v30) (mz_rg l_v31 u_v31) (fun v33 e_v33 => ?_)
                    have l_v33 : (-2147483648) ≤ v33 := by omega
                    have u_v33 : v33 ≤ 2147483647 := by omega
                    refine mz_sI rfl (sh_159 _) (by omega) (by omega) (by decide) hIg21 (ba_159 _) (by omega) (by omega) (fun g34 hIg34 hug34 => ?_)
                    refine mz_iincR (v := v15) (lo2 := [some (.ref 137), some (.int (Int32.ofInt a1)), some (.int (Int32.ofInt 17)), some (.int (Int32.ofInt v1)), some (.int (Int32.ofInt (v15 + 1))), some (.int (Int32.ofInt ((17 * v1) + v15))), some (.int (Int32.ofInt 0)), some (.int (Int32.ofInt v30)), some (.int (Int32.ofInt v31)), some (.int (Int32.ofInt v32))]) rfl rfl rfl (Nat.le_of_ble_eq_true rfl) rfl ?_
                    refine mz_gt (tgt := 16) rfl rfl ?_
                    exact ih22 ((17 - (v15 + 1)).toNat) (by omega) (v15 + 1) (some (.int (Int32.ofInt ((17 * v1) + v15)))) (some (.int (Int32.ofInt 0))) (some (.int (Int32.ofInt v30))) (some (.int (Int32.ofInt v31))) (some (.int (Int32.ofInt v32))) g34 rfl (by omega) (by omega) (mz_nl_i _) (mz_nl_i _) (mz_nl_i _) (mz_nl_i _) (mz_nl_i _) hIg34 (fun k j hk => ((hug34.2 k j (fun h => hk h.1)).trans (hfg21 k j (fun h => hk h))))
                  · exfalso; omega
                · skip
                  refine mm_g 2 (pc1 := 140) (lo1 := [some (.ref 137), some (.int (Int32.ofInt a1)), some (.int (Int32.ofInt 17)), some (.int (Int32.ofInt v1)), some (.int (Int32.ofInt v15)), some (.int (Int32.ofInt ((17 * v1) + v15))), some (.int (Int32.ofInt 0)), some (.int (Int32.ofInt v30)), some (.int (Int32.ofInt v31)), some (.int (Int32.ofInt v32))]) (st1 := [.int (Int32.ofInt 0), .int (Int32.ofInt v32), .int (Int32.ofInt ((17 * v1) + v15)), .ref 159]) (H1 := mz_mk g21 x) rfl ?_
                  refine mz_if_eq (tgt := 147) rfl rfl ⟨by decide, by decide⟩ (fun c140_34 => ?_) (fun c140_34 => ?_)
                  · skip
                    refine mm_g 1 (pc1 := 148) (lo1 := [some (.ref 137), some (.int (Int32.ofInt a1)), some (.int (Int32.ofInt 17)), some (.int (Int32.ofInt v1)), some (.int (Int32.ofInt v15)), some (.int (Int32.ofInt ((17 * v1) + v15))), some (.int (Int32.ofInt 0)), some (.int (Int32.ofInt v30)), some (.int (Int32.ofInt v31)), some (.int (Int32.ofInt v32))]) (st1 := [.int (Int32.ofInt 1), .int (Int32.ofInt v32), .int (Int32.ofInt ((17 * v1) + v15)), .ref 159]) (H1 := mz_mk g21 x) rfl ?_
                    refine mz_iadd_w rfl (fun v35 _ hwv35 => ?_)
                    have l_v35 := hwv35.1
                    have u_v35 := hwv35.2
                    refine mm_g 3 (pc1 := 154) (lo1 := [some (.ref 137), some (.int (Int32.ofInt a1)), some (.int (Int32.ofInt 17)), some (.int (Int32.ofInt v1)), some (.int (Int32.ofInt v15)), some (.int (Int32.ofInt ((17 * v1) + v15))), some (.int (Int32.ofInt 0)), some (.int (Int32.ofInt v30)), some (.int (Int32.ofInt v31)), some (.int (Int32.ofInt v32))]) (st1 := [.int (Int32.ofInt v31), .int (Int32.ofInt v30), .int (Int32.ofInt 1), .int (Int32.ofInt v35), .int (Int32.ofInt ((17 * v1) + v15)), .ref 159]) (H1 := mz_mk g21 x) rfl ?_
                    refine mz_mn rfl mt_12_191 (Nat.le_of_ble_eq_true rfl) (by omega) (mz_rg l_v30 u_v30) (mz_rg l_v31 u_v31) (fun v36 e_v36 => ?_)
                    have l_v36 : (-2147483648) ≤ v36 := by omega
                    have u_v36 : v36 ≤ 2147483647 := by omega
                    refine mz_iadd_w rfl (fun v37 _ hwv37 => ?_)
                    have l_v37 := hwv37.1
                    have u_v37 := hwv37.2
                    refine mz_mn rfl mt_12_191 (Nat.le_of_ble_eq_true rfl) (by omega) (mz_rg l_v35 u_v35) (mz_rg l_v37 u_v37) (fun v38 e_v38 => ?_)
                    have l_v38 : (-2147483648) ≤ v38 := by omega
                    have u_v38 : v38 ≤ 2147483647 := by omega
                    refine mz_gt (tgt := 183) rfl rfl ?_
                    refine mz_sI rfl (sh_159 _) (by omega) (by omega) (by decide) hIg21 (ba_159 _) (by omega) (by omega) (fun g39 hIg39 hug39 => ?_)
                    refine mz_iincR (v := v15) (lo2 := [some (.ref 137), some (.int (Int32.ofInt a1)), some (.int (Int32.ofInt 17)), some (.int (Int32.ofInt v1)), some (.int (Int32.ofInt (v15 + 1))), some (.int (Int32.ofInt ((17 * v1) + v15))), some (.int (Int32.ofInt 0)), some (.int (Int32.ofInt v30)), some (.int (Int32.ofInt v31)), some (.int (Int32.ofInt v32))]) rfl rfl rfl (Nat.le_of_ble_eq_true rfl) rfl ?_
                    refine mz_gt (tgt := 16) rfl rfl ?_
                    exact ih22 ((17 - (v15 + 1)).toNat) (by omega) (v15 + 1) (some (.int (Int32.ofInt ((17 * v1) + v15)))) (some (.int (Int32.ofInt 0))) (some (.int (Int32.ofInt v30))) (some (.int (Int32.ofInt v31))) (some (.int (Int32.ofInt v32))) g39 rfl (by omega) (by omega) (mz_nl_i _) (mz_nl_i _) (mz_nl_i _) (mz_nl_i _) (mz_nl_i _) hIg39 (fun k j hk => ((hug39.2 k j (fun h => hk h.1)).trans (hfg21 k j (fun h => hk h))))
                  · exfalso; omega
              · skip
                refine mm_g 1 (pc1 := 85) (lo1 := [some (.ref 137), some (.int (Int32.ofInt a1)), some (.int (Int32.ofInt 17)), some (.int (Int32.ofInt v1)), some (.int (Int32.ofInt v15)), some (.int (Int32.ofInt ((17 * v1) + v15))), o17, o18, o19, o20]) (st1 := [.int (Int32.ofInt 1)]) (H1 := mz_mk g21 x) rfl ?_
                refine mz_gt (tgt := 89) rfl rfl ?_
                refine mm_g 2 (pc1 := 92) (lo1 := [some (.ref 137), some (.int (Int32.ofInt a1)), some (.int (Int32.ofInt 17)), some (.int (Int32.ofInt v1)), some (.int (Int32.ofInt v15)), some (.int (Int32.ofInt ((17 * v1) + v15))), some (.int (Int32.ofInt 1)), o18, o19, o20]) (st1 := [.ref 137]) (H1 := mz_mk g21 x) rfl ?_
                refine mz_fgR (v := 159) rfl fd_12_94 (by decide) (sc_137 _) (rf_137_35 _ _ _) ?_
                refine mm_g 2 (pc1 := 98) (lo1 := [some (.ref 137), some (.int (Int32.ofInt a1)), some (.int (Int32.ofInt 17)), some (.int (Int32.ofInt v1)), some (.int (Int32.ofInt v15)), some (.int (Int32.ofInt ((17 * v1) + v15))), some (.int (Int32.ofInt 1)), o18, o19, o20]) (st1 := [.int (Int32.ofInt 17), .int (Int32.ofInt ((17 * v1) + v15)), .ref 159]) (H1 := mz_mk g21 x) rfl ?_
                refine mz_isub rfl ?_
                refine mz_aI rfl (sh_159 _) (by omega) (by omega) (by decide) hIg21 (ba_159 _) (fun v40 e_v40 l_v40 u_v40 => ?_)
                refine mm_g 2 (pc1 := 103) (lo1 := [some (.ref 137), some (.int (Int32.ofInt a1)), some (.int (Int32.ofInt 17)), some (.int (Int32.ofInt v1)), some (.int (Int32.ofInt v15)), some (.int (Int32.ofInt ((17 * v1) + v15))), some (.int (Int32.ofInt 1)), some (.int (Int32.ofInt v40)), o19, o20]) (st1 := [.ref 137]) (H1 := mz_mk g21 x) rfl ?_
                refine mz_fgR (v := 159) rfl fd_12_94 (by decide) (sc_137 _) (rf_137_35 _ _ _) ?_
                refine mm_g 2 (pc1 := 109) (lo1 := [some (.ref 137), some (.int (Int32.ofInt a1)), some (.int (Int32.ofInt 17)), some (.int (Int32.ofInt v1)), some (.int (Int32.ofInt v15)), some (.int (Int32.ofInt ((17 * v1) + v15))), some (.int (Int32.ofInt 1)), some (.int (Int32.ofInt v40)), o19, o20]) (st1 := [.int (Int32.ofInt 1), .int (Int32.ofInt ((17 * v1) + v15)), .ref 159]) (H1 := mz_mk g21 x) rfl ?_
                refine mz_isub rfl ?_
                refine mz_aI rfl (sh_159 _) (by omega) (by omega) (by decide) hIg21 (ba_159 _) (fun v41 e_v41 l_v41 u_v41 => ?_)
                refine mm_g 2 (pc1 := 114) (lo1 := [some (.ref 137), some (.int (Int32.ofInt a1)), some (.int (Int32.ofInt 17)), some (.int (Int32.ofInt v1)), some (.int (Int32.ofInt v15)), some (.int (Int32.ofInt ((17 * v1) + v15))), some (.int (Int32.ofInt 1)), some (.int (Int32.ofInt v40)), some (.int (Int32.ofInt v41)), o20]) (st1 := [.ref 137]) (H1 := mz_mk g21 x) rfl ?_
                refine mz_fgR (v := 159) rfl fd_12_94 (by decide) (sc_137 _) (rf_137_35 _ _ _) ?_
                refine mm_g 2 (pc1 := 120) (lo1 := [some (.ref 137), some (.int (Int32.ofInt a1)), some (.int (Int32.ofInt 17)), some (.int (Int32.ofInt v1)), some (.int (Int32.ofInt v15)), some (.int (Int32.ofInt ((17 * v1) + v15))), some (.int (Int32.ofInt 1)), some (.int (Int32.ofInt v40)), some (.int (Int32.ofInt v41)), o20]) (st1 := [.int (Int32.ofInt 17), .int (Int32.ofInt ((17 * v1) + v15)), .ref 159]) (H1 := mz_mk g21 x) rfl ?_
                refine mz_isub rfl ?_
                refine mm_g 1 (pc1 := 122) (lo1 := [some (.ref 137), some (.int (Int32.ofInt a1)), some (.int (Int32.ofInt 17)), some (.int (Int32.ofInt v1)), some (.int (Int32.ofInt v15)), some (.int (Int32.ofInt ((17 * v1) + v15))), some (.int (Int32.ofInt 1)), some (.int (Int32.ofInt v40)), some (.int (Int32.ofInt v41)), o20]) (st1 := [.int (Int32.ofInt 1), .int (Int32.ofInt (((17 * v1) + v15) - 17)), .ref 159]) (H1 := mz_mk g21 x) rfl ?_
                refine mz_isub rfl ?_
                refine mz_aI rfl (sh_159 _) (by omega) (by omega) (by decide) hIg21 (ba_159 _) (fun v42 e_v42 l_v42 u_v42 => ?_)
                refine mm_g 2 (pc1 := 127) (lo1 := [some (.ref 137), some (.int (Int32.ofInt a1)), some (.int (Int32.ofInt 17)), some (.int (Int32.ofInt v1)), some (.int (Int32.ofInt v15)), some (.int (Int32.ofInt ((17 * v1) + v15))), some (.int (Int32.ofInt 1)), some (.int (Int32.ofInt v40)), some (.int (Int32.ofInt v41)), some (.int (Int32.ofInt v42))]) (st1 := [.ref 137]) (H1 := mz_mk g21 x) rfl ?_
                refine mz_fgR (v := 159) rfl fd_12_94 (by decide) (sc_137 _) (rf_137_35 _ _ _) ?_
                refine mm_g 2 (pc1 := 133) (lo1 := [some (.ref 137), some (.int (Int32.ofInt a1)), some (.int (Int32.ofInt 17)), some (.int (Int32.ofInt v1)), some (.int (Int32.ofInt v15)), some (.int (Int32.ofInt ((17 * v1) + v15))), some (.int (Int32.ofInt 1)), some (.int (Int32.ofInt v40)), some (.int (Int32.ofInt v41)), some (.int (Int32.ofInt v42))]) (st1 := [.int (Int32.ofInt a1), .int (Int32.ofInt ((17 * v1) + v15)), .ref 159]) (H1 := mz_mk g21 x) rfl ?_
                refine mz_if_eq (tgt := 164) rfl rfl (mz_rg l_a1 u_a1) (fun c133_42 => ?_) (fun c133_42 => ?_)
                · skip
                  refine mm_g 1 (pc1 := 166) (lo1 := [some (.ref 137), some (.int (Int32.ofInt a1)), some (.int (Int32.ofInt 17)), some (.int (Int32.ofInt v1)), some (.int (Int32.ofInt v15)), some (.int (Int32.ofInt ((17 * v1) + v15))), some (.int (Int32.ofInt 1)), some (.int (Int32.ofInt v40)), some (.int (Int32.ofInt v41)), some (.int (Int32.ofInt v42))]) (st1 := [.int (Int32.ofInt 1), .int (Int32.ofInt ((17 * v1) + v15)), .ref 159]) (H1 := mz_mk g21 x) rfl ?_
                  refine mz_if_eq (tgt := 176) rfl rfl ⟨by decide, by decide⟩ (fun c166_42 => ?_) (fun c166_42 => ?_)
                  · exfalso; omega
                  · skip
                    refine mm_g 2 (pc1 := 172) (lo1 := [some (.ref 137), some (.int (Int32.ofInt a1)), some (.int (Int32.ofInt 17)), some (.int (Int32.ofInt v1)), some (.int (Int32.ofInt v15)), some (.int (Int32.ofInt ((17 * v1) + v15))), some (.int (Int32.ofInt 1)), some (.int (Int32.ofInt v40)), some (.int (Int32.ofInt v41)), some (.int (Int32.ofInt v42))]) (st1 := [.int (Int32.ofInt 1), .int (Int32.ofInt v42), .int (Int32.ofInt ((17 * v1) + v15)), .ref 159]) (H1 := mz_mk g21 x) rfl ?_
                    refine mz_iadd_w rfl (fun v43 _ hwv43 => ?_)
                    have l_v43 := hwv43.1
                    have u_v43 := hwv43.2
                    refine mz_gt (tgt := 183) rfl rfl ?_
                    refine mz_sI rfl (sh_159 _) (by omega) (by omega) (by decide) hIg21 (ba_159 _) (by omega) (by omega) (fun g44 hIg44 hug44 => ?_)
                    refine mz_iincR (v := v15) (lo2 := [some (.ref 137), some (.int (Int32.ofInt a1)), some (.int (Int32.ofInt 17)), some (.int (Int32.ofInt v1)), some (.int (Int32.ofInt (v15 + 1))), some (.int (Int32.ofInt ((17 * v1) + v15))), some (.int (Int32.ofInt 1)), some (.int (Int32.ofInt v40)), some (.int (Int32.ofInt v41)), some (.int (Int32.ofInt v42))]) rfl rfl rfl (Nat.le_of_ble_eq_true rfl) rfl ?_
                    refine mz_gt (tgt := 16) rfl rfl ?_
                    exact ih22 ((17 - (v15 + 1)).toNat) (by omega) (v15 + 1) (some (.int (Int32.ofInt ((17 * v1) + v15)))) (some (.int (Int32.ofInt 1))) (some (.int (Int32.ofInt v40))) (some (.int (Int32.ofInt v41))) (some (.int (Int32.ofInt v42))) g44 rfl (by omega) (by omega) (mz_nl_i _) (mz_nl_i _) (mz_nl_i _) (mz_nl_i _) (mz_nl_i _) hIg44 (fun k j hk => ((hug44.2 k j (fun h => hk h.1)).trans (hfg21 k j (fun h => hk h))))
                · skip
                  refine mm_g 2 (pc1 := 140) (lo1 := [some (.ref 137), some (.int (Int32.ofInt a1)), some (.int (Int32.ofInt 17)), some (.int (Int32.ofInt v1)), some (.int (Int32.ofInt v15)), some (.int (Int32.ofInt ((17 * v1) + v15))), some (.int (Int32.ofInt 1)), some (.int (Int32.ofInt v40)), some (.int (Int32.ofInt v41)), some (.int (Int32.ofInt v42))]) (st1 := [.int (Int32.ofInt 1), .int (Int32.ofInt v42), .int (Int32.ofInt ((17 * v1) + v15)), .ref 159]) (H1 := mz_mk g21 x) rfl ?_
                  refine mz_if_eq (tgt := 147) rfl rfl ⟨by decide, by decide⟩ (fun c140_44 => ?_) (fun c140_44 => ?_)
                  · exfalso; omega
                  · skip
                    refine mm_g 1 (pc1 := 144) (lo1 := [some (.ref 137), some (.int (Int32.ofInt a1)), some (.int (Int32.ofInt 17)), some (.int (Int32.ofInt v1)), some (.int (Int32.ofInt v15)), some (.int (Int32.ofInt ((17 * v1) + v15))), some (.int (Int32.ofInt 1)), some (.int (Int32.ofInt v40)), some (.int (Int32.ofInt v41)), some (.int (Int32.ofInt v42))]) (st1 := [.int (Int32.ofInt 0), .int (Int32.ofInt v42), .int (Int32.ofInt ((17 * v1) + v15)), .ref 159]) (H1 := mz_mk g21 x) rfl ?_
                    refine mz_gt (tgt := 148) rfl rfl ?_
                    refine mz_iadd rfl ?_
                    refine mm_g 3 (pc1 := 154) (lo1 := [some (.ref 137), some (.int (Int32.ofInt a1)), some (.int (Int32.ofInt 17)), some (.int (Int32.ofInt v1)), some (.int (Int32.ofInt v15)), some (.int (Int32.ofInt ((17 * v1) + v15))), some (.int (Int32.ofInt 1)), some (.int (Int32.ofInt v40)), some (.int (Int32.ofInt v41)), some (.int (Int32.ofInt v42))]) (st1 := [.int (Int32.ofInt v41), .int (Int32.ofInt v40), .int (Int32.ofInt 1), .int (Int32.ofInt (v42 + 0)), .int (Int32.ofInt ((17 * v1) + v15)), .ref 159]) (H1 := mz_mk g21 x) rfl ?_
                    refine mz_mn rfl mt_12_191 (Nat.le_of_ble_eq_true rfl) (by omega) (mz_rg l_v40 u_v40) (mz_rg l_v41 u_v41) (fun v45 e_v45 => ?_)
                    have l_v45 : (-2147483648) ≤ v45 := by omega
                    have u_v45 : v45 ≤ 2147483647 := by omega
                    refine mz_iadd_w rfl (fun v46 _ hwv46 => ?_)
                    have l_v46 := hwv46.1
                    have u_v46 := hwv46.2
                    refine mz_mn rfl mt_12_191 (Nat.le_of_ble_eq_true rfl) (by omega) ⟨by omega, by omega⟩ (mz_rg l_v46 u_v46) (fun v47 e_v47 => ?_)
                    have l_v47 : (-2147483648) ≤ v47 := by omega
                    have u_v47 : v47 ≤ 2147483647 := by omega
                    refine mz_gt (tgt := 183) rfl rfl ?_
                    refine mz_sI rfl (sh_159 _) (by omega) (by omega) (by decide) hIg21 (ba_159 _) (by omega) (by omega) (fun g48 hIg48 hug48 => ?_)
                    refine mz_iincR (v := v15) (lo2 := [some (.ref 137), some (.int (Int32.ofInt a1)), some (.int (Int32.ofInt 17)), some (.int (Int32.ofInt v1)), some (.int (Int32.ofInt (v15 + 1))), some (.int (Int32.ofInt ((17 * v1) + v15))), some (.int (Int32.ofInt 1)), some (.int (Int32.ofInt v40)), some (.int (Int32.ofInt v41)), some (.int (Int32.ofInt v42))]) rfl rfl rfl (Nat.le_of_ble_eq_true rfl) rfl ?_
                    refine mz_gt (tgt := 16) rfl rfl ?_
                    exact ih22 ((17 - (v15 + 1)).toNat) (by omega) (v15 + 1) (some (.int (Int32.ofInt ((17 * v1) + v15)))) (some (.int (Int32.ofInt 1))) (some (.int (Int32.ofInt v40))) (some (.int (Int32.ofInt v41))) (some (.int (Int32.ofInt v42))) g48 rfl (by omega) (by omega) (mz_nl_i _) (mz_nl_i _) (mz_nl_i _) (mz_nl_i _) (mz_nl_i _) hIg48 (fun k j hk => ((hug48.2 k j (fun h => hk h.1)).trans (hfg21 k j (fun h => hk h))))
            · skip
              refine mm_g 1 (pc1 := 43) (lo1 := [some (.ref 137), some (.int (Int32.ofInt a1)), some (.int (Int32.ofInt 17)), some (.int (Int32.ofInt v1)), some (.int (Int32.ofInt v15)), some (.int (Int32.ofInt ((17 * v1) + v15))), o17, o18, o19, o20]) (st1 := [.ref 137]) (H1 := mz_mk g21 x) rfl ?_
              refine mz_fgR (v := 159) rfl fd_12_94 (by decide) (sc_137 _) (rf_137_35 _ _ _) ?_
              refine mm_g 2 (pc1 := 49) (lo1 := [some (.ref 137), some (.int (Int32.ofInt a1)), some (.int (Int32.ofInt 17)), some (.int (Int32.ofInt v1)), some (.int (Int32.ofInt v15)), some (.int (Int32.ofInt ((17 * v1) + v15))), o17, o18, o19, o20]) (st1 := [.int (Int32.ofInt a1), .int (Int32.ofInt ((17 * v1) + v15)), .ref 159]) (H1 := mz_mk g21 x) rfl ?_
              refine mz_if_eq (tgt := 59) rfl rfl (mz_rg l_a1 u_a1) (fun c49_48 => ?_) (fun c49_48 => ?_)
              · skip
                refine mm_g 1 (pc1 := 60) (lo1 := [some (.ref 137), some (.int (Int32.ofInt a1)), some (.int (Int32.ofInt 17)), some (.int (Int32.ofInt v1)), some (.int (Int32.ofInt v15)), some (.int (Int32.ofInt ((17 * v1) + v15))), o17, o18, o19, o20]) (st1 := [.int (Int32.ofInt 0), .int (Int32.ofInt ((17 * v1) + v15)), .ref 159]) (H1 := mz_mk g21 x) rfl ?_
                refine mz_sI rfl (sh_159 _) (by omega) (by omega) (by decide) hIg21 (ba_159 _) (by omega) (by omega) (fun g49 hIg49 hug49 => ?_)
                refine mz_gt (tgt := 184) rfl rfl ?_
                refine mz_iincR (v := v15) (lo2 := [some (.ref 137), some (.int (Int32.ofInt a1)), some (.int (Int32.ofInt 17)), some (.int (Int32.ofInt v1)), some (.int (Int32.ofInt (v15 + 1))), some (.int (Int32.ofInt ((17 * v1) + v15))), o17, o18, o19, o20]) rfl rfl rfl (Nat.le_of_ble_eq_true rfl) rfl ?_
                refine mz_gt (tgt := 16) rfl rfl ?_
                exact ih22 ((17 - (v15 + 1)).toNat) (by omega) (v15 + 1) (some (.int (Int32.ofInt ((17 * v1) + v15)))) o17 o18 o19 o20 g49 rfl (by omega) (by omega) (mz_nl_i _) h_o17 h_o18 h_o19 h_o20 hIg49 (fun k j hk => ((hug49.2 k j (fun h => hk h.1)).trans (hfg21 k j (fun h => hk h))))
              · skip
                refine mm_g 2 (pc1 := 55) (lo1 := [some (.ref 137), some (.int (Int32.ofInt a1)), some (.int (Int32.ofInt 17)), some (.int (Int32.ofInt v1)), some (.int (Int32.ofInt v15)), some (.int (Int32.ofInt ((17 * v1) + v15))), o17, o18, o19, o20]) (st1 := [.int (Int32.ofInt v15), .int (Int32.ofInt v1), .int (Int32.ofInt ((17 * v1) + v15)), .ref 159]) (H1 := mz_mk g21 x) rfl ?_
                refine mz_iadd rfl ?_
                refine mz_gt (tgt := 60) rfl rfl ?_
                refine mz_sI rfl (sh_159 _) (by omega) (by omega) (by decide) hIg21 (ba_159 _) (by omega) (by omega) (fun g50 hIg50 hug50 => ?_)
                refine mz_gt (tgt := 184) rfl rfl ?_
                refine mz_iincR (v := v15) (lo2 := [some (.ref 137), some (.int (Int32.ofInt a1)), some (.int (Int32.ofInt 17)), some (.int (Int32.ofInt v1)), some (.int (Int32.ofInt (v15 + 1))), some (.int (Int32.ofInt ((17 * v1) + v15))), o17, o18, o19, o20]) rfl rfl rfl (Nat.le_of_ble_eq_true rfl) rfl ?_
                refine mz_gt (tgt := 16) rfl rfl ?_
                exact ih22 ((17 - (v15 + 1)).toNat) (by omega) (v15 + 1) (some (.int (Int32.ofInt ((17 * v1) + v15)))) o17 o18 o19 o20 g50 rfl (by omega) (by omega) (mz_nl_i _) h_o17 h_o18 h_o19 h_o20 hIg50 (fun k j hk => ((hug50.2 k j (fun h => hk h.1)).trans (hfg21 k j (fun h => hk h))))
      exact L24 _ 0 o3 o4 o5 o6 o7 g8 rfl (by decide) (by decide) h_o3 h_o4 h_o5 h_o6 h_o7 hIg8 (fun _ _ _ => rfl)
  exact L11 _ 0 none none none none none none g rfl (by decide) (by decide) mz_nl_n mz_nl_n mz_nl_n mz_nl_n mz_nl_n mz_nl_n hI (fun _ _ _ => rfl)
theorem c_X12_isWithin {d : Nat} (hd : 1 ≤ d) {x : mm_X} (hx : mk_x x) {g : mz_G} (hI : mz_inv g) {Q : (Option Value ⊕ Nat) → mm_H → Prop} (hQ : ∀ (r : Int), 0 ≤ r → r ≤ 1 → Q (.inl (some (.int (Int32.ofInt r)))) (mz_mk g x)) : mm_C d 225 [.ref 137] (mz_mk g x) Q := by
  refine ⟨mmX12_isWithin, [some (.ref 137), none, none, none], rfl, rfl, ?_⟩
  refine mm_g 2 (pc1 := 2) (lo1 := [some (.ref 137), some (.int (Int32.ofInt 0)), none, none]) (st1 := []) (H1 := mz_mk g x) rfl ?_
  have L7 : ∀ n6 : Nat, ∀ (v1 : Int) (o2 : Option Value) (o3 : Option Value), (17 - v1).toNat = n6 → 0 ≤ v1 → v1 ≤ 17 → mz_nl o2 → mz_nl o3 → mm_W d mmX12_isWithin 2 [some (.ref 137), some (.int (Int32.ofInt v1)), o2, o3] [] (mz_mk g x) Q := by
    intro n6
    induction n6 using Nat.strongRecOn with
    | ind n6 ih5 =>
    intro v1 o2 o3 hmn6 l_v1 u_v1 h_o2 h_o3
    refine mm_g 2 (pc1 := 4) (lo1 := [some (.ref 137), some (.int (Int32.ofInt v1)), o2, o3]) (st1 := [.ref 137, .int (Int32.ofInt v1)]) (H1 := mz_mk g x) rfl ?_
    refine mz_gI rfl fd_12_326 (by decide) (sc_137 _) hI bd_137_37 (fun v8 e_v8 l_v8 u_v8 => ?_)
    refine mz_iadd rfl ?_
    refine mm_g 1 (pc1 := 9) (lo1 := [some (.ref 137), some (.int (Int32.ofInt v1)), o2, o3]) (st1 := [.ref 137, .int (Int32.ofInt (v1 + v8))]) (H1 := mz_mk g x) rfl ?_
    refine mz_gI rfl fd_12_323 (by decide) (sc_137 _) hI bd_137_36 (fun v9 e_v9 l_v9 u_v9 => ?_)
    refine mz_ic_gt (tgt := 72) rfl rfl ⟨by omega, by omega⟩ (mz_rg l_v9 u_v9) (fun c12_9 => ?_) (fun c12_9 => ?_)
    · skip
      refine mm_g 1 (pc1 := 73) (lo1 := [some (.ref 137), some (.int (Int32.ofInt v1)), o2, o3]) (st1 := [.int (Int32.ofInt 0)]) (H1 := mz_mk g x) rfl ?_
      exact mz_rtZ rfl (by decide) (by omega) (hQ _ (by decide) (by decide))
    · skip
      refine mm_g 4 (pc1 := 19) (lo1 := [some (.ref 137), some (.int (Int32.ofInt v1)), some (.int (Int32.ofInt 1)), some (.int (Int32.ofInt 0))]) (st1 := []) (H1 := mz_mk g x) rfl ?_
      have L15 : ∀ n14 : Nat, ∀ (v10 : Int) (v11 : Int), (16 - v11).toNat = n14 → 0 ≤ v10 → v10 ≤ 1 → 0 ≤ v11 → v11 ≤ 16 → mm_W d mmX12_isWithin 19 [some (.ref 137), some (.int (Int32.ofInt v1)), some (.int (Int32.ofInt v10)), some (.int (Int32.ofInt v11))] [] (mz_mk g x) Q := by
        intro n14
        induction n14 using Nat.strongRecOn with
        | ind n14 ih13 =>
        intro v10 v11 hmn14 l_v10 u_v10 l_v11 u_v11
        refine mm_g 2 (pc1 := 21) (lo1 := [some (.ref 137), some (.int (Int32.ofInt v1)), some (.int (Int32.ofInt v10)), some (.int (Int32.ofInt v11))]) (st1 := [.ref 137, .int (Int32.ofInt v11)]) (H1 := mz_mk g x) rfl ?_
        refine mz_fgI (v := v8) rfl fd_12_326 (by decide) (sc_137 _) e_v8 ?_
        refine mz_ic_ge (tgt := 60) rfl rfl (mz_rg l_v11 u_v11) (mz_rg l_v8 u_v8) (fun c24_15 => ?_) (fun c24_15 => ?_)
        · skip
          refine mm_g 1 (pc1 := 61) (lo1 := [some (.ref 137), some (.int (Int32.ofInt v1)), some (.int (Int32.ofInt v10)), some (.int (Int32.ofInt v11))]) (st1 := [.int (Int32.ofInt v10)]) (H1 := mz_mk g x) rfl ?_
          refine mz_if_eq (tgt := 66) rfl rfl (mz_rg l_v10 u_v10) (fun c61_15 => ?_) (fun c61_15 => ?_)
          · skip
            refine mz_iincR (v := v1) (lo2 := [some (.ref 137), some (.int (Int32.ofInt (v1 + 1))), some (.int (Int32.ofInt v10)), some (.int (Int32.ofInt v11))]) rfl rfl rfl (Nat.le_of_ble_eq_true rfl) rfl ?_
            refine mz_gt (tgt := 2) rfl rfl ?_
            exact ih5 ((17 - (v1 + 1)).toNat) (by omega) (v1 + 1) (some (.int (Int32.ofInt v10))) (some (.int (Int32.ofInt v11))) rfl (by omega) (by omega) (mz_nl_i _) (mz_nl_i _)
          · skip
            refine mm_g 1 (pc1 := 65) (lo1 := [some (.ref 137), some (.int (Int32.ofInt v1)), some (.int (Int32.ofInt v10)), some (.int (Int32.ofInt v11))]) (st1 := [.int (Int32.ofInt 1)]) (H1 := mz_mk g x) rfl ?_
            exact mz_rtZ rfl (by decide) (by omega) (hQ _ (by decide) (by decide))
        · skip
          refine mm_g 1 (pc1 := 28) (lo1 := [some (.ref 137), some (.int (Int32.ofInt v1)), some (.int (Int32.ofInt v10)), some (.int (Int32.ofInt v11))]) (st1 := [.int (Int32.ofInt v10)]) (H1 := mz_mk g x) rfl ?_
          refine mz_if_eq (tgt := 60) rfl rfl (mz_rg l_v10 u_v10) (fun c28_15 => ?_) (fun c28_15 => ?_)
          · skip
            refine mm_g 1 (pc1 := 61) (lo1 := [some (.ref 137), some (.int (Int32.ofInt v1)), some (.int (Int32.ofInt v10)), some (.int (Int32.ofInt v11))]) (st1 := [.int (Int32.ofInt v10)]) (H1 := mz_mk g x) rfl ?_
            refine mz_if_eq (tgt := 66) rfl rfl (mz_rg l_v10 u_v10) (fun c61_15 => ?_) (fun c61_15 => ?_)
            · skip
              refine mz_iincR (v := v1) (lo2 := [some (.ref 137), some (.int (Int32.ofInt (v1 + 1))), some (.int (Int32.ofInt v10)), some (.int (Int32.ofInt v11))]) rfl rfl rfl (Nat.le_of_ble_eq_true rfl) rfl ?_
              refine mz_gt (tgt := 2) rfl rfl ?_
              exact ih5 ((17 - (v1 + 1)).toNat) (by omega) (v1 + 1) (some (.int (Int32.ofInt v10))) (some (.int (Int32.ofInt v11))) rfl (by omega) (by omega) (mz_nl_i _) (mz_nl_i _)
            · exfalso; omega
          · skip
            refine mm_g 1 (pc1 := 32) (lo1 := [some (.ref 137), some (.int (Int32.ofInt v1)), some (.int (Int32.ofInt v10)), some (.int (Int32.ofInt v11))]) (st1 := [.ref 137]) (H1 := mz_mk g x) rfl ?_
            refine mz_fgR (v := 157) rfl fd_12_88 (by decide) (sc_137 _) (rf_137_33 _ _ _) ?_
            refine mm_g 2 (pc1 := 37) (lo1 := [some (.ref 137), some (.int (Int32.ofInt v1)), some (.int (Int32.ofInt v10)), some (.int (Int32.ofInt v11))]) (st1 := [.int (Int32.ofInt v11), .int (Int32.ofInt v1), .ref 157]) (H1 := mz_mk g x) rfl ?_
            refine mz_iadd rfl ?_
            refine mz_aI rfl (sh_157 _) (by omega) (by omega) (by decide) hI (ba_157 _) (fun v16 e_v16 l_v16 u_v16 => ?_)
            refine mm_g 1 (pc1 := 40) (lo1 := [some (.ref 137), some (.int (Int32.ofInt v1)), some (.int (Int32.ofInt v10)), some (.int (Int32.ofInt v11))]) (st1 := [.ref 137, .int (Int32.ofInt v16)]) (H1 := mz_mk g x) rfl ?_
            refine mz_fgR (v := 158) rfl fd_12_91 (by decide) (sc_137 _) (rf_137_34 _ _ _) ?_
            refine mm_g 1 (pc1 := 44) (lo1 := [some (.ref 137), some (.int (Int32.ofInt v1)), some (.int (Int32.ofInt v10)), some (.int (Int32.ofInt v11))]) (st1 := [.int (Int32.ofInt v11), .ref 158, .int (Int32.ofInt v16)]) (H1 := mz_mk g x) rfl ?_
            refine mz_aI rfl (sh_158 _) (by omega) (by omega) (by decide) hI (ba_158 _) (fun v17 e_v17 l_v17 u_v17 => ?_)
            refine mz_ic_ne (tgt := 52) rfl rfl (mz_rg l_v16 u_v16) (mz_rg l_v17 u_v17) (fun c45_17 => ?_) (fun c45_17 => ?_)
            · skip
              refine mm_g 2 (pc1 := 54) (lo1 := [some (.ref 137), some (.int (Int32.ofInt v1)), some (.int (Int32.ofInt 0)), some (.int (Int32.ofInt v11))]) (st1 := []) (H1 := mz_mk g x) rfl ?_
              refine mz_iincR (v := v11) (lo2 := [some (.ref 137), some (.int (Int32.ofInt v1)), some (.int (Int32.ofInt 0)), some (.int (Int32.ofInt (v11 + 1)))]) rfl rfl rfl (Nat.le_of_ble_eq_true rfl) rfl ?_
              refine mz_gt (tgt := 19) rfl rfl ?_
              exact ih13 ((16 - (v11 + 1)).toNat) (by omega) 0 (v11 + 1) rfl (by decide) (by decide) (by omega) (by omega)
            · skip
              refine mm_g 1 (pc1 := 49) (lo1 := [some (.ref 137), some (.int (Int32.ofInt v1)), some (.int (Int32.ofInt v10)), some (.int (Int32.ofInt v11))]) (st1 := [.int (Int32.ofInt 1)]) (H1 := mz_mk g x) rfl ?_
              refine mz_gt (tgt := 53) rfl rfl ?_
              refine mm_g 1 (pc1 := 54) (lo1 := [some (.ref 137), some (.int (Int32.ofInt v1)), some (.int (Int32.ofInt 1)), some (.int (Int32.ofInt v11))]) (st1 := []) (H1 := mz_mk g x) rfl ?_
              refine mz_iincR (v := v11) (lo2 := [some (.ref 137), some (.int (Int32.ofInt v1)), some (.int (Int32.ofInt 1)), some (.int (Int32.ofInt (v11 + 1)))]) rfl rfl rfl (Nat.le_of_ble_eq_true rfl) rfl ?_
              refine mz_gt (tgt := 19) rfl rfl ?_
              exact ih13 ((16 - (v11 + 1)).toNat) (by omega) 1 (v11 + 1) rfl (by decide) (by decide) (by omega) (by omega)
      exact L15 _ 1 0 rfl (by decide) (by decide) (by decide) (by decide)
  exact L7 _ 0 none none rfl (by decide) (by decide) mz_nl_n mz_nl_n
theorem c_X12_areSame {d : Nat} (hd : 2 ≤ d) {x : mm_X} (hx : mk_x x) {g : mz_G} (hI : mz_inv g) {Q : (Option Value ⊕ Nat) → mm_H → Prop} (hQ : ∀ (r : Int), 0 ≤ r → r ≤ 1 → Q (.inl (some (.int (Int32.ofInt r)))) (mz_mk g x)) : mm_C d 226 [.ref 137] (mz_mk g x) Q := by
  refine ⟨mmX12_areSame, [some (.ref 137)], rfl, rfl, ?_⟩
  refine mm_g 1 (pc1 := 1) (lo1 := [some (.ref 137)]) (st1 := [.ref 137]) (H1 := mz_mk g x) rfl ?_
  refine mz_gI rfl fd_12_323 (by decide) (sc_137 _) hI bd_137_36 (fun v1 e_v1 l_v1 u_v1 => ?_)
  refine mm_g 1 (pc1 := 5) (lo1 := [some (.ref 137)]) (st1 := [.ref 137, .int (Int32.ofInt v1)]) (H1 := mz_mk g x) rfl ?_
  refine mz_gI rfl fd_12_326 (by decide) (sc_137 _) hI bd_137_37 (fun v2 e_v2 l_v2 u_v2 => ?_)
  refine mz_ic_ne (tgt := 22) rfl rfl (mz_rg l_v1 u_v1) (mz_rg l_v2 u_v2) (fun c8_2 => ?_) (fun c8_2 => ?_)
  · skip
    refine mm_g 1 (pc1 := 23) (lo1 := [some (.ref 137)]) (st1 := [.int (Int32.ofInt 0)]) (H1 := mz_mk g x) rfl ?_
    exact mz_rtZ rfl (by decide) (by omega) (hQ _ (by decide) (by decide))
  · skip
    refine mm_g 1 (pc1 := 12) (lo1 := [some (.ref 137)]) (st1 := [.ref 137]) (H1 := mz_mk g x) rfl ?_
    refine mz_cv rfl mt_12_332 (by decide) (sc_137 _) rfl (Nat.le_of_ble_eq_true rfl) (by omega) (c_X12_isWithin (by omega) hx hI (fun v3 l_v3 u_v3 => ⟨_, rfl, ?_⟩))
    show mm_W d mmX12_areSame 15 [some (.ref 137)] [.int (Int32.ofInt v3)] (mz_mk g x) Q
    refine mz_if_eq (tgt := 22) rfl rfl (mz_rg l_v3 u_v3) (fun c15_3 => ?_) (fun c15_3 => ?_)
    · skip
      refine mm_g 1 (pc1 := 23) (lo1 := [some (.ref 137)]) (st1 := [.int (Int32.ofInt 0)]) (H1 := mz_mk g x) rfl ?_
      exact mz_rtZ rfl (by decide) (by omega) (hQ _ (by decide) (by decide))
    · skip
      refine mm_g 1 (pc1 := 19) (lo1 := [some (.ref 137)]) (st1 := [.int (Int32.ofInt 1)]) (H1 := mz_mk g x) rfl ?_
      refine mz_gt (tgt := 23) rfl rfl ?_
      exact mz_rtZ rfl (by decide) (by omega) (hQ _ (by decide) (by decide))
def fl_X12_withinOf_17 (x : mm_X) (a1 : Int) : Nat → Nat → Prop := fun k j => k = 157 ∨ (k = 137 ∧ j = 36)
def fw_X12_withinOf (x : mm_X) (a1 : Int) : Nat → Nat → Prop := fun k j => k = 158 ∨ (k = 137 ∧ j = 37) ∨ k = 157 ∨ (k = 137 ∧ j = 36)
theorem c_X12_withinOf {d : Nat} (hd : 3 ≤ d) {x : mm_X} (hx : mk_x x) {g : mz_G} (hI : mz_inv g) {a1 : Int} (l_a1 : 0 ≤ a1) (u_a1 : a1 ≤ 7) {Q : (Option Value ⊕ Nat) → mm_H → Prop} (hQ : ∀ (r : Int) (g1 : mz_G), mz_inv g1 → mz_fr (fw_X12_withinOf x a1) g g1 → (-2147483648) ≤ r → r ≤ 2147483647 → Q (.inl (some (.int (Int32.ofInt r)))) (mz_mk g1 x)) : mm_C d 227 [.ref 137, .int (Int32.ofInt a1)] (mz_mk g x) Q := by
  refine ⟨mmX12_withinOf, [some (.ref 137), some (.int (Int32.ofInt a1)), none, none], rfl, rfl, ?_⟩
  refine mm_g 5 (pc1 := 5) (lo1 := [some (.ref 137), some (.int (Int32.ofInt a1)), some (.int (Int32.ofInt 0)), none]) (st1 := [.ref 137, .ref 137, .ref 137]) (H1 := mz_mk g x) rfl ?_
  refine mz_fgR (v := 158) rfl fd_12_91 (by decide) (sc_137 _) (rf_137_34 _ _ _) ?_
  refine mm_g 1 (pc1 := 9) (lo1 := [some (.ref 137), some (.int (Int32.ofInt a1)), some (.int (Int32.ofInt 0)), none]) (st1 := [.int (Int32.ofInt a1), .ref 158, .ref 137, .ref 137]) (H1 := mz_mk g x) rfl ?_
  refine mz_cv rfl mt_12_336 (by decide) (sc_137 _) rfl (Nat.le_of_ble_eq_true rfl) (by omega) (c_X12_wordInto (by omega) hx hI (sh_158 _) (by decide) ba_158 l_a1 u_a1 (by omega) (fun v1 g2 hIg2 hfg2 l_v1 u_v1 => ⟨_, rfl, ?_⟩))
  show mm_W d mmX12_withinOf 12 [some (.ref 137), some (.int (Int32.ofInt a1)), some (.int (Int32.ofInt 0)), none] [.int (Int32.ofInt v1), .ref 137] (mz_mk g2 x) Q
  refine mz_pI rfl fd_12_326 (sc_137 _) hIg2 bd_137_37 (by omega) (by omega) (fun g3 hIg3 hug3 => ?_)
  refine mm_g 2 (pc1 := 17) (lo1 := [some (.ref 137), some (.int (Int32.ofInt a1)), some (.int (Int32.ofInt 0)), some (.int (Int32.ofInt 0))]) (st1 := []) (H1 := mz_mk g3 x) rfl ?_
  have L9 : ∀ n8 : Nat, ∀ (v4 : Int) (v5 : Int) (g6 : mz_G), (8 - v5).toNat = n8 → (-2147483648) ≤ v4 → v4 ≤ 2147483647 → 0 ≤ v5 → v5 ≤ 8 → mz_inv g6 → mz_fr (fl_X12_withinOf_17 x a1) g3 g6 → mm_W d mmX12_withinOf 17 [some (.ref 137), some (.int (Int32.ofInt a1)), some (.int (Int32.ofInt v4)), some (.int (Int32.ofInt v5))] [] (mz_mk g6 x) Q := by
    intro n8
    induction n8 using Nat.strongRecOn with
    | ind n8 ih7 =>
    intro v4 v5 g6 hmn8 l_v4 u_v4 l_v5 u_v5 hIg6 hfg6
    refine mm_g 2 (pc1 := 19) (lo1 := [some (.ref 137), some (.int (Int32.ofInt a1)), some (.int (Int32.ofInt v4)), some (.int (Int32.ofInt v5))]) (st1 := [.ref 137, .int (Int32.ofInt v5)]) (H1 := mz_mk g6 x) rfl ?_
    refine mz_fgR (v := 140) rfl fd_12_36 (by decide) (sc_137 _) (rf_137_3 _ _ _) ?_
    refine mm_g 1 (pc1 := 23) (lo1 := [some (.ref 137), some (.int (Int32.ofInt a1)), some (.int (Int32.ofInt v4)), some (.int (Int32.ofInt v5))]) (st1 := [.int (Int32.ofInt 0), .ref 140, .int (Int32.ofInt v5)]) (H1 := mz_mk g6 x) rfl ?_
    refine mz_aI rfl (sh_140 _) (by omega) (by omega) (by decide) hIg6 bt_140_0 (fun v10 e_v10 l_v10 u_v10 => ?_)
    have e_v10 : g6 140 0 = v10 := e_v10
    refine mz_ic_ge (tgt := 63) rfl rfl (mz_rg l_v5 u_v5) (mz_rg l_v10 u_v10) (fun c24_10 => ?_) (fun c24_10 => ?_)
    · skip
      refine mm_g 1 (pc1 := 64) (lo1 := [some (.ref 137), some (.int (Int32.ofInt a1)), some (.int (Int32.ofInt v4)), some (.int (Int32.ofInt v5))]) (st1 := [.int (Int32.ofInt v4)]) (H1 := mz_mk g6 x) rfl ?_
      exact mm_rt rfl rfl (hQ _ _ hIg6 (fun k j hk => ((hfg6 k j (fun h => hk (Or.elim h (fun h => (Or.inr (Or.inr (Or.inl h)))) (fun h => (Or.inr (Or.inr (Or.inr h))))))).trans ((hug3.2 k j (fun h => hk (Or.inr (Or.inl h)))).trans (hfg2 k j (fun h => hk (Or.inl h)))))) (by omega) (by omega))
    · skip
      refine mm_g 3 (pc1 := 30) (lo1 := [some (.ref 137), some (.int (Int32.ofInt a1)), some (.int (Int32.ofInt v4)), some (.int (Int32.ofInt v5))]) (st1 := [.ref 137, .ref 137, .ref 137]) (H1 := mz_mk g6 x) rfl ?_
      refine mz_fgR (v := 157) rfl fd_12_88 (by decide) (sc_137 _) (rf_137_33 _ _ _) ?_
      refine mm_g 1 (pc1 := 34) (lo1 := [some (.ref 137), some (.int (Int32.ofInt a1)), some (.int (Int32.ofInt v4)), some (.int (Int32.ofInt v5))]) (st1 := [.int (Int32.ofInt v5), .ref 157, .ref 137, .ref 137]) (H1 := mz_mk g6 x) rfl ?_
      refine mz_cv rfl mt_12_336 (by decide) (sc_137 _) rfl (Nat.le_of_ble_eq_true rfl) (by omega) (c_X12_wordInto (by omega) hx hIg6 (sh_157 _) (by decide) ba_157 (by omega) (by omega) (by omega) (fun v11 g12 hIg12 hfg12 l_v11 u_v11 => ⟨_, rfl, ?_⟩))
      show mm_W d mmX12_withinOf 37 [some (.ref 137), some (.int (Int32.ofInt a1)), some (.int (Int32.ofInt v4)), some (.int (Int32.ofInt v5))] [.int (Int32.ofInt v11), .ref 137] (mz_mk g12 x) Q
      refine mz_pI rfl fd_12_323 (sc_137 _) hIg12 bd_137_36 (by omega) (by omega) (fun g13 hIg13 hug13 => ?_)
      refine mm_g 2 (pc1 := 42) (lo1 := [some (.ref 137), some (.int (Int32.ofInt a1)), some (.int (Int32.ofInt v4)), some (.int (Int32.ofInt v5))]) (st1 := [.ref 137, .int (Int32.ofInt v4)]) (H1 := mz_mk g13 x) rfl ?_
      refine mz_cv rfl mt_12_332 (by decide) (sc_137 _) rfl (Nat.le_of_ble_eq_true rfl) (by omega) (c_X12_isWithin (by omega) hx hIg13 (fun v14 l_v14 u_v14 => ⟨_, rfl, ?_⟩))
      show mm_W d mmX12_withinOf 45 [some (.ref 137), some (.int (Int32.ofInt a1)), some (.int (Int32.ofInt v4)), some (.int (Int32.ofInt v5))] [.int (Int32.ofInt v14), .int (Int32.ofInt v4)] (mz_mk g13 x) Q
      refine mz_if_eq (tgt := 54) rfl rfl (mz_rg l_v14 u_v14) (fun c45_14 => ?_) (fun c45_14 => ?_)
      · skip
        refine mm_g 1 (pc1 := 55) (lo1 := [some (.ref 137), some (.int (Int32.ofInt a1)), some (.int (Int32.ofInt v4)), some (.int (Int32.ofInt v5))]) (st1 := [.int (Int32.ofInt 0), .int (Int32.ofInt v4)]) (H1 := mz_mk g13 x) rfl ?_
        refine mz_ior rfl (fun v15 e_v15 hwv15 => ?_)
        have l_v15 := hwv15.1
        have u_v15 := hwv15.2
        refine mm_g 1 (pc1 := 57) (lo1 := [some (.ref 137), some (.int (Int32.ofInt a1)), some (.int (Int32.ofInt v15)), some (.int (Int32.ofInt v5))]) (st1 := []) (H1 := mz_mk g13 x) rfl ?_
        refine mz_iincR (v := v5) (lo2 := [some (.ref 137), some (.int (Int32.ofInt a1)), some (.int (Int32.ofInt v15)), some (.int (Int32.ofInt (v5 + 1)))]) rfl rfl rfl (Nat.le_of_ble_eq_true rfl) rfl ?_
        refine mz_gt (tgt := 17) rfl rfl ?_
        exact ih7 ((8 - (v5 + 1)).toNat) (by omega) v15 (v5 + 1) g13 rfl (by omega) (by omega) (by omega) (by omega) hIg13 (fun k j hk => ((hug13.2 k j (fun h => hk (Or.inr h))).trans ((hfg12 k j (fun h => hk (Or.inl h))).trans (hfg6 k j (fun h => hk (Or.elim h (fun h => (Or.inl h)) (fun h => (Or.inr h))))))))
      · skip
        refine mm_g 2 (pc1 := 50) (lo1 := [some (.ref 137), some (.int (Int32.ofInt a1)), some (.int (Int32.ofInt v4)), some (.int (Int32.ofInt v5))]) (st1 := [.int (Int32.ofInt v5), .int (Int32.ofInt 1), .int (Int32.ofInt v4)]) (H1 := mz_mk g13 x) rfl ?_
        refine mz_ishl rfl (fun v16 e_v16 hwv16 => ?_)
        have b_v16 : 1 ≤ v16 ∧ v16 ≤ 128 := by rw [e_v16]; exact mz_shl_b (lx := 1) (hx := 1) (k := 7) (by decide) (by decide) (by omega) (by omega) (by omega) (by omega)
        have l_v16 := b_v16.1
        have u_v16 := b_v16.2
        refine mz_gt (tgt := 55) rfl rfl ?_
        refine mz_ior rfl (fun v17 e_v17 hwv17 => ?_)
        have l_v17 := hwv17.1
        have u_v17 := hwv17.2
        refine mm_g 1 (pc1 := 57) (lo1 := [some (.ref 137), some (.int (Int32.ofInt a1)), some (.int (Int32.ofInt v17)), some (.int (Int32.ofInt v5))]) (st1 := []) (H1 := mz_mk g13 x) rfl ?_
        refine mz_iincR (v := v5) (lo2 := [some (.ref 137), some (.int (Int32.ofInt a1)), some (.int (Int32.ofInt v17)), some (.int (Int32.ofInt (v5 + 1)))]) rfl rfl rfl (Nat.le_of_ble_eq_true rfl) rfl ?_
        refine mz_gt (tgt := 17) rfl rfl ?_
        exact ih7 ((8 - (v5 + 1)).toNat) (by omega) v17 (v5 + 1) g13 rfl (by omega) (by omega) (by omega) (by omega) hIg13 (fun k j hk => ((hug13.2 k j (fun h => hk (Or.inr h))).trans ((hfg12 k j (fun h => hk (Or.inl h))).trans (hfg6 k j (fun h => hk (Or.elim h (fun h => (Or.inl h)) (fun h => (Or.inr h))))))))
  exact L9 _ 0 0 g3 rfl (by decide) (by decide) (by decide) (by decide) hIg3 (fun _ _ _ => rfl)
theorem c_X12_manyOf {d : Nat} (hd : 2 ≤ d) {x : mm_X} (hx : mk_x x) {g : mz_G} (hI : mz_inv g) {a1 : Int} (l_a1 : 0 ≤ a1) (u_a1 : a1 ≤ 7) {a2 : Int} (l_a2 : (-2147483648) ≤ a2) (u_a2 : a2 ≤ 2147483647) {Q : (Option Value ⊕ Nat) → mm_H → Prop} (hQ : ∀ (r : Int), (-2147483648) ≤ r → r ≤ 2147483647 → Q (.inl (some (.int (Int32.ofInt r)))) (mz_mk g x)) : mm_C d 228 [.ref 137, .int (Int32.ofInt a1), .int (Int32.ofInt a2)] (mz_mk g x) Q := by
  refine ⟨mmX12_manyOf, [some (.ref 137), some (.int (Int32.ofInt a1)), some (.int (Int32.ofInt a2)), none, none], rfl, rfl, ?_⟩
  refine mm_g 4 (pc1 := 5) (lo1 := [some (.ref 137), some (.int (Int32.ofInt a1)), some (.int (Int32.ofInt a2)), some (.int (Int32.ofInt 0)), some (.int (Int32.ofInt 0))]) (st1 := []) (H1 := mz_mk g x) rfl ?_
  have L6 : ∀ n5 : Nat, ∀ (v1 : Int) (v2 : Int), (8 - v2).toNat = n5 → (-2147483648) ≤ v1 → v1 ≤ 2147483647 → 0 ≤ v2 → v2 ≤ 8 → mm_W d mmX12_manyOf 5 [some (.ref 137), some (.int (Int32.ofInt a1)), some (.int (Int32.ofInt a2)), some (.int (Int32.ofInt v1)), some (.int (Int32.ofInt v2))] [] (mz_mk g x) Q := by
    intro n5
    induction n5 using Nat.strongRecOn with
    | ind n5 ih4 =>
    intro v1 v2 hmn5 l_v1 u_v1 l_v2 u_v2
    refine mm_g 2 (pc1 := 8) (lo1 := [some (.ref 137), some (.int (Int32.ofInt a1)), some (.int (Int32.ofInt a2)), some (.int (Int32.ofInt v1)), some (.int (Int32.ofInt v2))]) (st1 := [.ref 137, .int (Int32.ofInt v2)]) (H1 := mz_mk g x) rfl ?_
    refine mz_fgR (v := 142) rfl fd_12_43 (by decide) (sc_137 _) (rf_137_5 _ _ _) ?_
    refine mm_g 1 (pc1 := 12) (lo1 := [some (.ref 137), some (.int (Int32.ofInt a1)), some (.int (Int32.ofInt a2)), some (.int (Int32.ofInt v1)), some (.int (Int32.ofInt v2))]) (st1 := [.int (Int32.ofInt a1), .ref 142, .int (Int32.ofInt v2)]) (H1 := mz_mk g x) rfl ?_
    refine mz_aI rfl (sh_142 _) (by omega) (by omega) (by decide) hI (ba_142 _) (fun v7 e_v7 l_v7 u_v7 => ?_)
    refine mz_ic_ge (tgt := 41) rfl rfl (mz_rg l_v2 u_v2) (mz_rg l_v7 u_v7) (fun c13_7 => ?_) (fun c13_7 => ?_)
    · skip
      refine mm_g 1 (pc1 := 42) (lo1 := [some (.ref 137), some (.int (Int32.ofInt a1)), some (.int (Int32.ofInt a2)), some (.int (Int32.ofInt v1)), some (.int (Int32.ofInt v2))]) (st1 := [.int (Int32.ofInt v1)]) (H1 := mz_mk g x) rfl ?_
      exact mm_rt rfl rfl (hQ _ (by omega) (by omega))
    · skip
      refine mm_g 4 (pc1 := 21) (lo1 := [some (.ref 137), some (.int (Int32.ofInt a1)), some (.int (Int32.ofInt a2)), some (.int (Int32.ofInt v1)), some (.int (Int32.ofInt v2))]) (st1 := [.int (Int32.ofInt v2), .int (Int32.ofInt a1), .ref 137, .int (Int32.ofInt v1)]) (H1 := mz_mk g x) rfl ?_
      refine mz_cv rfl mt_12_320 (by decide) (sc_137 _) rfl (Nat.le_of_ble_eq_true rfl) (by omega) (c_X12_letterOf (by omega) hx hI l_a1 u_a1 (by omega) (by omega) (fun v8 l_v8 u_v8 hp9 => ⟨_, rfl, ?_⟩))
      show mm_W d mmX12_manyOf 24 [some (.ref 137), some (.int (Int32.ofInt a1)), some (.int (Int32.ofInt a2)), some (.int (Int32.ofInt v1)), some (.int (Int32.ofInt v2))] [.int (Int32.ofInt v8), .int (Int32.ofInt v1)] (mz_mk g x) Q
      refine mm_g 1 (pc1 := 25) (lo1 := [some (.ref 137), some (.int (Int32.ofInt a1)), some (.int (Int32.ofInt a2)), some (.int (Int32.ofInt v1)), some (.int (Int32.ofInt v2))]) (st1 := [.int (Int32.ofInt a2), .int (Int32.ofInt v8), .int (Int32.ofInt v1)]) (H1 := mz_mk g x) rfl ?_
      refine mz_ic_ne (tgt := 32) rfl rfl (mz_rg l_v8 u_v8) (mz_rg l_a2 u_a2) (fun c25_9 => ?_) (fun c25_9 => ?_)
      · skip
        refine mm_g 1 (pc1 := 33) (lo1 := [some (.ref 137), some (.int (Int32.ofInt a1)), some (.int (Int32.ofInt a2)), some (.int (Int32.ofInt v1)), some (.int (Int32.ofInt v2))]) (st1 := [.int (Int32.ofInt 0), .int (Int32.ofInt v1)]) (H1 := mz_mk g x) rfl ?_
        refine mz_iadd rfl ?_
        refine mm_g 1 (pc1 := 35) (lo1 := [some (.ref 137), some (.int (Int32.ofInt a1)), some (.int (Int32.ofInt a2)), some (.int (Int32.ofInt (v1 + 0))), some (.int (Int32.ofInt v2))]) (st1 := []) (H1 := mz_mk g x) rfl ?_
        refine mz_iincR (v := v2) (lo2 := [some (.ref 137), some (.int (Int32.ofInt a1)), some (.int (Int32.ofInt a2)), some (.int (Int32.ofInt (v1 + 0))), some (.int (Int32.ofInt (v2 + 1)))]) rfl rfl rfl (Nat.le_of_ble_eq_true rfl) rfl ?_
        refine mz_gt (tgt := 5) rfl rfl ?_
        exact ih4 ((8 - (v2 + 1)).toNat) (by omega) (v1 + 0) (v2 + 1) rfl (by omega) (by omega) (by omega) (by omega)
      · skip
        refine mm_g 1 (pc1 := 29) (lo1 := [some (.ref 137), some (.int (Int32.ofInt a1)), some (.int (Int32.ofInt a2)), some (.int (Int32.ofInt v1)), some (.int (Int32.ofInt v2))]) (st1 := [.int (Int32.ofInt 1), .int (Int32.ofInt v1)]) (H1 := mz_mk g x) rfl ?_
        refine mz_gt (tgt := 33) rfl rfl ?_
        refine mz_iadd_w rfl (fun v10 _ hwv10 => ?_)
        have l_v10 := hwv10.1
        have u_v10 := hwv10.2
        refine mm_g 1 (pc1 := 35) (lo1 := [some (.ref 137), some (.int (Int32.ofInt a1)), some (.int (Int32.ofInt a2)), some (.int (Int32.ofInt v10)), some (.int (Int32.ofInt v2))]) (st1 := []) (H1 := mz_mk g x) rfl ?_
        refine mz_iincR (v := v2) (lo2 := [some (.ref 137), some (.int (Int32.ofInt a1)), some (.int (Int32.ofInt a2)), some (.int (Int32.ofInt v10)), some (.int (Int32.ofInt (v2 + 1)))]) rfl rfl rfl (Nat.le_of_ble_eq_true rfl) rfl ?_
        refine mz_gt (tgt := 5) rfl rfl ?_
        exact ih4 ((8 - (v2 + 1)).toNat) (by omega) v10 (v2 + 1) rfl (by omega) (by omega) (by omega) (by omega)
  exact L6 _ 0 0 rfl (by decide) (by decide) (by decide) (by decide)
theorem c_X12_anagramsOf {d : Nat} (hd : 3 ≤ d) {x : mm_X} (hx : mk_x x) {g : mz_G} (hI : mz_inv g) {a1 : Int} (l_a1 : 0 ≤ a1) (u_a1 : a1 ≤ 7) {Q : (Option Value ⊕ Nat) → mm_H → Prop} (hQ : ∀ (r : Int), (-2147483648) ≤ r → r ≤ 2147483647 → Q (.inl (some (.int (Int32.ofInt r)))) (mz_mk g x)) : mm_C d 229 [.ref 137, .int (Int32.ofInt a1)] (mz_mk g x) Q := by
  refine ⟨mmX12_anagramsOf, [some (.ref 137), some (.int (Int32.ofInt a1)), none, none, none, none], rfl, rfl, ?_⟩
  refine mm_g 4 (pc1 := 4) (lo1 := [some (.ref 137), some (.int (Int32.ofInt a1)), some (.int (Int32.ofInt 0)), some (.int (Int32.ofInt 0)), none, none]) (st1 := []) (H1 := mz_mk g x) rfl ?_
  have L8 : ∀ n7 : Nat, ∀ (v1 : Int) (v2 : Int) (o3 : Option Value) (o4 : Option Value), (8 - v2).toNat = n7 → (-2147483648) ≤ v1 → v1 ≤ 2147483647 → 0 ≤ v2 → v2 ≤ 8 → mz_nl o3 → mz_nl o4 → mm_W d mmX12_anagramsOf 4 [some (.ref 137), some (.int (Int32.ofInt a1)), some (.int (Int32.ofInt v1)), some (.int (Int32.ofInt v2)), o3, o4] [] (mz_mk g x) Q := by
    intro n7
    induction n7 using Nat.strongRecOn with
    | ind n7 ih6 =>
    intro v1 v2 o3 o4 hmn7 l_v1 u_v1 l_v2 u_v2 h_o3 h_o4
    refine mm_g 2 (pc1 := 6) (lo1 := [some (.ref 137), some (.int (Int32.ofInt a1)), some (.int (Int32.ofInt v1)), some (.int (Int32.ofInt v2)), o3, o4]) (st1 := [.ref 137, .int (Int32.ofInt v2)]) (H1 := mz_mk g x) rfl ?_
    refine mz_fgR (v := 140) rfl fd_12_36 (by decide) (sc_137 _) (rf_137_3 _ _ _) ?_
    refine mm_g 1 (pc1 := 10) (lo1 := [some (.ref 137), some (.int (Int32.ofInt a1)), some (.int (Int32.ofInt v1)), some (.int (Int32.ofInt v2)), o3, o4]) (st1 := [.int (Int32.ofInt 0), .ref 140, .int (Int32.ofInt v2)]) (H1 := mz_mk g x) rfl ?_
    refine mz_aI rfl (sh_140 _) (by omega) (by omega) (by decide) hI bt_140_0 (fun v9 e_v9 l_v9 u_v9 => ?_)
    have e_v9 : g 140 0 = v9 := e_v9
    refine mz_ic_ge (tgt := 83) rfl rfl (mz_rg l_v2 u_v2) (mz_rg l_v9 u_v9) (fun c11_9 => ?_) (fun c11_9 => ?_)
    · skip
      refine mm_g 1 (pc1 := 84) (lo1 := [some (.ref 137), some (.int (Int32.ofInt a1)), some (.int (Int32.ofInt v1)), some (.int (Int32.ofInt v2)), o3, o4]) (st1 := [.int (Int32.ofInt v1)]) (H1 := mz_mk g x) rfl ?_
      exact mm_rt rfl rfl (hQ _ (by omega) (by omega))
    · skip
      refine mm_g 4 (pc1 := 20) (lo1 := [some (.ref 137), some (.int (Int32.ofInt a1)), some (.int (Int32.ofInt v1)), some (.int (Int32.ofInt v2)), some (.int (Int32.ofInt 1)), some (.int (Int32.ofInt 1))]) (st1 := []) (H1 := mz_mk g x) rfl ?_
      have L15 : ∀ n14 : Nat, ∀ (v10 : Int) (v11 : Int), (27 - v11).toNat = n14 → 0 ≤ v10 → v10 ≤ 1 → 1 ≤ v11 → v11 ≤ 27 → mm_W d mmX12_anagramsOf 20 [some (.ref 137), some (.int (Int32.ofInt a1)), some (.int (Int32.ofInt v1)), some (.int (Int32.ofInt v2)), some (.int (Int32.ofInt v10)), some (.int (Int32.ofInt v11))] [] (mz_mk g x) Q := by
        intro n14
        induction n14 using Nat.strongRecOn with
        | ind n14 ih13 =>
        intro v10 v11 hmn14 l_v10 u_v10 l_v11 u_v11
        refine mm_g 1 (pc1 := 22) (lo1 := [some (.ref 137), some (.int (Int32.ofInt a1)), some (.int (Int32.ofInt v1)), some (.int (Int32.ofInt v2)), some (.int (Int32.ofInt v10)), some (.int (Int32.ofInt v11))]) (st1 := [.int (Int32.ofInt v11)]) (H1 := mz_mk g x) rfl ?_
        refine mz_bip rfl bip_26 ?_
        refine mz_ic_gt (tgt := 62) rfl rfl (mz_rg l_v11 u_v11) ⟨by decide, by decide⟩ (fun c24_15 => ?_) (fun c24_15 => ?_)
        · skip
          refine mm_g 2 (pc1 := 65) (lo1 := [some (.ref 137), some (.int (Int32.ofInt a1)), some (.int (Int32.ofInt v1)), some (.int (Int32.ofInt v2)), some (.int (Int32.ofInt v10)), some (.int (Int32.ofInt v11))]) (st1 := [.int (Int32.ofInt v10), .int (Int32.ofInt v1)]) (H1 := mz_mk g x) rfl ?_
          refine mz_if_eq (tgt := 74) rfl rfl (mz_rg l_v10 u_v10) (fun c65_15 => ?_) (fun c65_15 => ?_)
          · skip
            refine mm_g 1 (pc1 := 75) (lo1 := [some (.ref 137), some (.int (Int32.ofInt a1)), some (.int (Int32.ofInt v1)), some (.int (Int32.ofInt v2)), some (.int (Int32.ofInt v10)), some (.int (Int32.ofInt v11))]) (st1 := [.int (Int32.ofInt 0), .int (Int32.ofInt v1)]) (H1 := mz_mk g x) rfl ?_
            refine mz_ior rfl (fun v16 e_v16 hwv16 => ?_)
            have l_v16 := hwv16.1
            have u_v16 := hwv16.2
            refine mm_g 1 (pc1 := 77) (lo1 := [some (.ref 137), some (.int (Int32.ofInt a1)), some (.int (Int32.ofInt v16)), some (.int (Int32.ofInt v2)), some (.int (Int32.ofInt v10)), some (.int (Int32.ofInt v11))]) (st1 := []) (H1 := mz_mk g x) rfl ?_
            refine mz_iincR (v := v2) (lo2 := [some (.ref 137), some (.int (Int32.ofInt a1)), some (.int (Int32.ofInt v16)), some (.int (Int32.ofInt (v2 + 1))), some (.int (Int32.ofInt v10)), some (.int (Int32.ofInt v11))]) rfl rfl rfl (Nat.le_of_ble_eq_true rfl) rfl ?_
            refine mz_gt (tgt := 4) rfl rfl ?_
            exact ih6 ((8 - (v2 + 1)).toNat) (by omega) v16 (v2 + 1) (some (.int (Int32.ofInt v10))) (some (.int (Int32.ofInt v11))) rfl (by omega) (by omega) (by omega) (by omega) (mz_nl_i _) (mz_nl_i _)
          · skip
            refine mm_g 2 (pc1 := 70) (lo1 := [some (.ref 137), some (.int (Int32.ofInt a1)), some (.int (Int32.ofInt v1)), some (.int (Int32.ofInt v2)), some (.int (Int32.ofInt v10)), some (.int (Int32.ofInt v11))]) (st1 := [.int (Int32.ofInt v2), .int (Int32.ofInt 1), .int (Int32.ofInt v1)]) (H1 := mz_mk g x) rfl ?_
            refine mz_ishl rfl (fun v17 e_v17 hwv17 => ?_)
            have b_v17 : 1 ≤ v17 ∧ v17 ≤ 128 := by rw [e_v17]; exact mz_shl_b (lx := 1) (hx := 1) (k := 7) (by decide) (by decide) (by omega) (by omega) (by omega) (by omega)
            have l_v17 := b_v17.1
            have u_v17 := b_v17.2
            refine mz_gt (tgt := 75) rfl rfl ?_
            refine mz_ior rfl (fun v18 e_v18 hwv18 => ?_)
            have l_v18 := hwv18.1
            have u_v18 := hwv18.2
            refine mm_g 1 (pc1 := 77) (lo1 := [some (.ref 137), some (.int (Int32.ofInt a1)), some (.int (Int32.ofInt v18)), some (.int (Int32.ofInt v2)), some (.int (Int32.ofInt v10)), some (.int (Int32.ofInt v11))]) (st1 := []) (H1 := mz_mk g x) rfl ?_
            refine mz_iincR (v := v2) (lo2 := [some (.ref 137), some (.int (Int32.ofInt a1)), some (.int (Int32.ofInt v18)), some (.int (Int32.ofInt (v2 + 1))), some (.int (Int32.ofInt v10)), some (.int (Int32.ofInt v11))]) rfl rfl rfl (Nat.le_of_ble_eq_true rfl) rfl ?_
            refine mz_gt (tgt := 4) rfl rfl ?_
            exact ih6 ((8 - (v2 + 1)).toNat) (by omega) v18 (v2 + 1) (some (.int (Int32.ofInt v10))) (some (.int (Int32.ofInt v11))) rfl (by omega) (by omega) (by omega) (by omega) (mz_nl_i _) (mz_nl_i _)
        · skip
          refine mm_g 1 (pc1 := 29) (lo1 := [some (.ref 137), some (.int (Int32.ofInt a1)), some (.int (Int32.ofInt v1)), some (.int (Int32.ofInt v2)), some (.int (Int32.ofInt v10)), some (.int (Int32.ofInt v11))]) (st1 := [.int (Int32.ofInt v10)]) (H1 := mz_mk g x) rfl ?_
          refine mz_if_eq (tgt := 62) rfl rfl (mz_rg l_v10 u_v10) (fun c29_18 => ?_) (fun c29_18 => ?_)
          · skip
            refine mm_g 2 (pc1 := 65) (lo1 := [some (.ref 137), some (.int (Int32.ofInt a1)), some (.int (Int32.ofInt v1)), some (.int (Int32.ofInt v2)), some (.int (Int32.ofInt v10)), some (.int (Int32.ofInt v11))]) (st1 := [.int (Int32.ofInt v10), .int (Int32.ofInt v1)]) (H1 := mz_mk g x) rfl ?_
            refine mz_if_eq (tgt := 74) rfl rfl (mz_rg l_v10 u_v10) (fun c65_18 => ?_) (fun c65_18 => ?_)
            · skip
              refine mm_g 1 (pc1 := 75) (lo1 := [some (.ref 137), some (.int (Int32.ofInt a1)), some (.int (Int32.ofInt v1)), some (.int (Int32.ofInt v2)), some (.int (Int32.ofInt v10)), some (.int (Int32.ofInt v11))]) (st1 := [.int (Int32.ofInt 0), .int (Int32.ofInt v1)]) (H1 := mz_mk g x) rfl ?_
              refine mz_ior rfl (fun v19 e_v19 hwv19 => ?_)
              have l_v19 := hwv19.1
              have u_v19 := hwv19.2
              refine mm_g 1 (pc1 := 77) (lo1 := [some (.ref 137), some (.int (Int32.ofInt a1)), some (.int (Int32.ofInt v19)), some (.int (Int32.ofInt v2)), some (.int (Int32.ofInt v10)), some (.int (Int32.ofInt v11))]) (st1 := []) (H1 := mz_mk g x) rfl ?_
              refine mz_iincR (v := v2) (lo2 := [some (.ref 137), some (.int (Int32.ofInt a1)), some (.int (Int32.ofInt v19)), some (.int (Int32.ofInt (v2 + 1))), some (.int (Int32.ofInt v10)), some (.int (Int32.ofInt v11))]) rfl rfl rfl (Nat.le_of_ble_eq_true rfl) rfl ?_
              refine mz_gt (tgt := 4) rfl rfl ?_
              exact ih6 ((8 - (v2 + 1)).toNat) (by omega) v19 (v2 + 1) (some (.int (Int32.ofInt v10))) (some (.int (Int32.ofInt v11))) rfl (by omega) (by omega) (by omega) (by omega) (mz_nl_i _) (mz_nl_i _)
            · exfalso; omega
          · skip
            refine mm_g 3 (pc1 := 36) (lo1 := [some (.ref 137), some (.int (Int32.ofInt a1)), some (.int (Int32.ofInt v1)), some (.int (Int32.ofInt v2)), some (.int (Int32.ofInt v10)), some (.int (Int32.ofInt v11))]) (st1 := [.int (Int32.ofInt v11), .int (Int32.ofInt v2), .ref 137]) (H1 := mz_mk g x) rfl ?_
            refine mz_cv rfl mt_12_340 (by decide) (sc_137 _) rfl (Nat.le_of_ble_eq_true rfl) (by omega) (c_X12_manyOf (by omega) hx hI (by omega) (by omega) (by omega) (by omega) (fun v20 l_v20 u_v20 => ⟨_, rfl, ?_⟩))
            show mm_W d mmX12_anagramsOf 39 [some (.ref 137), some (.int (Int32.ofInt a1)), some (.int (Int32.ofInt v1)), some (.int (Int32.ofInt v2)), some (.int (Int32.ofInt v10)), some (.int (Int32.ofInt v11))] [.int (Int32.ofInt v20)] (mz_mk g x) Q
            refine mm_g 3 (pc1 := 43) (lo1 := [some (.ref 137), some (.int (Int32.ofInt a1)), some (.int (Int32.ofInt v1)), some (.int (Int32.ofInt v2)), some (.int (Int32.ofInt v10)), some (.int (Int32.ofInt v11))]) (st1 := [.int (Int32.ofInt v11), .int (Int32.ofInt a1), .ref 137, .int (Int32.ofInt v20)]) (H1 := mz_mk g x) rfl ?_
            refine mz_cv rfl mt_12_340 (by decide) (sc_137 _) rfl (Nat.le_of_ble_eq_true rfl) (by omega) (c_X12_manyOf (by omega) hx hI l_a1 u_a1 (by omega) (by omega) (fun v21 l_v21 u_v21 => ⟨_, rfl, ?_⟩))
            show mm_W d mmX12_anagramsOf 46 [some (.ref 137), some (.int (Int32.ofInt a1)), some (.int (Int32.ofInt v1)), some (.int (Int32.ofInt v2)), some (.int (Int32.ofInt v10)), some (.int (Int32.ofInt v11))] [.int (Int32.ofInt v21), .int (Int32.ofInt v20)] (mz_mk g x) Q
            refine mz_ic_ne (tgt := 53) rfl rfl (mz_rg l_v20 u_v20) (mz_rg l_v21 u_v21) (fun c46_21 => ?_) (fun c46_21 => ?_)
            · skip
              refine mm_g 2 (pc1 := 56) (lo1 := [some (.ref 137), some (.int (Int32.ofInt a1)), some (.int (Int32.ofInt v1)), some (.int (Int32.ofInt v2)), some (.int (Int32.ofInt 0)), some (.int (Int32.ofInt v11))]) (st1 := []) (H1 := mz_mk g x) rfl ?_
              refine mz_iincR (v := v11) (lo2 := [some (.ref 137), some (.int (Int32.ofInt a1)), some (.int (Int32.ofInt v1)), some (.int (Int32.ofInt v2)), some (.int (Int32.ofInt 0)), some (.int (Int32.ofInt (v11 + 1)))]) rfl rfl rfl (Nat.le_of_ble_eq_true rfl) rfl ?_
              refine mz_gt (tgt := 20) rfl rfl ?_
              exact ih13 ((27 - (v11 + 1)).toNat) (by omega) 0 (v11 + 1) rfl (by decide) (by decide) (by omega) (by omega)
            · skip
              refine mm_g 1 (pc1 := 50) (lo1 := [some (.ref 137), some (.int (Int32.ofInt a1)), some (.int (Int32.ofInt v1)), some (.int (Int32.ofInt v2)), some (.int (Int32.ofInt v10)), some (.int (Int32.ofInt v11))]) (st1 := [.int (Int32.ofInt 1)]) (H1 := mz_mk g x) rfl ?_
              refine mz_gt (tgt := 54) rfl rfl ?_
              refine mm_g 1 (pc1 := 56) (lo1 := [some (.ref 137), some (.int (Int32.ofInt a1)), some (.int (Int32.ofInt v1)), some (.int (Int32.ofInt v2)), some (.int (Int32.ofInt 1)), some (.int (Int32.ofInt v11))]) (st1 := []) (H1 := mz_mk g x) rfl ?_
              refine mz_iincR (v := v11) (lo2 := [some (.ref 137), some (.int (Int32.ofInt a1)), some (.int (Int32.ofInt v1)), some (.int (Int32.ofInt v2)), some (.int (Int32.ofInt 1)), some (.int (Int32.ofInt (v11 + 1)))]) rfl rfl rfl (Nat.le_of_ble_eq_true rfl) rfl ?_
              refine mz_gt (tgt := 20) rfl rfl ?_
              exact ih13 ((27 - (v11 + 1)).toNat) (by omega) 1 (v11 + 1) rfl (by decide) (by decide) (by omega) (by omega)
      exact L15 _ 1 1 rfl (by decide) (by decide) (by decide) (by decide)
  exact L8 _ 0 0 none none rfl (by decide) (by decide) (by decide) (by decide) mz_nl_n mz_nl_n
theorem c_X12_reckon {d : Nat} (hd : 1 ≤ d) {x : mm_X} (hx : mk_x x) {g : mz_G} (hI : mz_inv g) {a1 : Int} (l_a1 : (-2147483648) ≤ a1) (u_a1 : a1 ≤ 2147483647) {a2 : Int} (l_a2 : (-2147483648) ≤ a2) (u_a2 : a2 ≤ 2147483647) {a3 : Int} (l_a3 : (-2147483648) ≤ a3) (u_a3 : a3 ≤ 2147483647) {Q : (Option Value ⊕ Nat) → mm_H → Prop} (hQ : ∀ (r : Int), (-2147483648) ≤ r → r ≤ 2147483647 → Q (.inl (some (.int (Int32.ofInt r)))) (mz_mk g x)) : mm_C d 230 [.int (Int32.ofInt a1), .int (Int32.ofInt a2), .int (Int32.ofInt a3)] (mz_mk g x) Q := by
  refine ⟨mmX12_reckon, [some (.int (Int32.ofInt a1)), some (.int (Int32.ofInt a2)), some (.int (Int32.ofInt a3))], rfl, rfl, ?_⟩
  refine mm_g 1 (pc1 := 1) (lo1 := [some (.int (Int32.ofInt a1)), some (.int (Int32.ofInt a2)), some (.int (Int32.ofInt a3))]) (st1 := [.int (Int32.ofInt a1)]) (H1 := mz_mk g x) rfl ?_
  by_cases c1_0 : a1 = (-26)
  · refine mz_tsi (tgt := 90) rfl (mz_rg l_a1 u_a1) (by omega) (by omega) (by rw [c1_0]; rfl) rfl ?_
    refine mm_g 1 (pc1 := 91) (lo1 := [some (.int (Int32.ofInt a1)), some (.int (Int32.ofInt a2)), some (.int (Int32.ofInt a3))]) (st1 := [.int (Int32.ofInt a2)]) (H1 := mz_mk g x) rfl ?_
    refine mz_if_eq (tgt := 102) rfl rfl (mz_rg l_a2 u_a2) (fun c91_0 => ?_) (fun c91_0 => ?_)
    · skip
      refine mm_g 1 (pc1 := 103) (lo1 := [some (.int (Int32.ofInt a1)), some (.int (Int32.ofInt a2)), some (.int (Int32.ofInt a3))]) (st1 := [.int (Int32.ofInt 0)]) (H1 := mz_mk g x) rfl ?_
      exact mm_rt rfl rfl (hQ _ (by decide) (by decide))
    · skip
      refine mm_g 1 (pc1 := 95) (lo1 := [some (.int (Int32.ofInt a1)), some (.int (Int32.ofInt a2)), some (.int (Int32.ofInt a3))]) (st1 := [.int (Int32.ofInt a3)]) (H1 := mz_mk g x) rfl ?_
      refine mz_if_eq (tgt := 102) rfl rfl (mz_rg l_a3 u_a3) (fun c95_0 => ?_) (fun c95_0 => ?_)
      · skip
        refine mm_g 1 (pc1 := 103) (lo1 := [some (.int (Int32.ofInt a1)), some (.int (Int32.ofInt a2)), some (.int (Int32.ofInt a3))]) (st1 := [.int (Int32.ofInt 0)]) (H1 := mz_mk g x) rfl ?_
        exact mm_rt rfl rfl (hQ _ (by decide) (by decide))
      · skip
        refine mm_g 1 (pc1 := 99) (lo1 := [some (.int (Int32.ofInt a1)), some (.int (Int32.ofInt a2)), some (.int (Int32.ofInt a3))]) (st1 := [.int (Int32.ofInt 1)]) (H1 := mz_mk g x) rfl ?_
        refine mz_gt (tgt := 103) rfl rfl ?_
        exact mm_rt rfl rfl (hQ _ (by decide) (by decide))
  by_cases c1_1 : a1 = (-25)
  · refine mz_tsi (tgt := 79) rfl (mz_rg l_a1 u_a1) (by omega) (by omega) (by rw [c1_1]; rfl) rfl ?_
    refine mm_g 2 (pc1 := 81) (lo1 := [some (.int (Int32.ofInt a1)), some (.int (Int32.ofInt a2)), some (.int (Int32.ofInt a3))]) (st1 := [.int (Int32.ofInt a3), .int (Int32.ofInt a2)]) (H1 := mz_mk g x) rfl ?_
    refine mz_ic_ne (tgt := 88) rfl rfl (mz_rg l_a2 u_a2) (mz_rg l_a3 u_a3) (fun c81_0 => ?_) (fun c81_0 => ?_)
    · skip
      refine mm_g 1 (pc1 := 89) (lo1 := [some (.int (Int32.ofInt a1)), some (.int (Int32.ofInt a2)), some (.int (Int32.ofInt a3))]) (st1 := [.int (Int32.ofInt 0)]) (H1 := mz_mk g x) rfl ?_
      exact mm_rt rfl rfl (hQ _ (by decide) (by decide))
    · skip
      refine mm_g 1 (pc1 := 85) (lo1 := [some (.int (Int32.ofInt a1)), some (.int (Int32.ofInt a2)), some (.int (Int32.ofInt a3))]) (st1 := [.int (Int32.ofInt 1)]) (H1 := mz_mk g x) rfl ?_
      refine mz_gt (tgt := 89) rfl rfl ?_
      exact mm_rt rfl rfl (hQ _ (by decide) (by decide))
  by_cases c1_2 : a1 = (-24)
  · refine mz_tsi (tgt := 68) rfl (mz_rg l_a1 u_a1) (by omega) (by omega) (by rw [c1_2]; rfl) rfl ?_
    refine mm_g 2 (pc1 := 70) (lo1 := [some (.int (Int32.ofInt a1)), some (.int (Int32.ofInt a2)), some (.int (Int32.ofInt a3))]) (st1 := [.int (Int32.ofInt a3), .int (Int32.ofInt a2)]) (H1 := mz_mk g x) rfl ?_
    refine mz_ic_ge (tgt := 77) rfl rfl (mz_rg l_a2 u_a2) (mz_rg l_a3 u_a3) (fun c70_0 => ?_) (fun c70_0 => ?_)
    · skip
      refine mm_g 1 (pc1 := 78) (lo1 := [some (.int (Int32.ofInt a1)), some (.int (Int32.ofInt a2)), some (.int (Int32.ofInt a3))]) (st1 := [.int (Int32.ofInt 0)]) (H1 := mz_mk g x) rfl ?_
      exact mm_rt rfl rfl (hQ _ (by decide) (by decide))
    · skip
      refine mm_g 1 (pc1 := 74) (lo1 := [some (.int (Int32.ofInt a1)), some (.int (Int32.ofInt a2)), some (.int (Int32.ofInt a3))]) (st1 := [.int (Int32.ofInt 1)]) (H1 := mz_mk g x) rfl ?_
      refine mz_gt (tgt := 78) rfl rfl ?_
      exact mm_rt rfl rfl (hQ _ (by decide) (by decide))
  by_cases c1_3 : a1 = (-23)
  · refine mz_tsi (tgt := 56) rfl (mz_rg l_a1 u_a1) (by omega) (by omega) (by rw [c1_3]; rfl) rfl ?_
    refine mm_g 1 (pc1 := 57) (lo1 := [some (.int (Int32.ofInt a1)), some (.int (Int32.ofInt a2)), some (.int (Int32.ofInt a3))]) (st1 := [.int (Int32.ofInt a3)]) (H1 := mz_mk g x) rfl ?_
    refine mz_if_ne (tgt := 64) rfl rfl (mz_rg l_a3 u_a3) (fun c57_0 => ?_) (fun c57_0 => ?_)
    · skip
      refine mm_g 2 (pc1 := 66) (lo1 := [some (.int (Int32.ofInt a1)), some (.int (Int32.ofInt a2)), some (.int (Int32.ofInt a3))]) (st1 := [.int (Int32.ofInt a3), .int (Int32.ofInt a2)]) (H1 := mz_mk g x) rfl ?_
      refine mz_idiv rfl (mz_rg l_a3 u_a3) (by omega) (fun v1 _ hwv1 => ?_)
      have l_v1 := hwv1.1
      have u_v1 := hwv1.2
      exact mm_rt rfl rfl (hQ _ (by omega) (by omega))
    · skip
      refine mm_g 1 (pc1 := 61) (lo1 := [some (.int (Int32.ofInt a1)), some (.int (Int32.ofInt a2)), some (.int (Int32.ofInt a3))]) (st1 := [.int (Int32.ofInt 0)]) (H1 := mz_mk g x) rfl ?_
      refine mz_gt (tgt := 67) rfl rfl ?_
      exact mm_rt rfl rfl (hQ _ (by decide) (by decide))
  by_cases c1_4 : a1 = (-22)
  · refine mz_tsi (tgt := 52) rfl (mz_rg l_a1 u_a1) (by omega) (by omega) (by rw [c1_4]; rfl) rfl ?_
    refine mm_g 2 (pc1 := 54) (lo1 := [some (.int (Int32.ofInt a1)), some (.int (Int32.ofInt a2)), some (.int (Int32.ofInt a3))]) (st1 := [.int (Int32.ofInt a3), .int (Int32.ofInt a2)]) (H1 := mz_mk g x) rfl ?_
    refine mz_imul_w rfl (fun v2 _ hwv2 => ?_)
    have l_v2 := hwv2.1
    have u_v2 := hwv2.2
    exact mm_rt rfl rfl (hQ _ (by omega) (by omega))
  by_cases c1_5 : a1 = (-21)
  · refine mz_tsi (tgt := 48) rfl (mz_rg l_a1 u_a1) (by omega) (by omega) (by rw [c1_5]; rfl) rfl ?_
    refine mm_g 2 (pc1 := 50) (lo1 := [some (.int (Int32.ofInt a1)), some (.int (Int32.ofInt a2)), some (.int (Int32.ofInt a3))]) (st1 := [.int (Int32.ofInt a3), .int (Int32.ofInt a2)]) (H1 := mz_mk g x) rfl ?_
    refine mz_isub_w rfl (fun v3 _ hwv3 => ?_)
    have l_v3 := hwv3.1
    have u_v3 := hwv3.2
    exact mm_rt rfl rfl (hQ _ (by omega) (by omega))
  by_cases c1_6 : a1 = (-20)
  · refine mz_tsi (tgt := 44) rfl (mz_rg l_a1 u_a1) (by omega) (by omega) (by rw [c1_6]; rfl) rfl ?_
    refine mm_g 2 (pc1 := 46) (lo1 := [some (.int (Int32.ofInt a1)), some (.int (Int32.ofInt a2)), some (.int (Int32.ofInt a3))]) (st1 := [.int (Int32.ofInt a3), .int (Int32.ofInt a2)]) (H1 := mz_mk g x) rfl ?_
    refine mz_iadd_w rfl (fun v4 _ hwv4 => ?_)
    have l_v4 := hwv4.1
    have u_v4 := hwv4.2
    exact mm_rt rfl rfl (hQ _ (by omega) (by omega))
  refine mz_tso (tgt := 104) rfl (mz_rg l_a1 u_a1) (by omega) rfl ?_
  refine mm_g 1 (pc1 := 105) (lo1 := [some (.int (Int32.ofInt a1)), some (.int (Int32.ofInt a2)), some (.int (Int32.ofInt a3))]) (st1 := [.int (Int32.ofInt a2)]) (H1 := mz_mk g x) rfl ?_
  refine mz_if_ne (tgt := 112) rfl rfl (mz_rg l_a2 u_a2) (fun c105_4 => ?_) (fun c105_4 => ?_)
  · skip
    refine mm_g 1 (pc1 := 113) (lo1 := [some (.int (Int32.ofInt a1)), some (.int (Int32.ofInt a2)), some (.int (Int32.ofInt a3))]) (st1 := [.int (Int32.ofInt 1)]) (H1 := mz_mk g x) rfl ?_
    refine mz_gt (tgt := 117) rfl rfl ?_
    exact mm_rt rfl rfl (hQ _ (by decide) (by decide))
  · skip
    refine mm_g 1 (pc1 := 109) (lo1 := [some (.int (Int32.ofInt a1)), some (.int (Int32.ofInt a2)), some (.int (Int32.ofInt a3))]) (st1 := [.int (Int32.ofInt a3)]) (H1 := mz_mk g x) rfl ?_
    refine mz_if_eq (tgt := 116) rfl rfl (mz_rg l_a3 u_a3) (fun c109_4 => ?_) (fun c109_4 => ?_)
    · skip
      refine mm_g 1 (pc1 := 117) (lo1 := [some (.int (Int32.ofInt a1)), some (.int (Int32.ofInt a2)), some (.int (Int32.ofInt a3))]) (st1 := [.int (Int32.ofInt 0)]) (H1 := mz_mk g x) rfl ?_
      exact mm_rt rfl rfl (hQ _ (by decide) (by decide))
    · skip
      refine mm_g 1 (pc1 := 113) (lo1 := [some (.int (Int32.ofInt a1)), some (.int (Int32.ofInt a2)), some (.int (Int32.ofInt a3))]) (st1 := [.int (Int32.ofInt 1)]) (H1 := mz_mk g x) rfl ?_
      refine mz_gt (tgt := 117) rfl rfl ?_
      exact mm_rt rfl rfl (hQ _ (by decide) (by decide))
def fl_X12_valueNow_4 (x : mm_X) : Nat → Nat → Prop := fun k j => k = 161
def fw_X12_valueNow (x : mm_X) : Nat → Nat → Prop := fun k j => k = 161
theorem c_X12_valueNow {d : Nat} (hd : 2 ≤ d) {x : mm_X} (hx : mk_x x) {g : mz_G} (hI : mz_inv g) (p1 : mz_pv g) {Q : (Option Value ⊕ Nat) → mm_H → Prop} (hQ : ∀ (r : Int) (g1 : mz_G), mz_inv g1 → mz_fr (fw_X12_valueNow x) g g1 → (-2147483648) ≤ r → r ≤ 2147483647 → Q (.inl (some (.int (Int32.ofInt r)))) (mz_mk g1 x)) : mm_C d 231 [.ref 137] (mz_mk g x) Q := by
  refine ⟨mmX12_valueNow, [some (.ref 137), none, none, none], rfl, rfl, ?_⟩
  have bz0 := mz_rd hI bt_140_3
  have hpv := p1
  refine mm_g 4 (pc1 := 4) (lo1 := [some (.ref 137), some (.int (Int32.ofInt 0)), some (.int (Int32.ofInt 0)), none]) (st1 := []) (H1 := mz_mk g x) rfl ?_
  have L7 : ∀ n6 : Nat, ∀ (v1 : Int) (v2 : Int) (o3 : Option Value) (g4 : mz_G), (700 - v2).toNat = n6 → 0 ≤ v1 → v1 ≤ 40 → 0 ≤ v2 → v2 ≤ 700 → mz_nl o3 → mz_inv g4 → mz_fr (fl_X12_valueNow_4 x) g g4 → (mz_dst (g4 149) v2.toNat = some v1.toNat) → mm_W d mmX12_valueNow 4 [some (.ref 137), some (.int (Int32.ofInt v1)), some (.int (Int32.ofInt v2)), o3] [] (mz_mk g4 x) Q := by
    intro n6
    induction n6 using Nat.strongRecOn with
    | ind n6 ih5 =>
    intro v1 v2 o3 g4 hmn6 l_v1 u_v1 l_v2 u_v2 h_o3 hIg4 hfg4 hv8
    refine mm_g 2 (pc1 := 6) (lo1 := [some (.ref 137), some (.int (Int32.ofInt v1)), some (.int (Int32.ofInt v2)), o3]) (st1 := [.ref 137, .int (Int32.ofInt v2)]) (H1 := mz_mk g4 x) rfl ?_
    refine mz_fgR (v := 140) rfl fd_12_36 (by decide) (sc_137 _) (rf_137_3 _ _ _) ?_
    refine mm_g 1 (pc1 := 10) (lo1 := [some (.ref 137), some (.int (Int32.ofInt v1)), some (.int (Int32.ofInt v2)), o3]) (st1 := [.int (Int32.ofInt 3), .ref 140, .int (Int32.ofInt v2)]) (H1 := mz_mk g4 x) rfl ?_
    refine mz_ia (v := (g 140 3)) rfl (sh_140 _) (by decide) (by decide) (by decide) (show g4 140 3 = (g 140 3) from ((hfg4 140 3 (fun h => (absurd (show 140 = 161 from h) (by decide)))).trans rfl)) ?_
    refine mz_ic_ge (tgt := 123) rfl rfl (mz_rg l_v2 u_v2) ⟨by omega, by omega⟩ (fun c11_8 => ?_) (fun c11_8 => ?_)
    · skip
      refine mm_g 1 (pc1 := 124) (lo1 := [some (.ref 137), some (.int (Int32.ofInt v1)), some (.int (Int32.ofInt v2)), o3]) (st1 := [.ref 137]) (H1 := mz_mk g4 x) rfl ?_
      refine mz_fgR (v := 161) rfl fd_12_100 (by decide) (sc_137 _) (rf_137_39 _ _ _) ?_
      refine mm_g 1 (pc1 := 128) (lo1 := [some (.ref 137), some (.int (Int32.ofInt v1)), some (.int (Int32.ofInt v2)), o3]) (st1 := [.int (Int32.ofInt 0), .ref 161]) (H1 := mz_mk g4 x) rfl ?_
      refine mz_aI rfl (sh_161 _) (by omega) (by omega) (by decide) hIg4 (ba_161 _) (fun v9 e_v9 l_v9 u_v9 => ?_)
      have e_v9 : g4 161 0 = v9 := e_v9
      exact mm_rt rfl rfl (hQ _ _ hIg4 (fun k j hk => (hfg4 k j (fun h => hk h))) (by omega) (by omega))
    · skip
      refine mm_g 1 (pc1 := 15) (lo1 := [some (.ref 137), some (.int (Int32.ofInt v1)), some (.int (Int32.ofInt v2)), o3]) (st1 := [.ref 137]) (H1 := mz_mk g4 x) rfl ?_
      refine mz_fgR (v := 149) rfl fd_12_63 (by decide) (sc_137 _) (rf_137_12 _ _ _) ?_
      refine mm_g 1 (pc1 := 19) (lo1 := [some (.ref 137), some (.int (Int32.ofInt v1)), some (.int (Int32.ofInt v2)), o3]) (st1 := [.int (Int32.ofInt v2), .ref 149]) (H1 := mz_mk g4 x) rfl ?_
      refine mz_aI rfl (sh_149 _) (by omega) (by omega) (by decide) hIg4 (ba_149 _) (fun v10 e_v10 l_v10 u_v10 => ?_)
      obtain ⟨hs1, hs2, hs3⟩ := mz_dst_next (g := g4) (mz_pv_fr hpv (fun _j => ((hfg4 149 _j (fun h => (absurd (show 149 = 161 from h) (by decide)))).trans rfl)) ((hfg4 140 3 (fun h => (absurd (show 140 = 161 from h) (by decide)))).trans rfl)) (k := v2) (n := v1) (by omega) hv8 (by omega) (show g4 140 3 = (g 140 3) from ((hfg4 140 3 (fun h => (absurd (show 140 = 161 from h) (by decide)))).trans rfl)) (by omega) e_v10
      have ha1 : -20 < v10 → -7 ≤ v10 ∧ v1 + 1 ≤ 40 := fun z => ⟨(hs1 z).1, (hs1 z).2.1⟩
      have ha2 : v10 = -28 → 1 ≤ v1 := fun z => (hs2 z).1
      have ha3 : v10 ≤ -20 ∧ v10 ≠ -28 → 2 ≤ v1 := fun z => (hs3 z).1
      refine mm_g 2 (pc1 := 22) (lo1 := [some (.ref 137), some (.int (Int32.ofInt v1)), some (.int (Int32.ofInt v2)), some (.int (Int32.ofInt v10))]) (st1 := [.int (Int32.ofInt v10)]) (H1 := mz_mk g4 x) rfl ?_
      refine mz_bip rfl bip_m20 ?_
      refine mz_ic_le (tgt := 55) rfl rfl (mz_rg l_v10 u_v10) ⟨by decide, by decide⟩ (fun c24_10 => ?_) (fun c24_10 => ?_)
      · skip
        refine mm_g 1 (pc1 := 56) (lo1 := [some (.ref 137), some (.int (Int32.ofInt v1)), some (.int (Int32.ofInt v2)), some (.int (Int32.ofInt v10))]) (st1 := [.int (Int32.ofInt v10)]) (H1 := mz_mk g4 x) rfl ?_
        refine mz_bip rfl bip_m28 ?_
        refine mz_ic_ne (tgt := 88) rfl rfl (mz_rg l_v10 u_v10) ⟨by decide, by decide⟩ (fun c58_10 => ?_) (fun c58_10 => ?_)
        · skip
          refine mz_iincR (v := v1) (lo2 := [some (.ref 137), some (.int (Int32.ofInt (v1 + (-1)))), some (.int (Int32.ofInt v2)), some (.int (Int32.ofInt v10))]) rfl rfl rfl (Nat.le_of_ble_eq_true rfl) rfl ?_
          refine mm_g 1 (pc1 := 92) (lo1 := [some (.ref 137), some (.int (Int32.ofInt (v1 + (-1)))), some (.int (Int32.ofInt v2)), some (.int (Int32.ofInt v10))]) (st1 := [.ref 137]) (H1 := mz_mk g4 x) rfl ?_
          refine mz_fgR (v := 161) rfl fd_12_100 (by decide) (sc_137 _) (rf_137_39 _ _ _) ?_
          refine mm_g 2 (pc1 := 97) (lo1 := [some (.ref 137), some (.int (Int32.ofInt (v1 + (-1)))), some (.int (Int32.ofInt v2)), some (.int (Int32.ofInt v10))]) (st1 := [.int (Int32.ofInt 1), .int (Int32.ofInt (v1 + (-1))), .ref 161]) (H1 := mz_mk g4 x) rfl ?_
          refine mz_isub rfl ?_
          refine mm_g 2 (pc1 := 100) (lo1 := [some (.ref 137), some (.int (Int32.ofInt (v1 + (-1)))), some (.int (Int32.ofInt v2)), some (.int (Int32.ofInt v10))]) (st1 := [.ref 137, .int (Int32.ofInt v10), .int (Int32.ofInt ((v1 + (-1)) - 1)), .ref 161]) (H1 := mz_mk g4 x) rfl ?_
          refine mz_fgR (v := 161) rfl fd_12_100 (by decide) (sc_137 _) (rf_137_39 _ _ _) ?_
          refine mm_g 2 (pc1 := 105) (lo1 := [some (.ref 137), some (.int (Int32.ofInt (v1 + (-1)))), some (.int (Int32.ofInt v2)), some (.int (Int32.ofInt v10))]) (st1 := [.int (Int32.ofInt 1), .int (Int32.ofInt (v1 + (-1))), .ref 161, .int (Int32.ofInt v10), .int (Int32.ofInt ((v1 + (-1)) - 1)), .ref 161]) (H1 := mz_mk g4 x) rfl ?_
          refine mz_isub rfl ?_
          refine mz_aI rfl (sh_161 _) (by omega) (by omega) (by decide) hIg4 (ba_161 _) (fun v11 e_v11 l_v11 u_v11 => ?_)
          refine mm_g 1 (pc1 := 108) (lo1 := [some (.ref 137), some (.int (Int32.ofInt (v1 + (-1)))), some (.int (Int32.ofInt v2)), some (.int (Int32.ofInt v10))]) (st1 := [.ref 137, .int (Int32.ofInt v11), .int (Int32.ofInt v10), .int (Int32.ofInt ((v1 + (-1)) - 1)), .ref 161]) (H1 := mz_mk g4 x) rfl ?_
          refine mz_fgR (v := 161) rfl fd_12_100 (by decide) (sc_137 _) (rf_137_39 _ _ _) ?_
          refine mm_g 1 (pc1 := 112) (lo1 := [some (.ref 137), some (.int (Int32.ofInt (v1 + (-1)))), some (.int (Int32.ofInt v2)), some (.int (Int32.ofInt v10))]) (st1 := [.int (Int32.ofInt (v1 + (-1))), .ref 161, .int (Int32.ofInt v11), .int (Int32.ofInt v10), .int (Int32.ofInt ((v1 + (-1)) - 1)), .ref 161]) (H1 := mz_mk g4 x) rfl ?_
          refine mz_aI rfl (sh_161 _) (by omega) (by omega) (by decide) hIg4 (ba_161 _) (fun v12 e_v12 l_v12 u_v12 => ?_)
          refine mz_cs rfl mt_12_343 (by decide) rfl (Nat.le_of_ble_eq_true rfl) (by omega) (c_X12_reckon (by omega) hx hIg4 l_v10 u_v10 l_v11 u_v11 l_v12 u_v12 (fun v13 l_v13 u_v13 => ⟨_, rfl, ?_⟩))
          show mm_W d mmX12_valueNow 116 [some (.ref 137), some (.int (Int32.ofInt (v1 + (-1)))), some (.int (Int32.ofInt v2)), some (.int (Int32.ofInt v10))] [.int (Int32.ofInt v13), .int (Int32.ofInt ((v1 + (-1)) - 1)), .ref 161] (mz_mk g4 x) Q
          refine mz_sI rfl (sh_161 _) (by omega) (by omega) (by decide) hIg4 (ba_161 _) (by omega) (by omega) (fun g14 hIg14 hug14 => ?_)
          refine mz_iincR (v := v2) (lo2 := [some (.ref 137), some (.int (Int32.ofInt (v1 + (-1)))), some (.int (Int32.ofInt (v2 + 1))), some (.int (Int32.ofInt v10))]) rfl rfl rfl (Nat.le_of_ble_eq_true rfl) rfl ?_
          refine mz_gt (tgt := 4) rfl rfl ?_
          exact ih5 ((700 - (v2 + 1)).toNat) (by omega) (v1 + (-1)) (v2 + 1) (some (.int (Int32.ofInt v10))) g14 rfl (by omega) (by omega) (by omega) (by omega) (mz_nl_i _) hIg14 (fun k j hk => ((hug14.2 k j (fun h => hk h.1)).trans (hfg4 k j (fun h => hk h)))) (by rw [show g14 149 = g4 149 from funext (fun _j => ((hug14.2 149 _j (fun h => absurd h.1 (by decide))).trans rfl))]; first | exact (hs1 (by omega)).2.2 | exact (hs2 (by omega)).2 | exact (hs3 (by omega)).2)
        · skip
          refine mm_g 1 (pc1 := 62) (lo1 := [some (.ref 137), some (.int (Int32.ofInt v1)), some (.int (Int32.ofInt v2)), some (.int (Int32.ofInt v10))]) (st1 := [.ref 137]) (H1 := mz_mk g4 x) rfl ?_
          refine mz_fgR (v := 161) rfl fd_12_100 (by decide) (sc_137 _) (rf_137_39 _ _ _) ?_
          refine mm_g 2 (pc1 := 67) (lo1 := [some (.ref 137), some (.int (Int32.ofInt v1)), some (.int (Int32.ofInt v2)), some (.int (Int32.ofInt v10))]) (st1 := [.int (Int32.ofInt 1), .int (Int32.ofInt v1), .ref 161]) (H1 := mz_mk g4 x) rfl ?_
          refine mz_isub rfl ?_
          refine mm_g 1 (pc1 := 69) (lo1 := [some (.ref 137), some (.int (Int32.ofInt v1)), some (.int (Int32.ofInt v2)), some (.int (Int32.ofInt v10))]) (st1 := [.ref 137, .int (Int32.ofInt (v1 - 1)), .ref 161]) (H1 := mz_mk g4 x) rfl ?_
          refine mz_fgR (v := 161) rfl fd_12_100 (by decide) (sc_137 _) (rf_137_39 _ _ _) ?_
          refine mm_g 2 (pc1 := 74) (lo1 := [some (.ref 137), some (.int (Int32.ofInt v1)), some (.int (Int32.ofInt v2)), some (.int (Int32.ofInt v10))]) (st1 := [.int (Int32.ofInt 1), .int (Int32.ofInt v1), .ref 161, .int (Int32.ofInt (v1 - 1)), .ref 161]) (H1 := mz_mk g4 x) rfl ?_
          refine mz_isub rfl ?_
          refine mz_aI rfl (sh_161 _) (by omega) (by omega) (by decide) hIg4 (ba_161 _) (fun v15 e_v15 l_v15 u_v15 => ?_)
          refine mz_if_eq (tgt := 83) rfl rfl (mz_rg l_v15 u_v15) (fun c76_15 => ?_) (fun c76_15 => ?_)
          · skip
            refine mm_g 1 (pc1 := 84) (lo1 := [some (.ref 137), some (.int (Int32.ofInt v1)), some (.int (Int32.ofInt v2)), some (.int (Int32.ofInt v10))]) (st1 := [.int (Int32.ofInt 1), .int (Int32.ofInt (v1 - 1)), .ref 161]) (H1 := mz_mk g4 x) rfl ?_
            refine mz_sI rfl (sh_161 _) (by omega) (by omega) (by decide) hIg4 (ba_161 _) (by omega) (by omega) (fun g16 hIg16 hug16 => ?_)
            refine mz_gt (tgt := 117) rfl rfl ?_
            refine mz_iincR (v := v2) (lo2 := [some (.ref 137), some (.int (Int32.ofInt v1)), some (.int (Int32.ofInt (v2 + 1))), some (.int (Int32.ofInt v10))]) rfl rfl rfl (Nat.le_of_ble_eq_true rfl) rfl ?_
            refine mz_gt (tgt := 4) rfl rfl ?_
            exact ih5 ((700 - (v2 + 1)).toNat) (by omega) v1 (v2 + 1) (some (.int (Int32.ofInt v10))) g16 rfl (by omega) (by omega) (by omega) (by omega) (mz_nl_i _) hIg16 (fun k j hk => ((hug16.2 k j (fun h => hk h.1)).trans (hfg4 k j (fun h => hk h)))) (by rw [show g16 149 = g4 149 from funext (fun _j => ((hug16.2 149 _j (fun h => absurd h.1 (by decide))).trans rfl))]; first | exact (hs1 (by omega)).2.2 | exact (hs2 (by omega)).2 | exact (hs3 (by omega)).2)
          · skip
            refine mm_g 1 (pc1 := 80) (lo1 := [some (.ref 137), some (.int (Int32.ofInt v1)), some (.int (Int32.ofInt v2)), some (.int (Int32.ofInt v10))]) (st1 := [.int (Int32.ofInt 0), .int (Int32.ofInt (v1 - 1)), .ref 161]) (H1 := mz_mk g4 x) rfl ?_
            refine mz_gt (tgt := 84) rfl rfl ?_
            refine mz_sI rfl (sh_161 _) (by omega) (by omega) (by decide) hIg4 (ba_161 _) (by omega) (by omega) (fun g17 hIg17 hug17 => ?_)
            refine mz_gt (tgt := 117) rfl rfl ?_
            refine mz_iincR (v := v2) (lo2 := [some (.ref 137), some (.int (Int32.ofInt v1)), some (.int (Int32.ofInt (v2 + 1))), some (.int (Int32.ofInt v10))]) rfl rfl rfl (Nat.le_of_ble_eq_true rfl) rfl ?_
            refine mz_gt (tgt := 4) rfl rfl ?_
            exact ih5 ((700 - (v2 + 1)).toNat) (by omega) v1 (v2 + 1) (some (.int (Int32.ofInt v10))) g17 rfl (by omega) (by omega) (by omega) (by omega) (mz_nl_i _) hIg17 (fun k j hk => ((hug17.2 k j (fun h => hk h.1)).trans (hfg4 k j (fun h => hk h)))) (by rw [show g17 149 = g4 149 from funext (fun _j => ((hug17.2 149 _j (fun h => absurd h.1 (by decide))).trans rfl))]; first | exact (hs1 (by omega)).2.2 | exact (hs2 (by omega)).2 | exact (hs3 (by omega)).2)
      · skip
        refine mm_g 1 (pc1 := 28) (lo1 := [some (.ref 137), some (.int (Int32.ofInt v1)), some (.int (Int32.ofInt v2)), some (.int (Int32.ofInt v10))]) (st1 := [.ref 137]) (H1 := mz_mk g4 x) rfl ?_
        refine mz_fgR (v := 161) rfl fd_12_100 (by decide) (sc_137 _) (rf_137_39 _ _ _) ?_
        refine mm_g 2 (pc1 := 33) (lo1 := [some (.ref 137), some (.int (Int32.ofInt v1)), some (.int (Int32.ofInt v2)), some (.int (Int32.ofInt v10))]) (st1 := [.int (Int32.ofInt v10), .int (Int32.ofInt v1), .ref 161]) (H1 := mz_mk g4 x) rfl ?_
        refine mz_if_lt (tgt := 40) rfl rfl (mz_rg l_v10 u_v10) (fun c33_17 => ?_) (fun c33_17 => ?_)
        · skip
          refine mm_g 1 (pc1 := 41) (lo1 := [some (.ref 137), some (.int (Int32.ofInt v1)), some (.int (Int32.ofInt v2)), some (.int (Int32.ofInt v10))]) (st1 := [.ref 137, .int (Int32.ofInt v1), .ref 161]) (H1 := mz_mk g4 x) rfl ?_
          refine mz_fgR (v := 160) rfl fd_12_97 (by decide) (sc_137 _) (rf_137_38 _ _ _) ?_
          refine mm_g 2 (pc1 := 46) (lo1 := [some (.ref 137), some (.int (Int32.ofInt v1)), some (.int (Int32.ofInt v2)), some (.int (Int32.ofInt v10))]) (st1 := [.int (Int32.ofInt v10), .int (Int32.ofInt (-1)), .ref 160, .int (Int32.ofInt v1), .ref 161]) (H1 := mz_mk g4 x) rfl ?_
          refine mz_isub rfl ?_
          refine mz_aI rfl (sh_160 _) (by omega) (by omega) (by decide) hIg4 (ba_160 _) (fun v18 e_v18 l_v18 u_v18 => ?_)
          refine mz_sI rfl (sh_161 _) (by omega) (by omega) (by decide) hIg4 (ba_161 _) (by omega) (by omega) (fun g19 hIg19 hug19 => ?_)
          refine mz_iincR (v := v1) (lo2 := [some (.ref 137), some (.int (Int32.ofInt (v1 + 1))), some (.int (Int32.ofInt v2)), some (.int (Int32.ofInt v10))]) rfl rfl rfl (Nat.le_of_ble_eq_true rfl) rfl ?_
          refine mz_gt (tgt := 117) rfl rfl ?_
          refine mz_iincR (v := v2) (lo2 := [some (.ref 137), some (.int (Int32.ofInt (v1 + 1))), some (.int (Int32.ofInt (v2 + 1))), some (.int (Int32.ofInt v10))]) rfl rfl rfl (Nat.le_of_ble_eq_true rfl) rfl ?_
          refine mz_gt (tgt := 4) rfl rfl ?_
          exact ih5 ((700 - (v2 + 1)).toNat) (by omega) (v1 + 1) (v2 + 1) (some (.int (Int32.ofInt v10))) g19 rfl (by omega) (by omega) (by omega) (by omega) (mz_nl_i _) hIg19 (fun k j hk => ((hug19.2 k j (fun h => hk h.1)).trans (hfg4 k j (fun h => hk h)))) (by rw [show g19 149 = g4 149 from funext (fun _j => ((hug19.2 149 _j (fun h => absurd h.1 (by decide))).trans rfl))]; first | exact (hs1 (by omega)).2.2 | exact (hs2 (by omega)).2 | exact (hs3 (by omega)).2)
        · skip
          refine mm_g 1 (pc1 := 37) (lo1 := [some (.ref 137), some (.int (Int32.ofInt v1)), some (.int (Int32.ofInt v2)), some (.int (Int32.ofInt v10))]) (st1 := [.int (Int32.ofInt v10), .int (Int32.ofInt v1), .ref 161]) (H1 := mz_mk g4 x) rfl ?_
          refine mz_gt (tgt := 48) rfl rfl ?_
          refine mz_sI rfl (sh_161 _) (by omega) (by omega) (by decide) hIg4 (ba_161 _) (by omega) (by omega) (fun g20 hIg20 hug20 => ?_)
          refine mz_iincR (v := v1) (lo2 := [some (.ref 137), some (.int (Int32.ofInt (v1 + 1))), some (.int (Int32.ofInt v2)), some (.int (Int32.ofInt v10))]) rfl rfl rfl (Nat.le_of_ble_eq_true rfl) rfl ?_
          refine mz_gt (tgt := 117) rfl rfl ?_
          refine mz_iincR (v := v2) (lo2 := [some (.ref 137), some (.int (Int32.ofInt (v1 + 1))), some (.int (Int32.ofInt (v2 + 1))), some (.int (Int32.ofInt v10))]) rfl rfl rfl (Nat.le_of_ble_eq_true rfl) rfl ?_
          refine mz_gt (tgt := 4) rfl rfl ?_
          exact ih5 ((700 - (v2 + 1)).toNat) (by omega) (v1 + 1) (v2 + 1) (some (.int (Int32.ofInt v10))) g20 rfl (by omega) (by omega) (by omega) (by omega) (mz_nl_i _) hIg20 (fun k j hk => ((hug20.2 k j (fun h => hk h.1)).trans (hfg4 k j (fun h => hk h)))) (by rw [show g20 149 = g4 149 from funext (fun _j => ((hug20.2 149 _j (fun h => absurd h.1 (by decide))).trans rfl))]; first | exact (hs1 (by omega)).2.2 | exact (hs2 (by omega)).2 | exact (hs3 (by omega)).2)
  exact L7 _ 0 0 none g rfl (by decide) (by decide) (by decide) (by decide) mz_nl_n hI (fun _ _ _ => rfl) rfl
theorem c_X12_heatOf {d : Nat} (hd : 1 ≤ d) {x : mm_X} (hx : mk_x x) {g : mz_G} (hI : mz_inv g) {a1 : Int} (l_a1 : 0 ≤ a1) (u_a1 : a1 ≤ 1999) {Q : (Option Value ⊕ Nat) → mm_H → Prop} (hQ : ∀ (r : Int), (-2147483648) ≤ r → r ≤ 2147483647 → Q (.inl (some (.int (Int32.ofInt r)))) (mz_mk g x)) : mm_C d 232 [.ref 137, .int (Int32.ofInt a1)] (mz_mk g x) Q := by
  refine ⟨mmX12_heatOf, [some (.ref 137), some (.int (Int32.ofInt a1))], rfl, rfl, ?_⟩
  refine mm_g 1 (pc1 := 1) (lo1 := [some (.ref 137), some (.int (Int32.ofInt a1))]) (st1 := [.ref 137]) (H1 := mz_mk g x) rfl ?_
  refine mz_fgR (v := 140) rfl fd_12_36 (by decide) (sc_137 _) (rf_137_3 _ _ _) ?_
  refine mm_g 1 (pc1 := 5) (lo1 := [some (.ref 137), some (.int (Int32.ofInt a1))]) (st1 := [.int (Int32.ofInt 2), .ref 140]) (H1 := mz_mk g x) rfl ?_
  refine mz_aI rfl (sh_140 _) (by omega) (by omega) (by decide) hI bt_140_2 (fun v1 e_v1 l_v1 u_v1 => ?_)
  have e_v1 : g 140 2 = v1 := e_v1
  refine mz_if_ne (tgt := 13) rfl rfl (mz_rg l_v1 u_v1) (fun c6_1 => ?_) (fun c6_1 => ?_)
  · skip
    refine mm_g 1 (pc1 := 14) (lo1 := [some (.ref 137), some (.int (Int32.ofInt a1))]) (st1 := [.ref 137]) (H1 := mz_mk g x) rfl ?_
    refine mz_fgR (v := 148) rfl fd_12_60 (by decide) (sc_137 _) (rf_137_11 _ _ _) ?_
    refine mm_g 2 (pc1 := 19) (lo1 := [some (.ref 137), some (.int (Int32.ofInt a1))]) (st1 := [.ref 137, .int (Int32.ofInt a1), .ref 148]) (H1 := mz_mk g x) rfl ?_
    refine mz_fgR (v := 140) rfl fd_12_36 (by decide) (sc_137 _) (rf_137_3 _ _ _) ?_
    refine mm_g 1 (pc1 := 23) (lo1 := [some (.ref 137), some (.int (Int32.ofInt a1))]) (st1 := [.int (Int32.ofInt 2), .ref 140, .int (Int32.ofInt a1), .ref 148]) (H1 := mz_mk g x) rfl ?_
    refine mz_ia (v := v1) rfl (sh_140 _) (by decide) (by decide) (by decide) e_v1 ?_
    refine mz_iremq rfl (mz_rg l_a1 u_a1) (mz_rg l_v1 u_v1) (by omega) (by omega) (fun v2 e_v2 l_v2 w_v2 z_v2 => ?_)
    have u_v2 : v2 ≤ 7 := by omega
    refine mz_aI rfl (sh_148 _) (by omega) (by omega) (by decide) hI (ba_148 _) (fun v3 e_v3 l_v3 u_v3 => ?_)
    exact mm_rt rfl rfl (hQ _ (by omega) (by omega))
  · skip
    refine mm_g 1 (pc1 := 10) (lo1 := [some (.ref 137), some (.int (Int32.ofInt a1))]) (st1 := [.int (Int32.ofInt 5)]) (H1 := mz_mk g x) rfl ?_
    refine mz_gt (tgt := 26) rfl rfl ?_
    exact mm_rt rfl rfl (hQ _ (by decide) (by decide))
