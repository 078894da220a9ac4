/-! WHICH WORD of a list is spelled; a number of four digits at the most; the reference's token now -/
def sa_i (q : Nat) : Nat := if q = 138 then 14 else 16
theorem kw_sa_i (x : mm_X) {q n : Nat} (h : mk_sa q n) {a : Int} (h0 : 0 ≤ a) (h1 : a < n) {u : Nat} (e : mm_HR x.1 x.2.1 x.2.2.1 q a.toNat = some (1000 + u)) : u = sa_i q + a.toNat := by
  obtain ⟨m, rfl⟩ : ∃ m : Nat, a = m := ⟨a.toNat, by omega⟩
  rw [Int.toNat_natCast] at e ⊢
  have go : ∀ c : Nat, mm_HR x.1 x.2.1 x.2.2.1 q m = some (1000 + c) → u = c := fun c h => by
    have := Option.some.inj (e.symm.trans h)
    omega
  rcases h with ⟨rfl, rfl⟩ | ⟨rfl, rfl⟩
  · have hm : m = 0 ∨ m = 1 := by omega
    rcases hm with rfl | rfl
    · exact go 14 rfl
    · exact go 15 rfl
  · have hm : m = 0 ∨ m = 1 ∨ m = 2 ∨ m = 3 ∨ m = 4 ∨ m = 5 ∨ m = 6 := by omega
    rcases hm with rfl | rfl | rfl | rfl | rfl | rfl | rfl
    · exact go 16 rfl
    · exact go 17 rfl
    · exact go 18 rfl
    · exact go 19 rfl
    · exact go 20 rfl
    · exact go 21 rfl
    · exact go 22 rfl
theorem tk_nv_b {B : Int → Int} {b : Int} : ∀ {k : Nat}, tk_all tk_dig B b (b + (k : Int)) → k ≤ 4 → 0 ≤ tk_nv B b k ∧ (k ≤ 0 → tk_nv B b k ≤ 0) ∧ (k ≤ 1 → tk_nv B b k ≤ 9) ∧ (k ≤ 2 → tk_nv B b k ≤ 99) ∧ (k ≤ 3 → tk_nv B b k ≤ 999) ∧ tk_nv B b k ≤ 9999
  | 0, _, _ => by
    show (0 : Int) ≤ 0 ∧ (_ → (0 : Int) ≤ 0) ∧ (_ → (0 : Int) ≤ 9) ∧ (_ → (0 : Int) ≤ 99) ∧ (_ → (0 : Int) ≤ 999) ∧ (0 : Int) ≤ 9999
    omega
  | k + 1, h, hk => by
    have h1 := tk_nv_b (k := k) (fun i a c => h i a (by omega)) (by omega)
    have h2 : tk_dig (B (b + (k : Int))) := h _ (by omega) (by omega)
    unfold tk_dig at h2
    simp only [tk_nv]
    omega
/-- the reference's token now is a token -/
def rq_t (g : mz_G) : Prop := ∃ p, tk_tok (mz_rb g) (g 137 17) p (g 137 20) (g 137 16) (tk_rk (g 137 18) (mz_rb g (g 137 20))) (g 137 19)
theorem e_X12_which {d : Nat} (hd : 6 ≤ d) {x : mm_X} (hx : mk_x x) {g : mz_G} (hI : mz_inv g) {q1 n_q1 : Nat} (h_q1 : mk_sa q1 n_q1) (p1 : g 137 20 ≤ g 137 16 ∧ g 137 21 = g 137 16 ∧ g 137 16 ≤ g 137 17 ∧ (g 137 18 ≠ 0 → g 137 20 < g 137 16)) (p2 : mz_str g) {Q : (Option Value ⊕ Nat) → mm_H → Prop} (hQ : ∀ (r : Int), (-1) ≤ r → r ≤ 6 → (r ≠ -1 → g 137 22 = 0 ∧ g 137 18 = 1) → (r < (n_q1 : Int)) → (0 ≤ r → tk_iq g (sa_i q1 + r.toNat)) → (r = -1 → ∀ j : Nat, j < n_q1 → ¬ tk_iq g (sa_i q1 + j)) → Q (.inl (some (.int (Int32.ofInt r)))) (mz_mk g x)) : mm_C d 195 [.ref 137, .ref q1] (mz_mk g x) Q := by
  refine ⟨mmX12_which, [some (.ref 137), some (.ref q1), none], rfl, rfl, ?_⟩
  have bz0 := mz_rd hI bd_137_16
  have bz1 := mz_rd hI bd_137_17
  have bz2 := mz_rd hI bd_137_18
  have bz3 := mz_rd hI bd_137_20
  have bz4 := mz_rd hI bd_137_21
  have bz5 := mz_rd hI bd_137_22
  have kq := mk_sa_n h_q1
  have hstr := p2
  refine mm_g 2 (pc1 := 2) (lo1 := [some (.ref 137), some (.ref q1), some (.int (Int32.ofInt 0))]) (st1 := []) (H1 := mz_mk g x) rfl ?_
  have L5 : ∀ n4 : Nat, ∀ (v1 : Int), (7 - v1).toNat = n4 → 0 ≤ v1 → v1 ≤ 7 → (∀ j : Nat, (j : Int) < v1 → ¬ tk_iq g (sa_i q1 + j)) → mm_W d mmX12_which 2 [some (.ref 137), some (.ref q1), some (.int (Int32.ofInt v1))] [] (mz_mk g x) Q := by
    intro n4
    induction n4 using Nat.strongRecOn with
    | ind n4 ih3 =>
    intro v1 hmn4 l_v1 u_v1 hv6
    refine mm_g 2 (pc1 := 4) (lo1 := [some (.ref 137), some (.ref q1), some (.int (Int32.ofInt v1))]) (st1 := [.ref q1, .int (Int32.ofInt v1)]) (H1 := mz_mk g x) rfl ?_
    refine mz_al rfl (kc_sa h_q1 _) (by decide) ?_
    refine mz_ic_ge (tgt := 26) rfl rfl (mz_rg l_v1 u_v1) ⟨by omega, by omega⟩ (fun c5_6 => ?_) (fun c5_6 => ?_)
    · skip
      refine mm_g 1 (pc1 := 27) (lo1 := [some (.ref 137), some (.ref q1), some (.int (Int32.ofInt v1))]) (st1 := [.int (Int32.ofInt (-1))]) (H1 := mz_mk g x) rfl ?_
      exact mm_rt rfl rfl (hQ _ (by decide) (by decide) (fun z => absurd rfl z) (by omega) (fun z => by omega) (fun _ j hj => hv6 j (by omega)))
    · skip
      refine mm_g 3 (pc1 := 11) (lo1 := [some (.ref 137), some (.ref q1), some (.int (Int32.ofInt v1))]) (st1 := [.int (Int32.ofInt v1), .ref q1, .ref 137]) (H1 := mz_mk g x) rfl ?_
      obtain ⟨u7, k_u7, e_u7⟩ := kw_sa x h_q1 (a := v1) (by omega) (by omega)
      refine mz_aa rfl (kc_sa h_q1 _) (by decide) (by omega) (by omega) (km_sa h_q1) e_u7 ?_
      have su7 := kw_sa_i x h_q1 (by omega) (by omega) e_u7
      have hq9 : g 137 16 = (g 137 16) := (show g 137 16 = (g 137 16) from rfl)
      have hq10 : g 137 17 = (g 137 17) := (show g 137 17 = (g 137 17) from rfl)
      have hq11 : g 137 18 = (g 137 18) := (show g 137 18 = (g 137 18) from rfl)
      have hq12 : g 137 20 = (g 137 20) := (show g 137 20 = (g 137 20) from rfl)
      have hq13 : g 137 21 = (g 137 21) := (show g 137 21 = (g 137 21) from rfl)
      have hq14 : g 137 22 = (g 137 22) := (show g 137 22 = (g 137 22) from rfl)
      refine mz_cv rfl mt_12_217 (by decide) (sc_137 _) rfl (Nat.le_of_ble_eq_true rfl) (by omega) (e_X12_is (by omega) hx hI k_u7 (by have h90 := (show g 137 16 = (g 137 16) from rfl); have h91 := (show g 137 17 = (g 137 17) from rfl); have h92 := (show g 137 18 = (g 137 18) from rfl); have h93 := (show g 137 20 = (g 137 20) from rfl); have h94 := (show g 137 21 = (g 137 21) from rfl); have h95 := (show g 137 22 = (g 137 22) from rfl); omega) hstr (fun v15 l_v15 u_v15 hp16 => ⟨_, rfl, ?_⟩))
      show mm_W d mmX12_which 15 [some (.ref 137), some (.ref q1), some (.int (Int32.ofInt v1))] [.int (Int32.ofInt v15)] (mz_mk g x) Q
      refine mz_if_eq (tgt := 20) rfl rfl (mz_rg l_v15 u_v15) (fun c15_16 => ?_) (fun c15_16 => ?_)
      · skip
        refine mz_iincR (v := v1) (lo2 := [some (.ref 137), some (.ref q1), some (.int (Int32.ofInt (v1 + 1)))]) rfl rfl rfl (Nat.le_of_ble_eq_true rfl) rfl ?_
        refine mz_gt (tgt := 2) rfl rfl ?_
        exact ih3 ((7 - (v1 + 1)).toNat) (by omega) (v1 + 1) rfl (by omega) (by omega) (fun j hj => by rcases (by omega : (j : Int) < v1 ∨ j = (v1 : Int).toNat) with z | z; exact hv6 j z; intro y; rw [z, ← su7] at y; have h9 := hp16.mpr y; omega)
      · skip
        refine mm_g 1 (pc1 := 19) (lo1 := [some (.ref 137), some (.ref q1), some (.int (Int32.ofInt v1))]) (st1 := [.int (Int32.ofInt v1)]) (H1 := mz_mk g x) rfl ?_
        exact mm_rt rfl rfl (hQ _ (by omega) (by omega) (fun _ => by have h8 := hp16.mp (by omega); exact ⟨h8.1, h8.2.1⟩) (by omega) (fun _ => by have h8 := hp16.mp (by omega); rw [su7] at h8; exact h8) (fun z => by omega))
  exact L5 _ 0 rfl (by decide) (by decide) (fun j hj => absurd hj (by omega))
