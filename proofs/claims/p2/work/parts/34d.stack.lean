/-! THE CLASS'S STACK of signs, as a list (its top first) -/
def rk (a : Int) : Int := if a = -11 then 1 else if a = -12 then 2 else if a = -13 then 3 else if a = -14 ∨ a = -15 then 4 else if a = -16 ∨ a = -17 then 5 else if a = -18 ∨ a = -19 then 6 else 0
def tp (S : List Int) : Int := match S with
  | [] => 0
  | a :: _ => a
def cl : List Int → Int → List Int
  | [], _ => []
  | a :: S, r => if r ≤ rk a then cl S r else a :: S
def sk_at : List Int → Nat → Int
  | [], _ => 0
  | a :: S, n => if n = S.length then a else sk_at S n
/-- the list S lies in the row 84, its count in the reader -/
def st_k (g : mz_G) (S : List Int) : Prop := g 81 4 = (S.length : Int) ∧ S.length ≤ 84 ∧ ∀ n : Nat, n < S.length → g 84 n = sk_at S n
theorem st_k_top {g : mz_G} {a : Int} {S : List Int} (h : st_k g (a :: S)) : g 84 S.length = a := by
  rw [h.2.2 S.length (by simp)]
  simp [sk_at]
theorem st_k_pop {g g1 : mz_G} {a : Int} {S : List Int} (h : st_k g (a :: S)) (e : g1 81 4 = g 81 4 - 1) (f : ∀ j : Nat, g1 84 j = g 84 j) : st_k g1 S := by
  obtain ⟨h1, h2, h3⟩ := h
  simp only [List.length_cons] at h1 h2 h3
  refine ⟨by omega, by omega, fun n hn => ?_⟩
  rw [f, h3 n (by omega)]
  simp only [sk_at]
  rw [if_neg (by omega)]
theorem st_k_push {g g1 : mz_G} {a : Int} {S : List Int} (h : st_k g S) (hl : S.length < 84) (e : g1 81 4 = g 81 4 + 1) (e1 : g1 84 S.length = a) (f : ∀ j : Nat, j ≠ S.length → g1 84 j = g 84 j) : st_k g1 (a :: S) := by
  obtain ⟨h1, h2, h3⟩ := h
  refine ⟨by simp only [List.length_cons]; omega, by simp only [List.length_cons]; omega, fun n hn => ?_⟩
  simp only [List.length_cons] at hn
  simp only [sk_at]
  by_cases hz : n = S.length
  · rw [if_pos hz, hz, e1]
  · rw [if_neg hz, f n hz, h3 n (by omega)]
theorem st_k_fr {g g1 : mz_G} {S : List Int} (h : st_k g S) (e : g1 81 4 = g 81 4) (f : ∀ j : Nat, g1 84 j = g 84 j) : st_k g1 S := ⟨e.trans h.1, h.2.1, fun n hn => (f n).trans (h.2.2 n hn)⟩
/-- a stack on the way of a closing -/
def st_c (g : mz_G) (S : List Int) (r : Int) : Prop := ∃ T : List Int, st_k g T ∧ cl T r = cl S r
theorem st_c_0 {g : mz_G} {S : List Int} {r : Int} (h : st_k g S) : st_c g S r := ⟨S, h, rfl⟩
theorem st_k_b {g : mz_G} {S : List Int} (h : st_k g S) : 0 ≤ g 81 4 ∧ g 81 4 ≤ 84 := ⟨by have h1 := h.1; omega, by have h1 := h.1; have h2 := h.2.1; omega⟩
theorem st_c_pop {g g1 : mz_G} {S T : List Int} {r : Int} (h1 : st_k g T) (h2 : cl T r = cl S r) (hr : r ≤ rk (tp T)) (hc : 0 < g 81 4) (e : g1 81 4 = g 81 4 - 1) (f : ∀ j : Nat, g1 84 j = g 84 j) : st_c g1 S r := by
  cases T with
  | nil =>
    exfalso
    have h := h1.1
    simp only [List.length_nil] at h
    omega
  | cons a T1 =>
    refine ⟨T1, st_k_pop h1 e f, ?_⟩
    rw [← h2]
    exact (if_pos hr).symm
theorem st_c_end {g : mz_G} {S T : List Int} {r : Int} (h1 : st_k g T) (h2 : cl T r = cl S r) (h : g 81 4 ≤ 0 ∨ rk (tp T) < r) : st_k g (cl S r) := by
  rw [← h2]
  cases T with
  | nil => exact h1
  | cons a T1 =>
    have hn : ¬ r ≤ rk a := by
      rcases h with h | h
      · exfalso
        have h3 := h1.1
        simp only [List.length_cons] at h3
        omega
      · have h3 : rk a < r := h
        omega
    have e : cl (a :: T1) r = a :: T1 := if_neg hn
    rw [e]
    exact h1
theorem e_X11_at {d : Nat} (hd : 1 ≤ d) {x : mm_X} (hx : mk_x x) {g : mz_G} (hI : mz_inv g) {q1 n_q1 : Nat} {lb_q1 ub_q1 : Int} (h_q1 : mm_SH x.2.2.2.1 q1 = (100, n_q1)) (m_q1 : n_q1 ≤ 2048) (b_q1 : ∀ j, mz_bd q1 j = (lb_q1, ub_q1)) (y_q1 : lb_q1 ≤ 0) (z_q1 : 0 ≤ ub_q1) {a2 : Int} (l_a2 : (-2147483648) ≤ a2) (u_a2 : a2 ≤ 2147483647) {Q : (Option Value ⊕ Nat) → mm_H → Prop} (hQ : ∀ (r : Int), lb_q1 ≤ r → r ≤ ub_q1 → (0 ≤ a2 → a2 < (n_q1 : Int) → r = g q1 a2.toNat) → ((a2 < 0 ∨ (n_q1 : Int) ≤ a2) → r = 0) → Q (.inl (some (.int (Int32.ofInt r)))) (mz_mk g x)) : mm_C d 176 [.ref q1, .int (Int32.ofInt a2)] (mz_mk g x) Q := by
  have kx := kn_x hx
  refine ⟨mmX11_at, [some (.ref q1), some (.int (Int32.ofInt a2))], rfl, rfl, ?_⟩
  refine mm_g 1 (pc1 := 1) (lo1 := [some (.ref q1), some (.int (Int32.ofInt a2))]) (st1 := [.ref q1]) (H1 := mz_mk g x) rfl ?_
  refine mz_nu rfl ?_
  refine mm_g 1 (pc1 := 5) (lo1 := [some (.ref q1), some (.int (Int32.ofInt a2))]) (st1 := [.int (Int32.ofInt a2)]) (H1 := mz_mk g x) rfl ?_
  refine mz_if_lt (tgt := 20) rfl rfl (mz_rg l_a2 u_a2) (fun c5_0 => ?_) (fun c5_0 => ?_)
  · skip
    refine mm_g 1 (pc1 := 21) (lo1 := [some (.ref q1), some (.int (Int32.ofInt a2))]) (st1 := [.int (Int32.ofInt 0)]) (H1 := mz_mk g x) rfl ?_
    exact mm_rt rfl rfl (hQ _ (by omega) (by omega) (fun h0 h1 => by omega) (fun _ => rfl))
  · skip
    refine mm_g 2 (pc1 := 10) (lo1 := [some (.ref q1), some (.int (Int32.ofInt a2))]) (st1 := [.ref q1, .int (Int32.ofInt a2)]) (H1 := mz_mk g x) rfl ?_
    refine mz_al rfl h_q1 (by decide) ?_
    refine mz_ic_ge (tgt := 20) rfl rfl (mz_rg l_a2 u_a2) ⟨by omega, by omega⟩ (fun c11_0 => ?_) (fun c11_0 => ?_)
    · skip
      refine mm_g 1 (pc1 := 21) (lo1 := [some (.ref q1), some (.int (Int32.ofInt a2))]) (st1 := [.int (Int32.ofInt 0)]) (H1 := mz_mk g x) rfl ?_
      exact mm_rt rfl rfl (hQ _ (by omega) (by omega) (fun h0 h1 => by omega) (fun _ => rfl))
    · skip
      refine mm_g 2 (pc1 := 16) (lo1 := [some (.ref q1), some (.int (Int32.ofInt a2))]) (st1 := [.int (Int32.ofInt a2), .ref q1]) (H1 := mz_mk g x) rfl ?_
      refine mz_aI rfl h_q1 (by omega) (by omega) (by omega) hI (b_q1 _) (fun v1 e_v1 l_v1 u_v1 => ?_)
      refine mz_gt (tgt := 21) rfl rfl ?_
      exact mm_rt rfl rfl (hQ _ (by omega) (by omega) (fun _ _ => e_v1.symm) (fun h => by omega))
theorem e_X11_put {d : Nat} (hd : 1 ≤ d) {x : mm_X} (hx : mk_x x) {g : mz_G} (hI : mz_inv g) {q1 n_q1 : Nat} {lb_q1 ub_q1 : Int} (h_q1 : mm_SH x.2.2.2.1 q1 = (100, n_q1)) (m_q1 : n_q1 ≤ 2048) (b_q1 : ∀ j, mz_bd q1 j = (lb_q1, ub_q1)) (y_q1 : lb_q1 ≤ 0) (z_q1 : 0 ≤ ub_q1) {a2 : Int} (l_a2 : (-2147483648) ≤ a2) (u_a2 : a2 ≤ 2147483647) {a3 : Int} (l_a3 : (-2147483648) ≤ a3) (u_a3 : a3 ≤ 2147483647) (p1 : lb_q1 ≤ a3) (p2 : a3 ≤ ub_q1) {Q : (Option Value ⊕ Nat) → mm_H → Prop} (hQ : ∀ (g1 : mz_G), mz_inv g1 → mz_fr (fw_X11_put x q1 a2 a3) g g1 → (0 ≤ a2 → a2 < (n_q1 : Int) → g1 q1 a2.toNat = a3 ∧ ∀ j : Nat, j ≠ a2.toNat → g1 q1 j = g q1 j) → ((a2 < 0 ∨ (n_q1 : Int) ≤ a2) → ∀ j : Nat, g1 q1 j = g q1 j) → Q (.inl none) (mz_mk g1 x)) : mm_C d 177 [.ref q1, .int (Int32.ofInt a2), .int (Int32.ofInt a3)] (mz_mk g x) Q := by
  have kx := kn_x hx
  refine ⟨mmX11_put, [some (.ref q1), some (.int (Int32.ofInt a2)), some (.int (Int32.ofInt a3))], rfl, rfl, ?_⟩
  refine mm_g 1 (pc1 := 1) (lo1 := [some (.ref q1), some (.int (Int32.ofInt a2)), some (.int (Int32.ofInt a3))]) (st1 := [.ref q1]) (H1 := mz_mk g x) rfl ?_
  refine mz_nu rfl ?_
  refine mm_g 1 (pc1 := 5) (lo1 := [some (.ref q1), some (.int (Int32.ofInt a2)), some (.int (Int32.ofInt a3))]) (st1 := [.int (Int32.ofInt a2)]) (H1 := mz_mk g x) rfl ?_
  refine mz_if_lt (tgt := 18) rfl rfl (mz_rg l_a2 u_a2) (fun c5_0 => ?_) (fun c5_0 => ?_)
  · skip
    exact mm_rt rfl rfl (hQ _ hI (fun _ _ _ => rfl) (fun h0 h1 => by exfalso; omega) (fun _ _ => rfl))
  · skip
    refine mm_g 2 (pc1 := 10) (lo1 := [some (.ref q1), some (.int (Int32.ofInt a2)), some (.int (Int32.ofInt a3))]) (st1 := [.ref q1, .int (Int32.ofInt a2)]) (H1 := mz_mk g x) rfl ?_
    refine mz_al rfl h_q1 (by decide) ?_
    refine mz_ic_ge (tgt := 18) rfl rfl (mz_rg l_a2 u_a2) ⟨by omega, by omega⟩ (fun c11_0 => ?_) (fun c11_0 => ?_)
    · skip
      exact mm_rt rfl rfl (hQ _ hI (fun _ _ _ => rfl) (fun h0 h1 => by exfalso; omega) (fun _ _ => rfl))
    · skip
      refine mm_g 3 (pc1 := 17) (lo1 := [some (.ref q1), some (.int (Int32.ofInt a2)), some (.int (Int32.ofInt a3))]) (st1 := [.int (Int32.ofInt a3), .int (Int32.ofInt a2), .ref q1]) (H1 := mz_mk g x) rfl ?_
      refine mz_sI rfl h_q1 (by omega) (by omega) (by omega) hI (b_q1 _) (by omega) (by omega) (fun g1 hIg1 hug1 => ?_)
      exact mm_rt rfl rfl (hQ _ hIg1 (fun k j hk => (hug1.2 k j (fun h => hk h.1))) (fun _ _ => ⟨hug1.1, fun j hj => hug1.2 q1 j (fun h => hj h.2)⟩) (fun h => by exfalso; omega))
theorem e_X4_rankOf {d : Nat} (hd : 1 ≤ d) {x : mm_X} (hx : mk_x x) {g : mz_G} (hI : mz_inv g) {a1 : Int} (l_a1 : (-2147483648) ≤ a1) (u_a1 : a1 ≤ 2147483647) {Q : (Option Value ⊕ Nat) → mm_H → Prop} (hQ : ∀ (r : Int), 0 ≤ r → r ≤ 6 → (r = rk a1) → Q (.inl (some (.int (Int32.ofInt r)))) (mz_mk g x)) : mm_C d 56 [.int (Int32.ofInt a1)] (mz_mk g x) Q := by
  refine ⟨mmX4_rankOf, [some (.int (Int32.ofInt a1))], rfl, rfl, ?_⟩
  refine mm_g 1 (pc1 := 1) (lo1 := [some (.int (Int32.ofInt a1))]) (st1 := [.int (Int32.ofInt a1)]) (H1 := mz_mk g x) rfl ?_
  by_cases c1_0 : a1 = (-19)
  · refine mz_tsi (tgt := 62) rfl (mz_rg l_a1 u_a1) (by omega) (by omega) (by rw [c1_0]; rfl) rfl ?_
    refine mz_bip rfl bip_6 ?_
    exact mm_rt rfl rfl (hQ _ (by decide) (by decide) (by unfold rk; (repeat' split) <;> omega))
  by_cases c1_1 : a1 = (-18)
  · refine mz_tsi (tgt := 62) rfl (mz_rg l_a1 u_a1) (by omega) (by omega) (by rw [c1_1]; rfl) rfl ?_
    refine mz_bip rfl bip_6 ?_
    exact mm_rt rfl rfl (hQ _ (by decide) (by decide) (by unfold rk; (repeat' split) <;> omega))
  by_cases c1_2 : a1 = (-17)
  · refine mz_tsi (tgt := 60) rfl (mz_rg l_a1 u_a1) (by omega) (by omega) (by rw [c1_2]; rfl) rfl ?_
    refine mm_g 1 (pc1 := 61) (lo1 := [some (.int (Int32.ofInt a1))]) (st1 := [.int (Int32.ofInt 5)]) (H1 := mz_mk g x) rfl ?_
    exact mm_rt rfl rfl (hQ _ (by decide) (by decide) (by unfold rk; (repeat' split) <;> omega))
  by_cases c1_3 : a1 = (-16)
  · refine mz_tsi (tgt := 60) rfl (mz_rg l_a1 u_a1) (by omega) (by omega) (by rw [c1_3]; rfl) rfl ?_
    refine mm_g 1 (pc1 := 61) (lo1 := [some (.int (Int32.ofInt a1))]) (st1 := [.int (Int32.ofInt 5)]) (H1 := mz_mk g x) rfl ?_
    exact mm_rt rfl rfl (hQ _ (by decide) (by decide) (by unfold rk; (repeat' split) <;> omega))
  by_cases c1_4 : a1 = (-15)
  · refine mz_tsi (tgt := 58) rfl (mz_rg l_a1 u_a1) (by omega) (by omega) (by rw [c1_4]; rfl) rfl ?_
    refine mm_g 1 (pc1 := 59) (lo1 := [some (.int (Int32.ofInt a1))]) (st1 := [.int (Int32.ofInt 4)]) (H1 := mz_mk g x) rfl ?_
    exact mm_rt rfl rfl (hQ _ (by decide) (by decide) (by unfold rk; (repeat' split) <;> omega))
  by_cases c1_5 : a1 = (-14)
  · refine mz_tsi (tgt := 58) rfl (mz_rg l_a1 u_a1) (by omega) (by omega) (by rw [c1_5]; rfl) rfl ?_
    refine mm_g 1 (pc1 := 59) (lo1 := [some (.int (Int32.ofInt a1))]) (st1 := [.int (Int32.ofInt 4)]) (H1 := mz_mk g x) rfl ?_
    exact mm_rt rfl rfl (hQ _ (by decide) (by decide) (by unfold rk; (repeat' split) <;> omega))
  by_cases c1_6 : a1 = (-13)
  · refine mz_tsi (tgt := 56) rfl (mz_rg l_a1 u_a1) (by omega) (by omega) (by rw [c1_6]; rfl) rfl ?_
    refine mm_g 1 (pc1 := 57) (lo1 := [some (.int (Int32.ofInt a1))]) (st1 := [.int (Int32.ofInt 3)]) (H1 := mz_mk g x) rfl ?_
    exact mm_rt rfl rfl (hQ _ (by decide) (by decide) (by unfold rk; (repeat' split) <;> omega))
  by_cases c1_7 : a1 = (-12)
  · refine mz_tsi (tgt := 54) rfl (mz_rg l_a1 u_a1) (by omega) (by omega) (by rw [c1_7]; rfl) rfl ?_
    refine mm_g 1 (pc1 := 55) (lo1 := [some (.int (Int32.ofInt a1))]) (st1 := [.int (Int32.ofInt 2)]) (H1 := mz_mk g x) rfl ?_
    exact mm_rt rfl rfl (hQ _ (by decide) (by decide) (by unfold rk; (repeat' split) <;> omega))
  by_cases c1_8 : a1 = (-11)
  · refine mz_tsi (tgt := 52) rfl (mz_rg l_a1 u_a1) (by omega) (by omega) (by rw [c1_8]; rfl) rfl ?_
    refine mm_g 1 (pc1 := 53) (lo1 := [some (.int (Int32.ofInt a1))]) (st1 := [.int (Int32.ofInt 1)]) (H1 := mz_mk g x) rfl ?_
    exact mm_rt rfl rfl (hQ _ (by decide) (by decide) (by unfold rk; (repeat' split) <;> omega))
  refine mz_tso (tgt := 65) rfl (mz_rg l_a1 u_a1) (by omega) rfl ?_
  refine mm_g 1 (pc1 := 66) (lo1 := [some (.int (Int32.ofInt a1))]) (st1 := [.int (Int32.ofInt 0)]) (H1 := mz_mk g x) rfl ?_
  exact mm_rt rfl rfl (hQ _ (by decide) (by decide) (by unfold rk; (repeat' split) <;> omega))
theorem e_X4_lastOpen {d : Nat} (hd : 2 ≤ d) {x : mm_X} (hx : mk_x x) {g : mz_G} (hI : mz_inv g) {S : List Int} (p1 : st_k g S) {Q : (Option Value ⊕ Nat) → mm_H → Prop} (hQ : ∀ (r : Int), (-2147483648) ≤ r → r ≤ 2147483647 → (r = tp S) → Q (.inl (some (.int (Int32.ofInt r)))) (mz_mk g x)) : mm_C d 52 [.ref 81] (mz_mk g x) Q := by
  refine ⟨mmX4_lastOpen, [some (.ref 81)], rfl, rfl, ?_⟩
  have bz0 := mz_rd hI bd_81_4
  have hk4 : 0 ≤ g 81 4 ∧ g 81 4 ≤ 84 := ⟨by have h := p1.1; omega, by have h := p1.1; have h2 := p1.2.1; omega⟩
  refine mm_g 1 (pc1 := 1) (lo1 := [some (.ref 81)]) (st1 := [.ref 81]) (H1 := mz_mk g x) rfl ?_
  refine mz_fgR (v := 84) rfl fd_4_25 (by decide) (sc_81 _) (rf_81_3 _ _ _) ?_
  refine mm_g 1 (pc1 := 5) (lo1 := [some (.ref 81)]) (st1 := [.ref 81, .ref 84]) (H1 := mz_mk g x) rfl ?_
  refine mz_fgI (v := (g 81 4)) rfl fd_4_29 (by decide) (sc_81 _) (show g 81 4 = (g 81 4) from rfl) ?_
  refine mm_g 1 (pc1 := 9) (lo1 := [some (.ref 81)]) (st1 := [.int (Int32.ofInt 1), .int (Int32.ofInt (g 81 4)), .ref 84]) (H1 := mz_mk g x) rfl ?_
  refine mz_isub rfl ?_
  refine mz_cs rfl mt_4_199 (by decide) rfl (Nat.le_of_ble_eq_true rfl) (by omega) (e_X11_at (by omega) hx hI (sh_84 _) (by decide) ba_84 (by omega) (by omega) (by omega) (by omega) (fun v1 l_v1 u_v1 hp2 hp3 => ⟨_, rfl, ?_⟩))
  show mm_W d mmX4_lastOpen 13 [some (.ref 81)] [.int (Int32.ofInt v1)] (mz_mk g x) Q
  exact mm_rt rfl rfl (hQ _ (by omega) (by omega) (by have h1 := p1.1; cases S with | nil => (simp only [List.length_nil] at h1; exact hp3 (Or.inl (by omega))) | cons a T => (simp only [List.length_cons] at h1; have h2 := p1.2.1; simp only [List.length_cons] at h2; have h3 := hp2 (by omega) (by omega); rw [h3, show ((((g 81 4) - 1)) : Int).toNat = T.length by omega]; exact st_k_top p1)))
theorem e_X4_openSign {d : Nat} (hd : 2 ≤ d) {x : mm_X} (hx : mk_x x) {g : mz_G} (hI : mz_inv g) {a1 : Int} (l_a1 : (-2147483648) ≤ a1) (u_a1 : a1 ≤ 2147483647) {S : List Int} (p1 : st_k g S) (p2 : S.length < 84) {Q : (Option Value ⊕ Nat) → mm_H → Prop} (hQ : ∀ (g1 : mz_G), mz_inv g1 → mz_fr (fw_X4_openSign x a1) g g1 → (st_k g1 (a1 :: S)) → Q (.inl none) (mz_mk g1 x)) : mm_C d 51 [.ref 81, .int (Int32.ofInt a1)] (mz_mk g x) Q := by
  refine ⟨mmX4_openSign, [some (.ref 81), some (.int (Int32.ofInt a1))], rfl, rfl, ?_⟩
  have bz0 := mz_rd hI bd_81_4
  have hk4 : 0 ≤ g 81 4 ∧ g 81 4 ≤ 84 := ⟨by have h := p1.1; omega, by have h := p1.1; have h2 := p1.2.1; omega⟩
  refine mm_g 1 (pc1 := 1) (lo1 := [some (.ref 81), some (.int (Int32.ofInt a1))]) (st1 := [.ref 81]) (H1 := mz_mk g x) rfl ?_
  refine mz_fgR (v := 84) rfl fd_4_25 (by decide) (sc_81 _) (rf_81_3 _ _ _) ?_
  refine mm_g 1 (pc1 := 5) (lo1 := [some (.ref 81), some (.int (Int32.ofInt a1))]) (st1 := [.ref 81, .ref 84]) (H1 := mz_mk g x) rfl ?_
  refine mz_fgI (v := (g 81 4)) rfl fd_4_29 (by decide) (sc_81 _) (show g 81 4 = (g 81 4) from rfl) ?_
  refine mm_g 1 (pc1 := 9) (lo1 := [some (.ref 81), some (.int (Int32.ofInt a1))]) (st1 := [.int (Int32.ofInt a1), .int (Int32.ofInt (g 81 4)), .ref 84]) (H1 := mz_mk g x) rfl ?_
  refine mz_cs rfl mt_4_195 (by decide) rfl (Nat.le_of_ble_eq_true rfl) (by omega) (e_X11_put (by omega) hx hI (sh_84 _) (by decide) ba_84 (by omega) (by omega) (by omega) (by omega) l_a1 u_a1 (by omega) (by omega) (fun g1 hIg1 hfg1 hp2 hp3 => ⟨_, rfl, ?_⟩))
  show mm_W d mmX4_openSign 12 [some (.ref 81), some (.int (Int32.ofInt a1))] [] (mz_mk g1 x) Q
  refine mm_g 2 (pc1 := 14) (lo1 := [some (.ref 81), some (.int (Int32.ofInt a1))]) (st1 := [.ref 81, .ref 81]) (H1 := mz_mk g1 x) rfl ?_
  refine mz_fgI (v := (g 81 4)) rfl fd_4_29 (by decide) (sc_81 _) (show g1 81 4 = (g 81 4) from ((hfg1 81 4 (fun h => (absurd (show 81 = 84 from h) (by decide)))).trans rfl)) ?_
  refine mm_g 1 (pc1 := 18) (lo1 := [some (.ref 81), some (.int (Int32.ofInt a1))]) (st1 := [.int (Int32.ofInt 1), .int (Int32.ofInt (g 81 4)), .ref 81]) (H1 := mz_mk g1 x) rfl ?_
  refine mz_iadd rfl ?_
  refine mz_pI rfl fd_4_29 (sc_81 _) hIg1 bd_81_4 (by omega) (by omega) (fun g4 hIg4 hug4 => ?_)
  exact mm_rt rfl rfl (hQ _ hIg4 (fun k j hk => ((hug4.2 k j (fun h => hk (Or.inr h))).trans (hfg1 k j (fun h => hk (Or.inl h))))) (by have h1 := p1.1; have hp := hp2 (by omega) (by omega); rw [show (((g 81 4)) : Int).toNat = S.length by omega] at hp; exact st_k_push p1 p2 (by have h9 := (show g4 81 4 = ((g 81 4) + 1) from hug4.1); omega) ((hug4.2 84 S.length (fun h => absurd h.1 (by decide))).trans hp.1) (fun j hj => (hug4.2 84 j (fun h => absurd h.1 (by decide))).trans (hp.2 j hj))))
theorem e_X4_closeSigns {d : Nat} (hd : 3 ≤ d) {x : mm_X} (hx : mk_x x) {g : mz_G} (hI : mz_inv g) {q1 : Nat} (h_q1 : kd_rule q1) {a2 : Int} (l_a2 : (-2147483648) ≤ a2) (u_a2 : a2 ≤ 2147483647) {S : List Int} (p1 : st_k g S) {Q : (Option Value ⊕ Nat) → mm_H → Prop} (hQ : ∀ (g1 : mz_G), mz_inv g1 → mz_fr (fw_X4_closeSigns x q1 a2) g g1 → (st_k g1 (cl S a2)) → Q (.inl none) (mz_mk g1 x)) : mm_C d 53 [.ref 81, .ref q1, .int (Int32.ofInt a2)] (mz_mk g x) Q := by
  have kn_q1 := kn_rule h_q1
  refine ⟨mmX4_closeSigns, [some (.ref 81), some (.ref q1), some (.int (Int32.ofInt a2))], rfl, rfl, ?_⟩
  have bz0 := mz_rd hI bd_81_4
  have hk4 := st_k_b p1
  have L4 : ∀ n3 : Nat, ∀ (g1 : mz_G), (g1 81 4).toNat = n3 → mz_inv g1 → mz_fr (fl_X4_closeSigns_0 x q1 a2) g g1 → (st_c g1 S a2) → mm_W d mmX4_closeSigns 0 [some (.ref 81), some (.ref q1), some (.int (Int32.ofInt a2))] [] (mz_mk g1 x) Q := by
    intro n3
    induction n3 using Nat.strongRecOn with
    | ind n3 ih2 =>
    intro g1 hmn3 hIg1 hfg1 hv5
    obtain ⟨T5, h1T5, h2T5⟩ := hv5
    have hbT5 := st_k_b h1T5
    refine mm_g 1 (pc1 := 1) (lo1 := [some (.ref 81), some (.ref q1), some (.int (Int32.ofInt a2))]) (st1 := [.ref 81]) (H1 := mz_mk g1 x) rfl ?_
    refine mz_fgI (v := (g1 81 4)) rfl fd_4_29 (by decide) (sc_81 _) (show g1 81 4 = (g1 81 4) from rfl) ?_
    refine mz_if_le (tgt := 39) rfl rfl ⟨by omega, by omega⟩ (fun c4_6 => ?_) (fun c4_6 => ?_)
    · skip
      exact mm_rt rfl rfl (hQ _ hIg1 (fun k j hk => (hfg1 k j (fun h => hk (Or.elim h (fun h => (Or.inl h)) (fun h => (Or.elim h (fun h => (Or.inr (Or.inl h))) (fun h => (Or.inr (Or.inr h))))))))) (st_c_end h1T5 h2T5 (Or.inl (by omega))))
    · skip
      refine mm_g 1 (pc1 := 8) (lo1 := [some (.ref 81), some (.ref q1), some (.int (Int32.ofInt a2))]) (st1 := [.ref 81]) (H1 := mz_mk g1 x) rfl ?_
      refine mz_cv rfl mt_4_192 (by decide) (sc_81 _) rfl (Nat.le_of_ble_eq_true rfl) (by omega) (e_X4_lastOpen (by omega) hx hIg1 h1T5 (fun v7 l_v7 u_v7 hp8 => ⟨_, rfl, ?_⟩))
      show mm_W d mmX4_closeSigns 11 [some (.ref 81), some (.ref q1), some (.int (Int32.ofInt a2))] [.int (Int32.ofInt v7)] (mz_mk g1 x) Q
      refine mz_cs rfl mt_4_188 (by decide) rfl (Nat.le_of_ble_eq_true rfl) (by omega) (e_X4_rankOf (by omega) hx hIg1 l_v7 u_v7 (fun v9 l_v9 u_v9 hp10 => ⟨_, rfl, ?_⟩))
      show mm_W d mmX4_closeSigns 14 [some (.ref 81), some (.ref q1), some (.int (Int32.ofInt a2))] [.int (Int32.ofInt v9)] (mz_mk g1 x) Q
      refine mm_g 1 (pc1 := 15) (lo1 := [some (.ref 81), some (.ref q1), some (.int (Int32.ofInt a2))]) (st1 := [.int (Int32.ofInt a2), .int (Int32.ofInt v9)]) (H1 := mz_mk g1 x) rfl ?_
      refine mz_ic_lt (tgt := 39) rfl rfl (mz_rg l_v9 u_v9) (mz_rg l_a2 u_a2) (fun c15_10 => ?_) (fun c15_10 => ?_)
      · skip
        exact mm_rt rfl rfl (hQ _ hIg1 (fun k j hk => (hfg1 k j (fun h => hk (Or.elim h (fun h => (Or.inl h)) (fun h => (Or.elim h (fun h => (Or.inr (Or.inl h))) (fun h => (Or.inr (Or.inr h))))))))) (st_c_end h1T5 h2T5 (Or.inr (by rw [← hp8, ← hp10]; omega))))
      · skip
        refine mm_g 2 (pc1 := 20) (lo1 := [some (.ref 81), some (.ref q1), some (.int (Int32.ofInt a2))]) (st1 := [.ref 81, .ref q1]) (H1 := mz_mk g1 x) rfl ?_
        refine mz_cv rfl mt_4_192 (by decide) (sc_81 _) rfl (Nat.le_of_ble_eq_true rfl) (by omega) (e_X4_lastOpen (by omega) hx hIg1 h1T5 (fun v11 l_v11 u_v11 hp12 => ⟨_, rfl, ?_⟩))
        show mm_W d mmX4_closeSigns 23 [some (.ref 81), some (.ref q1), some (.int (Int32.ofInt a2))] [.int (Int32.ofInt v11), .ref q1] (mz_mk g1 x) Q
        refine mz_cv rfl mt_4_182 (by decide) (kc_rule h_q1 _) rfl (Nat.le_of_ble_eq_true rfl) (by omega) (c_X5_addStep (by omega) hx hIg1 h_q1 l_v11 u_v11 (fun g13 hIg13 hfg13 => ⟨_, rfl, ?_⟩))
        show mm_W d mmX4_closeSigns 26 [some (.ref 81), some (.ref q1), some (.int (Int32.ofInt a2))] [] (mz_mk g13 x) Q
        refine mm_g 2 (pc1 := 28) (lo1 := [some (.ref 81), some (.ref q1), some (.int (Int32.ofInt a2))]) (st1 := [.ref 81, .ref 81]) (H1 := mz_mk g13 x) rfl ?_
        refine mz_fgI (v := (g1 81 4)) rfl fd_4_29 (by decide) (sc_81 _) (show g13 81 4 = (g1 81 4) from ((hfg13 81 4 (fun h => (Or.elim h (fun h => (by have h9 : 81 = (q1 + 1) := h; omega)) (fun h => (by have h9 : 81 = q1 := h; omega))))).trans rfl)) ?_
        refine mm_g 1 (pc1 := 32) (lo1 := [some (.ref 81), some (.ref q1), some (.int (Int32.ofInt a2))]) (st1 := [.int (Int32.ofInt 1), .int (Int32.ofInt (g1 81 4)), .ref 81]) (H1 := mz_mk g13 x) rfl ?_
        refine mz_isub rfl ?_
        refine mz_pI rfl fd_4_29 (sc_81 _) hIg13 bd_81_4 (by omega) (by omega) (fun g14 hIg14 hug14 => ?_)
        refine mz_gt (tgt := 0) rfl rfl ?_
        exact ih2 ((g14 81 4).toNat) (by have h9 := (show g14 81 4 = ((g1 81 4) - 1) from hug14.1); omega) g14 rfl hIg14 (fun k j hk => ((hug14.2 k j (fun h => hk (Or.inr (Or.inr h)))).trans ((hfg13 k j (fun h => hk (Or.elim h (fun h => (Or.inl h)) (fun h => (Or.inr (Or.inl h)))))).trans (hfg1 k j (fun h => hk (Or.elim h (fun h => (Or.inl h)) (fun h => (Or.elim h (fun h => (Or.inr (Or.inl h))) (fun h => (Or.inr (Or.inr h))))))))))) (st_c_pop h1T5 h2T5 (by rw [← hp8, ← hp10]; omega) (by omega) (by have h9 := (show g14 81 4 = ((g1 81 4) - 1) from hug14.1); omega) (fun j => ((hug14.2 84 j (fun h => absurd h.1 (by decide))).trans (hfg13 84 j (fun h => (Or.elim h (fun h => (by have h9 : 84 = (q1 + 1) := h; omega)) (fun h => (by have h9 : 84 = q1 := h; omega))))))))
  exact L4 _ g rfl hI (fun _ _ _ => rfl) (st_c_0 p1)
