/-! A STEP of the class's reading of a rule, as what it does to the stack (a fault's kind and place | part due, within, the stack, may a not stand, nots) -/
def tk_val (B : Int → Int) (kd b e : Int) : Prop := tk_sp B kd b e 6 ∨ tk_sp B kd b e 3 ∨ tk_sp B kd b e 7 ∨ tk_sp B kd b e 8 ∨ tk_sp B kd b e 9 ∨ tk_sp B kd b e 10 ∨ tk_sp B kd b e 11
def tk_so (B : Int → Int) (kd b e r : Int) : Prop := (kd = 60 → r = -14) ∧ (kd = 61 → r = -15) ∧ (kd = 43 → r = -16) ∧ (kd = 45 → r = -17) ∧ (kd = 42 → r = -18) ∧ (kd = 47 → r = -19) ∧ (kd ≠ 60 → kd ≠ 61 → kd ≠ 43 → kd ≠ 45 → kd ≠ 42 → kd ≠ 47 → (tk_sp B kd b e 12 → r = -11) ∧ (¬ tk_sp B kd b e 12 → tk_sp B kd b e 13 → r = -12) ∧ (¬ tk_sp B kd b e 12 → ¬ tk_sp B kd b e 13 → r = 0))
def cp_part (B : Int → Int) (b e kd w : Int) (S : List Int) (nc k : Int) (F : Int → Int → Prop) (N : Int → Int → List Int → Int → Int → Prop) : Prop :=
  (kd ≠ 2 → kd ≠ 1 → kd ≠ 40 → F 1 b) ∧ ((kd = 2 ∨ kd = 1 ∨ kd = 40) → (6 ≤ w → F 2 b) ∧ (w < 6 → (kd = 40 → N 1 (w + 1) (-20 :: S) 1 0) ∧ (kd ≠ 40 → ((nc = 1 ∧ tk_sp B kd b e 5) → (6 ≤ k → F 2 b) ∧ (k < 6 → N 1 w (-13 :: S) nc (k + 1))) ∧ (¬ (nc = 1 ∧ tk_sp B kd b e 5) → ((kd = 2 ∧ 4 < e - b) → F 2 b) ∧ ((kd = 1 ∧ ¬ tk_val B kd b e) → F 3 b) ∧ (¬ (kd = 2 ∧ 4 < e - b) → ¬ (kd = 1 ∧ ¬ tk_val B kd b e) → N 0 w S nc k)))))
def cp_F (g1 : mz_G) (r what place : Int) : Prop := r = 0 ∧ g1 81 1 = what ∧ g1 81 2 = place
def cp_N (B : Int → Int) (n e : Int) (g g1 : mz_G) (r d w : Int) (S : List Int) (nc k : Int) : Prop := r = 1 ∧ st_k g1 S ∧ g1 81 7 = d ∧ g1 81 5 = w ∧ g1 81 8 = nc ∧ g1 81 6 = k ∧ g1 81 1 = g 81 1 ∧ g1 81 2 = g 81 2 ∧ ∃ nu, tk_tok B n e (g1 82 5) (g1 82 3) (g1 82 4) nu
theorem e_X7_kind {d : Nat} (hd : 1 ≤ d) {x : mm_X} (hx : mk_x x) {g : mz_G} (hI : mz_inv g) {Q : (Option Value ⊕ Nat) → mm_H → Prop} (hQ : ∀ (r : Int), (-2147483648) ≤ r → r ≤ 2147483647 → (r = g 82 4) → Q (.inl (some (.int (Int32.ofInt r)))) (mz_mk g x)) : mm_C d 88 [.ref 82] (mz_mk g x) Q := by
  refine ⟨mmX7_kind, [some (.ref 82)], rfl, rfl, ?_⟩
  refine mm_g 1 (pc1 := 1) (lo1 := [some (.ref 82)]) (st1 := [.ref 82]) (H1 := mz_mk g x) rfl ?_
  refine mz_gI rfl fd_7_25 (by decide) (sc_82 _) hI bd_82_4 (fun v1 e_v1 l_v1 u_v1 => ?_)
  exact mm_rt rfl rfl (hQ _ (by omega) (by omega) (e_v1.symm))
theorem e_X7_start {d : Nat} (hd : 1 ≤ d) {x : mm_X} (hx : mk_x x) {g : mz_G} (hI : mz_inv g) {Q : (Option Value ⊕ Nat) → mm_H → Prop} (hQ : ∀ (r : Int), 0 ≤ r → r ≤ 700 → (r = g 82 5) → Q (.inl (some (.int (Int32.ofInt r)))) (mz_mk g x)) : mm_C d 89 [.ref 82] (mz_mk g x) Q := by
  refine ⟨mmX7_start, [some (.ref 82)], rfl, rfl, ?_⟩
  refine mm_g 1 (pc1 := 1) (lo1 := [some (.ref 82)]) (st1 := [.ref 82]) (H1 := mz_mk g x) rfl ?_
  refine mz_gI rfl fd_7_28 (by decide) (sc_82 _) hI bd_82_5 (fun v1 e_v1 l_v1 u_v1 => ?_)
  exact mm_rt rfl rfl (hQ _ (by omega) (by omega) (e_v1.symm))
theorem e_X4_blame {d : Nat} (hd : 2 ≤ d) {x : mm_X} (hx : mk_x x) {g : mz_G} (hI : mz_inv g) {a1 : Int} (l_a1 : (-2147483648) ≤ a1) (u_a1 : a1 ≤ 2147483647) {Q : (Option Value ⊕ Nat) → mm_H → Prop} (hQ : ∀ (r : Int) (g1 : mz_G), mz_inv g1 → mz_fr (fw_X4_blame x a1) g g1 → 0 ≤ r → r ≤ 0 → (r = 0) → (g1 81 1 = a1) → (g1 81 2 = g 82 5) → Q (.inl (some (.int (Int32.ofInt r)))) (mz_mk g1 x)) : mm_C d 40 [.ref 81, .int (Int32.ofInt a1)] (mz_mk g x) Q := by
  refine ⟨mmX4_blame, [some (.ref 81), some (.int (Int32.ofInt a1))], rfl, rfl, ?_⟩
  have bz0 := mz_rd hI bd_81_1
  have bz1 := mz_rd hI bd_81_2
  refine mm_g 2 (pc1 := 2) (lo1 := [some (.ref 81), some (.int (Int32.ofInt a1))]) (st1 := [.int (Int32.ofInt a1), .ref 81]) (H1 := mz_mk g x) rfl ?_
  refine mz_pI rfl fd_4_18 (sc_81 _) hI bd_81_1 (by omega) (by omega) (fun g1 hIg1 hug1 => ?_)
  refine mm_g 2 (pc1 := 7) (lo1 := [some (.ref 81), some (.int (Int32.ofInt a1))]) (st1 := [.ref 81, .ref 81]) (H1 := mz_mk g1 x) rfl ?_
  refine mz_fgR (v := 82) rfl fd_4_12 (by decide) (sc_81 _) (rf_81_0 _ _ _) ?_
  refine mz_cv rfl mt_4_52 (by decide) (sc_82 _) rfl (Nat.le_of_ble_eq_true rfl) (by omega) (e_X7_start (by omega) hx hIg1 (fun v2 l_v2 u_v2 hp3 => ⟨_, rfl, ?_⟩))
  show mm_W d mmX4_blame 13 [some (.ref 81), some (.int (Int32.ofInt a1))] [.int (Int32.ofInt v2), .ref 81] (mz_mk g1 x) Q
  refine mz_pI rfl fd_4_22 (sc_81 _) hIg1 bd_81_2 (by omega) (by omega) (fun g4 hIg4 hug4 => ?_)
  refine mm_g 1 (pc1 := 17) (lo1 := [some (.ref 81), some (.int (Int32.ofInt a1))]) (st1 := [.int (Int32.ofInt 0)]) (H1 := mz_mk g4 x) rfl ?_
  exact mz_rtZ rfl (by decide) (by omega) (hQ _ _ hIg4 (fun k j hk => ((hug4.2 k j (fun h => hk (Or.inr h))).trans (hug1.2 k j (fun h => hk (Or.inl h))))) (by decide) (by decide) rfl (show g4 81 1 = a1 from ((hug4.2 81 1 (fun h => absurd h.2 (by decide))).trans hug1.1)) ((show g4 81 2 = v2 from hug4.1).trans (hp3.trans ((hug1.2 82 5 (fun h => absurd h.1 (by decide)))))))
theorem e_X4_notsAnew {d : Nat} (hd : 1 ≤ d) {x : mm_X} (hx : mk_x x) {g : mz_G} (hI : mz_inv g) {a1 : Int} (l_a1 : 0 ≤ a1) (u_a1 : a1 ≤ 1) {Q : (Option Value ⊕ Nat) → mm_H → Prop} (hQ : ∀ (g1 : mz_G), mz_inv g1 → mz_fr (fw_X4_notsAnew x a1) g g1 → (g1 81 8 = a1) → (g1 81 6 = 0) → Q (.inl none) (mz_mk g1 x)) : mm_C d 49 [.ref 81, .int (Int32.ofInt a1)] (mz_mk g x) Q := by
  refine ⟨mmX4_notsAnew, [some (.ref 81), some (.int (Int32.ofInt a1))], rfl, rfl, ?_⟩
  have bz0 := mz_rd hI bd_81_6
  have bz1 := mz_rd hI bd_81_8
  refine mm_g 2 (pc1 := 2) (lo1 := [some (.ref 81), some (.int (Int32.ofInt a1))]) (st1 := [.int (Int32.ofInt a1), .ref 81]) (H1 := mz_mk g x) rfl ?_
  refine mz_pZ rfl fd_4_42 (sc_81 _) (by omega) hI bd_81_8 (by omega) (by omega) (fun g1 hIg1 hug1 => ?_)
  refine mm_g 2 (pc1 := 7) (lo1 := [some (.ref 81), some (.int (Int32.ofInt a1))]) (st1 := [.int (Int32.ofInt 0), .ref 81]) (H1 := mz_mk g1 x) rfl ?_
  refine mz_pI rfl fd_4_35 (sc_81 _) hIg1 bd_81_6 (by omega) (by omega) (fun g2 hIg2 hug2 => ?_)
  exact mm_rt rfl rfl (hQ _ hIg2 (fun k j hk => ((hug2.2 k j (fun h => hk (Or.inr h))).trans (hug1.2 k j (fun h => hk (Or.inl h))))) (show g2 81 8 = a1 from ((hug2.2 81 8 (fun h => absurd h.2 (by decide))).trans hug1.1)) (show g2 81 6 = 0 from hug2.1))
theorem e_X4_exprEnds {d : Nat} (hd : 2 ≤ d) {x : mm_X} (hx : mk_x x) {g : mz_G} (hI : mz_inv g) {Q : (Option Value ⊕ Nat) → mm_H → Prop} (hQ : ∀ (r : Int), 0 ≤ r → r ≤ 1 → (r = 1 ↔ (g 81 7 = 0 ∧ g 81 5 = 0 ∧ g 82 4 = 59)) → Q (.inl (some (.int (Int32.ofInt r)))) (mz_mk g x)) : mm_C d 47 [.ref 81] (mz_mk g x) Q := by
  refine ⟨mmX4_exprEnds, [some (.ref 81)], rfl, rfl, ?_⟩
  have bz0 := mz_rd hI bd_81_5
  have bz1 := mz_rd hI bd_81_7
  have bz2 := mz_rd hI bd_82_4
  refine mm_g 1 (pc1 := 1) (lo1 := [some (.ref 81)]) (st1 := [.ref 81]) (H1 := mz_mk g x) rfl ?_
  refine mz_fgI (v := (g 81 7)) rfl fd_4_38 (by decide) (sc_81 _) (show g 81 7 = (g 81 7) from rfl) ?_
  refine mz_if_ne (tgt := 30) rfl rfl ⟨by omega, by omega⟩ (fun c4_0 => ?_) (fun c4_0 => ?_)
  · skip
    refine mm_g 1 (pc1 := 31) (lo1 := [some (.ref 81)]) (st1 := [.int (Int32.ofInt 0)]) (H1 := mz_mk g x) rfl ?_
    exact mz_rtZ rfl (by decide) (by omega) (hQ _ (by decide) (by decide) (by constructor <;> intro z <;> omega))
  · skip
    refine mm_g 1 (pc1 := 8) (lo1 := [some (.ref 81)]) (st1 := [.ref 81]) (H1 := mz_mk g x) rfl ?_
    refine mz_fgI (v := (g 81 5)) rfl fd_4_32 (by decide) (sc_81 _) (show g 81 5 = (g 81 5) from rfl) ?_
    refine mz_if_ne (tgt := 30) rfl rfl ⟨by omega, by omega⟩ (fun c11_0 => ?_) (fun c11_0 => ?_)
    · skip
      refine mm_g 1 (pc1 := 31) (lo1 := [some (.ref 81)]) (st1 := [.int (Int32.ofInt 0)]) (H1 := mz_mk g x) rfl ?_
      exact mz_rtZ rfl (by decide) (by omega) (hQ _ (by decide) (by decide) (by constructor <;> intro z <;> omega))
    · skip
      refine mm_g 1 (pc1 := 15) (lo1 := [some (.ref 81)]) (st1 := [.ref 81]) (H1 := mz_mk g x) rfl ?_
      refine mz_fgR (v := 82) rfl fd_4_12 (by decide) (sc_81 _) (rf_81_0 _ _ _) ?_
      refine mz_cv rfl mt_4_48 (by decide) (sc_82 _) rfl (Nat.le_of_ble_eq_true rfl) (by omega) (e_X7_kind (by omega) hx hI (fun v1 l_v1 u_v1 hp2 => ⟨_, rfl, ?_⟩))
      show mm_W d mmX4_exprEnds 21 [some (.ref 81)] [.int (Int32.ofInt v1)] (mz_mk g x) Q
      refine mz_bip rfl bip_59 ?_
      refine mz_ic_ne (tgt := 30) rfl rfl (mz_rg l_v1 u_v1) ⟨by decide, by decide⟩ (fun c23_2 => ?_) (fun c23_2 => ?_)
      · skip
        refine mm_g 1 (pc1 := 31) (lo1 := [some (.ref 81)]) (st1 := [.int (Int32.ofInt 0)]) (H1 := mz_mk g x) rfl ?_
        exact mz_rtZ rfl (by decide) (by omega) (hQ _ (by decide) (by decide) (by have hk := hp2; constructor <;> intro z <;> omega))
      · skip
        refine mm_g 1 (pc1 := 27) (lo1 := [some (.ref 81)]) (st1 := [.int (Int32.ofInt 1)]) (H1 := mz_mk g x) rfl ?_
        refine mz_gt (tgt := 31) rfl rfl ?_
        exact mz_rtZ rfl (by decide) (by omega) (hQ _ (by decide) (by decide) (by have hk := hp2; constructor <;> intro z <;> omega))
theorem e_X4_valueOfWord {d : Nat} (hd : 6 ≤ d) {x : mm_X} (hx : mk_x x) {g : mz_G} (hI : mz_inv g) (p1 : mz_str g) (p2 : g 82 5 ≤ g 82 3) {Q : (Option Value ⊕ Nat) → mm_H → Prop} (hQ : ∀ (r : Int), (-7) ≤ r → r ≤ 0 → (r = 0 ↔ ¬ tk_val (mz_cb g) (g 82 4) (g 82 5) (g 82 3)) → Q (.inl (some (.int (Int32.ofInt r)))) (mz_mk g x)) : mm_C d 54 [.ref 81] (mz_mk g x) Q := by
  refine ⟨mmX4_valueOfWord, [some (.ref 81)], rfl, rfl, ?_⟩
  have bz0 := mz_rd hI bd_82_2
  have bz1 := mz_rd hI bd_82_3
  have bz2 := mz_rd hI bd_82_4
  have bz3 := mz_rd hI bd_82_5
  have hstr := p1
  refine mm_g 1 (pc1 := 1) (lo1 := [some (.ref 81)]) (st1 := [.ref 81]) (H1 := mz_mk g x) rfl ?_
  refine mz_fgR (v := 82) rfl fd_4_12 (by decide) (sc_81 _) (rf_81_0 _ _ _) ?_
  refine mz_ldcS (j := 6) rfl rfl rfl ?_
  refine mz_cv rfl mt_4_57 (by decide) (sc_82 _) rfl (Nat.le_of_ble_eq_true rfl) (by omega) (e_X7_spells (by omega) hx hI (by decide) hstr (by have h8 := (show g 82 5 = (g 82 5) from rfl); have h9 := (show g 82 3 = (g 82 3) from rfl); omega) (fun v1 l_v1 u_v1 hp2 => ⟨_, rfl, ?_⟩))
  show mm_W d mmX4_valueOfWord 9 [some (.ref 81)] [.int (Int32.ofInt v1)] (mz_mk g x) Q
  refine mz_if_eq (tgt := 16) rfl rfl (mz_rg l_v1 u_v1) (fun c9_2 => ?_) (fun c9_2 => ?_)
  · skip
    refine mm_g 1 (pc1 := 17) (lo1 := [some (.ref 81)]) (st1 := [.ref 81]) (H1 := mz_mk g x) rfl ?_
    refine mz_fgR (v := 82) rfl fd_4_12 (by decide) (sc_81 _) (rf_81_0 _ _ _) ?_
    refine mz_ldcS (j := 3) rfl rfl rfl ?_
    refine mz_cv rfl mt_4_57 (by decide) (sc_82 _) rfl (Nat.le_of_ble_eq_true rfl) (by omega) (e_X7_spells (by omega) hx hI (by decide) hstr (by have h8 := (show g 82 5 = (g 82 5) from rfl); have h9 := (show g 82 3 = (g 82 3) from rfl); omega) (fun v3 l_v3 u_v3 hp4 => ⟨_, rfl, ?_⟩))
    show mm_W d mmX4_valueOfWord 25 [some (.ref 81)] [.int (Int32.ofInt v3)] (mz_mk g x) Q
    refine mz_if_eq (tgt := 33) rfl rfl (mz_rg l_v3 u_v3) (fun c25_4 => ?_) (fun c25_4 => ?_)
    · skip
      refine mm_g 1 (pc1 := 34) (lo1 := [some (.ref 81)]) (st1 := [.ref 81]) (H1 := mz_mk g x) rfl ?_
      refine mz_fgR (v := 82) rfl fd_4_12 (by decide) (sc_81 _) (rf_81_0 _ _ _) ?_
      refine mz_ldcS (j := 7) rfl rfl rfl ?_
      refine mz_cv rfl mt_4_57 (by decide) (sc_82 _) rfl (Nat.le_of_ble_eq_true rfl) (by omega) (e_X7_spells (by omega) hx hI (by decide) hstr (by have h8 := (show g 82 5 = (g 82 5) from rfl); have h9 := (show g 82 3 = (g 82 3) from rfl); omega) (fun v5 l_v5 u_v5 hp6 => ⟨_, rfl, ?_⟩))
      show mm_W d mmX4_valueOfWord 42 [some (.ref 81)] [.int (Int32.ofInt v5)] (mz_mk g x) Q
      refine mz_if_eq (tgt := 50) rfl rfl (mz_rg l_v5 u_v5) (fun c42_6 => ?_) (fun c42_6 => ?_)
      · skip
        refine mm_g 1 (pc1 := 51) (lo1 := [some (.ref 81)]) (st1 := [.ref 81]) (H1 := mz_mk g x) rfl ?_
        refine mz_fgR (v := 82) rfl fd_4_12 (by decide) (sc_81 _) (rf_81_0 _ _ _) ?_
        refine mz_ldcS (j := 8) rfl rfl rfl ?_
        refine mz_cv rfl mt_4_57 (by decide) (sc_82 _) rfl (Nat.le_of_ble_eq_true rfl) (by omega) (e_X7_spells (by omega) hx hI (by decide) hstr (by have h8 := (show g 82 5 = (g 82 5) from rfl); have h9 := (show g 82 3 = (g 82 3) from rfl); omega) (fun v7 l_v7 u_v7 hp8 => ⟨_, rfl, ?_⟩))
        show mm_W d mmX4_valueOfWord 59 [some (.ref 81)] [.int (Int32.ofInt v7)] (mz_mk g x) Q
        refine mz_if_eq (tgt := 67) rfl rfl (mz_rg l_v7 u_v7) (fun c59_8 => ?_) (fun c59_8 => ?_)
        · skip
          refine mm_g 1 (pc1 := 68) (lo1 := [some (.ref 81)]) (st1 := [.ref 81]) (H1 := mz_mk g x) rfl ?_
          refine mz_fgR (v := 82) rfl fd_4_12 (by decide) (sc_81 _) (rf_81_0 _ _ _) ?_
          refine mz_ldcS (j := 9) rfl rfl rfl ?_
          refine mz_cv rfl mt_4_57 (by decide) (sc_82 _) rfl (Nat.le_of_ble_eq_true rfl) (by omega) (e_X7_spells (by omega) hx hI (by decide) hstr (by have h8 := (show g 82 5 = (g 82 5) from rfl); have h9 := (show g 82 3 = (g 82 3) from rfl); omega) (fun v9 l_v9 u_v9 hp10 => ⟨_, rfl, ?_⟩))
          show mm_W d mmX4_valueOfWord 76 [some (.ref 81)] [.int (Int32.ofInt v9)] (mz_mk g x) Q
          refine mz_if_eq (tgt := 84) rfl rfl (mz_rg l_v9 u_v9) (fun c76_10 => ?_) (fun c76_10 => ?_)
          · skip
            refine mm_g 1 (pc1 := 85) (lo1 := [some (.ref 81)]) (st1 := [.ref 81]) (H1 := mz_mk g x) rfl ?_
            refine mz_fgR (v := 82) rfl fd_4_12 (by decide) (sc_81 _) (rf_81_0 _ _ _) ?_
            refine mz_ldcS (j := 10) rfl rfl rfl ?_
            refine mz_cv rfl mt_4_57 (by decide) (sc_82 _) rfl (Nat.le_of_ble_eq_true rfl) (by omega) (e_X7_spells (by omega) hx hI (by decide) hstr (by have h8 := (show g 82 5 = (g 82 5) from rfl); have h9 := (show g 82 3 = (g 82 3) from rfl); omega) (fun v11 l_v11 u_v11 hp12 => ⟨_, rfl, ?_⟩))
            show mm_W d mmX4_valueOfWord 93 [some (.ref 81)] [.int (Int32.ofInt v11)] (mz_mk g x) Q
            refine mz_if_eq (tgt := 101) rfl rfl (mz_rg l_v11 u_v11) (fun c93_12 => ?_) (fun c93_12 => ?_)
            · skip
              refine mm_g 1 (pc1 := 102) (lo1 := [some (.ref 81)]) (st1 := [.ref 81]) (H1 := mz_mk g x) rfl ?_
              refine mz_fgR (v := 82) rfl fd_4_12 (by decide) (sc_81 _) (rf_81_0 _ _ _) ?_
              refine mz_ldcS (j := 11) rfl rfl rfl ?_
              refine mz_cv rfl mt_4_57 (by decide) (sc_82 _) rfl (Nat.le_of_ble_eq_true rfl) (by omega) (e_X7_spells (by omega) hx hI (by decide) hstr (by have h8 := (show g 82 5 = (g 82 5) from rfl); have h9 := (show g 82 3 = (g 82 3) from rfl); omega) (fun v13 l_v13 u_v13 hp14 => ⟨_, rfl, ?_⟩))
              show mm_W d mmX4_valueOfWord 110 [some (.ref 81)] [.int (Int32.ofInt v13)] (mz_mk g x) Q
              refine mz_if_eq (tgt := 118) rfl rfl (mz_rg l_v13 u_v13) (fun c110_14 => ?_) (fun c110_14 => ?_)
              · skip
                refine mm_g 1 (pc1 := 119) (lo1 := [some (.ref 81)]) (st1 := [.int (Int32.ofInt 0)]) (H1 := mz_mk g x) rfl ?_
                exact mm_rt rfl rfl (hQ _ (by decide) (by decide) ⟨fun _ z => by rcases z with z | z | z | z | z | z | z; (have h := hp2.mpr z; omega); (have h := hp4.mpr z; omega); (have h := hp6.mpr z; omega); (have h := hp8.mpr z; omega); (have h := hp10.mpr z; omega); (have h := hp12.mpr z; omega); (have h := hp14.mpr z; omega), fun _ => rfl⟩)
              · skip
                refine mz_bip rfl bip_m7 ?_
                refine mz_gt (tgt := 119) rfl rfl ?_
                exact mm_rt rfl rfl (hQ _ (by decide) (by decide) ⟨fun z => absurd z (by decide), fun z => absurd (Or.inr (Or.inr (Or.inr (Or.inr (Or.inr (Or.inr (hp14.mp (by omega)))))))) z⟩)
            · skip
              refine mz_bip rfl bip_m6 ?_
              refine mz_gt (tgt := 119) rfl rfl ?_
              exact mm_rt rfl rfl (hQ _ (by decide) (by decide) ⟨fun z => absurd z (by decide), fun z => absurd (Or.inr (Or.inr (Or.inr (Or.inr (Or.inr (Or.inl (hp12.mp (by omega)))))))) z⟩)
          · skip
            refine mz_bip rfl bip_m5 ?_
            refine mz_gt (tgt := 119) rfl rfl ?_
            exact mm_rt rfl rfl (hQ _ (by decide) (by decide) ⟨fun z => absurd z (by decide), fun z => absurd (Or.inr (Or.inr (Or.inr (Or.inr (Or.inl (hp10.mp (by omega))))))) z⟩)
        · skip
          refine mz_bip rfl bip_m4 ?_
          refine mz_gt (tgt := 119) rfl rfl ?_
          exact mm_rt rfl rfl (hQ _ (by decide) (by decide) ⟨fun z => absurd z (by decide), fun z => absurd (Or.inr (Or.inr (Or.inr (Or.inl (hp8.mp (by omega)))))) z⟩)
      · skip
        refine mz_bip rfl bip_m3 ?_
        refine mz_gt (tgt := 119) rfl rfl ?_
        exact mm_rt rfl rfl (hQ _ (by decide) (by decide) ⟨fun z => absurd z (by decide), fun z => absurd (Or.inr (Or.inr (Or.inl (hp6.mp (by omega))))) z⟩)
    · skip
      refine mz_bip rfl bip_m2 ?_
      refine mz_gt (tgt := 119) rfl rfl ?_
      exact mm_rt rfl rfl (hQ _ (by decide) (by decide) ⟨fun z => absurd z (by decide), fun z => absurd (Or.inr (Or.inl (hp4.mp (by omega)))) z⟩)
  · skip
    refine mm_g 1 (pc1 := 13) (lo1 := [some (.ref 81)]) (st1 := [.int (Int32.ofInt (-1))]) (H1 := mz_mk g x) rfl ?_
    refine mz_gt (tgt := 119) rfl rfl ?_
    exact mm_rt rfl rfl (hQ _ (by decide) (by decide) ⟨fun z => absurd z (by decide), fun z => absurd (Or.inl (hp2.mp (by omega))) z⟩)
set_option maxHeartbeats 20000000 in
theorem e_X4_signOfToken {d : Nat} (hd : 6 ≤ d) {x : mm_X} (hx : mk_x x) {g : mz_G} (hI : mz_inv g) (p1 : mz_str g) (p2 : g 82 5 ≤ g 82 3) {Q : (Option Value ⊕ Nat) → mm_H → Prop} (hQ : ∀ (r : Int), (-19) ≤ r → r ≤ 0 → (tk_so (mz_cb g) (g 82 4) (g 82 5) (g 82 3) r) → Q (.inl (some (.int (Int32.ofInt r)))) (mz_mk g x)) : mm_C d 55 [.ref 81] (mz_mk g x) Q := by
  refine ⟨mmX4_signOfToken, [some (.ref 81)], rfl, rfl, ?_⟩
  have bz0 := mz_rd hI bd_82_2
  have bz1 := mz_rd hI bd_82_3
  have bz2 := mz_rd hI bd_82_4
  have bz3 := mz_rd hI bd_82_5
  have hstr := p1
  refine mm_g 1 (pc1 := 1) (lo1 := [some (.ref 81)]) (st1 := [.ref 81]) (H1 := mz_mk g x) rfl ?_
  refine mz_fgR (v := 82) rfl fd_4_12 (by decide) (sc_81 _) (rf_81_0 _ _ _) ?_
  refine mz_cv rfl mt_4_48 (by decide) (sc_82 _) rfl (Nat.le_of_ble_eq_true rfl) (by omega) (e_X7_kind (by omega) hx hI (fun v1 l_v1 u_v1 hp2 => ⟨_, rfl, ?_⟩))
  show mm_W d mmX4_signOfToken 7 [some (.ref 81)] [.int (Int32.ofInt v1)] (mz_mk g x) Q
  by_cases c7_0 : v1 = 42
  · refine mz_tsi (tgt := 112) rfl (mz_rg l_v1 u_v1) (by omega) (by omega) (by rw [c7_0]; rfl) rfl ?_
    refine mz_bip rfl bip_m18 ?_
    exact mm_rt rfl rfl (hQ _ (by decide) (by decide) ⟨by intro z; have hk := hp2; omega, by intro z; have hk := hp2; omega, by intro z; have hk := hp2; omega, by intro z; have hk := hp2; omega, by intro z; have hk := hp2; omega, by intro z; have hk := hp2; omega, fun h1 h2 h3 h4 h5 h6 => by have hk := hp2; exfalso; omega⟩)
  by_cases c7_1 : v1 = 43
  · refine mz_tsi (tgt := 106) rfl (mz_rg l_v1 u_v1) (by omega) (by omega) (by rw [c7_1]; rfl) rfl ?_
    refine mz_bip rfl bip_m16 ?_
    exact mm_rt rfl rfl (hQ _ (by decide) (by decide) ⟨by intro z; have hk := hp2; omega, by intro z; have hk := hp2; omega, by intro z; have hk := hp2; omega, by intro z; have hk := hp2; omega, by intro z; have hk := hp2; omega, by intro z; have hk := hp2; omega, fun h1 h2 h3 h4 h5 h6 => by have hk := hp2; exfalso; omega⟩)
  by_cases c7_2 : v1 = 44
  · refine mz_tsi (tgt := 118) rfl (mz_rg l_v1 u_v1) (by omega) (by omega) (by rw [c7_2]; rfl) rfl ?_
    refine mm_g 1 (pc1 := 119) (lo1 := [some (.ref 81)]) (st1 := [.ref 81]) (H1 := mz_mk g x) rfl ?_
    refine mz_fgR (v := 82) rfl fd_4_12 (by decide) (sc_81 _) (rf_81_0 _ _ _) ?_
    refine mz_ldcS (j := 12) rfl rfl rfl ?_
    refine mz_cv rfl mt_4_57 (by decide) (sc_82 _) rfl (Nat.le_of_ble_eq_true rfl) (by omega) (e_X7_spells (by omega) hx hI (by decide) hstr (by have h8 := (show g 82 5 = (g 82 5) from rfl); have h9 := (show g 82 3 = (g 82 3) from rfl); omega) (fun v3 l_v3 u_v3 hp4 => ⟨_, rfl, ?_⟩))
    show mm_W d mmX4_signOfToken 127 [some (.ref 81)] [.int (Int32.ofInt v3)] (mz_mk g x) Q
    refine mz_if_eq (tgt := 135) rfl rfl (mz_rg l_v3 u_v3) (fun c127_4 => ?_) (fun c127_4 => ?_)
    · skip
      refine mm_g 1 (pc1 := 136) (lo1 := [some (.ref 81)]) (st1 := [.ref 81]) (H1 := mz_mk g x) rfl ?_
      refine mz_fgR (v := 82) rfl fd_4_12 (by decide) (sc_81 _) (rf_81_0 _ _ _) ?_
      refine mz_ldcS (j := 13) rfl rfl rfl ?_
      refine mz_cv rfl mt_4_57 (by decide) (sc_82 _) rfl (Nat.le_of_ble_eq_true rfl) (by omega) (e_X7_spells (by omega) hx hI (by decide) hstr (by have h8 := (show g 82 5 = (g 82 5) from rfl); have h9 := (show g 82 3 = (g 82 3) from rfl); omega) (fun v5 l_v5 u_v5 hp6 => ⟨_, rfl, ?_⟩))
      show mm_W d mmX4_signOfToken 144 [some (.ref 81)] [.int (Int32.ofInt v5)] (mz_mk g x) Q
      refine mz_if_eq (tgt := 152) rfl rfl (mz_rg l_v5 u_v5) (fun c144_6 => ?_) (fun c144_6 => ?_)
      · skip
        refine mm_g 1 (pc1 := 153) (lo1 := [some (.ref 81)]) (st1 := [.int (Int32.ofInt 0)]) (H1 := mz_mk g x) rfl ?_
        exact mm_rt rfl rfl (hQ _ (by decide) (by decide) ⟨by intro z; have hk := hp2; omega, by intro z; have hk := hp2; omega, by intro z; have hk := hp2; omega, by intro z; have hk := hp2; omega, by intro z; have hk := hp2; omega, by intro z; have hk := hp2; omega, fun _ _ _ _ _ _ => ⟨fun z => by (have h := hp4.mpr z; omega), fun _ z => by (have h := hp6.mpr z; omega), fun _ _ => rfl⟩⟩)
      · skip
        refine mz_bip rfl bip_m12 ?_
        refine mz_gt (tgt := 153) rfl rfl ?_
        exact mm_rt rfl rfl (hQ _ (by decide) (by decide) ⟨by intro z; have hk := hp2; omega, by intro z; have hk := hp2; omega, by intro z; have hk := hp2; omega, by intro z; have hk := hp2; omega, by intro z; have hk := hp2; omega, by intro z; have hk := hp2; omega, fun _ _ _ _ _ _ => ⟨fun z => by (have h := hp4.mpr z; omega), fun _ _ => rfl, fun _ z => absurd (hp6.mp (by omega)) z⟩⟩)
    · skip
      refine mz_bip rfl bip_m11 ?_
      refine mz_gt (tgt := 153) rfl rfl ?_
      exact mm_rt rfl rfl (hQ _ (by decide) (by decide) ⟨by intro z; have hk := hp2; omega, by intro z; have hk := hp2; omega, by intro z; have hk := hp2; omega, by intro z; have hk := hp2; omega, by intro z; have hk := hp2; omega, by intro z; have hk := hp2; omega, fun _ _ _ _ _ _ => ⟨fun _ => rfl, fun z => absurd (hp4.mp (by omega)) z, fun z => absurd (hp4.mp (by omega)) z⟩⟩)
  by_cases c7_3 : v1 = 45
  · refine mz_tsi (tgt := 109) rfl (mz_rg l_v1 u_v1) (by omega) (by omega) (by rw [c7_3]; rfl) rfl ?_
    refine mz_bip rfl bip_m17 ?_
    exact mm_rt rfl rfl (hQ _ (by decide) (by decide) ⟨by intro z; have hk := hp2; omega, by intro z; have hk := hp2; omega, by intro z; have hk := hp2; omega, by intro z; have hk := hp2; omega, by intro z; have hk := hp2; omega, by intro z; have hk := hp2; omega, fun h1 h2 h3 h4 h5 h6 => by have hk := hp2; exfalso; omega⟩)
  by_cases c7_4 : v1 = 46
  · refine mz_tsi (tgt := 118) rfl (mz_rg l_v1 u_v1) (by omega) (by omega) (by rw [c7_4]; rfl) rfl ?_
    refine mm_g 1 (pc1 := 119) (lo1 := [some (.ref 81)]) (st1 := [.ref 81]) (H1 := mz_mk g x) rfl ?_
    refine mz_fgR (v := 82) rfl fd_4_12 (by decide) (sc_81 _) (rf_81_0 _ _ _) ?_
    refine mz_ldcS (j := 12) rfl rfl rfl ?_
    refine mz_cv rfl mt_4_57 (by decide) (sc_82 _) rfl (Nat.le_of_ble_eq_true rfl) (by omega) (e_X7_spells (by omega) hx hI (by decide) hstr (by have h8 := (show g 82 5 = (g 82 5) from rfl); have h9 := (show g 82 3 = (g 82 3) from rfl); omega) (fun v7 l_v7 u_v7 hp8 => ⟨_, rfl, ?_⟩))
    show mm_W d mmX4_signOfToken 127 [some (.ref 81)] [.int (Int32.ofInt v7)] (mz_mk g x) Q
    refine mz_if_eq (tgt := 135) rfl rfl (mz_rg l_v7 u_v7) (fun c127_8 => ?_) (fun c127_8 => ?_)
    · skip
      refine mm_g 1 (pc1 := 136) (lo1 := [some (.ref 81)]) (st1 := [.ref 81]) (H1 := mz_mk g x) rfl ?_
      refine mz_fgR (v := 82) rfl fd_4_12 (by decide) (sc_81 _) (rf_81_0 _ _ _) ?_
      refine mz_ldcS (j := 13) rfl rfl rfl ?_
      refine mz_cv rfl mt_4_57 (by decide) (sc_82 _) rfl (Nat.le_of_ble_eq_true rfl) (by omega) (e_X7_spells (by omega) hx hI (by decide) hstr (by have h8 := (show g 82 5 = (g 82 5) from rfl); have h9 := (show g 82 3 = (g 82 3) from rfl); omega) (fun v9 l_v9 u_v9 hp10 => ⟨_, rfl, ?_⟩))
      show mm_W d mmX4_signOfToken 144 [some (.ref 81)] [.int (Int32.ofInt v9)] (mz_mk g x) Q
      refine mz_if_eq (tgt := 152) rfl rfl (mz_rg l_v9 u_v9) (fun c144_10 => ?_) (fun c144_10 => ?_)
      · skip
        refine mm_g 1 (pc1 := 153) (lo1 := [some (.ref 81)]) (st1 := [.int (Int32.ofInt 0)]) (H1 := mz_mk g x) rfl ?_
        exact mm_rt rfl rfl (hQ _ (by decide) (by decide) ⟨by intro z; have hk := hp2; omega, by intro z; have hk := hp2; omega, by intro z; have hk := hp2; omega, by intro z; have hk := hp2; omega, by intro z; have hk := hp2; omega, by intro z; have hk := hp2; omega, fun _ _ _ _ _ _ => ⟨fun z => by (have h := hp8.mpr z; omega), fun _ z => by (have h := hp10.mpr z; omega), fun _ _ => rfl⟩⟩)
      · skip
        refine mz_bip rfl bip_m12 ?_
        refine mz_gt (tgt := 153) rfl rfl ?_
        exact mm_rt rfl rfl (hQ _ (by decide) (by decide) ⟨by intro z; have hk := hp2; omega, by intro z; have hk := hp2; omega, by intro z; have hk := hp2; omega, by intro z; have hk := hp2; omega, by intro z; have hk := hp2; omega, by intro z; have hk := hp2; omega, fun _ _ _ _ _ _ => ⟨fun z => by (have h := hp8.mpr z; omega), fun _ _ => rfl, fun _ z => absurd (hp10.mp (by omega)) z⟩⟩)
    · skip
      refine mz_bip rfl bip_m11 ?_
      refine mz_gt (tgt := 153) rfl rfl ?_
      exact mm_rt rfl rfl (hQ _ (by decide) (by decide) ⟨by intro z; have hk := hp2; omega, by intro z; have hk := hp2; omega, by intro z; have hk := hp2; omega, by intro z; have hk := hp2; omega, by intro z; have hk := hp2; omega, by intro z; have hk := hp2; omega, fun _ _ _ _ _ _ => ⟨fun _ => rfl, fun z => absurd (hp8.mp (by omega)) z, fun z => absurd (hp8.mp (by omega)) z⟩⟩)
  by_cases c7_5 : v1 = 47
  · refine mz_tsi (tgt := 115) rfl (mz_rg l_v1 u_v1) (by omega) (by omega) (by rw [c7_5]; rfl) rfl ?_
    refine mz_bip rfl bip_m19 ?_
    exact mm_rt rfl rfl (hQ _ (by decide) (by decide) ⟨by intro z; have hk := hp2; omega, by intro z; have hk := hp2; omega, by intro z; have hk := hp2; omega, by intro z; have hk := hp2; omega, by intro z; have hk := hp2; omega, by intro z; have hk := hp2; omega, fun h1 h2 h3 h4 h5 h6 => by have hk := hp2; exfalso; omega⟩)
  by_cases c7_6 : v1 = 48
  · refine mz_tsi (tgt := 118) rfl (mz_rg l_v1 u_v1) (by omega) (by omega) (by rw [c7_6]; rfl) rfl ?_
    refine mm_g 1 (pc1 := 119) (lo1 := [some (.ref 81)]) (st1 := [.ref 81]) (H1 := mz_mk g x) rfl ?_
    refine mz_fgR (v := 82) rfl fd_4_12 (by decide) (sc_81 _) (rf_81_0 _ _ _) ?_
    refine mz_ldcS (j := 12) rfl rfl rfl ?_
    refine mz_cv rfl mt_4_57 (by decide) (sc_82 _) rfl (Nat.le_of_ble_eq_true rfl) (by omega) (e_X7_spells (by omega) hx hI (by decide) hstr (by have h8 := (show g 82 5 = (g 82 5) from rfl); have h9 := (show g 82 3 = (g 82 3) from rfl); omega) (fun v11 l_v11 u_v11 hp12 => ⟨_, rfl, ?_⟩))
    show mm_W d mmX4_signOfToken 127 [some (.ref 81)] [.int (Int32.ofInt v11)] (mz_mk g x) Q
    refine mz_if_eq (tgt := 135) rfl rfl (mz_rg l_v11 u_v11) (fun c127_12 => ?_) (fun c127_12 => ?_)
    · skip
      refine mm_g 1 (pc1 := 136) (lo1 := [some (.ref 81)]) (st1 := [.ref 81]) (H1 := mz_mk g x) rfl ?_
      refine mz_fgR (v := 82) rfl fd_4_12 (by decide) (sc_81 _) (rf_81_0 _ _ _) ?_
      refine mz_ldcS (j := 13) rfl rfl rfl ?_
      refine mz_cv rfl mt_4_57 (by decide) (sc_82 _) rfl (Nat.le_of_ble_eq_true rfl) (by omega) (e_X7_spells (by omega) hx hI (by decide) hstr (by have h8 := (show g 82 5 = (g 82 5) from rfl); have h9 := (show g 82 3 = (g 82 3) from rfl); omega) (fun v13 l_v13 u_v13 hp14 => ⟨_, rfl, ?_⟩))
      show mm_W d mmX4_signOfToken 144 [some (.ref 81)] [.int (Int32.ofInt v13)] (mz_mk g x) Q
      refine mz_if_eq (tgt := 152) rfl rfl (mz_rg l_v13 u_v13) (fun c144_14 => ?_) (fun c144_14 => ?_)
      · skip
        refine mm_g 1 (pc1 := 153) (lo1 := [some (.ref 81)]) (st1 := [.int (Int32.ofInt 0)]) (H1 := mz_mk g x) rfl ?_
        exact mm_rt rfl rfl (hQ _ (by decide) (by decide) ⟨by intro z; have hk := hp2; omega, by intro z; have hk := hp2; omega, by intro z; have hk := hp2; omega, by intro z; have hk := hp2; omega, by intro z; have hk := hp2; omega, by intro z; have hk := hp2; omega, fun _ _ _ _ _ _ => ⟨fun z => by (have h := hp12.mpr z; omega), fun _ z => by (have h := hp14.mpr z; omega), fun _ _ => rfl⟩⟩)
      · skip
        refine mz_bip rfl bip_m12 ?_
        refine mz_gt (tgt := 153) rfl rfl ?_
        exact mm_rt rfl rfl (hQ _ (by decide) (by decide) ⟨by intro z; have hk := hp2; omega, by intro z; have hk := hp2; omega, by intro z; have hk := hp2; omega, by intro z; have hk := hp2; omega, by intro z; have hk := hp2; omega, by intro z; have hk := hp2; omega, fun _ _ _ _ _ _ => ⟨fun z => by (have h := hp12.mpr z; omega), fun _ _ => rfl, fun _ z => absurd (hp14.mp (by omega)) z⟩⟩)
    · skip
      refine mz_bip rfl bip_m11 ?_
      refine mz_gt (tgt := 153) rfl rfl ?_
      exact mm_rt rfl rfl (hQ _ (by decide) (by decide) ⟨by intro z; have hk := hp2; omega, by intro z; have hk := hp2; omega, by intro z; have hk := hp2; omega, by intro z; have hk := hp2; omega, by intro z; have hk := hp2; omega, by intro z; have hk := hp2; omega, fun _ _ _ _ _ _ => ⟨fun _ => rfl, fun z => absurd (hp12.mp (by omega)) z, fun z => absurd (hp12.mp (by omega)) z⟩⟩)
  by_cases c7_7 : v1 = 49
  · refine mz_tsi (tgt := 118) rfl (mz_rg l_v1 u_v1) (by omega) (by omega) (by rw [c7_7]; rfl) rfl ?_
    refine mm_g 1 (pc1 := 119) (lo1 := [some (.ref 81)]) (st1 := [.ref 81]) (H1 := mz_mk g x) rfl ?_
    refine mz_fgR (v := 82) rfl fd_4_12 (by decide) (sc_81 _) (rf_81_0 _ _ _) ?_
    refine mz_ldcS (j := 12) rfl rfl rfl ?_
    refine mz_cv rfl mt_4_57 (by decide) (sc_82 _) rfl (Nat.le_of_ble_eq_true rfl) (by omega) (e_X7_spells (by omega) hx hI (by decide) hstr (by have h8 := (show g 82 5 = (g 82 5) from rfl); have h9 := (show g 82 3 = (g 82 3) from rfl); omega) (fun v15 l_v15 u_v15 hp16 => ⟨_, rfl, ?_⟩))
    show mm_W d mmX4_signOfToken 127 [some (.ref 81)] [.int (Int32.ofInt v15)] (mz_mk g x) Q
    refine mz_if_eq (tgt := 135) rfl rfl (mz_rg l_v15 u_v15) (fun c127_16 => ?_) (fun c127_16 => ?_)
    · skip
      refine mm_g 1 (pc1 := 136) (lo1 := [some (.ref 81)]) (st1 := [.ref 81]) (H1 := mz_mk g x) rfl ?_
      refine mz_fgR (v := 82) rfl fd_4_12 (by decide) (sc_81 _) (rf_81_0 _ _ _) ?_
      refine mz_ldcS (j := 13) rfl rfl rfl ?_
      refine mz_cv rfl mt_4_57 (by decide) (sc_82 _) rfl (Nat.le_of_ble_eq_true rfl) (by omega) (e_X7_spells (by omega) hx hI (by decide) hstr (by have h8 := (show g 82 5 = (g 82 5) from rfl); have h9 := (show g 82 3 = (g 82 3) from rfl); omega) (fun v17 l_v17 u_v17 hp18 => ⟨_, rfl, ?_⟩))
      show mm_W d mmX4_signOfToken 144 [some (.ref 81)] [.int (Int32.ofInt v17)] (mz_mk g x) Q
      refine mz_if_eq (tgt := 152) rfl rfl (mz_rg l_v17 u_v17) (fun c144_18 => ?_) (fun c144_18 => ?_)
      · skip
        refine mm_g 1 (pc1 := 153) (lo1 := [some (.ref 81)]) (st1 := [.int (Int32.ofInt 0)]) (H1 := mz_mk g x) rfl ?_
        exact mm_rt rfl rfl (hQ _ (by decide) (by decide) ⟨by intro z; have hk := hp2; omega, by intro z; have hk := hp2; omega, by intro z; have hk := hp2; omega, by intro z; have hk := hp2; omega, by intro z; have hk := hp2; omega, by intro z; have hk := hp2; omega, fun _ _ _ _ _ _ => ⟨fun z => by (have h := hp16.mpr z; omega), fun _ z => by (have h := hp18.mpr z; omega), fun _ _ => rfl⟩⟩)
      · skip
        refine mz_bip rfl bip_m12 ?_
        refine mz_gt (tgt := 153) rfl rfl ?_
        exact mm_rt rfl rfl (hQ _ (by decide) (by decide) ⟨by intro z; have hk := hp2; omega, by intro z; have hk := hp2; omega, by intro z; have hk := hp2; omega, by intro z; have hk := hp2; omega, by intro z; have hk := hp2; omega, by intro z; have hk := hp2; omega, fun _ _ _ _ _ _ => ⟨fun z => by (have h := hp16.mpr z; omega), fun _ _ => rfl, fun _ z => absurd (hp18.mp (by omega)) z⟩⟩)
    · skip
      refine mz_bip rfl bip_m11 ?_
      refine mz_gt (tgt := 153) rfl rfl ?_
      exact mm_rt rfl rfl (hQ _ (by decide) (by decide) ⟨by intro z; have hk := hp2; omega, by intro z; have hk := hp2; omega, by intro z; have hk := hp2; omega, by intro z; have hk := hp2; omega, by intro z; have hk := hp2; omega, by intro z; have hk := hp2; omega, fun _ _ _ _ _ _ => ⟨fun _ => rfl, fun z => absurd (hp16.mp (by omega)) z, fun z => absurd (hp16.mp (by omega)) z⟩⟩)
  by_cases c7_8 : v1 = 50
  · refine mz_tsi (tgt := 118) rfl (mz_rg l_v1 u_v1) (by omega) (by omega) (by rw [c7_8]; rfl) rfl ?_
    refine mm_g 1 (pc1 := 119) (lo1 := [some (.ref 81)]) (st1 := [.ref 81]) (H1 := mz_mk g x) rfl ?_
    refine mz_fgR (v := 82) rfl fd_4_12 (by decide) (sc_81 _) (rf_81_0 _ _ _) ?_
    refine mz_ldcS (j := 12) rfl rfl rfl ?_
    refine mz_cv rfl mt_4_57 (by decide) (sc_82 _) rfl (Nat.le_of_ble_eq_true rfl) (by omega) (e_X7_spells (by omega) hx hI (by decide) hstr (by have h8 := (show g 82 5 = (g 82 5) from rfl); have h9 := (show g 82 3 = (g 82 3) from rfl); omega) (fun v19 l_v19 u_v19 hp20 => ⟨_, rfl, ?_⟩))
    show mm_W d mmX4_signOfToken 127 [some (.ref 81)] [.int (Int32.ofInt v19)] (mz_mk g x) Q
    refine mz_if_eq (tgt := 135) rfl rfl (mz_rg l_v19 u_v19) (fun c127_20 => ?_) (fun c127_20 => ?_)
    · skip
      refine mm_g 1 (pc1 := 136) (lo1 := [some (.ref 81)]) (st1 := [.ref 81]) (H1 := mz_mk g x) rfl ?_
      refine mz_fgR (v := 82) rfl fd_4_12 (by decide) (sc_81 _) (rf_81_0 _ _ _) ?_
      refine mz_ldcS (j := 13) rfl rfl rfl ?_
      refine mz_cv rfl mt_4_57 (by decide) (sc_82 _) rfl (Nat.le_of_ble_eq_true rfl) (by omega) (e_X7_spells (by omega) hx hI (by decide) hstr (by have h8 := (show g 82 5 = (g 82 5) from rfl); have h9 := (show g 82 3 = (g 82 3) from rfl); omega) (fun v21 l_v21 u_v21 hp22 => ⟨_, rfl, ?_⟩))
      show mm_W d mmX4_signOfToken 144 [some (.ref 81)] [.int (Int32.ofInt v21)] (mz_mk g x) Q
      refine mz_if_eq (tgt := 152) rfl rfl (mz_rg l_v21 u_v21) (fun c144_22 => ?_) (fun c144_22 => ?_)
      · skip
        refine mm_g 1 (pc1 := 153) (lo1 := [some (.ref 81)]) (st1 := [.int (Int32.ofInt 0)]) (H1 := mz_mk g x) rfl ?_
        exact mm_rt rfl rfl (hQ _ (by decide) (by decide) ⟨by intro z; have hk := hp2; omega, by intro z; have hk := hp2; omega, by intro z; have hk := hp2; omega, by intro z; have hk := hp2; omega, by intro z; have hk := hp2; omega, by intro z; have hk := hp2; omega, fun _ _ _ _ _ _ => ⟨fun z => by (have h := hp20.mpr z; omega), fun _ z => by (have h := hp22.mpr z; omega), fun _ _ => rfl⟩⟩)
      · skip
        refine mz_bip rfl bip_m12 ?_
        refine mz_gt (tgt := 153) rfl rfl ?_
        exact mm_rt rfl rfl (hQ _ (by decide) (by decide) ⟨by intro z; have hk := hp2; omega, by intro z; have hk := hp2; omega, by intro z; have hk := hp2; omega, by intro z; have hk := hp2; omega, by intro z; have hk := hp2; omega, by intro z; have hk := hp2; omega, fun _ _ _ _ _ _ => ⟨fun z => by (have h := hp20.mpr z; omega), fun _ _ => rfl, fun _ z => absurd (hp22.mp (by omega)) z⟩⟩)
    · skip
      refine mz_bip rfl bip_m11 ?_
      refine mz_gt (tgt := 153) rfl rfl ?_
      exact mm_rt rfl rfl (hQ _ (by decide) (by decide) ⟨by intro z; have hk := hp2; omega, by intro z; have hk := hp2; omega, by intro z; have hk := hp2; omega, by intro z; have hk := hp2; omega, by intro z; have hk := hp2; omega, by intro z; have hk := hp2; omega, fun _ _ _ _ _ _ => ⟨fun _ => rfl, fun z => absurd (hp20.mp (by omega)) z, fun z => absurd (hp20.mp (by omega)) z⟩⟩)
  by_cases c7_9 : v1 = 51
  · refine mz_tsi (tgt := 118) rfl (mz_rg l_v1 u_v1) (by omega) (by omega) (by rw [c7_9]; rfl) rfl ?_
    refine mm_g 1 (pc1 := 119) (lo1 := [some (.ref 81)]) (st1 := [.ref 81]) (H1 := mz_mk g x) rfl ?_
    refine mz_fgR (v := 82) rfl fd_4_12 (by decide) (sc_81 _) (rf_81_0 _ _ _) ?_
    refine mz_ldcS (j := 12) rfl rfl rfl ?_
    refine mz_cv rfl mt_4_57 (by decide) (sc_82 _) rfl (Nat.le_of_ble_eq_true rfl) (by omega) (e_X7_spells (by omega) hx hI (by decide) hstr (by have h8 := (show g 82 5 = (g 82 5) from rfl); have h9 := (show g 82 3 = (g 82 3) from rfl); omega) (fun v23 l_v23 u_v23 hp24 => ⟨_, rfl, ?_⟩))
    show mm_W d mmX4_signOfToken 127 [some (.ref 81)] [.int (Int32.ofInt v23)] (mz_mk g x) Q
    refine mz_if_eq (tgt := 135) rfl rfl (mz_rg l_v23 u_v23) (fun c127_24 => ?_) (fun c127_24 => ?_)
    · skip
      refine mm_g 1 (pc1 := 136) (lo1 := [some (.ref 81)]) (st1 := [.ref 81]) (H1 := mz_mk g x) rfl ?_
      refine mz_fgR (v := 82) rfl fd_4_12 (by decide) (sc_81 _) (rf_81_0 _ _ _) ?_
      refine mz_ldcS (j := 13) rfl rfl rfl ?_
      refine mz_cv rfl mt_4_57 (by decide) (sc_82 _) rfl (Nat.le_of_ble_eq_true rfl) (by omega) (e_X7_spells (by omega) hx hI (by decide) hstr (by have h8 := (show g 82 5 = (g 82 5) from rfl); have h9 := (show g 82 3 = (g 82 3) from rfl); omega) (fun v25 l_v25 u_v25 hp26 => ⟨_, rfl, ?_⟩))
      show mm_W d mmX4_signOfToken 144 [some (.ref 81)] [.int (Int32.ofInt v25)] (mz_mk g x) Q
      refine mz_if_eq (tgt := 152) rfl rfl (mz_rg l_v25 u_v25) (fun c144_26 => ?_) (fun c144_26 => ?_)
      · skip
        refine mm_g 1 (pc1 := 153) (lo1 := [some (.ref 81)]) (st1 := [.int (Int32.ofInt 0)]) (H1 := mz_mk g x) rfl ?_
        exact mm_rt rfl rfl (hQ _ (by decide) (by decide) ⟨by intro z; have hk := hp2; omega, by intro z; have hk := hp2; omega, by intro z; have hk := hp2; omega, by intro z; have hk := hp2; omega, by intro z; have hk := hp2; omega, by intro z; have hk := hp2; omega, fun _ _ _ _ _ _ => ⟨fun z => by (have h := hp24.mpr z; omega), fun _ z => by (have h := hp26.mpr z; omega), fun _ _ => rfl⟩⟩)
      · skip
        refine mz_bip rfl bip_m12 ?_
        refine mz_gt (tgt := 153) rfl rfl ?_
        exact mm_rt rfl rfl (hQ _ (by decide) (by decide) ⟨by intro z; have hk := hp2; omega, by intro z; have hk := hp2; omega, by intro z; have hk := hp2; omega, by intro z; have hk := hp2; omega, by intro z; have hk := hp2; omega, by intro z; have hk := hp2; omega, fun _ _ _ _ _ _ => ⟨fun z => by (have h := hp24.mpr z; omega), fun _ _ => rfl, fun _ z => absurd (hp26.mp (by omega)) z⟩⟩)
    · skip
      refine mz_bip rfl bip_m11 ?_
      refine mz_gt (tgt := 153) rfl rfl ?_
      exact mm_rt rfl rfl (hQ _ (by decide) (by decide) ⟨by intro z; have hk := hp2; omega, by intro z; have hk := hp2; omega, by intro z; have hk := hp2; omega, by intro z; have hk := hp2; omega, by intro z; have hk := hp2; omega, by intro z; have hk := hp2; omega, fun _ _ _ _ _ _ => ⟨fun _ => rfl, fun z => absurd (hp24.mp (by omega)) z, fun z => absurd (hp24.mp (by omega)) z⟩⟩)
  by_cases c7_10 : v1 = 52
  · refine mz_tsi (tgt := 118) rfl (mz_rg l_v1 u_v1) (by omega) (by omega) (by rw [c7_10]; rfl) rfl ?_
    refine mm_g 1 (pc1 := 119) (lo1 := [some (.ref 81)]) (st1 := [.ref 81]) (H1 := mz_mk g x) rfl ?_
    refine mz_fgR (v := 82) rfl fd_4_12 (by decide) (sc_81 _) (rf_81_0 _ _ _) ?_
    refine mz_ldcS (j := 12) rfl rfl rfl ?_
    refine mz_cv rfl mt_4_57 (by decide) (sc_82 _) rfl (Nat.le_of_ble_eq_true rfl) (by omega) (e_X7_spells (by omega) hx hI (by decide) hstr (by have h8 := (show g 82 5 = (g 82 5) from rfl); have h9 := (show g 82 3 = (g 82 3) from rfl); omega) (fun v27 l_v27 u_v27 hp28 => ⟨_, rfl, ?_⟩))
    show mm_W d mmX4_signOfToken 127 [some (.ref 81)] [.int (Int32.ofInt v27)] (mz_mk g x) Q
    refine mz_if_eq (tgt := 135) rfl rfl (mz_rg l_v27 u_v27) (fun c127_28 => ?_) (fun c127_28 => ?_)
    · skip
      refine mm_g 1 (pc1 := 136) (lo1 := [some (.ref 81)]) (st1 := [.ref 81]) (H1 := mz_mk g x) rfl ?_
      refine mz_fgR (v := 82) rfl fd_4_12 (by decide) (sc_81 _) (rf_81_0 _ _ _) ?_
      refine mz_ldcS (j := 13) rfl rfl rfl ?_
      refine mz_cv rfl mt_4_57 (by decide) (sc_82 _) rfl (Nat.le_of_ble_eq_true rfl) (by omega) (e_X7_spells (by omega) hx hI (by decide) hstr (by have h8 := (show g 82 5 = (g 82 5) from rfl); have h9 := (show g 82 3 = (g 82 3) from rfl); omega) (fun v29 l_v29 u_v29 hp30 => ⟨_, rfl, ?_⟩))
      show mm_W d mmX4_signOfToken 144 [some (.ref 81)] [.int (Int32.ofInt v29)] (mz_mk g x) Q
      refine mz_if_eq (tgt := 152) rfl rfl (mz_rg l_v29 u_v29) (fun c144_30 => ?_) (fun c144_30 => ?_)
      · skip
        refine mm_g 1 (pc1 := 153) (lo1 := [some (.ref 81)]) (st1 := [.int (Int32.ofInt 0)]) (H1 := mz_mk g x) rfl ?_
        exact mm_rt rfl rfl (hQ _ (by decide) (by decide) ⟨by intro z; have hk := hp2; omega, by intro z; have hk := hp2; omega, by intro z; have hk := hp2; omega, by intro z; have hk := hp2; omega, by intro z; have hk := hp2; omega, by intro z; have hk := hp2; omega, fun _ _ _ _ _ _ => ⟨fun z => by (have h := hp28.mpr z; omega), fun _ z => by (have h := hp30.mpr z; omega), fun _ _ => rfl⟩⟩)
      · skip
        refine mz_bip rfl bip_m12 ?_
        refine mz_gt (tgt := 153) rfl rfl ?_
        exact mm_rt rfl rfl (hQ _ (by decide) (by decide) ⟨by intro z; have hk := hp2; omega, by intro z; have hk := hp2; omega, by intro z; have hk := hp2; omega, by intro z; have hk := hp2; omega, by intro z; have hk := hp2; omega, by intro z; have hk := hp2; omega, fun _ _ _ _ _ _ => ⟨fun z => by (have h := hp28.mpr z; omega), fun _ _ => rfl, fun _ z => absurd (hp30.mp (by omega)) z⟩⟩)
    · skip
      refine mz_bip rfl bip_m11 ?_
      refine mz_gt (tgt := 153) rfl rfl ?_
      exact mm_rt rfl rfl (hQ _ (by decide) (by decide) ⟨by intro z; have hk := hp2; omega, by intro z; have hk := hp2; omega, by intro z; have hk := hp2; omega, by intro z; have hk := hp2; omega, by intro z; have hk := hp2; omega, by intro z; have hk := hp2; omega, fun _ _ _ _ _ _ => ⟨fun _ => rfl, fun z => absurd (hp28.mp (by omega)) z, fun z => absurd (hp28.mp (by omega)) z⟩⟩)
  by_cases c7_11 : v1 = 53
  · refine mz_tsi (tgt := 118) rfl (mz_rg l_v1 u_v1) (by omega) (by omega) (by rw [c7_11]; rfl) rfl ?_
    refine mm_g 1 (pc1 := 119) (lo1 := [some (.ref 81)]) (st1 := [.ref 81]) (H1 := mz_mk g x) rfl ?_
    refine mz_fgR (v := 82) rfl fd_4_12 (by decide) (sc_81 _) (rf_81_0 _ _ _) ?_
    refine mz_ldcS (j := 12) rfl rfl rfl ?_
    refine mz_cv rfl mt_4_57 (by decide) (sc_82 _) rfl (Nat.le_of_ble_eq_true rfl) (by omega) (e_X7_spells (by omega) hx hI (by decide) hstr (by have h8 := (show g 82 5 = (g 82 5) from rfl); have h9 := (show g 82 3 = (g 82 3) from rfl); omega) (fun v31 l_v31 u_v31 hp32 => ⟨_, rfl, ?_⟩))
    show mm_W d mmX4_signOfToken 127 [some (.ref 81)] [.int (Int32.ofInt v31)] (mz_mk g x) Q
    refine mz_if_eq (tgt := 135) rfl rfl (mz_rg l_v31 u_v31) (fun c127_32 => ?_) (fun c127_32 => ?_)
    · skip
      refine mm_g 1 (pc1 := 136) (lo1 := [some (.ref 81)]) (st1 := [.ref 81]) (H1 := mz_mk g x) rfl ?_
      refine mz_fgR (v := 82) rfl fd_4_12 (by decide) (sc_81 _) (rf_81_0 _ _ _) ?_
      refine mz_ldcS (j := 13) rfl rfl rfl ?_
      refine mz_cv rfl mt_4_57 (by decide) (sc_82 _) rfl (Nat.le_of_ble_eq_true rfl) (by omega) (e_X7_spells (by omega) hx hI (by decide) hstr (by have h8 := (show g 82 5 = (g 82 5) from rfl); have h9 := (show g 82 3 = (g 82 3) from rfl); omega) (fun v33 l_v33 u_v33 hp34 => ⟨_, rfl, ?_⟩))
      show mm_W d mmX4_signOfToken 144 [some (.ref 81)] [.int (Int32.ofInt v33)] (mz_mk g x) Q
      refine mz_if_eq (tgt := 152) rfl rfl (mz_rg l_v33 u_v33) (fun c144_34 => ?_) (fun c144_34 => ?_)
      · skip
        refine mm_g 1 (pc1 := 153) (lo1 := [some (.ref 81)]) (st1 := [.int (Int32.ofInt 0)]) (H1 := mz_mk g x) rfl ?_
        exact mm_rt rfl rfl (hQ _ (by decide) (by decide) ⟨by intro z; have hk := hp2; omega, by intro z; have hk := hp2; omega, by intro z; have hk := hp2; omega, by intro z; have hk := hp2; omega, by intro z; have hk := hp2; omega, by intro z; have hk := hp2; omega, fun _ _ _ _ _ _ => ⟨fun z => by (have h := hp32.mpr z; omega), fun _ z => by (have h := hp34.mpr z; omega), fun _ _ => rfl⟩⟩)
      · skip
        refine mz_bip rfl bip_m12 ?_
        refine mz_gt (tgt := 153) rfl rfl ?_
        exact mm_rt rfl rfl (hQ _ (by decide) (by decide) ⟨by intro z; have hk := hp2; omega, by intro z; have hk := hp2; omega, by intro z; have hk := hp2; omega, by intro z; have hk := hp2; omega, by intro z; have hk := hp2; omega, by intro z; have hk := hp2; omega, fun _ _ _ _ _ _ => ⟨fun z => by (have h := hp32.mpr z; omega), fun _ _ => rfl, fun _ z => absurd (hp34.mp (by omega)) z⟩⟩)
    · skip
      refine mz_bip rfl bip_m11 ?_
      refine mz_gt (tgt := 153) rfl rfl ?_
      exact mm_rt rfl rfl (hQ _ (by decide) (by decide) ⟨by intro z; have hk := hp2; omega, by intro z; have hk := hp2; omega, by intro z; have hk := hp2; omega, by intro z; have hk := hp2; omega, by intro z; have hk := hp2; omega, by intro z; have hk := hp2; omega, fun _ _ _ _ _ _ => ⟨fun _ => rfl, fun z => absurd (hp32.mp (by omega)) z, fun z => absurd (hp32.mp (by omega)) z⟩⟩)
  by_cases c7_12 : v1 = 54
  · refine mz_tsi (tgt := 118) rfl (mz_rg l_v1 u_v1) (by omega) (by omega) (by rw [c7_12]; rfl) rfl ?_
    refine mm_g 1 (pc1 := 119) (lo1 := [some (.ref 81)]) (st1 := [.ref 81]) (H1 := mz_mk g x) rfl ?_
    refine mz_fgR (v := 82) rfl fd_4_12 (by decide) (sc_81 _) (rf_81_0 _ _ _) ?_
    refine mz_ldcS (j := 12) rfl rfl rfl ?_
    refine mz_cv rfl mt_4_57 (by decide) (sc_82 _) rfl (Nat.le_of_ble_eq_true rfl) (by omega) (e_X7_spells (by omega) hx hI (by decide) hstr (by have h8 := (show g 82 5 = (g 82 5) from rfl); have h9 := (show g 82 3 = (g 82 3) from rfl); omega) (fun v35 l_v35 u_v35 hp36 => ⟨_, rfl, ?_⟩))
    show mm_W d mmX4_signOfToken 127 [some (.ref 81)] [.int (Int32.ofInt v35)] (mz_mk g x) Q
    refine mz_if_eq (tgt := 135) rfl rfl (mz_rg l_v35 u_v35) (fun c127_36 => ?_) (fun c127_36 => ?_)
    · skip
      refine mm_g 1 (pc1 := 136) (lo1 := [some (.ref 81)]) (st1 := [.ref 81]) (H1 := mz_mk g x) rfl ?_
      refine mz_fgR (v := 82) rfl fd_4_12 (by decide) (sc_81 _) (rf_81_0 _ _ _) ?_
      refine mz_ldcS (j := 13) rfl rfl rfl ?_
      refine mz_cv rfl mt_4_57 (by decide) (sc_82 _) rfl (Nat.le_of_ble_eq_true rfl) (by omega) (e_X7_spells (by omega) hx hI (by decide) hstr (by have h8 := (show g 82 5 = (g 82 5) from rfl); have h9 := (show g 82 3 = (g 82 3) from rfl); omega) (fun v37 l_v37 u_v37 hp38 => ⟨_, rfl, ?_⟩))
      show mm_W d mmX4_signOfToken 144 [some (.ref 81)] [.int (Int32.ofInt v37)] (mz_mk g x) Q
      refine mz_if_eq (tgt := 152) rfl rfl (mz_rg l_v37 u_v37) (fun c144_38 => ?_) (fun c144_38 => ?_)
      · skip
        refine mm_g 1 (pc1 := 153) (lo1 := [some (.ref 81)]) (st1 := [.int (Int32.ofInt 0)]) (H1 := mz_mk g x) rfl ?_
        exact mm_rt rfl rfl (hQ _ (by decide) (by decide) ⟨by intro z; have hk := hp2; omega, by intro z; have hk := hp2; omega, by intro z; have hk := hp2; omega, by intro z; have hk := hp2; omega, by intro z; have hk := hp2; omega, by intro z; have hk := hp2; omega, fun _ _ _ _ _ _ => ⟨fun z => by (have h := hp36.mpr z; omega), fun _ z => by (have h := hp38.mpr z; omega), fun _ _ => rfl⟩⟩)
      · skip
        refine mz_bip rfl bip_m12 ?_
        refine mz_gt (tgt := 153) rfl rfl ?_
        exact mm_rt rfl rfl (hQ _ (by decide) (by decide) ⟨by intro z; have hk := hp2; omega, by intro z; have hk := hp2; omega, by intro z; have hk := hp2; omega, by intro z; have hk := hp2; omega, by intro z; have hk := hp2; omega, by intro z; have hk := hp2; omega, fun _ _ _ _ _ _ => ⟨fun z => by (have h := hp36.mpr z; omega), fun _ _ => rfl, fun _ z => absurd (hp38.mp (by omega)) z⟩⟩)
    · skip
      refine mz_bip rfl bip_m11 ?_
      refine mz_gt (tgt := 153) rfl rfl ?_
      exact mm_rt rfl rfl (hQ _ (by decide) (by decide) ⟨by intro z; have hk := hp2; omega, by intro z; have hk := hp2; omega, by intro z; have hk := hp2; omega, by intro z; have hk := hp2; omega, by intro z; have hk := hp2; omega, by intro z; have hk := hp2; omega, fun _ _ _ _ _ _ => ⟨fun _ => rfl, fun z => absurd (hp36.mp (by omega)) z, fun z => absurd (hp36.mp (by omega)) z⟩⟩)
  by_cases c7_13 : v1 = 55
  · refine mz_tsi (tgt := 118) rfl (mz_rg l_v1 u_v1) (by omega) (by omega) (by rw [c7_13]; rfl) rfl ?_
    refine mm_g 1 (pc1 := 119) (lo1 := [some (.ref 81)]) (st1 := [.ref 81]) (H1 := mz_mk g x) rfl ?_
    refine mz_fgR (v := 82) rfl fd_4_12 (by decide) (sc_81 _) (rf_81_0 _ _ _) ?_
    refine mz_ldcS (j := 12) rfl rfl rfl ?_
    refine mz_cv rfl mt_4_57 (by decide) (sc_82 _) rfl (Nat.le_of_ble_eq_true rfl) (by omega) (e_X7_spells (by omega) hx hI (by decide) hstr (by have h8 := (show g 82 5 = (g 82 5) from rfl); have h9 := (show g 82 3 = (g 82 3) from rfl); omega) (fun v39 l_v39 u_v39 hp40 => ⟨_, rfl, ?_⟩))
    show mm_W d mmX4_signOfToken 127 [some (.ref 81)] [.int (Int32.ofInt v39)] (mz_mk g x) Q
    refine mz_if_eq (tgt := 135) rfl rfl (mz_rg l_v39 u_v39) (fun c127_40 => ?_) (fun c127_40 => ?_)
    · skip
      refine mm_g 1 (pc1 := 136) (lo1 := [some (.ref 81)]) (st1 := [.ref 81]) (H1 := mz_mk g x) rfl ?_
      refine mz_fgR (v := 82) rfl fd_4_12 (by decide) (sc_81 _) (rf_81_0 _ _ _) ?_
      refine mz_ldcS (j := 13) rfl rfl rfl ?_
      refine mz_cv rfl mt_4_57 (by decide) (sc_82 _) rfl (Nat.le_of_ble_eq_true rfl) (by omega) (e_X7_spells (by omega) hx hI (by decide) hstr (by have h8 := (show g 82 5 = (g 82 5) from rfl); have h9 := (show g 82 3 = (g 82 3) from rfl); omega) (fun v41 l_v41 u_v41 hp42 => ⟨_, rfl, ?_⟩))
      show mm_W d mmX4_signOfToken 144 [some (.ref 81)] [.int (Int32.ofInt v41)] (mz_mk g x) Q
      refine mz_if_eq (tgt := 152) rfl rfl (mz_rg l_v41 u_v41) (fun c144_42 => ?_) (fun c144_42 => ?_)
      · skip
        refine mm_g 1 (pc1 := 153) (lo1 := [some (.ref 81)]) (st1 := [.int (Int32.ofInt 0)]) (H1 := mz_mk g x) rfl ?_
        exact mm_rt rfl rfl (hQ _ (by decide) (by decide) ⟨by intro z; have hk := hp2; omega, by intro z; have hk := hp2; omega, by intro z; have hk := hp2; omega, by intro z; have hk := hp2; omega, by intro z; have hk := hp2; omega, by intro z; have hk := hp2; omega, fun _ _ _ _ _ _ => ⟨fun z => by (have h := hp40.mpr z; omega), fun _ z => by (have h := hp42.mpr z; omega), fun _ _ => rfl⟩⟩)
      · skip
        refine mz_bip rfl bip_m12 ?_
        refine mz_gt (tgt := 153) rfl rfl ?_
        exact mm_rt rfl rfl (hQ _ (by decide) (by decide) ⟨by intro z; have hk := hp2; omega, by intro z; have hk := hp2; omega, by intro z; have hk := hp2; omega, by intro z; have hk := hp2; omega, by intro z; have hk := hp2; omega, by intro z; have hk := hp2; omega, fun _ _ _ _ _ _ => ⟨fun z => by (have h := hp40.mpr z; omega), fun _ _ => rfl, fun _ z => absurd (hp42.mp (by omega)) z⟩⟩)
    · skip
      refine mz_bip rfl bip_m11 ?_
      refine mz_gt (tgt := 153) rfl rfl ?_
      exact mm_rt rfl rfl (hQ _ (by decide) (by decide) ⟨by intro z; have hk := hp2; omega, by intro z; have hk := hp2; omega, by intro z; have hk := hp2; omega, by intro z; have hk := hp2; omega, by intro z; have hk := hp2; omega, by intro z; have hk := hp2; omega, fun _ _ _ _ _ _ => ⟨fun _ => rfl, fun z => absurd (hp40.mp (by omega)) z, fun z => absurd (hp40.mp (by omega)) z⟩⟩)
  by_cases c7_14 : v1 = 56
  · refine mz_tsi (tgt := 118) rfl (mz_rg l_v1 u_v1) (by omega) (by omega) (by rw [c7_14]; rfl) rfl ?_
    refine mm_g 1 (pc1 := 119) (lo1 := [some (.ref 81)]) (st1 := [.ref 81]) (H1 := mz_mk g x) rfl ?_
    refine mz_fgR (v := 82) rfl fd_4_12 (by decide) (sc_81 _) (rf_81_0 _ _ _) ?_
    refine mz_ldcS (j := 12) rfl rfl rfl ?_
    refine mz_cv rfl mt_4_57 (by decide) (sc_82 _) rfl (Nat.le_of_ble_eq_true rfl) (by omega) (e_X7_spells (by omega) hx hI (by decide) hstr (by have h8 := (show g 82 5 = (g 82 5) from rfl); have h9 := (show g 82 3 = (g 82 3) from rfl); omega) (fun v43 l_v43 u_v43 hp44 => ⟨_, rfl, ?_⟩))
    show mm_W d mmX4_signOfToken 127 [some (.ref 81)] [.int (Int32.ofInt v43)] (mz_mk g x) Q
    refine mz_if_eq (tgt := 135) rfl rfl (mz_rg l_v43 u_v43) (fun c127_44 => ?_) (fun c127_44 => ?_)
    · skip
      refine mm_g 1 (pc1 := 136) (lo1 := [some (.ref 81)]) (st1 := [.ref 81]) (H1 := mz_mk g x) rfl ?_
      refine mz_fgR (v := 82) rfl fd_4_12 (by decide) (sc_81 _) (rf_81_0 _ _ _) ?_
      refine mz_ldcS (j := 13) rfl rfl rfl ?_
      refine mz_cv rfl mt_4_57 (by decide) (sc_82 _) rfl (Nat.le_of_ble_eq_true rfl) (by omega) (e_X7_spells (by omega) hx hI (by decide) hstr (by have h8 := (show g 82 5 = (g 82 5) from rfl); have h9 := (show g 82 3 = (g 82 3) from rfl); omega) (fun v45 l_v45 u_v45 hp46 => ⟨_, rfl, ?_⟩))
      show mm_W d mmX4_signOfToken 144 [some (.ref 81)] [.int (Int32.ofInt v45)] (mz_mk g x) Q
      refine mz_if_eq (tgt := 152) rfl rfl (mz_rg l_v45 u_v45) (fun c144_46 => ?_) (fun c144_46 => ?_)
      · skip
        refine mm_g 1 (pc1 := 153) (lo1 := [some (.ref 81)]) (st1 := [.int (Int32.ofInt 0)]) (H1 := mz_mk g x) rfl ?_
        exact mm_rt rfl rfl (hQ _ (by decide) (by decide) ⟨by intro z; have hk := hp2; omega, by intro z; have hk := hp2; omega, by intro z; have hk := hp2; omega, by intro z; have hk := hp2; omega, by intro z; have hk := hp2; omega, by intro z; have hk := hp2; omega, fun _ _ _ _ _ _ => ⟨fun z => by (have h := hp44.mpr z; omega), fun _ z => by (have h := hp46.mpr z; omega), fun _ _ => rfl⟩⟩)
      · skip
        refine mz_bip rfl bip_m12 ?_
        refine mz_gt (tgt := 153) rfl rfl ?_
        exact mm_rt rfl rfl (hQ _ (by decide) (by decide) ⟨by intro z; have hk := hp2; omega, by intro z; have hk := hp2; omega, by intro z; have hk := hp2; omega, by intro z; have hk := hp2; omega, by intro z; have hk := hp2; omega, by intro z; have hk := hp2; omega, fun _ _ _ _ _ _ => ⟨fun z => by (have h := hp44.mpr z; omega), fun _ _ => rfl, fun _ z => absurd (hp46.mp (by omega)) z⟩⟩)
    · skip
      refine mz_bip rfl bip_m11 ?_
      refine mz_gt (tgt := 153) rfl rfl ?_
      exact mm_rt rfl rfl (hQ _ (by decide) (by decide) ⟨by intro z; have hk := hp2; omega, by intro z; have hk := hp2; omega, by intro z; have hk := hp2; omega, by intro z; have hk := hp2; omega, by intro z; have hk := hp2; omega, by intro z; have hk := hp2; omega, fun _ _ _ _ _ _ => ⟨fun _ => rfl, fun z => absurd (hp44.mp (by omega)) z, fun z => absurd (hp44.mp (by omega)) z⟩⟩)
  by_cases c7_15 : v1 = 57
  · refine mz_tsi (tgt := 118) rfl (mz_rg l_v1 u_v1) (by omega) (by omega) (by rw [c7_15]; rfl) rfl ?_
    refine mm_g 1 (pc1 := 119) (lo1 := [some (.ref 81)]) (st1 := [.ref 81]) (H1 := mz_mk g x) rfl ?_
    refine mz_fgR (v := 82) rfl fd_4_12 (by decide) (sc_81 _) (rf_81_0 _ _ _) ?_
    refine mz_ldcS (j := 12) rfl rfl rfl ?_
    refine mz_cv rfl mt_4_57 (by decide) (sc_82 _) rfl (Nat.le_of_ble_eq_true rfl) (by omega) (e_X7_spells (by omega) hx hI (by decide) hstr (by have h8 := (show g 82 5 = (g 82 5) from rfl); have h9 := (show g 82 3 = (g 82 3) from rfl); omega) (fun v47 l_v47 u_v47 hp48 => ⟨_, rfl, ?_⟩))
    show mm_W d mmX4_signOfToken 127 [some (.ref 81)] [.int (Int32.ofInt v47)] (mz_mk g x) Q
    refine mz_if_eq (tgt := 135) rfl rfl (mz_rg l_v47 u_v47) (fun c127_48 => ?_) (fun c127_48 => ?_)
    · skip
      refine mm_g 1 (pc1 := 136) (lo1 := [some (.ref 81)]) (st1 := [.ref 81]) (H1 := mz_mk g x) rfl ?_
      refine mz_fgR (v := 82) rfl fd_4_12 (by decide) (sc_81 _) (rf_81_0 _ _ _) ?_
      refine mz_ldcS (j := 13) rfl rfl rfl ?_
      refine mz_cv rfl mt_4_57 (by decide) (sc_82 _) rfl (Nat.le_of_ble_eq_true rfl) (by omega) (e_X7_spells (by omega) hx hI (by decide) hstr (by have h8 := (show g 82 5 = (g 82 5) from rfl); have h9 := (show g 82 3 = (g 82 3) from rfl); omega) (fun v49 l_v49 u_v49 hp50 => ⟨_, rfl, ?_⟩))
      show mm_W d mmX4_signOfToken 144 [some (.ref 81)] [.int (Int32.ofInt v49)] (mz_mk g x) Q
      refine mz_if_eq (tgt := 152) rfl rfl (mz_rg l_v49 u_v49) (fun c144_50 => ?_) (fun c144_50 => ?_)
      · skip
        refine mm_g 1 (pc1 := 153) (lo1 := [some (.ref 81)]) (st1 := [.int (Int32.ofInt 0)]) (H1 := mz_mk g x) rfl ?_
        exact mm_rt rfl rfl (hQ _ (by decide) (by decide) ⟨by intro z; have hk := hp2; omega, by intro z; have hk := hp2; omega, by intro z; have hk := hp2; omega, by intro z; have hk := hp2; omega, by intro z; have hk := hp2; omega, by intro z; have hk := hp2; omega, fun _ _ _ _ _ _ => ⟨fun z => by (have h := hp48.mpr z; omega), fun _ z => by (have h := hp50.mpr z; omega), fun _ _ => rfl⟩⟩)
      · skip
        refine mz_bip rfl bip_m12 ?_
        refine mz_gt (tgt := 153) rfl rfl ?_
        exact mm_rt rfl rfl (hQ _ (by decide) (by decide) ⟨by intro z; have hk := hp2; omega, by intro z; have hk := hp2; omega, by intro z; have hk := hp2; omega, by intro z; have hk := hp2; omega, by intro z; have hk := hp2; omega, by intro z; have hk := hp2; omega, fun _ _ _ _ _ _ => ⟨fun z => by (have h := hp48.mpr z; omega), fun _ _ => rfl, fun _ z => absurd (hp50.mp (by omega)) z⟩⟩)
    · skip
      refine mz_bip rfl bip_m11 ?_
      refine mz_gt (tgt := 153) rfl rfl ?_
      exact mm_rt rfl rfl (hQ _ (by decide) (by decide) ⟨by intro z; have hk := hp2; omega, by intro z; have hk := hp2; omega, by intro z; have hk := hp2; omega, by intro z; have hk := hp2; omega, by intro z; have hk := hp2; omega, by intro z; have hk := hp2; omega, fun _ _ _ _ _ _ => ⟨fun _ => rfl, fun z => absurd (hp48.mp (by omega)) z, fun z => absurd (hp48.mp (by omega)) z⟩⟩)
  by_cases c7_16 : v1 = 58
  · refine mz_tsi (tgt := 118) rfl (mz_rg l_v1 u_v1) (by omega) (by omega) (by rw [c7_16]; rfl) rfl ?_
    refine mm_g 1 (pc1 := 119) (lo1 := [some (.ref 81)]) (st1 := [.ref 81]) (H1 := mz_mk g x) rfl ?_
    refine mz_fgR (v := 82) rfl fd_4_12 (by decide) (sc_81 _) (rf_81_0 _ _ _) ?_
    refine mz_ldcS (j := 12) rfl rfl rfl ?_
    refine mz_cv rfl mt_4_57 (by decide) (sc_82 _) rfl (Nat.le_of_ble_eq_true rfl) (by omega) (e_X7_spells (by omega) hx hI (by decide) hstr (by have h8 := (show g 82 5 = (g 82 5) from rfl); have h9 := (show g 82 3 = (g 82 3) from rfl); omega) (fun v51 l_v51 u_v51 hp52 => ⟨_, rfl, ?_⟩))
    show mm_W d mmX4_signOfToken 127 [some (.ref 81)] [.int (Int32.ofInt v51)] (mz_mk g x) Q
    refine mz_if_eq (tgt := 135) rfl rfl (mz_rg l_v51 u_v51) (fun c127_52 => ?_) (fun c127_52 => ?_)
    · skip
      refine mm_g 1 (pc1 := 136) (lo1 := [some (.ref 81)]) (st1 := [.ref 81]) (H1 := mz_mk g x) rfl ?_
      refine mz_fgR (v := 82) rfl fd_4_12 (by decide) (sc_81 _) (rf_81_0 _ _ _) ?_
      refine mz_ldcS (j := 13) rfl rfl rfl ?_
      refine mz_cv rfl mt_4_57 (by decide) (sc_82 _) rfl (Nat.le_of_ble_eq_true rfl) (by omega) (e_X7_spells (by omega) hx hI (by decide) hstr (by have h8 := (show g 82 5 = (g 82 5) from rfl); have h9 := (show g 82 3 = (g 82 3) from rfl); omega) (fun v53 l_v53 u_v53 hp54 => ⟨_, rfl, ?_⟩))
      show mm_W d mmX4_signOfToken 144 [some (.ref 81)] [.int (Int32.ofInt v53)] (mz_mk g x) Q
      refine mz_if_eq (tgt := 152) rfl rfl (mz_rg l_v53 u_v53) (fun c144_54 => ?_) (fun c144_54 => ?_)
      · skip
        refine mm_g 1 (pc1 := 153) (lo1 := [some (.ref 81)]) (st1 := [.int (Int32.ofInt 0)]) (H1 := mz_mk g x) rfl ?_
        exact mm_rt rfl rfl (hQ _ (by decide) (by decide) ⟨by intro z; have hk := hp2; omega, by intro z; have hk := hp2; omega, by intro z; have hk := hp2; omega, by intro z; have hk := hp2; omega, by intro z; have hk := hp2; omega, by intro z; have hk := hp2; omega, fun _ _ _ _ _ _ => ⟨fun z => by (have h := hp52.mpr z; omega), fun _ z => by (have h := hp54.mpr z; omega), fun _ _ => rfl⟩⟩)
      · skip
        refine mz_bip rfl bip_m12 ?_
        refine mz_gt (tgt := 153) rfl rfl ?_
        exact mm_rt rfl rfl (hQ _ (by decide) (by decide) ⟨by intro z; have hk := hp2; omega, by intro z; have hk := hp2; omega, by intro z; have hk := hp2; omega, by intro z; have hk := hp2; omega, by intro z; have hk := hp2; omega, by intro z; have hk := hp2; omega, fun _ _ _ _ _ _ => ⟨fun z => by (have h := hp52.mpr z; omega), fun _ _ => rfl, fun _ z => absurd (hp54.mp (by omega)) z⟩⟩)
    · skip
      refine mz_bip rfl bip_m11 ?_
      refine mz_gt (tgt := 153) rfl rfl ?_
      exact mm_rt rfl rfl (hQ _ (by decide) (by decide) ⟨by intro z; have hk := hp2; omega, by intro z; have hk := hp2; omega, by intro z; have hk := hp2; omega, by intro z; have hk := hp2; omega, by intro z; have hk := hp2; omega, by intro z; have hk := hp2; omega, fun _ _ _ _ _ _ => ⟨fun _ => rfl, fun z => absurd (hp52.mp (by omega)) z, fun z => absurd (hp52.mp (by omega)) z⟩⟩)
  by_cases c7_17 : v1 = 59
  · refine mz_tsi (tgt := 118) rfl (mz_rg l_v1 u_v1) (by omega) (by omega) (by rw [c7_17]; rfl) rfl ?_
    refine mm_g 1 (pc1 := 119) (lo1 := [some (.ref 81)]) (st1 := [.ref 81]) (H1 := mz_mk g x) rfl ?_
    refine mz_fgR (v := 82) rfl fd_4_12 (by decide) (sc_81 _) (rf_81_0 _ _ _) ?_
    refine mz_ldcS (j := 12) rfl rfl rfl ?_
    refine mz_cv rfl mt_4_57 (by decide) (sc_82 _) rfl (Nat.le_of_ble_eq_true rfl) (by omega) (e_X7_spells (by omega) hx hI (by decide) hstr (by have h8 := (show g 82 5 = (g 82 5) from rfl); have h9 := (show g 82 3 = (g 82 3) from rfl); omega) (fun v55 l_v55 u_v55 hp56 => ⟨_, rfl, ?_⟩))
    show mm_W d mmX4_signOfToken 127 [some (.ref 81)] [.int (Int32.ofInt v55)] (mz_mk g x) Q
    refine mz_if_eq (tgt := 135) rfl rfl (mz_rg l_v55 u_v55) (fun c127_56 => ?_) (fun c127_56 => ?_)
    · skip
      refine mm_g 1 (pc1 := 136) (lo1 := [some (.ref 81)]) (st1 := [.ref 81]) (H1 := mz_mk g x) rfl ?_
      refine mz_fgR (v := 82) rfl fd_4_12 (by decide) (sc_81 _) (rf_81_0 _ _ _) ?_
      refine mz_ldcS (j := 13) rfl rfl rfl ?_
      refine mz_cv rfl mt_4_57 (by decide) (sc_82 _) rfl (Nat.le_of_ble_eq_true rfl) (by omega) (e_X7_spells (by omega) hx hI (by decide) hstr (by have h8 := (show g 82 5 = (g 82 5) from rfl); have h9 := (show g 82 3 = (g 82 3) from rfl); omega) (fun v57 l_v57 u_v57 hp58 => ⟨_, rfl, ?_⟩))
      show mm_W d mmX4_signOfToken 144 [some (.ref 81)] [.int (Int32.ofInt v57)] (mz_mk g x) Q
      refine mz_if_eq (tgt := 152) rfl rfl (mz_rg l_v57 u_v57) (fun c144_58 => ?_) (fun c144_58 => ?_)
      · skip
        refine mm_g 1 (pc1 := 153) (lo1 := [some (.ref 81)]) (st1 := [.int (Int32.ofInt 0)]) (H1 := mz_mk g x) rfl ?_
        exact mm_rt rfl rfl (hQ _ (by decide) (by decide) ⟨by intro z; have hk := hp2; omega, by intro z; have hk := hp2; omega, by intro z; have hk := hp2; omega, by intro z; have hk := hp2; omega, by intro z; have hk := hp2; omega, by intro z; have hk := hp2; omega, fun _ _ _ _ _ _ => ⟨fun z => by (have h := hp56.mpr z; omega), fun _ z => by (have h := hp58.mpr z; omega), fun _ _ => rfl⟩⟩)
      · skip
        refine mz_bip rfl bip_m12 ?_
        refine mz_gt (tgt := 153) rfl rfl ?_
        exact mm_rt rfl rfl (hQ _ (by decide) (by decide) ⟨by intro z; have hk := hp2; omega, by intro z; have hk := hp2; omega, by intro z; have hk := hp2; omega, by intro z; have hk := hp2; omega, by intro z; have hk := hp2; omega, by intro z; have hk := hp2; omega, fun _ _ _ _ _ _ => ⟨fun z => by (have h := hp56.mpr z; omega), fun _ _ => rfl, fun _ z => absurd (hp58.mp (by omega)) z⟩⟩)
    · skip
      refine mz_bip rfl bip_m11 ?_
      refine mz_gt (tgt := 153) rfl rfl ?_
      exact mm_rt rfl rfl (hQ _ (by decide) (by decide) ⟨by intro z; have hk := hp2; omega, by intro z; have hk := hp2; omega, by intro z; have hk := hp2; omega, by intro z; have hk := hp2; omega, by intro z; have hk := hp2; omega, by intro z; have hk := hp2; omega, fun _ _ _ _ _ _ => ⟨fun _ => rfl, fun z => absurd (hp56.mp (by omega)) z, fun z => absurd (hp56.mp (by omega)) z⟩⟩)
  by_cases c7_18 : v1 = 60
  · refine mz_tsi (tgt := 100) rfl (mz_rg l_v1 u_v1) (by omega) (by omega) (by rw [c7_18]; rfl) rfl ?_
    refine mz_bip rfl bip_m14 ?_
    exact mm_rt rfl rfl (hQ _ (by decide) (by decide) ⟨by intro z; have hk := hp2; omega, by intro z; have hk := hp2; omega, by intro z; have hk := hp2; omega, by intro z; have hk := hp2; omega, by intro z; have hk := hp2; omega, by intro z; have hk := hp2; omega, fun h1 h2 h3 h4 h5 h6 => by have hk := hp2; exfalso; omega⟩)
  by_cases c7_19 : v1 = 61
  · refine mz_tsi (tgt := 103) rfl (mz_rg l_v1 u_v1) (by omega) (by omega) (by rw [c7_19]; rfl) rfl ?_
    refine mz_bip rfl bip_m15 ?_
    exact mm_rt rfl rfl (hQ _ (by decide) (by decide) ⟨by intro z; have hk := hp2; omega, by intro z; have hk := hp2; omega, by intro z; have hk := hp2; omega, by intro z; have hk := hp2; omega, by intro z; have hk := hp2; omega, by intro z; have hk := hp2; omega, fun h1 h2 h3 h4 h5 h6 => by have hk := hp2; exfalso; omega⟩)
  refine mz_tso (tgt := 118) rfl (mz_rg l_v1 u_v1) (by omega) rfl ?_
  refine mm_g 1 (pc1 := 119) (lo1 := [some (.ref 81)]) (st1 := [.ref 81]) (H1 := mz_mk g x) rfl ?_
  refine mz_fgR (v := 82) rfl fd_4_12 (by decide) (sc_81 _) (rf_81_0 _ _ _) ?_
  refine mz_ldcS (j := 12) rfl rfl rfl ?_
  refine mz_cv rfl mt_4_57 (by decide) (sc_82 _) rfl (Nat.le_of_ble_eq_true rfl) (by omega) (e_X7_spells (by omega) hx hI (by decide) hstr (by have h8 := (show g 82 5 = (g 82 5) from rfl); have h9 := (show g 82 3 = (g 82 3) from rfl); omega) (fun v59 l_v59 u_v59 hp60 => ⟨_, rfl, ?_⟩))
  show mm_W d mmX4_signOfToken 127 [some (.ref 81)] [.int (Int32.ofInt v59)] (mz_mk g x) Q
  refine mz_if_eq (tgt := 135) rfl rfl (mz_rg l_v59 u_v59) (fun c127_60 => ?_) (fun c127_60 => ?_)
  · skip
    refine mm_g 1 (pc1 := 136) (lo1 := [some (.ref 81)]) (st1 := [.ref 81]) (H1 := mz_mk g x) rfl ?_
    refine mz_fgR (v := 82) rfl fd_4_12 (by decide) (sc_81 _) (rf_81_0 _ _ _) ?_
    refine mz_ldcS (j := 13) rfl rfl rfl ?_
    refine mz_cv rfl mt_4_57 (by decide) (sc_82 _) rfl (Nat.le_of_ble_eq_true rfl) (by omega) (e_X7_spells (by omega) hx hI (by decide) hstr (by have h8 := (show g 82 5 = (g 82 5) from rfl); have h9 := (show g 82 3 = (g 82 3) from rfl); omega) (fun v61 l_v61 u_v61 hp62 => ⟨_, rfl, ?_⟩))
    show mm_W d mmX4_signOfToken 144 [some (.ref 81)] [.int (Int32.ofInt v61)] (mz_mk g x) Q
    refine mz_if_eq (tgt := 152) rfl rfl (mz_rg l_v61 u_v61) (fun c144_62 => ?_) (fun c144_62 => ?_)
    · skip
      refine mm_g 1 (pc1 := 153) (lo1 := [some (.ref 81)]) (st1 := [.int (Int32.ofInt 0)]) (H1 := mz_mk g x) rfl ?_
      exact mm_rt rfl rfl (hQ _ (by decide) (by decide) ⟨by intro z; have hk := hp2; omega, by intro z; have hk := hp2; omega, by intro z; have hk := hp2; omega, by intro z; have hk := hp2; omega, by intro z; have hk := hp2; omega, by intro z; have hk := hp2; omega, fun _ _ _ _ _ _ => ⟨fun z => by (have h := hp60.mpr z; omega), fun _ z => by (have h := hp62.mpr z; omega), fun _ _ => rfl⟩⟩)
    · skip
      refine mz_bip rfl bip_m12 ?_
      refine mz_gt (tgt := 153) rfl rfl ?_
      exact mm_rt rfl rfl (hQ _ (by decide) (by decide) ⟨by intro z; have hk := hp2; omega, by intro z; have hk := hp2; omega, by intro z; have hk := hp2; omega, by intro z; have hk := hp2; omega, by intro z; have hk := hp2; omega, by intro z; have hk := hp2; omega, fun _ _ _ _ _ _ => ⟨fun z => by (have h := hp60.mpr z; omega), fun _ _ => rfl, fun _ z => absurd (hp62.mp (by omega)) z⟩⟩)
  · skip
    refine mz_bip rfl bip_m11 ?_
    refine mz_gt (tgt := 153) rfl rfl ?_
    exact mm_rt rfl rfl (hQ _ (by decide) (by decide) ⟨by intro z; have hk := hp2; omega, by intro z; have hk := hp2; omega, by intro z; have hk := hp2; omega, by intro z; have hk := hp2; omega, by intro z; have hk := hp2; omega, by intro z; have hk := hp2; omega, fun _ _ _ _ _ _ => ⟨fun _ => rfl, fun z => absurd (hp60.mp (by omega)) z, fun z => absurd (hp60.mp (by omega)) z⟩⟩)
set_option maxHeartbeats 20000000 in
theorem e_X4_readPart {d : Nat} (hd : 7 ≤ d) {x : mm_X} (hx : mk_x x) {g : mz_G} (hI : mz_inv g) {q1 : Nat} (h_q1 : kd_rule q1) {S : List Int} (p1 : st_k g S) (p2 : S.length < 84) (p3 : mz_str g) (p4 : g 82 5 ≤ g 82 3) (p5 : g 82 3 ≤ g 82 2) (p6 : g 81 7 = 1) {Q : (Option Value ⊕ Nat) → mm_H → Prop} (hQ : ∀ (r : Int) (g1 : mz_G), mz_inv g1 → mz_fr (fw_X4_readPart x q1) g g1 → 0 ≤ r → r ≤ 1 → (cp_part (mz_cb g) (g 82 5) (g 82 3) (g 82 4) (g 81 5) S (g 81 8) (g 81 6) (cp_F g1 r) (cp_N (mz_cb g) (g 82 2) (g 82 3) g g1 r)) → Q (.inl (some (.int (Int32.ofInt r)))) (mz_mk g1 x)) : mm_C d 48 [.ref 81, .ref q1] (mz_mk g x) Q := by
  have kn_q1 := kn_rule h_q1
  refine ⟨mmX4_readPart, [some (.ref 81), some (.ref q1), none, none], rfl, rfl, ?_⟩
  have bz0 := mz_rd hI bd_82_2
  have bz1 := mz_rd hI bd_82_3
  have bz2 := mz_rd hI bd_82_4
  have bz3 := mz_rd hI bd_82_5
  have bz4 := mz_rd hI bd_82_6
  have bz5 := mz_rd hI bd_81_1
  have bz6 := mz_rd hI bd_81_2
  have bz7 := mz_rd hI bd_81_5
  have bz8 := mz_rd hI bd_81_6
  have bz9 := mz_rd hI bd_81_7
  have bz10 := mz_rd hI bd_81_8
  have hstr := p3
  refine mm_g 1 (pc1 := 1) (lo1 := [some (.ref 81), some (.ref q1), none, none]) (st1 := [.ref 81]) (H1 := mz_mk g x) rfl ?_
  refine mz_fgR (v := 82) rfl fd_4_12 (by decide) (sc_81 _) (rf_81_0 _ _ _) ?_
  refine mz_cv rfl mt_4_48 (by decide) (sc_82 _) rfl (Nat.le_of_ble_eq_true rfl) (by omega) (e_X7_kind (by omega) hx hI (fun v1 l_v1 u_v1 hp2 => ⟨_, rfl, ?_⟩))
  show mm_W d mmX4_readPart 7 [some (.ref 81), some (.ref q1), none, none] [.int (Int32.ofInt v1)] (mz_mk g x) Q
  refine mm_g 3 (pc1 := 10) (lo1 := [some (.ref 81), some (.ref q1), some (.int (Int32.ofInt v1)), none]) (st1 := [.int (Int32.ofInt 2), .int (Int32.ofInt v1)]) (H1 := mz_mk g x) rfl ?_
  refine mz_ic_eq (tgt := 30) rfl rfl (mz_rg l_v1 u_v1) ⟨by decide, by decide⟩ (fun c10_2 => ?_) (fun c10_2 => ?_)
  · skip
    refine mm_g 1 (pc1 := 31) (lo1 := [some (.ref 81), some (.ref q1), some (.int (Int32.ofInt v1)), none]) (st1 := [.ref 81]) (H1 := mz_mk g x) rfl ?_
    refine mz_fgI (v := (g 81 5)) rfl fd_4_32 (by decide) (sc_81 _) (show g 81 5 = (g 81 5) from rfl) ?_
    refine mz_bip rfl bip_6 ?_
    refine mz_ic_lt (tgt := 45) rfl rfl ⟨by omega, by omega⟩ ⟨by decide, by decide⟩ (fun c36_2 => ?_) (fun c36_2 => ?_)
    · skip
      refine mm_g 1 (pc1 := 46) (lo1 := [some (.ref 81), some (.ref q1), some (.int (Int32.ofInt v1)), none]) (st1 := [.int (Int32.ofInt v1)]) (H1 := mz_mk g x) rfl ?_
      refine mz_bip rfl bip_40 ?_
      refine mz_ic_ne (tgt := 75) rfl rfl (mz_rg l_v1 u_v1) ⟨by decide, by decide⟩ (fun c48_2 => ?_) (fun c48_2 => ?_)
      · skip
        refine mm_g 1 (pc1 := 76) (lo1 := [some (.ref 81), some (.ref q1), some (.int (Int32.ofInt v1)), none]) (st1 := [.ref 81]) (H1 := mz_mk g x) rfl ?_
        refine mz_fgI (v := (g 81 8)) rfl fd_4_42 (by decide) (sc_81 _) (show g 81 8 = (g 81 8) from rfl) ?_
        refine mz_if_eq (tgt := 128) rfl rfl ⟨by omega, by omega⟩ (fun c79_2 => ?_) (fun c79_2 => ?_)
        · skip
          refine mm_g 2 (pc1 := 130) (lo1 := [some (.ref 81), some (.ref q1), some (.int (Int32.ofInt v1)), none]) (st1 := [.int (Int32.ofInt 2), .int (Int32.ofInt v1)]) (H1 := mz_mk g x) rfl ?_
          refine mz_ic_ne (tgt := 143) rfl rfl (mz_rg l_v1 u_v1) ⟨by decide, by decide⟩ (fun c130_2 => ?_) (fun c130_2 => ?_)
          · exfalso; omega
          · skip
            refine mm_g 1 (pc1 := 134) (lo1 := [some (.ref 81), some (.ref q1), some (.int (Int32.ofInt v1)), none]) (st1 := [.ref 81]) (H1 := mz_mk g x) rfl ?_
            refine mz_fgR (v := 82) rfl fd_4_12 (by decide) (sc_81 _) (rf_81_0 _ _ _) ?_
            refine mz_cv rfl mt_4_129 (by decide) (sc_82 _) rfl (Nat.le_of_ble_eq_true rfl) (by omega) (c_X7_number (by omega) hx hI (fun v3 l_v3 u_v3 => ⟨_, rfl, ?_⟩))
            show mm_W d mmX4_readPart 140 [some (.ref 81), some (.ref q1), some (.int (Int32.ofInt v1)), none] [.int (Int32.ofInt v3)] (mz_mk g x) Q
            refine mz_gt (tgt := 147) rfl rfl ?_
            refine mm_g 3 (pc1 := 150) (lo1 := [some (.ref 81), some (.ref q1), some (.int (Int32.ofInt v1)), some (.int (Int32.ofInt v3))]) (st1 := [.int (Int32.ofInt 2), .int (Int32.ofInt v1)]) (H1 := mz_mk g x) rfl ?_
            refine mz_ic_ne (tgt := 170) rfl rfl (mz_rg l_v1 u_v1) ⟨by decide, by decide⟩ (fun c150_3 => ?_) (fun c150_3 => ?_)
            · exfalso; omega
            · skip
              refine mm_g 1 (pc1 := 154) (lo1 := [some (.ref 81), some (.ref q1), some (.int (Int32.ofInt v1)), some (.int (Int32.ofInt v3))]) (st1 := [.ref 81]) (H1 := mz_mk g x) rfl ?_
              refine mz_fgR (v := 82) rfl fd_4_12 (by decide) (sc_81 _) (rf_81_0 _ _ _) ?_
              refine mz_cv rfl mt_4_107 (by decide) (sc_82 _) rfl (Nat.le_of_ble_eq_true rfl) (by omega) (e_X7_tokenSize (by omega) hx hI (fun v4 l_v4 u_v4 hp5 => ⟨_, rfl, ?_⟩))
              show mm_W d mmX4_readPart 160 [some (.ref 81), some (.ref q1), some (.int (Int32.ofInt v1)), some (.int (Int32.ofInt v3))] [.int (Int32.ofInt v4)] (mz_mk g x) Q
              refine mm_g 1 (pc1 := 161) (lo1 := [some (.ref 81), some (.ref q1), some (.int (Int32.ofInt v1)), some (.int (Int32.ofInt v3))]) (st1 := [.int (Int32.ofInt 4), .int (Int32.ofInt v4)]) (H1 := mz_mk g x) rfl ?_
              refine mz_ic_le (tgt := 170) rfl rfl (mz_rg l_v4 u_v4) ⟨by decide, by decide⟩ (fun c161_5 => ?_) (fun c161_5 => ?_)
              · skip
                refine mm_g 2 (pc1 := 172) (lo1 := [some (.ref 81), some (.ref q1), some (.int (Int32.ofInt v1)), some (.int (Int32.ofInt v3))]) (st1 := [.int (Int32.ofInt 1), .int (Int32.ofInt v1)]) (H1 := mz_mk g x) rfl ?_
                refine mz_ic_ne (tgt := 185) rfl rfl (mz_rg l_v1 u_v1) ⟨by decide, by decide⟩ (fun c172_5 => ?_) (fun c172_5 => ?_)
                · skip
                  refine mm_g 2 (pc1 := 187) (lo1 := [some (.ref 81), some (.ref q1), some (.int (Int32.ofInt v1)), some (.int (Int32.ofInt v3))]) (st1 := [.int (Int32.ofInt v3), .ref q1]) (H1 := mz_mk g x) rfl ?_
                  refine mz_cv rfl mt_4_182 (by decide) (kc_rule h_q1 _) rfl (Nat.le_of_ble_eq_true rfl) (by omega) (c_X5_addStep (by omega) hx hI h_q1 l_v3 u_v3 (fun g6 hIg6 hfg6 => ⟨_, rfl, ?_⟩))
                  show mm_W d mmX4_readPart 190 [some (.ref 81), some (.ref q1), some (.int (Int32.ofInt v1)), some (.int (Int32.ofInt v3))] [] (mz_mk g6 x) Q
                  refine mm_g 2 (pc1 := 192) (lo1 := [some (.ref 81), some (.ref q1), some (.int (Int32.ofInt v1)), some (.int (Int32.ofInt v3))]) (st1 := [.int (Int32.ofInt 0), .ref 81]) (H1 := mz_mk g6 x) rfl ?_
                  refine mz_pZ rfl fd_4_38 (sc_81 _) (by decide) hIg6 bd_81_7 (by omega) (by omega) (fun g7 hIg7 hug7 => ?_)
                  refine mm_g 1 (pc1 := 196) (lo1 := [some (.ref 81), some (.ref q1), some (.int (Int32.ofInt v1)), some (.int (Int32.ofInt v3))]) (st1 := [.ref 81]) (H1 := mz_mk g7 x) rfl ?_
                  refine mz_fgR (v := 82) rfl fd_4_12 (by decide) (sc_81 _) (rf_81_0 _ _ _) ?_
                  have hq8 : g7 82 2 = (g 82 2) := (show g7 82 2 = (g 82 2) from ((hug7.2 82 2 (fun h => absurd h.1 (by decide))).trans ((hfg6 82 2 (fun h => (Or.elim h (fun h => (by have h9 : 82 = (q1 + 1) := h; omega)) (fun h => (by have h9 : 82 = q1 := h; omega))))).trans rfl)))
                  have hq9 : g7 82 3 = (g 82 3) := (show g7 82 3 = (g 82 3) from ((hug7.2 82 3 (fun h => absurd h.1 (by decide))).trans ((hfg6 82 3 (fun h => (Or.elim h (fun h => (by have h9 : 82 = (q1 + 1) := h; omega)) (fun h => (by have h9 : 82 = q1 := h; omega))))).trans rfl)))
                  have hq10 : g7 82 4 = (g 82 4) := (show g7 82 4 = (g 82 4) from ((hug7.2 82 4 (fun h => absurd h.1 (by decide))).trans ((hfg6 82 4 (fun h => (Or.elim h (fun h => (by have h9 : 82 = (q1 + 1) := h; omega)) (fun h => (by have h9 : 82 = q1 := h; omega))))).trans rfl)))
                  have hq11 : g7 82 5 = (g 82 5) := (show g7 82 5 = (g 82 5) from ((hug7.2 82 5 (fun h => absurd h.1 (by decide))).trans ((hfg6 82 5 (fun h => (Or.elim h (fun h => (by have h9 : 82 = (q1 + 1) := h; omega)) (fun h => (by have h9 : 82 = q1 := h; omega))))).trans rfl)))
                  have hq12 : g7 82 6 = (g 82 6) := (show g7 82 6 = (g 82 6) from ((hug7.2 82 6 (fun h => absurd h.1 (by decide))).trans ((hfg6 82 6 (fun h => (Or.elim h (fun h => (by have h9 : 82 = (q1 + 1) := h; omega)) (fun h => (by have h9 : 82 = q1 := h; omega))))).trans rfl)))
                  refine mz_cv rfl mt_4_99 (by decide) (sc_82 _) rfl (Nat.le_of_ble_eq_true rfl) (by omega) (e_X7_step (by omega) hx hIg7 (by have h8 := (show g7 82 3 = (g 82 3) from ((hug7.2 82 3 (fun h => absurd h.1 (by decide))).trans ((hfg6 82 3 (fun h => (Or.elim h (fun h => (by have h9 : 82 = (q1 + 1) := h; omega)) (fun h => (by have h9 : 82 = q1 := h; omega))))).trans rfl))); have h9 := (show g7 82 2 = (g 82 2) from ((hug7.2 82 2 (fun h => absurd h.1 (by decide))).trans ((hfg6 82 2 (fun h => (Or.elim h (fun h => (by have h9 : 82 = (q1 + 1) := h; omega)) (fun h => (by have h9 : 82 = q1 := h; omega))))).trans rfl))); omega) (fun g13 hIg13 hfg13 hp14 => ⟨_, rfl, ?_⟩))
                  show mm_W d mmX4_readPart 202 [some (.ref 81), some (.ref q1), some (.int (Int32.ofInt v1)), some (.int (Int32.ofInt v3))] [] (mz_mk g13 x) Q
                  have bz_g13_3 := mz_rd hIg13 bd_82_3
                  have bz_g13_4 := mz_rd hIg13 bd_82_4
                  have bz_g13_5 := mz_rd hIg13 bd_82_5
                  have bz_g13_6 := mz_rd hIg13 bd_82_6
                  have tk14 := hp14
                  rw [show mz_cb g7 = mz_cb g from mz_cb_eq (fun j => ((hug7.2 83 j (fun h => absurd h.1 (by decide))).trans (hfg6 83 j (fun h => (Or.elim h (fun h => (by have h9 : 83 = (q1 + 1) := h; omega)) (fun h => (by have h9 : 83 = q1 := h; omega))))))), hq8, hq9] at tk14
                  refine mm_g 1 (pc1 := 203) (lo1 := [some (.ref 81), some (.ref q1), some (.int (Int32.ofInt v1)), some (.int (Int32.ofInt v3))]) (st1 := [.int (Int32.ofInt 1)]) (H1 := mz_mk g13 x) rfl ?_
                  exact mz_rtZ rfl (by decide) (by omega) (hQ _ _ hIg13 (fun k j hk => ((hfg13 k j (fun h => hk (Or.elim h (fun h => (Or.inr (Or.inr (Or.inr (Or.inl h))))) (fun h => (Or.elim h (fun h => (Or.inr (Or.inr (Or.inr (Or.inr (Or.inl h)))))) (fun h => (Or.elim h (fun h => (Or.inr (Or.inr (Or.inr (Or.inr (Or.inr (Or.inl h))))))) (fun h => (Or.inr (Or.inr (Or.inr (Or.inr (Or.inr (Or.inr (Or.inl h))))))))))))))).trans ((hug7.2 k j (fun h => hk (Or.inr (Or.inr (Or.inl h))))).trans (hfg6 k j (fun h => hk (Or.elim h (fun h => (Or.inl h)) (fun h => (Or.inr (Or.inl h))))))))) (by decide) (by decide) (by have hk := hp2; unfold cp_part; refine ⟨fun h1 h2 h3 => ?_, fun h => ⟨fun h1 => ?_, fun h1 => ⟨fun h2 => ?_, fun h2 => ⟨fun h3 => ⟨fun h4 => ?_, fun h4 => ?_⟩, fun h3 => ⟨fun h4 => ?_, fun h4 => ?_, fun h4 h5 => ?_⟩⟩⟩⟩⟩ <;> first | exact ⟨rfl, (st_k_fr p1 ((hfg13 81 4 (fun h => (Or.elim h (fun h => (absurd (show 81 = 82 from (h).1) (by decide))) (fun h => (Or.elim h (fun h => (absurd (show 81 = 82 from (h).1) (by decide))) (fun h => (Or.elim h (fun h => (absurd (show 81 = 82 from (h).1) (by decide))) (fun h => (absurd (show 81 = 82 from (h).1) (by decide)))))))))).trans ((hug7.2 81 4 (by omega)).trans (hfg6 81 4 (fun h => (Or.elim h (fun h => (by have h9 : 81 = (q1 + 1) := h; omega)) (fun h => (by have h9 : 81 = q1 := h; omega))))))) (fun j => ((hfg13 84 j (fun h => (Or.elim h (fun h => (absurd (show 84 = 82 from (h).1) (by decide))) (fun h => (Or.elim h (fun h => (absurd (show 84 = 82 from (h).1) (by decide))) (fun h => (Or.elim h (fun h => (absurd (show 84 = 82 from (h).1) (by decide))) (fun h => (absurd (show 84 = 82 from (h).1) (by decide)))))))))).trans ((hug7.2 84 j (fun h => absurd h.1 (by decide))).trans (hfg6 84 j (fun h => (Or.elim h (fun h => (by have h9 : 84 = (q1 + 1) := h; omega)) (fun h => (by have h9 : 84 = q1 := h; omega))))))))), (by have h := (show g13 81 7 = 0 from ((hfg13 81 7 (fun h => (Or.elim h (fun h => (absurd (show 81 = 82 from (h).1) (by decide))) (fun h => (Or.elim h (fun h => (absurd (show 81 = 82 from (h).1) (by decide))) (fun h => (Or.elim h (fun h => (absurd (show 81 = 82 from (h).1) (by decide))) (fun h => (absurd (show 81 = 82 from (h).1) (by decide)))))))))).trans hug7.1)); omega), (by have h := (show g13 81 5 = (g 81 5) from ((hfg13 81 5 (fun h => (Or.elim h (fun h => (absurd (show 81 = 82 from (h).1) (by decide))) (fun h => (Or.elim h (fun h => (absurd (show 81 = 82 from (h).1) (by decide))) (fun h => (Or.elim h (fun h => (absurd (show 81 = 82 from (h).1) (by decide))) (fun h => (absurd (show 81 = 82 from (h).1) (by decide)))))))))).trans ((hug7.2 81 5 (fun h => absurd h.2 (by decide))).trans ((hfg6 81 5 (fun h => (Or.elim h (fun h => (by have h9 : 81 = (q1 + 1) := h; omega)) (fun h => (by have h9 : 81 = q1 := h; omega))))).trans rfl)))); omega), (by have h := (show g13 81 8 = (g 81 8) from ((hfg13 81 8 (fun h => (Or.elim h (fun h => (absurd (show 81 = 82 from (h).1) (by decide))) (fun h => (Or.elim h (fun h => (absurd (show 81 = 82 from (h).1) (by decide))) (fun h => (Or.elim h (fun h => (absurd (show 81 = 82 from (h).1) (by decide))) (fun h => (absurd (show 81 = 82 from (h).1) (by decide)))))))))).trans ((hug7.2 81 8 (fun h => absurd h.2 (by decide))).trans ((hfg6 81 8 (fun h => (Or.elim h (fun h => (by have h9 : 81 = (q1 + 1) := h; omega)) (fun h => (by have h9 : 81 = q1 := h; omega))))).trans rfl)))); omega), (by have h := (show g13 81 6 = (g 81 6) from ((hfg13 81 6 (fun h => (Or.elim h (fun h => (absurd (show 81 = 82 from (h).1) (by decide))) (fun h => (Or.elim h (fun h => (absurd (show 81 = 82 from (h).1) (by decide))) (fun h => (Or.elim h (fun h => (absurd (show 81 = 82 from (h).1) (by decide))) (fun h => (absurd (show 81 = 82 from (h).1) (by decide)))))))))).trans ((hug7.2 81 6 (fun h => absurd h.2 (by decide))).trans ((hfg6 81 6 (fun h => (Or.elim h (fun h => (by have h9 : 81 = (q1 + 1) := h; omega)) (fun h => (by have h9 : 81 = q1 := h; omega))))).trans rfl)))); omega), (by have h := (show g13 81 1 = (g 81 1) from ((hfg13 81 1 (fun h => (Or.elim h (fun h => (absurd (show 81 = 82 from (h).1) (by decide))) (fun h => (Or.elim h (fun h => (absurd (show 81 = 82 from (h).1) (by decide))) (fun h => (Or.elim h (fun h => (absurd (show 81 = 82 from (h).1) (by decide))) (fun h => (absurd (show 81 = 82 from (h).1) (by decide)))))))))).trans ((hug7.2 81 1 (fun h => absurd h.2 (by decide))).trans ((hfg6 81 1 (fun h => (Or.elim h (fun h => (by have h9 : 81 = (q1 + 1) := h; omega)) (fun h => (by have h9 : 81 = q1 := h; omega))))).trans rfl)))); omega), (by have h := (show g13 81 2 = (g 81 2) from ((hfg13 81 2 (fun h => (Or.elim h (fun h => (absurd (show 81 = 82 from (h).1) (by decide))) (fun h => (Or.elim h (fun h => (absurd (show 81 = 82 from (h).1) (by decide))) (fun h => (Or.elim h (fun h => (absurd (show 81 = 82 from (h).1) (by decide))) (fun h => (absurd (show 81 = 82 from (h).1) (by decide)))))))))).trans ((hug7.2 81 2 (fun h => absurd h.2 (by decide))).trans ((hfg6 81 2 (fun h => (Or.elim h (fun h => (by have h9 : 81 = (q1 + 1) := h; omega)) (fun h => (by have h9 : 81 = q1 := h; omega))))).trans rfl)))); omega), _, tk14⟩ | (exfalso; first | omega | (have q := h3.1; omega) | (have q := h4.1; omega) | (have q := h4.2; omega))))
                · exfalso; omega
              · skip
                refine mm_g 2 (pc1 := 166) (lo1 := [some (.ref 81), some (.ref q1), some (.int (Int32.ofInt v1)), some (.int (Int32.ofInt v3))]) (st1 := [.int (Int32.ofInt 2), .ref 81]) (H1 := mz_mk g x) rfl ?_
                refine mz_cv rfl mt_4_95 (by decide) (sc_81 _) rfl (Nat.le_of_ble_eq_true rfl) (by omega) (e_X4_blame (by omega) hx hI (by decide) (by decide) (fun v15 g16 hIg16 hfg16 l_v15 u_v15 hp17 hp18 hp19 => ⟨_, rfl, ?_⟩))
                show mm_W d mmX4_readPart 169 [some (.ref 81), some (.ref q1), some (.int (Int32.ofInt v1)), some (.int (Int32.ofInt v3))] [.int (Int32.ofInt v15)] (mz_mk g16 x) Q
                have bz_g16_1 := mz_rd hIg16 bd_81_1
                have bz_g16_2 := mz_rd hIg16 bd_81_2
                exact mz_rtZ rfl (by decide) (by omega) (hQ _ _ hIg16 (fun k j hk => (hfg16 k j (fun h => hk (Or.elim h (fun h => (Or.inr (Or.inr (Or.inr (Or.inr (Or.inr (Or.inr (Or.inr (Or.inl h))))))))) (fun h => (Or.inr (Or.inr (Or.inr (Or.inr (Or.inr (Or.inr (Or.inr (Or.inr (Or.inl h)))))))))))))) (by omega) (by omega) (by have hk := hp2; unfold cp_part; refine ⟨fun h1 h2 h3 => ?_, fun h => ⟨fun h1 => ?_, fun h1 => ⟨fun h2 => ?_, fun h2 => ⟨fun h3 => ⟨fun h4 => ?_, fun h4 => ?_⟩, fun h3 => ⟨fun h4 => ?_, fun h4 => ?_, fun h4 h5 => ?_⟩⟩⟩⟩⟩ <;> first | exact ⟨hp17, hp18, hp19⟩ | (exfalso; first | omega | (have q := h3.1; omega) | (have q := h4.1; omega) | (have q := h4.2; omega))))
        · skip
          refine mm_g 1 (pc1 := 83) (lo1 := [some (.ref 81), some (.ref q1), some (.int (Int32.ofInt v1)), none]) (st1 := [.ref 81]) (H1 := mz_mk g x) rfl ?_
          refine mz_fgR (v := 82) rfl fd_4_12 (by decide) (sc_81 _) (rf_81_0 _ _ _) ?_
          refine mz_ldcS (j := 5) rfl rfl rfl ?_
          refine mz_cv rfl mt_4_57 (by decide) (sc_82 _) rfl (Nat.le_of_ble_eq_true rfl) (by omega) (e_X7_spells (by omega) hx hI (by decide) hstr (by have h8 := (show g 82 5 = (g 82 5) from rfl); have h9 := (show g 82 3 = (g 82 3) from rfl); omega) (fun v20 l_v20 u_v20 hp21 => ⟨_, rfl, ?_⟩))
          show mm_W d mmX4_readPart 91 [some (.ref 81), some (.ref q1), some (.int (Int32.ofInt v1)), none] [.int (Int32.ofInt v20)] (mz_mk g x) Q
          refine mz_if_eq (tgt := 128) rfl rfl (mz_rg l_v20 u_v20) (fun c91_21 => ?_) (fun c91_21 => ?_)
          · skip
            refine mm_g 2 (pc1 := 130) (lo1 := [some (.ref 81), some (.ref q1), some (.int (Int32.ofInt v1)), none]) (st1 := [.int (Int32.ofInt 2), .int (Int32.ofInt v1)]) (H1 := mz_mk g x) rfl ?_
            refine mz_ic_ne (tgt := 143) rfl rfl (mz_rg l_v1 u_v1) ⟨by decide, by decide⟩ (fun c130_21 => ?_) (fun c130_21 => ?_)
            · exfalso; omega
            · skip
              refine mm_g 1 (pc1 := 134) (lo1 := [some (.ref 81), some (.ref q1), some (.int (Int32.ofInt v1)), none]) (st1 := [.ref 81]) (H1 := mz_mk g x) rfl ?_
              refine mz_fgR (v := 82) rfl fd_4_12 (by decide) (sc_81 _) (rf_81_0 _ _ _) ?_
              refine mz_cv rfl mt_4_129 (by decide) (sc_82 _) rfl (Nat.le_of_ble_eq_true rfl) (by omega) (c_X7_number (by omega) hx hI (fun v22 l_v22 u_v22 => ⟨_, rfl, ?_⟩))
              show mm_W d mmX4_readPart 140 [some (.ref 81), some (.ref q1), some (.int (Int32.ofInt v1)), none] [.int (Int32.ofInt v22)] (mz_mk g x) Q
              refine mz_gt (tgt := 147) rfl rfl ?_
              refine mm_g 3 (pc1 := 150) (lo1 := [some (.ref 81), some (.ref q1), some (.int (Int32.ofInt v1)), some (.int (Int32.ofInt v22))]) (st1 := [.int (Int32.ofInt 2), .int (Int32.ofInt v1)]) (H1 := mz_mk g x) rfl ?_
              refine mz_ic_ne (tgt := 170) rfl rfl (mz_rg l_v1 u_v1) ⟨by decide, by decide⟩ (fun c150_22 => ?_) (fun c150_22 => ?_)
              · exfalso; omega
              · skip
                refine mm_g 1 (pc1 := 154) (lo1 := [some (.ref 81), some (.ref q1), some (.int (Int32.ofInt v1)), some (.int (Int32.ofInt v22))]) (st1 := [.ref 81]) (H1 := mz_mk g x) rfl ?_
                refine mz_fgR (v := 82) rfl fd_4_12 (by decide) (sc_81 _) (rf_81_0 _ _ _) ?_
                refine mz_cv rfl mt_4_107 (by decide) (sc_82 _) rfl (Nat.le_of_ble_eq_true rfl) (by omega) (e_X7_tokenSize (by omega) hx hI (fun v23 l_v23 u_v23 hp24 => ⟨_, rfl, ?_⟩))
                show mm_W d mmX4_readPart 160 [some (.ref 81), some (.ref q1), some (.int (Int32.ofInt v1)), some (.int (Int32.ofInt v22))] [.int (Int32.ofInt v23)] (mz_mk g x) Q
                refine mm_g 1 (pc1 := 161) (lo1 := [some (.ref 81), some (.ref q1), some (.int (Int32.ofInt v1)), some (.int (Int32.ofInt v22))]) (st1 := [.int (Int32.ofInt 4), .int (Int32.ofInt v23)]) (H1 := mz_mk g x) rfl ?_
                refine mz_ic_le (tgt := 170) rfl rfl (mz_rg l_v23 u_v23) ⟨by decide, by decide⟩ (fun c161_24 => ?_) (fun c161_24 => ?_)
                · skip
                  refine mm_g 2 (pc1 := 172) (lo1 := [some (.ref 81), some (.ref q1), some (.int (Int32.ofInt v1)), some (.int (Int32.ofInt v22))]) (st1 := [.int (Int32.ofInt 1), .int (Int32.ofInt v1)]) (H1 := mz_mk g x) rfl ?_
                  refine mz_ic_ne (tgt := 185) rfl rfl (mz_rg l_v1 u_v1) ⟨by decide, by decide⟩ (fun c172_24 => ?_) (fun c172_24 => ?_)
                  · skip
                    refine mm_g 2 (pc1 := 187) (lo1 := [some (.ref 81), some (.ref q1), some (.int (Int32.ofInt v1)), some (.int (Int32.ofInt v22))]) (st1 := [.int (Int32.ofInt v22), .ref q1]) (H1 := mz_mk g x) rfl ?_
                    refine mz_cv rfl mt_4_182 (by decide) (kc_rule h_q1 _) rfl (Nat.le_of_ble_eq_true rfl) (by omega) (c_X5_addStep (by omega) hx hI h_q1 l_v22 u_v22 (fun g25 hIg25 hfg25 => ⟨_, rfl, ?_⟩))
                    show mm_W d mmX4_readPart 190 [some (.ref 81), some (.ref q1), some (.int (Int32.ofInt v1)), some (.int (Int32.ofInt v22))] [] (mz_mk g25 x) Q
                    refine mm_g 2 (pc1 := 192) (lo1 := [some (.ref 81), some (.ref q1), some (.int (Int32.ofInt v1)), some (.int (Int32.ofInt v22))]) (st1 := [.int (Int32.ofInt 0), .ref 81]) (H1 := mz_mk g25 x) rfl ?_
                    refine mz_pZ rfl fd_4_38 (sc_81 _) (by decide) hIg25 bd_81_7 (by omega) (by omega) (fun g26 hIg26 hug26 => ?_)
                    refine mm_g 1 (pc1 := 196) (lo1 := [some (.ref 81), some (.ref q1), some (.int (Int32.ofInt v1)), some (.int (Int32.ofInt v22))]) (st1 := [.ref 81]) (H1 := mz_mk g26 x) rfl ?_
                    refine mz_fgR (v := 82) rfl fd_4_12 (by decide) (sc_81 _) (rf_81_0 _ _ _) ?_
                    have hq27 : g26 82 2 = (g 82 2) := (show g26 82 2 = (g 82 2) from ((hug26.2 82 2 (fun h => absurd h.1 (by decide))).trans ((hfg25 82 2 (fun h => (Or.elim h (fun h => (by have h9 : 82 = (q1 + 1) := h; omega)) (fun h => (by have h9 : 82 = q1 := h; omega))))).trans rfl)))
                    have hq28 : g26 82 3 = (g 82 3) := (show g26 82 3 = (g 82 3) from ((hug26.2 82 3 (fun h => absurd h.1 (by decide))).trans ((hfg25 82 3 (fun h => (Or.elim h (fun h => (by have h9 : 82 = (q1 + 1) := h; omega)) (fun h => (by have h9 : 82 = q1 := h; omega))))).trans rfl)))
                    have hq29 : g26 82 4 = (g 82 4) := (show g26 82 4 = (g 82 4) from ((hug26.2 82 4 (fun h => absurd h.1 (by decide))).trans ((hfg25 82 4 (fun h => (Or.elim h (fun h => (by have h9 : 82 = (q1 + 1) := h; omega)) (fun h => (by have h9 : 82 = q1 := h; omega))))).trans rfl)))
                    have hq30 : g26 82 5 = (g 82 5) := (show g26 82 5 = (g 82 5) from ((hug26.2 82 5 (fun h => absurd h.1 (by decide))).trans ((hfg25 82 5 (fun h => (Or.elim h (fun h => (by have h9 : 82 = (q1 + 1) := h; omega)) (fun h => (by have h9 : 82 = q1 := h; omega))))).trans rfl)))
                    have hq31 : g26 82 6 = (g 82 6) := (show g26 82 6 = (g 82 6) from ((hug26.2 82 6 (fun h => absurd h.1 (by decide))).trans ((hfg25 82 6 (fun h => (Or.elim h (fun h => (by have h9 : 82 = (q1 + 1) := h; omega)) (fun h => (by have h9 : 82 = q1 := h; omega))))).trans rfl)))
                    refine mz_cv rfl mt_4_99 (by decide) (sc_82 _) rfl (Nat.le_of_ble_eq_true rfl) (by omega) (e_X7_step (by omega) hx hIg26 (by have h8 := (show g26 82 3 = (g 82 3) from ((hug26.2 82 3 (fun h => absurd h.1 (by decide))).trans ((hfg25 82 3 (fun h => (Or.elim h (fun h => (by have h9 : 82 = (q1 + 1) := h; omega)) (fun h => (by have h9 : 82 = q1 := h; omega))))).trans rfl))); have h9 := (show g26 82 2 = (g 82 2) from ((hug26.2 82 2 (fun h => absurd h.1 (by decide))).trans ((hfg25 82 2 (fun h => (Or.elim h (fun h => (by have h9 : 82 = (q1 + 1) := h; omega)) (fun h => (by have h9 : 82 = q1 := h; omega))))).trans rfl))); omega) (fun g32 hIg32 hfg32 hp33 => ⟨_, rfl, ?_⟩))
                    show mm_W d mmX4_readPart 202 [some (.ref 81), some (.ref q1), some (.int (Int32.ofInt v1)), some (.int (Int32.ofInt v22))] [] (mz_mk g32 x) Q
                    have bz_g32_3 := mz_rd hIg32 bd_82_3
                    have bz_g32_4 := mz_rd hIg32 bd_82_4
                    have bz_g32_5 := mz_rd hIg32 bd_82_5
                    have bz_g32_6 := mz_rd hIg32 bd_82_6
                    have tk33 := hp33
                    rw [show mz_cb g26 = mz_cb g from mz_cb_eq (fun j => ((hug26.2 83 j (fun h => absurd h.1 (by decide))).trans (hfg25 83 j (fun h => (Or.elim h (fun h => (by have h9 : 83 = (q1 + 1) := h; omega)) (fun h => (by have h9 : 83 = q1 := h; omega))))))), hq27, hq28] at tk33
                    refine mm_g 1 (pc1 := 203) (lo1 := [some (.ref 81), some (.ref q1), some (.int (Int32.ofInt v1)), some (.int (Int32.ofInt v22))]) (st1 := [.int (Int32.ofInt 1)]) (H1 := mz_mk g32 x) rfl ?_
                    exact mz_rtZ rfl (by decide) (by omega) (hQ _ _ hIg32 (fun k j hk => ((hfg32 k j (fun h => hk (Or.elim h (fun h => (Or.inr (Or.inr (Or.inr (Or.inl h))))) (fun h => (Or.elim h (fun h => (Or.inr (Or.inr (Or.inr (Or.inr (Or.inl h)))))) (fun h => (Or.elim h (fun h => (Or.inr (Or.inr (Or.inr (Or.inr (Or.inr (Or.inl h))))))) (fun h => (Or.inr (Or.inr (Or.inr (Or.inr (Or.inr (Or.inr (Or.inl h))))))))))))))).trans ((hug26.2 k j (fun h => hk (Or.inr (Or.inr (Or.inl h))))).trans (hfg25 k j (fun h => hk (Or.elim h (fun h => (Or.inl h)) (fun h => (Or.inr (Or.inl h))))))))) (by decide) (by decide) (by have hk := hp2; unfold cp_part; refine ⟨fun h1 h2 h3 => ?_, fun h => ⟨fun h1 => ?_, fun h1 => ⟨fun h2 => ?_, fun h2 => ⟨fun h3 => ⟨fun h4 => ?_, fun h4 => ?_⟩, fun h3 => ⟨fun h4 => ?_, fun h4 => ?_, fun h4 h5 => ?_⟩⟩⟩⟩⟩ <;> first | exact ⟨rfl, (st_k_fr p1 ((hfg32 81 4 (fun h => (Or.elim h (fun h => (absurd (show 81 = 82 from (h).1) (by decide))) (fun h => (Or.elim h (fun h => (absurd (show 81 = 82 from (h).1) (by decide))) (fun h => (Or.elim h (fun h => (absurd (show 81 = 82 from (h).1) (by decide))) (fun h => (absurd (show 81 = 82 from (h).1) (by decide)))))))))).trans ((hug26.2 81 4 (by omega)).trans (hfg25 81 4 (fun h => (Or.elim h (fun h => (by have h9 : 81 = (q1 + 1) := h; omega)) (fun h => (by have h9 : 81 = q1 := h; omega))))))) (fun j => ((hfg32 84 j (fun h => (Or.elim h (fun h => (absurd (show 84 = 82 from (h).1) (by decide))) (fun h => (Or.elim h (fun h => (absurd (show 84 = 82 from (h).1) (by decide))) (fun h => (Or.elim h (fun h => (absurd (show 84 = 82 from (h).1) (by decide))) (fun h => (absurd (show 84 = 82 from (h).1) (by decide)))))))))).trans ((hug26.2 84 j (fun h => absurd h.1 (by decide))).trans (hfg25 84 j (fun h => (Or.elim h (fun h => (by have h9 : 84 = (q1 + 1) := h; omega)) (fun h => (by have h9 : 84 = q1 := h; omega))))))))), (by have h := (show g32 81 7 = 0 from ((hfg32 81 7 (fun h => (Or.elim h (fun h => (absurd (show 81 = 82 from (h).1) (by decide))) (fun h => (Or.elim h (fun h => (absurd (show 81 = 82 from (h).1) (by decide))) (fun h => (Or.elim h (fun h => (absurd (show 81 = 82 from (h).1) (by decide))) (fun h => (absurd (show 81 = 82 from (h).1) (by decide)))))))))).trans hug26.1)); omega), (by have h := (show g32 81 5 = (g 81 5) from ((hfg32 81 5 (fun h => (Or.elim h (fun h => (absurd (show 81 = 82 from (h).1) (by decide))) (fun h => (Or.elim h (fun h => (absurd (show 81 = 82 from (h).1) (by decide))) (fun h => (Or.elim h (fun h => (absurd (show 81 = 82 from (h).1) (by decide))) (fun h => (absurd (show 81 = 82 from (h).1) (by decide)))))))))).trans ((hug26.2 81 5 (fun h => absurd h.2 (by decide))).trans ((hfg25 81 5 (fun h => (Or.elim h (fun h => (by have h9 : 81 = (q1 + 1) := h; omega)) (fun h => (by have h9 : 81 = q1 := h; omega))))).trans rfl)))); omega), (by have h := (show g32 81 8 = (g 81 8) from ((hfg32 81 8 (fun h => (Or.elim h (fun h => (absurd (show 81 = 82 from (h).1) (by decide))) (fun h => (Or.elim h (fun h => (absurd (show 81 = 82 from (h).1) (by decide))) (fun h => (Or.elim h (fun h => (absurd (show 81 = 82 from (h).1) (by decide))) (fun h => (absurd (show 81 = 82 from (h).1) (by decide)))))))))).trans ((hug26.2 81 8 (fun h => absurd h.2 (by decide))).trans ((hfg25 81 8 (fun h => (Or.elim h (fun h => (by have h9 : 81 = (q1 + 1) := h; omega)) (fun h => (by have h9 : 81 = q1 := h; omega))))).trans rfl)))); omega), (by have h := (show g32 81 6 = (g 81 6) from ((hfg32 81 6 (fun h => (Or.elim h (fun h => (absurd (show 81 = 82 from (h).1) (by decide))) (fun h => (Or.elim h (fun h => (absurd (show 81 = 82 from (h).1) (by decide))) (fun h => (Or.elim h (fun h => (absurd (show 81 = 82 from (h).1) (by decide))) (fun h => (absurd (show 81 = 82 from (h).1) (by decide)))))))))).trans ((hug26.2 81 6 (fun h => absurd h.2 (by decide))).trans ((hfg25 81 6 (fun h => (Or.elim h (fun h => (by have h9 : 81 = (q1 + 1) := h; omega)) (fun h => (by have h9 : 81 = q1 := h; omega))))).trans rfl)))); omega), (by have h := (show g32 81 1 = (g 81 1) from ((hfg32 81 1 (fun h => (Or.elim h (fun h => (absurd (show 81 = 82 from (h).1) (by decide))) (fun h => (Or.elim h (fun h => (absurd (show 81 = 82 from (h).1) (by decide))) (fun h => (Or.elim h (fun h => (absurd (show 81 = 82 from (h).1) (by decide))) (fun h => (absurd (show 81 = 82 from (h).1) (by decide)))))))))).trans ((hug26.2 81 1 (fun h => absurd h.2 (by decide))).trans ((hfg25 81 1 (fun h => (Or.elim h (fun h => (by have h9 : 81 = (q1 + 1) := h; omega)) (fun h => (by have h9 : 81 = q1 := h; omega))))).trans rfl)))); omega), (by have h := (show g32 81 2 = (g 81 2) from ((hfg32 81 2 (fun h => (Or.elim h (fun h => (absurd (show 81 = 82 from (h).1) (by decide))) (fun h => (Or.elim h (fun h => (absurd (show 81 = 82 from (h).1) (by decide))) (fun h => (Or.elim h (fun h => (absurd (show 81 = 82 from (h).1) (by decide))) (fun h => (absurd (show 81 = 82 from (h).1) (by decide)))))))))).trans ((hug26.2 81 2 (fun h => absurd h.2 (by decide))).trans ((hfg25 81 2 (fun h => (Or.elim h (fun h => (by have h9 : 81 = (q1 + 1) := h; omega)) (fun h => (by have h9 : 81 = q1 := h; omega))))).trans rfl)))); omega), _, tk33⟩ | (exfalso; first | omega | (have q := hp21.mpr h3.2; omega) | exact h3 ⟨by omega, hp21.mp (by omega)⟩ | (have q := h3.1; omega) | (have q := h4.1; omega) | (have q := h4.2; omega))))
                  · exfalso; omega
                · skip
                  refine mm_g 2 (pc1 := 166) (lo1 := [some (.ref 81), some (.ref q1), some (.int (Int32.ofInt v1)), some (.int (Int32.ofInt v22))]) (st1 := [.int (Int32.ofInt 2), .ref 81]) (H1 := mz_mk g x) rfl ?_
                  refine mz_cv rfl mt_4_95 (by decide) (sc_81 _) rfl (Nat.le_of_ble_eq_true rfl) (by omega) (e_X4_blame (by omega) hx hI (by decide) (by decide) (fun v34 g35 hIg35 hfg35 l_v34 u_v34 hp36 hp37 hp38 => ⟨_, rfl, ?_⟩))
                  show mm_W d mmX4_readPart 169 [some (.ref 81), some (.ref q1), some (.int (Int32.ofInt v1)), some (.int (Int32.ofInt v22))] [.int (Int32.ofInt v34)] (mz_mk g35 x) Q
                  have bz_g35_1 := mz_rd hIg35 bd_81_1
                  have bz_g35_2 := mz_rd hIg35 bd_81_2
                  exact mz_rtZ rfl (by decide) (by omega) (hQ _ _ hIg35 (fun k j hk => (hfg35 k j (fun h => hk (Or.elim h (fun h => (Or.inr (Or.inr (Or.inr (Or.inr (Or.inr (Or.inr (Or.inr (Or.inl h))))))))) (fun h => (Or.inr (Or.inr (Or.inr (Or.inr (Or.inr (Or.inr (Or.inr (Or.inr (Or.inl h)))))))))))))) (by omega) (by omega) (by have hk := hp2; unfold cp_part; refine ⟨fun h1 h2 h3 => ?_, fun h => ⟨fun h1 => ?_, fun h1 => ⟨fun h2 => ?_, fun h2 => ⟨fun h3 => ⟨fun h4 => ?_, fun h4 => ?_⟩, fun h3 => ⟨fun h4 => ?_, fun h4 => ?_, fun h4 h5 => ?_⟩⟩⟩⟩⟩ <;> first | exact ⟨hp36, hp37, hp38⟩ | (exfalso; first | omega | (have q := hp21.mpr h3.2; omega) | exact h3 ⟨by omega, hp21.mp (by omega)⟩ | (have q := h3.1; omega) | (have q := h4.1; omega) | (have q := h4.2; omega))))
          · skip
            refine mm_g 1 (pc1 := 95) (lo1 := [some (.ref 81), some (.ref q1), some (.int (Int32.ofInt v1)), none]) (st1 := [.ref 81]) (H1 := mz_mk g x) rfl ?_
            refine mz_fgI (v := (g 81 6)) rfl fd_4_35 (by decide) (sc_81 _) (show g 81 6 = (g 81 6) from rfl) ?_
            refine mz_bip rfl bip_6 ?_
            refine mz_ic_lt (tgt := 109) rfl rfl ⟨by omega, by omega⟩ ⟨by decide, by decide⟩ (fun c100_38 => ?_) (fun c100_38 => ?_)
            · skip
              refine mm_g 2 (pc1 := 111) (lo1 := [some (.ref 81), some (.ref q1), some (.int (Int32.ofInt v1)), none]) (st1 := [.ref 81, .ref 81]) (H1 := mz_mk g x) rfl ?_
              refine mz_fgI (v := (g 81 6)) rfl fd_4_35 (by decide) (sc_81 _) (show g 81 6 = (g 81 6) from rfl) ?_
              refine mm_g 1 (pc1 := 115) (lo1 := [some (.ref 81), some (.ref q1), some (.int (Int32.ofInt v1)), none]) (st1 := [.int (Int32.ofInt 1), .int (Int32.ofInt (g 81 6)), .ref 81]) (H1 := mz_mk g x) rfl ?_
              refine mz_iadd rfl ?_
              refine mz_pI rfl fd_4_35 (sc_81 _) hI bd_81_6 (by omega) (by omega) (fun g39 hIg39 hug39 => ?_)
              refine mm_g 1 (pc1 := 120) (lo1 := [some (.ref 81), some (.ref q1), some (.int (Int32.ofInt v1)), none]) (st1 := [.ref 81]) (H1 := mz_mk g39 x) rfl ?_
              refine mz_bip rfl bip_m13 ?_
              refine mz_cv rfl mt_4_174 (by decide) (sc_81 _) rfl (Nat.le_of_ble_eq_true rfl) (by omega) (e_X4_openSign (by omega) hx hIg39 (by decide) (by decide) (st_k_fr p1 (hug39.2 81 4 (by omega)) (fun j => (hug39.2 84 j (fun h => absurd h.1 (by decide))))) p2 (fun g40 hIg40 hfg40 hp41 => ⟨_, rfl, ?_⟩))
              show mm_W d mmX4_readPart 125 [some (.ref 81), some (.ref q1), some (.int (Int32.ofInt v1)), none] [] (mz_mk g40 x) Q
              refine mz_gt (tgt := 195) rfl rfl ?_
              refine mm_g 1 (pc1 := 196) (lo1 := [some (.ref 81), some (.ref q1), some (.int (Int32.ofInt v1)), none]) (st1 := [.ref 81]) (H1 := mz_mk g40 x) rfl ?_
              refine mz_fgR (v := 82) rfl fd_4_12 (by decide) (sc_81 _) (rf_81_0 _ _ _) ?_
              have hq42 : g40 82 2 = (g 82 2) := (show g40 82 2 = (g 82 2) from ((hfg40 82 2 (fun h => (Or.elim h (fun h => (absurd (show 82 = 84 from h) (by decide))) (fun h => (absurd (show 82 = 81 from (h).1) (by decide)))))).trans ((hug39.2 82 2 (fun h => absurd h.1 (by decide))).trans rfl)))
              have hq43 : g40 82 3 = (g 82 3) := (show g40 82 3 = (g 82 3) from ((hfg40 82 3 (fun h => (Or.elim h (fun h => (absurd (show 82 = 84 from h) (by decide))) (fun h => (absurd (show 82 = 81 from (h).1) (by decide)))))).trans ((hug39.2 82 3 (fun h => absurd h.1 (by decide))).trans rfl)))
              have hq44 : g40 82 4 = (g 82 4) := (show g40 82 4 = (g 82 4) from ((hfg40 82 4 (fun h => (Or.elim h (fun h => (absurd (show 82 = 84 from h) (by decide))) (fun h => (absurd (show 82 = 81 from (h).1) (by decide)))))).trans ((hug39.2 82 4 (fun h => absurd h.1 (by decide))).trans rfl)))
              have hq45 : g40 82 5 = (g 82 5) := (show g40 82 5 = (g 82 5) from ((hfg40 82 5 (fun h => (Or.elim h (fun h => (absurd (show 82 = 84 from h) (by decide))) (fun h => (absurd (show 82 = 81 from (h).1) (by decide)))))).trans ((hug39.2 82 5 (fun h => absurd h.1 (by decide))).trans rfl)))
              have hq46 : g40 82 6 = (g 82 6) := (show g40 82 6 = (g 82 6) from ((hfg40 82 6 (fun h => (Or.elim h (fun h => (absurd (show 82 = 84 from h) (by decide))) (fun h => (absurd (show 82 = 81 from (h).1) (by decide)))))).trans ((hug39.2 82 6 (fun h => absurd h.1 (by decide))).trans rfl)))
              refine mz_cv rfl mt_4_99 (by decide) (sc_82 _) rfl (Nat.le_of_ble_eq_true rfl) (by omega) (e_X7_step (by omega) hx hIg40 (by have h8 := (show g40 82 3 = (g 82 3) from ((hfg40 82 3 (fun h => (Or.elim h (fun h => (absurd (show 82 = 84 from h) (by decide))) (fun h => (absurd (show 82 = 81 from (h).1) (by decide)))))).trans ((hug39.2 82 3 (fun h => absurd h.1 (by decide))).trans rfl))); have h9 := (show g40 82 2 = (g 82 2) from ((hfg40 82 2 (fun h => (Or.elim h (fun h => (absurd (show 82 = 84 from h) (by decide))) (fun h => (absurd (show 82 = 81 from (h).1) (by decide)))))).trans ((hug39.2 82 2 (fun h => absurd h.1 (by decide))).trans rfl))); omega) (fun g47 hIg47 hfg47 hp48 => ⟨_, rfl, ?_⟩))
              show mm_W d mmX4_readPart 202 [some (.ref 81), some (.ref q1), some (.int (Int32.ofInt v1)), none] [] (mz_mk g47 x) Q
              have bz_g47_3 := mz_rd hIg47 bd_82_3
              have bz_g47_4 := mz_rd hIg47 bd_82_4
              have bz_g47_5 := mz_rd hIg47 bd_82_5
              have bz_g47_6 := mz_rd hIg47 bd_82_6
              have tk48 := hp48
              rw [show mz_cb g40 = mz_cb g from mz_cb_eq (fun j => ((hfg40 83 j (fun h => (Or.elim h (fun h => (absurd (show 83 = 84 from h) (by decide))) (fun h => (absurd (show 83 = 81 from (h).1) (by decide)))))).trans (hug39.2 83 j (fun h => absurd h.1 (by decide))))), hq42, hq43] at tk48
              refine mm_g 1 (pc1 := 203) (lo1 := [some (.ref 81), some (.ref q1), some (.int (Int32.ofInt v1)), none]) (st1 := [.int (Int32.ofInt 1)]) (H1 := mz_mk g47 x) rfl ?_
              exact mz_rtZ rfl (by decide) (by omega) (hQ _ _ hIg47 (fun k j hk => ((hfg47 k j (fun h => hk (Or.elim h (fun h => (Or.inr (Or.inr (Or.inr (Or.inl h))))) (fun h => (Or.elim h (fun h => (Or.inr (Or.inr (Or.inr (Or.inr (Or.inl h)))))) (fun h => (Or.elim h (fun h => (Or.inr (Or.inr (Or.inr (Or.inr (Or.inr (Or.inl h))))))) (fun h => (Or.inr (Or.inr (Or.inr (Or.inr (Or.inr (Or.inr (Or.inl h))))))))))))))).trans ((hfg40 k j (fun h => hk (Or.elim h (fun h => (Or.inr (Or.inr (Or.inr (Or.inr (Or.inr (Or.inr (Or.inr (Or.inr (Or.inr (Or.inr (Or.inl h)))))))))))) (fun h => (Or.inr (Or.inr (Or.inr (Or.inr (Or.inr (Or.inr (Or.inr (Or.inr (Or.inr (Or.inr (Or.inr (Or.inl h)))))))))))))))).trans (hug39.2 k j (fun h => hk (Or.inr (Or.inr (Or.inr (Or.inr (Or.inr (Or.inr (Or.inr (Or.inr (Or.inr (Or.inl h))))))))))))))) (by decide) (by decide) (by have hk := hp2; unfold cp_part; refine ⟨fun h1 h2 h3 => ?_, fun h => ⟨fun h1 => ?_, fun h1 => ⟨fun h2 => ?_, fun h2 => ⟨fun h3 => ⟨fun h4 => ?_, fun h4 => ?_⟩, fun h3 => ⟨fun h4 => ?_, fun h4 => ?_, fun h4 h5 => ?_⟩⟩⟩⟩⟩ <;> first | exact ⟨rfl, (st_k_fr hp41 (hfg47 81 4 (fun h => (Or.elim h (fun h => (absurd (show 81 = 82 from (h).1) (by decide))) (fun h => (Or.elim h (fun h => (absurd (show 81 = 82 from (h).1) (by decide))) (fun h => (Or.elim h (fun h => (absurd (show 81 = 82 from (h).1) (by decide))) (fun h => (absurd (show 81 = 82 from (h).1) (by decide)))))))))) (fun j => (hfg47 84 j (fun h => (Or.elim h (fun h => (absurd (show 84 = 82 from (h).1) (by decide))) (fun h => (Or.elim h (fun h => (absurd (show 84 = 82 from (h).1) (by decide))) (fun h => (Or.elim h (fun h => (absurd (show 84 = 82 from (h).1) (by decide))) (fun h => (absurd (show 84 = 82 from (h).1) (by decide)))))))))))), (by have h := (show g47 81 7 = (g 81 7) from ((hfg47 81 7 (fun h => (Or.elim h (fun h => (absurd (show 81 = 82 from (h).1) (by decide))) (fun h => (Or.elim h (fun h => (absurd (show 81 = 82 from (h).1) (by decide))) (fun h => (Or.elim h (fun h => (absurd (show 81 = 82 from (h).1) (by decide))) (fun h => (absurd (show 81 = 82 from (h).1) (by decide)))))))))).trans ((hfg40 81 7 (fun h => (Or.elim h (fun h => (absurd (show 81 = 84 from h) (by decide))) (fun h => (absurd (show (81 = 81 ∧ 7 = 4) from h) (by decide)))))).trans ((hug39.2 81 7 (fun h => absurd h.2 (by decide))).trans rfl)))); omega), (by have h := (show g47 81 5 = (g 81 5) from ((hfg47 81 5 (fun h => (Or.elim h (fun h => (absurd (show 81 = 82 from (h).1) (by decide))) (fun h => (Or.elim h (fun h => (absurd (show 81 = 82 from (h).1) (by decide))) (fun h => (Or.elim h (fun h => (absurd (show 81 = 82 from (h).1) (by decide))) (fun h => (absurd (show 81 = 82 from (h).1) (by decide)))))))))).trans ((hfg40 81 5 (fun h => (Or.elim h (fun h => (absurd (show 81 = 84 from h) (by decide))) (fun h => (absurd (show (81 = 81 ∧ 5 = 4) from h) (by decide)))))).trans ((hug39.2 81 5 (fun h => absurd h.2 (by decide))).trans rfl)))); omega), (by have h := (show g47 81 8 = (g 81 8) from ((hfg47 81 8 (fun h => (Or.elim h (fun h => (absurd (show 81 = 82 from (h).1) (by decide))) (fun h => (Or.elim h (fun h => (absurd (show 81 = 82 from (h).1) (by decide))) (fun h => (Or.elim h (fun h => (absurd (show 81 = 82 from (h).1) (by decide))) (fun h => (absurd (show 81 = 82 from (h).1) (by decide)))))))))).trans ((hfg40 81 8 (fun h => (Or.elim h (fun h => (absurd (show 81 = 84 from h) (by decide))) (fun h => (absurd (show (81 = 81 ∧ 8 = 4) from h) (by decide)))))).trans ((hug39.2 81 8 (fun h => absurd h.2 (by decide))).trans rfl)))); omega), (by have h := (show g47 81 6 = ((g 81 6) + 1) from ((hfg47 81 6 (fun h => (Or.elim h (fun h => (absurd (show 81 = 82 from (h).1) (by decide))) (fun h => (Or.elim h (fun h => (absurd (show 81 = 82 from (h).1) (by decide))) (fun h => (Or.elim h (fun h => (absurd (show 81 = 82 from (h).1) (by decide))) (fun h => (absurd (show 81 = 82 from (h).1) (by decide)))))))))).trans ((hfg40 81 6 (fun h => (Or.elim h (fun h => (absurd (show 81 = 84 from h) (by decide))) (fun h => (absurd (show (81 = 81 ∧ 6 = 4) from h) (by decide)))))).trans hug39.1))); omega), (by have h := (show g47 81 1 = (g 81 1) from ((hfg47 81 1 (fun h => (Or.elim h (fun h => (absurd (show 81 = 82 from (h).1) (by decide))) (fun h => (Or.elim h (fun h => (absurd (show 81 = 82 from (h).1) (by decide))) (fun h => (Or.elim h (fun h => (absurd (show 81 = 82 from (h).1) (by decide))) (fun h => (absurd (show 81 = 82 from (h).1) (by decide)))))))))).trans ((hfg40 81 1 (fun h => (Or.elim h (fun h => (absurd (show 81 = 84 from h) (by decide))) (fun h => (absurd (show (81 = 81 ∧ 1 = 4) from h) (by decide)))))).trans ((hug39.2 81 1 (fun h => absurd h.2 (by decide))).trans rfl)))); omega), (by have h := (show g47 81 2 = (g 81 2) from ((hfg47 81 2 (fun h => (Or.elim h (fun h => (absurd (show 81 = 82 from (h).1) (by decide))) (fun h => (Or.elim h (fun h => (absurd (show 81 = 82 from (h).1) (by decide))) (fun h => (Or.elim h (fun h => (absurd (show 81 = 82 from (h).1) (by decide))) (fun h => (absurd (show 81 = 82 from (h).1) (by decide)))))))))).trans ((hfg40 81 2 (fun h => (Or.elim h (fun h => (absurd (show 81 = 84 from h) (by decide))) (fun h => (absurd (show (81 = 81 ∧ 2 = 4) from h) (by decide)))))).trans ((hug39.2 81 2 (fun h => absurd h.2 (by decide))).trans rfl)))); omega), _, tk48⟩ | (exfalso; first | omega | (have q := hp21.mpr h3.2; omega) | exact h3 ⟨by omega, hp21.mp (by omega)⟩ | (have q := h3.1; omega) | (have q := h4.1; omega) | (have q := h4.2; omega))))
            · skip
              refine mm_g 2 (pc1 := 105) (lo1 := [some (.ref 81), some (.ref q1), some (.int (Int32.ofInt v1)), none]) (st1 := [.int (Int32.ofInt 2), .ref 81]) (H1 := mz_mk g x) rfl ?_
              refine mz_cv rfl mt_4_95 (by decide) (sc_81 _) rfl (Nat.le_of_ble_eq_true rfl) (by omega) (e_X4_blame (by omega) hx hI (by decide) (by decide) (fun v49 g50 hIg50 hfg50 l_v49 u_v49 hp51 hp52 hp53 => ⟨_, rfl, ?_⟩))
              show mm_W d mmX4_readPart 108 [some (.ref 81), some (.ref q1), some (.int (Int32.ofInt v1)), none] [.int (Int32.ofInt v49)] (mz_mk g50 x) Q
              have bz_g50_1 := mz_rd hIg50 bd_81_1
              have bz_g50_2 := mz_rd hIg50 bd_81_2
              exact mz_rtZ rfl (by decide) (by omega) (hQ _ _ hIg50 (fun k j hk => (hfg50 k j (fun h => hk (Or.elim h (fun h => (Or.inr (Or.inr (Or.inr (Or.inr (Or.inr (Or.inr (Or.inr (Or.inl h))))))))) (fun h => (Or.inr (Or.inr (Or.inr (Or.inr (Or.inr (Or.inr (Or.inr (Or.inr (Or.inl h)))))))))))))) (by omega) (by omega) (by have hk := hp2; unfold cp_part; refine ⟨fun h1 h2 h3 => ?_, fun h => ⟨fun h1 => ?_, fun h1 => ⟨fun h2 => ?_, fun h2 => ⟨fun h3 => ⟨fun h4 => ?_, fun h4 => ?_⟩, fun h3 => ⟨fun h4 => ?_, fun h4 => ?_, fun h4 h5 => ?_⟩⟩⟩⟩⟩ <;> first | exact ⟨hp51, hp52, hp53⟩ | (exfalso; first | omega | (have q := hp21.mpr h3.2; omega) | exact h3 ⟨by omega, hp21.mp (by omega)⟩ | (have q := h3.1; omega) | (have q := h4.1; omega) | (have q := h4.2; omega))))
      · exfalso; omega
    · skip
      refine mm_g 2 (pc1 := 41) (lo1 := [some (.ref 81), some (.ref q1), some (.int (Int32.ofInt v1)), none]) (st1 := [.int (Int32.ofInt 2), .ref 81]) (H1 := mz_mk g x) rfl ?_
      refine mz_cv rfl mt_4_95 (by decide) (sc_81 _) rfl (Nat.le_of_ble_eq_true rfl) (by omega) (e_X4_blame (by omega) hx hI (by decide) (by decide) (fun v54 g55 hIg55 hfg55 l_v54 u_v54 hp56 hp57 hp58 => ⟨_, rfl, ?_⟩))
      show mm_W d mmX4_readPart 44 [some (.ref 81), some (.ref q1), some (.int (Int32.ofInt v1)), none] [.int (Int32.ofInt v54)] (mz_mk g55 x) Q
      have bz_g55_1 := mz_rd hIg55 bd_81_1
      have bz_g55_2 := mz_rd hIg55 bd_81_2
      exact mz_rtZ rfl (by decide) (by omega) (hQ _ _ hIg55 (fun k j hk => (hfg55 k j (fun h => hk (Or.elim h (fun h => (Or.inr (Or.inr (Or.inr (Or.inr (Or.inr (Or.inr (Or.inr (Or.inl h))))))))) (fun h => (Or.inr (Or.inr (Or.inr (Or.inr (Or.inr (Or.inr (Or.inr (Or.inr (Or.inl h)))))))))))))) (by omega) (by omega) (by have hk := hp2; unfold cp_part; refine ⟨fun h1 h2 h3 => ?_, fun h => ⟨fun h1 => ?_, fun h1 => ⟨fun h2 => ?_, fun h2 => ⟨fun h3 => ⟨fun h4 => ?_, fun h4 => ?_⟩, fun h3 => ⟨fun h4 => ?_, fun h4 => ?_, fun h4 h5 => ?_⟩⟩⟩⟩⟩ <;> first | exact ⟨hp56, hp57, hp58⟩ | (exfalso; first | omega | (have q := h3.1; omega) | (have q := h4.1; omega) | (have q := h4.2; omega))))
  · skip
    refine mm_g 2 (pc1 := 15) (lo1 := [some (.ref 81), some (.ref q1), some (.int (Int32.ofInt v1)), none]) (st1 := [.int (Int32.ofInt 1), .int (Int32.ofInt v1)]) (H1 := mz_mk g x) rfl ?_
    refine mz_ic_eq (tgt := 30) rfl rfl (mz_rg l_v1 u_v1) ⟨by decide, by decide⟩ (fun c15_58 => ?_) (fun c15_58 => ?_)
    · skip
      refine mm_g 1 (pc1 := 31) (lo1 := [some (.ref 81), some (.ref q1), some (.int (Int32.ofInt v1)), none]) (st1 := [.ref 81]) (H1 := mz_mk g x) rfl ?_
      refine mz_fgI (v := (g 81 5)) rfl fd_4_32 (by decide) (sc_81 _) (show g 81 5 = (g 81 5) from rfl) ?_
      refine mz_bip rfl bip_6 ?_
      refine mz_ic_lt (tgt := 45) rfl rfl ⟨by omega, by omega⟩ ⟨by decide, by decide⟩ (fun c36_58 => ?_) (fun c36_58 => ?_)
      · skip
        refine mm_g 1 (pc1 := 46) (lo1 := [some (.ref 81), some (.ref q1), some (.int (Int32.ofInt v1)), none]) (st1 := [.int (Int32.ofInt v1)]) (H1 := mz_mk g x) rfl ?_
        refine mz_bip rfl bip_40 ?_
        refine mz_ic_ne (tgt := 75) rfl rfl (mz_rg l_v1 u_v1) ⟨by decide, by decide⟩ (fun c48_58 => ?_) (fun c48_58 => ?_)
        · skip
          refine mm_g 1 (pc1 := 76) (lo1 := [some (.ref 81), some (.ref q1), some (.int (Int32.ofInt v1)), none]) (st1 := [.ref 81]) (H1 := mz_mk g x) rfl ?_
          refine mz_fgI (v := (g 81 8)) rfl fd_4_42 (by decide) (sc_81 _) (show g 81 8 = (g 81 8) from rfl) ?_
          refine mz_if_eq (tgt := 128) rfl rfl ⟨by omega, by omega⟩ (fun c79_58 => ?_) (fun c79_58 => ?_)
          · skip
            refine mm_g 2 (pc1 := 130) (lo1 := [some (.ref 81), some (.ref q1), some (.int (Int32.ofInt v1)), none]) (st1 := [.int (Int32.ofInt 2), .int (Int32.ofInt v1)]) (H1 := mz_mk g x) rfl ?_
            refine mz_ic_ne (tgt := 143) rfl rfl (mz_rg l_v1 u_v1) ⟨by decide, by decide⟩ (fun c130_58 => ?_) (fun c130_58 => ?_)
            · skip
              refine mm_g 1 (pc1 := 144) (lo1 := [some (.ref 81), some (.ref q1), some (.int (Int32.ofInt v1)), none]) (st1 := [.ref 81]) (H1 := mz_mk g x) rfl ?_
              refine mz_cv rfl mt_4_179 (by decide) (sc_81 _) rfl (Nat.le_of_ble_eq_true rfl) (by omega) (e_X4_valueOfWord (by omega) hx hI hstr (by have h8 := (show g 82 5 = (g 82 5) from rfl); have h9 := (show g 82 3 = (g 82 3) from rfl); omega) (fun v59 l_v59 u_v59 hp60 => ⟨_, rfl, ?_⟩))
              show mm_W d mmX4_readPart 147 [some (.ref 81), some (.ref q1), some (.int (Int32.ofInt v1)), none] [.int (Int32.ofInt v59)] (mz_mk g x) Q
              refine mm_g 3 (pc1 := 150) (lo1 := [some (.ref 81), some (.ref q1), some (.int (Int32.ofInt v1)), some (.int (Int32.ofInt v59))]) (st1 := [.int (Int32.ofInt 2), .int (Int32.ofInt v1)]) (H1 := mz_mk g x) rfl ?_
              refine mz_ic_ne (tgt := 170) rfl rfl (mz_rg l_v1 u_v1) ⟨by decide, by decide⟩ (fun c150_60 => ?_) (fun c150_60 => ?_)
              · skip
                refine mm_g 2 (pc1 := 172) (lo1 := [some (.ref 81), some (.ref q1), some (.int (Int32.ofInt v1)), some (.int (Int32.ofInt v59))]) (st1 := [.int (Int32.ofInt 1), .int (Int32.ofInt v1)]) (H1 := mz_mk g x) rfl ?_
                refine mz_ic_ne (tgt := 185) rfl rfl (mz_rg l_v1 u_v1) ⟨by decide, by decide⟩ (fun c172_60 => ?_) (fun c172_60 => ?_)
                · exfalso; omega
                · skip
                  refine mm_g 1 (pc1 := 176) (lo1 := [some (.ref 81), some (.ref q1), some (.int (Int32.ofInt v1)), some (.int (Int32.ofInt v59))]) (st1 := [.int (Int32.ofInt v59)]) (H1 := mz_mk g x) rfl ?_
                  refine mz_if_ne (tgt := 185) rfl rfl (mz_rg l_v59 u_v59) (fun c176_60 => ?_) (fun c176_60 => ?_)
                  · skip
                    refine mm_g 2 (pc1 := 187) (lo1 := [some (.ref 81), some (.ref q1), some (.int (Int32.ofInt v1)), some (.int (Int32.ofInt v59))]) (st1 := [.int (Int32.ofInt v59), .ref q1]) (H1 := mz_mk g x) rfl ?_
                    refine mz_cv rfl mt_4_182 (by decide) (kc_rule h_q1 _) rfl (Nat.le_of_ble_eq_true rfl) (by omega) (c_X5_addStep (by omega) hx hI h_q1 (by omega) (by omega) (fun g61 hIg61 hfg61 => ⟨_, rfl, ?_⟩))
                    show mm_W d mmX4_readPart 190 [some (.ref 81), some (.ref q1), some (.int (Int32.ofInt v1)), some (.int (Int32.ofInt v59))] [] (mz_mk g61 x) Q
                    refine mm_g 2 (pc1 := 192) (lo1 := [some (.ref 81), some (.ref q1), some (.int (Int32.ofInt v1)), some (.int (Int32.ofInt v59))]) (st1 := [.int (Int32.ofInt 0), .ref 81]) (H1 := mz_mk g61 x) rfl ?_
                    refine mz_pZ rfl fd_4_38 (sc_81 _) (by decide) hIg61 bd_81_7 (by omega) (by omega) (fun g62 hIg62 hug62 => ?_)
                    refine mm_g 1 (pc1 := 196) (lo1 := [some (.ref 81), some (.ref q1), some (.int (Int32.ofInt v1)), some (.int (Int32.ofInt v59))]) (st1 := [.ref 81]) (H1 := mz_mk g62 x) rfl ?_
                    refine mz_fgR (v := 82) rfl fd_4_12 (by decide) (sc_81 _) (rf_81_0 _ _ _) ?_
                    have hq63 : g62 82 2 = (g 82 2) := (show g62 82 2 = (g 82 2) from ((hug62.2 82 2 (fun h => absurd h.1 (by decide))).trans ((hfg61 82 2 (fun h => (Or.elim h (fun h => (by have h9 : 82 = (q1 + 1) := h; omega)) (fun h => (by have h9 : 82 = q1 := h; omega))))).trans rfl)))
                    have hq64 : g62 82 3 = (g 82 3) := (show g62 82 3 = (g 82 3) from ((hug62.2 82 3 (fun h => absurd h.1 (by decide))).trans ((hfg61 82 3 (fun h => (Or.elim h (fun h => (by have h9 : 82 = (q1 + 1) := h; omega)) (fun h => (by have h9 : 82 = q1 := h; omega))))).trans rfl)))
                    have hq65 : g62 82 4 = (g 82 4) := (show g62 82 4 = (g 82 4) from ((hug62.2 82 4 (fun h => absurd h.1 (by decide))).trans ((hfg61 82 4 (fun h => (Or.elim h (fun h => (by have h9 : 82 = (q1 + 1) := h; omega)) (fun h => (by have h9 : 82 = q1 := h; omega))))).trans rfl)))
                    have hq66 : g62 82 5 = (g 82 5) := (show g62 82 5 = (g 82 5) from ((hug62.2 82 5 (fun h => absurd h.1 (by decide))).trans ((hfg61 82 5 (fun h => (Or.elim h (fun h => (by have h9 : 82 = (q1 + 1) := h; omega)) (fun h => (by have h9 : 82 = q1 := h; omega))))).trans rfl)))
                    have hq67 : g62 82 6 = (g 82 6) := (show g62 82 6 = (g 82 6) from ((hug62.2 82 6 (fun h => absurd h.1 (by decide))).trans ((hfg61 82 6 (fun h => (Or.elim h (fun h => (by have h9 : 82 = (q1 + 1) := h; omega)) (fun h => (by have h9 : 82 = q1 := h; omega))))).trans rfl)))
                    refine mz_cv rfl mt_4_99 (by decide) (sc_82 _) rfl (Nat.le_of_ble_eq_true rfl) (by omega) (e_X7_step (by omega) hx hIg62 (by have h8 := (show g62 82 3 = (g 82 3) from ((hug62.2 82 3 (fun h => absurd h.1 (by decide))).trans ((hfg61 82 3 (fun h => (Or.elim h (fun h => (by have h9 : 82 = (q1 + 1) := h; omega)) (fun h => (by have h9 : 82 = q1 := h; omega))))).trans rfl))); have h9 := (show g62 82 2 = (g 82 2) from ((hug62.2 82 2 (fun h => absurd h.1 (by decide))).trans ((hfg61 82 2 (fun h => (Or.elim h (fun h => (by have h9 : 82 = (q1 + 1) := h; omega)) (fun h => (by have h9 : 82 = q1 := h; omega))))).trans rfl))); omega) (fun g68 hIg68 hfg68 hp69 => ⟨_, rfl, ?_⟩))
                    show mm_W d mmX4_readPart 202 [some (.ref 81), some (.ref q1), some (.int (Int32.ofInt v1)), some (.int (Int32.ofInt v59))] [] (mz_mk g68 x) Q
                    have bz_g68_3 := mz_rd hIg68 bd_82_3
                    have bz_g68_4 := mz_rd hIg68 bd_82_4
                    have bz_g68_5 := mz_rd hIg68 bd_82_5
                    have bz_g68_6 := mz_rd hIg68 bd_82_6
                    have tk69 := hp69
                    rw [show mz_cb g62 = mz_cb g from mz_cb_eq (fun j => ((hug62.2 83 j (fun h => absurd h.1 (by decide))).trans (hfg61 83 j (fun h => (Or.elim h (fun h => (by have h9 : 83 = (q1 + 1) := h; omega)) (fun h => (by have h9 : 83 = q1 := h; omega))))))), hq63, hq64] at tk69
                    refine mm_g 1 (pc1 := 203) (lo1 := [some (.ref 81), some (.ref q1), some (.int (Int32.ofInt v1)), some (.int (Int32.ofInt v59))]) (st1 := [.int (Int32.ofInt 1)]) (H1 := mz_mk g68 x) rfl ?_
                    exact mz_rtZ rfl (by decide) (by omega) (hQ _ _ hIg68 (fun k j hk => ((hfg68 k j (fun h => hk (Or.elim h (fun h => (Or.inr (Or.inr (Or.inr (Or.inl h))))) (fun h => (Or.elim h (fun h => (Or.inr (Or.inr (Or.inr (Or.inr (Or.inl h)))))) (fun h => (Or.elim h (fun h => (Or.inr (Or.inr (Or.inr (Or.inr (Or.inr (Or.inl h))))))) (fun h => (Or.inr (Or.inr (Or.inr (Or.inr (Or.inr (Or.inr (Or.inl h))))))))))))))).trans ((hug62.2 k j (fun h => hk (Or.inr (Or.inr (Or.inl h))))).trans (hfg61 k j (fun h => hk (Or.elim h (fun h => (Or.inl h)) (fun h => (Or.inr (Or.inl h))))))))) (by decide) (by decide) (by have hk := hp2; unfold cp_part; refine ⟨fun h1 h2 h3 => ?_, fun h => ⟨fun h1 => ?_, fun h1 => ⟨fun h2 => ?_, fun h2 => ⟨fun h3 => ⟨fun h4 => ?_, fun h4 => ?_⟩, fun h3 => ⟨fun h4 => ?_, fun h4 => ?_, fun h4 h5 => ?_⟩⟩⟩⟩⟩ <;> first | exact ⟨rfl, (st_k_fr p1 ((hfg68 81 4 (fun h => (Or.elim h (fun h => (absurd (show 81 = 82 from (h).1) (by decide))) (fun h => (Or.elim h (fun h => (absurd (show 81 = 82 from (h).1) (by decide))) (fun h => (Or.elim h (fun h => (absurd (show 81 = 82 from (h).1) (by decide))) (fun h => (absurd (show 81 = 82 from (h).1) (by decide)))))))))).trans ((hug62.2 81 4 (by omega)).trans (hfg61 81 4 (fun h => (Or.elim h (fun h => (by have h9 : 81 = (q1 + 1) := h; omega)) (fun h => (by have h9 : 81 = q1 := h; omega))))))) (fun j => ((hfg68 84 j (fun h => (Or.elim h (fun h => (absurd (show 84 = 82 from (h).1) (by decide))) (fun h => (Or.elim h (fun h => (absurd (show 84 = 82 from (h).1) (by decide))) (fun h => (Or.elim h (fun h => (absurd (show 84 = 82 from (h).1) (by decide))) (fun h => (absurd (show 84 = 82 from (h).1) (by decide)))))))))).trans ((hug62.2 84 j (fun h => absurd h.1 (by decide))).trans (hfg61 84 j (fun h => (Or.elim h (fun h => (by have h9 : 84 = (q1 + 1) := h; omega)) (fun h => (by have h9 : 84 = q1 := h; omega))))))))), (by have h := (show g68 81 7 = 0 from ((hfg68 81 7 (fun h => (Or.elim h (fun h => (absurd (show 81 = 82 from (h).1) (by decide))) (fun h => (Or.elim h (fun h => (absurd (show 81 = 82 from (h).1) (by decide))) (fun h => (Or.elim h (fun h => (absurd (show 81 = 82 from (h).1) (by decide))) (fun h => (absurd (show 81 = 82 from (h).1) (by decide)))))))))).trans hug62.1)); omega), (by have h := (show g68 81 5 = (g 81 5) from ((hfg68 81 5 (fun h => (Or.elim h (fun h => (absurd (show 81 = 82 from (h).1) (by decide))) (fun h => (Or.elim h (fun h => (absurd (show 81 = 82 from (h).1) (by decide))) (fun h => (Or.elim h (fun h => (absurd (show 81 = 82 from (h).1) (by decide))) (fun h => (absurd (show 81 = 82 from (h).1) (by decide)))))))))).trans ((hug62.2 81 5 (fun h => absurd h.2 (by decide))).trans ((hfg61 81 5 (fun h => (Or.elim h (fun h => (by have h9 : 81 = (q1 + 1) := h; omega)) (fun h => (by have h9 : 81 = q1 := h; omega))))).trans rfl)))); omega), (by have h := (show g68 81 8 = (g 81 8) from ((hfg68 81 8 (fun h => (Or.elim h (fun h => (absurd (show 81 = 82 from (h).1) (by decide))) (fun h => (Or.elim h (fun h => (absurd (show 81 = 82 from (h).1) (by decide))) (fun h => (Or.elim h (fun h => (absurd (show 81 = 82 from (h).1) (by decide))) (fun h => (absurd (show 81 = 82 from (h).1) (by decide)))))))))).trans ((hug62.2 81 8 (fun h => absurd h.2 (by decide))).trans ((hfg61 81 8 (fun h => (Or.elim h (fun h => (by have h9 : 81 = (q1 + 1) := h; omega)) (fun h => (by have h9 : 81 = q1 := h; omega))))).trans rfl)))); omega), (by have h := (show g68 81 6 = (g 81 6) from ((hfg68 81 6 (fun h => (Or.elim h (fun h => (absurd (show 81 = 82 from (h).1) (by decide))) (fun h => (Or.elim h (fun h => (absurd (show 81 = 82 from (h).1) (by decide))) (fun h => (Or.elim h (fun h => (absurd (show 81 = 82 from (h).1) (by decide))) (fun h => (absurd (show 81 = 82 from (h).1) (by decide)))))))))).trans ((hug62.2 81 6 (fun h => absurd h.2 (by decide))).trans ((hfg61 81 6 (fun h => (Or.elim h (fun h => (by have h9 : 81 = (q1 + 1) := h; omega)) (fun h => (by have h9 : 81 = q1 := h; omega))))).trans rfl)))); omega), (by have h := (show g68 81 1 = (g 81 1) from ((hfg68 81 1 (fun h => (Or.elim h (fun h => (absurd (show 81 = 82 from (h).1) (by decide))) (fun h => (Or.elim h (fun h => (absurd (show 81 = 82 from (h).1) (by decide))) (fun h => (Or.elim h (fun h => (absurd (show 81 = 82 from (h).1) (by decide))) (fun h => (absurd (show 81 = 82 from (h).1) (by decide)))))))))).trans ((hug62.2 81 1 (fun h => absurd h.2 (by decide))).trans ((hfg61 81 1 (fun h => (Or.elim h (fun h => (by have h9 : 81 = (q1 + 1) := h; omega)) (fun h => (by have h9 : 81 = q1 := h; omega))))).trans rfl)))); omega), (by have h := (show g68 81 2 = (g 81 2) from ((hfg68 81 2 (fun h => (Or.elim h (fun h => (absurd (show 81 = 82 from (h).1) (by decide))) (fun h => (Or.elim h (fun h => (absurd (show 81 = 82 from (h).1) (by decide))) (fun h => (Or.elim h (fun h => (absurd (show 81 = 82 from (h).1) (by decide))) (fun h => (absurd (show 81 = 82 from (h).1) (by decide)))))))))).trans ((hug62.2 81 2 (fun h => absurd h.2 (by decide))).trans ((hfg61 81 2 (fun h => (Or.elim h (fun h => (by have h9 : 81 = (q1 + 1) := h; omega)) (fun h => (by have h9 : 81 = q1 := h; omega))))).trans rfl)))); omega), _, tk69⟩ | (exfalso; first | omega | (have q := h3.1; omega) | (have q := hp60.mpr h4.2; omega) | exact h5 ⟨by omega, hp60.mp (by omega)⟩ | (have q := h4.1; omega))))
                  · skip
                    refine mm_g 2 (pc1 := 181) (lo1 := [some (.ref 81), some (.ref q1), some (.int (Int32.ofInt v1)), some (.int (Int32.ofInt v59))]) (st1 := [.int (Int32.ofInt 3), .ref 81]) (H1 := mz_mk g x) rfl ?_
                    refine mz_cv rfl mt_4_95 (by decide) (sc_81 _) rfl (Nat.le_of_ble_eq_true rfl) (by omega) (e_X4_blame (by omega) hx hI (by decide) (by decide) (fun v70 g71 hIg71 hfg71 l_v70 u_v70 hp72 hp73 hp74 => ⟨_, rfl, ?_⟩))
                    show mm_W d mmX4_readPart 184 [some (.ref 81), some (.ref q1), some (.int (Int32.ofInt v1)), some (.int (Int32.ofInt v59))] [.int (Int32.ofInt v70)] (mz_mk g71 x) Q
                    have bz_g71_1 := mz_rd hIg71 bd_81_1
                    have bz_g71_2 := mz_rd hIg71 bd_81_2
                    exact mz_rtZ rfl (by decide) (by omega) (hQ _ _ hIg71 (fun k j hk => (hfg71 k j (fun h => hk (Or.elim h (fun h => (Or.inr (Or.inr (Or.inr (Or.inr (Or.inr (Or.inr (Or.inr (Or.inl h))))))))) (fun h => (Or.inr (Or.inr (Or.inr (Or.inr (Or.inr (Or.inr (Or.inr (Or.inr (Or.inl h)))))))))))))) (by omega) (by omega) (by have hk := hp2; unfold cp_part; refine ⟨fun h1 h2 h3 => ?_, fun h => ⟨fun h1 => ?_, fun h1 => ⟨fun h2 => ?_, fun h2 => ⟨fun h3 => ⟨fun h4 => ?_, fun h4 => ?_⟩, fun h3 => ⟨fun h4 => ?_, fun h4 => ?_, fun h4 h5 => ?_⟩⟩⟩⟩⟩ <;> first | exact ⟨hp72, hp73, hp74⟩ | (exfalso; first | omega | (have q := h3.1; omega) | (have q := hp60.mpr h4.2; omega) | exact h5 ⟨by omega, hp60.mp (by omega)⟩ | (have q := h4.1; omega))))
              · exfalso; omega
            · exfalso; omega
          · skip
            refine mm_g 1 (pc1 := 83) (lo1 := [some (.ref 81), some (.ref q1), some (.int (Int32.ofInt v1)), none]) (st1 := [.ref 81]) (H1 := mz_mk g x) rfl ?_
            refine mz_fgR (v := 82) rfl fd_4_12 (by decide) (sc_81 _) (rf_81_0 _ _ _) ?_
            refine mz_ldcS (j := 5) rfl rfl rfl ?_
            refine mz_cv rfl mt_4_57 (by decide) (sc_82 _) rfl (Nat.le_of_ble_eq_true rfl) (by omega) (e_X7_spells (by omega) hx hI (by decide) hstr (by have h8 := (show g 82 5 = (g 82 5) from rfl); have h9 := (show g 82 3 = (g 82 3) from rfl); omega) (fun v75 l_v75 u_v75 hp76 => ⟨_, rfl, ?_⟩))
            show mm_W d mmX4_readPart 91 [some (.ref 81), some (.ref q1), some (.int (Int32.ofInt v1)), none] [.int (Int32.ofInt v75)] (mz_mk g x) Q
            refine mz_if_eq (tgt := 128) rfl rfl (mz_rg l_v75 u_v75) (fun c91_76 => ?_) (fun c91_76 => ?_)
            · skip
              refine mm_g 2 (pc1 := 130) (lo1 := [some (.ref 81), some (.ref q1), some (.int (Int32.ofInt v1)), none]) (st1 := [.int (Int32.ofInt 2), .int (Int32.ofInt v1)]) (H1 := mz_mk g x) rfl ?_
              refine mz_ic_ne (tgt := 143) rfl rfl (mz_rg l_v1 u_v1) ⟨by decide, by decide⟩ (fun c130_76 => ?_) (fun c130_76 => ?_)
              · skip
                refine mm_g 1 (pc1 := 144) (lo1 := [some (.ref 81), some (.ref q1), some (.int (Int32.ofInt v1)), none]) (st1 := [.ref 81]) (H1 := mz_mk g x) rfl ?_
                refine mz_cv rfl mt_4_179 (by decide) (sc_81 _) rfl (Nat.le_of_ble_eq_true rfl) (by omega) (e_X4_valueOfWord (by omega) hx hI hstr (by have h8 := (show g 82 5 = (g 82 5) from rfl); have h9 := (show g 82 3 = (g 82 3) from rfl); omega) (fun v77 l_v77 u_v77 hp78 => ⟨_, rfl, ?_⟩))
                show mm_W d mmX4_readPart 147 [some (.ref 81), some (.ref q1), some (.int (Int32.ofInt v1)), none] [.int (Int32.ofInt v77)] (mz_mk g x) Q
                refine mm_g 3 (pc1 := 150) (lo1 := [some (.ref 81), some (.ref q1), some (.int (Int32.ofInt v1)), some (.int (Int32.ofInt v77))]) (st1 := [.int (Int32.ofInt 2), .int (Int32.ofInt v1)]) (H1 := mz_mk g x) rfl ?_
                refine mz_ic_ne (tgt := 170) rfl rfl (mz_rg l_v1 u_v1) ⟨by decide, by decide⟩ (fun c150_78 => ?_) (fun c150_78 => ?_)
                · skip
                  refine mm_g 2 (pc1 := 172) (lo1 := [some (.ref 81), some (.ref q1), some (.int (Int32.ofInt v1)), some (.int (Int32.ofInt v77))]) (st1 := [.int (Int32.ofInt 1), .int (Int32.ofInt v1)]) (H1 := mz_mk g x) rfl ?_
                  refine mz_ic_ne (tgt := 185) rfl rfl (mz_rg l_v1 u_v1) ⟨by decide, by decide⟩ (fun c172_78 => ?_) (fun c172_78 => ?_)
                  · exfalso; omega
                  · skip
                    refine mm_g 1 (pc1 := 176) (lo1 := [some (.ref 81), some (.ref q1), some (.int (Int32.ofInt v1)), some (.int (Int32.ofInt v77))]) (st1 := [.int (Int32.ofInt v77)]) (H1 := mz_mk g x) rfl ?_
                    refine mz_if_ne (tgt := 185) rfl rfl (mz_rg l_v77 u_v77) (fun c176_78 => ?_) (fun c176_78 => ?_)
                    · skip
                      refine mm_g 2 (pc1 := 187) (lo1 := [some (.ref 81), some (.ref q1), some (.int (Int32.ofInt v1)), some (.int (Int32.ofInt v77))]) (st1 := [.int (Int32.ofInt v77), .ref q1]) (H1 := mz_mk g x) rfl ?_
                      refine mz_cv rfl mt_4_182 (by decide) (kc_rule h_q1 _) rfl (Nat.le_of_ble_eq_true rfl) (by omega) (c_X5_addStep (by omega) hx hI h_q1 (by omega) (by omega) (fun g79 hIg79 hfg79 => ⟨_, rfl, ?_⟩))
                      show mm_W d mmX4_readPart 190 [some (.ref 81), some (.ref q1), some (.int (Int32.ofInt v1)), some (.int (Int32.ofInt v77))] [] (mz_mk g79 x) Q
                      refine mm_g 2 (pc1 := 192) (lo1 := [some (.ref 81), some (.ref q1), some (.int (Int32.ofInt v1)), some (.int (Int32.ofInt v77))]) (st1 := [.int (Int32.ofInt 0), .ref 81]) (H1 := mz_mk g79 x) rfl ?_
                      refine mz_pZ rfl fd_4_38 (sc_81 _) (by decide) hIg79 bd_81_7 (by omega) (by omega) (fun g80 hIg80 hug80 => ?_)
                      refine mm_g 1 (pc1 := 196) (lo1 := [some (.ref 81), some (.ref q1), some (.int (Int32.ofInt v1)), some (.int (Int32.ofInt v77))]) (st1 := [.ref 81]) (H1 := mz_mk g80 x) rfl ?_
                      refine mz_fgR (v := 82) rfl fd_4_12 (by decide) (sc_81 _) (rf_81_0 _ _ _) ?_
                      have hq81 : g80 82 2 = (g 82 2) := (show g80 82 2 = (g 82 2) from ((hug80.2 82 2 (fun h => absurd h.1 (by decide))).trans ((hfg79 82 2 (fun h => (Or.elim h (fun h => (by have h9 : 82 = (q1 + 1) := h; omega)) (fun h => (by have h9 : 82 = q1 := h; omega))))).trans rfl)))
                      have hq82 : g80 82 3 = (g 82 3) := (show g80 82 3 = (g 82 3) from ((hug80.2 82 3 (fun h => absurd h.1 (by decide))).trans ((hfg79 82 3 (fun h => (Or.elim h (fun h => (by have h9 : 82 = (q1 + 1) := h; omega)) (fun h => (by have h9 : 82 = q1 := h; omega))))).trans rfl)))
                      have hq83 : g80 82 4 = (g 82 4) := (show g80 82 4 = (g 82 4) from ((hug80.2 82 4 (fun h => absurd h.1 (by decide))).trans ((hfg79 82 4 (fun h => (Or.elim h (fun h => (by have h9 : 82 = (q1 + 1) := h; omega)) (fun h => (by have h9 : 82 = q1 := h; omega))))).trans rfl)))
                      have hq84 : g80 82 5 = (g 82 5) := (show g80 82 5 = (g 82 5) from ((hug80.2 82 5 (fun h => absurd h.1 (by decide))).trans ((hfg79 82 5 (fun h => (Or.elim h (fun h => (by have h9 : 82 = (q1 + 1) := h; omega)) (fun h => (by have h9 : 82 = q1 := h; omega))))).trans rfl)))
                      have hq85 : g80 82 6 = (g 82 6) := (show g80 82 6 = (g 82 6) from ((hug80.2 82 6 (fun h => absurd h.1 (by decide))).trans ((hfg79 82 6 (fun h => (Or.elim h (fun h => (by have h9 : 82 = (q1 + 1) := h; omega)) (fun h => (by have h9 : 82 = q1 := h; omega))))).trans rfl)))
                      refine mz_cv rfl mt_4_99 (by decide) (sc_82 _) rfl (Nat.le_of_ble_eq_true rfl) (by omega) (e_X7_step (by omega) hx hIg80 (by have h8 := (show g80 82 3 = (g 82 3) from ((hug80.2 82 3 (fun h => absurd h.1 (by decide))).trans ((hfg79 82 3 (fun h => (Or.elim h (fun h => (by have h9 : 82 = (q1 + 1) := h; omega)) (fun h => (by have h9 : 82 = q1 := h; omega))))).trans rfl))); have h9 := (show g80 82 2 = (g 82 2) from ((hug80.2 82 2 (fun h => absurd h.1 (by decide))).trans ((hfg79 82 2 (fun h => (Or.elim h (fun h => (by have h9 : 82 = (q1 + 1) := h; omega)) (fun h => (by have h9 : 82 = q1 := h; omega))))).trans rfl))); omega) (fun g86 hIg86 hfg86 hp87 => ⟨_, rfl, ?_⟩))
                      show mm_W d mmX4_readPart 202 [some (.ref 81), some (.ref q1), some (.int (Int32.ofInt v1)), some (.int (Int32.ofInt v77))] [] (mz_mk g86 x) Q
                      have bz_g86_3 := mz_rd hIg86 bd_82_3
                      have bz_g86_4 := mz_rd hIg86 bd_82_4
                      have bz_g86_5 := mz_rd hIg86 bd_82_5
                      have bz_g86_6 := mz_rd hIg86 bd_82_6
                      have tk87 := hp87
                      rw [show mz_cb g80 = mz_cb g from mz_cb_eq (fun j => ((hug80.2 83 j (fun h => absurd h.1 (by decide))).trans (hfg79 83 j (fun h => (Or.elim h (fun h => (by have h9 : 83 = (q1 + 1) := h; omega)) (fun h => (by have h9 : 83 = q1 := h; omega))))))), hq81, hq82] at tk87
                      refine mm_g 1 (pc1 := 203) (lo1 := [some (.ref 81), some (.ref q1), some (.int (Int32.ofInt v1)), some (.int (Int32.ofInt v77))]) (st1 := [.int (Int32.ofInt 1)]) (H1 := mz_mk g86 x) rfl ?_
                      exact mz_rtZ rfl (by decide) (by omega) (hQ _ _ hIg86 (fun k j hk => ((hfg86 k j (fun h => hk (Or.elim h (fun h => (Or.inr (Or.inr (Or.inr (Or.inl h))))) (fun h => (Or.elim h (fun h => (Or.inr (Or.inr (Or.inr (Or.inr (Or.inl h)))))) (fun h => (Or.elim h (fun h => (Or.inr (Or.inr (Or.inr (Or.inr (Or.inr (Or.inl h))))))) (fun h => (Or.inr (Or.inr (Or.inr (Or.inr (Or.inr (Or.inr (Or.inl h))))))))))))))).trans ((hug80.2 k j (fun h => hk (Or.inr (Or.inr (Or.inl h))))).trans (hfg79 k j (fun h => hk (Or.elim h (fun h => (Or.inl h)) (fun h => (Or.inr (Or.inl h))))))))) (by decide) (by decide) (by have hk := hp2; unfold cp_part; refine ⟨fun h1 h2 h3 => ?_, fun h => ⟨fun h1 => ?_, fun h1 => ⟨fun h2 => ?_, fun h2 => ⟨fun h3 => ⟨fun h4 => ?_, fun h4 => ?_⟩, fun h3 => ⟨fun h4 => ?_, fun h4 => ?_, fun h4 h5 => ?_⟩⟩⟩⟩⟩ <;> first | exact ⟨rfl, (st_k_fr p1 ((hfg86 81 4 (fun h => (Or.elim h (fun h => (absurd (show 81 = 82 from (h).1) (by decide))) (fun h => (Or.elim h (fun h => (absurd (show 81 = 82 from (h).1) (by decide))) (fun h => (Or.elim h (fun h => (absurd (show 81 = 82 from (h).1) (by decide))) (fun h => (absurd (show 81 = 82 from (h).1) (by decide)))))))))).trans ((hug80.2 81 4 (by omega)).trans (hfg79 81 4 (fun h => (Or.elim h (fun h => (by have h9 : 81 = (q1 + 1) := h; omega)) (fun h => (by have h9 : 81 = q1 := h; omega))))))) (fun j => ((hfg86 84 j (fun h => (Or.elim h (fun h => (absurd (show 84 = 82 from (h).1) (by decide))) (fun h => (Or.elim h (fun h => (absurd (show 84 = 82 from (h).1) (by decide))) (fun h => (Or.elim h (fun h => (absurd (show 84 = 82 from (h).1) (by decide))) (fun h => (absurd (show 84 = 82 from (h).1) (by decide)))))))))).trans ((hug80.2 84 j (fun h => absurd h.1 (by decide))).trans (hfg79 84 j (fun h => (Or.elim h (fun h => (by have h9 : 84 = (q1 + 1) := h; omega)) (fun h => (by have h9 : 84 = q1 := h; omega))))))))), (by have h := (show g86 81 7 = 0 from ((hfg86 81 7 (fun h => (Or.elim h (fun h => (absurd (show 81 = 82 from (h).1) (by decide))) (fun h => (Or.elim h (fun h => (absurd (show 81 = 82 from (h).1) (by decide))) (fun h => (Or.elim h (fun h => (absurd (show 81 = 82 from (h).1) (by decide))) (fun h => (absurd (show 81 = 82 from (h).1) (by decide)))))))))).trans hug80.1)); omega), (by have h := (show g86 81 5 = (g 81 5) from ((hfg86 81 5 (fun h => (Or.elim h (fun h => (absurd (show 81 = 82 from (h).1) (by decide))) (fun h => (Or.elim h (fun h => (absurd (show 81 = 82 from (h).1) (by decide))) (fun h => (Or.elim h (fun h => (absurd (show 81 = 82 from (h).1) (by decide))) (fun h => (absurd (show 81 = 82 from (h).1) (by decide)))))))))).trans ((hug80.2 81 5 (fun h => absurd h.2 (by decide))).trans ((hfg79 81 5 (fun h => (Or.elim h (fun h => (by have h9 : 81 = (q1 + 1) := h; omega)) (fun h => (by have h9 : 81 = q1 := h; omega))))).trans rfl)))); omega), (by have h := (show g86 81 8 = (g 81 8) from ((hfg86 81 8 (fun h => (Or.elim h (fun h => (absurd (show 81 = 82 from (h).1) (by decide))) (fun h => (Or.elim h (fun h => (absurd (show 81 = 82 from (h).1) (by decide))) (fun h => (Or.elim h (fun h => (absurd (show 81 = 82 from (h).1) (by decide))) (fun h => (absurd (show 81 = 82 from (h).1) (by decide)))))))))).trans ((hug80.2 81 8 (fun h => absurd h.2 (by decide))).trans ((hfg79 81 8 (fun h => (Or.elim h (fun h => (by have h9 : 81 = (q1 + 1) := h; omega)) (fun h => (by have h9 : 81 = q1 := h; omega))))).trans rfl)))); omega), (by have h := (show g86 81 6 = (g 81 6) from ((hfg86 81 6 (fun h => (Or.elim h (fun h => (absurd (show 81 = 82 from (h).1) (by decide))) (fun h => (Or.elim h (fun h => (absurd (show 81 = 82 from (h).1) (by decide))) (fun h => (Or.elim h (fun h => (absurd (show 81 = 82 from (h).1) (by decide))) (fun h => (absurd (show 81 = 82 from (h).1) (by decide)))))))))).trans ((hug80.2 81 6 (fun h => absurd h.2 (by decide))).trans ((hfg79 81 6 (fun h => (Or.elim h (fun h => (by have h9 : 81 = (q1 + 1) := h; omega)) (fun h => (by have h9 : 81 = q1 := h; omega))))).trans rfl)))); omega), (by have h := (show g86 81 1 = (g 81 1) from ((hfg86 81 1 (fun h => (Or.elim h (fun h => (absurd (show 81 = 82 from (h).1) (by decide))) (fun h => (Or.elim h (fun h => (absurd (show 81 = 82 from (h).1) (by decide))) (fun h => (Or.elim h (fun h => (absurd (show 81 = 82 from (h).1) (by decide))) (fun h => (absurd (show 81 = 82 from (h).1) (by decide)))))))))).trans ((hug80.2 81 1 (fun h => absurd h.2 (by decide))).trans ((hfg79 81 1 (fun h => (Or.elim h (fun h => (by have h9 : 81 = (q1 + 1) := h; omega)) (fun h => (by have h9 : 81 = q1 := h; omega))))).trans rfl)))); omega), (by have h := (show g86 81 2 = (g 81 2) from ((hfg86 81 2 (fun h => (Or.elim h (fun h => (absurd (show 81 = 82 from (h).1) (by decide))) (fun h => (Or.elim h (fun h => (absurd (show 81 = 82 from (h).1) (by decide))) (fun h => (Or.elim h (fun h => (absurd (show 81 = 82 from (h).1) (by decide))) (fun h => (absurd (show 81 = 82 from (h).1) (by decide)))))))))).trans ((hug80.2 81 2 (fun h => absurd h.2 (by decide))).trans ((hfg79 81 2 (fun h => (Or.elim h (fun h => (by have h9 : 81 = (q1 + 1) := h; omega)) (fun h => (by have h9 : 81 = q1 := h; omega))))).trans rfl)))); omega), _, tk87⟩ | (exfalso; first | omega | (have q := hp76.mpr h3.2; omega) | exact h3 ⟨by omega, hp76.mp (by omega)⟩ | (have q := h3.1; omega) | (have q := hp78.mpr h4.2; omega) | exact h5 ⟨by omega, hp78.mp (by omega)⟩ | (have q := h4.1; omega))))
                    · skip
                      refine mm_g 2 (pc1 := 181) (lo1 := [some (.ref 81), some (.ref q1), some (.int (Int32.ofInt v1)), some (.int (Int32.ofInt v77))]) (st1 := [.int (Int32.ofInt 3), .ref 81]) (H1 := mz_mk g x) rfl ?_
                      refine mz_cv rfl mt_4_95 (by decide) (sc_81 _) rfl (Nat.le_of_ble_eq_true rfl) (by omega) (e_X4_blame (by omega) hx hI (by decide) (by decide) (fun v88 g89 hIg89 hfg89 l_v88 u_v88 hp90 hp91 hp92 => ⟨_, rfl, ?_⟩))
                      show mm_W d mmX4_readPart 184 [some (.ref 81), some (.ref q1), some (.int (Int32.ofInt v1)), some (.int (Int32.ofInt v77))] [.int (Int32.ofInt v88)] (mz_mk g89 x) Q
                      have bz_g89_1 := mz_rd hIg89 bd_81_1
                      have bz_g89_2 := mz_rd hIg89 bd_81_2
                      exact mz_rtZ rfl (by decide) (by omega) (hQ _ _ hIg89 (fun k j hk => (hfg89 k j (fun h => hk (Or.elim h (fun h => (Or.inr (Or.inr (Or.inr (Or.inr (Or.inr (Or.inr (Or.inr (Or.inl h))))))))) (fun h => (Or.inr (Or.inr (Or.inr (Or.inr (Or.inr (Or.inr (Or.inr (Or.inr (Or.inl h)))))))))))))) (by omega) (by omega) (by have hk := hp2; unfold cp_part; refine ⟨fun h1 h2 h3 => ?_, fun h => ⟨fun h1 => ?_, fun h1 => ⟨fun h2 => ?_, fun h2 => ⟨fun h3 => ⟨fun h4 => ?_, fun h4 => ?_⟩, fun h3 => ⟨fun h4 => ?_, fun h4 => ?_, fun h4 h5 => ?_⟩⟩⟩⟩⟩ <;> first | exact ⟨hp90, hp91, hp92⟩ | (exfalso; first | omega | (have q := hp76.mpr h3.2; omega) | exact h3 ⟨by omega, hp76.mp (by omega)⟩ | (have q := h3.1; omega) | (have q := hp78.mpr h4.2; omega) | exact h5 ⟨by omega, hp78.mp (by omega)⟩ | (have q := h4.1; omega))))
                · exfalso; omega
              · exfalso; omega
            · skip
              refine mm_g 1 (pc1 := 95) (lo1 := [some (.ref 81), some (.ref q1), some (.int (Int32.ofInt v1)), none]) (st1 := [.ref 81]) (H1 := mz_mk g x) rfl ?_
              refine mz_fgI (v := (g 81 6)) rfl fd_4_35 (by decide) (sc_81 _) (show g 81 6 = (g 81 6) from rfl) ?_
              refine mz_bip rfl bip_6 ?_
              refine mz_ic_lt (tgt := 109) rfl rfl ⟨by omega, by omega⟩ ⟨by decide, by decide⟩ (fun c100_92 => ?_) (fun c100_92 => ?_)
              · skip
                refine mm_g 2 (pc1 := 111) (lo1 := [some (.ref 81), some (.ref q1), some (.int (Int32.ofInt v1)), none]) (st1 := [.ref 81, .ref 81]) (H1 := mz_mk g x) rfl ?_
                refine mz_fgI (v := (g 81 6)) rfl fd_4_35 (by decide) (sc_81 _) (show g 81 6 = (g 81 6) from rfl) ?_
                refine mm_g 1 (pc1 := 115) (lo1 := [some (.ref 81), some (.ref q1), some (.int (Int32.ofInt v1)), none]) (st1 := [.int (Int32.ofInt 1), .int (Int32.ofInt (g 81 6)), .ref 81]) (H1 := mz_mk g x) rfl ?_
                refine mz_iadd rfl ?_
                refine mz_pI rfl fd_4_35 (sc_81 _) hI bd_81_6 (by omega) (by omega) (fun g93 hIg93 hug93 => ?_)
                refine mm_g 1 (pc1 := 120) (lo1 := [some (.ref 81), some (.ref q1), some (.int (Int32.ofInt v1)), none]) (st1 := [.ref 81]) (H1 := mz_mk g93 x) rfl ?_
                refine mz_bip rfl bip_m13 ?_
                refine mz_cv rfl mt_4_174 (by decide) (sc_81 _) rfl (Nat.le_of_ble_eq_true rfl) (by omega) (e_X4_openSign (by omega) hx hIg93 (by decide) (by decide) (st_k_fr p1 (hug93.2 81 4 (by omega)) (fun j => (hug93.2 84 j (fun h => absurd h.1 (by decide))))) p2 (fun g94 hIg94 hfg94 hp95 => ⟨_, rfl, ?_⟩))
                show mm_W d mmX4_readPart 125 [some (.ref 81), some (.ref q1), some (.int (Int32.ofInt v1)), none] [] (mz_mk g94 x) Q
                refine mz_gt (tgt := 195) rfl rfl ?_
                refine mm_g 1 (pc1 := 196) (lo1 := [some (.ref 81), some (.ref q1), some (.int (Int32.ofInt v1)), none]) (st1 := [.ref 81]) (H1 := mz_mk g94 x) rfl ?_
                refine mz_fgR (v := 82) rfl fd_4_12 (by decide) (sc_81 _) (rf_81_0 _ _ _) ?_
                have hq96 : g94 82 2 = (g 82 2) := (show g94 82 2 = (g 82 2) from ((hfg94 82 2 (fun h => (Or.elim h (fun h => (absurd (show 82 = 84 from h) (by decide))) (fun h => (absurd (show 82 = 81 from (h).1) (by decide)))))).trans ((hug93.2 82 2 (fun h => absurd h.1 (by decide))).trans rfl)))
                have hq97 : g94 82 3 = (g 82 3) := (show g94 82 3 = (g 82 3) from ((hfg94 82 3 (fun h => (Or.elim h (fun h => (absurd (show 82 = 84 from h) (by decide))) (fun h => (absurd (show 82 = 81 from (h).1) (by decide)))))).trans ((hug93.2 82 3 (fun h => absurd h.1 (by decide))).trans rfl)))
                have hq98 : g94 82 4 = (g 82 4) := (show g94 82 4 = (g 82 4) from ((hfg94 82 4 (fun h => (Or.elim h (fun h => (absurd (show 82 = 84 from h) (by decide))) (fun h => (absurd (show 82 = 81 from (h).1) (by decide)))))).trans ((hug93.2 82 4 (fun h => absurd h.1 (by decide))).trans rfl)))
                have hq99 : g94 82 5 = (g 82 5) := (show g94 82 5 = (g 82 5) from ((hfg94 82 5 (fun h => (Or.elim h (fun h => (absurd (show 82 = 84 from h) (by decide))) (fun h => (absurd (show 82 = 81 from (h).1) (by decide)))))).trans ((hug93.2 82 5 (fun h => absurd h.1 (by decide))).trans rfl)))
                have hq100 : g94 82 6 = (g 82 6) := (show g94 82 6 = (g 82 6) from ((hfg94 82 6 (fun h => (Or.elim h (fun h => (absurd (show 82 = 84 from h) (by decide))) (fun h => (absurd (show 82 = 81 from (h).1) (by decide)))))).trans ((hug93.2 82 6 (fun h => absurd h.1 (by decide))).trans rfl)))
                refine mz_cv rfl mt_4_99 (by decide) (sc_82 _) rfl (Nat.le_of_ble_eq_true rfl) (by omega) (e_X7_step (by omega) hx hIg94 (by have h8 := (show g94 82 3 = (g 82 3) from ((hfg94 82 3 (fun h => (Or.elim h (fun h => (absurd (show 82 = 84 from h) (by decide))) (fun h => (absurd (show 82 = 81 from (h).1) (by decide)))))).trans ((hug93.2 82 3 (fun h => absurd h.1 (by decide))).trans rfl))); have h9 := (show g94 82 2 = (g 82 2) from ((hfg94 82 2 (fun h => (Or.elim h (fun h => (absurd (show 82 = 84 from h) (by decide))) (fun h => (absurd (show 82 = 81 from (h).1) (by decide)))))).trans ((hug93.2 82 2 (fun h => absurd h.1 (by decide))).trans rfl))); omega) (fun g101 hIg101 hfg101 hp102 => ⟨_, rfl, ?_⟩))
                show mm_W d mmX4_readPart 202 [some (.ref 81), some (.ref q1), some (.int (Int32.ofInt v1)), none] [] (mz_mk g101 x) Q
                have bz_g101_3 := mz_rd hIg101 bd_82_3
                have bz_g101_4 := mz_rd hIg101 bd_82_4
                have bz_g101_5 := mz_rd hIg101 bd_82_5
                have bz_g101_6 := mz_rd hIg101 bd_82_6
                have tk102 := hp102
                rw [show mz_cb g94 = mz_cb g from mz_cb_eq (fun j => ((hfg94 83 j (fun h => (Or.elim h (fun h => (absurd (show 83 = 84 from h) (by decide))) (fun h => (absurd (show 83 = 81 from (h).1) (by decide)))))).trans (hug93.2 83 j (fun h => absurd h.1 (by decide))))), hq96, hq97] at tk102
                refine mm_g 1 (pc1 := 203) (lo1 := [some (.ref 81), some (.ref q1), some (.int (Int32.ofInt v1)), none]) (st1 := [.int (Int32.ofInt 1)]) (H1 := mz_mk g101 x) rfl ?_
                exact mz_rtZ rfl (by decide) (by omega) (hQ _ _ hIg101 (fun k j hk => ((hfg101 k j (fun h => hk (Or.elim h (fun h => (Or.inr (Or.inr (Or.inr (Or.inl h))))) (fun h => (Or.elim h (fun h => (Or.inr (Or.inr (Or.inr (Or.inr (Or.inl h)))))) (fun h => (Or.elim h (fun h => (Or.inr (Or.inr (Or.inr (Or.inr (Or.inr (Or.inl h))))))) (fun h => (Or.inr (Or.inr (Or.inr (Or.inr (Or.inr (Or.inr (Or.inl h))))))))))))))).trans ((hfg94 k j (fun h => hk (Or.elim h (fun h => (Or.inr (Or.inr (Or.inr (Or.inr (Or.inr (Or.inr (Or.inr (Or.inr (Or.inr (Or.inr (Or.inl h)))))))))))) (fun h => (Or.inr (Or.inr (Or.inr (Or.inr (Or.inr (Or.inr (Or.inr (Or.inr (Or.inr (Or.inr (Or.inr (Or.inl h)))))))))))))))).trans (hug93.2 k j (fun h => hk (Or.inr (Or.inr (Or.inr (Or.inr (Or.inr (Or.inr (Or.inr (Or.inr (Or.inr (Or.inl h))))))))))))))) (by decide) (by decide) (by have hk := hp2; unfold cp_part; refine ⟨fun h1 h2 h3 => ?_, fun h => ⟨fun h1 => ?_, fun h1 => ⟨fun h2 => ?_, fun h2 => ⟨fun h3 => ⟨fun h4 => ?_, fun h4 => ?_⟩, fun h3 => ⟨fun h4 => ?_, fun h4 => ?_, fun h4 h5 => ?_⟩⟩⟩⟩⟩ <;> first | exact ⟨rfl, (st_k_fr hp95 (hfg101 81 4 (fun h => (Or.elim h (fun h => (absurd (show 81 = 82 from (h).1) (by decide))) (fun h => (Or.elim h (fun h => (absurd (show 81 = 82 from (h).1) (by decide))) (fun h => (Or.elim h (fun h => (absurd (show 81 = 82 from (h).1) (by decide))) (fun h => (absurd (show 81 = 82 from (h).1) (by decide)))))))))) (fun j => (hfg101 84 j (fun h => (Or.elim h (fun h => (absurd (show 84 = 82 from (h).1) (by decide))) (fun h => (Or.elim h (fun h => (absurd (show 84 = 82 from (h).1) (by decide))) (fun h => (Or.elim h (fun h => (absurd (show 84 = 82 from (h).1) (by decide))) (fun h => (absurd (show 84 = 82 from (h).1) (by decide)))))))))))), (by have h := (show g101 81 7 = (g 81 7) from ((hfg101 81 7 (fun h => (Or.elim h (fun h => (absurd (show 81 = 82 from (h).1) (by decide))) (fun h => (Or.elim h (fun h => (absurd (show 81 = 82 from (h).1) (by decide))) (fun h => (Or.elim h (fun h => (absurd (show 81 = 82 from (h).1) (by decide))) (fun h => (absurd (show 81 = 82 from (h).1) (by decide)))))))))).trans ((hfg94 81 7 (fun h => (Or.elim h (fun h => (absurd (show 81 = 84 from h) (by decide))) (fun h => (absurd (show (81 = 81 ∧ 7 = 4) from h) (by decide)))))).trans ((hug93.2 81 7 (fun h => absurd h.2 (by decide))).trans rfl)))); omega), (by have h := (show g101 81 5 = (g 81 5) from ((hfg101 81 5 (fun h => (Or.elim h (fun h => (absurd (show 81 = 82 from (h).1) (by decide))) (fun h => (Or.elim h (fun h => (absurd (show 81 = 82 from (h).1) (by decide))) (fun h => (Or.elim h (fun h => (absurd (show 81 = 82 from (h).1) (by decide))) (fun h => (absurd (show 81 = 82 from (h).1) (by decide)))))))))).trans ((hfg94 81 5 (fun h => (Or.elim h (fun h => (absurd (show 81 = 84 from h) (by decide))) (fun h => (absurd (show (81 = 81 ∧ 5 = 4) from h) (by decide)))))).trans ((hug93.2 81 5 (fun h => absurd h.2 (by decide))).trans rfl)))); omega), (by have h := (show g101 81 8 = (g 81 8) from ((hfg101 81 8 (fun h => (Or.elim h (fun h => (absurd (show 81 = 82 from (h).1) (by decide))) (fun h => (Or.elim h (fun h => (absurd (show 81 = 82 from (h).1) (by decide))) (fun h => (Or.elim h (fun h => (absurd (show 81 = 82 from (h).1) (by decide))) (fun h => (absurd (show 81 = 82 from (h).1) (by decide)))))))))).trans ((hfg94 81 8 (fun h => (Or.elim h (fun h => (absurd (show 81 = 84 from h) (by decide))) (fun h => (absurd (show (81 = 81 ∧ 8 = 4) from h) (by decide)))))).trans ((hug93.2 81 8 (fun h => absurd h.2 (by decide))).trans rfl)))); omega), (by have h := (show g101 81 6 = ((g 81 6) + 1) from ((hfg101 81 6 (fun h => (Or.elim h (fun h => (absurd (show 81 = 82 from (h).1) (by decide))) (fun h => (Or.elim h (fun h => (absurd (show 81 = 82 from (h).1) (by decide))) (fun h => (Or.elim h (fun h => (absurd (show 81 = 82 from (h).1) (by decide))) (fun h => (absurd (show 81 = 82 from (h).1) (by decide)))))))))).trans ((hfg94 81 6 (fun h => (Or.elim h (fun h => (absurd (show 81 = 84 from h) (by decide))) (fun h => (absurd (show (81 = 81 ∧ 6 = 4) from h) (by decide)))))).trans hug93.1))); omega), (by have h := (show g101 81 1 = (g 81 1) from ((hfg101 81 1 (fun h => (Or.elim h (fun h => (absurd (show 81 = 82 from (h).1) (by decide))) (fun h => (Or.elim h (fun h => (absurd (show 81 = 82 from (h).1) (by decide))) (fun h => (Or.elim h (fun h => (absurd (show 81 = 82 from (h).1) (by decide))) (fun h => (absurd (show 81 = 82 from (h).1) (by decide)))))))))).trans ((hfg94 81 1 (fun h => (Or.elim h (fun h => (absurd (show 81 = 84 from h) (by decide))) (fun h => (absurd (show (81 = 81 ∧ 1 = 4) from h) (by decide)))))).trans ((hug93.2 81 1 (fun h => absurd h.2 (by decide))).trans rfl)))); omega), (by have h := (show g101 81 2 = (g 81 2) from ((hfg101 81 2 (fun h => (Or.elim h (fun h => (absurd (show 81 = 82 from (h).1) (by decide))) (fun h => (Or.elim h (fun h => (absurd (show 81 = 82 from (h).1) (by decide))) (fun h => (Or.elim h (fun h => (absurd (show 81 = 82 from (h).1) (by decide))) (fun h => (absurd (show 81 = 82 from (h).1) (by decide)))))))))).trans ((hfg94 81 2 (fun h => (Or.elim h (fun h => (absurd (show 81 = 84 from h) (by decide))) (fun h => (absurd (show (81 = 81 ∧ 2 = 4) from h) (by decide)))))).trans ((hug93.2 81 2 (fun h => absurd h.2 (by decide))).trans rfl)))); omega), _, tk102⟩ | (exfalso; first | omega | (have q := hp76.mpr h3.2; omega) | exact h3 ⟨by omega, hp76.mp (by omega)⟩ | (have q := h3.1; omega) | (have q := h4.1; omega) | (have q := h4.2; omega))))
              · skip
                refine mm_g 2 (pc1 := 105) (lo1 := [some (.ref 81), some (.ref q1), some (.int (Int32.ofInt v1)), none]) (st1 := [.int (Int32.ofInt 2), .ref 81]) (H1 := mz_mk g x) rfl ?_
                refine mz_cv rfl mt_4_95 (by decide) (sc_81 _) rfl (Nat.le_of_ble_eq_true rfl) (by omega) (e_X4_blame (by omega) hx hI (by decide) (by decide) (fun v103 g104 hIg104 hfg104 l_v103 u_v103 hp105 hp106 hp107 => ⟨_, rfl, ?_⟩))
                show mm_W d mmX4_readPart 108 [some (.ref 81), some (.ref q1), some (.int (Int32.ofInt v1)), none] [.int (Int32.ofInt v103)] (mz_mk g104 x) Q
                have bz_g104_1 := mz_rd hIg104 bd_81_1
                have bz_g104_2 := mz_rd hIg104 bd_81_2
                exact mz_rtZ rfl (by decide) (by omega) (hQ _ _ hIg104 (fun k j hk => (hfg104 k j (fun h => hk (Or.elim h (fun h => (Or.inr (Or.inr (Or.inr (Or.inr (Or.inr (Or.inr (Or.inr (Or.inl h))))))))) (fun h => (Or.inr (Or.inr (Or.inr (Or.inr (Or.inr (Or.inr (Or.inr (Or.inr (Or.inl h)))))))))))))) (by omega) (by omega) (by have hk := hp2; unfold cp_part; refine ⟨fun h1 h2 h3 => ?_, fun h => ⟨fun h1 => ?_, fun h1 => ⟨fun h2 => ?_, fun h2 => ⟨fun h3 => ⟨fun h4 => ?_, fun h4 => ?_⟩, fun h3 => ⟨fun h4 => ?_, fun h4 => ?_, fun h4 h5 => ?_⟩⟩⟩⟩⟩ <;> first | exact ⟨hp105, hp106, hp107⟩ | (exfalso; first | omega | (have q := hp76.mpr h3.2; omega) | exact h3 ⟨by omega, hp76.mp (by omega)⟩ | (have q := h3.1; omega) | (have q := h4.1; omega) | (have q := h4.2; omega))))
        · exfalso; omega
      · skip
        refine mm_g 2 (pc1 := 41) (lo1 := [some (.ref 81), some (.ref q1), some (.int (Int32.ofInt v1)), none]) (st1 := [.int (Int32.ofInt 2), .ref 81]) (H1 := mz_mk g x) rfl ?_
        refine mz_cv rfl mt_4_95 (by decide) (sc_81 _) rfl (Nat.le_of_ble_eq_true rfl) (by omega) (e_X4_blame (by omega) hx hI (by decide) (by decide) (fun v108 g109 hIg109 hfg109 l_v108 u_v108 hp110 hp111 hp112 => ⟨_, rfl, ?_⟩))
        show mm_W d mmX4_readPart 44 [some (.ref 81), some (.ref q1), some (.int (Int32.ofInt v1)), none] [.int (Int32.ofInt v108)] (mz_mk g109 x) Q
        have bz_g109_1 := mz_rd hIg109 bd_81_1
        have bz_g109_2 := mz_rd hIg109 bd_81_2
        exact mz_rtZ rfl (by decide) (by omega) (hQ _ _ hIg109 (fun k j hk => (hfg109 k j (fun h => hk (Or.elim h (fun h => (Or.inr (Or.inr (Or.inr (Or.inr (Or.inr (Or.inr (Or.inr (Or.inl h))))))))) (fun h => (Or.inr (Or.inr (Or.inr (Or.inr (Or.inr (Or.inr (Or.inr (Or.inr (Or.inl h)))))))))))))) (by omega) (by omega) (by have hk := hp2; unfold cp_part; refine ⟨fun h1 h2 h3 => ?_, fun h => ⟨fun h1 => ?_, fun h1 => ⟨fun h2 => ?_, fun h2 => ⟨fun h3 => ⟨fun h4 => ?_, fun h4 => ?_⟩, fun h3 => ⟨fun h4 => ?_, fun h4 => ?_, fun h4 h5 => ?_⟩⟩⟩⟩⟩ <;> first | exact ⟨hp110, hp111, hp112⟩ | (exfalso; first | omega | (have q := h3.1; omega) | (have q := h4.1; omega) | (have q := h4.2; omega))))
    · skip
      refine mm_g 1 (pc1 := 19) (lo1 := [some (.ref 81), some (.ref q1), some (.int (Int32.ofInt v1)), none]) (st1 := [.int (Int32.ofInt v1)]) (H1 := mz_mk g x) rfl ?_
      refine mz_bip rfl bip_40 ?_
      refine mz_ic_eq (tgt := 30) rfl rfl (mz_rg l_v1 u_v1) ⟨by decide, by decide⟩ (fun c21_112 => ?_) (fun c21_112 => ?_)
      · skip
        refine mm_g 1 (pc1 := 31) (lo1 := [some (.ref 81), some (.ref q1), some (.int (Int32.ofInt v1)), none]) (st1 := [.ref 81]) (H1 := mz_mk g x) rfl ?_
        refine mz_fgI (v := (g 81 5)) rfl fd_4_32 (by decide) (sc_81 _) (show g 81 5 = (g 81 5) from rfl) ?_
        refine mz_bip rfl bip_6 ?_
        refine mz_ic_lt (tgt := 45) rfl rfl ⟨by omega, by omega⟩ ⟨by decide, by decide⟩ (fun c36_112 => ?_) (fun c36_112 => ?_)
        · skip
          refine mm_g 1 (pc1 := 46) (lo1 := [some (.ref 81), some (.ref q1), some (.int (Int32.ofInt v1)), none]) (st1 := [.int (Int32.ofInt v1)]) (H1 := mz_mk g x) rfl ?_
          refine mz_bip rfl bip_40 ?_
          refine mz_ic_ne (tgt := 75) rfl rfl (mz_rg l_v1 u_v1) ⟨by decide, by decide⟩ (fun c48_112 => ?_) (fun c48_112 => ?_)
          · exfalso; omega
          · skip
            refine mm_g 1 (pc1 := 52) (lo1 := [some (.ref 81), some (.ref q1), some (.int (Int32.ofInt v1)), none]) (st1 := [.ref 81]) (H1 := mz_mk g x) rfl ?_
            refine mz_bip rfl bip_m20 ?_
            refine mz_cv rfl mt_4_174 (by decide) (sc_81 _) rfl (Nat.le_of_ble_eq_true rfl) (by omega) (e_X4_openSign (by omega) hx hI (by decide) (by decide) p1 p2 (fun g113 hIg113 hfg113 hp114 => ⟨_, rfl, ?_⟩))
            show mm_W d mmX4_readPart 57 [some (.ref 81), some (.ref q1), some (.int (Int32.ofInt v1)), none] [] (mz_mk g113 x) Q
            refine mm_g 2 (pc1 := 59) (lo1 := [some (.ref 81), some (.ref q1), some (.int (Int32.ofInt v1)), none]) (st1 := [.ref 81, .ref 81]) (H1 := mz_mk g113 x) rfl ?_
            refine mz_fgI (v := (g 81 5)) rfl fd_4_32 (by decide) (sc_81 _) (show g113 81 5 = (g 81 5) from ((hfg113 81 5 (fun h => (Or.elim h (fun h => (absurd (show 81 = 84 from h) (by decide))) (fun h => (absurd (show (81 = 81 ∧ 5 = 4) from h) (by decide)))))).trans rfl)) ?_
            refine mm_g 1 (pc1 := 63) (lo1 := [some (.ref 81), some (.ref q1), some (.int (Int32.ofInt v1)), none]) (st1 := [.int (Int32.ofInt 1), .int (Int32.ofInt (g 81 5)), .ref 81]) (H1 := mz_mk g113 x) rfl ?_
            refine mz_iadd rfl ?_
            refine mz_pI rfl fd_4_32 (sc_81 _) hIg113 bd_81_5 (by omega) (by omega) (fun g115 hIg115 hug115 => ?_)
            refine mm_g 2 (pc1 := 69) (lo1 := [some (.ref 81), some (.ref q1), some (.int (Int32.ofInt v1)), none]) (st1 := [.int (Int32.ofInt 1), .ref 81]) (H1 := mz_mk g115 x) rfl ?_
            have hq116 : g115 81 6 = (g 81 6) := (show g115 81 6 = (g 81 6) from ((hug115.2 81 6 (fun h => absurd h.2 (by decide))).trans ((hfg113 81 6 (fun h => (Or.elim h (fun h => (absurd (show 81 = 84 from h) (by decide))) (fun h => (absurd (show (81 = 81 ∧ 6 = 4) from h) (by decide)))))).trans rfl)))
            have hq117 : g115 81 8 = (g 81 8) := (show g115 81 8 = (g 81 8) from ((hug115.2 81 8 (fun h => absurd h.2 (by decide))).trans ((hfg113 81 8 (fun h => (Or.elim h (fun h => (absurd (show 81 = 84 from h) (by decide))) (fun h => (absurd (show (81 = 81 ∧ 8 = 4) from h) (by decide)))))).trans rfl)))
            refine mz_cv rfl mt_4_157 (by decide) (sc_81 _) rfl (Nat.le_of_ble_eq_true rfl) (by omega) (e_X4_notsAnew (by omega) hx hIg115 (by decide) (by decide) (fun g118 hIg118 hfg118 hp119 hp120 => ⟨_, rfl, ?_⟩))
            show mm_W d mmX4_readPart 72 [some (.ref 81), some (.ref q1), some (.int (Int32.ofInt v1)), none] [] (mz_mk g118 x) Q
            have bz_g118_6 := mz_rd hIg118 bd_81_6
            have bz_g118_8 := mz_rd hIg118 bd_81_8
            refine mz_gt (tgt := 195) rfl rfl ?_
            refine mm_g 1 (pc1 := 196) (lo1 := [some (.ref 81), some (.ref q1), some (.int (Int32.ofInt v1)), none]) (st1 := [.ref 81]) (H1 := mz_mk g118 x) rfl ?_
            refine mz_fgR (v := 82) rfl fd_4_12 (by decide) (sc_81 _) (rf_81_0 _ _ _) ?_
            have hq121 : g118 82 2 = (g 82 2) := (show g118 82 2 = (g 82 2) from ((hfg118 82 2 (fun h => (Or.elim h (fun h => (absurd (show 82 = 81 from (h).1) (by decide))) (fun h => (absurd (show 82 = 81 from (h).1) (by decide)))))).trans ((hug115.2 82 2 (fun h => absurd h.1 (by decide))).trans ((hfg113 82 2 (fun h => (Or.elim h (fun h => (absurd (show 82 = 84 from h) (by decide))) (fun h => (absurd (show 82 = 81 from (h).1) (by decide)))))).trans rfl))))
            have hq122 : g118 82 3 = (g 82 3) := (show g118 82 3 = (g 82 3) from ((hfg118 82 3 (fun h => (Or.elim h (fun h => (absurd (show 82 = 81 from (h).1) (by decide))) (fun h => (absurd (show 82 = 81 from (h).1) (by decide)))))).trans ((hug115.2 82 3 (fun h => absurd h.1 (by decide))).trans ((hfg113 82 3 (fun h => (Or.elim h (fun h => (absurd (show 82 = 84 from h) (by decide))) (fun h => (absurd (show 82 = 81 from (h).1) (by decide)))))).trans rfl))))
            have hq123 : g118 82 4 = (g 82 4) := (show g118 82 4 = (g 82 4) from ((hfg118 82 4 (fun h => (Or.elim h (fun h => (absurd (show 82 = 81 from (h).1) (by decide))) (fun h => (absurd (show 82 = 81 from (h).1) (by decide)))))).trans ((hug115.2 82 4 (fun h => absurd h.1 (by decide))).trans ((hfg113 82 4 (fun h => (Or.elim h (fun h => (absurd (show 82 = 84 from h) (by decide))) (fun h => (absurd (show 82 = 81 from (h).1) (by decide)))))).trans rfl))))
            have hq124 : g118 82 5 = (g 82 5) := (show g118 82 5 = (g 82 5) from ((hfg118 82 5 (fun h => (Or.elim h (fun h => (absurd (show 82 = 81 from (h).1) (by decide))) (fun h => (absurd (show 82 = 81 from (h).1) (by decide)))))).trans ((hug115.2 82 5 (fun h => absurd h.1 (by decide))).trans ((hfg113 82 5 (fun h => (Or.elim h (fun h => (absurd (show 82 = 84 from h) (by decide))) (fun h => (absurd (show 82 = 81 from (h).1) (by decide)))))).trans rfl))))
            have hq125 : g118 82 6 = (g 82 6) := (show g118 82 6 = (g 82 6) from ((hfg118 82 6 (fun h => (Or.elim h (fun h => (absurd (show 82 = 81 from (h).1) (by decide))) (fun h => (absurd (show 82 = 81 from (h).1) (by decide)))))).trans ((hug115.2 82 6 (fun h => absurd h.1 (by decide))).trans ((hfg113 82 6 (fun h => (Or.elim h (fun h => (absurd (show 82 = 84 from h) (by decide))) (fun h => (absurd (show 82 = 81 from (h).1) (by decide)))))).trans rfl))))
            refine mz_cv rfl mt_4_99 (by decide) (sc_82 _) rfl (Nat.le_of_ble_eq_true rfl) (by omega) (e_X7_step (by omega) hx hIg118 (by have h8 := (show g118 82 3 = (g 82 3) from ((hfg118 82 3 (fun h => (Or.elim h (fun h => (absurd (show 82 = 81 from (h).1) (by decide))) (fun h => (absurd (show 82 = 81 from (h).1) (by decide)))))).trans ((hug115.2 82 3 (fun h => absurd h.1 (by decide))).trans ((hfg113 82 3 (fun h => (Or.elim h (fun h => (absurd (show 82 = 84 from h) (by decide))) (fun h => (absurd (show 82 = 81 from (h).1) (by decide)))))).trans rfl)))); have h9 := (show g118 82 2 = (g 82 2) from ((hfg118 82 2 (fun h => (Or.elim h (fun h => (absurd (show 82 = 81 from (h).1) (by decide))) (fun h => (absurd (show 82 = 81 from (h).1) (by decide)))))).trans ((hug115.2 82 2 (fun h => absurd h.1 (by decide))).trans ((hfg113 82 2 (fun h => (Or.elim h (fun h => (absurd (show 82 = 84 from h) (by decide))) (fun h => (absurd (show 82 = 81 from (h).1) (by decide)))))).trans rfl)))); omega) (fun g126 hIg126 hfg126 hp127 => ⟨_, rfl, ?_⟩))
            show mm_W d mmX4_readPart 202 [some (.ref 81), some (.ref q1), some (.int (Int32.ofInt v1)), none] [] (mz_mk g126 x) Q
            have bz_g126_3 := mz_rd hIg126 bd_82_3
            have bz_g126_4 := mz_rd hIg126 bd_82_4
            have bz_g126_5 := mz_rd hIg126 bd_82_5
            have bz_g126_6 := mz_rd hIg126 bd_82_6
            have tk127 := hp127
            rw [show mz_cb g118 = mz_cb g from mz_cb_eq (fun j => ((hfg118 83 j (fun h => (Or.elim h (fun h => (absurd (show 83 = 81 from (h).1) (by decide))) (fun h => (absurd (show 83 = 81 from (h).1) (by decide)))))).trans ((hug115.2 83 j (fun h => absurd h.1 (by decide))).trans (hfg113 83 j (fun h => (Or.elim h (fun h => (absurd (show 83 = 84 from h) (by decide))) (fun h => (absurd (show 83 = 81 from (h).1) (by decide))))))))), hq121, hq122] at tk127
            refine mm_g 1 (pc1 := 203) (lo1 := [some (.ref 81), some (.ref q1), some (.int (Int32.ofInt v1)), none]) (st1 := [.int (Int32.ofInt 1)]) (H1 := mz_mk g126 x) rfl ?_
            exact mz_rtZ rfl (by decide) (by omega) (hQ _ _ hIg126 (fun k j hk => ((hfg126 k j (fun h => hk (Or.elim h (fun h => (Or.inr (Or.inr (Or.inr (Or.inl h))))) (fun h => (Or.elim h (fun h => (Or.inr (Or.inr (Or.inr (Or.inr (Or.inl h)))))) (fun h => (Or.elim h (fun h => (Or.inr (Or.inr (Or.inr (Or.inr (Or.inr (Or.inl h))))))) (fun h => (Or.inr (Or.inr (Or.inr (Or.inr (Or.inr (Or.inr (Or.inl h))))))))))))))).trans ((hfg118 k j (fun h => hk (Or.elim h (fun h => (Or.inr (Or.inr (Or.inr (Or.inr (Or.inr (Or.inr (Or.inr (Or.inr (Or.inr (Or.inr (Or.inr (Or.inr (Or.inr h)))))))))))))) (fun h => (Or.inr (Or.inr (Or.inr (Or.inr (Or.inr (Or.inr (Or.inr (Or.inr (Or.inr (Or.inl h)))))))))))))).trans ((hug115.2 k j (fun h => hk (Or.inr (Or.inr (Or.inr (Or.inr (Or.inr (Or.inr (Or.inr (Or.inr (Or.inr (Or.inr (Or.inr (Or.inr (Or.inl h))))))))))))))).trans (hfg113 k j (fun h => hk (Or.elim h (fun h => (Or.inr (Or.inr (Or.inr (Or.inr (Or.inr (Or.inr (Or.inr (Or.inr (Or.inr (Or.inr (Or.inl h)))))))))))) (fun h => (Or.inr (Or.inr (Or.inr (Or.inr (Or.inr (Or.inr (Or.inr (Or.inr (Or.inr (Or.inr (Or.inr (Or.inl h)))))))))))))))))))) (by decide) (by decide) (by have hk := hp2; unfold cp_part; refine ⟨fun h1 h2 h3 => ?_, fun h => ⟨fun h1 => ?_, fun h1 => ⟨fun h2 => ?_, fun h2 => ⟨fun h3 => ⟨fun h4 => ?_, fun h4 => ?_⟩, fun h3 => ⟨fun h4 => ?_, fun h4 => ?_, fun h4 h5 => ?_⟩⟩⟩⟩⟩ <;> first | exact ⟨rfl, (st_k_fr hp114 ((hfg126 81 4 (fun h => (Or.elim h (fun h => (absurd (show 81 = 82 from (h).1) (by decide))) (fun h => (Or.elim h (fun h => (absurd (show 81 = 82 from (h).1) (by decide))) (fun h => (Or.elim h (fun h => (absurd (show 81 = 82 from (h).1) (by decide))) (fun h => (absurd (show 81 = 82 from (h).1) (by decide)))))))))).trans ((hfg118 81 4 (fun h => (Or.elim h (fun h => (absurd (show (81 = 81 ∧ 4 = 8) from h) (by decide))) (fun h => (absurd (show (81 = 81 ∧ 4 = 6) from h) (by decide)))))).trans (hug115.2 81 4 (by omega)))) (fun j => ((hfg126 84 j (fun h => (Or.elim h (fun h => (absurd (show 84 = 82 from (h).1) (by decide))) (fun h => (Or.elim h (fun h => (absurd (show 84 = 82 from (h).1) (by decide))) (fun h => (Or.elim h (fun h => (absurd (show 84 = 82 from (h).1) (by decide))) (fun h => (absurd (show 84 = 82 from (h).1) (by decide)))))))))).trans ((hfg118 84 j (fun h => (Or.elim h (fun h => (absurd (show 84 = 81 from (h).1) (by decide))) (fun h => (absurd (show 84 = 81 from (h).1) (by decide)))))).trans (hug115.2 84 j (fun h => absurd h.1 (by decide))))))), (by have h := (show g126 81 7 = (g 81 7) from ((hfg126 81 7 (fun h => (Or.elim h (fun h => (absurd (show 81 = 82 from (h).1) (by decide))) (fun h => (Or.elim h (fun h => (absurd (show 81 = 82 from (h).1) (by decide))) (fun h => (Or.elim h (fun h => (absurd (show 81 = 82 from (h).1) (by decide))) (fun h => (absurd (show 81 = 82 from (h).1) (by decide)))))))))).trans ((hfg118 81 7 (fun h => (Or.elim h (fun h => (absurd (show (81 = 81 ∧ 7 = 8) from h) (by decide))) (fun h => (absurd (show (81 = 81 ∧ 7 = 6) from h) (by decide)))))).trans ((hug115.2 81 7 (fun h => absurd h.2 (by decide))).trans ((hfg113 81 7 (fun h => (Or.elim h (fun h => (absurd (show 81 = 84 from h) (by decide))) (fun h => (absurd (show (81 = 81 ∧ 7 = 4) from h) (by decide)))))).trans rfl))))); have n1 := hp119; have n2 := hp120; omega), (by have h := (show g126 81 5 = ((g 81 5) + 1) from ((hfg126 81 5 (fun h => (Or.elim h (fun h => (absurd (show 81 = 82 from (h).1) (by decide))) (fun h => (Or.elim h (fun h => (absurd (show 81 = 82 from (h).1) (by decide))) (fun h => (Or.elim h (fun h => (absurd (show 81 = 82 from (h).1) (by decide))) (fun h => (absurd (show 81 = 82 from (h).1) (by decide)))))))))).trans ((hfg118 81 5 (fun h => (Or.elim h (fun h => (absurd (show (81 = 81 ∧ 5 = 8) from h) (by decide))) (fun h => (absurd (show (81 = 81 ∧ 5 = 6) from h) (by decide)))))).trans hug115.1))); have n1 := hp119; have n2 := hp120; omega), (by have h := (show g126 81 8 = (g118 81 8) from ((hfg126 81 8 (fun h => (Or.elim h (fun h => (absurd (show 81 = 82 from (h).1) (by decide))) (fun h => (Or.elim h (fun h => (absurd (show 81 = 82 from (h).1) (by decide))) (fun h => (Or.elim h (fun h => (absurd (show 81 = 82 from (h).1) (by decide))) (fun h => (absurd (show 81 = 82 from (h).1) (by decide)))))))))).trans rfl)); have n1 := hp119; have n2 := hp120; omega), (by have h := (show g126 81 6 = (g118 81 6) from ((hfg126 81 6 (fun h => (Or.elim h (fun h => (absurd (show 81 = 82 from (h).1) (by decide))) (fun h => (Or.elim h (fun h => (absurd (show 81 = 82 from (h).1) (by decide))) (fun h => (Or.elim h (fun h => (absurd (show 81 = 82 from (h).1) (by decide))) (fun h => (absurd (show 81 = 82 from (h).1) (by decide)))))))))).trans rfl)); have n1 := hp119; have n2 := hp120; omega), (by have h := (show g126 81 1 = (g 81 1) from ((hfg126 81 1 (fun h => (Or.elim h (fun h => (absurd (show 81 = 82 from (h).1) (by decide))) (fun h => (Or.elim h (fun h => (absurd (show 81 = 82 from (h).1) (by decide))) (fun h => (Or.elim h (fun h => (absurd (show 81 = 82 from (h).1) (by decide))) (fun h => (absurd (show 81 = 82 from (h).1) (by decide)))))))))).trans ((hfg118 81 1 (fun h => (Or.elim h (fun h => (absurd (show (81 = 81 ∧ 1 = 8) from h) (by decide))) (fun h => (absurd (show (81 = 81 ∧ 1 = 6) from h) (by decide)))))).trans ((hug115.2 81 1 (fun h => absurd h.2 (by decide))).trans ((hfg113 81 1 (fun h => (Or.elim h (fun h => (absurd (show 81 = 84 from h) (by decide))) (fun h => (absurd (show (81 = 81 ∧ 1 = 4) from h) (by decide)))))).trans rfl))))); have n1 := hp119; have n2 := hp120; omega), (by have h := (show g126 81 2 = (g 81 2) from ((hfg126 81 2 (fun h => (Or.elim h (fun h => (absurd (show 81 = 82 from (h).1) (by decide))) (fun h => (Or.elim h (fun h => (absurd (show 81 = 82 from (h).1) (by decide))) (fun h => (Or.elim h (fun h => (absurd (show 81 = 82 from (h).1) (by decide))) (fun h => (absurd (show 81 = 82 from (h).1) (by decide)))))))))).trans ((hfg118 81 2 (fun h => (Or.elim h (fun h => (absurd (show (81 = 81 ∧ 2 = 8) from h) (by decide))) (fun h => (absurd (show (81 = 81 ∧ 2 = 6) from h) (by decide)))))).trans ((hug115.2 81 2 (fun h => absurd h.2 (by decide))).trans ((hfg113 81 2 (fun h => (Or.elim h (fun h => (absurd (show 81 = 84 from h) (by decide))) (fun h => (absurd (show (81 = 81 ∧ 2 = 4) from h) (by decide)))))).trans rfl))))); have n1 := hp119; have n2 := hp120; omega), _, tk127⟩ | (exfalso; first | omega | (have q := h3.1; omega) | (have q := h4.1; omega) | (have q := h4.2; omega))))
        · skip
          refine mm_g 2 (pc1 := 41) (lo1 := [some (.ref 81), some (.ref q1), some (.int (Int32.ofInt v1)), none]) (st1 := [.int (Int32.ofInt 2), .ref 81]) (H1 := mz_mk g x) rfl ?_
          refine mz_cv rfl mt_4_95 (by decide) (sc_81 _) rfl (Nat.le_of_ble_eq_true rfl) (by omega) (e_X4_blame (by omega) hx hI (by decide) (by decide) (fun v128 g129 hIg129 hfg129 l_v128 u_v128 hp130 hp131 hp132 => ⟨_, rfl, ?_⟩))
          show mm_W d mmX4_readPart 44 [some (.ref 81), some (.ref q1), some (.int (Int32.ofInt v1)), none] [.int (Int32.ofInt v128)] (mz_mk g129 x) Q
          have bz_g129_1 := mz_rd hIg129 bd_81_1
          have bz_g129_2 := mz_rd hIg129 bd_81_2
          exact mz_rtZ rfl (by decide) (by omega) (hQ _ _ hIg129 (fun k j hk => (hfg129 k j (fun h => hk (Or.elim h (fun h => (Or.inr (Or.inr (Or.inr (Or.inr (Or.inr (Or.inr (Or.inr (Or.inl h))))))))) (fun h => (Or.inr (Or.inr (Or.inr (Or.inr (Or.inr (Or.inr (Or.inr (Or.inr (Or.inl h)))))))))))))) (by omega) (by omega) (by have hk := hp2; unfold cp_part; refine ⟨fun h1 h2 h3 => ?_, fun h => ⟨fun h1 => ?_, fun h1 => ⟨fun h2 => ?_, fun h2 => ⟨fun h3 => ⟨fun h4 => ?_, fun h4 => ?_⟩, fun h3 => ⟨fun h4 => ?_, fun h4 => ?_, fun h4 h5 => ?_⟩⟩⟩⟩⟩ <;> first | exact ⟨hp130, hp131, hp132⟩ | (exfalso; first | omega | (have q := h3.1; omega) | (have q := h4.1; omega) | (have q := h4.2; omega))))
      · skip
        refine mm_g 2 (pc1 := 26) (lo1 := [some (.ref 81), some (.ref q1), some (.int (Int32.ofInt v1)), none]) (st1 := [.int (Int32.ofInt 1), .ref 81]) (H1 := mz_mk g x) rfl ?_
        refine mz_cv rfl mt_4_95 (by decide) (sc_81 _) rfl (Nat.le_of_ble_eq_true rfl) (by omega) (e_X4_blame (by omega) hx hI (by decide) (by decide) (fun v133 g134 hIg134 hfg134 l_v133 u_v133 hp135 hp136 hp137 => ⟨_, rfl, ?_⟩))
        show mm_W d mmX4_readPart 29 [some (.ref 81), some (.ref q1), some (.int (Int32.ofInt v1)), none] [.int (Int32.ofInt v133)] (mz_mk g134 x) Q
        have bz_g134_1 := mz_rd hIg134 bd_81_1
        have bz_g134_2 := mz_rd hIg134 bd_81_2
        exact mz_rtZ rfl (by decide) (by omega) (hQ _ _ hIg134 (fun k j hk => (hfg134 k j (fun h => hk (Or.elim h (fun h => (Or.inr (Or.inr (Or.inr (Or.inr (Or.inr (Or.inr (Or.inr (Or.inl h))))))))) (fun h => (Or.inr (Or.inr (Or.inr (Or.inr (Or.inr (Or.inr (Or.inr (Or.inr (Or.inl h)))))))))))))) (by omega) (by omega) (by have hk := hp2; unfold cp_part; refine ⟨fun h1 h2 h3 => ?_, fun h => ⟨fun h1 => ?_, fun h1 => ⟨fun h2 => ?_, fun h2 => ⟨fun h3 => ⟨fun h4 => ?_, fun h4 => ?_⟩, fun h3 => ⟨fun h4 => ?_, fun h4 => ?_, fun h4 h5 => ?_⟩⟩⟩⟩⟩ <;> first | exact ⟨hp135, hp136, hp137⟩ | (exfalso; first | omega | (have q := h3.1; omega) | (have q := h4.1; omega) | (have q := h4.2; omega))))
