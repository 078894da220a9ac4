/-! THE LAW: what holds at each turn of its loop -/
def mz_lx (x : mm_X) (v : Int64) : mm_X := (x.1, x.2.1, x.2.2.1, x.2.2.2.1, mm_u2 x.2.2.2.2.1 179 0 v, x.2.2.2.2.2.1, x.2.2.2.2.2.2)
def mz_xx (x x1 : mm_X) : Prop := mk_x x1 ∧ x1.2.2.1 = x.2.2.1 ∧ x1.2.2.2.1 = x.2.2.2.1 ∧ x1.2.2.2.2.2.1 ≤ x.2.2.2.2.2.1 + 1 ∧ x1.2.2.2.2.2.2 ≤ x.2.2.2.2.2.2 + 6
theorem mz_xx_lx {x x1 : mm_X} (h : mk_x x1) (e : x1.2.2 = x.2.2) (v : Int64) : mz_xx x (mz_lx x1 v) := by
  refine ⟨h, ?_, ?_, ?_, ?_⟩
  · show x1.2.2.1 = _; rw [e]
  · show x1.2.2.2.1 = _; rw [e]
  · show x1.2.2.2.2.2.1 ≤ _; rw [e]; omega
  · show x1.2.2.2.2.2.2 ≤ _; rw [e]; omega
theorem mz_xx_tx {x : mm_X} (h : mk_x x) : mz_xx x (mz_tx x) := ⟨h, rfl, rfl, Nat.le_refl _, Nat.le_refl _⟩
theorem mz_xx_rf {x : mm_X} (h : mk_x x) : mz_xx x x := ⟨h, rfl, rfl, Nat.le_succ _, by omega⟩
def mz_sm (g g1 : mz_G) : Prop := (∀ k j : Nat, 137 ≤ k → g1 k j = g k j) ∧ g1 82 1 = g 82 1
def mz_sr (g g1 : mz_G) : Prop := g1 82 1 = g 82 1 ∧ g1 137 15 = g 137 15 ∧ (∀ j : Nat, g1 149 j = g 149 j) ∧ (∀ j : Nat, g1 142 j = g 142 j) ∧ (∀ j : Nat, j < 4 → g1 140 j = g 140 j)
theorem mz_sm_rf (g : mz_G) : mz_sm g g := ⟨fun _ _ _ => rfl, rfl⟩
/-- a turn's state, but the tape's -/
def mz_Lq (so : Option Nat) (L : Nat) (i : Int) (g : mz_G) (x : mm_X) : Prop := mz_inv g ∧ mk_x x ∧ mz_MI g ∧ x.2.2.1 = so ∧ x.2.2.2.1 = L ∧ 6 * (x.2.2.2.2.2.1 : Int) ≤ 1080 + i ∧ (x.2.2.2.2.2.2 : Int) ≤ 14538 + i
theorem mz_MI_eq {g g1 : mz_G} (h : mz_MI g) (e149 : ∀ j : Nat, g1 149 j = g 149 j) (e142 : ∀ j : Nat, g1 142 j = g 142 j) (e0 : g1 140 0 = g 140 0) (e1 : g1 140 1 = g 140 1) (e3 : g1 140 3 = g 140 3) (hd : g1 137 30 ≤ 999) : mz_MI g1 :=
  ⟨mz_pv_fr h.1 e149 e3, hd, by rw [e0, e1]; exact h.2.2.1, fun j hj => by rw [e142]; exact h.2.2.2 j (by rw [← e0]; exact hj)⟩
theorem mz_MI_sm {g g1 : mz_G} (h : mz_MI g) (S : ∀ k j : Nat, 137 ≤ k → g1 k j = g k j) : mz_MI g1 :=
  mz_MI_eq h (fun j => S _ j (by decide)) (fun j => S _ j (by decide)) (S _ _ (by decide)) (S _ _ (by decide)) (S _ _ (by decide)) (by rw [S _ _ (by decide)]; exact h.2.1)
theorem mz_Lq_c {so : Option Nat} {L : Nat} {i : Int} {g g1 : mz_G} {x x1 : mm_X} (P : mz_Lq so L i g x) (I : mz_inv g1) (S : ∀ k j : Nat, 137 ≤ k → g1 k j = g k j) (X : mz_xx x x1) : mz_Lq so L (i + 6) g1 x1 := by
  obtain ⟨_, _, p3, p4, p5, p6, p7⟩ := P
  obtain ⟨x1, x2, x3, x4, x5⟩ := X
  exact ⟨I, x1, mz_MI_sm p3 S, x2.trans p4, x3.trans p5, by omega, by omega⟩
theorem mz_Lq_r {so : Option Nat} {L : Nat} {i : Int} {g g1 : mz_G} {x : mm_X} (P : mz_Lq so L i g x) (I : mz_inv g1) (S : mz_sr g g1) (hd : g1 137 30 ≤ 999) : mz_Lq so L i g1 x := by
  obtain ⟨_, p2, p3, p4, p5, p6, p7⟩ := P
  exact ⟨I, p2, mz_MI_eq p3 S.2.2.1 S.2.2.2.1 (S.2.2.2.2 _ (by decide)) (S.2.2.2.2 _ (by decide)) (S.2.2.2.2 _ (by decide)) hd, p4, p5, p6, p7⟩
theorem mz_Lq_m {so : Option Nat} {L : Nat} {i : Int} {g g1 : mz_G} {x : mm_X} (P : mz_Lq so L i g x) (I : mz_inv g1) (M : mz_MI g → mz_MI g1) : mz_Lq so L i g1 x := by
  obtain ⟨_, p2, p3, p4, p5, p6, p7⟩ := P
  exact ⟨I, p2, M p3, p4, p5, p6, p7⟩
theorem sh_5000 (L : Nat) : mm_SH L 5000 = (106, L) := rfl
theorem bd_5000 (j : Nat) : mz_bd 5000 j = (-2147483648, 2147483647) := rfl
def mm_HQ (d : Nat) (M : mm_M) (lo : List (Option Value)) (pc E : Nat) (H1 : mm_H) (Q : (Option Value ⊕ Nat) → mm_H → Prop) : Prop := ∃ hp k, mm_hand M.2.2.2.1 M.1 pc E = some hp ∧ ((mm_look M.2.2.2.2 hp = some (.astore_n k, 1) ∧ mm_lg lo k.val = false ∧ k.val < lo.length ∧ mm_W d M (hp + 1) (mm_set lo k.val none) [] H1 Q) ∨ (mm_look M.2.2.2.2 hp = some (.astore k.val, 2) ∧ mm_lg lo k.val = false ∧ k.val < lo.length ∧ mm_W d M (hp + 2) (mm_set lo k.val none) [] H1 Q) ∨ ∃ k2, mm_look M.2.2.2.2 hp = some (.astore k2, 2) ∧ mm_lg lo k2 = false ∧ k2 < lo.length ∧ mm_W d M (hp + 2) (mm_set lo k2 none) [] H1 Q)
section LAW
variable {d : Nat} {M : mm_M} {pc : Nat} {lo : List (Option Value)} {st : List Value} {Q : (Option Value ⊕ Nat) → mm_H → Prop} {g : mz_G} {x : mm_X}
theorem mm_HQ_n {E hp : Nat} {H1 : mm_H} {k : Fin 4} {lo2 : List (Option Value)} (h1 : mm_hand M.2.2.2.1 M.1 pc E = some hp) (h2 : mm_look M.2.2.2.2 hp = some (.astore_n k, 1)) (h3 : mm_lg lo k.val = false) (h4 : k.val < lo.length) (h5 : mm_set lo k.val none = lo2) (w : mm_W d M (hp + 1) lo2 [] H1 Q) : mm_HQ d M lo pc E H1 Q := ⟨hp, k, h1, Or.inl ⟨h2, h3, h4, by rw [h5]; exact w⟩⟩
theorem mm_HQ_w {E hp : Nat} {H1 : mm_H} {k : Nat} {lo2 : List (Option Value)} (h1 : mm_hand M.2.2.2.1 M.1 pc E = some hp) (h2 : mm_look M.2.2.2.2 hp = some (.astore k, 2)) (h3 : mm_lg lo k = false) (h4 : k < lo.length) (h5 : mm_set lo k none = lo2) (w : mm_W d M (hp + 2) lo2 [] H1 Q) : mm_HQ d M lo pc E H1 Q := ⟨hp, 0, h1, Or.inr (Or.inr ⟨k, h2, h3, h4, by rw [h5]; exact w⟩)⟩
theorem mz_cvh {mi n ci j b : Nat} {As rest : List Value} (hl : mm_look M.2.2.2.2 pc = some (.invokevirtual j, 3)) (ht : mm_tab mm_mthT M.1 j = some (1, mi, n, 0, ci)) (hsh : (mm_SH x.2.2.2.1 b).1 = ci) (hp : mm_pop n [] st = some (As, .ref b :: rest)) (hc : mm_cat rest ≤ 8) (hd : 1 ≤ d) {h9 : Nat × Nat × Nat × Nat} {hr : List (Nat × Nat × Nat × Nat)} (hM : M.2.2.2.1 = h9 :: hr) (hh : ∀ M1, mm_at mm_prog mi = some M1 → M1.2.2.2.1 = []) (k : mm_C (d - 1) mi (.ref b :: As) (mz_mk g x) (fun o H1 => match o with | .inl v => mm_W d M (pc + 3) lo (v.toList ++ rest) H1 Q | .inr E => mm_HQ d M lo pc E H1 Q)) : mm_W d M pc lo st (mz_mk g x) Q := by
  have hc2 : (mm_sh (mz_mk g x) b).1 = ci ∧ mm_cat rest ≤ 8 := ⟨hsh, hc⟩
  exact mm_clh hl (by simp only [mm_step, ht, mm_call, hp, if_pos hc2]) hd hM hh k
theorem mz_las {v : Int64} (hl : mm_look M.2.2.2.2 pc = some (.lastore, 1)) (kk : mm_W d M (pc + 1) lo st (mz_mk g (mz_lx x v)) Q) : mm_W d M pc lo (.long v :: .int (Int32.ofInt 0) :: .ref 179 :: st) (mz_mk g x) Q := by
  refine mm_s1 (q := (pc + 1, lo, st, mz_mk g (mz_lx x v))) hl ?_ kk
  have hsh : mm_sh (mz_mk g x) 179 = (102, 1) := rfl
  have hin : ¬ ((Int32.ofInt 0) < 0 ∨ 1 ≤ (Int32.ofInt 0).toNatClampNeg) := by decide
  have e0 : (Int32.ofInt 0).toNatClampNeg = 0 := by decide
  simp only [mm_step, hsh, if_true, if_neg hin, mm_nx, e0]
  rfl
end LAW
