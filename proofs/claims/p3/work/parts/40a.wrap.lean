/-! THE LAW: what holds at each turn of its loop -/
def mz_lx (x : mm_X) (v : Int64) : mm_X := (x.1, x.2.1, x.2.2.1, x.2.2.2.1, mm_u2 x.2.2.2.2.1 179 0 v, x.2.2.2.2.2.1, x.2.2.2.2.2.2)
def mz_xx (x x1 : mm_X) : Prop := mk_x x1 ∧ x1.2.2.1 = x.2.2.1 ∧ x1.2.2.2.1 = x.2.2.2.1 ∧ x1.2.2.2.2.2.1 ≤ x.2.2.2.2.2.1 + 1 ∧ x1.2.2.2.2.2.2 ≤ x.2.2.2.2.2.2 + 6
theorem mz_xx_lx {x x1 : mm_X} (h : mk_x x1) (e : x1.2.2 = x.2.2) (v : Int64) : mz_xx x (mz_lx x1 v) := by
  refine ⟨h, ?_, ?_, ?_, ?_⟩
  · show x1.2.2.1 = _; rw [e]
  · show x1.2.2.2.1 = _; rw [e]
  · show x1.2.2.2.2.2.1 ≤ _; rw [e]; omega
  · show x1.2.2.2.2.2.2 ≤ _; rw [e]; omega
theorem mz_xx_tx {x : mm_X} (h : mk_x x) : mz_xx x (mz_tx x) := ⟨h, rfl, rfl, Nat.le_refl _, Nat.le_refl _⟩
theorem mz_xx_rf {x : mm_X} (h : mk_x x) : mz_xx x x := ⟨h, rfl, rfl, Nat.le_succ _, by omega⟩
def mz_sm (g g1 : mz_G) : Prop := (∀ k j : Nat, 137 ≤ k → g1 k j = g k j) ∧ g1 82 1 = g 82 1
def mz_sr (g g1 : mz_G) : Prop := g1 82 1 = g 82 1 ∧ g1 137 15 = g 137 15 ∧ (∀ j : Nat, g1 149 j = g 149 j) ∧ (∀ j : Nat, g1 142 j = g 142 j) ∧ (∀ j : Nat, j < 4 → g1 140 j = g 140 j)
theorem mz_sm_rf (g : mz_G) : mz_sm g g := ⟨fun _ _ _ => rfl, rfl⟩
/-- a turn's state, but the tape's -/
def mz_Lq (so : Option Nat) (L : Nat) (i : Int) (g : mz_G) (x : mm_X) : Prop := mz_inv g ∧ mk_x x ∧ mz_MI g ∧ x.2.2.1 = so ∧ x.2.2.2.1 = L ∧ 6 * (x.2.2.2.2.2.1 : Int) ≤ 1080 + i ∧ (x.2.2.2.2.2.2 : Int) ≤ 14538 + i
theorem mz_MI_eq {g g1 : mz_G} (h : mz_MI g) (e149 : ∀ j : Nat, g1 149 j = g 149 j) (e142 : ∀ j : Nat, g1 142 j = g 142 j) (e0 : g1 140 0 = g 140 0) (e1 : g1 140 1 = g 140 1) (e3 : g1 140 3 = g 140 3) (hd : g1 137 30 ≤ 999) : mz_MI g1 :=
  ⟨mz_pv_fr h.1 e149 e3, hd, by rw [e0, e1]; exact h.2.2.1, fun j hj => by rw [e142]; exact h.2.2.2 j (by rw [← e0]; exact hj)⟩
theorem mz_MI_sm {g g1 : mz_G} (h : mz_MI g) (S : ∀ k j : Nat, 137 ≤ k → g1 k j = g k j) : mz_MI g1 :=
  mz_MI_eq h (fun j => S _ j (by decide)) (fun j => S _ j (by decide)) (S _ _ (by decide)) (S _ _ (by decide)) (S _ _ (by decide)) (by rw [S _ _ (by decide)]; exact h.2.1)
theorem mz_Lq_c {so : Option Nat} {L : Nat} {i : Int} {g g1 : mz_G} {x x1 : mm_X} (P : mz_Lq so L i g x) (I : mz_inv g1) (S : ∀ k j : Nat, 137 ≤ k → g1 k j = g k j) (X : mz_xx x x1) : mz_Lq so L (i + 6) g1 x1 := by
  obtain ⟨_, _, p3, p4, p5, p6, p7⟩ := P
  obtain ⟨x1, x2, x3, x4, x5⟩ := X
  exact ⟨I, x1, mz_MI_sm p3 S, x2.trans p4, x3.trans p5, by omega, by omega⟩
theorem mz_Lq_r {so : Option Nat} {L : Nat} {i : Int} {g g1 : mz_G} {x : mm_X} (P : mz_Lq so L i g x) (I : mz_inv g1) (S : mz_sr g g1) (hd : g1 137 30 ≤ 999) : mz_Lq so L i g1 x := by
  obtain ⟨_, p2, p3, p4, p5, p6, p7⟩ := P
  exact ⟨I, p2, mz_MI_eq p3 S.2.2.1 S.2.2.2.1 (S.2.2.2.2 _ (by decide)) (S.2.2.2.2 _ (by decide)) (S.2.2.2.2 _ (by decide)) hd, p4, p5, p6, p7⟩
theorem mz_Lq_m {so : Option Nat} {L : Nat} {i : Int} {g g1 : mz_G} {x : mm_X} (P : mz_Lq so L i g x) (I : mz_inv g1) (M : mz_MI g → mz_MI g1) : mz_Lq so L i g1 x := by
  obtain ⟨_, p2, p3, p4, p5, p6, p7⟩ := P
  exact ⟨I, p2, M p3, p4, p5, p6, p7⟩
theorem sh_5000 (L : Nat) : mm_SH L 5000 = (106, L) := rfl
theorem bd_5000 (j : Nat) : mz_bd 5000 j = (-2147483648, 2147483647) := rfl
def mm_HQ (d : Nat) (M : mm_M) (lo : List (Option Value)) (pc E : Nat) (H1 : mm_H) (Q : (Option Value ⊕ Nat) → mm_H → Prop) : Prop := ∃ hp k, mm_hand M.2.2.2.1 M.1 pc E = some hp ∧ ((mm_look M.2.2.2.2 hp = some (.astore_n k, 1) ∧ mm_lg lo k.val = false ∧ k.val < lo.length ∧ mm_W d M (hp + 1) (mm_set lo k.val none) [] H1 Q) ∨ (mm_look M.2.2.2.2 hp = some (.astore k.val, 2) ∧ mm_lg lo k.val = false ∧ k.val < lo.length ∧ mm_W d M (hp + 2) (mm_set lo k.val none) [] H1 Q) ∨ ∃ k2, mm_look M.2.2.2.2 hp = some (.astore k2, 2) ∧ mm_lg lo k2 = false ∧ k2 < lo.length ∧ mm_W d M (hp + 2) (mm_set lo k2 none) [] H1 Q)
section LAW
variable {d : Nat} {M : mm_M} {pc : Nat} {lo : List (Option Value)} {st : List Value} {Q : (Option Value ⊕ Nat) → mm_H → Prop} {g : mz_G} {x : mm_X}
theorem mm_HQ_n {E hp : Nat} {H1 : mm_H} {k : Fin 4} {lo2 : List (Option Value)} (h1 : mm_hand M.2.2.2.1 M.1 pc E = some hp) (h2 : mm_look M.2.2.2.2 hp = some (.astore_n k, 1)) (h3 : mm_lg lo k.val = false) (h4 : k.val < lo.length) (h5 : mm_set lo k.val none = lo2) (w : mm_W d M (hp + 1) lo2 [] H1 Q) : mm_HQ d M lo pc E H1 Q := ⟨hp, k, h1, Or.inl ⟨h2, h3, h4, by rw [h5]; exact w⟩⟩
theorem mm_HQ_w {E hp : Nat} {H1 : mm_H} {k : Nat} {lo2 : List (Option Value)} (h1 : mm_hand M.2.2.2.1 M.1 pc E = some hp) (h2 : mm_look M.2.2.2.2 hp = some (.astore k, 2)) (h3 : mm_lg lo k = false) (h4 : k < lo.length) (h5 : mm_set lo k none = lo2) (w : mm_W d M (hp + 2) lo2 [] H1 Q) : mm_HQ d M lo pc E H1 Q := ⟨hp, 0, h1, Or.inr (Or.inr ⟨k, h2, h3, h4, by rw [h5]; exact w⟩)⟩
theorem mz_cvh {mi n ci j b : Nat} {As rest : List Value} (hl : mm_look M.2.2.2.2 pc = some (.invokevirtual j, 3)) (ht : mm_tab mm_mthT M.1 j = some (1, mi, n, 0, ci)) (hsh : (mm_SH x.2.2.2.1 b).1 = ci) (hp : mm_pop n [] st = some (As, .ref b :: rest)) (hc : mm_cat rest ≤ 8) (hd : 1 ≤ d) {h9 : Nat × Nat × Nat × Nat} {hr : List (Nat × Nat × Nat × Nat)} (hM : M.2.2.2.1 = h9 :: hr) (hh : ∀ M1, mm_at mm_prog mi = some M1 → M1.2.2.2.1 = []) (k : mm_C (d - 1) mi (.ref b :: As) (mz_mk g x) (fun o H1 => match o with | .inl v => mm_W d M (pc + 3) lo (v.toList ++ rest) H1 Q | .inr E => mm_HQ d M lo pc E H1 Q)) : mm_W d M pc lo st (mz_mk g x) Q := by
  have hc2 : (mm_sh (mz_mk g x) b).1 = ci ∧ mm_cat rest ≤ 8 := ⟨hsh, hc⟩
  exact mm_clh hl (by simp only [mm_step, ht, mm_call, hp, if_pos hc2]) hd hM hh k
theorem mz_las {v : Int64} (hl : mm_look M.2.2.2.2 pc = some (.lastore, 1)) (kk : mm_W d M (pc + 1) lo st (mz_mk g (mz_lx x v)) Q) : mm_W d M pc lo (.long v :: .int (Int32.ofInt 0) :: .ref 179 :: st) (mz_mk g x) Q := by
  refine mm_s1 (q := (pc + 1, lo, st, mz_mk g (mz_lx x v))) hl ?_ kk
  have hsh : mm_sh (mz_mk g x) 179 = (102, 1) := rfl
  have hin : ¬ ((Int32.ofInt 0) < 0 ∨ 1 ≤ (Int32.ofInt 0).toNatClampNeg) := by decide
  have e0 : (Int32.ofInt 0).toNatClampNeg = 0 := by decide
  simp only [mm_step, hsh, if_true, if_neg hin, mm_nx, e0]
  rfl
end LAW
/-! p4: what holds of the tapes and of the fault's place -/
def RR4 (g : mz_G) : Prop := mz_str g ∧ fd_k g g (g 82 1) ∧ g 0 0 = g 137 24
def u4 (g g1 : mz_G) : Prop := (∀ j : Nat, g1 83 j = g 83 j) ∧ g1 0 0 = g 0 0
theorem u4_rf (g : mz_G) : u4 g g := ⟨fun _ => rfl, rfl⟩
def v4 (g g1 : mz_G) : Prop := (∀ j : Nat, g1 83 j = g 83 j) ∧ g1 0 0 = g 0 0 ∧ (∀ j : Nat, g1 151 j = g 151 j) ∧ g1 137 24 = g 137 24 ∧ ∀ k j : Nat, 2000 ≤ k → g1 k j = g k j
theorem RR4_c {g g1 : mz_G} (T : RR4 g) (S : mz_sm g g1) (U : u4 g g1) : RR4 g1 := by
  obtain ⟨t1, ⟨-, t2, t3⟩, t4⟩ := T
  refine ⟨fun q i hq => (S.1 _ _ (by omega)).trans (t1 q i hq), ⟨rfl, ?_, fun j => ?_⟩, ?_⟩
  · rw [S.1 137 15 (by decide), t2, S.2]
  · rw [U.1, S.1 151 j (by decide)]; exact t3 j
  · rw [U.2, S.1 137 24 (by decide)]; exact t4
theorem RR4_r {g g1 : mz_G} (T : RR4 g) (S : mz_sr g g1) (V : v4 g g1) : RR4 g1 := by
  obtain ⟨t1, ⟨-, t2, t3⟩, t4⟩ := T
  obtain ⟨v1, v2, v3, v4, v5⟩ := V
  refine ⟨fun q i hq => (v5 _ _ (by omega)).trans (t1 q i hq), ⟨rfl, ?_, fun j => ?_⟩, ?_⟩
  · rw [S.2.1, t2, S.1]
  · rw [v1, v3]; exact t3 j
  · rw [v2, v4]; exact t4
theorem RR4_fault {x : mm_X} {g g2 : mz_G} {r1 r2 : Int} (T : RR4 g) (e1 : zF_X11_fault x g = r1) (e2 : zF_X12_fault g = (r2, g2)) : r1 = r2 := by
  unfold zF_X11_fault at e1
  unfold zF_X12_fault at e2
  simp only [zf_lq] at e1 e2
  have e3 : mz_up g 137 2 0 137 24 = r2 := congrArg Prod.fst e2
  rw [← e1, T.2.2, ← e3]
  exact (up_j (by decide)).symm
theorem RR4_feed {x : mm_X} {a1 a2 a3 a4 a5 r1 r2 : Int} {g g1 g2 : mz_G} (T : RR4 g) (I : mz_inv g) (e1 : zF_X11_feed x a1 a2 a3 a4 a5 g = (r1, g1)) (S : ∀ k j : Nat, 137 ≤ k → g1 k j = g k j) (c0 : g1 0 0 = g 0 0) (e2 : zF_X12_feed a1 a2 a3 a4 a5 g1 = (r2, g2)) (d82 : g2 82 1 = g1 82 1) (d83 : ∀ j : Nat, g2 83 j = g1 83 j) (d0 : g2 0 0 = g1 0 0) (d24 : g2 137 24 = g1 137 24) (dS : ∀ k j : Nat, 2000 ≤ k → g2 k j = g1 k j) : RR4 g2 := by
  obtain ⟨t1, ⟨-, t2, t3⟩, t4⟩ := T
  have b := mz_rd I bd_82_1
  obtain ⟨c1, f, -⟩ := feed_k (x := x) (a1 := a1) (a2 := a2) (a3 := a3) (a4 := a4) (a5 := a5) (gA := g) (gB := g1) (c := g 82 1) ⟨rfl, (S 137 15 (by decide)).trans t2, fun j => (t3 j).trans (S 151 j (by decide)).symm⟩ b.1 b.2
  rw [e1, e2] at f
  obtain ⟨f1, f2, f3⟩ := f
  have f1 : g1 82 1 = c1 := f1
  have f2 : g2 137 15 = c1 := f2
  have f3 : ∀ j : Nat, mz_andI (g1 83 j) 255 = g2 151 j := f3
  refine ⟨fun q i hq => (dS _ _ (by omega)).trans ((S _ _ (by omega)).trans (t1 q i hq)), ⟨rfl, ?_, fun j => ?_⟩, ?_⟩
  · rw [f2, d82, f1]
  · rw [d83]; exact f3 j
  · rw [d0, c0, d24, S 137 24 (by decide)]; exact t4
/-- what a baggage's wrapper leaves -/
def bg_w (x : mm_X) (a1 : Int) (g g1 : mz_G) : Prop := (∀ k j : Nat, 137 ≤ k → g1 k j = g k j) ∧ (∀ j : Nat, g1 83 j = g 83 j) ∧ ((0 ≤ a1 ∧ a1 ≤ g 82 1 ∧ g1 82 1 = 0 ∧ ∃ (r : Int) (x1 : mm_X), zF_X11_baggage x a1 g = (0, r, g1, x1)) ∨ (zF_X11_baggage x a1 g = (2, 0, g, x) ∧ g1 = g))
theorem bg_w_x {x : mm_X} {a1 : Int} {g : mz_G} (e : zF_X11_baggage x a1 g = (2, 0, g, x)) : bg_w x a1 g g := ⟨fun _ _ _ => rfl, fun _ => rfl, Or.inr ⟨e, rfl⟩⟩
theorem RR4_bag {x : mm_X} (hx : mk_x x) {a1 r2 : Int} {g g1 g2 : mz_G} (T : RR4 g) (I : mz_inv g) (I1 : mz_inv g1) (W : bg_w x a1 g g1) (e2 : zF_X12_baggage a1 g1 = (r2, g2)) (L : (0 ≤ a1 ∧ a1 ≤ g1 137 15 → g2 137 15 = 0) ∧ (¬ (0 ≤ a1 ∧ a1 ≤ g1 137 15) → g2 137 15 = g1 137 15)) (d82 : g2 82 1 = g1 82 1) (d83 : ∀ j : Nat, g2 83 j = g1 83 j) (d0 : g2 0 0 = g1 0 0) (d151 : ∀ j : Nat, g2 151 j = g1 151 j) (dS : ∀ k j : Nat, 2000 ≤ k → g2 k j = g1 k j) : RR4 g2 := by
  obtain ⟨t1, ⟨-, t2, t3⟩, t4⟩ := T
  obtain ⟨w1, w2, w3⟩ := W
  have s1 : mz_str g1 := fun q i hq => (w1 _ _ (by omega)).trans (t1 q i hq)
  have hR : mz_cb g = mz_rb g1 := funext fun a => by
    unfold mz_cb mz_rb
    rw [w1 151 _ (by decide)]
    exact t3 _
  have e15 : g1 137 15 = g 82 1 := (w1 137 15 (by decide)).trans t2
  have tape : ∀ j : Nat, mz_andI (g2 83 j) 255 = g2 151 j := fun j => by
    rw [d83, w2, d151, w1 151 j (by decide)]
    exact t3 j
  have st2 : mz_str g2 := fun q i hq => (dS _ _ (by omega)).trans (s1 q i hq)
  rcases w3 with ⟨h0, h1, h2, r, x1, e1⟩ | ⟨e1, rfl⟩
  · obtain ⟨b1, b2, b3, -⟩ := bag_end hx (a1 := a1) I I1 t1 s1 hR h0 h1 (by rw [e15]; exact h1)
    rw [e1, e2] at b3
    have b3 : g1 0 0 = g2 137 24 := b3
    exact ⟨st2, ⟨rfl, (L.1 ⟨h0, by rw [e15]; exact h1⟩).trans (d82.trans h2).symm, tape⟩, d0.trans b3⟩
  · have no : ¬ (0 ≤ a1 ∧ a1 ≤ g1 137 15) := fun z => by
      obtain ⟨b1, -, -⟩ := bag_end hx (a1 := a1) I I1 t1 s1 hR z.1 (by rw [← e15]; exact z.2) z.2
      rw [e1] at b1
      have b1 : (2 : Nat) = 0 := b1
      exact absurd b1 (by decide)
    have n := (bag_no no).1
    rw [e2] at n
    have n : g2 137 24 = g1 137 24 := n
    exact ⟨st2, ⟨rfl, (L.2 no).trans (t2.trans d82.symm), tape⟩, d0.trans (t4.trans n.symm)⟩
/-! p3: what a baggage's wrapper leaves, and that both answer the same -/
def bg3 (x : mm_X) (a1 : Int) (g : mz_G) (r : Int) (g1 : mz_G) (x1 : mm_X) : Prop := (∀ k j : Nat, 137 ≤ k → g1 k j = g k j) ∧ (∀ j : Nat, g1 83 j = g 83 j) ∧ ((r = 0 ∧ 0 ≤ a1 ∧ a1 ≤ g 82 1 ∧ g1 82 1 = 0 ∧ ∃ (v : Int) (xx : mm_X), zF_X11_baggage x a1 g = (0, v, g1, xx) ∧ x1.2.2.2.2.1 179 0 = Int64.ofInt v) ∨ (r = 1 ∧ zF_X11_baggage x a1 g = (2, 0, g, x) ∧ g1 = g))
theorem mz_lx_at (x : mm_X) (v : Int64) : (mz_lx x v).2.2.2.2.1 179 0 = v := rfl
theorem bg3_x {x x1 : mm_X} {a1 : Int} {g : mz_G} (e : zF_X11_baggage x a1 g = (2, 0, g, x)) : bg3 x a1 g 1 g x1 := ⟨fun _ _ _ => rfl, fun _ => rfl, Or.inr ⟨rfl, e, rfl⟩⟩
theorem bg3_w {x x1 : mm_X} {a1 r : Int} {g g1 : mz_G} (h : bg3 x a1 g r g1 x1) : bg_w x a1 g g1 := by
  obtain ⟨h1, h2, h3⟩ := h
  refine ⟨h1, h2, ?_⟩
  rcases h3 with ⟨-, a, b, c, v, xx, e, -⟩ | ⟨-, e, q⟩
  · exact Or.inl ⟨a, b, c, v, xx, e⟩
  · exact Or.inr ⟨e, q⟩
theorem RR3_bag {x x1 : mm_X} (hx : mk_x x) {a1 r r2 r3 : Int} {g g1 g2 : mz_G} (T : RR4 g) (I : mz_inv g) (I1 : mz_inv g1) (W : bg3 x a1 g r g1 x1) (e2 : zF_X12_baggage a1 g1 = (r2, g2)) (e3 : zF_X12_thrown g2 = r3) : (r = 0 ∨ r = 1) ∧ r3 = r ∧ (r = 0 → x1.2.2.2.2.1 179 0 = Int64.ofInt r2) := by
  obtain ⟨t1, ⟨-, t2, t3⟩, t4⟩ := T
  obtain ⟨w1, w2, w3⟩ := W
  have s1 : mz_str g1 := fun q i hq => (w1 _ _ (by omega)).trans (t1 q i hq)
  have hR : mz_cb g = mz_rb g1 := funext fun a => by
    unfold mz_cb mz_rb
    rw [w1 151 _ (by decide)]
    exact t3 _
  have e15 : g1 137 15 = g 82 1 := (w1 137 15 (by decide)).trans t2
  have e4 : g2 137 2 = r3 := by
    unfold zF_X12_thrown at e3
    rw [zf_lq] at e3
    exact e3
  rcases w3 with ⟨r0, h0, h1, h2, v, xx, e1, ev⟩ | ⟨r1, e1, rfl⟩
  · obtain ⟨-, b2, -, b4⟩ := bag_end hx (a1 := a1) I I1 t1 s1 hR h0 h1 (by rw [e15]; exact h1)
    rw [e1, e2] at b2
    rw [e2] at b4
    have b2 : v = r2 := b2
    have b4 : g2 137 2 = 0 := b4
    exact ⟨Or.inl r0, by rw [← e4, b4, r0], fun _ => by rw [ev, b2]⟩
  · have no : ¬ (0 ≤ a1 ∧ a1 ≤ g1 137 15) := fun z => by
      obtain ⟨b1, -, -, -⟩ := bag_end hx (a1 := a1) I I1 t1 s1 hR z.1 (by rw [← e15]; exact z.2) z.2
      rw [e1] at b1
      have b1 : (2 : Nat) = 0 := b1
      exact absurd b1 (by decide)
    have n := (bag_no no).2
    rw [e2] at n
    have n : g2 137 2 = 1 := n
    exact ⟨Or.inr r1, by rw [← e4, n, r1], fun z => absurd (r1.symm.trans z) (by decide)⟩
section LW3
variable {d : Nat} {M : mm_M} {pc : Nat} {lo : List (Option Value)} {st : List Value} {Q : (Option Value ⊕ Nat) → mm_H → Prop} {g : mz_G} {x : mm_X}
theorem mz_lal {v : Int64} (hl : mm_look M.2.2.2.2 pc = some (.laload, 1)) (e : x.2.2.2.2.1 179 0 = v) (kk : mm_W d M (pc + 1) lo (.long v :: st) (mz_mk g x) Q) : mm_W d M pc lo (.int (Int32.ofInt 0) :: .ref 179 :: st) (mz_mk g x) Q := by
  refine mm_s1 (q := (pc + 1, lo, .long v :: st, mz_mk g x)) hl ?_ kk
  have hsh : mm_sh (mz_mk g x) 179 = (102, 1) := rfl
  have hin : ¬ ((Int32.ofInt 0) < 0 ∨ 1 ≤ (Int32.ofInt 0).toNatClampNeg) := by decide
  have e0 : (Int32.ofInt 0).toNatClampNeg = 0 := by decide
  simp only [mm_step, hsh, if_true, if_neg hin, mm_nx, e0]
  rw [← e]
  rfl
end LW3
theorem mt_13_7 : mm_tab mm_mthT 13 7 = some (1, 124, 1, 0, 11) := rfl
theorem mt_13_15 : mm_tab mm_mthT 13 15 = some (1, 126, 1, 0, 11) := rfl
theorem mt_13_20 : mm_tab mm_mthT 13 20 = some (1, 129, 2, 0, 11) := rfl
theorem mt_13_24 : mm_tab mm_mthT 13 24 = some (1, 131, 2, 0, 11) := rfl
theorem mt_13_27 : mm_tab mm_mthT 13 27 = some (1, 132, 2, 0, 11) := rfl
theorem mt_13_30 : mm_tab mm_mthT 13 30 = some (1, 134, 2, 0, 11) := rfl
theorem mt_13_33 : mm_tab mm_mthT 13 33 = some (1, 135, 2, 0, 11) := rfl
theorem mt_13_36 : mm_tab mm_mthT 13 36 = some (1, 136, 1, 0, 11) := rfl
theorem mt_13_39 : mm_tab mm_mthT 13 39 = some (1, 137, 3, 0, 11) := rfl
theorem mt_13_43 : mm_tab mm_mthT 13 43 = some (1, 139, 3, 0, 11) := rfl
theorem mt_13_46 : mm_tab mm_mthT 13 46 = some (1, 141, 3, 0, 11) := rfl
theorem mt_13_49 : mm_tab mm_mthT 13 49 = some (1, 142, 2, 0, 11) := rfl
theorem mt_13_52 : mm_tab mm_mthT 13 52 = some (1, 143, 1, 0, 11) := rfl
theorem mt_13_55 : mm_tab mm_mthT 13 55 = some (1, 144, 2, 0, 11) := rfl
theorem mt_13_58 : mm_tab mm_mthT 13 58 = some (1, 145, 2, 0, 11) := rfl
theorem mt_13_61 : mm_tab mm_mthT 13 61 = some (1, 148, 3, 0, 11) := rfl
theorem mt_13_64 : mm_tab mm_mthT 13 64 = some (1, 149, 1, 0, 11) := rfl
theorem mt_13_67 : mm_tab mm_mthT 13 67 = some (1, 150, 1, 0, 11) := rfl
theorem mt_13_70 : mm_tab mm_mthT 13 70 = some (1, 151, 2, 0, 11) := rfl
theorem mt_13_73 : mm_tab mm_mthT 13 73 = some (1, 154, 3, 0, 11) := rfl
theorem mt_13_76 : mm_tab mm_mthT 13 76 = some (1, 155, 1, 0, 11) := rfl
theorem mt_13_79 : mm_tab mm_mthT 13 79 = some (1, 156, 1, 0, 11) := rfl
theorem mt_13_82 : mm_tab mm_mthT 13 82 = some (1, 163, 3, 0, 11) := rfl
theorem mt_13_85 : mm_tab mm_mthT 13 85 = some (1, 164, 3, 0, 11) := rfl
theorem mt_13_88 : mm_tab mm_mthT 13 88 = some (1, 166, 3, 0, 11) := rfl
theorem mt_13_95 : mm_tab mm_mthT 13 95 = some (1, 123, 5, 0, 11) := rfl
theorem mt_13_99 : mm_tab mm_mthT 13 99 = some (1, 188, 5, 0, 12) := rfl
theorem mt_13_100 : mm_tab mm_mthT 13 100 = some (0, 301, 3, 0, 13) := rfl
theorem mt_13_105 : mm_tab mm_mthT 13 105 = some (1, 215, 1, 0, 12) := rfl
theorem mt_13_106 : mm_tab mm_mthT 13 106 = some (1, 181, 0, 0, 12) := rfl
theorem mt_13_110 : mm_tab mm_mthT 13 110 = some (1, 125, 0, 0, 11) := rfl
theorem mt_13_113 : mm_tab mm_mthT 13 113 = some (1, 218, 0, 0, 12) := rfl
theorem mt_13_114 : mm_tab mm_mthT 13 114 = some (0, 302, 3, 0, 13) := rfl
theorem mt_13_116 : mm_tab mm_mthT 13 116 = some (1, 243, 1, 0, 12) := rfl
theorem mt_13_117 : mm_tab mm_mthT 13 117 = some (0, 303, 4, 0, 13) := rfl
theorem mt_13_120 : mm_tab mm_mthT 13 120 = some (1, 244, 2, 0, 12) := rfl
theorem mt_13_121 : mm_tab mm_mthT 13 121 = some (0, 304, 4, 0, 13) := rfl
theorem mt_13_123 : mm_tab mm_mthT 13 123 = some (1, 245, 2, 0, 12) := rfl
theorem mt_13_124 : mm_tab mm_mthT 13 124 = some (0, 305, 4, 0, 13) := rfl
theorem mt_13_126 : mm_tab mm_mthT 13 126 = some (1, 246, 2, 0, 12) := rfl
theorem mt_13_127 : mm_tab mm_mthT 13 127 = some (1, 133, 1, 0, 11) := rfl
theorem mt_13_130 : mm_tab mm_mthT 13 130 = some (1, 249, 1, 0, 12) := rfl
theorem mt_13_131 : mm_tab mm_mthT 13 131 = some (0, 306, 4, 0, 13) := rfl
theorem mt_13_133 : mm_tab mm_mthT 13 133 = some (1, 250, 2, 0, 12) := rfl
theorem mt_13_134 : mm_tab mm_mthT 13 134 = some (0, 307, 4, 0, 13) := rfl
theorem mt_13_136 : mm_tab mm_mthT 13 136 = some (1, 251, 2, 0, 12) := rfl
theorem mt_13_137 : mm_tab mm_mthT 13 137 = some (0, 308, 3, 0, 13) := rfl
theorem mt_13_139 : mm_tab mm_mthT 13 139 = some (1, 253, 1, 0, 12) := rfl
theorem mt_13_140 : mm_tab mm_mthT 13 140 = some (0, 309, 5, 0, 13) := rfl
theorem mt_13_143 : mm_tab mm_mthT 13 143 = some (1, 255, 3, 0, 12) := rfl
theorem mt_13_144 : mm_tab mm_mthT 13 144 = some (1, 138, 0, 0, 11) := rfl
theorem mt_13_147 : mm_tab mm_mthT 13 147 = some (1, 256, 0, 0, 12) := rfl
theorem mt_13_148 : mm_tab mm_mthT 13 148 = some (0, 310, 5, 0, 13) := rfl
theorem mt_13_150 : mm_tab mm_mthT 13 150 = some (1, 258, 3, 0, 12) := rfl
theorem mt_13_151 : mm_tab mm_mthT 13 151 = some (0, 311, 5, 0, 13) := rfl
theorem mt_13_153 : mm_tab mm_mthT 13 153 = some (1, 259, 3, 0, 12) := rfl
theorem mt_13_154 : mm_tab mm_mthT 13 154 = some (0, 312, 4, 0, 13) := rfl
theorem mt_13_156 : mm_tab mm_mthT 13 156 = some (1, 262, 2, 0, 12) := rfl
theorem mt_13_157 : mm_tab mm_mthT 13 157 = some (0, 313, 3, 0, 13) := rfl
theorem mt_13_159 : mm_tab mm_mthT 13 159 = some (1, 263, 1, 0, 12) := rfl
theorem mt_13_160 : mm_tab mm_mthT 13 160 = some (0, 314, 4, 0, 13) := rfl
theorem mt_13_162 : mm_tab mm_mthT 13 162 = some (1, 264, 2, 0, 12) := rfl
theorem mt_13_163 : mm_tab mm_mthT 13 163 = some (0, 315, 4, 0, 13) := rfl
theorem mt_13_165 : mm_tab mm_mthT 13 165 = some (1, 265, 2, 0, 12) := rfl
theorem mt_13_166 : mm_tab mm_mthT 13 166 = some (0, 316, 5, 0, 13) := rfl
theorem mt_13_168 : mm_tab mm_mthT 13 168 = some (1, 266, 3, 0, 12) := rfl
theorem mt_13_169 : mm_tab mm_mthT 13 169 = some (0, 317, 3, 0, 13) := rfl
theorem mt_13_171 : mm_tab mm_mthT 13 171 = some (1, 270, 1, 0, 12) := rfl
theorem mt_13_172 : mm_tab mm_mthT 13 172 = some (0, 318, 3, 0, 13) := rfl
theorem mt_13_174 : mm_tab mm_mthT 13 174 = some (1, 273, 1, 0, 12) := rfl
theorem mt_13_175 : mm_tab mm_mthT 13 175 = some (0, 319, 4, 0, 13) := rfl
theorem mt_13_177 : mm_tab mm_mthT 13 177 = some (1, 274, 2, 0, 12) := rfl
theorem mt_13_178 : mm_tab mm_mthT 13 178 = some (1, 152, 0, 0, 11) := rfl
theorem mt_13_181 : mm_tab mm_mthT 13 181 = some (1, 276, 0, 0, 12) := rfl
theorem mt_13_182 : mm_tab mm_mthT 13 182 = some (0, 320, 5, 0, 13) := rfl
theorem mt_13_184 : mm_tab mm_mthT 13 184 = some (1, 278, 3, 0, 12) := rfl
theorem mt_13_185 : mm_tab mm_mthT 13 185 = some (0, 321, 3, 0, 13) := rfl
theorem mt_13_187 : mm_tab mm_mthT 13 187 = some (1, 281, 1, 0, 12) := rfl
theorem mt_13_188 : mm_tab mm_mthT 13 188 = some (0, 322, 3, 0, 13) := rfl
theorem mt_13_190 : mm_tab mm_mthT 13 190 = some (1, 282, 1, 0, 12) := rfl
theorem mt_13_191 : mm_tab mm_mthT 13 191 = some (1, 157, 0, 0, 11) := rfl
theorem mt_13_194 : mm_tab mm_mthT 13 194 = some (1, 283, 0, 0, 12) := rfl
theorem mt_13_195 : mm_tab mm_mthT 13 195 = some (0, 323, 5, 0, 13) := rfl
theorem mt_13_197 : mm_tab mm_mthT 13 197 = some (1, 284, 3, 0, 12) := rfl
theorem mt_13_198 : mm_tab mm_mthT 13 198 = some (0, 324, 5, 0, 13) := rfl
theorem mt_13_200 : mm_tab mm_mthT 13 200 = some (1, 286, 3, 0, 12) := rfl
theorem mt_13_201 : mm_tab mm_mthT 13 201 = some (0, 325, 5, 0, 13) := rfl
theorem mt_13_203 : mm_tab mm_mthT 13 203 = some (1, 289, 3, 0, 12) := rfl
theorem mt_13_204 : mm_tab mm_mthT 13 204 = some (1, 169, 0, 0, 11) := rfl
theorem mt_13_207 : mm_tab mm_mthT 13 207 = some (1, 291, 0, 0, 12) := rfl
theorem mt_13_208 : mm_tab mm_mthT 13 208 = some (1, 170, 0, 0, 11) := rfl
theorem mt_13_212 : mm_tab mm_mthT 13 212 = some (1, 292, 0, 0, 12) := rfl
theorem nh_X11_alike : ∀ M1, mm_at mm_prog 145 = some M1 → M1.2.2.2.1 = [] := mz_nop (M0 := mmX11_alike) rfl rfl
theorem nh_X11_baggage : ∀ M1, mm_at mm_prog 124 = some M1 → M1.2.2.2.1 = [] := mz_nop (M0 := mmX11_baggage) rfl rfl
theorem nh_X11_blend : ∀ M1, mm_at mm_prog 141 = some M1 → M1.2.2.2.1 = [] := mz_nop (M0 := mmX11_blend) rfl rfl
theorem nh_X11_both : ∀ M1, mm_at mm_prog 148 = some M1 → M1.2.2.2.1 = [] := mz_nop (M0 := mmX11_both) rfl rfl
theorem nh_X11_chain : ∀ M1, mm_at mm_prog 150 = some M1 → M1.2.2.2.1 = [] := mz_nop (M0 := mmX11_chain) rfl rfl
theorem nh_X11_count : ∀ M1, mm_at mm_prog 126 = some M1 → M1.2.2.2.1 = [] := mz_nop (M0 := mmX11_count) rfl rfl
theorem nh_X11_draw : ∀ M1, mm_at mm_prog 134 = some M1 → M1.2.2.2.1 = [] := mz_nop (M0 := mmX11_draw) rfl rfl
theorem nh_X11_full : ∀ M1, mm_at mm_prog 143 = some M1 → M1.2.2.2.1 = [] := mz_nop (M0 := mmX11_full) rfl rfl
theorem nh_X11_game : ∀ M1, mm_at mm_prog 164 = some M1 → M1.2.2.2.1 = [] := mz_nop (M0 := mmX11_game) rfl rfl
theorem nh_X11_later : ∀ M1, mm_at mm_prog 142 = some M1 → M1.2.2.2.1 = [] := mz_nop (M0 := mmX11_later) rfl rfl
theorem nh_X11_letter : ∀ M1, mm_at mm_prog 131 = some M1 → M1.2.2.2.1 = [] := mz_nop (M0 := mmX11_letter) rfl rfl
theorem nh_X11_look : ∀ M1, mm_at mm_prog 156 = some M1 → M1.2.2.2.1 = [] := mz_nop (M0 := mmX11_look) rfl rfl
theorem nh_X11_loose : ∀ M1, mm_at mm_prog 155 = some M1 → M1.2.2.2.1 = [] := mz_nop (M0 := mmX11_loose) rfl rfl
theorem nh_X11_pack : ∀ M1, mm_at mm_prog 137 = some M1 → M1.2.2.2.1 = [] := mz_nop (M0 := mmX11_pack) rfl rfl
theorem nh_X11_pull : ∀ M1, mm_at mm_prog 135 = some M1 → M1.2.2.2.1 = [] := mz_nop (M0 := mmX11_pull) rfl rfl
theorem nh_X11_read : ∀ M1, mm_at mm_prog 144 = some M1 → M1.2.2.2.1 = [] := mz_nop (M0 := mmX11_read) rfl rfl
theorem nh_X11_row : ∀ M1, mm_at mm_prog 149 = some M1 → M1.2.2.2.1 = [] := mz_nop (M0 := mmX11_row) rfl rfl
theorem nh_X11_seasons : ∀ M1, mm_at mm_prog 163 = some M1 → M1.2.2.2.1 = [] := mz_nop (M0 := mmX11_seasons) rfl rfl
theorem nh_X11_see : ∀ M1, mm_at mm_prog 154 = some M1 → M1.2.2.2.1 = [] := mz_nop (M0 := mmX11_see) rfl rfl
theorem nh_X11_then : ∀ M1, mm_at mm_prog 139 = some M1 → M1.2.2.2.1 = [] := mz_nop (M0 := mmX11_then) rfl rfl
theorem nh_X11_toDraw : ∀ M1, mm_at mm_prog 151 = some M1 → M1.2.2.2.1 = [] := mz_nop (M0 := mmX11_toDraw) rfl rfl
theorem nh_X11_trunk : ∀ M1, mm_at mm_prog 132 = some M1 → M1.2.2.2.1 = [] := mz_nop (M0 := mmX11_trunk) rfl rfl
theorem nh_X11_turn : ∀ M1, mm_at mm_prog 136 = some M1 → M1.2.2.2.1 = [] := mz_nop (M0 := mmX11_turn) rfl rfl
theorem nh_X11_word : ∀ M1, mm_at mm_prog 129 = some M1 → M1.2.2.2.1 = [] := mz_nop (M0 := mmX11_word) rfl rfl
theorem nh_X11_years : ∀ M1, mm_at mm_prog 166 = some M1 → M1.2.2.2.1 = [] := mz_nop (M0 := mmX11_years) rfl rfl
theorem nw_X11_baggage_137 {x : mm_X} (hx : mk_x x) {a1 : Int} : ∀ k j : Nat, 137 ≤ k → ¬ (fw_X11_baggage x a1) k j := by
  have kx := kn_x hx
  intro k j hk
  unfold fw_X11_baggage
  omega
theorem nw_X11_baggage_83 {x : mm_X} (hx : mk_x x) {a1 : Int} : ∀ j : Nat, ¬ (fw_X11_baggage x a1) 83 j := by
  have kx := kn_x hx
  intro j
  unfold fw_X11_baggage
  omega
theorem nw_X11_trunk_137 {x : mm_X} (hx : mk_x x) {a1 a2 : Int} : ∀ k j : Nat, 137 ≤ k → ¬ (fw_X11_trunk x a1 a2) k j := by
  have kx := kn_x hx
  intro k j hk
  unfold fw_X11_trunk
  omega
theorem nw_X11_trunk_82 {x : mm_X} (hx : mk_x x) {a1 a2 : Int} : ¬ (fw_X11_trunk x a1 a2) 82 1 := by
  have kx := kn_x hx
  unfold fw_X11_trunk
  omega
theorem nw_X11_trunk_83 {x : mm_X} (hx : mk_x x) {a1 a2 : Int} : ∀ j : Nat, ¬ (fw_X11_trunk x a1 a2) 83 j := by
  have kx := kn_x hx
  intro j
  unfold fw_X11_trunk
  omega
theorem nw_X11_trunk_0 {x : mm_X} (hx : mk_x x) {a1 a2 : Int} : ¬ (fw_X11_trunk x a1 a2) 0 0 := by
  have kx := kn_x hx
  unfold fw_X11_trunk
  omega
theorem nw_X11_draw_137 {x : mm_X} (hx : mk_x x) {a1 a2 : Int} : ∀ k j : Nat, 137 ≤ k → ¬ (fw_X11_draw x a1 a2) k j := by
  have kx := kn_x hx
  intro k j hk
  unfold fw_X11_draw
  omega
theorem nw_X11_draw_82 {x : mm_X} (hx : mk_x x) {a1 a2 : Int} : ¬ (fw_X11_draw x a1 a2) 82 1 := by
  have kx := kn_x hx
  unfold fw_X11_draw
  omega
theorem nw_X11_draw_83 {x : mm_X} (hx : mk_x x) {a1 a2 : Int} : ∀ j : Nat, ¬ (fw_X11_draw x a1 a2) 83 j := by
  have kx := kn_x hx
  intro j
  unfold fw_X11_draw
  omega
theorem nw_X11_draw_0 {x : mm_X} (hx : mk_x x) {a1 a2 : Int} : ¬ (fw_X11_draw x a1 a2) 0 0 := by
  have kx := kn_x hx
  unfold fw_X11_draw
  omega
theorem nw_X11_pull_137 {x : mm_X} (hx : mk_x x) {a1 a2 : Int} : ∀ k j : Nat, 137 ≤ k → ¬ (fw_X11_pull x a1 a2) k j := by
  have kx := kn_x hx
  intro k j hk
  unfold fw_X11_pull
  omega
theorem nw_X11_pull_82 {x : mm_X} (hx : mk_x x) {a1 a2 : Int} : ¬ (fw_X11_pull x a1 a2) 82 1 := by
  have kx := kn_x hx
  unfold fw_X11_pull
  omega
theorem nw_X11_pull_83 {x : mm_X} (hx : mk_x x) {a1 a2 : Int} : ∀ j : Nat, ¬ (fw_X11_pull x a1 a2) 83 j := by
  have kx := kn_x hx
  intro j
  unfold fw_X11_pull
  omega
theorem nw_X11_pull_0 {x : mm_X} (hx : mk_x x) {a1 a2 : Int} : ¬ (fw_X11_pull x a1 a2) 0 0 := by
  have kx := kn_x hx
  unfold fw_X11_pull
  omega
theorem nw_X11_turn_137 {x : mm_X} (hx : mk_x x) {a1 : Int} : ∀ k j : Nat, 137 ≤ k → ¬ (fw_X11_turn x a1) k j := by
  have kx := kn_x hx
  intro k j hk
  unfold fw_X11_turn
  omega
theorem nw_X11_turn_82 {x : mm_X} (hx : mk_x x) {a1 : Int} : ¬ (fw_X11_turn x a1) 82 1 := by
  have kx := kn_x hx
  unfold fw_X11_turn
  omega
theorem nw_X11_turn_83 {x : mm_X} (hx : mk_x x) {a1 : Int} : ∀ j : Nat, ¬ (fw_X11_turn x a1) 83 j := by
  have kx := kn_x hx
  intro j
  unfold fw_X11_turn
  omega
theorem nw_X11_turn_0 {x : mm_X} (hx : mk_x x) {a1 : Int} : ¬ (fw_X11_turn x a1) 0 0 := by
  have kx := kn_x hx
  unfold fw_X11_turn
  omega
theorem nw_X11_pack_137 {x : mm_X} (hx : mk_x x) {a1 a2 a3 : Int} : ∀ k j : Nat, 137 ≤ k → ¬ (fw_X11_pack x a1 a2 a3) k j := by
  have kx := kn_x hx
  intro k j hk
  unfold fw_X11_pack
  omega
theorem nw_X11_pack_82 {x : mm_X} (hx : mk_x x) {a1 a2 a3 : Int} : ¬ (fw_X11_pack x a1 a2 a3) 82 1 := by
  have kx := kn_x hx
  unfold fw_X11_pack
  omega
theorem nw_X11_pack_83 {x : mm_X} (hx : mk_x x) {a1 a2 a3 : Int} : ∀ j : Nat, ¬ (fw_X11_pack x a1 a2 a3) 83 j := by
  have kx := kn_x hx
  intro j
  unfold fw_X11_pack
  omega
theorem nw_X11_pack_0 {x : mm_X} (hx : mk_x x) {a1 a2 a3 : Int} : ¬ (fw_X11_pack x a1 a2 a3) 0 0 := by
  have kx := kn_x hx
  unfold fw_X11_pack
  omega
theorem nw_X11_then_137 {x : mm_X} (hx : mk_x x) {a1 a2 a3 : Int} : ∀ k j : Nat, 137 ≤ k → ¬ (fw_X11_then x a1 a2 a3) k j := by
  have kx := kn_x hx
  intro k j hk
  unfold fw_X11_then
  omega
theorem nw_X11_then_82 {x : mm_X} (hx : mk_x x) {a1 a2 a3 : Int} : ¬ (fw_X11_then x a1 a2 a3) 82 1 := by
  have kx := kn_x hx
  unfold fw_X11_then
  omega
theorem nw_X11_then_83 {x : mm_X} (hx : mk_x x) {a1 a2 a3 : Int} : ∀ j : Nat, ¬ (fw_X11_then x a1 a2 a3) 83 j := by
  have kx := kn_x hx
  intro j
  unfold fw_X11_then
  omega
theorem nw_X11_then_0 {x : mm_X} (hx : mk_x x) {a1 a2 a3 : Int} : ¬ (fw_X11_then x a1 a2 a3) 0 0 := by
  have kx := kn_x hx
  unfold fw_X11_then
  omega
theorem nw_X11_blend_137 {x : mm_X} (hx : mk_x x) {a1 a2 a3 : Int} : ∀ k j : Nat, 137 ≤ k → ¬ (fw_X11_blend x a1 a2 a3) k j := by
  have kx := kn_x hx
  intro k j hk
  unfold fw_X11_blend
  omega
theorem nw_X11_blend_82 {x : mm_X} (hx : mk_x x) {a1 a2 a3 : Int} : ¬ (fw_X11_blend x a1 a2 a3) 82 1 := by
  have kx := kn_x hx
  unfold fw_X11_blend
  omega
theorem nw_X11_blend_83 {x : mm_X} (hx : mk_x x) {a1 a2 a3 : Int} : ∀ j : Nat, ¬ (fw_X11_blend x a1 a2 a3) 83 j := by
  have kx := kn_x hx
  intro j
  unfold fw_X11_blend
  omega
theorem nw_X11_blend_0 {x : mm_X} (hx : mk_x x) {a1 a2 a3 : Int} : ¬ (fw_X11_blend x a1 a2 a3) 0 0 := by
  have kx := kn_x hx
  unfold fw_X11_blend
  omega
theorem nw_X11_later_137 {x : mm_X} (hx : mk_x x) {a1 a2 : Int} : ∀ k j : Nat, 137 ≤ k → ¬ (fw_X11_later x a1 a2) k j := by
  have kx := kn_x hx
  intro k j hk
  unfold fw_X11_later
  omega
theorem nw_X11_later_82 {x : mm_X} (hx : mk_x x) {a1 a2 : Int} : ¬ (fw_X11_later x a1 a2) 82 1 := by
  have kx := kn_x hx
  unfold fw_X11_later
  omega
theorem nw_X11_later_83 {x : mm_X} (hx : mk_x x) {a1 a2 : Int} : ∀ j : Nat, ¬ (fw_X11_later x a1 a2) 83 j := by
  have kx := kn_x hx
  intro j
  unfold fw_X11_later
  omega
theorem nw_X11_later_0 {x : mm_X} (hx : mk_x x) {a1 a2 : Int} : ¬ (fw_X11_later x a1 a2) 0 0 := by
  have kx := kn_x hx
  unfold fw_X11_later
  omega
theorem nw_X11_full_137 {x : mm_X} (hx : mk_x x) {a1 : Int} : ∀ k j : Nat, 137 ≤ k → ¬ (fw_X11_full x a1) k j := by
  have kx := kn_x hx
  intro k j hk
  unfold fw_X11_full
  omega
theorem nw_X11_full_82 {x : mm_X} (hx : mk_x x) {a1 : Int} : ¬ (fw_X11_full x a1) 82 1 := by
  have kx := kn_x hx
  unfold fw_X11_full
  omega
theorem nw_X11_full_83 {x : mm_X} (hx : mk_x x) {a1 : Int} : ∀ j : Nat, ¬ (fw_X11_full x a1) 83 j := by
  have kx := kn_x hx
  intro j
  unfold fw_X11_full
  omega
theorem nw_X11_full_0 {x : mm_X} (hx : mk_x x) {a1 : Int} : ¬ (fw_X11_full x a1) 0 0 := by
  have kx := kn_x hx
  unfold fw_X11_full
  omega
theorem nw_X11_read_137 {x : mm_X} (hx : mk_x x) {a1 a2 : Int} : ∀ k j : Nat, 137 ≤ k → ¬ (fw_X11_read x a1 a2) k j := by
  have kx := kn_x hx
  intro k j hk
  unfold fw_X11_read
  omega
theorem nw_X11_read_82 {x : mm_X} (hx : mk_x x) {a1 a2 : Int} : ¬ (fw_X11_read x a1 a2) 82 1 := by
  have kx := kn_x hx
  unfold fw_X11_read
  omega
theorem nw_X11_read_83 {x : mm_X} (hx : mk_x x) {a1 a2 : Int} : ∀ j : Nat, ¬ (fw_X11_read x a1 a2) 83 j := by
  have kx := kn_x hx
  intro j
  unfold fw_X11_read
  omega
theorem nw_X11_read_0 {x : mm_X} (hx : mk_x x) {a1 a2 : Int} : ¬ (fw_X11_read x a1 a2) 0 0 := by
  have kx := kn_x hx
  unfold fw_X11_read
  omega
theorem nw_X11_alike_137 {x : mm_X} (hx : mk_x x) {a1 a2 : Int} : ∀ k j : Nat, 137 ≤ k → ¬ (fw_X11_alike x a1 a2) k j := by
  have kx := kn_x hx
  intro k j hk
  unfold fw_X11_alike
  omega
theorem nw_X11_alike_82 {x : mm_X} (hx : mk_x x) {a1 a2 : Int} : ¬ (fw_X11_alike x a1 a2) 82 1 := by
  have kx := kn_x hx
  unfold fw_X11_alike
  omega
theorem nw_X11_alike_83 {x : mm_X} (hx : mk_x x) {a1 a2 : Int} : ∀ j : Nat, ¬ (fw_X11_alike x a1 a2) 83 j := by
  have kx := kn_x hx
  intro j
  unfold fw_X11_alike
  omega
theorem nw_X11_alike_0 {x : mm_X} (hx : mk_x x) {a1 a2 : Int} : ¬ (fw_X11_alike x a1 a2) 0 0 := by
  have kx := kn_x hx
  unfold fw_X11_alike
  omega
theorem nw_X11_both_137 {x : mm_X} (hx : mk_x x) {a1 a2 a3 : Int} : ∀ k j : Nat, 137 ≤ k → ¬ (fw_X11_both x a1 a2 a3) k j := by
  have kx := kn_x hx
  intro k j hk
  unfold fw_X11_both
  omega
theorem nw_X11_both_82 {x : mm_X} (hx : mk_x x) {a1 a2 a3 : Int} : ¬ (fw_X11_both x a1 a2 a3) 82 1 := by
  have kx := kn_x hx
  unfold fw_X11_both
  omega
theorem nw_X11_both_83 {x : mm_X} (hx : mk_x x) {a1 a2 a3 : Int} : ∀ j : Nat, ¬ (fw_X11_both x a1 a2 a3) 83 j := by
  have kx := kn_x hx
  intro j
  unfold fw_X11_both
  omega
theorem nw_X11_both_0 {x : mm_X} (hx : mk_x x) {a1 a2 a3 : Int} : ¬ (fw_X11_both x a1 a2 a3) 0 0 := by
  have kx := kn_x hx
  unfold fw_X11_both
  omega
theorem nw_X11_toDraw_137 {x : mm_X} (hx : mk_x x) {a1 a2 : Int} : ∀ k j : Nat, 137 ≤ k → ¬ (fw_X11_toDraw x a1 a2) k j := by
  have kx := kn_x hx
  intro k j hk
  unfold fw_X11_toDraw
  omega
theorem nw_X11_toDraw_82 {x : mm_X} (hx : mk_x x) {a1 a2 : Int} : ¬ (fw_X11_toDraw x a1 a2) 82 1 := by
  have kx := kn_x hx
  unfold fw_X11_toDraw
  omega
theorem nw_X11_toDraw_83 {x : mm_X} (hx : mk_x x) {a1 a2 : Int} : ∀ j : Nat, ¬ (fw_X11_toDraw x a1 a2) 83 j := by
  have kx := kn_x hx
  intro j
  unfold fw_X11_toDraw
  omega
theorem nw_X11_toDraw_0 {x : mm_X} (hx : mk_x x) {a1 a2 : Int} : ¬ (fw_X11_toDraw x a1 a2) 0 0 := by
  have kx := kn_x hx
  unfold fw_X11_toDraw
  omega
theorem nw_X11_see_137 {x : mm_X} (hx : mk_x x) {a1 a2 a3 : Int} : ∀ k j : Nat, 137 ≤ k → ¬ (fw_X11_see x a1 a2 a3) k j := by
  have kx := kn_x hx
  intro k j hk
  unfold fw_X11_see
  omega
theorem nw_X11_see_82 {x : mm_X} (hx : mk_x x) {a1 a2 a3 : Int} : ¬ (fw_X11_see x a1 a2 a3) 82 1 := by
  have kx := kn_x hx
  unfold fw_X11_see
  omega
theorem nw_X11_see_83 {x : mm_X} (hx : mk_x x) {a1 a2 a3 : Int} : ∀ j : Nat, ¬ (fw_X11_see x a1 a2 a3) 83 j := by
  have kx := kn_x hx
  intro j
  unfold fw_X11_see
  omega
theorem nw_X11_see_0 {x : mm_X} (hx : mk_x x) {a1 a2 a3 : Int} : ¬ (fw_X11_see x a1 a2 a3) 0 0 := by
  have kx := kn_x hx
  unfold fw_X11_see
  omega
theorem nw_X11_loose_137 {x : mm_X} (hx : mk_x x) {a1 : Int} : ∀ k j : Nat, 137 ≤ k → ¬ (fw_X11_loose x a1) k j := by
  have kx := kn_x hx
  intro k j hk
  unfold fw_X11_loose
  omega
theorem nw_X11_loose_82 {x : mm_X} (hx : mk_x x) {a1 : Int} : ¬ (fw_X11_loose x a1) 82 1 := by
  have kx := kn_x hx
  unfold fw_X11_loose
  omega
theorem nw_X11_loose_83 {x : mm_X} (hx : mk_x x) {a1 : Int} : ∀ j : Nat, ¬ (fw_X11_loose x a1) 83 j := by
  have kx := kn_x hx
  intro j
  unfold fw_X11_loose
  omega
theorem nw_X11_loose_0 {x : mm_X} (hx : mk_x x) {a1 : Int} : ¬ (fw_X11_loose x a1) 0 0 := by
  have kx := kn_x hx
  unfold fw_X11_loose
  omega
theorem nw_X11_look_137 {x : mm_X} (hx : mk_x x) {a1 : Int} : ∀ k j : Nat, 137 ≤ k → ¬ (fw_X11_look x a1) k j := by
  have kx := kn_x hx
  intro k j hk
  unfold fw_X11_look
  omega
theorem nw_X11_look_82 {x : mm_X} (hx : mk_x x) {a1 : Int} : ¬ (fw_X11_look x a1) 82 1 := by
  have kx := kn_x hx
  unfold fw_X11_look
  omega
theorem nw_X11_look_83 {x : mm_X} (hx : mk_x x) {a1 : Int} : ∀ j : Nat, ¬ (fw_X11_look x a1) 83 j := by
  have kx := kn_x hx
  intro j
  unfold fw_X11_look
  omega
theorem nw_X11_look_0 {x : mm_X} (hx : mk_x x) {a1 : Int} : ¬ (fw_X11_look x a1) 0 0 := by
  have kx := kn_x hx
  unfold fw_X11_look
  omega
theorem nw_X11_seasons_137 {x : mm_X} (hx : mk_x x) {a1 a2 a3 : Int} : ∀ k j : Nat, 137 ≤ k → ¬ (fw_X11_seasons x a1 a2 a3) k j := by
  have kx := kn_x hx
  intro k j hk
  unfold fw_X11_seasons
  omega
theorem nw_X11_seasons_82 {x : mm_X} (hx : mk_x x) {a1 a2 a3 : Int} : ¬ (fw_X11_seasons x a1 a2 a3) 82 1 := by
  have kx := kn_x hx
  unfold fw_X11_seasons
  omega
theorem nw_X11_seasons_83 {x : mm_X} (hx : mk_x x) {a1 a2 a3 : Int} : ∀ j : Nat, ¬ (fw_X11_seasons x a1 a2 a3) 83 j := by
  have kx := kn_x hx
  intro j
  unfold fw_X11_seasons
  omega
theorem nw_X11_seasons_0 {x : mm_X} (hx : mk_x x) {a1 a2 a3 : Int} : ¬ (fw_X11_seasons x a1 a2 a3) 0 0 := by
  have kx := kn_x hx
  unfold fw_X11_seasons
  omega
theorem nw_X11_game_137 {x : mm_X} (hx : mk_x x) {a1 a2 a3 : Int} : ∀ k j : Nat, 137 ≤ k → ¬ (fw_X11_game x a1 a2 a3) k j := by
  have kx := kn_x hx
  intro k j hk
  unfold fw_X11_game
  omega
theorem nw_X11_game_82 {x : mm_X} (hx : mk_x x) {a1 a2 a3 : Int} : ¬ (fw_X11_game x a1 a2 a3) 82 1 := by
  have kx := kn_x hx
  unfold fw_X11_game
  omega
theorem nw_X11_game_83 {x : mm_X} (hx : mk_x x) {a1 a2 a3 : Int} : ∀ j : Nat, ¬ (fw_X11_game x a1 a2 a3) 83 j := by
  have kx := kn_x hx
  intro j
  unfold fw_X11_game
  omega
theorem nw_X11_game_0 {x : mm_X} (hx : mk_x x) {a1 a2 a3 : Int} : ¬ (fw_X11_game x a1 a2 a3) 0 0 := by
  have kx := kn_x hx
  unfold fw_X11_game
  omega
theorem nw_X11_years_137 {x : mm_X} (hx : mk_x x) {a1 a2 a3 : Int} : ∀ k j : Nat, 137 ≤ k → ¬ (fw_X11_years x a1 a2 a3) k j := by
  have kx := kn_x hx
  intro k j hk
  unfold fw_X11_years
  omega
theorem nw_X11_years_82 {x : mm_X} (hx : mk_x x) {a1 a2 a3 : Int} : ¬ (fw_X11_years x a1 a2 a3) 82 1 := by
  have kx := kn_x hx
  unfold fw_X11_years
  omega
theorem nw_X11_years_83 {x : mm_X} (hx : mk_x x) {a1 a2 a3 : Int} : ∀ j : Nat, ¬ (fw_X11_years x a1 a2 a3) 83 j := by
  have kx := kn_x hx
  intro j
  unfold fw_X11_years
  omega
theorem nw_X11_years_0 {x : mm_X} (hx : mk_x x) {a1 a2 a3 : Int} : ¬ (fw_X11_years x a1 a2 a3) 0 0 := by
  have kx := kn_x hx
  unfold fw_X11_years
  omega
theorem nw_X11_feed_137 {x : mm_X} (hx : mk_x x) {a1 a2 a3 a4 a5 : Int} : ∀ k j : Nat, 137 ≤ k → ¬ (fw_X11_feed x a1 a2 a3 a4 a5) k j := by
  have kx := kn_x hx
  intro k j hk
  unfold fw_X11_feed
  omega
theorem nw_X12_feed_82 {x : mm_X} (hx : mk_x x) {a1 a2 a3 a4 a5 : Int} : ¬ (fw_X12_feed x a1 a2 a3 a4 a5) 82 1 := by
  have kx := kn_x hx
  unfold fw_X12_feed
  omega
theorem nw_X12_feed_83 {x : mm_X} (hx : mk_x x) {a1 a2 a3 a4 a5 : Int} : ∀ j : Nat, ¬ (fw_X12_feed x a1 a2 a3 a4 a5) 83 j := by
  have kx := kn_x hx
  intro j
  unfold fw_X12_feed
  omega
theorem nw_X12_feed_0 {x : mm_X} (hx : mk_x x) {a1 a2 a3 a4 a5 : Int} : ¬ (fw_X12_feed x a1 a2 a3 a4 a5) 0 0 := by
  have kx := kn_x hx
  unfold fw_X12_feed
  omega
theorem nw_X12_feed_24 {x : mm_X} (hx : mk_x x) {a1 a2 a3 a4 a5 : Int} : ¬ (fw_X12_feed x a1 a2 a3 a4 a5) 137 24 := by
  have kx := kn_x hx
  unfold fw_X12_feed
  omega
theorem nw_X12_feed_2000 {x : mm_X} (hx : mk_x x) {a1 a2 a3 a4 a5 : Int} : ∀ k j : Nat, 2000 ≤ k → ¬ (fw_X12_feed x a1 a2 a3 a4 a5) k j := by
  have kx := kn_x hx
  intro k j hk
  unfold fw_X12_feed
  omega
theorem nw_X12_feed_149 {x : mm_X} (hx : mk_x x) {a1 a2 a3 a4 a5 : Int} : ∀ j : Nat, ¬ (fw_X12_feed x a1 a2 a3 a4 a5) 149 j := by
  have kx := kn_x hx
  intro j
  unfold fw_X12_feed
  omega
theorem nw_X12_feed_142 {x : mm_X} (hx : mk_x x) {a1 a2 a3 a4 a5 : Int} : ∀ j : Nat, ¬ (fw_X12_feed x a1 a2 a3 a4 a5) 142 j := by
  have kx := kn_x hx
  intro j
  unfold fw_X12_feed
  omega
theorem nw_X12_feed_140 {x : mm_X} (hx : mk_x x) {a1 a2 a3 a4 a5 : Int} : ∀ j : Nat, j < 4 → ¬ (fw_X12_feed x a1 a2 a3 a4 a5) 140 j := by
  have kx := kn_x hx
  intro j hj
  unfold fw_X12_feed
  omega
theorem nw_X11_feed_0 {x : mm_X} (hx : mk_x x) {a1 a2 a3 a4 a5 : Int} : ¬ (fw_X11_feed x a1 a2 a3 a4 a5) 0 0 := by
  have kx := kn_x hx
  unfold fw_X11_feed
  omega
theorem nw_X12_baggage_82 {x : mm_X} (hx : mk_x x) {a1 : Int} : ¬ (fw_X12_baggage x a1) 82 1 := by
  have kx := kn_x hx
  unfold fw_X12_baggage
  omega
theorem nw_X12_baggage_83 {x : mm_X} (hx : mk_x x) {a1 : Int} : ∀ j : Nat, ¬ (fw_X12_baggage x a1) 83 j := by
  have kx := kn_x hx
  intro j
  unfold fw_X12_baggage
  omega
theorem nw_X12_baggage_0 {x : mm_X} (hx : mk_x x) {a1 : Int} : ¬ (fw_X12_baggage x a1) 0 0 := by
  have kx := kn_x hx
  unfold fw_X12_baggage
  omega
theorem nw_X12_baggage_151 {x : mm_X} (hx : mk_x x) {a1 : Int} : ∀ j : Nat, ¬ (fw_X12_baggage x a1) 151 j := by
  have kx := kn_x hx
  intro j
  unfold fw_X12_baggage
  omega
theorem nw_X12_baggage_2000 {x : mm_X} (hx : mk_x x) {a1 : Int} : ∀ k j : Nat, 2000 ≤ k → ¬ (fw_X12_baggage x a1) k j := by
  have kx := kn_x hx
  intro k j hk
  unfold fw_X12_baggage
  omega
theorem nw_X12_fault_82 {x : mm_X} (hx : mk_x x) : ¬ (fw_X12_fault x) 82 1 := by
  have kx := kn_x hx
  unfold fw_X12_fault
  omega
theorem nw_X12_fault_83 {x : mm_X} (hx : mk_x x) : ∀ j : Nat, ¬ (fw_X12_fault x) 83 j := by
  have kx := kn_x hx
  intro j
  unfold fw_X12_fault
  omega
theorem nw_X12_fault_0 {x : mm_X} (hx : mk_x x) : ¬ (fw_X12_fault x) 0 0 := by
  have kx := kn_x hx
  unfold fw_X12_fault
  omega
theorem nw_X12_fault_151 {x : mm_X} (hx : mk_x x) : ∀ j : Nat, ¬ (fw_X12_fault x) 151 j := by
  have kx := kn_x hx
  intro j
  unfold fw_X12_fault
  omega
theorem nw_X12_fault_24 {x : mm_X} (hx : mk_x x) : ¬ (fw_X12_fault x) 137 24 := by
  have kx := kn_x hx
  unfold fw_X12_fault
  omega
theorem nw_X12_fault_2000 {x : mm_X} (hx : mk_x x) : ∀ k j : Nat, 2000 ≤ k → ¬ (fw_X12_fault x) k j := by
  have kx := kn_x hx
  intro k j hk
  unfold fw_X12_fault
  omega
theorem nw_X12_fault_15 {x : mm_X} (hx : mk_x x) : ¬ (fw_X12_fault x) 137 15 := by
  have kx := kn_x hx
  unfold fw_X12_fault
  omega
theorem nw_X12_fault_149 {x : mm_X} (hx : mk_x x) : ∀ j : Nat, ¬ (fw_X12_fault x) 149 j := by
  have kx := kn_x hx
  intro j
  unfold fw_X12_fault
  omega
theorem nw_X12_fault_142 {x : mm_X} (hx : mk_x x) : ∀ j : Nat, ¬ (fw_X12_fault x) 142 j := by
  have kx := kn_x hx
  intro j
  unfold fw_X12_fault
  omega
theorem nw_X12_fault_140 {x : mm_X} (hx : mk_x x) : ∀ j : Nat, j < 4 → ¬ (fw_X12_fault x) 140 j := by
  have kx := kn_x hx
  intro j hj
  unfold fw_X12_fault
  omega
theorem nw_X12_count_82 {x : mm_X} (hx : mk_x x) {a1 : Int} : ¬ (fw_X12_count x a1) 82 1 := by
  have kx := kn_x hx
  unfold fw_X12_count
  omega
theorem nw_X12_count_83 {x : mm_X} (hx : mk_x x) {a1 : Int} : ∀ j : Nat, ¬ (fw_X12_count x a1) 83 j := by
  have kx := kn_x hx
  intro j
  unfold fw_X12_count
  omega
theorem nw_X12_count_0 {x : mm_X} (hx : mk_x x) {a1 : Int} : ¬ (fw_X12_count x a1) 0 0 := by
  have kx := kn_x hx
  unfold fw_X12_count
  omega
theorem nw_X12_count_151 {x : mm_X} (hx : mk_x x) {a1 : Int} : ∀ j : Nat, ¬ (fw_X12_count x a1) 151 j := by
  have kx := kn_x hx
  intro j
  unfold fw_X12_count
  omega
theorem nw_X12_count_24 {x : mm_X} (hx : mk_x x) {a1 : Int} : ¬ (fw_X12_count x a1) 137 24 := by
  have kx := kn_x hx
  unfold fw_X12_count
  omega
theorem nw_X12_count_2000 {x : mm_X} (hx : mk_x x) {a1 : Int} : ∀ k j : Nat, 2000 ≤ k → ¬ (fw_X12_count x a1) k j := by
  have kx := kn_x hx
  intro k j hk
  unfold fw_X12_count
  omega
theorem nw_X12_count_15 {x : mm_X} (hx : mk_x x) {a1 : Int} : ¬ (fw_X12_count x a1) 137 15 := by
  have kx := kn_x hx
  unfold fw_X12_count
  omega
theorem nw_X12_count_149 {x : mm_X} (hx : mk_x x) {a1 : Int} : ∀ j : Nat, ¬ (fw_X12_count x a1) 149 j := by
  have kx := kn_x hx
  intro j
  unfold fw_X12_count
  omega
theorem nw_X12_count_142 {x : mm_X} (hx : mk_x x) {a1 : Int} : ∀ j : Nat, ¬ (fw_X12_count x a1) 142 j := by
  have kx := kn_x hx
  intro j
  unfold fw_X12_count
  omega
theorem nw_X12_count_140 {x : mm_X} (hx : mk_x x) {a1 : Int} : ∀ j : Nat, j < 4 → ¬ (fw_X12_count x a1) 140 j := by
  have kx := kn_x hx
  intro j hj
  unfold fw_X12_count
  omega
theorem nw_X12_word_82 {x : mm_X} (hx : mk_x x) {a1 a2 : Int} : ¬ (fw_X12_word x a1 a2) 82 1 := by
  have kx := kn_x hx
  unfold fw_X12_word
  omega
theorem nw_X12_word_83 {x : mm_X} (hx : mk_x x) {a1 a2 : Int} : ∀ j : Nat, ¬ (fw_X12_word x a1 a2) 83 j := by
  have kx := kn_x hx
  intro j
  unfold fw_X12_word
  omega
theorem nw_X12_word_0 {x : mm_X} (hx : mk_x x) {a1 a2 : Int} : ¬ (fw_X12_word x a1 a2) 0 0 := by
  have kx := kn_x hx
  unfold fw_X12_word
  omega
theorem nw_X12_word_151 {x : mm_X} (hx : mk_x x) {a1 a2 : Int} : ∀ j : Nat, ¬ (fw_X12_word x a1 a2) 151 j := by
  have kx := kn_x hx
  intro j
  unfold fw_X12_word
  omega
theorem nw_X12_word_24 {x : mm_X} (hx : mk_x x) {a1 a2 : Int} : ¬ (fw_X12_word x a1 a2) 137 24 := by
  have kx := kn_x hx
  unfold fw_X12_word
  omega
theorem nw_X12_word_2000 {x : mm_X} (hx : mk_x x) {a1 a2 : Int} : ∀ k j : Nat, 2000 ≤ k → ¬ (fw_X12_word x a1 a2) k j := by
  have kx := kn_x hx
  intro k j hk
  unfold fw_X12_word
  omega
theorem nw_X12_word_15 {x : mm_X} (hx : mk_x x) {a1 a2 : Int} : ¬ (fw_X12_word x a1 a2) 137 15 := by
  have kx := kn_x hx
  unfold fw_X12_word
  omega
theorem nw_X12_word_149 {x : mm_X} (hx : mk_x x) {a1 a2 : Int} : ∀ j : Nat, ¬ (fw_X12_word x a1 a2) 149 j := by
  have kx := kn_x hx
  intro j
  unfold fw_X12_word
  omega
theorem nw_X12_word_142 {x : mm_X} (hx : mk_x x) {a1 a2 : Int} : ∀ j : Nat, ¬ (fw_X12_word x a1 a2) 142 j := by
  have kx := kn_x hx
  intro j
  unfold fw_X12_word
  omega
theorem nw_X12_word_140 {x : mm_X} (hx : mk_x x) {a1 a2 : Int} : ∀ j : Nat, j < 4 → ¬ (fw_X12_word x a1 a2) 140 j := by
  have kx := kn_x hx
  intro j hj
  unfold fw_X12_word
  omega
theorem nw_X12_letter_82 {x : mm_X} (hx : mk_x x) {a1 a2 : Int} : ¬ (fw_X12_letter x a1 a2) 82 1 := by
  have kx := kn_x hx
  unfold fw_X12_letter
  omega
theorem nw_X12_letter_83 {x : mm_X} (hx : mk_x x) {a1 a2 : Int} : ∀ j : Nat, ¬ (fw_X12_letter x a1 a2) 83 j := by
  have kx := kn_x hx
  intro j
  unfold fw_X12_letter
  omega
theorem nw_X12_letter_0 {x : mm_X} (hx : mk_x x) {a1 a2 : Int} : ¬ (fw_X12_letter x a1 a2) 0 0 := by
  have kx := kn_x hx
  unfold fw_X12_letter
  omega
theorem nw_X12_letter_151 {x : mm_X} (hx : mk_x x) {a1 a2 : Int} : ∀ j : Nat, ¬ (fw_X12_letter x a1 a2) 151 j := by
  have kx := kn_x hx
  intro j
  unfold fw_X12_letter
  omega
theorem nw_X12_letter_24 {x : mm_X} (hx : mk_x x) {a1 a2 : Int} : ¬ (fw_X12_letter x a1 a2) 137 24 := by
  have kx := kn_x hx
  unfold fw_X12_letter
  omega
theorem nw_X12_letter_2000 {x : mm_X} (hx : mk_x x) {a1 a2 : Int} : ∀ k j : Nat, 2000 ≤ k → ¬ (fw_X12_letter x a1 a2) k j := by
  have kx := kn_x hx
  intro k j hk
  unfold fw_X12_letter
  omega
theorem nw_X12_letter_15 {x : mm_X} (hx : mk_x x) {a1 a2 : Int} : ¬ (fw_X12_letter x a1 a2) 137 15 := by
  have kx := kn_x hx
  unfold fw_X12_letter
  omega
theorem nw_X12_letter_149 {x : mm_X} (hx : mk_x x) {a1 a2 : Int} : ∀ j : Nat, ¬ (fw_X12_letter x a1 a2) 149 j := by
  have kx := kn_x hx
  intro j
  unfold fw_X12_letter
  omega
theorem nw_X12_letter_142 {x : mm_X} (hx : mk_x x) {a1 a2 : Int} : ∀ j : Nat, ¬ (fw_X12_letter x a1 a2) 142 j := by
  have kx := kn_x hx
  intro j
  unfold fw_X12_letter
  omega
theorem nw_X12_letter_140 {x : mm_X} (hx : mk_x x) {a1 a2 : Int} : ∀ j : Nat, j < 4 → ¬ (fw_X12_letter x a1 a2) 140 j := by
  have kx := kn_x hx
  intro j hj
  unfold fw_X12_letter
  omega
theorem nw_X12_trunk_82 {x : mm_X} (hx : mk_x x) {a1 a2 : Int} : ¬ (fw_X12_trunk x a1 a2) 82 1 := by
  have kx := kn_x hx
  unfold fw_X12_trunk
  omega
theorem nw_X12_trunk_83 {x : mm_X} (hx : mk_x x) {a1 a2 : Int} : ∀ j : Nat, ¬ (fw_X12_trunk x a1 a2) 83 j := by
  have kx := kn_x hx
  intro j
  unfold fw_X12_trunk
  omega
theorem nw_X12_trunk_0 {x : mm_X} (hx : mk_x x) {a1 a2 : Int} : ¬ (fw_X12_trunk x a1 a2) 0 0 := by
  have kx := kn_x hx
  unfold fw_X12_trunk
  omega
theorem nw_X12_trunk_151 {x : mm_X} (hx : mk_x x) {a1 a2 : Int} : ∀ j : Nat, ¬ (fw_X12_trunk x a1 a2) 151 j := by
  have kx := kn_x hx
  intro j
  unfold fw_X12_trunk
  omega
theorem nw_X12_trunk_24 {x : mm_X} (hx : mk_x x) {a1 a2 : Int} : ¬ (fw_X12_trunk x a1 a2) 137 24 := by
  have kx := kn_x hx
  unfold fw_X12_trunk
  omega
theorem nw_X12_trunk_2000 {x : mm_X} (hx : mk_x x) {a1 a2 : Int} : ∀ k j : Nat, 2000 ≤ k → ¬ (fw_X12_trunk x a1 a2) k j := by
  have kx := kn_x hx
  intro k j hk
  unfold fw_X12_trunk
  omega
theorem nw_X12_trunk_15 {x : mm_X} (hx : mk_x x) {a1 a2 : Int} : ¬ (fw_X12_trunk x a1 a2) 137 15 := by
  have kx := kn_x hx
  unfold fw_X12_trunk
  omega
theorem nw_X12_trunk_149 {x : mm_X} (hx : mk_x x) {a1 a2 : Int} : ∀ j : Nat, ¬ (fw_X12_trunk x a1 a2) 149 j := by
  have kx := kn_x hx
  intro j
  unfold fw_X12_trunk
  omega
theorem nw_X12_trunk_142 {x : mm_X} (hx : mk_x x) {a1 a2 : Int} : ∀ j : Nat, ¬ (fw_X12_trunk x a1 a2) 142 j := by
  have kx := kn_x hx
  intro j
  unfold fw_X12_trunk
  omega
theorem nw_X12_trunk_140 {x : mm_X} (hx : mk_x x) {a1 a2 : Int} : ∀ j : Nat, j < 4 → ¬ (fw_X12_trunk x a1 a2) 140 j := by
  have kx := kn_x hx
  intro j hj
  unfold fw_X12_trunk
  omega
theorem nw_X11_days_137 {x : mm_X} (hx : mk_x x) {a1 : Int} : ∀ k j : Nat, 137 ≤ k → ¬ (fw_X11_days x a1) k j := by
  have kx := kn_x hx
  intro k j hk
  unfold fw_X11_days
  omega
theorem nw_X11_days_82 {x : mm_X} (hx : mk_x x) {a1 : Int} : ¬ (fw_X11_days x a1) 82 1 := by
  have kx := kn_x hx
  unfold fw_X11_days
  omega
theorem nw_X11_days_83 {x : mm_X} (hx : mk_x x) {a1 : Int} : ∀ j : Nat, ¬ (fw_X11_days x a1) 83 j := by
  have kx := kn_x hx
  intro j
  unfold fw_X11_days
  omega
theorem nw_X11_days_0 {x : mm_X} (hx : mk_x x) {a1 : Int} : ¬ (fw_X11_days x a1) 0 0 := by
  have kx := kn_x hx
  unfold fw_X11_days
  omega
theorem nw_X12_days_82 {x : mm_X} (hx : mk_x x) {a1 : Int} : ¬ (fw_X12_days x a1) 82 1 := by
  have kx := kn_x hx
  unfold fw_X12_days
  omega
theorem nw_X12_days_83 {x : mm_X} (hx : mk_x x) {a1 : Int} : ∀ j : Nat, ¬ (fw_X12_days x a1) 83 j := by
  have kx := kn_x hx
  intro j
  unfold fw_X12_days
  omega
theorem nw_X12_days_0 {x : mm_X} (hx : mk_x x) {a1 : Int} : ¬ (fw_X12_days x a1) 0 0 := by
  have kx := kn_x hx
  unfold fw_X12_days
  omega
theorem nw_X12_days_151 {x : mm_X} (hx : mk_x x) {a1 : Int} : ∀ j : Nat, ¬ (fw_X12_days x a1) 151 j := by
  have kx := kn_x hx
  intro j
  unfold fw_X12_days
  omega
theorem nw_X12_days_24 {x : mm_X} (hx : mk_x x) {a1 : Int} : ¬ (fw_X12_days x a1) 137 24 := by
  have kx := kn_x hx
  unfold fw_X12_days
  omega
theorem nw_X12_days_2000 {x : mm_X} (hx : mk_x x) {a1 : Int} : ∀ k j : Nat, 2000 ≤ k → ¬ (fw_X12_days x a1) k j := by
  have kx := kn_x hx
  intro k j hk
  unfold fw_X12_days
  omega
theorem nw_X12_days_15 {x : mm_X} (hx : mk_x x) {a1 : Int} : ¬ (fw_X12_days x a1) 137 15 := by
  have kx := kn_x hx
  unfold fw_X12_days
  omega
theorem nw_X12_days_149 {x : mm_X} (hx : mk_x x) {a1 : Int} : ∀ j : Nat, ¬ (fw_X12_days x a1) 149 j := by
  have kx := kn_x hx
  intro j
  unfold fw_X12_days
  omega
theorem nw_X12_days_142 {x : mm_X} (hx : mk_x x) {a1 : Int} : ∀ j : Nat, ¬ (fw_X12_days x a1) 142 j := by
  have kx := kn_x hx
  intro j
  unfold fw_X12_days
  omega
theorem nw_X12_days_140 {x : mm_X} (hx : mk_x x) {a1 : Int} : ∀ j : Nat, j < 4 → ¬ (fw_X12_days x a1) 140 j := by
  have kx := kn_x hx
  intro j hj
  unfold fw_X12_days
  omega
theorem nw_X12_draw_82 {x : mm_X} (hx : mk_x x) {a1 a2 : Int} : ¬ (fw_X12_draw x a1 a2) 82 1 := by
  have kx := kn_x hx
  unfold fw_X12_draw
  omega
theorem nw_X12_draw_83 {x : mm_X} (hx : mk_x x) {a1 a2 : Int} : ∀ j : Nat, ¬ (fw_X12_draw x a1 a2) 83 j := by
  have kx := kn_x hx
  intro j
  unfold fw_X12_draw
  omega
theorem nw_X12_draw_0 {x : mm_X} (hx : mk_x x) {a1 a2 : Int} : ¬ (fw_X12_draw x a1 a2) 0 0 := by
  have kx := kn_x hx
  unfold fw_X12_draw
  omega
theorem nw_X12_draw_151 {x : mm_X} (hx : mk_x x) {a1 a2 : Int} : ∀ j : Nat, ¬ (fw_X12_draw x a1 a2) 151 j := by
  have kx := kn_x hx
  intro j
  unfold fw_X12_draw
  omega
theorem nw_X12_draw_24 {x : mm_X} (hx : mk_x x) {a1 a2 : Int} : ¬ (fw_X12_draw x a1 a2) 137 24 := by
  have kx := kn_x hx
  unfold fw_X12_draw
  omega
theorem nw_X12_draw_2000 {x : mm_X} (hx : mk_x x) {a1 a2 : Int} : ∀ k j : Nat, 2000 ≤ k → ¬ (fw_X12_draw x a1 a2) k j := by
  have kx := kn_x hx
  intro k j hk
  unfold fw_X12_draw
  omega
theorem nw_X12_draw_15 {x : mm_X} (hx : mk_x x) {a1 a2 : Int} : ¬ (fw_X12_draw x a1 a2) 137 15 := by
  have kx := kn_x hx
  unfold fw_X12_draw
  omega
theorem nw_X12_draw_149 {x : mm_X} (hx : mk_x x) {a1 a2 : Int} : ∀ j : Nat, ¬ (fw_X12_draw x a1 a2) 149 j := by
  have kx := kn_x hx
  intro j
  unfold fw_X12_draw
  omega
theorem nw_X12_draw_142 {x : mm_X} (hx : mk_x x) {a1 a2 : Int} : ∀ j : Nat, ¬ (fw_X12_draw x a1 a2) 142 j := by
  have kx := kn_x hx
  intro j
  unfold fw_X12_draw
  omega
theorem nw_X12_draw_140 {x : mm_X} (hx : mk_x x) {a1 a2 : Int} : ∀ j : Nat, j < 4 → ¬ (fw_X12_draw x a1 a2) 140 j := by
  have kx := kn_x hx
  intro j hj
  unfold fw_X12_draw
  omega
theorem nw_X12_pull_82 {x : mm_X} (hx : mk_x x) {a1 a2 : Int} : ¬ (fw_X12_pull x a1 a2) 82 1 := by
  have kx := kn_x hx
  unfold fw_X12_pull
  omega
theorem nw_X12_pull_83 {x : mm_X} (hx : mk_x x) {a1 a2 : Int} : ∀ j : Nat, ¬ (fw_X12_pull x a1 a2) 83 j := by
  have kx := kn_x hx
  intro j
  unfold fw_X12_pull
  omega
theorem nw_X12_pull_0 {x : mm_X} (hx : mk_x x) {a1 a2 : Int} : ¬ (fw_X12_pull x a1 a2) 0 0 := by
  have kx := kn_x hx
  unfold fw_X12_pull
  omega
theorem nw_X12_pull_151 {x : mm_X} (hx : mk_x x) {a1 a2 : Int} : ∀ j : Nat, ¬ (fw_X12_pull x a1 a2) 151 j := by
  have kx := kn_x hx
  intro j
  unfold fw_X12_pull
  omega
theorem nw_X12_pull_24 {x : mm_X} (hx : mk_x x) {a1 a2 : Int} : ¬ (fw_X12_pull x a1 a2) 137 24 := by
  have kx := kn_x hx
  unfold fw_X12_pull
  omega
theorem nw_X12_pull_2000 {x : mm_X} (hx : mk_x x) {a1 a2 : Int} : ∀ k j : Nat, 2000 ≤ k → ¬ (fw_X12_pull x a1 a2) k j := by
  have kx := kn_x hx
  intro k j hk
  unfold fw_X12_pull
  omega
theorem nw_X12_pull_15 {x : mm_X} (hx : mk_x x) {a1 a2 : Int} : ¬ (fw_X12_pull x a1 a2) 137 15 := by
  have kx := kn_x hx
  unfold fw_X12_pull
  omega
theorem nw_X12_pull_149 {x : mm_X} (hx : mk_x x) {a1 a2 : Int} : ∀ j : Nat, ¬ (fw_X12_pull x a1 a2) 149 j := by
  have kx := kn_x hx
  intro j
  unfold fw_X12_pull
  omega
theorem nw_X12_pull_142 {x : mm_X} (hx : mk_x x) {a1 a2 : Int} : ∀ j : Nat, ¬ (fw_X12_pull x a1 a2) 142 j := by
  have kx := kn_x hx
  intro j
  unfold fw_X12_pull
  omega
theorem nw_X12_pull_140 {x : mm_X} (hx : mk_x x) {a1 a2 : Int} : ∀ j : Nat, j < 4 → ¬ (fw_X12_pull x a1 a2) 140 j := by
  have kx := kn_x hx
  intro j hj
  unfold fw_X12_pull
  omega
theorem nw_X12_turn_82 {x : mm_X} (hx : mk_x x) {a1 : Int} : ¬ (fw_X12_turn x a1) 82 1 := by
  have kx := kn_x hx
  unfold fw_X12_turn
  omega
theorem nw_X12_turn_83 {x : mm_X} (hx : mk_x x) {a1 : Int} : ∀ j : Nat, ¬ (fw_X12_turn x a1) 83 j := by
  have kx := kn_x hx
  intro j
  unfold fw_X12_turn
  omega
theorem nw_X12_turn_0 {x : mm_X} (hx : mk_x x) {a1 : Int} : ¬ (fw_X12_turn x a1) 0 0 := by
  have kx := kn_x hx
  unfold fw_X12_turn
  omega
theorem nw_X12_turn_151 {x : mm_X} (hx : mk_x x) {a1 : Int} : ∀ j : Nat, ¬ (fw_X12_turn x a1) 151 j := by
  have kx := kn_x hx
  intro j
  unfold fw_X12_turn
  omega
theorem nw_X12_turn_24 {x : mm_X} (hx : mk_x x) {a1 : Int} : ¬ (fw_X12_turn x a1) 137 24 := by
  have kx := kn_x hx
  unfold fw_X12_turn
  omega
theorem nw_X12_turn_2000 {x : mm_X} (hx : mk_x x) {a1 : Int} : ∀ k j : Nat, 2000 ≤ k → ¬ (fw_X12_turn x a1) k j := by
  have kx := kn_x hx
  intro k j hk
  unfold fw_X12_turn
  omega
theorem nw_X12_turn_15 {x : mm_X} (hx : mk_x x) {a1 : Int} : ¬ (fw_X12_turn x a1) 137 15 := by
  have kx := kn_x hx
  unfold fw_X12_turn
  omega
theorem nw_X12_turn_149 {x : mm_X} (hx : mk_x x) {a1 : Int} : ∀ j : Nat, ¬ (fw_X12_turn x a1) 149 j := by
  have kx := kn_x hx
  intro j
  unfold fw_X12_turn
  omega
theorem nw_X12_turn_142 {x : mm_X} (hx : mk_x x) {a1 : Int} : ∀ j : Nat, ¬ (fw_X12_turn x a1) 142 j := by
  have kx := kn_x hx
  intro j
  unfold fw_X12_turn
  omega
theorem nw_X12_turn_140 {x : mm_X} (hx : mk_x x) {a1 : Int} : ∀ j : Nat, j < 4 → ¬ (fw_X12_turn x a1) 140 j := by
  have kx := kn_x hx
  intro j hj
  unfold fw_X12_turn
  omega
theorem nw_X12_pack_82 {x : mm_X} (hx : mk_x x) {a1 a2 a3 : Int} : ¬ (fw_X12_pack x a1 a2 a3) 82 1 := by
  have kx := kn_x hx
  unfold fw_X12_pack
  omega
theorem nw_X12_pack_83 {x : mm_X} (hx : mk_x x) {a1 a2 a3 : Int} : ∀ j : Nat, ¬ (fw_X12_pack x a1 a2 a3) 83 j := by
  have kx := kn_x hx
  intro j
  unfold fw_X12_pack
  omega
theorem nw_X12_pack_0 {x : mm_X} (hx : mk_x x) {a1 a2 a3 : Int} : ¬ (fw_X12_pack x a1 a2 a3) 0 0 := by
  have kx := kn_x hx
  unfold fw_X12_pack
  omega
theorem nw_X12_pack_151 {x : mm_X} (hx : mk_x x) {a1 a2 a3 : Int} : ∀ j : Nat, ¬ (fw_X12_pack x a1 a2 a3) 151 j := by
  have kx := kn_x hx
  intro j
  unfold fw_X12_pack
  omega
theorem nw_X12_pack_24 {x : mm_X} (hx : mk_x x) {a1 a2 a3 : Int} : ¬ (fw_X12_pack x a1 a2 a3) 137 24 := by
  have kx := kn_x hx
  unfold fw_X12_pack
  omega
theorem nw_X12_pack_2000 {x : mm_X} (hx : mk_x x) {a1 a2 a3 : Int} : ∀ k j : Nat, 2000 ≤ k → ¬ (fw_X12_pack x a1 a2 a3) k j := by
  have kx := kn_x hx
  intro k j hk
  unfold fw_X12_pack
  omega
theorem nw_X12_pack_15 {x : mm_X} (hx : mk_x x) {a1 a2 a3 : Int} : ¬ (fw_X12_pack x a1 a2 a3) 137 15 := by
  have kx := kn_x hx
  unfold fw_X12_pack
  omega
theorem nw_X12_pack_149 {x : mm_X} (hx : mk_x x) {a1 a2 a3 : Int} : ∀ j : Nat, ¬ (fw_X12_pack x a1 a2 a3) 149 j := by
  have kx := kn_x hx
  intro j
  unfold fw_X12_pack
  omega
theorem nw_X12_pack_142 {x : mm_X} (hx : mk_x x) {a1 a2 a3 : Int} : ∀ j : Nat, ¬ (fw_X12_pack x a1 a2 a3) 142 j := by
  have kx := kn_x hx
  intro j
  unfold fw_X12_pack
  omega
theorem nw_X12_pack_140 {x : mm_X} (hx : mk_x x) {a1 a2 a3 : Int} : ∀ j : Nat, j < 4 → ¬ (fw_X12_pack x a1 a2 a3) 140 j := by
  have kx := kn_x hx
  intro j hj
  unfold fw_X12_pack
  omega
theorem nw_X11_undo_137 {x : mm_X} (hx : mk_x x) : ∀ k j : Nat, 137 ≤ k → ¬ (fw_X11_undo x) k j := by
  have kx := kn_x hx
  intro k j hk
  unfold fw_X11_undo
  omega
theorem nw_X11_undo_82 {x : mm_X} (hx : mk_x x) : ¬ (fw_X11_undo x) 82 1 := by
  have kx := kn_x hx
  unfold fw_X11_undo
  omega
theorem nw_X11_undo_83 {x : mm_X} (hx : mk_x x) : ∀ j : Nat, ¬ (fw_X11_undo x) 83 j := by
  have kx := kn_x hx
  intro j
  unfold fw_X11_undo
  omega
theorem nw_X11_undo_0 {x : mm_X} (hx : mk_x x) : ¬ (fw_X11_undo x) 0 0 := by
  have kx := kn_x hx
  unfold fw_X11_undo
  omega
theorem nw_X12_undo_82 {x : mm_X} (hx : mk_x x) : ¬ (fw_X12_undo x) 82 1 := by
  have kx := kn_x hx
  unfold fw_X12_undo
  omega
theorem nw_X12_undo_83 {x : mm_X} (hx : mk_x x) : ∀ j : Nat, ¬ (fw_X12_undo x) 83 j := by
  have kx := kn_x hx
  intro j
  unfold fw_X12_undo
  omega
theorem nw_X12_undo_0 {x : mm_X} (hx : mk_x x) : ¬ (fw_X12_undo x) 0 0 := by
  have kx := kn_x hx
  unfold fw_X12_undo
  omega
theorem nw_X12_undo_151 {x : mm_X} (hx : mk_x x) : ∀ j : Nat, ¬ (fw_X12_undo x) 151 j := by
  have kx := kn_x hx
  intro j
  unfold fw_X12_undo
  omega
theorem nw_X12_undo_24 {x : mm_X} (hx : mk_x x) : ¬ (fw_X12_undo x) 137 24 := by
  have kx := kn_x hx
  unfold fw_X12_undo
  omega
theorem nw_X12_undo_2000 {x : mm_X} (hx : mk_x x) : ∀ k j : Nat, 2000 ≤ k → ¬ (fw_X12_undo x) k j := by
  have kx := kn_x hx
  intro k j hk
  unfold fw_X12_undo
  omega
theorem nw_X12_undo_15 {x : mm_X} (hx : mk_x x) : ¬ (fw_X12_undo x) 137 15 := by
  have kx := kn_x hx
  unfold fw_X12_undo
  omega
theorem nw_X12_undo_149 {x : mm_X} (hx : mk_x x) : ∀ j : Nat, ¬ (fw_X12_undo x) 149 j := by
  have kx := kn_x hx
  intro j
  unfold fw_X12_undo
  omega
theorem nw_X12_undo_142 {x : mm_X} (hx : mk_x x) : ∀ j : Nat, ¬ (fw_X12_undo x) 142 j := by
  have kx := kn_x hx
  intro j
  unfold fw_X12_undo
  omega
theorem nw_X12_undo_140 {x : mm_X} (hx : mk_x x) : ∀ j : Nat, j < 4 → ¬ (fw_X12_undo x) 140 j := by
  have kx := kn_x hx
  intro j hj
  unfold fw_X12_undo
  omega
theorem nw_X12_then_82 {x : mm_X} (hx : mk_x x) {a1 a2 a3 : Int} : ¬ (fw_X12_then x a1 a2 a3) 82 1 := by
  have kx := kn_x hx
  unfold fw_X12_then
  omega
theorem nw_X12_then_83 {x : mm_X} (hx : mk_x x) {a1 a2 a3 : Int} : ∀ j : Nat, ¬ (fw_X12_then x a1 a2 a3) 83 j := by
  have kx := kn_x hx
  intro j
  unfold fw_X12_then
  omega
theorem nw_X12_then_0 {x : mm_X} (hx : mk_x x) {a1 a2 a3 : Int} : ¬ (fw_X12_then x a1 a2 a3) 0 0 := by
  have kx := kn_x hx
  unfold fw_X12_then
  omega
theorem nw_X12_then_151 {x : mm_X} (hx : mk_x x) {a1 a2 a3 : Int} : ∀ j : Nat, ¬ (fw_X12_then x a1 a2 a3) 151 j := by
  have kx := kn_x hx
  intro j
  unfold fw_X12_then
  omega
theorem nw_X12_then_24 {x : mm_X} (hx : mk_x x) {a1 a2 a3 : Int} : ¬ (fw_X12_then x a1 a2 a3) 137 24 := by
  have kx := kn_x hx
  unfold fw_X12_then
  omega
theorem nw_X12_then_2000 {x : mm_X} (hx : mk_x x) {a1 a2 a3 : Int} : ∀ k j : Nat, 2000 ≤ k → ¬ (fw_X12_then x a1 a2 a3) k j := by
  have kx := kn_x hx
  intro k j hk
  unfold fw_X12_then
  omega
theorem nw_X12_then_15 {x : mm_X} (hx : mk_x x) {a1 a2 a3 : Int} : ¬ (fw_X12_then x a1 a2 a3) 137 15 := by
  have kx := kn_x hx
  unfold fw_X12_then
  omega
theorem nw_X12_then_149 {x : mm_X} (hx : mk_x x) {a1 a2 a3 : Int} : ∀ j : Nat, ¬ (fw_X12_then x a1 a2 a3) 149 j := by
  have kx := kn_x hx
  intro j
  unfold fw_X12_then
  omega
theorem nw_X12_then_142 {x : mm_X} (hx : mk_x x) {a1 a2 a3 : Int} : ∀ j : Nat, ¬ (fw_X12_then x a1 a2 a3) 142 j := by
  have kx := kn_x hx
  intro j
  unfold fw_X12_then
  omega
theorem nw_X12_then_140 {x : mm_X} (hx : mk_x x) {a1 a2 a3 : Int} : ∀ j : Nat, j < 4 → ¬ (fw_X12_then x a1 a2 a3) 140 j := by
  have kx := kn_x hx
  intro j hj
  unfold fw_X12_then
  omega
theorem nw_X12_blend_82 {x : mm_X} (hx : mk_x x) {a1 a2 a3 : Int} : ¬ (fw_X12_blend x a1 a2 a3) 82 1 := by
  have kx := kn_x hx
  unfold fw_X12_blend
  omega
theorem nw_X12_blend_83 {x : mm_X} (hx : mk_x x) {a1 a2 a3 : Int} : ∀ j : Nat, ¬ (fw_X12_blend x a1 a2 a3) 83 j := by
  have kx := kn_x hx
  intro j
  unfold fw_X12_blend
  omega
theorem nw_X12_blend_0 {x : mm_X} (hx : mk_x x) {a1 a2 a3 : Int} : ¬ (fw_X12_blend x a1 a2 a3) 0 0 := by
  have kx := kn_x hx
  unfold fw_X12_blend
  omega
theorem nw_X12_blend_151 {x : mm_X} (hx : mk_x x) {a1 a2 a3 : Int} : ∀ j : Nat, ¬ (fw_X12_blend x a1 a2 a3) 151 j := by
  have kx := kn_x hx
  intro j
  unfold fw_X12_blend
  omega
theorem nw_X12_blend_24 {x : mm_X} (hx : mk_x x) {a1 a2 a3 : Int} : ¬ (fw_X12_blend x a1 a2 a3) 137 24 := by
  have kx := kn_x hx
  unfold fw_X12_blend
  omega
theorem nw_X12_blend_2000 {x : mm_X} (hx : mk_x x) {a1 a2 a3 : Int} : ∀ k j : Nat, 2000 ≤ k → ¬ (fw_X12_blend x a1 a2 a3) k j := by
  have kx := kn_x hx
  intro k j hk
  unfold fw_X12_blend
  omega
theorem nw_X12_blend_15 {x : mm_X} (hx : mk_x x) {a1 a2 a3 : Int} : ¬ (fw_X12_blend x a1 a2 a3) 137 15 := by
  have kx := kn_x hx
  unfold fw_X12_blend
  omega
theorem nw_X12_blend_149 {x : mm_X} (hx : mk_x x) {a1 a2 a3 : Int} : ∀ j : Nat, ¬ (fw_X12_blend x a1 a2 a3) 149 j := by
  have kx := kn_x hx
  intro j
  unfold fw_X12_blend
  omega
theorem nw_X12_blend_142 {x : mm_X} (hx : mk_x x) {a1 a2 a3 : Int} : ∀ j : Nat, ¬ (fw_X12_blend x a1 a2 a3) 142 j := by
  have kx := kn_x hx
  intro j
  unfold fw_X12_blend
  omega
theorem nw_X12_blend_140 {x : mm_X} (hx : mk_x x) {a1 a2 a3 : Int} : ∀ j : Nat, j < 4 → ¬ (fw_X12_blend x a1 a2 a3) 140 j := by
  have kx := kn_x hx
  intro j hj
  unfold fw_X12_blend
  omega
theorem nw_X12_later_82 {x : mm_X} (hx : mk_x x) {a1 a2 : Int} : ¬ (fw_X12_later x a1 a2) 82 1 := by
  have kx := kn_x hx
  unfold fw_X12_later
  omega
theorem nw_X12_later_83 {x : mm_X} (hx : mk_x x) {a1 a2 : Int} : ∀ j : Nat, ¬ (fw_X12_later x a1 a2) 83 j := by
  have kx := kn_x hx
  intro j
  unfold fw_X12_later
  omega
theorem nw_X12_later_0 {x : mm_X} (hx : mk_x x) {a1 a2 : Int} : ¬ (fw_X12_later x a1 a2) 0 0 := by
  have kx := kn_x hx
  unfold fw_X12_later
  omega
theorem nw_X12_later_151 {x : mm_X} (hx : mk_x x) {a1 a2 : Int} : ∀ j : Nat, ¬ (fw_X12_later x a1 a2) 151 j := by
  have kx := kn_x hx
  intro j
  unfold fw_X12_later
  omega
theorem nw_X12_later_24 {x : mm_X} (hx : mk_x x) {a1 a2 : Int} : ¬ (fw_X12_later x a1 a2) 137 24 := by
  have kx := kn_x hx
  unfold fw_X12_later
  omega
theorem nw_X12_later_2000 {x : mm_X} (hx : mk_x x) {a1 a2 : Int} : ∀ k j : Nat, 2000 ≤ k → ¬ (fw_X12_later x a1 a2) k j := by
  have kx := kn_x hx
  intro k j hk
  unfold fw_X12_later
  omega
theorem nw_X12_later_15 {x : mm_X} (hx : mk_x x) {a1 a2 : Int} : ¬ (fw_X12_later x a1 a2) 137 15 := by
  have kx := kn_x hx
  unfold fw_X12_later
  omega
theorem nw_X12_later_149 {x : mm_X} (hx : mk_x x) {a1 a2 : Int} : ∀ j : Nat, ¬ (fw_X12_later x a1 a2) 149 j := by
  have kx := kn_x hx
  intro j
  unfold fw_X12_later
  omega
theorem nw_X12_later_142 {x : mm_X} (hx : mk_x x) {a1 a2 : Int} : ∀ j : Nat, ¬ (fw_X12_later x a1 a2) 142 j := by
  have kx := kn_x hx
  intro j
  unfold fw_X12_later
  omega
theorem nw_X12_later_140 {x : mm_X} (hx : mk_x x) {a1 a2 : Int} : ∀ j : Nat, j < 4 → ¬ (fw_X12_later x a1 a2) 140 j := by
  have kx := kn_x hx
  intro j hj
  unfold fw_X12_later
  omega
theorem nw_X12_full_82 {x : mm_X} (hx : mk_x x) {a1 : Int} : ¬ (fw_X12_full x a1) 82 1 := by
  have kx := kn_x hx
  unfold fw_X12_full
  omega
theorem nw_X12_full_83 {x : mm_X} (hx : mk_x x) {a1 : Int} : ∀ j : Nat, ¬ (fw_X12_full x a1) 83 j := by
  have kx := kn_x hx
  intro j
  unfold fw_X12_full
  omega
theorem nw_X12_full_0 {x : mm_X} (hx : mk_x x) {a1 : Int} : ¬ (fw_X12_full x a1) 0 0 := by
  have kx := kn_x hx
  unfold fw_X12_full
  omega
theorem nw_X12_full_151 {x : mm_X} (hx : mk_x x) {a1 : Int} : ∀ j : Nat, ¬ (fw_X12_full x a1) 151 j := by
  have kx := kn_x hx
  intro j
  unfold fw_X12_full
  omega
theorem nw_X12_full_24 {x : mm_X} (hx : mk_x x) {a1 : Int} : ¬ (fw_X12_full x a1) 137 24 := by
  have kx := kn_x hx
  unfold fw_X12_full
  omega
theorem nw_X12_full_2000 {x : mm_X} (hx : mk_x x) {a1 : Int} : ∀ k j : Nat, 2000 ≤ k → ¬ (fw_X12_full x a1) k j := by
  have kx := kn_x hx
  intro k j hk
  unfold fw_X12_full
  omega
theorem nw_X12_full_15 {x : mm_X} (hx : mk_x x) {a1 : Int} : ¬ (fw_X12_full x a1) 137 15 := by
  have kx := kn_x hx
  unfold fw_X12_full
  omega
theorem nw_X12_full_149 {x : mm_X} (hx : mk_x x) {a1 : Int} : ∀ j : Nat, ¬ (fw_X12_full x a1) 149 j := by
  have kx := kn_x hx
  intro j
  unfold fw_X12_full
  omega
theorem nw_X12_full_142 {x : mm_X} (hx : mk_x x) {a1 : Int} : ∀ j : Nat, ¬ (fw_X12_full x a1) 142 j := by
  have kx := kn_x hx
  intro j
  unfold fw_X12_full
  omega
theorem nw_X12_full_140 {x : mm_X} (hx : mk_x x) {a1 : Int} : ∀ j : Nat, j < 4 → ¬ (fw_X12_full x a1) 140 j := by
  have kx := kn_x hx
  intro j hj
  unfold fw_X12_full
  omega
theorem nw_X12_read_82 {x : mm_X} (hx : mk_x x) {a1 a2 : Int} : ¬ (fw_X12_read x a1 a2) 82 1 := by
  have kx := kn_x hx
  unfold fw_X12_read
  omega
theorem nw_X12_read_83 {x : mm_X} (hx : mk_x x) {a1 a2 : Int} : ∀ j : Nat, ¬ (fw_X12_read x a1 a2) 83 j := by
  have kx := kn_x hx
  intro j
  unfold fw_X12_read
  omega
theorem nw_X12_read_0 {x : mm_X} (hx : mk_x x) {a1 a2 : Int} : ¬ (fw_X12_read x a1 a2) 0 0 := by
  have kx := kn_x hx
  unfold fw_X12_read
  omega
theorem nw_X12_read_151 {x : mm_X} (hx : mk_x x) {a1 a2 : Int} : ∀ j : Nat, ¬ (fw_X12_read x a1 a2) 151 j := by
  have kx := kn_x hx
  intro j
  unfold fw_X12_read
  omega
theorem nw_X12_read_24 {x : mm_X} (hx : mk_x x) {a1 a2 : Int} : ¬ (fw_X12_read x a1 a2) 137 24 := by
  have kx := kn_x hx
  unfold fw_X12_read
  omega
theorem nw_X12_read_2000 {x : mm_X} (hx : mk_x x) {a1 a2 : Int} : ∀ k j : Nat, 2000 ≤ k → ¬ (fw_X12_read x a1 a2) k j := by
  have kx := kn_x hx
  intro k j hk
  unfold fw_X12_read
  omega
theorem nw_X12_read_15 {x : mm_X} (hx : mk_x x) {a1 a2 : Int} : ¬ (fw_X12_read x a1 a2) 137 15 := by
  have kx := kn_x hx
  unfold fw_X12_read
  omega
theorem nw_X12_read_149 {x : mm_X} (hx : mk_x x) {a1 a2 : Int} : ∀ j : Nat, ¬ (fw_X12_read x a1 a2) 149 j := by
  have kx := kn_x hx
  intro j
  unfold fw_X12_read
  omega
theorem nw_X12_read_142 {x : mm_X} (hx : mk_x x) {a1 a2 : Int} : ∀ j : Nat, ¬ (fw_X12_read x a1 a2) 142 j := by
  have kx := kn_x hx
  intro j
  unfold fw_X12_read
  omega
theorem nw_X12_read_140 {x : mm_X} (hx : mk_x x) {a1 a2 : Int} : ∀ j : Nat, j < 4 → ¬ (fw_X12_read x a1 a2) 140 j := by
  have kx := kn_x hx
  intro j hj
  unfold fw_X12_read
  omega
theorem nw_X12_alike_82 {x : mm_X} (hx : mk_x x) {a1 a2 : Int} : ¬ (fw_X12_alike x a1 a2) 82 1 := by
  have kx := kn_x hx
  unfold fw_X12_alike
  omega
theorem nw_X12_alike_83 {x : mm_X} (hx : mk_x x) {a1 a2 : Int} : ∀ j : Nat, ¬ (fw_X12_alike x a1 a2) 83 j := by
  have kx := kn_x hx
  intro j
  unfold fw_X12_alike
  omega
theorem nw_X12_alike_0 {x : mm_X} (hx : mk_x x) {a1 a2 : Int} : ¬ (fw_X12_alike x a1 a2) 0 0 := by
  have kx := kn_x hx
  unfold fw_X12_alike
  omega
theorem nw_X12_alike_151 {x : mm_X} (hx : mk_x x) {a1 a2 : Int} : ∀ j : Nat, ¬ (fw_X12_alike x a1 a2) 151 j := by
  have kx := kn_x hx
  intro j
  unfold fw_X12_alike
  omega
theorem nw_X12_alike_24 {x : mm_X} (hx : mk_x x) {a1 a2 : Int} : ¬ (fw_X12_alike x a1 a2) 137 24 := by
  have kx := kn_x hx
  unfold fw_X12_alike
  omega
theorem nw_X12_alike_2000 {x : mm_X} (hx : mk_x x) {a1 a2 : Int} : ∀ k j : Nat, 2000 ≤ k → ¬ (fw_X12_alike x a1 a2) k j := by
  have kx := kn_x hx
  intro k j hk
  unfold fw_X12_alike
  omega
theorem nw_X12_alike_15 {x : mm_X} (hx : mk_x x) {a1 a2 : Int} : ¬ (fw_X12_alike x a1 a2) 137 15 := by
  have kx := kn_x hx
  unfold fw_X12_alike
  omega
theorem nw_X12_alike_149 {x : mm_X} (hx : mk_x x) {a1 a2 : Int} : ∀ j : Nat, ¬ (fw_X12_alike x a1 a2) 149 j := by
  have kx := kn_x hx
  intro j
  unfold fw_X12_alike
  omega
theorem nw_X12_alike_142 {x : mm_X} (hx : mk_x x) {a1 a2 : Int} : ∀ j : Nat, ¬ (fw_X12_alike x a1 a2) 142 j := by
  have kx := kn_x hx
  intro j
  unfold fw_X12_alike
  omega
theorem nw_X12_alike_140 {x : mm_X} (hx : mk_x x) {a1 a2 : Int} : ∀ j : Nat, j < 4 → ¬ (fw_X12_alike x a1 a2) 140 j := by
  have kx := kn_x hx
  intro j hj
  unfold fw_X12_alike
  omega
theorem nw_X12_both_82 {x : mm_X} (hx : mk_x x) {a1 a2 a3 : Int} : ¬ (fw_X12_both x a1 a2 a3) 82 1 := by
  have kx := kn_x hx
  unfold fw_X12_both
  omega
theorem nw_X12_both_83 {x : mm_X} (hx : mk_x x) {a1 a2 a3 : Int} : ∀ j : Nat, ¬ (fw_X12_both x a1 a2 a3) 83 j := by
  have kx := kn_x hx
  intro j
  unfold fw_X12_both
  omega
theorem nw_X12_both_0 {x : mm_X} (hx : mk_x x) {a1 a2 a3 : Int} : ¬ (fw_X12_both x a1 a2 a3) 0 0 := by
  have kx := kn_x hx
  unfold fw_X12_both
  omega
theorem nw_X12_both_151 {x : mm_X} (hx : mk_x x) {a1 a2 a3 : Int} : ∀ j : Nat, ¬ (fw_X12_both x a1 a2 a3) 151 j := by
  have kx := kn_x hx
  intro j
  unfold fw_X12_both
  omega
theorem nw_X12_both_24 {x : mm_X} (hx : mk_x x) {a1 a2 a3 : Int} : ¬ (fw_X12_both x a1 a2 a3) 137 24 := by
  have kx := kn_x hx
  unfold fw_X12_both
  omega
theorem nw_X12_both_2000 {x : mm_X} (hx : mk_x x) {a1 a2 a3 : Int} : ∀ k j : Nat, 2000 ≤ k → ¬ (fw_X12_both x a1 a2 a3) k j := by
  have kx := kn_x hx
  intro k j hk
  unfold fw_X12_both
  omega
theorem nw_X12_both_15 {x : mm_X} (hx : mk_x x) {a1 a2 a3 : Int} : ¬ (fw_X12_both x a1 a2 a3) 137 15 := by
  have kx := kn_x hx
  unfold fw_X12_both
  omega
theorem nw_X12_both_149 {x : mm_X} (hx : mk_x x) {a1 a2 a3 : Int} : ∀ j : Nat, ¬ (fw_X12_both x a1 a2 a3) 149 j := by
  have kx := kn_x hx
  intro j
  unfold fw_X12_both
  omega
theorem nw_X12_both_142 {x : mm_X} (hx : mk_x x) {a1 a2 a3 : Int} : ∀ j : Nat, ¬ (fw_X12_both x a1 a2 a3) 142 j := by
  have kx := kn_x hx
  intro j
  unfold fw_X12_both
  omega
theorem nw_X12_both_140 {x : mm_X} (hx : mk_x x) {a1 a2 a3 : Int} : ∀ j : Nat, j < 4 → ¬ (fw_X12_both x a1 a2 a3) 140 j := by
  have kx := kn_x hx
  intro j hj
  unfold fw_X12_both
  omega
theorem nw_X12_row_82 {x : mm_X} (hx : mk_x x) {a1 : Int} : ¬ (fw_X12_row x a1) 82 1 := by
  have kx := kn_x hx
  unfold fw_X12_row
  omega
theorem nw_X12_row_83 {x : mm_X} (hx : mk_x x) {a1 : Int} : ∀ j : Nat, ¬ (fw_X12_row x a1) 83 j := by
  have kx := kn_x hx
  intro j
  unfold fw_X12_row
  omega
theorem nw_X12_row_0 {x : mm_X} (hx : mk_x x) {a1 : Int} : ¬ (fw_X12_row x a1) 0 0 := by
  have kx := kn_x hx
  unfold fw_X12_row
  omega
theorem nw_X12_row_151 {x : mm_X} (hx : mk_x x) {a1 : Int} : ∀ j : Nat, ¬ (fw_X12_row x a1) 151 j := by
  have kx := kn_x hx
  intro j
  unfold fw_X12_row
  omega
theorem nw_X12_row_24 {x : mm_X} (hx : mk_x x) {a1 : Int} : ¬ (fw_X12_row x a1) 137 24 := by
  have kx := kn_x hx
  unfold fw_X12_row
  omega
theorem nw_X12_row_2000 {x : mm_X} (hx : mk_x x) {a1 : Int} : ∀ k j : Nat, 2000 ≤ k → ¬ (fw_X12_row x a1) k j := by
  have kx := kn_x hx
  intro k j hk
  unfold fw_X12_row
  omega
theorem nw_X12_row_15 {x : mm_X} (hx : mk_x x) {a1 : Int} : ¬ (fw_X12_row x a1) 137 15 := by
  have kx := kn_x hx
  unfold fw_X12_row
  omega
theorem nw_X12_row_149 {x : mm_X} (hx : mk_x x) {a1 : Int} : ∀ j : Nat, ¬ (fw_X12_row x a1) 149 j := by
  have kx := kn_x hx
  intro j
  unfold fw_X12_row
  omega
theorem nw_X12_row_142 {x : mm_X} (hx : mk_x x) {a1 : Int} : ∀ j : Nat, ¬ (fw_X12_row x a1) 142 j := by
  have kx := kn_x hx
  intro j
  unfold fw_X12_row
  omega
theorem nw_X12_row_140 {x : mm_X} (hx : mk_x x) {a1 : Int} : ∀ j : Nat, j < 4 → ¬ (fw_X12_row x a1) 140 j := by
  have kx := kn_x hx
  intro j hj
  unfold fw_X12_row
  omega
theorem nw_X12_chain_82 {x : mm_X} (hx : mk_x x) {a1 : Int} : ¬ (fw_X12_chain x a1) 82 1 := by
  have kx := kn_x hx
  unfold fw_X12_chain
  omega
theorem nw_X12_chain_83 {x : mm_X} (hx : mk_x x) {a1 : Int} : ∀ j : Nat, ¬ (fw_X12_chain x a1) 83 j := by
  have kx := kn_x hx
  intro j
  unfold fw_X12_chain
  omega
theorem nw_X12_chain_0 {x : mm_X} (hx : mk_x x) {a1 : Int} : ¬ (fw_X12_chain x a1) 0 0 := by
  have kx := kn_x hx
  unfold fw_X12_chain
  omega
theorem nw_X12_chain_151 {x : mm_X} (hx : mk_x x) {a1 : Int} : ∀ j : Nat, ¬ (fw_X12_chain x a1) 151 j := by
  have kx := kn_x hx
  intro j
  unfold fw_X12_chain
  omega
theorem nw_X12_chain_24 {x : mm_X} (hx : mk_x x) {a1 : Int} : ¬ (fw_X12_chain x a1) 137 24 := by
  have kx := kn_x hx
  unfold fw_X12_chain
  omega
theorem nw_X12_chain_2000 {x : mm_X} (hx : mk_x x) {a1 : Int} : ∀ k j : Nat, 2000 ≤ k → ¬ (fw_X12_chain x a1) k j := by
  have kx := kn_x hx
  intro k j hk
  unfold fw_X12_chain
  omega
theorem nw_X12_chain_15 {x : mm_X} (hx : mk_x x) {a1 : Int} : ¬ (fw_X12_chain x a1) 137 15 := by
  have kx := kn_x hx
  unfold fw_X12_chain
  omega
theorem nw_X12_chain_149 {x : mm_X} (hx : mk_x x) {a1 : Int} : ∀ j : Nat, ¬ (fw_X12_chain x a1) 149 j := by
  have kx := kn_x hx
  intro j
  unfold fw_X12_chain
  omega
theorem nw_X12_chain_142 {x : mm_X} (hx : mk_x x) {a1 : Int} : ∀ j : Nat, ¬ (fw_X12_chain x a1) 142 j := by
  have kx := kn_x hx
  intro j
  unfold fw_X12_chain
  omega
theorem nw_X12_chain_140 {x : mm_X} (hx : mk_x x) {a1 : Int} : ∀ j : Nat, j < 4 → ¬ (fw_X12_chain x a1) 140 j := by
  have kx := kn_x hx
  intro j hj
  unfold fw_X12_chain
  omega
theorem nw_X12_toDraw_82 {x : mm_X} (hx : mk_x x) {a1 a2 : Int} : ¬ (fw_X12_toDraw x a1 a2) 82 1 := by
  have kx := kn_x hx
  unfold fw_X12_toDraw
  omega
theorem nw_X12_toDraw_83 {x : mm_X} (hx : mk_x x) {a1 a2 : Int} : ∀ j : Nat, ¬ (fw_X12_toDraw x a1 a2) 83 j := by
  have kx := kn_x hx
  intro j
  unfold fw_X12_toDraw
  omega
theorem nw_X12_toDraw_0 {x : mm_X} (hx : mk_x x) {a1 a2 : Int} : ¬ (fw_X12_toDraw x a1 a2) 0 0 := by
  have kx := kn_x hx
  unfold fw_X12_toDraw
  omega
theorem nw_X12_toDraw_151 {x : mm_X} (hx : mk_x x) {a1 a2 : Int} : ∀ j : Nat, ¬ (fw_X12_toDraw x a1 a2) 151 j := by
  have kx := kn_x hx
  intro j
  unfold fw_X12_toDraw
  omega
theorem nw_X12_toDraw_24 {x : mm_X} (hx : mk_x x) {a1 a2 : Int} : ¬ (fw_X12_toDraw x a1 a2) 137 24 := by
  have kx := kn_x hx
  unfold fw_X12_toDraw
  omega
theorem nw_X12_toDraw_2000 {x : mm_X} (hx : mk_x x) {a1 a2 : Int} : ∀ k j : Nat, 2000 ≤ k → ¬ (fw_X12_toDraw x a1 a2) k j := by
  have kx := kn_x hx
  intro k j hk
  unfold fw_X12_toDraw
  omega
theorem nw_X12_toDraw_15 {x : mm_X} (hx : mk_x x) {a1 a2 : Int} : ¬ (fw_X12_toDraw x a1 a2) 137 15 := by
  have kx := kn_x hx
  unfold fw_X12_toDraw
  omega
theorem nw_X12_toDraw_149 {x : mm_X} (hx : mk_x x) {a1 a2 : Int} : ∀ j : Nat, ¬ (fw_X12_toDraw x a1 a2) 149 j := by
  have kx := kn_x hx
  intro j
  unfold fw_X12_toDraw
  omega
theorem nw_X12_toDraw_142 {x : mm_X} (hx : mk_x x) {a1 a2 : Int} : ∀ j : Nat, ¬ (fw_X12_toDraw x a1 a2) 142 j := by
  have kx := kn_x hx
  intro j
  unfold fw_X12_toDraw
  omega
theorem nw_X12_toDraw_140 {x : mm_X} (hx : mk_x x) {a1 a2 : Int} : ∀ j : Nat, j < 4 → ¬ (fw_X12_toDraw x a1 a2) 140 j := by
  have kx := kn_x hx
  intro j hj
  unfold fw_X12_toDraw
  omega
theorem nw_X11_couples_137 {x : mm_X} (hx : mk_x x) : ∀ k j : Nat, 137 ≤ k → ¬ (fw_X11_couples x) k j := by
  have kx := kn_x hx
  intro k j hk
  unfold fw_X11_couples
  omega
theorem nw_X11_couples_82 {x : mm_X} (hx : mk_x x) : ¬ (fw_X11_couples x) 82 1 := by
  have kx := kn_x hx
  unfold fw_X11_couples
  omega
theorem nw_X11_couples_83 {x : mm_X} (hx : mk_x x) : ∀ j : Nat, ¬ (fw_X11_couples x) 83 j := by
  have kx := kn_x hx
  intro j
  unfold fw_X11_couples
  omega
theorem nw_X11_couples_0 {x : mm_X} (hx : mk_x x) : ¬ (fw_X11_couples x) 0 0 := by
  have kx := kn_x hx
  unfold fw_X11_couples
  omega
theorem nw_X12_couples_82 {x : mm_X} (hx : mk_x x) : ¬ (fw_X12_couples x) 82 1 := by
  have kx := kn_x hx
  unfold fw_X12_couples
  omega
theorem nw_X12_couples_83 {x : mm_X} (hx : mk_x x) : ∀ j : Nat, ¬ (fw_X12_couples x) 83 j := by
  have kx := kn_x hx
  intro j
  unfold fw_X12_couples
  omega
theorem nw_X12_couples_0 {x : mm_X} (hx : mk_x x) : ¬ (fw_X12_couples x) 0 0 := by
  have kx := kn_x hx
  unfold fw_X12_couples
  omega
theorem nw_X12_couples_151 {x : mm_X} (hx : mk_x x) : ∀ j : Nat, ¬ (fw_X12_couples x) 151 j := by
  have kx := kn_x hx
  intro j
  unfold fw_X12_couples
  omega
theorem nw_X12_couples_24 {x : mm_X} (hx : mk_x x) : ¬ (fw_X12_couples x) 137 24 := by
  have kx := kn_x hx
  unfold fw_X12_couples
  omega
theorem nw_X12_couples_2000 {x : mm_X} (hx : mk_x x) : ∀ k j : Nat, 2000 ≤ k → ¬ (fw_X12_couples x) k j := by
  have kx := kn_x hx
  intro k j hk
  unfold fw_X12_couples
  omega
theorem nw_X12_couples_15 {x : mm_X} (hx : mk_x x) : ¬ (fw_X12_couples x) 137 15 := by
  have kx := kn_x hx
  unfold fw_X12_couples
  omega
theorem nw_X12_couples_149 {x : mm_X} (hx : mk_x x) : ∀ j : Nat, ¬ (fw_X12_couples x) 149 j := by
  have kx := kn_x hx
  intro j
  unfold fw_X12_couples
  omega
theorem nw_X12_couples_142 {x : mm_X} (hx : mk_x x) : ∀ j : Nat, ¬ (fw_X12_couples x) 142 j := by
  have kx := kn_x hx
  intro j
  unfold fw_X12_couples
  omega
theorem nw_X12_couples_140 {x : mm_X} (hx : mk_x x) : ∀ j : Nat, j < 4 → ¬ (fw_X12_couples x) 140 j := by
  have kx := kn_x hx
  intro j hj
  unfold fw_X12_couples
  omega
theorem nw_X12_see_82 {x : mm_X} (hx : mk_x x) {a1 a2 a3 : Int} : ¬ (fw_X12_see x a1 a2 a3) 82 1 := by
  have kx := kn_x hx
  unfold fw_X12_see
  omega
theorem nw_X12_see_83 {x : mm_X} (hx : mk_x x) {a1 a2 a3 : Int} : ∀ j : Nat, ¬ (fw_X12_see x a1 a2 a3) 83 j := by
  have kx := kn_x hx
  intro j
  unfold fw_X12_see
  omega
theorem nw_X12_see_0 {x : mm_X} (hx : mk_x x) {a1 a2 a3 : Int} : ¬ (fw_X12_see x a1 a2 a3) 0 0 := by
  have kx := kn_x hx
  unfold fw_X12_see
  omega
theorem nw_X12_see_151 {x : mm_X} (hx : mk_x x) {a1 a2 a3 : Int} : ∀ j : Nat, ¬ (fw_X12_see x a1 a2 a3) 151 j := by
  have kx := kn_x hx
  intro j
  unfold fw_X12_see
  omega
theorem nw_X12_see_24 {x : mm_X} (hx : mk_x x) {a1 a2 a3 : Int} : ¬ (fw_X12_see x a1 a2 a3) 137 24 := by
  have kx := kn_x hx
  unfold fw_X12_see
  omega
theorem nw_X12_see_2000 {x : mm_X} (hx : mk_x x) {a1 a2 a3 : Int} : ∀ k j : Nat, 2000 ≤ k → ¬ (fw_X12_see x a1 a2 a3) k j := by
  have kx := kn_x hx
  intro k j hk
  unfold fw_X12_see
  omega
theorem nw_X12_see_15 {x : mm_X} (hx : mk_x x) {a1 a2 a3 : Int} : ¬ (fw_X12_see x a1 a2 a3) 137 15 := by
  have kx := kn_x hx
  unfold fw_X12_see
  omega
theorem nw_X12_see_149 {x : mm_X} (hx : mk_x x) {a1 a2 a3 : Int} : ∀ j : Nat, ¬ (fw_X12_see x a1 a2 a3) 149 j := by
  have kx := kn_x hx
  intro j
  unfold fw_X12_see
  omega
theorem nw_X12_see_142 {x : mm_X} (hx : mk_x x) {a1 a2 a3 : Int} : ∀ j : Nat, ¬ (fw_X12_see x a1 a2 a3) 142 j := by
  have kx := kn_x hx
  intro j
  unfold fw_X12_see
  omega
theorem nw_X12_see_140 {x : mm_X} (hx : mk_x x) {a1 a2 a3 : Int} : ∀ j : Nat, j < 4 → ¬ (fw_X12_see x a1 a2 a3) 140 j := by
  have kx := kn_x hx
  intro j hj
  unfold fw_X12_see
  omega
theorem nw_X12_loose_82 {x : mm_X} (hx : mk_x x) {a1 : Int} : ¬ (fw_X12_loose x a1) 82 1 := by
  have kx := kn_x hx
  unfold fw_X12_loose
  omega
theorem nw_X12_loose_83 {x : mm_X} (hx : mk_x x) {a1 : Int} : ∀ j : Nat, ¬ (fw_X12_loose x a1) 83 j := by
  have kx := kn_x hx
  intro j
  unfold fw_X12_loose
  omega
theorem nw_X12_loose_0 {x : mm_X} (hx : mk_x x) {a1 : Int} : ¬ (fw_X12_loose x a1) 0 0 := by
  have kx := kn_x hx
  unfold fw_X12_loose
  omega
theorem nw_X12_loose_151 {x : mm_X} (hx : mk_x x) {a1 : Int} : ∀ j : Nat, ¬ (fw_X12_loose x a1) 151 j := by
  have kx := kn_x hx
  intro j
  unfold fw_X12_loose
  omega
theorem nw_X12_loose_24 {x : mm_X} (hx : mk_x x) {a1 : Int} : ¬ (fw_X12_loose x a1) 137 24 := by
  have kx := kn_x hx
  unfold fw_X12_loose
  omega
theorem nw_X12_loose_2000 {x : mm_X} (hx : mk_x x) {a1 : Int} : ∀ k j : Nat, 2000 ≤ k → ¬ (fw_X12_loose x a1) k j := by
  have kx := kn_x hx
  intro k j hk
  unfold fw_X12_loose
  omega
theorem nw_X12_loose_15 {x : mm_X} (hx : mk_x x) {a1 : Int} : ¬ (fw_X12_loose x a1) 137 15 := by
  have kx := kn_x hx
  unfold fw_X12_loose
  omega
theorem nw_X12_loose_149 {x : mm_X} (hx : mk_x x) {a1 : Int} : ∀ j : Nat, ¬ (fw_X12_loose x a1) 149 j := by
  have kx := kn_x hx
  intro j
  unfold fw_X12_loose
  omega
theorem nw_X12_loose_142 {x : mm_X} (hx : mk_x x) {a1 : Int} : ∀ j : Nat, ¬ (fw_X12_loose x a1) 142 j := by
  have kx := kn_x hx
  intro j
  unfold fw_X12_loose
  omega
theorem nw_X12_loose_140 {x : mm_X} (hx : mk_x x) {a1 : Int} : ∀ j : Nat, j < 4 → ¬ (fw_X12_loose x a1) 140 j := by
  have kx := kn_x hx
  intro j hj
  unfold fw_X12_loose
  omega
theorem nw_X12_look_82 {x : mm_X} (hx : mk_x x) {a1 : Int} : ¬ (fw_X12_look x a1) 82 1 := by
  have kx := kn_x hx
  unfold fw_X12_look
  omega
theorem nw_X12_look_83 {x : mm_X} (hx : mk_x x) {a1 : Int} : ∀ j : Nat, ¬ (fw_X12_look x a1) 83 j := by
  have kx := kn_x hx
  intro j
  unfold fw_X12_look
  omega
theorem nw_X12_look_0 {x : mm_X} (hx : mk_x x) {a1 : Int} : ¬ (fw_X12_look x a1) 0 0 := by
  have kx := kn_x hx
  unfold fw_X12_look
  omega
theorem nw_X12_look_151 {x : mm_X} (hx : mk_x x) {a1 : Int} : ∀ j : Nat, ¬ (fw_X12_look x a1) 151 j := by
  have kx := kn_x hx
  intro j
  unfold fw_X12_look
  omega
theorem nw_X12_look_24 {x : mm_X} (hx : mk_x x) {a1 : Int} : ¬ (fw_X12_look x a1) 137 24 := by
  have kx := kn_x hx
  unfold fw_X12_look
  omega
theorem nw_X12_look_2000 {x : mm_X} (hx : mk_x x) {a1 : Int} : ∀ k j : Nat, 2000 ≤ k → ¬ (fw_X12_look x a1) k j := by
  have kx := kn_x hx
  intro k j hk
  unfold fw_X12_look
  omega
theorem nw_X12_look_15 {x : mm_X} (hx : mk_x x) {a1 : Int} : ¬ (fw_X12_look x a1) 137 15 := by
  have kx := kn_x hx
  unfold fw_X12_look
  omega
theorem nw_X12_look_149 {x : mm_X} (hx : mk_x x) {a1 : Int} : ∀ j : Nat, ¬ (fw_X12_look x a1) 149 j := by
  have kx := kn_x hx
  intro j
  unfold fw_X12_look
  omega
theorem nw_X12_look_142 {x : mm_X} (hx : mk_x x) {a1 : Int} : ∀ j : Nat, ¬ (fw_X12_look x a1) 142 j := by
  have kx := kn_x hx
  intro j
  unfold fw_X12_look
  omega
theorem nw_X12_look_140 {x : mm_X} (hx : mk_x x) {a1 : Int} : ∀ j : Nat, j < 4 → ¬ (fw_X12_look x a1) 140 j := by
  have kx := kn_x hx
  intro j hj
  unfold fw_X12_look
  omega
theorem nw_X11_forget_137 {x : mm_X} (hx : mk_x x) : ∀ k j : Nat, 137 ≤ k → ¬ (fw_X11_forget x) k j := by
  have kx := kn_x hx
  intro k j hk
  unfold fw_X11_forget
  omega
theorem nw_X11_forget_82 {x : mm_X} (hx : mk_x x) : ¬ (fw_X11_forget x) 82 1 := by
  have kx := kn_x hx
  unfold fw_X11_forget
  omega
theorem nw_X11_forget_83 {x : mm_X} (hx : mk_x x) : ∀ j : Nat, ¬ (fw_X11_forget x) 83 j := by
  have kx := kn_x hx
  intro j
  unfold fw_X11_forget
  omega
theorem nw_X11_forget_0 {x : mm_X} (hx : mk_x x) : ¬ (fw_X11_forget x) 0 0 := by
  have kx := kn_x hx
  unfold fw_X11_forget
  omega
theorem nw_X12_forget_82 {x : mm_X} (hx : mk_x x) : ¬ (fw_X12_forget x) 82 1 := by
  have kx := kn_x hx
  unfold fw_X12_forget
  omega
theorem nw_X12_forget_83 {x : mm_X} (hx : mk_x x) : ∀ j : Nat, ¬ (fw_X12_forget x) 83 j := by
  have kx := kn_x hx
  intro j
  unfold fw_X12_forget
  omega
theorem nw_X12_forget_0 {x : mm_X} (hx : mk_x x) : ¬ (fw_X12_forget x) 0 0 := by
  have kx := kn_x hx
  unfold fw_X12_forget
  omega
theorem nw_X12_forget_151 {x : mm_X} (hx : mk_x x) : ∀ j : Nat, ¬ (fw_X12_forget x) 151 j := by
  have kx := kn_x hx
  intro j
  unfold fw_X12_forget
  omega
theorem nw_X12_forget_24 {x : mm_X} (hx : mk_x x) : ¬ (fw_X12_forget x) 137 24 := by
  have kx := kn_x hx
  unfold fw_X12_forget
  omega
theorem nw_X12_forget_2000 {x : mm_X} (hx : mk_x x) : ∀ k j : Nat, 2000 ≤ k → ¬ (fw_X12_forget x) k j := by
  have kx := kn_x hx
  intro k j hk
  unfold fw_X12_forget
  omega
theorem nw_X12_forget_15 {x : mm_X} (hx : mk_x x) : ¬ (fw_X12_forget x) 137 15 := by
  have kx := kn_x hx
  unfold fw_X12_forget
  omega
theorem nw_X12_forget_149 {x : mm_X} (hx : mk_x x) : ∀ j : Nat, ¬ (fw_X12_forget x) 149 j := by
  have kx := kn_x hx
  intro j
  unfold fw_X12_forget
  omega
theorem nw_X12_forget_142 {x : mm_X} (hx : mk_x x) : ∀ j : Nat, ¬ (fw_X12_forget x) 142 j := by
  have kx := kn_x hx
  intro j
  unfold fw_X12_forget
  omega
theorem nw_X12_forget_140 {x : mm_X} (hx : mk_x x) : ∀ j : Nat, j < 4 → ¬ (fw_X12_forget x) 140 j := by
  have kx := kn_x hx
  intro j hj
  unfold fw_X12_forget
  omega
theorem nw_X12_seasons_82 {x : mm_X} (hx : mk_x x) {a1 a2 a3 : Int} : ¬ (fw_X12_seasons x a1 a2 a3) 82 1 := by
  have kx := kn_x hx
  unfold fw_X12_seasons
  omega
theorem nw_X12_seasons_83 {x : mm_X} (hx : mk_x x) {a1 a2 a3 : Int} : ∀ j : Nat, ¬ (fw_X12_seasons x a1 a2 a3) 83 j := by
  have kx := kn_x hx
  intro j
  unfold fw_X12_seasons
  omega
theorem nw_X12_seasons_0 {x : mm_X} (hx : mk_x x) {a1 a2 a3 : Int} : ¬ (fw_X12_seasons x a1 a2 a3) 0 0 := by
  have kx := kn_x hx
  unfold fw_X12_seasons
  omega
theorem nw_X12_seasons_151 {x : mm_X} (hx : mk_x x) {a1 a2 a3 : Int} : ∀ j : Nat, ¬ (fw_X12_seasons x a1 a2 a3) 151 j := by
  have kx := kn_x hx
  intro j
  unfold fw_X12_seasons
  omega
theorem nw_X12_seasons_24 {x : mm_X} (hx : mk_x x) {a1 a2 a3 : Int} : ¬ (fw_X12_seasons x a1 a2 a3) 137 24 := by
  have kx := kn_x hx
  unfold fw_X12_seasons
  omega
theorem nw_X12_seasons_2000 {x : mm_X} (hx : mk_x x) {a1 a2 a3 : Int} : ∀ k j : Nat, 2000 ≤ k → ¬ (fw_X12_seasons x a1 a2 a3) k j := by
  have kx := kn_x hx
  intro k j hk
  unfold fw_X12_seasons
  omega
theorem nw_X12_seasons_15 {x : mm_X} (hx : mk_x x) {a1 a2 a3 : Int} : ¬ (fw_X12_seasons x a1 a2 a3) 137 15 := by
  have kx := kn_x hx
  unfold fw_X12_seasons
  omega
theorem nw_X12_seasons_149 {x : mm_X} (hx : mk_x x) {a1 a2 a3 : Int} : ∀ j : Nat, ¬ (fw_X12_seasons x a1 a2 a3) 149 j := by
  have kx := kn_x hx
  intro j
  unfold fw_X12_seasons
  omega
theorem nw_X12_seasons_142 {x : mm_X} (hx : mk_x x) {a1 a2 a3 : Int} : ∀ j : Nat, ¬ (fw_X12_seasons x a1 a2 a3) 142 j := by
  have kx := kn_x hx
  intro j
  unfold fw_X12_seasons
  omega
theorem nw_X12_seasons_140 {x : mm_X} (hx : mk_x x) {a1 a2 a3 : Int} : ∀ j : Nat, j < 4 → ¬ (fw_X12_seasons x a1 a2 a3) 140 j := by
  have kx := kn_x hx
  intro j hj
  unfold fw_X12_seasons
  omega
theorem nw_X12_game_82 {x : mm_X} (hx : mk_x x) {a1 a2 a3 : Int} : ¬ (fw_X12_game x a1 a2 a3) 82 1 := by
  have kx := kn_x hx
  unfold fw_X12_game
  omega
theorem nw_X12_game_83 {x : mm_X} (hx : mk_x x) {a1 a2 a3 : Int} : ∀ j : Nat, ¬ (fw_X12_game x a1 a2 a3) 83 j := by
  have kx := kn_x hx
  intro j
  unfold fw_X12_game
  omega
theorem nw_X12_game_0 {x : mm_X} (hx : mk_x x) {a1 a2 a3 : Int} : ¬ (fw_X12_game x a1 a2 a3) 0 0 := by
  have kx := kn_x hx
  unfold fw_X12_game
  omega
theorem nw_X12_game_151 {x : mm_X} (hx : mk_x x) {a1 a2 a3 : Int} : ∀ j : Nat, ¬ (fw_X12_game x a1 a2 a3) 151 j := by
  have kx := kn_x hx
  intro j
  unfold fw_X12_game
  omega
theorem nw_X12_game_24 {x : mm_X} (hx : mk_x x) {a1 a2 a3 : Int} : ¬ (fw_X12_game x a1 a2 a3) 137 24 := by
  have kx := kn_x hx
  unfold fw_X12_game
  omega
theorem nw_X12_game_2000 {x : mm_X} (hx : mk_x x) {a1 a2 a3 : Int} : ∀ k j : Nat, 2000 ≤ k → ¬ (fw_X12_game x a1 a2 a3) k j := by
  have kx := kn_x hx
  intro k j hk
  unfold fw_X12_game
  omega
theorem nw_X12_game_15 {x : mm_X} (hx : mk_x x) {a1 a2 a3 : Int} : ¬ (fw_X12_game x a1 a2 a3) 137 15 := by
  have kx := kn_x hx
  unfold fw_X12_game
  omega
theorem nw_X12_game_149 {x : mm_X} (hx : mk_x x) {a1 a2 a3 : Int} : ∀ j : Nat, ¬ (fw_X12_game x a1 a2 a3) 149 j := by
  have kx := kn_x hx
  intro j
  unfold fw_X12_game
  omega
theorem nw_X12_game_142 {x : mm_X} (hx : mk_x x) {a1 a2 a3 : Int} : ∀ j : Nat, ¬ (fw_X12_game x a1 a2 a3) 142 j := by
  have kx := kn_x hx
  intro j
  unfold fw_X12_game
  omega
theorem nw_X12_game_140 {x : mm_X} (hx : mk_x x) {a1 a2 a3 : Int} : ∀ j : Nat, j < 4 → ¬ (fw_X12_game x a1 a2 a3) 140 j := by
  have kx := kn_x hx
  intro j hj
  unfold fw_X12_game
  omega
theorem nw_X12_years_82 {x : mm_X} (hx : mk_x x) {a1 a2 a3 : Int} : ¬ (fw_X12_years x a1 a2 a3) 82 1 := by
  have kx := kn_x hx
  unfold fw_X12_years
  omega
theorem nw_X12_years_83 {x : mm_X} (hx : mk_x x) {a1 a2 a3 : Int} : ∀ j : Nat, ¬ (fw_X12_years x a1 a2 a3) 83 j := by
  have kx := kn_x hx
  intro j
  unfold fw_X12_years
  omega
theorem nw_X12_years_0 {x : mm_X} (hx : mk_x x) {a1 a2 a3 : Int} : ¬ (fw_X12_years x a1 a2 a3) 0 0 := by
  have kx := kn_x hx
  unfold fw_X12_years
  omega
theorem nw_X12_years_151 {x : mm_X} (hx : mk_x x) {a1 a2 a3 : Int} : ∀ j : Nat, ¬ (fw_X12_years x a1 a2 a3) 151 j := by
  have kx := kn_x hx
  intro j
  unfold fw_X12_years
  omega
theorem nw_X12_years_24 {x : mm_X} (hx : mk_x x) {a1 a2 a3 : Int} : ¬ (fw_X12_years x a1 a2 a3) 137 24 := by
  have kx := kn_x hx
  unfold fw_X12_years
  omega
theorem nw_X12_years_2000 {x : mm_X} (hx : mk_x x) {a1 a2 a3 : Int} : ∀ k j : Nat, 2000 ≤ k → ¬ (fw_X12_years x a1 a2 a3) k j := by
  have kx := kn_x hx
  intro k j hk
  unfold fw_X12_years
  omega
theorem nw_X12_years_15 {x : mm_X} (hx : mk_x x) {a1 a2 a3 : Int} : ¬ (fw_X12_years x a1 a2 a3) 137 15 := by
  have kx := kn_x hx
  unfold fw_X12_years
  omega
theorem nw_X12_years_149 {x : mm_X} (hx : mk_x x) {a1 a2 a3 : Int} : ∀ j : Nat, ¬ (fw_X12_years x a1 a2 a3) 149 j := by
  have kx := kn_x hx
  intro j
  unfold fw_X12_years
  omega
theorem nw_X12_years_142 {x : mm_X} (hx : mk_x x) {a1 a2 a3 : Int} : ∀ j : Nat, ¬ (fw_X12_years x a1 a2 a3) 142 j := by
  have kx := kn_x hx
  intro j
  unfold fw_X12_years
  omega
theorem nw_X12_years_140 {x : mm_X} (hx : mk_x x) {a1 a2 a3 : Int} : ∀ j : Nat, j < 4 → ¬ (fw_X12_years x a1 a2 a3) 140 j := by
  have kx := kn_x hx
  intro j hj
  unfold fw_X12_years
  omega
theorem nw_X11_image_137 {x : mm_X} (hx : mk_x x) : ∀ k j : Nat, 137 ≤ k → ¬ (fw_X11_image x) k j := by
  have kx := kn_x hx
  intro k j hk
  unfold fw_X11_image
  omega
theorem nw_X11_image_82 {x : mm_X} (hx : mk_x x) : ¬ (fw_X11_image x) 82 1 := by
  have kx := kn_x hx
  unfold fw_X11_image
  omega
theorem nw_X11_image_83 {x : mm_X} (hx : mk_x x) : ∀ j : Nat, ¬ (fw_X11_image x) 83 j := by
  have kx := kn_x hx
  intro j
  unfold fw_X11_image
  omega
theorem nw_X11_image_0 {x : mm_X} (hx : mk_x x) : ¬ (fw_X11_image x) 0 0 := by
  have kx := kn_x hx
  unfold fw_X11_image
  omega
theorem nw_X12_image_82 {x : mm_X} (hx : mk_x x) : ¬ (fw_X12_image x) 82 1 := by
  have kx := kn_x hx
  unfold fw_X12_image
  omega
theorem nw_X12_image_83 {x : mm_X} (hx : mk_x x) : ∀ j : Nat, ¬ (fw_X12_image x) 83 j := by
  have kx := kn_x hx
  intro j
  unfold fw_X12_image
  omega
theorem nw_X12_image_0 {x : mm_X} (hx : mk_x x) : ¬ (fw_X12_image x) 0 0 := by
  have kx := kn_x hx
  unfold fw_X12_image
  omega
theorem nw_X12_image_151 {x : mm_X} (hx : mk_x x) : ∀ j : Nat, ¬ (fw_X12_image x) 151 j := by
  have kx := kn_x hx
  intro j
  unfold fw_X12_image
  omega
theorem nw_X12_image_24 {x : mm_X} (hx : mk_x x) : ¬ (fw_X12_image x) 137 24 := by
  have kx := kn_x hx
  unfold fw_X12_image
  omega
theorem nw_X12_image_2000 {x : mm_X} (hx : mk_x x) : ∀ k j : Nat, 2000 ≤ k → ¬ (fw_X12_image x) k j := by
  have kx := kn_x hx
  intro k j hk
  unfold fw_X12_image
  omega
theorem nw_X12_image_15 {x : mm_X} (hx : mk_x x) : ¬ (fw_X12_image x) 137 15 := by
  have kx := kn_x hx
  unfold fw_X12_image
  omega
theorem nw_X12_image_149 {x : mm_X} (hx : mk_x x) : ∀ j : Nat, ¬ (fw_X12_image x) 149 j := by
  have kx := kn_x hx
  intro j
  unfold fw_X12_image
  omega
theorem nw_X12_image_142 {x : mm_X} (hx : mk_x x) : ∀ j : Nat, ¬ (fw_X12_image x) 142 j := by
  have kx := kn_x hx
  intro j
  unfold fw_X12_image
  omega
theorem nw_X12_image_140 {x : mm_X} (hx : mk_x x) : ∀ j : Nat, j < 4 → ¬ (fw_X12_image x) 140 j := by
  have kx := kn_x hx
  intro j hj
  unfold fw_X12_image
  omega
theorem nw_X11_restore_137 {x : mm_X} (hx : mk_x x) : ∀ k j : Nat, 137 ≤ k → ¬ (fw_X11_restore x) k j := by
  have kx := kn_x hx
  intro k j hk
  unfold fw_X11_restore
  omega
theorem nw_X11_restore_82 {x : mm_X} (hx : mk_x x) : ¬ (fw_X11_restore x) 82 1 := by
  have kx := kn_x hx
  unfold fw_X11_restore
  omega
theorem nw_X11_restore_83 {x : mm_X} (hx : mk_x x) : ∀ j : Nat, ¬ (fw_X11_restore x) 83 j := by
  have kx := kn_x hx
  intro j
  unfold fw_X11_restore
  omega
theorem nw_X11_restore_0 {x : mm_X} (hx : mk_x x) : ¬ (fw_X11_restore x) 0 0 := by
  have kx := kn_x hx
  unfold fw_X11_restore
  omega
theorem nw_X12_restore_82 {x : mm_X} (hx : mk_x x) : ¬ (fw_X12_restore x) 82 1 := by
  have kx := kn_x hx
  unfold fw_X12_restore
  omega
theorem nw_X12_restore_83 {x : mm_X} (hx : mk_x x) : ∀ j : Nat, ¬ (fw_X12_restore x) 83 j := by
  have kx := kn_x hx
  intro j
  unfold fw_X12_restore
  omega
theorem nw_X12_restore_0 {x : mm_X} (hx : mk_x x) : ¬ (fw_X12_restore x) 0 0 := by
  have kx := kn_x hx
  unfold fw_X12_restore
  omega
theorem nw_X12_restore_151 {x : mm_X} (hx : mk_x x) : ∀ j : Nat, ¬ (fw_X12_restore x) 151 j := by
  have kx := kn_x hx
  intro j
  unfold fw_X12_restore
  omega
theorem nw_X12_restore_24 {x : mm_X} (hx : mk_x x) : ¬ (fw_X12_restore x) 137 24 := by
  have kx := kn_x hx
  unfold fw_X12_restore
  omega
theorem nw_X12_restore_2000 {x : mm_X} (hx : mk_x x) : ∀ k j : Nat, 2000 ≤ k → ¬ (fw_X12_restore x) k j := by
  have kx := kn_x hx
  intro k j hk
  unfold fw_X12_restore
  omega
theorem nw_X12_restore_15 {x : mm_X} (hx : mk_x x) : ¬ (fw_X12_restore x) 137 15 := by
  have kx := kn_x hx
  unfold fw_X12_restore
  omega
theorem nw_X12_restore_149 {x : mm_X} (hx : mk_x x) : ∀ j : Nat, ¬ (fw_X12_restore x) 149 j := by
  have kx := kn_x hx
  intro j
  unfold fw_X12_restore
  omega
theorem nw_X12_restore_142 {x : mm_X} (hx : mk_x x) : ∀ j : Nat, ¬ (fw_X12_restore x) 142 j := by
  have kx := kn_x hx
  intro j
  unfold fw_X12_restore
  omega
theorem nw_X12_restore_140 {x : mm_X} (hx : mk_x x) : ∀ j : Nat, j < 4 → ¬ (fw_X12_restore x) 140 j := by
  have kx := kn_x hx
  intro j hj
  unfold fw_X12_restore
  omega
theorem w_L_baggage {d : Nat} (hd : 16 ≤ d) {x : mm_X} (hx : mk_x x) {g : mz_G} (hI : mz_inv g) {a1 : Int} (l_a1 : -2147483648 ≤ a1) (u_a1 : a1 ≤ 2147483647) {Q : (Option Value ⊕ Nat) → mm_H → Prop} (hQ : ∀ (r : Int) (g1 : mz_G) (x1 : mm_X), mz_inv g1 → mz_xx x x1 → bg3 x a1 g r g1 x1 → Q (.inl (some (.int (Int32.ofInt r)))) (mz_mk g1 x1)) : mm_C d 301 [.ref 0, .int (Int32.ofInt a1), .ref 179] (mz_mk g x) Q := by
  have kx := kn_x hx
  refine ⟨mmL_baggage, [some (.ref 0), some (.int (Int32.ofInt a1)), some (.ref 179), none], rfl, rfl, ?_⟩
  refine mm_g 4 (pc1 := 4) (lo1 := [some (.ref 0), some (.int (Int32.ofInt a1)), some (.ref 179), none]) (st1 := [.int (Int32.ofInt a1), .ref 0, .int (Int32.ofInt 0), .ref 179]) (H1 := mz_mk g x) rfl ?_
  refine mz_cvh rfl mt_13_7 rfl rfl (Nat.le_of_ble_eq_true rfl) (by omega) rfl nh_X11_baggage (f_X11_baggage (by omega) hx hI l_a1 u_a1 (fun r g1 x1 hx1 hq1 hI1 hf1 l_r u_r hp0 hp1 e_ => ?_) (fun e_ => (mm_HQ_n (E := 1) (hp := 12) (k := 3) (lo2 := [some (.ref 0), some (.int (Int32.ofInt a1)), some (.ref 179), none]) rfl rfl rfl (Nat.le_of_ble_eq_true rfl) rfl (mm_g 1 (pc1 := 14) (lo1 := [some (.ref 0), some (.int (Int32.ofInt a1)), some (.ref 179), none]) (st1 := [.int (Int32.ofInt 1)]) (H1 := mz_mk g (mz_tx x)) rfl (mm_rt rfl rfl (hQ 1 g (mz_tx x) hI (mz_xx_tx hx) (bg3_x e_)))))))
  show mm_W d mmL_baggage 7 [some (.ref 0), some (.int (Int32.ofInt a1)), some (.ref 179), none] [.int (Int32.ofInt r), .int (Int32.ofInt 0), .ref 179] (mz_mk g1 x1) Q
  refine mz_i2l rfl ⟨by omega, by omega⟩ ?_
  refine mz_las rfl ?_
  refine mz_gt (tgt := 15) rfl rfl ?_
  exact mm_g 1 (pc1 := 16) (lo1 := [some (.ref 0), some (.int (Int32.ofInt a1)), some (.ref 179), none]) (st1 := [.int (Int32.ofInt 0)]) (H1 := mz_mk g1 (mz_lx x1 (Int64.ofInt r))) rfl (mm_rt rfl rfl (hQ 0 g1 (mz_lx x1 (Int64.ofInt r)) hI1 (mz_xx_lx hx1 hq1 _) ⟨fun k j hk => hf1 k j (nw_X11_baggage_137 hx k j hk), fun j => hf1 83 j (nw_X11_baggage_83 hx j), Or.inl ⟨rfl, hp1.1, hp1.2, hp0, r, x1, e_, mz_lx_at _ _⟩⟩))
theorem w_L_count {d : Nat} (hd : 16 ≤ d) {x : mm_X} (hx : mk_x x) {g : mz_G} (hI : mz_inv g) {a1 : Int} (l_a1 : -2147483648 ≤ a1) (u_a1 : a1 ≤ 2147483647) {Q : (Option Value ⊕ Nat) → mm_H → Prop} (hQ : ∀ (r : Int) (g1 : mz_G) (x1 : mm_X), mz_inv g1 → mz_xx x x1 → mz_sm g g1 → u4 g g1 → Q (.inl (some (.int (Int32.ofInt r)))) (mz_mk g1 x1)) : mm_C d 302 [.ref 0, .int (Int32.ofInt a1), .ref 179] (mz_mk g x) Q := by
  have kx := kn_x hx
  refine ⟨mmL_count, [some (.ref 0), some (.int (Int32.ofInt a1)), some (.ref 179), none], rfl, rfl, ?_⟩
  refine mm_g 4 (pc1 := 4) (lo1 := [some (.ref 0), some (.int (Int32.ofInt a1)), some (.ref 179), none]) (st1 := [.int (Int32.ofInt a1), .ref 0, .int (Int32.ofInt 0), .ref 179]) (H1 := mz_mk g x) rfl ?_
  refine mz_cvh rfl mt_13_15 rfl rfl (Nat.le_of_ble_eq_true rfl) (by omega) rfl nh_X11_count (f_X11_count (by omega) hx hI l_a1 u_a1 (fun r l_r u_r e_ => ?_) (fun e_ => (mm_HQ_n (E := 0) (hp := 12) (k := 3) (lo2 := [some (.ref 0), some (.int (Int32.ofInt a1)), some (.ref 179), none]) rfl rfl rfl (Nat.le_of_ble_eq_true rfl) rfl (mm_g 1 (pc1 := 14) (lo1 := [some (.ref 0), some (.int (Int32.ofInt a1)), some (.ref 179), none]) (st1 := [.int (Int32.ofInt 1)]) (H1 := mz_mk g (mz_tx x)) rfl (mm_rt rfl rfl (hQ 1 g (mz_tx x) hI (mz_xx_tx hx) (mz_sm_rf g) (u4_rf g)))))))
  show mm_W d mmL_count 7 [some (.ref 0), some (.int (Int32.ofInt a1)), some (.ref 179), none] [.int (Int32.ofInt r), .int (Int32.ofInt 0), .ref 179] (mz_mk g x) Q
  refine mz_i2l rfl ⟨by omega, by omega⟩ ?_
  refine mz_las rfl ?_
  refine mz_gt (tgt := 15) rfl rfl ?_
  exact mm_g 1 (pc1 := 16) (lo1 := [some (.ref 0), some (.int (Int32.ofInt a1)), some (.ref 179), none]) (st1 := [.int (Int32.ofInt 0)]) (H1 := mz_mk g (mz_lx x (Int64.ofInt r))) rfl (mm_rt rfl rfl (hQ 0 g (mz_lx x (Int64.ofInt r)) hI (mz_xx_lx hx rfl _) (mz_sm_rf g) (u4_rf g)))
theorem w_L_word {d : Nat} (hd : 14 ≤ d) {x : mm_X} (hx : mk_x x) {g : mz_G} (hI : mz_inv g) {a1 : Int} (l_a1 : -2147483648 ≤ a1) (u_a1 : a1 ≤ 2147483647) {a2 : Int} (l_a2 : -2147483648 ≤ a2) (u_a2 : a2 ≤ 2147483647) {Q : (Option Value ⊕ Nat) → mm_H → Prop} (hQ : ∀ (r : Int) (g1 : mz_G) (x1 : mm_X), mz_inv g1 → mz_xx x x1 → mz_sm g g1 → u4 g g1 → Q (.inl (some (.int (Int32.ofInt r)))) (mz_mk g1 x1)) : mm_C d 303 [.ref 0, .int (Int32.ofInt a1), .int (Int32.ofInt a2), .ref 179] (mz_mk g x) Q := by
  have kx := kn_x hx
  refine ⟨mmL_word, [some (.ref 0), some (.int (Int32.ofInt a1)), some (.int (Int32.ofInt a2)), some (.ref 179), none], rfl, rfl, ?_⟩
  refine mm_g 5 (pc1 := 5) (lo1 := [some (.ref 0), some (.int (Int32.ofInt a1)), some (.int (Int32.ofInt a2)), some (.ref 179), none]) (st1 := [.int (Int32.ofInt a2), .int (Int32.ofInt a1), .ref 0, .int (Int32.ofInt 0), .ref 179]) (H1 := mz_mk g x) rfl ?_
  refine mz_cvh rfl mt_13_20 rfl rfl (Nat.le_of_ble_eq_true rfl) (by omega) rfl nh_X11_word (f_X11_word (by omega) hx hI l_a1 u_a1 l_a2 u_a2 (fun r l_r u_r e_ => ?_) (fun e_ => (mm_HQ_w (E := 0) (hp := 13) (k := 4) (lo2 := [some (.ref 0), some (.int (Int32.ofInt a1)), some (.int (Int32.ofInt a2)), some (.ref 179), none]) rfl rfl rfl (Nat.le_of_ble_eq_true rfl) rfl (mm_g 1 (pc1 := 16) (lo1 := [some (.ref 0), some (.int (Int32.ofInt a1)), some (.int (Int32.ofInt a2)), some (.ref 179), none]) (st1 := [.int (Int32.ofInt 1)]) (H1 := mz_mk g (mz_tx x)) rfl (mm_rt rfl rfl (hQ 1 g (mz_tx x) hI (mz_xx_tx hx) (mz_sm_rf g) (u4_rf g)))))))
  show mm_W d mmL_word 8 [some (.ref 0), some (.int (Int32.ofInt a1)), some (.int (Int32.ofInt a2)), some (.ref 179), none] [.int (Int32.ofInt r), .int (Int32.ofInt 0), .ref 179] (mz_mk g x) Q
  refine mz_i2l rfl ⟨by omega, by omega⟩ ?_
  refine mz_las rfl ?_
  refine mz_gt (tgt := 17) rfl rfl ?_
  exact mm_g 1 (pc1 := 18) (lo1 := [some (.ref 0), some (.int (Int32.ofInt a1)), some (.int (Int32.ofInt a2)), some (.ref 179), none]) (st1 := [.int (Int32.ofInt 0)]) (H1 := mz_mk g (mz_lx x (Int64.ofInt r))) rfl (mm_rt rfl rfl (hQ 0 g (mz_lx x (Int64.ofInt r)) hI (mz_xx_lx hx rfl _) (mz_sm_rf g) (u4_rf g)))
theorem w_L_letter {d : Nat} (hd : 14 ≤ d) {x : mm_X} (hx : mk_x x) {g : mz_G} (hI : mz_inv g) {a1 : Int} (l_a1 : -2147483648 ≤ a1) (u_a1 : a1 ≤ 2147483647) {a2 : Int} (l_a2 : -2147483648 ≤ a2) (u_a2 : a2 ≤ 2147483647) {Q : (Option Value ⊕ Nat) → mm_H → Prop} (hQ : ∀ (r : Int) (g1 : mz_G) (x1 : mm_X), mz_inv g1 → mz_xx x x1 → mz_sm g g1 → u4 g g1 → Q (.inl (some (.int (Int32.ofInt r)))) (mz_mk g1 x1)) : mm_C d 304 [.ref 0, .int (Int32.ofInt a1), .int (Int32.ofInt a2), .ref 179] (mz_mk g x) Q := by
  have kx := kn_x hx
  refine ⟨mmL_letter, [some (.ref 0), some (.int (Int32.ofInt a1)), some (.int (Int32.ofInt a2)), some (.ref 179), none], rfl, rfl, ?_⟩
  refine mm_g 5 (pc1 := 5) (lo1 := [some (.ref 0), some (.int (Int32.ofInt a1)), some (.int (Int32.ofInt a2)), some (.ref 179), none]) (st1 := [.int (Int32.ofInt a2), .int (Int32.ofInt a1), .ref 0, .int (Int32.ofInt 0), .ref 179]) (H1 := mz_mk g x) rfl ?_
  refine mz_cvh rfl mt_13_24 rfl rfl (Nat.le_of_ble_eq_true rfl) (by omega) rfl nh_X11_letter (f_X11_letter (by omega) hx hI l_a1 u_a1 l_a2 u_a2 (fun r l_r u_r e_ => ?_) (fun e_ => (mm_HQ_w (E := 0) (hp := 13) (k := 4) (lo2 := [some (.ref 0), some (.int (Int32.ofInt a1)), some (.int (Int32.ofInt a2)), some (.ref 179), none]) rfl rfl rfl (Nat.le_of_ble_eq_true rfl) rfl (mm_g 1 (pc1 := 16) (lo1 := [some (.ref 0), some (.int (Int32.ofInt a1)), some (.int (Int32.ofInt a2)), some (.ref 179), none]) (st1 := [.int (Int32.ofInt 1)]) (H1 := mz_mk g (mz_tx x)) rfl (mm_rt rfl rfl (hQ 1 g (mz_tx x) hI (mz_xx_tx hx) (mz_sm_rf g) (u4_rf g)))))))
  show mm_W d mmL_letter 8 [some (.ref 0), some (.int (Int32.ofInt a1)), some (.int (Int32.ofInt a2)), some (.ref 179), none] [.int (Int32.ofInt r), .int (Int32.ofInt 0), .ref 179] (mz_mk g x) Q
  refine mz_i2l rfl ⟨by omega, by omega⟩ ?_
  refine mz_las rfl ?_
  refine mz_gt (tgt := 17) rfl rfl ?_
  exact mm_g 1 (pc1 := 18) (lo1 := [some (.ref 0), some (.int (Int32.ofInt a1)), some (.int (Int32.ofInt a2)), some (.ref 179), none]) (st1 := [.int (Int32.ofInt 0)]) (H1 := mz_mk g (mz_lx x (Int64.ofInt r))) rfl (mm_rt rfl rfl (hQ 0 g (mz_lx x (Int64.ofInt r)) hI (mz_xx_lx hx rfl _) (mz_sm_rf g) (u4_rf g)))
theorem w_L_trunk {d : Nat} (hd : 16 ≤ d) {x : mm_X} (hx : mk_x x) {g : mz_G} (hI : mz_inv g) {a1 : Int} (l_a1 : -2147483648 ≤ a1) (u_a1 : a1 ≤ 2147483647) {a2 : Int} (l_a2 : -2147483648 ≤ a2) (u_a2 : a2 ≤ 2147483647) {Q : (Option Value ⊕ Nat) → mm_H → Prop} (hQ : ∀ (r : Int) (g1 : mz_G) (x1 : mm_X), mz_inv g1 → mz_xx x x1 → mz_sm g g1 → u4 g g1 → Q (.inl (some (.int (Int32.ofInt r)))) (mz_mk g1 x1)) : mm_C d 305 [.ref 0, .int (Int32.ofInt a1), .int (Int32.ofInt a2), .ref 179] (mz_mk g x) Q := by
  have kx := kn_x hx
  refine ⟨mmL_trunk, [some (.ref 0), some (.int (Int32.ofInt a1)), some (.int (Int32.ofInt a2)), some (.ref 179), none], rfl, rfl, ?_⟩
  refine mm_g 5 (pc1 := 5) (lo1 := [some (.ref 0), some (.int (Int32.ofInt a1)), some (.int (Int32.ofInt a2)), some (.ref 179), none]) (st1 := [.int (Int32.ofInt a2), .int (Int32.ofInt a1), .ref 0, .int (Int32.ofInt 0), .ref 179]) (H1 := mz_mk g x) rfl ?_
  refine mz_cvh rfl mt_13_27 rfl rfl (Nat.le_of_ble_eq_true rfl) (by omega) rfl nh_X11_trunk (f_X11_trunk (by omega) hx hI l_a1 u_a1 l_a2 u_a2 (fun r g1 hI1 hf1 l_r u_r e_ => ?_) (fun e_ => (mm_HQ_w (E := 0) (hp := 13) (k := 4) (lo2 := [some (.ref 0), some (.int (Int32.ofInt a1)), some (.int (Int32.ofInt a2)), some (.ref 179), none]) rfl rfl rfl (Nat.le_of_ble_eq_true rfl) rfl (mm_g 1 (pc1 := 16) (lo1 := [some (.ref 0), some (.int (Int32.ofInt a1)), some (.int (Int32.ofInt a2)), some (.ref 179), none]) (st1 := [.int (Int32.ofInt 1)]) (H1 := mz_mk g (mz_tx x)) rfl (mm_rt rfl rfl (hQ 1 g (mz_tx x) hI (mz_xx_tx hx) (mz_sm_rf g) (u4_rf g)))))))
  show mm_W d mmL_trunk 8 [some (.ref 0), some (.int (Int32.ofInt a1)), some (.int (Int32.ofInt a2)), some (.ref 179), none] [.int (Int32.ofInt r), .int (Int32.ofInt 0), .ref 179] (mz_mk g1 x) Q
  refine mz_i2l rfl ⟨by omega, by omega⟩ ?_
  refine mz_las rfl ?_
  refine mz_gt (tgt := 17) rfl rfl ?_
  exact mm_g 1 (pc1 := 18) (lo1 := [some (.ref 0), some (.int (Int32.ofInt a1)), some (.int (Int32.ofInt a2)), some (.ref 179), none]) (st1 := [.int (Int32.ofInt 0)]) (H1 := mz_mk g1 (mz_lx x (Int64.ofInt r))) rfl (mm_rt rfl rfl (hQ 0 g1 (mz_lx x (Int64.ofInt r)) hI1 (mz_xx_lx hx rfl _) ⟨fun k j hk => hf1 k j (nw_X11_trunk_137 hx k j hk), hf1 82 1 (nw_X11_trunk_82 hx)⟩ ⟨fun j => hf1 83 j (nw_X11_trunk_83 hx j), hf1 0 0 (nw_X11_trunk_0 hx)⟩))
theorem w_L_draw {d : Nat} (hd : 14 ≤ d) {x : mm_X} (hx : mk_x x) {g : mz_G} (hI : mz_inv g) {a1 : Int} (l_a1 : -2147483648 ≤ a1) (u_a1 : a1 ≤ 2147483647) {a2 : Int} (l_a2 : -2147483648 ≤ a2) (u_a2 : a2 ≤ 2147483647) {Q : (Option Value ⊕ Nat) → mm_H → Prop} (hQ : ∀ (r : Int) (g1 : mz_G) (x1 : mm_X), mz_inv g1 → mz_xx x x1 → mz_sm g g1 → u4 g g1 → Q (.inl (some (.int (Int32.ofInt r)))) (mz_mk g1 x1)) : mm_C d 306 [.ref 0, .int (Int32.ofInt a1), .int (Int32.ofInt a2), .ref 179] (mz_mk g x) Q := by
  have kx := kn_x hx
  refine ⟨mmL_draw, [some (.ref 0), some (.int (Int32.ofInt a1)), some (.int (Int32.ofInt a2)), some (.ref 179), none], rfl, rfl, ?_⟩
  refine mm_g 5 (pc1 := 5) (lo1 := [some (.ref 0), some (.int (Int32.ofInt a1)), some (.int (Int32.ofInt a2)), some (.ref 179), none]) (st1 := [.int (Int32.ofInt a2), .int (Int32.ofInt a1), .ref 0, .int (Int32.ofInt 0), .ref 179]) (H1 := mz_mk g x) rfl ?_
  refine mz_cvh rfl mt_13_30 rfl rfl (Nat.le_of_ble_eq_true rfl) (by omega) rfl nh_X11_draw (f_X11_draw (by omega) hx hI l_a1 u_a1 l_a2 u_a2 (fun r g1 hI1 hf1 l_r u_r e_ => ?_) (fun e_ => (mm_HQ_w (E := 0) (hp := 13) (k := 4) (lo2 := [some (.ref 0), some (.int (Int32.ofInt a1)), some (.int (Int32.ofInt a2)), some (.ref 179), none]) rfl rfl rfl (Nat.le_of_ble_eq_true rfl) rfl (mm_g 1 (pc1 := 16) (lo1 := [some (.ref 0), some (.int (Int32.ofInt a1)), some (.int (Int32.ofInt a2)), some (.ref 179), none]) (st1 := [.int (Int32.ofInt 1)]) (H1 := mz_mk g (mz_tx x)) rfl (mm_rt rfl rfl (hQ 1 g (mz_tx x) hI (mz_xx_tx hx) (mz_sm_rf g) (u4_rf g)))))))
  show mm_W d mmL_draw 8 [some (.ref 0), some (.int (Int32.ofInt a1)), some (.int (Int32.ofInt a2)), some (.ref 179), none] [.int (Int32.ofInt r), .int (Int32.ofInt 0), .ref 179] (mz_mk g1 x) Q
  refine mz_i2l rfl ⟨by omega, by omega⟩ ?_
  refine mz_las rfl ?_
  refine mz_gt (tgt := 17) rfl rfl ?_
  exact mm_g 1 (pc1 := 18) (lo1 := [some (.ref 0), some (.int (Int32.ofInt a1)), some (.int (Int32.ofInt a2)), some (.ref 179), none]) (st1 := [.int (Int32.ofInt 0)]) (H1 := mz_mk g1 (mz_lx x (Int64.ofInt r))) rfl (mm_rt rfl rfl (hQ 0 g1 (mz_lx x (Int64.ofInt r)) hI1 (mz_xx_lx hx rfl _) ⟨fun k j hk => hf1 k j (nw_X11_draw_137 hx k j hk), hf1 82 1 (nw_X11_draw_82 hx)⟩ ⟨fun j => hf1 83 j (nw_X11_draw_83 hx j), hf1 0 0 (nw_X11_draw_0 hx)⟩))
theorem w_L_pull {d : Nat} (hd : 15 ≤ d) {x : mm_X} (hx : mk_x x) {g : mz_G} (hI : mz_inv g) {a1 : Int} (l_a1 : -2147483648 ≤ a1) (u_a1 : a1 ≤ 2147483647) {a2 : Int} (l_a2 : -2147483648 ≤ a2) (u_a2 : a2 ≤ 2147483647) {Q : (Option Value ⊕ Nat) → mm_H → Prop} (hQ : ∀ (r : Int) (g1 : mz_G) (x1 : mm_X), mz_inv g1 → mz_xx x x1 → mz_sm g g1 → u4 g g1 → Q (.inl (some (.int (Int32.ofInt r)))) (mz_mk g1 x1)) : mm_C d 307 [.ref 0, .int (Int32.ofInt a1), .int (Int32.ofInt a2), .ref 179] (mz_mk g x) Q := by
  have kx := kn_x hx
  refine ⟨mmL_pull, [some (.ref 0), some (.int (Int32.ofInt a1)), some (.int (Int32.ofInt a2)), some (.ref 179), none], rfl, rfl, ?_⟩
  refine mm_g 5 (pc1 := 5) (lo1 := [some (.ref 0), some (.int (Int32.ofInt a1)), some (.int (Int32.ofInt a2)), some (.ref 179), none]) (st1 := [.int (Int32.ofInt a2), .int (Int32.ofInt a1), .ref 0, .int (Int32.ofInt 0), .ref 179]) (H1 := mz_mk g x) rfl ?_
  refine mz_cvh rfl mt_13_33 rfl rfl (Nat.le_of_ble_eq_true rfl) (by omega) rfl nh_X11_pull (f_X11_pull (by omega) hx hI l_a1 u_a1 l_a2 u_a2 (fun r g1 hI1 hf1 l_r u_r e_ => ?_) (fun e_ => (mm_HQ_w (E := 0) (hp := 13) (k := 4) (lo2 := [some (.ref 0), some (.int (Int32.ofInt a1)), some (.int (Int32.ofInt a2)), some (.ref 179), none]) rfl rfl rfl (Nat.le_of_ble_eq_true rfl) rfl (mm_g 1 (pc1 := 16) (lo1 := [some (.ref 0), some (.int (Int32.ofInt a1)), some (.int (Int32.ofInt a2)), some (.ref 179), none]) (st1 := [.int (Int32.ofInt 1)]) (H1 := mz_mk g (mz_tx x)) rfl (mm_rt rfl rfl (hQ 1 g (mz_tx x) hI (mz_xx_tx hx) (mz_sm_rf g) (u4_rf g)))))))
  show mm_W d mmL_pull 8 [some (.ref 0), some (.int (Int32.ofInt a1)), some (.int (Int32.ofInt a2)), some (.ref 179), none] [.int (Int32.ofInt r), .int (Int32.ofInt 0), .ref 179] (mz_mk g1 x) Q
  refine mz_i2l rfl ⟨by omega, by omega⟩ ?_
  refine mz_las rfl ?_
  refine mz_gt (tgt := 17) rfl rfl ?_
  exact mm_g 1 (pc1 := 18) (lo1 := [some (.ref 0), some (.int (Int32.ofInt a1)), some (.int (Int32.ofInt a2)), some (.ref 179), none]) (st1 := [.int (Int32.ofInt 0)]) (H1 := mz_mk g1 (mz_lx x (Int64.ofInt r))) rfl (mm_rt rfl rfl (hQ 0 g1 (mz_lx x (Int64.ofInt r)) hI1 (mz_xx_lx hx rfl _) ⟨fun k j hk => hf1 k j (nw_X11_pull_137 hx k j hk), hf1 82 1 (nw_X11_pull_82 hx)⟩ ⟨fun j => hf1 83 j (nw_X11_pull_83 hx j), hf1 0 0 (nw_X11_pull_0 hx)⟩))
theorem w_L_turn {d : Nat} (hd : 14 ≤ d) {x : mm_X} (hx : mk_x x) {g : mz_G} (hI : mz_inv g) {a1 : Int} (l_a1 : -2147483648 ≤ a1) (u_a1 : a1 ≤ 2147483647) {Q : (Option Value ⊕ Nat) → mm_H → Prop} (hQ : ∀ (r : Int) (g1 : mz_G) (x1 : mm_X), mz_inv g1 → mz_xx x x1 → mz_sm g g1 → u4 g g1 → Q (.inl (some (.int (Int32.ofInt r)))) (mz_mk g1 x1)) : mm_C d 308 [.ref 0, .int (Int32.ofInt a1), .ref 179] (mz_mk g x) Q := by
  have kx := kn_x hx
  refine ⟨mmL_turn, [some (.ref 0), some (.int (Int32.ofInt a1)), some (.ref 179), none], rfl, rfl, ?_⟩
  refine mm_g 4 (pc1 := 4) (lo1 := [some (.ref 0), some (.int (Int32.ofInt a1)), some (.ref 179), none]) (st1 := [.int (Int32.ofInt a1), .ref 0, .int (Int32.ofInt 0), .ref 179]) (H1 := mz_mk g x) rfl ?_
  refine mz_cvh rfl mt_13_36 rfl rfl (Nat.le_of_ble_eq_true rfl) (by omega) rfl nh_X11_turn (f_X11_turn (by omega) hx hI l_a1 u_a1 (fun r g1 hI1 hf1 l_r u_r e_ => ?_) (fun e_ => (mm_HQ_n (E := 0) (hp := 12) (k := 3) (lo2 := [some (.ref 0), some (.int (Int32.ofInt a1)), some (.ref 179), none]) rfl rfl rfl (Nat.le_of_ble_eq_true rfl) rfl (mm_g 1 (pc1 := 14) (lo1 := [some (.ref 0), some (.int (Int32.ofInt a1)), some (.ref 179), none]) (st1 := [.int (Int32.ofInt 1)]) (H1 := mz_mk g (mz_tx x)) rfl (mm_rt rfl rfl (hQ 1 g (mz_tx x) hI (mz_xx_tx hx) (mz_sm_rf g) (u4_rf g)))))))
  show mm_W d mmL_turn 7 [some (.ref 0), some (.int (Int32.ofInt a1)), some (.ref 179), none] [.int (Int32.ofInt r), .int (Int32.ofInt 0), .ref 179] (mz_mk g1 x) Q
  refine mz_i2l rfl ⟨by omega, by omega⟩ ?_
  refine mz_las rfl ?_
  refine mz_gt (tgt := 15) rfl rfl ?_
  exact mm_g 1 (pc1 := 16) (lo1 := [some (.ref 0), some (.int (Int32.ofInt a1)), some (.ref 179), none]) (st1 := [.int (Int32.ofInt 0)]) (H1 := mz_mk g1 (mz_lx x (Int64.ofInt r))) rfl (mm_rt rfl rfl (hQ 0 g1 (mz_lx x (Int64.ofInt r)) hI1 (mz_xx_lx hx rfl _) ⟨fun k j hk => hf1 k j (nw_X11_turn_137 hx k j hk), hf1 82 1 (nw_X11_turn_82 hx)⟩ ⟨fun j => hf1 83 j (nw_X11_turn_83 hx j), hf1 0 0 (nw_X11_turn_0 hx)⟩))
theorem w_L_pack {d : Nat} (hd : 14 ≤ d) {x : mm_X} (hx : mk_x x) {g : mz_G} (hI : mz_inv g) {a1 : Int} (l_a1 : -2147483648 ≤ a1) (u_a1 : a1 ≤ 2147483647) {a2 : Int} (l_a2 : -2147483648 ≤ a2) (u_a2 : a2 ≤ 2147483647) {a3 : Int} (l_a3 : -2147483648 ≤ a3) (u_a3 : a3 ≤ 2147483647) {Q : (Option Value ⊕ Nat) → mm_H → Prop} (hQ : ∀ (r : Int) (g1 : mz_G) (x1 : mm_X), mz_inv g1 → mz_xx x x1 → mz_sm g g1 → u4 g g1 → Q (.inl (some (.int (Int32.ofInt r)))) (mz_mk g1 x1)) : mm_C d 309 [.ref 0, .int (Int32.ofInt a1), .int (Int32.ofInt a2), .int (Int32.ofInt a3), .ref 179] (mz_mk g x) Q := by
  have kx := kn_x hx
  refine ⟨mmL_pack, [some (.ref 0), some (.int (Int32.ofInt a1)), some (.int (Int32.ofInt a2)), some (.int (Int32.ofInt a3)), some (.ref 179), none], rfl, rfl, ?_⟩
  refine mm_g 6 (pc1 := 7) (lo1 := [some (.ref 0), some (.int (Int32.ofInt a1)), some (.int (Int32.ofInt a2)), some (.int (Int32.ofInt a3)), some (.ref 179), none]) (st1 := [.int (Int32.ofInt a3), .int (Int32.ofInt a2), .int (Int32.ofInt a1), .ref 0, .int (Int32.ofInt 0), .ref 179]) (H1 := mz_mk g x) rfl ?_
  refine mz_cvh rfl mt_13_39 rfl rfl (Nat.le_of_ble_eq_true rfl) (by omega) rfl nh_X11_pack (f_X11_pack (by omega) hx hI l_a1 u_a1 l_a2 u_a2 l_a3 u_a3 (fun r g1 hI1 hf1 l_r u_r e_ => ?_) (fun e_ => (mm_HQ_w (E := 0) (hp := 15) (k := 5) (lo2 := [some (.ref 0), some (.int (Int32.ofInt a1)), some (.int (Int32.ofInt a2)), some (.int (Int32.ofInt a3)), some (.ref 179), none]) rfl rfl rfl (Nat.le_of_ble_eq_true rfl) rfl (mm_g 1 (pc1 := 18) (lo1 := [some (.ref 0), some (.int (Int32.ofInt a1)), some (.int (Int32.ofInt a2)), some (.int (Int32.ofInt a3)), some (.ref 179), none]) (st1 := [.int (Int32.ofInt 1)]) (H1 := mz_mk g (mz_tx x)) rfl (mm_rt rfl rfl (hQ 1 g (mz_tx x) hI (mz_xx_tx hx) (mz_sm_rf g) (u4_rf g)))))))
  show mm_W d mmL_pack 10 [some (.ref 0), some (.int (Int32.ofInt a1)), some (.int (Int32.ofInt a2)), some (.int (Int32.ofInt a3)), some (.ref 179), none] [.int (Int32.ofInt r), .int (Int32.ofInt 0), .ref 179] (mz_mk g1 x) Q
  refine mz_i2l rfl ⟨by omega, by omega⟩ ?_
  refine mz_las rfl ?_
  refine mz_gt (tgt := 19) rfl rfl ?_
  exact mm_g 1 (pc1 := 20) (lo1 := [some (.ref 0), some (.int (Int32.ofInt a1)), some (.int (Int32.ofInt a2)), some (.int (Int32.ofInt a3)), some (.ref 179), none]) (st1 := [.int (Int32.ofInt 0)]) (H1 := mz_mk g1 (mz_lx x (Int64.ofInt r))) rfl (mm_rt rfl rfl (hQ 0 g1 (mz_lx x (Int64.ofInt r)) hI1 (mz_xx_lx hx rfl _) ⟨fun k j hk => hf1 k j (nw_X11_pack_137 hx k j hk), hf1 82 1 (nw_X11_pack_82 hx)⟩ ⟨fun j => hf1 83 j (nw_X11_pack_83 hx j), hf1 0 0 (nw_X11_pack_0 hx)⟩))
theorem w_L_then {d : Nat} (hd : 17 ≤ d) {x : mm_X} (hx : mk_x x) {g : mz_G} (hI : mz_inv g) {a1 : Int} (l_a1 : -2147483648 ≤ a1) (u_a1 : a1 ≤ 2147483647) {a2 : Int} (l_a2 : -2147483648 ≤ a2) (u_a2 : a2 ≤ 2147483647) {a3 : Int} (l_a3 : -2147483648 ≤ a3) (u_a3 : a3 ≤ 2147483647) {Q : (Option Value ⊕ Nat) → mm_H → Prop} (hQ : ∀ (r : Int) (g1 : mz_G) (x1 : mm_X), mz_inv g1 → mz_xx x x1 → mz_sm g g1 → u4 g g1 → Q (.inl (some (.int (Int32.ofInt r)))) (mz_mk g1 x1)) : mm_C d 310 [.ref 0, .int (Int32.ofInt a1), .int (Int32.ofInt a2), .int (Int32.ofInt a3), .ref 179] (mz_mk g x) Q := by
  have kx := kn_x hx
  refine ⟨mmL_then, [some (.ref 0), some (.int (Int32.ofInt a1)), some (.int (Int32.ofInt a2)), some (.int (Int32.ofInt a3)), some (.ref 179), none], rfl, rfl, ?_⟩
  refine mm_g 6 (pc1 := 7) (lo1 := [some (.ref 0), some (.int (Int32.ofInt a1)), some (.int (Int32.ofInt a2)), some (.int (Int32.ofInt a3)), some (.ref 179), none]) (st1 := [.int (Int32.ofInt a3), .int (Int32.ofInt a2), .int (Int32.ofInt a1), .ref 0, .int (Int32.ofInt 0), .ref 179]) (H1 := mz_mk g x) rfl ?_
  refine mz_cvh rfl mt_13_43 rfl rfl (Nat.le_of_ble_eq_true rfl) (by omega) rfl nh_X11_then (f_X11_then (by omega) hx hI l_a1 u_a1 l_a2 u_a2 l_a3 u_a3 (fun r g1 hI1 hf1 l_r u_r e_ => ?_) (fun e_ => (mm_HQ_w (E := 0) (hp := 15) (k := 5) (lo2 := [some (.ref 0), some (.int (Int32.ofInt a1)), some (.int (Int32.ofInt a2)), some (.int (Int32.ofInt a3)), some (.ref 179), none]) rfl rfl rfl (Nat.le_of_ble_eq_true rfl) rfl (mm_g 1 (pc1 := 18) (lo1 := [some (.ref 0), some (.int (Int32.ofInt a1)), some (.int (Int32.ofInt a2)), some (.int (Int32.ofInt a3)), some (.ref 179), none]) (st1 := [.int (Int32.ofInt 1)]) (H1 := mz_mk g (mz_tx x)) rfl (mm_rt rfl rfl (hQ 1 g (mz_tx x) hI (mz_xx_tx hx) (mz_sm_rf g) (u4_rf g)))))) (fun e_ => (mm_HQ_w (E := 1) (hp := 19) (k := 5) (lo2 := [some (.ref 0), some (.int (Int32.ofInt a1)), some (.int (Int32.ofInt a2)), some (.int (Int32.ofInt a3)), some (.ref 179), none]) rfl rfl rfl (Nat.le_of_ble_eq_true rfl) rfl (mm_g 1 (pc1 := 22) (lo1 := [some (.ref 0), some (.int (Int32.ofInt a1)), some (.int (Int32.ofInt a2)), some (.int (Int32.ofInt a3)), some (.ref 179), none]) (st1 := [.int (Int32.ofInt 2)]) (H1 := mz_mk g (mz_tx x)) rfl (mm_rt rfl rfl (hQ 2 g (mz_tx x) hI (mz_xx_tx hx) (mz_sm_rf g) (u4_rf g)))))))
  show mm_W d mmL_then 10 [some (.ref 0), some (.int (Int32.ofInt a1)), some (.int (Int32.ofInt a2)), some (.int (Int32.ofInt a3)), some (.ref 179), none] [.int (Int32.ofInt r), .int (Int32.ofInt 0), .ref 179] (mz_mk g1 x) Q
  refine mz_i2l rfl ⟨by omega, by omega⟩ ?_
  refine mz_las rfl ?_
  refine mz_gt (tgt := 23) rfl rfl ?_
  exact mm_g 1 (pc1 := 24) (lo1 := [some (.ref 0), some (.int (Int32.ofInt a1)), some (.int (Int32.ofInt a2)), some (.int (Int32.ofInt a3)), some (.ref 179), none]) (st1 := [.int (Int32.ofInt 0)]) (H1 := mz_mk g1 (mz_lx x (Int64.ofInt r))) rfl (mm_rt rfl rfl (hQ 0 g1 (mz_lx x (Int64.ofInt r)) hI1 (mz_xx_lx hx rfl _) ⟨fun k j hk => hf1 k j (nw_X11_then_137 hx k j hk), hf1 82 1 (nw_X11_then_82 hx)⟩ ⟨fun j => hf1 83 j (nw_X11_then_83 hx j), hf1 0 0 (nw_X11_then_0 hx)⟩))
theorem w_L_blend {d : Nat} (hd : 17 ≤ d) {x : mm_X} (hx : mk_x x) {g : mz_G} (hI : mz_inv g) {a1 : Int} (l_a1 : -2147483648 ≤ a1) (u_a1 : a1 ≤ 2147483647) {a2 : Int} (l_a2 : -2147483648 ≤ a2) (u_a2 : a2 ≤ 2147483647) {a3 : Int} (l_a3 : -2147483648 ≤ a3) (u_a3 : a3 ≤ 2147483647) {Q : (Option Value ⊕ Nat) → mm_H → Prop} (hQ : ∀ (r : Int) (g1 : mz_G) (x1 : mm_X), mz_inv g1 → mz_xx x x1 → mz_sm g g1 → u4 g g1 → Q (.inl (some (.int (Int32.ofInt r)))) (mz_mk g1 x1)) : mm_C d 311 [.ref 0, .int (Int32.ofInt a1), .int (Int32.ofInt a2), .int (Int32.ofInt a3), .ref 179] (mz_mk g x) Q := by
  have kx := kn_x hx
  refine ⟨mmL_blend, [some (.ref 0), some (.int (Int32.ofInt a1)), some (.int (Int32.ofInt a2)), some (.int (Int32.ofInt a3)), some (.ref 179), none], rfl, rfl, ?_⟩
  refine mm_g 6 (pc1 := 7) (lo1 := [some (.ref 0), some (.int (Int32.ofInt a1)), some (.int (Int32.ofInt a2)), some (.int (Int32.ofInt a3)), some (.ref 179), none]) (st1 := [.int (Int32.ofInt a3), .int (Int32.ofInt a2), .int (Int32.ofInt a1), .ref 0, .int (Int32.ofInt 0), .ref 179]) (H1 := mz_mk g x) rfl ?_
  refine mz_cvh rfl mt_13_46 rfl rfl (Nat.le_of_ble_eq_true rfl) (by omega) rfl nh_X11_blend (f_X11_blend (by omega) hx hI l_a1 u_a1 l_a2 u_a2 l_a3 u_a3 (fun r g1 hI1 hf1 l_r u_r e_ => ?_) (fun e_ => (mm_HQ_w (E := 0) (hp := 15) (k := 5) (lo2 := [some (.ref 0), some (.int (Int32.ofInt a1)), some (.int (Int32.ofInt a2)), some (.int (Int32.ofInt a3)), some (.ref 179), none]) rfl rfl rfl (Nat.le_of_ble_eq_true rfl) rfl (mm_g 1 (pc1 := 18) (lo1 := [some (.ref 0), some (.int (Int32.ofInt a1)), some (.int (Int32.ofInt a2)), some (.int (Int32.ofInt a3)), some (.ref 179), none]) (st1 := [.int (Int32.ofInt 1)]) (H1 := mz_mk g (mz_tx x)) rfl (mm_rt rfl rfl (hQ 1 g (mz_tx x) hI (mz_xx_tx hx) (mz_sm_rf g) (u4_rf g)))))) (fun e_ => (mm_HQ_w (E := 1) (hp := 19) (k := 5) (lo2 := [some (.ref 0), some (.int (Int32.ofInt a1)), some (.int (Int32.ofInt a2)), some (.int (Int32.ofInt a3)), some (.ref 179), none]) rfl rfl rfl (Nat.le_of_ble_eq_true rfl) rfl (mm_g 1 (pc1 := 22) (lo1 := [some (.ref 0), some (.int (Int32.ofInt a1)), some (.int (Int32.ofInt a2)), some (.int (Int32.ofInt a3)), some (.ref 179), none]) (st1 := [.int (Int32.ofInt 2)]) (H1 := mz_mk g (mz_tx x)) rfl (mm_rt rfl rfl (hQ 2 g (mz_tx x) hI (mz_xx_tx hx) (mz_sm_rf g) (u4_rf g)))))))
  show mm_W d mmL_blend 10 [some (.ref 0), some (.int (Int32.ofInt a1)), some (.int (Int32.ofInt a2)), some (.int (Int32.ofInt a3)), some (.ref 179), none] [.int (Int32.ofInt r), .int (Int32.ofInt 0), .ref 179] (mz_mk g1 x) Q
  refine mz_i2l rfl ⟨by omega, by omega⟩ ?_
  refine mz_las rfl ?_
  refine mz_gt (tgt := 23) rfl rfl ?_
  exact mm_g 1 (pc1 := 24) (lo1 := [some (.ref 0), some (.int (Int32.ofInt a1)), some (.int (Int32.ofInt a2)), some (.int (Int32.ofInt a3)), some (.ref 179), none]) (st1 := [.int (Int32.ofInt 0)]) (H1 := mz_mk g1 (mz_lx x (Int64.ofInt r))) rfl (mm_rt rfl rfl (hQ 0 g1 (mz_lx x (Int64.ofInt r)) hI1 (mz_xx_lx hx rfl _) ⟨fun k j hk => hf1 k j (nw_X11_blend_137 hx k j hk), hf1 82 1 (nw_X11_blend_82 hx)⟩ ⟨fun j => hf1 83 j (nw_X11_blend_83 hx j), hf1 0 0 (nw_X11_blend_0 hx)⟩))
theorem w_L_later {d : Nat} (hd : 17 ≤ d) {x : mm_X} (hx : mk_x x) {g : mz_G} (hI : mz_inv g) {a1 : Int} (l_a1 : -2147483648 ≤ a1) (u_a1 : a1 ≤ 2147483647) {a2 : Int} (l_a2 : -2147483648 ≤ a2) (u_a2 : a2 ≤ 2147483647) {Q : (Option Value ⊕ Nat) → mm_H → Prop} (hQ : ∀ (r : Int) (g1 : mz_G) (x1 : mm_X), mz_inv g1 → mz_xx x x1 → mz_sm g g1 → u4 g g1 → Q (.inl (some (.int (Int32.ofInt r)))) (mz_mk g1 x1)) : mm_C d 312 [.ref 0, .int (Int32.ofInt a1), .int (Int32.ofInt a2), .ref 179] (mz_mk g x) Q := by
  have kx := kn_x hx
  refine ⟨mmL_later, [some (.ref 0), some (.int (Int32.ofInt a1)), some (.int (Int32.ofInt a2)), some (.ref 179), none], rfl, rfl, ?_⟩
  refine mm_g 5 (pc1 := 5) (lo1 := [some (.ref 0), some (.int (Int32.ofInt a1)), some (.int (Int32.ofInt a2)), some (.ref 179), none]) (st1 := [.int (Int32.ofInt a2), .int (Int32.ofInt a1), .ref 0, .int (Int32.ofInt 0), .ref 179]) (H1 := mz_mk g x) rfl ?_
  refine mz_cvh rfl mt_13_49 rfl rfl (Nat.le_of_ble_eq_true rfl) (by omega) rfl nh_X11_later (f_X11_later (by omega) hx hI l_a1 u_a1 l_a2 u_a2 (fun r g1 hI1 hf1 l_r u_r e_ => ?_) (fun e_ => (mm_HQ_w (E := 0) (hp := 13) (k := 4) (lo2 := [some (.ref 0), some (.int (Int32.ofInt a1)), some (.int (Int32.ofInt a2)), some (.ref 179), none]) rfl rfl rfl (Nat.le_of_ble_eq_true rfl) rfl (mm_g 1 (pc1 := 16) (lo1 := [some (.ref 0), some (.int (Int32.ofInt a1)), some (.int (Int32.ofInt a2)), some (.ref 179), none]) (st1 := [.int (Int32.ofInt 1)]) (H1 := mz_mk g (mz_tx x)) rfl (mm_rt rfl rfl (hQ 1 g (mz_tx x) hI (mz_xx_tx hx) (mz_sm_rf g) (u4_rf g)))))) (fun e_ => (mm_HQ_w (E := 1) (hp := 17) (k := 4) (lo2 := [some (.ref 0), some (.int (Int32.ofInt a1)), some (.int (Int32.ofInt a2)), some (.ref 179), none]) rfl rfl rfl (Nat.le_of_ble_eq_true rfl) rfl (mm_g 1 (pc1 := 20) (lo1 := [some (.ref 0), some (.int (Int32.ofInt a1)), some (.int (Int32.ofInt a2)), some (.ref 179), none]) (st1 := [.int (Int32.ofInt 2)]) (H1 := mz_mk g (mz_tx x)) rfl (mm_rt rfl rfl (hQ 2 g (mz_tx x) hI (mz_xx_tx hx) (mz_sm_rf g) (u4_rf g)))))))
  show mm_W d mmL_later 8 [some (.ref 0), some (.int (Int32.ofInt a1)), some (.int (Int32.ofInt a2)), some (.ref 179), none] [.int (Int32.ofInt r), .int (Int32.ofInt 0), .ref 179] (mz_mk g1 x) Q
  refine mz_i2l rfl ⟨by omega, by omega⟩ ?_
  refine mz_las rfl ?_
  refine mz_gt (tgt := 21) rfl rfl ?_
  exact mm_g 1 (pc1 := 22) (lo1 := [some (.ref 0), some (.int (Int32.ofInt a1)), some (.int (Int32.ofInt a2)), some (.ref 179), none]) (st1 := [.int (Int32.ofInt 0)]) (H1 := mz_mk g1 (mz_lx x (Int64.ofInt r))) rfl (mm_rt rfl rfl (hQ 0 g1 (mz_lx x (Int64.ofInt r)) hI1 (mz_xx_lx hx rfl _) ⟨fun k j hk => hf1 k j (nw_X11_later_137 hx k j hk), hf1 82 1 (nw_X11_later_82 hx)⟩ ⟨fun j => hf1 83 j (nw_X11_later_83 hx j), hf1 0 0 (nw_X11_later_0 hx)⟩))
theorem w_L_full {d : Nat} (hd : 16 ≤ d) {x : mm_X} (hx : mk_x x) {g : mz_G} (hI : mz_inv g) {a1 : Int} (l_a1 : -2147483648 ≤ a1) (u_a1 : a1 ≤ 2147483647) {Q : (Option Value ⊕ Nat) → mm_H → Prop} (hQ : ∀ (r : Int) (g1 : mz_G) (x1 : mm_X), mz_inv g1 → mz_xx x x1 → mz_sm g g1 → u4 g g1 → Q (.inl (some (.int (Int32.ofInt r)))) (mz_mk g1 x1)) : mm_C d 313 [.ref 0, .int (Int32.ofInt a1), .ref 179] (mz_mk g x) Q := by
  have kx := kn_x hx
  refine ⟨mmL_full, [some (.ref 0), some (.int (Int32.ofInt a1)), some (.ref 179), none], rfl, rfl, ?_⟩
  refine mm_g 4 (pc1 := 4) (lo1 := [some (.ref 0), some (.int (Int32.ofInt a1)), some (.ref 179), none]) (st1 := [.int (Int32.ofInt a1), .ref 0, .int (Int32.ofInt 0), .ref 179]) (H1 := mz_mk g x) rfl ?_
  refine mz_cvh rfl mt_13_52 rfl rfl (Nat.le_of_ble_eq_true rfl) (by omega) rfl nh_X11_full (f_X11_full (by omega) hx hI l_a1 u_a1 (fun r g1 hI1 hf1 l_r u_r e_ => ?_) (fun e_ => (mm_HQ_n (E := 0) (hp := 12) (k := 3) (lo2 := [some (.ref 0), some (.int (Int32.ofInt a1)), some (.ref 179), none]) rfl rfl rfl (Nat.le_of_ble_eq_true rfl) rfl (mm_g 1 (pc1 := 14) (lo1 := [some (.ref 0), some (.int (Int32.ofInt a1)), some (.ref 179), none]) (st1 := [.int (Int32.ofInt 1)]) (H1 := mz_mk g (mz_tx x)) rfl (mm_rt rfl rfl (hQ 1 g (mz_tx x) hI (mz_xx_tx hx) (mz_sm_rf g) (u4_rf g)))))))
  show mm_W d mmL_full 7 [some (.ref 0), some (.int (Int32.ofInt a1)), some (.ref 179), none] [.int (Int32.ofInt r), .int (Int32.ofInt 0), .ref 179] (mz_mk g1 x) Q
  refine mz_i2l rfl ⟨by omega, by omega⟩ ?_
  refine mz_las rfl ?_
  refine mz_gt (tgt := 15) rfl rfl ?_
  exact mm_g 1 (pc1 := 16) (lo1 := [some (.ref 0), some (.int (Int32.ofInt a1)), some (.ref 179), none]) (st1 := [.int (Int32.ofInt 0)]) (H1 := mz_mk g1 (mz_lx x (Int64.ofInt r))) rfl (mm_rt rfl rfl (hQ 0 g1 (mz_lx x (Int64.ofInt r)) hI1 (mz_xx_lx hx rfl _) ⟨fun k j hk => hf1 k j (nw_X11_full_137 hx k j hk), hf1 82 1 (nw_X11_full_82 hx)⟩ ⟨fun j => hf1 83 j (nw_X11_full_83 hx j), hf1 0 0 (nw_X11_full_0 hx)⟩))
theorem w_L_read {d : Nat} (hd : 16 ≤ d) {x : mm_X} (hx : mk_x x) {g : mz_G} (hI : mz_inv g) {a1 : Int} (l_a1 : -2147483648 ≤ a1) (u_a1 : a1 ≤ 2147483647) {a2 : Int} (l_a2 : -2147483648 ≤ a2) (u_a2 : a2 ≤ 2147483647) {Q : (Option Value ⊕ Nat) → mm_H → Prop} (hQ : ∀ (r : Int) (g1 : mz_G) (x1 : mm_X), mz_inv g1 → mz_xx x x1 → mz_sm g g1 → u4 g g1 → Q (.inl (some (.int (Int32.ofInt r)))) (mz_mk g1 x1)) : mm_C d 314 [.ref 0, .int (Int32.ofInt a1), .int (Int32.ofInt a2), .ref 179] (mz_mk g x) Q := by
  have kx := kn_x hx
  refine ⟨mmL_read, [some (.ref 0), some (.int (Int32.ofInt a1)), some (.int (Int32.ofInt a2)), some (.ref 179), none], rfl, rfl, ?_⟩
  refine mm_g 5 (pc1 := 5) (lo1 := [some (.ref 0), some (.int (Int32.ofInt a1)), some (.int (Int32.ofInt a2)), some (.ref 179), none]) (st1 := [.int (Int32.ofInt a2), .int (Int32.ofInt a1), .ref 0, .int (Int32.ofInt 0), .ref 179]) (H1 := mz_mk g x) rfl ?_
  refine mz_cvh rfl mt_13_55 rfl rfl (Nat.le_of_ble_eq_true rfl) (by omega) rfl nh_X11_read (f_X11_read (by omega) hx hI l_a1 u_a1 l_a2 u_a2 (fun r g1 hI1 hf1 l_r u_r e_ => ?_) (fun e_ => (mm_HQ_w (E := 0) (hp := 13) (k := 4) (lo2 := [some (.ref 0), some (.int (Int32.ofInt a1)), some (.int (Int32.ofInt a2)), some (.ref 179), none]) rfl rfl rfl (Nat.le_of_ble_eq_true rfl) rfl (mm_g 1 (pc1 := 16) (lo1 := [some (.ref 0), some (.int (Int32.ofInt a1)), some (.int (Int32.ofInt a2)), some (.ref 179), none]) (st1 := [.int (Int32.ofInt 1)]) (H1 := mz_mk g (mz_tx x)) rfl (mm_rt rfl rfl (hQ 1 g (mz_tx x) hI (mz_xx_tx hx) (mz_sm_rf g) (u4_rf g)))))))
  show mm_W d mmL_read 8 [some (.ref 0), some (.int (Int32.ofInt a1)), some (.int (Int32.ofInt a2)), some (.ref 179), none] [.int (Int32.ofInt r), .int (Int32.ofInt 0), .ref 179] (mz_mk g1 x) Q
  refine mz_i2l rfl ⟨by omega, by omega⟩ ?_
  refine mz_las rfl ?_
  refine mz_gt (tgt := 17) rfl rfl ?_
  exact mm_g 1 (pc1 := 18) (lo1 := [some (.ref 0), some (.int (Int32.ofInt a1)), some (.int (Int32.ofInt a2)), some (.ref 179), none]) (st1 := [.int (Int32.ofInt 0)]) (H1 := mz_mk g1 (mz_lx x (Int64.ofInt r))) rfl (mm_rt rfl rfl (hQ 0 g1 (mz_lx x (Int64.ofInt r)) hI1 (mz_xx_lx hx rfl _) ⟨fun k j hk => hf1 k j (nw_X11_read_137 hx k j hk), hf1 82 1 (nw_X11_read_82 hx)⟩ ⟨fun j => hf1 83 j (nw_X11_read_83 hx j), hf1 0 0 (nw_X11_read_0 hx)⟩))
theorem w_L_alike {d : Nat} (hd : 16 ≤ d) {x : mm_X} (hx : mk_x x) {g : mz_G} (hI : mz_inv g) {a1 : Int} (l_a1 : -2147483648 ≤ a1) (u_a1 : a1 ≤ 2147483647) {a2 : Int} (l_a2 : -2147483648 ≤ a2) (u_a2 : a2 ≤ 2147483647) {Q : (Option Value ⊕ Nat) → mm_H → Prop} (hQ : ∀ (r : Int) (g1 : mz_G) (x1 : mm_X), mz_inv g1 → mz_xx x x1 → mz_sm g g1 → u4 g g1 → Q (.inl (some (.int (Int32.ofInt r)))) (mz_mk g1 x1)) : mm_C d 315 [.ref 0, .int (Int32.ofInt a1), .int (Int32.ofInt a2), .ref 179] (mz_mk g x) Q := by
  have kx := kn_x hx
  refine ⟨mmL_alike, [some (.ref 0), some (.int (Int32.ofInt a1)), some (.int (Int32.ofInt a2)), some (.ref 179), none], rfl, rfl, ?_⟩
  refine mm_g 5 (pc1 := 5) (lo1 := [some (.ref 0), some (.int (Int32.ofInt a1)), some (.int (Int32.ofInt a2)), some (.ref 179), none]) (st1 := [.int (Int32.ofInt a2), .int (Int32.ofInt a1), .ref 0, .int (Int32.ofInt 0), .ref 179]) (H1 := mz_mk g x) rfl ?_
  refine mz_cvh rfl mt_13_58 rfl rfl (Nat.le_of_ble_eq_true rfl) (by omega) rfl nh_X11_alike (f_X11_alike (by omega) hx hI l_a1 u_a1 l_a2 u_a2 (fun r g1 hI1 hf1 l_r u_r e_ => ?_) (fun e_ => (mm_HQ_w (E := 0) (hp := 13) (k := 4) (lo2 := [some (.ref 0), some (.int (Int32.ofInt a1)), some (.int (Int32.ofInt a2)), some (.ref 179), none]) rfl rfl rfl (Nat.le_of_ble_eq_true rfl) rfl (mm_g 1 (pc1 := 16) (lo1 := [some (.ref 0), some (.int (Int32.ofInt a1)), some (.int (Int32.ofInt a2)), some (.ref 179), none]) (st1 := [.int (Int32.ofInt 1)]) (H1 := mz_mk g (mz_tx x)) rfl (mm_rt rfl rfl (hQ 1 g (mz_tx x) hI (mz_xx_tx hx) (mz_sm_rf g) (u4_rf g)))))))
  show mm_W d mmL_alike 8 [some (.ref 0), some (.int (Int32.ofInt a1)), some (.int (Int32.ofInt a2)), some (.ref 179), none] [.int (Int32.ofInt r), .int (Int32.ofInt 0), .ref 179] (mz_mk g1 x) Q
  refine mz_i2l rfl ⟨by omega, by omega⟩ ?_
  refine mz_las rfl ?_
  refine mz_gt (tgt := 17) rfl rfl ?_
  exact mm_g 1 (pc1 := 18) (lo1 := [some (.ref 0), some (.int (Int32.ofInt a1)), some (.int (Int32.ofInt a2)), some (.ref 179), none]) (st1 := [.int (Int32.ofInt 0)]) (H1 := mz_mk g1 (mz_lx x (Int64.ofInt r))) rfl (mm_rt rfl rfl (hQ 0 g1 (mz_lx x (Int64.ofInt r)) hI1 (mz_xx_lx hx rfl _) ⟨fun k j hk => hf1 k j (nw_X11_alike_137 hx k j hk), hf1 82 1 (nw_X11_alike_82 hx)⟩ ⟨fun j => hf1 83 j (nw_X11_alike_83 hx j), hf1 0 0 (nw_X11_alike_0 hx)⟩))
theorem w_L_both {d : Nat} (hd : 14 ≤ d) {x : mm_X} (hx : mk_x x) {g : mz_G} (hI : mz_inv g) {a1 : Int} (l_a1 : -2147483648 ≤ a1) (u_a1 : a1 ≤ 2147483647) {a2 : Int} (l_a2 : -2147483648 ≤ a2) (u_a2 : a2 ≤ 2147483647) {a3 : Int} (l_a3 : -2147483648 ≤ a3) (u_a3 : a3 ≤ 2147483647) {Q : (Option Value ⊕ Nat) → mm_H → Prop} (hQ : ∀ (r : Int) (g1 : mz_G) (x1 : mm_X), mz_inv g1 → mz_xx x x1 → mz_sm g g1 → u4 g g1 → Q (.inl (some (.int (Int32.ofInt r)))) (mz_mk g1 x1)) : mm_C d 316 [.ref 0, .int (Int32.ofInt a1), .int (Int32.ofInt a2), .int (Int32.ofInt a3), .ref 179] (mz_mk g x) Q := by
  have kx := kn_x hx
  refine ⟨mmL_both, [some (.ref 0), some (.int (Int32.ofInt a1)), some (.int (Int32.ofInt a2)), some (.int (Int32.ofInt a3)), some (.ref 179), none], rfl, rfl, ?_⟩
  refine mm_g 6 (pc1 := 7) (lo1 := [some (.ref 0), some (.int (Int32.ofInt a1)), some (.int (Int32.ofInt a2)), some (.int (Int32.ofInt a3)), some (.ref 179), none]) (st1 := [.int (Int32.ofInt a3), .int (Int32.ofInt a2), .int (Int32.ofInt a1), .ref 0, .int (Int32.ofInt 0), .ref 179]) (H1 := mz_mk g x) rfl ?_
  refine mz_cvh rfl mt_13_61 rfl rfl (Nat.le_of_ble_eq_true rfl) (by omega) rfl nh_X11_both (f_X11_both (by omega) hx hI l_a1 u_a1 l_a2 u_a2 l_a3 u_a3 (fun r g1 hI1 hf1 l_r u_r e_ => ?_) (fun e_ => (mm_HQ_w (E := 0) (hp := 15) (k := 5) (lo2 := [some (.ref 0), some (.int (Int32.ofInt a1)), some (.int (Int32.ofInt a2)), some (.int (Int32.ofInt a3)), some (.ref 179), none]) rfl rfl rfl (Nat.le_of_ble_eq_true rfl) rfl (mm_g 1 (pc1 := 18) (lo1 := [some (.ref 0), some (.int (Int32.ofInt a1)), some (.int (Int32.ofInt a2)), some (.int (Int32.ofInt a3)), some (.ref 179), none]) (st1 := [.int (Int32.ofInt 1)]) (H1 := mz_mk g (mz_tx x)) rfl (mm_rt rfl rfl (hQ 1 g (mz_tx x) hI (mz_xx_tx hx) (mz_sm_rf g) (u4_rf g)))))))
  show mm_W d mmL_both 10 [some (.ref 0), some (.int (Int32.ofInt a1)), some (.int (Int32.ofInt a2)), some (.int (Int32.ofInt a3)), some (.ref 179), none] [.int (Int32.ofInt r), .int (Int32.ofInt 0), .ref 179] (mz_mk g1 x) Q
  refine mz_i2l rfl ⟨by omega, by omega⟩ ?_
  refine mz_las rfl ?_
  refine mz_gt (tgt := 19) rfl rfl ?_
  exact mm_g 1 (pc1 := 20) (lo1 := [some (.ref 0), some (.int (Int32.ofInt a1)), some (.int (Int32.ofInt a2)), some (.int (Int32.ofInt a3)), some (.ref 179), none]) (st1 := [.int (Int32.ofInt 0)]) (H1 := mz_mk g1 (mz_lx x (Int64.ofInt r))) rfl (mm_rt rfl rfl (hQ 0 g1 (mz_lx x (Int64.ofInt r)) hI1 (mz_xx_lx hx rfl _) ⟨fun k j hk => hf1 k j (nw_X11_both_137 hx k j hk), hf1 82 1 (nw_X11_both_82 hx)⟩ ⟨fun j => hf1 83 j (nw_X11_both_83 hx j), hf1 0 0 (nw_X11_both_0 hx)⟩))
theorem w_L_row {d : Nat} (hd : 14 ≤ d) {x : mm_X} (hx : mk_x x) {g : mz_G} (hI : mz_inv g) {a1 : Int} (l_a1 : -2147483648 ≤ a1) (u_a1 : a1 ≤ 2147483647) {Q : (Option Value ⊕ Nat) → mm_H → Prop} (hQ : ∀ (r : Int) (g1 : mz_G) (x1 : mm_X), mz_inv g1 → mz_xx x x1 → mz_sm g g1 → u4 g g1 → Q (.inl (some (.int (Int32.ofInt r)))) (mz_mk g1 x1)) : mm_C d 317 [.ref 0, .int (Int32.ofInt a1), .ref 179] (mz_mk g x) Q := by
  have kx := kn_x hx
  refine ⟨mmL_row, [some (.ref 0), some (.int (Int32.ofInt a1)), some (.ref 179), none], rfl, rfl, ?_⟩
  refine mm_g 4 (pc1 := 4) (lo1 := [some (.ref 0), some (.int (Int32.ofInt a1)), some (.ref 179), none]) (st1 := [.int (Int32.ofInt a1), .ref 0, .int (Int32.ofInt 0), .ref 179]) (H1 := mz_mk g x) rfl ?_
  refine mz_cvh rfl mt_13_64 rfl rfl (Nat.le_of_ble_eq_true rfl) (by omega) rfl nh_X11_row (f_X11_row (by omega) hx hI l_a1 u_a1 (fun r l_r u_r e_ => ?_) (fun e_ => (mm_HQ_n (E := 0) (hp := 12) (k := 3) (lo2 := [some (.ref 0), some (.int (Int32.ofInt a1)), some (.ref 179), none]) rfl rfl rfl (Nat.le_of_ble_eq_true rfl) rfl (mm_g 1 (pc1 := 14) (lo1 := [some (.ref 0), some (.int (Int32.ofInt a1)), some (.ref 179), none]) (st1 := [.int (Int32.ofInt 1)]) (H1 := mz_mk g (mz_tx x)) rfl (mm_rt rfl rfl (hQ 1 g (mz_tx x) hI (mz_xx_tx hx) (mz_sm_rf g) (u4_rf g)))))))
  show mm_W d mmL_row 7 [some (.ref 0), some (.int (Int32.ofInt a1)), some (.ref 179), none] [.int (Int32.ofInt r), .int (Int32.ofInt 0), .ref 179] (mz_mk g x) Q
  refine mz_i2l rfl ⟨by omega, by omega⟩ ?_
  refine mz_las rfl ?_
  refine mz_gt (tgt := 15) rfl rfl ?_
  exact mm_g 1 (pc1 := 16) (lo1 := [some (.ref 0), some (.int (Int32.ofInt a1)), some (.ref 179), none]) (st1 := [.int (Int32.ofInt 0)]) (H1 := mz_mk g (mz_lx x (Int64.ofInt r))) rfl (mm_rt rfl rfl (hQ 0 g (mz_lx x (Int64.ofInt r)) hI (mz_xx_lx hx rfl _) (mz_sm_rf g) (u4_rf g)))
theorem w_L_chain {d : Nat} (hd : 14 ≤ d) {x : mm_X} (hx : mk_x x) {g : mz_G} (hI : mz_inv g) {a1 : Int} (l_a1 : -2147483648 ≤ a1) (u_a1 : a1 ≤ 2147483647) {Q : (Option Value ⊕ Nat) → mm_H → Prop} (hQ : ∀ (r : Int) (g1 : mz_G) (x1 : mm_X), mz_inv g1 → mz_xx x x1 → mz_sm g g1 → u4 g g1 → Q (.inl (some (.int (Int32.ofInt r)))) (mz_mk g1 x1)) : mm_C d 318 [.ref 0, .int (Int32.ofInt a1), .ref 179] (mz_mk g x) Q := by
  have kx := kn_x hx
  refine ⟨mmL_chain, [some (.ref 0), some (.int (Int32.ofInt a1)), some (.ref 179), none], rfl, rfl, ?_⟩
  refine mm_g 4 (pc1 := 4) (lo1 := [some (.ref 0), some (.int (Int32.ofInt a1)), some (.ref 179), none]) (st1 := [.int (Int32.ofInt a1), .ref 0, .int (Int32.ofInt 0), .ref 179]) (H1 := mz_mk g x) rfl ?_
  refine mz_cvh rfl mt_13_67 rfl rfl (Nat.le_of_ble_eq_true rfl) (by omega) rfl nh_X11_chain (f_X11_chain (by omega) hx hI l_a1 u_a1 (fun r l_r u_r e_ => ?_) (fun e_ => (mm_HQ_n (E := 0) (hp := 12) (k := 3) (lo2 := [some (.ref 0), some (.int (Int32.ofInt a1)), some (.ref 179), none]) rfl rfl rfl (Nat.le_of_ble_eq_true rfl) rfl (mm_g 1 (pc1 := 14) (lo1 := [some (.ref 0), some (.int (Int32.ofInt a1)), some (.ref 179), none]) (st1 := [.int (Int32.ofInt 1)]) (H1 := mz_mk g (mz_tx x)) rfl (mm_rt rfl rfl (hQ 1 g (mz_tx x) hI (mz_xx_tx hx) (mz_sm_rf g) (u4_rf g)))))))
  show mm_W d mmL_chain 7 [some (.ref 0), some (.int (Int32.ofInt a1)), some (.ref 179), none] [.int (Int32.ofInt r), .int (Int32.ofInt 0), .ref 179] (mz_mk g x) Q
  refine mz_i2l rfl ⟨by omega, by omega⟩ ?_
  refine mz_las rfl ?_
  refine mz_gt (tgt := 15) rfl rfl ?_
  exact mm_g 1 (pc1 := 16) (lo1 := [some (.ref 0), some (.int (Int32.ofInt a1)), some (.ref 179), none]) (st1 := [.int (Int32.ofInt 0)]) (H1 := mz_mk g (mz_lx x (Int64.ofInt r))) rfl (mm_rt rfl rfl (hQ 0 g (mz_lx x (Int64.ofInt r)) hI (mz_xx_lx hx rfl _) (mz_sm_rf g) (u4_rf g)))
theorem w_L_toDraw {d : Nat} (hd : 17 ≤ d) {x : mm_X} (hx : mk_x x) {g : mz_G} (hI : mz_inv g) {a1 : Int} (l_a1 : -2147483648 ≤ a1) (u_a1 : a1 ≤ 2147483647) {a2 : Int} (l_a2 : -2147483648 ≤ a2) (u_a2 : a2 ≤ 2147483647) {Q : (Option Value ⊕ Nat) → mm_H → Prop} (hQ : ∀ (r : Int) (g1 : mz_G) (x1 : mm_X), mz_inv g1 → mz_xx x x1 → mz_sm g g1 → u4 g g1 → Q (.inl (some (.int (Int32.ofInt r)))) (mz_mk g1 x1)) : mm_C d 319 [.ref 0, .int (Int32.ofInt a1), .int (Int32.ofInt a2), .ref 179] (mz_mk g x) Q := by
  have kx := kn_x hx
  refine ⟨mmL_toDraw, [some (.ref 0), some (.int (Int32.ofInt a1)), some (.int (Int32.ofInt a2)), some (.ref 179), none], rfl, rfl, ?_⟩
  refine mm_g 5 (pc1 := 5) (lo1 := [some (.ref 0), some (.int (Int32.ofInt a1)), some (.int (Int32.ofInt a2)), some (.ref 179), none]) (st1 := [.int (Int32.ofInt a2), .int (Int32.ofInt a1), .ref 0, .int (Int32.ofInt 0), .ref 179]) (H1 := mz_mk g x) rfl ?_
  refine mz_cvh rfl mt_13_70 rfl rfl (Nat.le_of_ble_eq_true rfl) (by omega) rfl nh_X11_toDraw (f_X11_toDraw (by omega) hx hI l_a1 u_a1 l_a2 u_a2 (fun r g1 hI1 hf1 l_r u_r e_ => ?_) (fun e_ => (mm_HQ_w (E := 0) (hp := 13) (k := 4) (lo2 := [some (.ref 0), some (.int (Int32.ofInt a1)), some (.int (Int32.ofInt a2)), some (.ref 179), none]) rfl rfl rfl (Nat.le_of_ble_eq_true rfl) rfl (mm_g 1 (pc1 := 16) (lo1 := [some (.ref 0), some (.int (Int32.ofInt a1)), some (.int (Int32.ofInt a2)), some (.ref 179), none]) (st1 := [.int (Int32.ofInt 1)]) (H1 := mz_mk g (mz_tx x)) rfl (mm_rt rfl rfl (hQ 1 g (mz_tx x) hI (mz_xx_tx hx) (mz_sm_rf g) (u4_rf g)))))) (fun e_ => (mm_HQ_w (E := 1) (hp := 17) (k := 4) (lo2 := [some (.ref 0), some (.int (Int32.ofInt a1)), some (.int (Int32.ofInt a2)), some (.ref 179), none]) rfl rfl rfl (Nat.le_of_ble_eq_true rfl) rfl (mm_g 1 (pc1 := 20) (lo1 := [some (.ref 0), some (.int (Int32.ofInt a1)), some (.int (Int32.ofInt a2)), some (.ref 179), none]) (st1 := [.int (Int32.ofInt 2)]) (H1 := mz_mk g (mz_tx x)) rfl (mm_rt rfl rfl (hQ 2 g (mz_tx x) hI (mz_xx_tx hx) (mz_sm_rf g) (u4_rf g)))))))
  show mm_W d mmL_toDraw 8 [some (.ref 0), some (.int (Int32.ofInt a1)), some (.int (Int32.ofInt a2)), some (.ref 179), none] [.int (Int32.ofInt r), .int (Int32.ofInt 0), .ref 179] (mz_mk g1 x) Q
  refine mz_i2l rfl ⟨by omega, by omega⟩ ?_
  refine mz_las rfl ?_
  refine mz_gt (tgt := 21) rfl rfl ?_
  exact mm_g 1 (pc1 := 22) (lo1 := [some (.ref 0), some (.int (Int32.ofInt a1)), some (.int (Int32.ofInt a2)), some (.ref 179), none]) (st1 := [.int (Int32.ofInt 0)]) (H1 := mz_mk g1 (mz_lx x (Int64.ofInt r))) rfl (mm_rt rfl rfl (hQ 0 g1 (mz_lx x (Int64.ofInt r)) hI1 (mz_xx_lx hx rfl _) ⟨fun k j hk => hf1 k j (nw_X11_toDraw_137 hx k j hk), hf1 82 1 (nw_X11_toDraw_82 hx)⟩ ⟨fun j => hf1 83 j (nw_X11_toDraw_83 hx j), hf1 0 0 (nw_X11_toDraw_0 hx)⟩))
theorem w_L_see {d : Nat} (hd : 14 ≤ d) {x : mm_X} (hx : mk_x x) {g : mz_G} (hI : mz_inv g) {a1 : Int} (l_a1 : -2147483648 ≤ a1) (u_a1 : a1 ≤ 2147483647) {a2 : Int} (l_a2 : -2147483648 ≤ a2) (u_a2 : a2 ≤ 2147483647) {a3 : Int} (l_a3 : -2147483648 ≤ a3) (u_a3 : a3 ≤ 2147483647) {Q : (Option Value ⊕ Nat) → mm_H → Prop} (hQ : ∀ (r : Int) (g1 : mz_G) (x1 : mm_X), mz_inv g1 → mz_xx x x1 → mz_sm g g1 → u4 g g1 → Q (.inl (some (.int (Int32.ofInt r)))) (mz_mk g1 x1)) : mm_C d 320 [.ref 0, .int (Int32.ofInt a1), .int (Int32.ofInt a2), .int (Int32.ofInt a3), .ref 179] (mz_mk g x) Q := by
  have kx := kn_x hx
  refine ⟨mmL_see, [some (.ref 0), some (.int (Int32.ofInt a1)), some (.int (Int32.ofInt a2)), some (.int (Int32.ofInt a3)), some (.ref 179), none], rfl, rfl, ?_⟩
  refine mm_g 6 (pc1 := 7) (lo1 := [some (.ref 0), some (.int (Int32.ofInt a1)), some (.int (Int32.ofInt a2)), some (.int (Int32.ofInt a3)), some (.ref 179), none]) (st1 := [.int (Int32.ofInt a3), .int (Int32.ofInt a2), .int (Int32.ofInt a1), .ref 0, .int (Int32.ofInt 0), .ref 179]) (H1 := mz_mk g x) rfl ?_
  refine mz_cvh rfl mt_13_73 rfl rfl (Nat.le_of_ble_eq_true rfl) (by omega) rfl nh_X11_see (f_X11_see (by omega) hx hI l_a1 u_a1 l_a2 u_a2 l_a3 u_a3 (fun r g1 hI1 hf1 l_r u_r e_ => ?_) (fun e_ => (mm_HQ_w (E := 0) (hp := 15) (k := 5) (lo2 := [some (.ref 0), some (.int (Int32.ofInt a1)), some (.int (Int32.ofInt a2)), some (.int (Int32.ofInt a3)), some (.ref 179), none]) rfl rfl rfl (Nat.le_of_ble_eq_true rfl) rfl (mm_g 1 (pc1 := 18) (lo1 := [some (.ref 0), some (.int (Int32.ofInt a1)), some (.int (Int32.ofInt a2)), some (.int (Int32.ofInt a3)), some (.ref 179), none]) (st1 := [.int (Int32.ofInt 1)]) (H1 := mz_mk g (mz_tx x)) rfl (mm_rt rfl rfl (hQ 1 g (mz_tx x) hI (mz_xx_tx hx) (mz_sm_rf g) (u4_rf g)))))))
  show mm_W d mmL_see 10 [some (.ref 0), some (.int (Int32.ofInt a1)), some (.int (Int32.ofInt a2)), some (.int (Int32.ofInt a3)), some (.ref 179), none] [.int (Int32.ofInt r), .int (Int32.ofInt 0), .ref 179] (mz_mk g1 x) Q
  refine mz_i2l rfl ⟨by omega, by omega⟩ ?_
  refine mz_las rfl ?_
  refine mz_gt (tgt := 19) rfl rfl ?_
  exact mm_g 1 (pc1 := 20) (lo1 := [some (.ref 0), some (.int (Int32.ofInt a1)), some (.int (Int32.ofInt a2)), some (.int (Int32.ofInt a3)), some (.ref 179), none]) (st1 := [.int (Int32.ofInt 0)]) (H1 := mz_mk g1 (mz_lx x (Int64.ofInt r))) rfl (mm_rt rfl rfl (hQ 0 g1 (mz_lx x (Int64.ofInt r)) hI1 (mz_xx_lx hx rfl _) ⟨fun k j hk => hf1 k j (nw_X11_see_137 hx k j hk), hf1 82 1 (nw_X11_see_82 hx)⟩ ⟨fun j => hf1 83 j (nw_X11_see_83 hx j), hf1 0 0 (nw_X11_see_0 hx)⟩))
theorem w_L_loose {d : Nat} (hd : 18 ≤ d) {x : mm_X} (hx : mk_x x) {g : mz_G} (hI : mz_inv g) {a1 : Int} (l_a1 : -2147483648 ≤ a1) (u_a1 : a1 ≤ 2147483647) {Q : (Option Value ⊕ Nat) → mm_H → Prop} (hQ : ∀ (r : Int) (g1 : mz_G) (x1 : mm_X), mz_inv g1 → mz_xx x x1 → mz_sm g g1 → u4 g g1 → Q (.inl (some (.int (Int32.ofInt r)))) (mz_mk g1 x1)) : mm_C d 321 [.ref 0, .int (Int32.ofInt a1), .ref 179] (mz_mk g x) Q := by
  have kx := kn_x hx
  refine ⟨mmL_loose, [some (.ref 0), some (.int (Int32.ofInt a1)), some (.ref 179), none], rfl, rfl, ?_⟩
  refine mm_g 4 (pc1 := 4) (lo1 := [some (.ref 0), some (.int (Int32.ofInt a1)), some (.ref 179), none]) (st1 := [.int (Int32.ofInt a1), .ref 0, .int (Int32.ofInt 0), .ref 179]) (H1 := mz_mk g x) rfl ?_
  refine mz_cvh rfl mt_13_76 rfl rfl (Nat.le_of_ble_eq_true rfl) (by omega) rfl nh_X11_loose (f_X11_loose (by omega) hx hI l_a1 u_a1 (fun r g1 hI1 hf1 l_r u_r e_ => ?_) (fun e_ => (mm_HQ_n (E := 0) (hp := 12) (k := 3) (lo2 := [some (.ref 0), some (.int (Int32.ofInt a1)), some (.ref 179), none]) rfl rfl rfl (Nat.le_of_ble_eq_true rfl) rfl (mm_g 1 (pc1 := 14) (lo1 := [some (.ref 0), some (.int (Int32.ofInt a1)), some (.ref 179), none]) (st1 := [.int (Int32.ofInt 1)]) (H1 := mz_mk g (mz_tx x)) rfl (mm_rt rfl rfl (hQ 1 g (mz_tx x) hI (mz_xx_tx hx) (mz_sm_rf g) (u4_rf g)))))))
  show mm_W d mmL_loose 7 [some (.ref 0), some (.int (Int32.ofInt a1)), some (.ref 179), none] [.int (Int32.ofInt r), .int (Int32.ofInt 0), .ref 179] (mz_mk g1 x) Q
  refine mz_i2l rfl ⟨by omega, by omega⟩ ?_
  refine mz_las rfl ?_
  refine mz_gt (tgt := 15) rfl rfl ?_
  exact mm_g 1 (pc1 := 16) (lo1 := [some (.ref 0), some (.int (Int32.ofInt a1)), some (.ref 179), none]) (st1 := [.int (Int32.ofInt 0)]) (H1 := mz_mk g1 (mz_lx x (Int64.ofInt r))) rfl (mm_rt rfl rfl (hQ 0 g1 (mz_lx x (Int64.ofInt r)) hI1 (mz_xx_lx hx rfl _) ⟨fun k j hk => hf1 k j (nw_X11_loose_137 hx k j hk), hf1 82 1 (nw_X11_loose_82 hx)⟩ ⟨fun j => hf1 83 j (nw_X11_loose_83 hx j), hf1 0 0 (nw_X11_loose_0 hx)⟩))
theorem w_L_look {d : Nat} (hd : 18 ≤ d) {x : mm_X} (hx : mk_x x) {g : mz_G} (hI : mz_inv g) {a1 : Int} (l_a1 : -2147483648 ≤ a1) (u_a1 : a1 ≤ 2147483647) {Q : (Option Value ⊕ Nat) → mm_H → Prop} (hQ : ∀ (r : Int) (g1 : mz_G) (x1 : mm_X), mz_inv g1 → mz_xx x x1 → mz_sm g g1 → u4 g g1 → Q (.inl (some (.int (Int32.ofInt r)))) (mz_mk g1 x1)) : mm_C d 322 [.ref 0, .int (Int32.ofInt a1), .ref 179] (mz_mk g x) Q := by
  have kx := kn_x hx
  refine ⟨mmL_look, [some (.ref 0), some (.int (Int32.ofInt a1)), some (.ref 179), none], rfl, rfl, ?_⟩
  refine mm_g 4 (pc1 := 4) (lo1 := [some (.ref 0), some (.int (Int32.ofInt a1)), some (.ref 179), none]) (st1 := [.int (Int32.ofInt a1), .ref 0, .int (Int32.ofInt 0), .ref 179]) (H1 := mz_mk g x) rfl ?_
  refine mz_cvh rfl mt_13_79 rfl rfl (Nat.le_of_ble_eq_true rfl) (by omega) rfl nh_X11_look (f_X11_look (by omega) hx hI l_a1 u_a1 (fun r g1 hI1 hf1 l_r u_r e_ => ?_) (fun e_ => (mm_HQ_n (E := 0) (hp := 12) (k := 3) (lo2 := [some (.ref 0), some (.int (Int32.ofInt a1)), some (.ref 179), none]) rfl rfl rfl (Nat.le_of_ble_eq_true rfl) rfl (mm_g 1 (pc1 := 14) (lo1 := [some (.ref 0), some (.int (Int32.ofInt a1)), some (.ref 179), none]) (st1 := [.int (Int32.ofInt 1)]) (H1 := mz_mk g (mz_tx x)) rfl (mm_rt rfl rfl (hQ 1 g (mz_tx x) hI (mz_xx_tx hx) (mz_sm_rf g) (u4_rf g)))))))
  show mm_W d mmL_look 7 [some (.ref 0), some (.int (Int32.ofInt a1)), some (.ref 179), none] [.int (Int32.ofInt r), .int (Int32.ofInt 0), .ref 179] (mz_mk g1 x) Q
  refine mz_i2l rfl ⟨by omega, by omega⟩ ?_
  refine mz_las rfl ?_
  refine mz_gt (tgt := 15) rfl rfl ?_
  exact mm_g 1 (pc1 := 16) (lo1 := [some (.ref 0), some (.int (Int32.ofInt a1)), some (.ref 179), none]) (st1 := [.int (Int32.ofInt 0)]) (H1 := mz_mk g1 (mz_lx x (Int64.ofInt r))) rfl (mm_rt rfl rfl (hQ 0 g1 (mz_lx x (Int64.ofInt r)) hI1 (mz_xx_lx hx rfl _) ⟨fun k j hk => hf1 k j (nw_X11_look_137 hx k j hk), hf1 82 1 (nw_X11_look_82 hx)⟩ ⟨fun j => hf1 83 j (nw_X11_look_83 hx j), hf1 0 0 (nw_X11_look_0 hx)⟩))
theorem w_L_seasons {d : Nat} (hd : 15 ≤ d) {x : mm_X} (hx : mk_x x) {g : mz_G} (hI : mz_inv g) {a1 : Int} (l_a1 : -2147483648 ≤ a1) (u_a1 : a1 ≤ 2147483647) {a2 : Int} (l_a2 : -2147483648 ≤ a2) (u_a2 : a2 ≤ 2147483647) {a3 : Int} (l_a3 : -2147483648 ≤ a3) (u_a3 : a3 ≤ 2147483647) {Q : (Option Value ⊕ Nat) → mm_H → Prop} (hQ : ∀ (r : Int) (g1 : mz_G) (x1 : mm_X), mz_inv g1 → mz_xx x x1 → mz_sm g g1 → u4 g g1 → Q (.inl (some (.int (Int32.ofInt r)))) (mz_mk g1 x1)) : mm_C d 323 [.ref 0, .int (Int32.ofInt a1), .int (Int32.ofInt a2), .int (Int32.ofInt a3), .ref 179] (mz_mk g x) Q := by
  have kx := kn_x hx
  refine ⟨mmL_seasons, [some (.ref 0), some (.int (Int32.ofInt a1)), some (.int (Int32.ofInt a2)), some (.int (Int32.ofInt a3)), some (.ref 179), none], rfl, rfl, ?_⟩
  refine mm_g 6 (pc1 := 7) (lo1 := [some (.ref 0), some (.int (Int32.ofInt a1)), some (.int (Int32.ofInt a2)), some (.int (Int32.ofInt a3)), some (.ref 179), none]) (st1 := [.int (Int32.ofInt a3), .int (Int32.ofInt a2), .int (Int32.ofInt a1), .ref 0, .int (Int32.ofInt 0), .ref 179]) (H1 := mz_mk g x) rfl ?_
  refine mz_cvh rfl mt_13_82 rfl rfl (Nat.le_of_ble_eq_true rfl) (by omega) rfl nh_X11_seasons (f_X11_seasons (by omega) hx hI l_a1 u_a1 l_a2 u_a2 l_a3 u_a3 (fun r g1 hI1 hf1 l_r u_r e_ => ?_) (fun e_ => (mm_HQ_w (E := 0) (hp := 15) (k := 5) (lo2 := [some (.ref 0), some (.int (Int32.ofInt a1)), some (.int (Int32.ofInt a2)), some (.int (Int32.ofInt a3)), some (.ref 179), none]) rfl rfl rfl (Nat.le_of_ble_eq_true rfl) rfl (mm_g 1 (pc1 := 18) (lo1 := [some (.ref 0), some (.int (Int32.ofInt a1)), some (.int (Int32.ofInt a2)), some (.int (Int32.ofInt a3)), some (.ref 179), none]) (st1 := [.int (Int32.ofInt 1)]) (H1 := mz_mk g (mz_tx x)) rfl (mm_rt rfl rfl (hQ 1 g (mz_tx x) hI (mz_xx_tx hx) (mz_sm_rf g) (u4_rf g)))))) (fun e_ => (mm_HQ_w (E := 1) (hp := 19) (k := 5) (lo2 := [some (.ref 0), some (.int (Int32.ofInt a1)), some (.int (Int32.ofInt a2)), some (.int (Int32.ofInt a3)), some (.ref 179), none]) rfl rfl rfl (Nat.le_of_ble_eq_true rfl) rfl (mm_g 1 (pc1 := 22) (lo1 := [some (.ref 0), some (.int (Int32.ofInt a1)), some (.int (Int32.ofInt a2)), some (.int (Int32.ofInt a3)), some (.ref 179), none]) (st1 := [.int (Int32.ofInt 2)]) (H1 := mz_mk g (mz_tx x)) rfl (mm_rt rfl rfl (hQ 2 g (mz_tx x) hI (mz_xx_tx hx) (mz_sm_rf g) (u4_rf g)))))))
  show mm_W d mmL_seasons 10 [some (.ref 0), some (.int (Int32.ofInt a1)), some (.int (Int32.ofInt a2)), some (.int (Int32.ofInt a3)), some (.ref 179), none] [.int (Int32.ofInt r), .int (Int32.ofInt 0), .ref 179] (mz_mk g1 x) Q
  refine mz_i2l rfl ⟨by omega, by omega⟩ ?_
  refine mz_las rfl ?_
  refine mz_gt (tgt := 23) rfl rfl ?_
  exact mm_g 1 (pc1 := 24) (lo1 := [some (.ref 0), some (.int (Int32.ofInt a1)), some (.int (Int32.ofInt a2)), some (.int (Int32.ofInt a3)), some (.ref 179), none]) (st1 := [.int (Int32.ofInt 0)]) (H1 := mz_mk g1 (mz_lx x (Int64.ofInt r))) rfl (mm_rt rfl rfl (hQ 0 g1 (mz_lx x (Int64.ofInt r)) hI1 (mz_xx_lx hx rfl _) ⟨fun k j hk => hf1 k j (nw_X11_seasons_137 hx k j hk), hf1 82 1 (nw_X11_seasons_82 hx)⟩ ⟨fun j => hf1 83 j (nw_X11_seasons_83 hx j), hf1 0 0 (nw_X11_seasons_0 hx)⟩))
theorem w_L_game {d : Nat} (hd : 18 ≤ d) {x : mm_X} (hx : mk_x x) {g : mz_G} (hI : mz_inv g) {a1 : Int} (l_a1 : -2147483648 ≤ a1) (u_a1 : a1 ≤ 2147483647) {a2 : Int} (l_a2 : -2147483648 ≤ a2) (u_a2 : a2 ≤ 2147483647) {a3 : Int} (l_a3 : -2147483648 ≤ a3) (u_a3 : a3 ≤ 2147483647) {Q : (Option Value ⊕ Nat) → mm_H → Prop} (hQ : ∀ (r : Int) (g1 : mz_G) (x1 : mm_X), mz_inv g1 → mz_xx x x1 → mz_sm g g1 → u4 g g1 → Q (.inl (some (.int (Int32.ofInt r)))) (mz_mk g1 x1)) : mm_C d 324 [.ref 0, .int (Int32.ofInt a1), .int (Int32.ofInt a2), .int (Int32.ofInt a3), .ref 179] (mz_mk g x) Q := by
  have kx := kn_x hx
  refine ⟨mmL_game, [some (.ref 0), some (.int (Int32.ofInt a1)), some (.int (Int32.ofInt a2)), some (.int (Int32.ofInt a3)), some (.ref 179), none], rfl, rfl, ?_⟩
  refine mm_g 6 (pc1 := 7) (lo1 := [some (.ref 0), some (.int (Int32.ofInt a1)), some (.int (Int32.ofInt a2)), some (.int (Int32.ofInt a3)), some (.ref 179), none]) (st1 := [.int (Int32.ofInt a3), .int (Int32.ofInt a2), .int (Int32.ofInt a1), .ref 0, .int (Int32.ofInt 0), .ref 179]) (H1 := mz_mk g x) rfl ?_
  refine mz_cvh rfl mt_13_85 rfl rfl (Nat.le_of_ble_eq_true rfl) (by omega) rfl nh_X11_game (f_X11_game (by omega) hx hI l_a1 u_a1 l_a2 u_a2 l_a3 u_a3 (fun r g1 hI1 hf1 l_r u_r e_ => ?_) (fun e_ => (mm_HQ_w (E := 0) (hp := 15) (k := 5) (lo2 := [some (.ref 0), some (.int (Int32.ofInt a1)), some (.int (Int32.ofInt a2)), some (.int (Int32.ofInt a3)), some (.ref 179), none]) rfl rfl rfl (Nat.le_of_ble_eq_true rfl) rfl (mm_g 1 (pc1 := 18) (lo1 := [some (.ref 0), some (.int (Int32.ofInt a1)), some (.int (Int32.ofInt a2)), some (.int (Int32.ofInt a3)), some (.ref 179), none]) (st1 := [.int (Int32.ofInt 1)]) (H1 := mz_mk g (mz_tx x)) rfl (mm_rt rfl rfl (hQ 1 g (mz_tx x) hI (mz_xx_tx hx) (mz_sm_rf g) (u4_rf g)))))) (fun e_ => (mm_HQ_w (E := 1) (hp := 19) (k := 5) (lo2 := [some (.ref 0), some (.int (Int32.ofInt a1)), some (.int (Int32.ofInt a2)), some (.int (Int32.ofInt a3)), some (.ref 179), none]) rfl rfl rfl (Nat.le_of_ble_eq_true rfl) rfl (mm_g 1 (pc1 := 22) (lo1 := [some (.ref 0), some (.int (Int32.ofInt a1)), some (.int (Int32.ofInt a2)), some (.int (Int32.ofInt a3)), some (.ref 179), none]) (st1 := [.int (Int32.ofInt 2)]) (H1 := mz_mk g (mz_tx x)) rfl (mm_rt rfl rfl (hQ 2 g (mz_tx x) hI (mz_xx_tx hx) (mz_sm_rf g) (u4_rf g)))))))
  show mm_W d mmL_game 10 [some (.ref 0), some (.int (Int32.ofInt a1)), some (.int (Int32.ofInt a2)), some (.int (Int32.ofInt a3)), some (.ref 179), none] [.int (Int32.ofInt r), .int (Int32.ofInt 0), .ref 179] (mz_mk g1 x) Q
  refine mz_i2l rfl ⟨by omega, by omega⟩ ?_
  refine mz_las rfl ?_
  refine mz_gt (tgt := 23) rfl rfl ?_
  exact mm_g 1 (pc1 := 24) (lo1 := [some (.ref 0), some (.int (Int32.ofInt a1)), some (.int (Int32.ofInt a2)), some (.int (Int32.ofInt a3)), some (.ref 179), none]) (st1 := [.int (Int32.ofInt 0)]) (H1 := mz_mk g1 (mz_lx x (Int64.ofInt r))) rfl (mm_rt rfl rfl (hQ 0 g1 (mz_lx x (Int64.ofInt r)) hI1 (mz_xx_lx hx rfl _) ⟨fun k j hk => hf1 k j (nw_X11_game_137 hx k j hk), hf1 82 1 (nw_X11_game_82 hx)⟩ ⟨fun j => hf1 83 j (nw_X11_game_83 hx j), hf1 0 0 (nw_X11_game_0 hx)⟩))
theorem w_L_years {d : Nat} (hd : 16 ≤ d) {x : mm_X} (hx : mk_x x) {g : mz_G} (hI : mz_inv g) {a1 : Int} (l_a1 : -2147483648 ≤ a1) (u_a1 : a1 ≤ 2147483647) {a2 : Int} (l_a2 : -2147483648 ≤ a2) (u_a2 : a2 ≤ 2147483647) {a3 : Int} (l_a3 : -2147483648 ≤ a3) (u_a3 : a3 ≤ 2147483647) {Q : (Option Value ⊕ Nat) → mm_H → Prop} (hQ : ∀ (r : Int) (g1 : mz_G) (x1 : mm_X), mz_inv g1 → mz_xx x x1 → mz_sm g g1 → u4 g g1 → Q (.inl (some (.int (Int32.ofInt r)))) (mz_mk g1 x1)) : mm_C d 325 [.ref 0, .int (Int32.ofInt a1), .int (Int32.ofInt a2), .int (Int32.ofInt a3), .ref 179] (mz_mk g x) Q := by
  have kx := kn_x hx
  refine ⟨mmL_years, [some (.ref 0), some (.int (Int32.ofInt a1)), some (.int (Int32.ofInt a2)), some (.int (Int32.ofInt a3)), some (.ref 179), none], rfl, rfl, ?_⟩
  refine mm_g 6 (pc1 := 7) (lo1 := [some (.ref 0), some (.int (Int32.ofInt a1)), some (.int (Int32.ofInt a2)), some (.int (Int32.ofInt a3)), some (.ref 179), none]) (st1 := [.int (Int32.ofInt a3), .int (Int32.ofInt a2), .int (Int32.ofInt a1), .ref 0, .int (Int32.ofInt 0), .ref 179]) (H1 := mz_mk g x) rfl ?_
  refine mz_cvh rfl mt_13_88 rfl rfl (Nat.le_of_ble_eq_true rfl) (by omega) rfl nh_X11_years (f_X11_years (by omega) hx hI l_a1 u_a1 l_a2 u_a2 l_a3 u_a3 (fun r g1 hI1 hf1 l_r u_r e_ => ?_) (fun e_ => (mm_HQ_w (E := 0) (hp := 15) (k := 5) (lo2 := [some (.ref 0), some (.int (Int32.ofInt a1)), some (.int (Int32.ofInt a2)), some (.int (Int32.ofInt a3)), some (.ref 179), none]) rfl rfl rfl (Nat.le_of_ble_eq_true rfl) rfl (mm_g 1 (pc1 := 18) (lo1 := [some (.ref 0), some (.int (Int32.ofInt a1)), some (.int (Int32.ofInt a2)), some (.int (Int32.ofInt a3)), some (.ref 179), none]) (st1 := [.int (Int32.ofInt 1)]) (H1 := mz_mk g (mz_tx x)) rfl (mm_rt rfl rfl (hQ 1 g (mz_tx x) hI (mz_xx_tx hx) (mz_sm_rf g) (u4_rf g)))))) (fun e_ => (mm_HQ_w (E := 1) (hp := 19) (k := 5) (lo2 := [some (.ref 0), some (.int (Int32.ofInt a1)), some (.int (Int32.ofInt a2)), some (.int (Int32.ofInt a3)), some (.ref 179), none]) rfl rfl rfl (Nat.le_of_ble_eq_true rfl) rfl (mm_g 1 (pc1 := 22) (lo1 := [some (.ref 0), some (.int (Int32.ofInt a1)), some (.int (Int32.ofInt a2)), some (.int (Int32.ofInt a3)), some (.ref 179), none]) (st1 := [.int (Int32.ofInt 2)]) (H1 := mz_mk g (mz_tx x)) rfl (mm_rt rfl rfl (hQ 2 g (mz_tx x) hI (mz_xx_tx hx) (mz_sm_rf g) (u4_rf g)))))))
  show mm_W d mmL_years 10 [some (.ref 0), some (.int (Int32.ofInt a1)), some (.int (Int32.ofInt a2)), some (.int (Int32.ofInt a3)), some (.ref 179), none] [.int (Int32.ofInt r), .int (Int32.ofInt 0), .ref 179] (mz_mk g1 x) Q
  refine mz_i2l rfl ⟨by omega, by omega⟩ ?_
  refine mz_las rfl ?_
  refine mz_gt (tgt := 23) rfl rfl ?_
  exact mm_g 1 (pc1 := 24) (lo1 := [some (.ref 0), some (.int (Int32.ofInt a1)), some (.int (Int32.ofInt a2)), some (.int (Int32.ofInt a3)), some (.ref 179), none]) (st1 := [.int (Int32.ofInt 0)]) (H1 := mz_mk g1 (mz_lx x (Int64.ofInt r))) rfl (mm_rt rfl rfl (hQ 0 g1 (mz_lx x (Int64.ofInt r)) hI1 (mz_xx_lx hx rfl _) ⟨fun k j hk => hf1 k j (nw_X11_years_137 hx k j hk), hf1 82 1 (nw_X11_years_82 hx)⟩ ⟨fun j => hf1 83 j (nw_X11_years_83 hx j), hf1 0 0 (nw_X11_years_0 hx)⟩))
