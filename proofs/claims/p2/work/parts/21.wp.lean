/-! THE MINI MACHINE'S WEAKEST PRECONDITION -/
def mm_W (d : Nat) (M : mm_M) (pc : Nat) (lo : List (Option Value)) (st : List Value) (H : mm_H) (Q : (Option Value ⊕ Nat) → mm_H → Prop) : Prop := ∃ f o H1, mm_run f d M pc lo st H = some (o, H1) ∧ Q o H1
def mm_C (d mi : Nat) (As : List Value) (H : mm_H) (Q : (Option Value ⊕ Nat) → mm_H → Prop) : Prop := ∃ M lo, mm_at mm_prog mi = some M ∧ mm_enter As M.2.1 = some lo ∧ mm_W d M 0 lo [] H Q
theorem mm_mono1 : ∀ (f d : Nat) (M : mm_M) (pc : Nat) (lo : List (Option Value)) (st : List Value) (H : mm_H) (r : (Option Value ⊕ Nat) × mm_H), mm_run f d M pc lo st H = some r → mm_run (f + 1) d M pc lo st H = some r := by
  intro f
  induction f with
  | zero => intro d M pc lo st H r h; simp [mm_run] at h
  | succ f ih =>
    intro d M pc lo st H r h
    rw [mm_run] at h ⊢
    split at h
    · cases h
    · rename_i i len hlook
      rw [hlook]
      dsimp only
      split at h
      · cases h
      · rename_i hstep
        rw [hstep]
        exact ih _ _ _ _ _ _ _ h
      · rename_i hstep
        rw [hstep]
        exact h
      · rename_i hstep
        rw [hstep]
        exact h
      · rename_i mi As rest thr hstep
        rw [hstep]
        dsimp only
        split at h
        · cases h
        · rename_i d1
          split at h
          · cases h
          · rename_i M1 hM1
            rw [hM1]
            dsimp only
            split at h
            · cases h
            · rename_i lo1 hlo1
              rw [hlo1]
              dsimp only
              split at h
              · cases h
              · rename_i v H2 hrun
                rw [ih _ _ _ _ _ _ _ hrun]
                exact ih _ _ _ _ _ _ _ h
              · rename_i E H2 hrun
                rw [ih _ _ _ _ _ _ _ hrun]
                dsimp only
                split at h
                · rename_i t2 t3
                  rw [t2, t3]
                  exact h
                · rename_i t2 t3
                  rw [t2, t3]
                  dsimp only
                  split at h
                  · cases h
                  · rename_i hp hhand
                    rw [hhand]
                    dsimp only
                    split at h
                    · rename_i k hk
                      rw [hk]
                      dsimp only
                      split at h
                      · cases h
                      · rename_i hg
                        rw [hg]
                        dsimp only
                        split at h
                        · rename_i hlt
                          rw [if_pos hlt]
                          exact ih _ _ _ _ _ _ _ h
                        · cases h
                    · rename_i k hk
                      rw [hk]
                      dsimp only
                      split at h
                      · cases h
                      · rename_i hg
                        rw [hg]
                        dsimp only
                        split at h
                        · rename_i hlt
                          rw [if_pos hlt]
                          exact ih _ _ _ _ _ _ _ h
                        · cases h
                    · cases h
                · cases h
theorem mm_mono {f g d : Nat} {M : mm_M} {pc : Nat} {lo : List (Option Value)} {st : List Value} {H : mm_H} {r : (Option Value ⊕ Nat) × mm_H} (h : mm_run f d M pc lo st H = some r) (hg : f ≤ g) : mm_run g d M pc lo st H = some r := by
  induction g with
  | zero => rw [Nat.le_zero.mp hg] at h; exact h
  | succ g ih =>
    rcases Nat.lt_or_ge g f with z | z
    · rw [show g + 1 = f by omega]; exact h
    · exact mm_mono1 _ _ _ _ _ _ _ _ (ih z)
section WP
variable {d : Nat} {M : mm_M} {pc len : Nat} {lo : List (Option Value)} {st : List Value} {H : mm_H} {Q : (Option Value ⊕ Nat) → mm_H → Prop} {i : Instr}
theorem mm_s1 {q : mm_St} (hl : mm_look M.2.2.2.2 pc = some (i, len)) (hs : mm_step M d pc len lo st H i = some (.inl q)) (k : mm_W d M q.1 q.2.1 q.2.2.1 q.2.2.2 Q) : mm_W d M pc lo st H Q := by
  obtain ⟨f, o, H1, h1, h2⟩ := k
  exact ⟨f + 1, o, H1, by rw [mm_run, hl]; dsimp only; rw [hs]; exact h1, h2⟩
def mm_go : Nat → mm_M → Nat → mm_St → Option mm_St
  | 0, _, _, q => some q
  | k + 1, M, d, q => match mm_look M.2.2.2.2 q.1 with
    | some (i, len) => (match mm_step M d q.1 len q.2.1 q.2.2.1 q.2.2.2 i with
      | some (.inl q1) => mm_go k M d q1
      | _ => none)
    | none => none
theorem mm_gW : ∀ (k : Nat) {q q1 : mm_St}, mm_go k M d q = some q1 → mm_W d M q1.1 q1.2.1 q1.2.2.1 q1.2.2.2 Q → mm_W d M q.1 q.2.1 q.2.2.1 q.2.2.2 Q
  | 0, q, q1, h, k => by
    simp only [mm_go, Option.some.injEq] at h
    rw [h]; exact k
  | n + 1, q, q1, h, k => by
    simp only [mm_go] at h
    split at h
    · rename_i i len hl
      split at h
      · rename_i q2 hs
        exact mm_s1 hl hs (mm_gW n h k)
      · cases h
    · cases h
theorem mm_g (k : Nat) {pc1 : Nat} {lo1 : List (Option Value)} {st1 : List Value} {H1 : mm_H} (h : mm_go k M d (pc, lo, st, H) = some (pc1, lo1, st1, H1)) (kk : mm_W d M pc1 lo1 st1 H1 Q) : mm_W d M pc lo st H Q := mm_gW k h kk
theorem mm_rt {v : Option Value} (hl : mm_look M.2.2.2.2 pc = some (i, len)) (hs : mm_step M d pc len lo st H i = some (.inr (.inl v))) (k : Q (.inl v) H) : mm_W d M pc lo st H Q :=
  ⟨1, _, _, by rw [mm_run, hl]; dsimp only; rw [hs], k⟩
theorem mm_th {E : Nat} (hl : mm_look M.2.2.2.2 pc = some (i, len)) (hs : mm_step M d pc len lo st H i = some (.inr (.inr (.inr E)))) (k : Q (.inr E) (mm_thr H)) : mm_W d M pc lo st H Q :=
  ⟨1, _, _, by rw [mm_run, hl]; dsimp only; rw [hs], k⟩
/-- a call that returns -/
theorem mm_cl1 {mi : Nat} {As rest : List Value} {thr : Bool} (hl : mm_look M.2.2.2.2 pc = some (i, len)) (hs : mm_step M d pc len lo st H i = some (.inr (.inr (.inl (mi, As, rest, thr))))) (hd : 1 ≤ d)
    (k : mm_C (d - 1) mi As H (fun o H1 => ∃ v, o = .inl v ∧ mm_W d M (pc + 3) lo (v.toList ++ rest) H1 Q)) : mm_W d M pc lo st H Q := by
  obtain ⟨M1, lo1, e1, e2, f, o, H1, h1, v, rfl, f2, o2, H2, h2, h3⟩ := k
  obtain ⟨d1, rfl⟩ : ∃ d1, d = d1 + 1 := ⟨d - 1, by omega⟩
  rw [Nat.add_sub_cancel] at h1
  refine ⟨max f f2 + 1, o2, H2, ?_, h3⟩
  rw [mm_run, hl]
  dsimp only
  rw [hs]
  dsimp only
  rw [e1]
  dsimp only
  rw [e2]
  dsimp only
  rw [mm_mono h1 (Nat.le_max_left _ _)]
  exact mm_mono h2 (Nat.le_max_right _ _)
/-- a call that returns or throws what isn't caught here -/
theorem mm_clx {mi : Nat} {As rest : List Value} (hl : mm_look M.2.2.2.2 pc = some (i, len)) (hs : mm_step M d pc len lo st H i = some (.inr (.inr (.inl (mi, As, rest, true))))) (hd : 1 ≤ d) (hM : M.2.2.2.1 = []) (hh : ∀ M1, mm_at mm_prog mi = some M1 → M1.2.2.2.1 = [])
    (k : mm_C (d - 1) mi As H (fun o H1 => match o with | .inl v => mm_W d M (pc + 3) lo (v.toList ++ rest) H1 Q | .inr E => Q (.inr E) H1)) : mm_W d M pc lo st H Q := by
  obtain ⟨M1, lo1, e1, e2, f, o, H1, h1, h9⟩ := k
  obtain ⟨d1, rfl⟩ : ∃ d1, d = d1 + 1 := ⟨d - 1, by omega⟩
  rw [Nat.add_sub_cancel] at h1
  cases o with
  | inl v =>
    obtain ⟨f2, o2, H2, h2, h3⟩ := h9
    refine ⟨max f f2 + 1, o2, H2, ?_, h3⟩
    rw [mm_run, hl]
    dsimp only
    rw [hs]
    dsimp only
    rw [e1]
    dsimp only
    rw [e2]
    dsimp only
    rw [mm_mono h1 (Nat.le_max_left _ _)]
    exact mm_mono h2 (Nat.le_max_right _ _)
  | inr E =>
    refine ⟨f + 1, _, _, ?_, h9⟩
    rw [mm_run, hl]
    dsimp only
    rw [hs]
    dsimp only
    rw [e1]
    dsimp only
    rw [e2]
    dsimp only
    rw [h1]
    dsimp only
    rw [hh M1 e1, hM]
/-- a call whose throw is caught here -/
theorem mm_clh {mi : Nat} {As rest : List Value} (hl : mm_look M.2.2.2.2 pc = some (i, len)) (hs : mm_step M d pc len lo st H i = some (.inr (.inr (.inl (mi, As, rest, true))))) (hd : 1 ≤ d) {h9 : Nat × Nat × Nat × Nat} {hr : List (Nat × Nat × Nat × Nat)} (hM : M.2.2.2.1 = h9 :: hr) (hh : ∀ M1, mm_at mm_prog mi = some M1 → M1.2.2.2.1 = [])
    (k : mm_C (d - 1) mi As H (fun o H1 => match o with
      | .inl v => mm_W d M (pc + 3) lo (v.toList ++ rest) H1 Q
      | .inr E => ∃ hp k, mm_hand M.2.2.2.1 M.1 pc E = some hp ∧ ((mm_look M.2.2.2.2 hp = some (.astore_n k, 1) ∧ mm_lg lo k.val = false ∧ k.val < lo.length ∧ mm_W d M (hp + 1) (mm_set lo k.val none) [] H1 Q) ∨ (mm_look M.2.2.2.2 hp = some (.astore k.val, 2) ∧ mm_lg lo k.val = false ∧ k.val < lo.length ∧ mm_W d M (hp + 2) (mm_set lo k.val none) [] H1 Q) ∨ ∃ k2, mm_look M.2.2.2.2 hp = some (.astore k2, 2) ∧ mm_lg lo k2 = false ∧ k2 < lo.length ∧ mm_W d M (hp + 2) (mm_set lo k2 none) [] H1 Q))) : mm_W d M pc lo st H Q := by
  obtain ⟨M1, lo1, e1, e2, f, o, H1, h1, hq⟩ := k
  obtain ⟨d1, rfl⟩ : ∃ d1, d = d1 + 1 := ⟨d - 1, by omega⟩
  rw [Nat.add_sub_cancel] at h1
  cases o with
  | inl v =>
    obtain ⟨f2, o2, H2, h2, h3⟩ := hq
    refine ⟨max f f2 + 1, o2, H2, ?_, h3⟩
    rw [mm_run, hl]
    dsimp only
    rw [hs]
    dsimp only
    rw [e1]
    dsimp only
    rw [e2]
    dsimp only
    rw [mm_mono h1 (Nat.le_max_left _ _)]
    exact mm_mono h2 (Nat.le_max_right _ _)
  | inr E =>
    obtain ⟨hp, k, g1, g2⟩ := hq
    have key : ∃ k2 : Nat, mm_lg lo k2 = false ∧ k2 < lo.length ∧ ∃ w : Nat, mm_W (d1 + 1) M (hp + w) (mm_set lo k2 none) [] H1 Q ∧ ((w = 2 ∧ mm_look M.2.2.2.2 hp = some (.astore k2, 2)) ∨ (w = 1 ∧ ∃ k3 : Fin 4, k3.val = k2 ∧ mm_look M.2.2.2.2 hp = some (.astore_n k3, 1))) := by
      rcases g2 with ⟨a1, a2, a3, a4⟩ | ⟨a1, a2, a3, a4⟩ | ⟨k2, a1, a2, a3, a4⟩
      · exact ⟨k.val, a2, a3, 1, a4, Or.inr ⟨rfl, k, rfl, a1⟩⟩
      · exact ⟨k.val, a2, a3, 2, a4, Or.inl ⟨rfl, a1⟩⟩
      · exact ⟨k2, a2, a3, 2, a4, Or.inl ⟨rfl, a1⟩⟩
    obtain ⟨k2, b1, b2, w, ⟨f2, o2, H2, h2, h3⟩, b3⟩ := key
    refine ⟨max f f2 + 1, o2, H2, ?_, h3⟩
    rw [hM] at g1
    rw [mm_run, hl]
    dsimp only
    rw [hs]
    dsimp only
    rw [e1]
    dsimp only
    rw [e2]
    dsimp only
    rw [mm_mono h1 (Nat.le_max_left _ _)]
    dsimp only
    rw [hh M1 e1, hM]
    dsimp only
    rw [g1]
    dsimp only
    rcases b3 with ⟨rfl, b3⟩ | ⟨rfl, k3, rfl, b3⟩
    · rw [b3]
      dsimp only
      rw [b1]
      dsimp only
      rw [if_pos b2]
      exact mm_mono h2 (Nat.le_max_right _ _)
    · rw [b3]
      dsimp only
      rw [b1]
      dsimp only
      rw [if_pos b2]
      exact mm_mono h2 (Nat.le_max_right _ _)
theorem mm_if_eq {x : Int32} {off : Int} {tgt : Nat} (hl : mm_look M.2.2.2.2 pc = some (.ifCond .eq off, 3)) (ht : (pc : Int) + off = (tgt : Int)) (kt : x = 0 → mm_W d M tgt lo st H Q) (kf : ¬ (x = 0) → mm_W d M (pc + 3) lo st H Q) : mm_W d M pc lo (.int x :: st) H Q := by
  have hbr : mm_br pc off lo st H = some (.inl (tgt, lo, st, H)) := by unfold mm_br mm_nx; rw [ht, if_pos (Int.natCast_nonneg tgt)]; rfl
  by_cases hc : x = 0
  · exact mm_s1 hl (by show (if x = 0 then _ else _) = _; rw [if_pos hc]; exact hbr) (kt hc)
  · exact mm_s1 (q := (pc + 3, lo, st, H)) hl (by show (if x = 0 then _ else _) = _; rw [if_neg hc]; rfl) (kf hc)
theorem mm_if_ne {x : Int32} {off : Int} {tgt : Nat} (hl : mm_look M.2.2.2.2 pc = some (.ifCond .ne off, 3)) (ht : (pc : Int) + off = (tgt : Int)) (kt : ¬ x = 0 → mm_W d M tgt lo st H Q) (kf : ¬ (¬ x = 0) → mm_W d M (pc + 3) lo st H Q) : mm_W d M pc lo (.int x :: st) H Q := by
  have hbr : mm_br pc off lo st H = some (.inl (tgt, lo, st, H)) := by unfold mm_br mm_nx; rw [ht, if_pos (Int.natCast_nonneg tgt)]; rfl
  by_cases hc : ¬ x = 0
  · exact mm_s1 hl (by show (if x = 0 then _ else _) = _; rw [if_neg hc]; exact hbr) (kt hc)
  · exact mm_s1 (q := (pc + 3, lo, st, H)) hl (by show (if x = 0 then _ else _) = _; rw [if_pos (Classical.not_not.mp hc)]; rfl) (kf hc)
theorem mm_if_lt {x : Int32} {off : Int} {tgt : Nat} (hl : mm_look M.2.2.2.2 pc = some (.ifCond .lt off, 3)) (ht : (pc : Int) + off = (tgt : Int)) (kt : x < 0 → mm_W d M tgt lo st H Q) (kf : ¬ (x < 0) → mm_W d M (pc + 3) lo st H Q) : mm_W d M pc lo (.int x :: st) H Q := by
  have hbr : mm_br pc off lo st H = some (.inl (tgt, lo, st, H)) := by unfold mm_br mm_nx; rw [ht, if_pos (Int.natCast_nonneg tgt)]; rfl
  by_cases hc : x < 0
  · exact mm_s1 hl (by show (if x < 0 then _ else _) = _; rw [if_pos hc]; exact hbr) (kt hc)
  · exact mm_s1 (q := (pc + 3, lo, st, H)) hl (by show (if x < 0 then _ else _) = _; rw [if_neg hc]; rfl) (kf hc)
theorem mm_if_ge {x : Int32} {off : Int} {tgt : Nat} (hl : mm_look M.2.2.2.2 pc = some (.ifCond .ge off, 3)) (ht : (pc : Int) + off = (tgt : Int)) (kt : 0 ≤ x → mm_W d M tgt lo st H Q) (kf : ¬ (0 ≤ x) → mm_W d M (pc + 3) lo st H Q) : mm_W d M pc lo (.int x :: st) H Q := by
  have hbr : mm_br pc off lo st H = some (.inl (tgt, lo, st, H)) := by unfold mm_br mm_nx; rw [ht, if_pos (Int.natCast_nonneg tgt)]; rfl
  by_cases hc : 0 ≤ x
  · exact mm_s1 hl (by show (if 0 ≤ x then _ else _) = _; rw [if_pos hc]; exact hbr) (kt hc)
  · exact mm_s1 (q := (pc + 3, lo, st, H)) hl (by show (if 0 ≤ x then _ else _) = _; rw [if_neg hc]; rfl) (kf hc)
theorem mm_if_gt {x : Int32} {off : Int} {tgt : Nat} (hl : mm_look M.2.2.2.2 pc = some (.ifCond .gt off, 3)) (ht : (pc : Int) + off = (tgt : Int)) (kt : 0 < x → mm_W d M tgt lo st H Q) (kf : ¬ (0 < x) → mm_W d M (pc + 3) lo st H Q) : mm_W d M pc lo (.int x :: st) H Q := by
  have hbr : mm_br pc off lo st H = some (.inl (tgt, lo, st, H)) := by unfold mm_br mm_nx; rw [ht, if_pos (Int.natCast_nonneg tgt)]; rfl
  by_cases hc : 0 < x
  · exact mm_s1 hl (by show (if 0 < x then _ else _) = _; rw [if_pos hc]; exact hbr) (kt hc)
  · exact mm_s1 (q := (pc + 3, lo, st, H)) hl (by show (if 0 < x then _ else _) = _; rw [if_neg hc]; rfl) (kf hc)
theorem mm_if_le {x : Int32} {off : Int} {tgt : Nat} (hl : mm_look M.2.2.2.2 pc = some (.ifCond .le off, 3)) (ht : (pc : Int) + off = (tgt : Int)) (kt : x ≤ 0 → mm_W d M tgt lo st H Q) (kf : ¬ (x ≤ 0) → mm_W d M (pc + 3) lo st H Q) : mm_W d M pc lo (.int x :: st) H Q := by
  have hbr : mm_br pc off lo st H = some (.inl (tgt, lo, st, H)) := by unfold mm_br mm_nx; rw [ht, if_pos (Int.natCast_nonneg tgt)]; rfl
  by_cases hc : x ≤ 0
  · exact mm_s1 hl (by show (if x ≤ 0 then _ else _) = _; rw [if_pos hc]; exact hbr) (kt hc)
  · exact mm_s1 (q := (pc + 3, lo, st, H)) hl (by show (if x ≤ 0 then _ else _) = _; rw [if_neg hc]; rfl) (kf hc)
theorem mm_ic_eq {x y : Int32} {off : Int} {tgt : Nat} (hl : mm_look M.2.2.2.2 pc = some (.if_icmp .eq off, 3)) (ht : (pc : Int) + off = (tgt : Int)) (kt : x = y → mm_W d M tgt lo st H Q) (kf : ¬ (x = y) → mm_W d M (pc + 3) lo st H Q) : mm_W d M pc lo (.int y :: .int x :: st) H Q := by
  have hbr : mm_br pc off lo st H = some (.inl (tgt, lo, st, H)) := by unfold mm_br mm_nx; rw [ht, if_pos (Int.natCast_nonneg tgt)]; rfl
  by_cases hc : x = y
  · exact mm_s1 hl (by show (if x = y then _ else _) = _; rw [if_pos hc]; exact hbr) (kt hc)
  · exact mm_s1 (q := (pc + 3, lo, st, H)) hl (by show (if x = y then _ else _) = _; rw [if_neg hc]; rfl) (kf hc)
theorem mm_ic_ne {x y : Int32} {off : Int} {tgt : Nat} (hl : mm_look M.2.2.2.2 pc = some (.if_icmp .ne off, 3)) (ht : (pc : Int) + off = (tgt : Int)) (kt : ¬ x = y → mm_W d M tgt lo st H Q) (kf : ¬ (¬ x = y) → mm_W d M (pc + 3) lo st H Q) : mm_W d M pc lo (.int y :: .int x :: st) H Q := by
  have hbr : mm_br pc off lo st H = some (.inl (tgt, lo, st, H)) := by unfold mm_br mm_nx; rw [ht, if_pos (Int.natCast_nonneg tgt)]; rfl
  by_cases hc : ¬ x = y
  · exact mm_s1 hl (by show (if x = y then _ else _) = _; rw [if_neg hc]; exact hbr) (kt hc)
  · exact mm_s1 (q := (pc + 3, lo, st, H)) hl (by show (if x = y then _ else _) = _; rw [if_pos (Classical.not_not.mp hc)]; rfl) (kf hc)
theorem mm_ic_lt {x y : Int32} {off : Int} {tgt : Nat} (hl : mm_look M.2.2.2.2 pc = some (.if_icmp .lt off, 3)) (ht : (pc : Int) + off = (tgt : Int)) (kt : x < y → mm_W d M tgt lo st H Q) (kf : ¬ (x < y) → mm_W d M (pc + 3) lo st H Q) : mm_W d M pc lo (.int y :: .int x :: st) H Q := by
  have hbr : mm_br pc off lo st H = some (.inl (tgt, lo, st, H)) := by unfold mm_br mm_nx; rw [ht, if_pos (Int.natCast_nonneg tgt)]; rfl
  by_cases hc : x < y
  · exact mm_s1 hl (by show (if x < y then _ else _) = _; rw [if_pos hc]; exact hbr) (kt hc)
  · exact mm_s1 (q := (pc + 3, lo, st, H)) hl (by show (if x < y then _ else _) = _; rw [if_neg hc]; rfl) (kf hc)
theorem mm_ic_ge {x y : Int32} {off : Int} {tgt : Nat} (hl : mm_look M.2.2.2.2 pc = some (.if_icmp .ge off, 3)) (ht : (pc : Int) + off = (tgt : Int)) (kt : y ≤ x → mm_W d M tgt lo st H Q) (kf : ¬ (y ≤ x) → mm_W d M (pc + 3) lo st H Q) : mm_W d M pc lo (.int y :: .int x :: st) H Q := by
  have hbr : mm_br pc off lo st H = some (.inl (tgt, lo, st, H)) := by unfold mm_br mm_nx; rw [ht, if_pos (Int.natCast_nonneg tgt)]; rfl
  by_cases hc : y ≤ x
  · exact mm_s1 hl (by show (if y ≤ x then _ else _) = _; rw [if_pos hc]; exact hbr) (kt hc)
  · exact mm_s1 (q := (pc + 3, lo, st, H)) hl (by show (if y ≤ x then _ else _) = _; rw [if_neg hc]; rfl) (kf hc)
theorem mm_ic_gt {x y : Int32} {off : Int} {tgt : Nat} (hl : mm_look M.2.2.2.2 pc = some (.if_icmp .gt off, 3)) (ht : (pc : Int) + off = (tgt : Int)) (kt : y < x → mm_W d M tgt lo st H Q) (kf : ¬ (y < x) → mm_W d M (pc + 3) lo st H Q) : mm_W d M pc lo (.int y :: .int x :: st) H Q := by
  have hbr : mm_br pc off lo st H = some (.inl (tgt, lo, st, H)) := by unfold mm_br mm_nx; rw [ht, if_pos (Int.natCast_nonneg tgt)]; rfl
  by_cases hc : y < x
  · exact mm_s1 hl (by show (if y < x then _ else _) = _; rw [if_pos hc]; exact hbr) (kt hc)
  · exact mm_s1 (q := (pc + 3, lo, st, H)) hl (by show (if y < x then _ else _) = _; rw [if_neg hc]; rfl) (kf hc)
theorem mm_ic_le {x y : Int32} {off : Int} {tgt : Nat} (hl : mm_look M.2.2.2.2 pc = some (.if_icmp .le off, 3)) (ht : (pc : Int) + off = (tgt : Int)) (kt : x ≤ y → mm_W d M tgt lo st H Q) (kf : ¬ (x ≤ y) → mm_W d M (pc + 3) lo st H Q) : mm_W d M pc lo (.int y :: .int x :: st) H Q := by
  have hbr : mm_br pc off lo st H = some (.inl (tgt, lo, st, H)) := by unfold mm_br mm_nx; rw [ht, if_pos (Int.natCast_nonneg tgt)]; rfl
  by_cases hc : x ≤ y
  · exact mm_s1 hl (by show (if x ≤ y then _ else _) = _; rw [if_pos hc]; exact hbr) (kt hc)
  · exact mm_s1 (q := (pc + 3, lo, st, H)) hl (by show (if x ≤ y then _ else _) = _; rw [if_neg hc]; rfl) (kf hc)
theorem mm_gt {off : Int} {tgt : Nat} (hl : mm_look M.2.2.2.2 pc = some (.goto off, 3)) (ht : (pc : Int) + off = (tgt : Int)) (k : mm_W d M tgt lo st H Q) : mm_W d M pc lo st H Q := by
  have hbr : mm_br pc off lo st H = some (.inl (tgt, lo, st, H)) := by unfold mm_br mm_nx; rw [ht, if_pos (Int.natCast_nonneg tgt)]; rfl
  exact mm_s1 hl hbr k
theorem mm_fgI {q ci k ne j kd : Nat} {v : Int32} (hl : mm_look M.2.2.2.2 pc = some (.getfield j, 3)) (hf : mm_tab mm_fldT M.1 j = some (ci, k, ne) ∧ mm_tab mm_ftT ci k = some kd) (hk : kd < 2) (hsh : (mm_sh H q).1 = ci) (hv : mm_I H q k = v) (kk : mm_W d M (pc + 3) lo (.int v :: st) H Q) : mm_W d M pc lo (.ref q :: st) H Q := by
  subst hv
  refine mm_s1 (q := (pc + 3, lo, .int (mm_I H q k) :: st, H)) hl ?_ kk
  simp only [mm_step, hf.1, hf.2, hsh, if_true]
  rcases (by omega : kd = 0 ∨ kd = 1) with rfl | rfl <;> rfl
theorem mm_fgR {q ci k ne j kd v : Nat} (hl : mm_look M.2.2.2.2 pc = some (.getfield j, 3)) (hf : mm_tab mm_fldT M.1 j = some (ci, k, ne) ∧ mm_tab mm_ftT ci k = some kd) (hk : 2 ≤ kd) (hsh : (mm_sh H q).1 = ci) (hv : mm_R H q k = some v) (kk : mm_W d M (pc + 3) lo (.ref v :: st) H Q) : mm_W d M pc lo (.ref q :: st) H Q := by
  refine mm_s1 (q := (pc + 3, lo, va_rf (mm_R H q k) :: st, H)) hl ?_ (by rw [hv]; exact kk)
  simp only [mm_step, hf.1, hf.2, hsh, if_true]
  obtain ⟨k2, rfl⟩ : ∃ k2, kd = k2 + 2 := ⟨kd - 2, by omega⟩
  rfl
theorem mm_fpI {q ci k ne j : Nat} {v : Int32} (hl : mm_look M.2.2.2.2 pc = some (.putfield j, 3)) (hf : mm_tab mm_fldT M.1 j = some (ci, k, ne) ∧ mm_tab mm_ftT ci k = some 0) (hsh : (mm_sh H q).1 = ci) (kk : mm_W d M (pc + 3) lo st (mm_wI H q k v) Q) : mm_W d M pc lo (.int v :: .ref q :: st) H Q := by
  refine mm_s1 (q := (pc + 3, lo, st, mm_wI H q k v)) hl ?_ kk
  simp only [mm_step, hf.1, hf.2, hsh, if_true]
  rfl
theorem mm_fpZ {q ci k ne j : Nat} {v : Int32} (hl : mm_look M.2.2.2.2 pc = some (.putfield j, 3)) (hf : mm_tab mm_fldT M.1 j = some (ci, k, ne) ∧ mm_tab mm_ftT ci k = some 1) (hsh : (mm_sh H q).1 = ci) (hv : v = 0 ∨ v = 1) (kk : mm_W d M (pc + 3) lo st (mm_wI H q k v) Q) : mm_W d M pc lo (.int v :: .ref q :: st) H Q := by
  refine mm_s1 (q := (pc + 3, lo, st, mm_wI H q k v)) hl ?_ kk
  simp only [mm_step, hf.1, hf.2, hsh, if_true, if_pos hv]
  rfl
theorem mm_fpR {q ci k ne j v : Nat} (hl : mm_look M.2.2.2.2 pc = some (.putfield j, 3)) (hf : mm_tab mm_fldT M.1 j = some (ci, k, ne) ∧ mm_tab mm_ftT ci k = some 2) (hsh : (mm_sh H q).1 = ci) (kk : mm_W d M (pc + 3) lo st (mm_wR H q k (some v)) Q) : mm_W d M pc lo (.ref v :: .ref q :: st) H Q := by
  refine mm_s1 (q := (pc + 3, lo, st, mm_wR H q k (some v))) hl ?_ kk
  simp only [mm_step, hf.1, hf.2, hsh, if_true]
  rfl
theorem mm_ai {x : Int32} {n : Nat} (h0 : 0 ≤ x.toInt) (h1 : x.toInt < n) : ¬ (x < 0 ∨ n ≤ x.toNatClampNeg) := by
  intro h
  rcases h with h | h
  · rw [Int32.lt_iff_toInt_lt, Int32.toInt_zero] at h; omega
  · have : x.toNatClampNeg = x.toInt.toNat := rfl
    omega
theorem mm_ia {q n : Nat} {x : Int32} {v : Int32} (hl : mm_look M.2.2.2.2 pc = some (.iaload, 1)) (hsh : mm_sh H q = (100, n) ∨ mm_sh H q = (106, n)) (h0 : 0 ≤ x.toInt) (h1 : x.toInt < n) (hv : mm_I H q x.toNatClampNeg = v) (kk : mm_W d M (pc + 1) lo (.int v :: st) H Q) : mm_W d M pc lo (.int x :: .ref q :: st) H Q := by
  subst hv
  refine mm_s1 (q := (pc + 1, lo, .int (mm_I H q x.toNatClampNeg) :: st, H)) hl ?_ kk
  have hin := mm_ai h0 h1
  rcases hsh with hsh | hsh <;> simp [mm_step, hsh, if_neg hin, mm_nx]
theorem mm_ba {q n : Nat} {x : Int32} {v : Int32} (hl : mm_look M.2.2.2.2 pc = some (.baload, 1)) (hsh : mm_sh H q = (101, n) ∨ mm_sh H q = (108, n)) (h0 : 0 ≤ x.toInt) (h1 : x.toInt < n) (hv : mm_I H q x.toNatClampNeg = v) (kk : mm_W d M (pc + 1) lo (.int v :: st) H Q) : mm_W d M pc lo (.int x :: .ref q :: st) H Q := by
  subst hv
  refine mm_s1 (q := (pc + 1, lo, .int (mm_I H q x.toNatClampNeg) :: st, H)) hl ?_ kk
  have hin := mm_ai h0 h1
  rcases hsh with hsh | hsh <;> simp [mm_step, hsh, if_neg hin, mm_nx]
theorem mm_is {q n : Nat} {x v : Int32} (hl : mm_look M.2.2.2.2 pc = some (.iastore, 1)) (hsh : mm_sh H q = (100, n)) (h0 : 0 ≤ x.toInt) (h1 : x.toInt < n) (kk : mm_W d M (pc + 1) lo st (mm_wI H q x.toNatClampNeg v) Q) : mm_W d M pc lo (.int v :: .int x :: .ref q :: st) H Q := by
  refine mm_s1 (q := (pc + 1, lo, st, mm_wI H q x.toNatClampNeg v)) hl ?_ kk
  have hin := mm_ai h0 h1
  simp [mm_step, hsh, if_neg hin, mm_nx]
theorem mm_bs {q n : Nat} {x v : Int32} (hl : mm_look M.2.2.2.2 pc = some (.bastore, 1)) (hsh : mm_sh H q = (101, n)) (h0 : 0 ≤ x.toInt) (h1 : x.toInt < n) (kk : mm_W d M (pc + 1) lo st (mm_wI H q x.toNatClampNeg (vp_nar .byte v)) Q) : mm_W d M pc lo (.int v :: .int x :: .ref q :: st) H Q := by
  refine mm_s1 (q := (pc + 1, lo, st, mm_wI H q x.toNatClampNeg (vp_nar .byte v))) hl ?_ kk
  have hin := mm_ai h0 h1
  simp [mm_step, hsh, if_neg hin, mm_nx]
theorem mm_aa {q n t v : Nat} {x : Int32} (hl : mm_look M.2.2.2.2 pc = some (.aaload, 1)) (hsh : mm_sh H q = (t, n)) (ht : t = 103 ∨ t = 104 ∨ t = 105) (h0 : 0 ≤ x.toInt) (h1 : x.toInt < n) (hv : mm_R H q x.toNatClampNeg = some v) (kk : mm_W d M (pc + 1) lo (.ref v :: st) H Q) : mm_W d M pc lo (.int x :: .ref q :: st) H Q := by
  refine mm_s1 (q := (pc + 1, lo, va_rf (mm_R H q x.toNatClampNeg) :: st, H)) hl ?_ (by rw [hv]; exact kk)
  have hin := mm_ai h0 h1
  simp [mm_step, hsh, if_pos ht, if_neg hin, mm_nx]
theorem mm_al {q n t : Nat} (hl : mm_look M.2.2.2.2 pc = some (.arraylength, 1)) (hsh : mm_sh H q = (t, n)) (ht : (100 ≤ t ∧ t ≤ 106) ∨ t = 108) (kk : mm_W d M (pc + 1) lo (.int (Int32.ofNat n) :: st) H Q) : mm_W d M pc lo (.ref q :: st) H Q := by
  refine mm_s1 (q := (pc + 1, lo, .int (Int32.ofNat n) :: st, H)) hl ?_ kk
  simp [mm_step, hsh, if_pos ht, mm_nx]
theorem mm_ls {q n : Nat} {x : Int32} {v : Int64} (hl : mm_look M.2.2.2.2 pc = some (.lastore, 1)) (hsh : mm_sh H q = (102, n)) (h0 : 0 ≤ x.toInt) (h1 : x.toInt < n) (kk : mm_W d M (pc + 1) lo st (mm_wL H q x.toNatClampNeg v) Q) : mm_W d M pc lo (.long v :: .int x :: .ref q :: st) H Q := by
  refine mm_s1 (q := (pc + 1, lo, st, mm_wL H q x.toNatClampNeg v)) hl ?_ kk
  have hin := mm_ai h0 h1
  simp [mm_step, hsh, if_neg hin, mm_nx]
theorem mm_dv {x y : Int32} (hl : mm_look M.2.2.2.2 pc = some (.idiv, 1)) (hy : ¬ y = 0) (kk : mm_W d M (pc + 1) lo (.int (x / y) :: st) H Q) : mm_W d M pc lo (.int y :: .int x :: st) H Q :=
  mm_s1 (q := (pc + 1, lo, .int (x / y) :: st, H)) hl (by show (if y = 0 then _ else _) = _; rw [if_neg hy]; rfl) kk
theorem mm_rm9 {x y : Int32} (hl : mm_look M.2.2.2.2 pc = some (.irem, 1)) (hy : ¬ y = 0) (kk : mm_W d M (pc + 1) lo (.int (x - x / y * y) :: st) H Q) : mm_W d M pc lo (.int y :: .int x :: st) H Q :=
  mm_s1 (q := (pc + 1, lo, .int (x - x / y * y) :: st, H)) hl (by show (if y = 0 then _ else _) = _; rw [if_neg hy]; rfl) kk
theorem mm_rtZ {x : Int32} (hl : mm_look M.2.2.2.2 pc = some (.ireturn, 1)) (hM : M.2.2.1 = 2) (hx : x = 0 ∨ x = 1) (k : Q (.inl (some (.int x))) H) : mm_W d M pc lo [.int x] H Q :=
  mm_rt hl (by simp only [mm_step, hM, if_pos hx]) k
/-- a loop -/
theorem mm_lp {α : Type} (μ : α → Nat) {P : α → Prop} (h : ∀ a, (∀ b, μ b < μ a → P b) → P a) (a : α) : P a := by
  have : ∀ n a, μ a ≤ n → P a := by
    intro n
    induction n with
    | zero => intro a ha; exact h a (fun b hb => by omega)
    | succ n ih => intro a ha; exact h a (fun b hb => ih b (by omega))
  exact this (μ a) a (Nat.le_refl _)
end WP
