/-! THE MINI MACHINE'S WEAKEST PRECONDITION -/
def mm_W (d : Nat) (M : mm_M) (pc : Nat) (lo : List (Option Value)) (st : List Value) (H : mm_H) (Q : (Option Value ⊕ Nat) → mm_H → Prop) : Prop := ∃ f o H1, mm_run f d M pc lo st H = some (o, H1) ∧ Q o H1
def mm_C (d mi : Nat) (As : List Value) (H : mm_H) (Q : (Option Value ⊕ Nat) → mm_H → Prop) : Prop := ∃ M lo, mm_at mm_prog mi = some M ∧ mm_enter As M.2.1 = some lo ∧ mm_W d M 0 lo [] H Q
theorem mm_mono1 : ∀ (f d : Nat) (M : mm_M) (pc : Nat) (lo : List (Option Value)) (st : List Value) (H : mm_H) (r : (Option Value ⊕ Nat) × mm_H), mm_run f d M pc lo st H = some r → mm_run (f + 1) d M pc lo st H = some r := by
  intro f
  induction f with
  | zero => intro d M pc lo st H r h; simp [mm_run] at h
  | succ f ih =>
    intro d M pc lo st H r h
    rw [mm_run] at h ⊢
    split at h
    · cases h
    · rename_i i len hlook
      (try rw [hlook])
      (try dsimp only)
      split at h
      · cases h
      · rename_i hstep
        (try rw [hstep])
        exact ih _ _ _ _ _ _ _ h
      · rename_i hstep
        (try rw [hstep])
        exact h
      · rename_i hstep
        (try rw [hstep])
        exact h
      · rename_i mi As rest thr hstep
        (try rw [hstep])
        (try dsimp only)
        split at h
        · cases h
        · rename_i d1
          split at h
          · cases h
          · rename_i M1 hM1
            (try rw [hM1])
            (try dsimp only)
            split at h
            · cases h
            · rename_i lo1 hlo1
              (try rw [hlo1])
              (try dsimp only)
              split at h
              · cases h
              · rename_i v H2 hrun
                rw [ih _ _ _ _ _ _ _ hrun]
                exact ih _ _ _ _ _ _ _ h
              · rename_i E H2 hrun
                rw [ih _ _ _ _ _ _ _ hrun]
                (try dsimp only)
                split at h
                · rename_i t2 t3
                  (try rw [t2, t3])
                  exact h
                · rename_i t2 t3
                  (try rw [t2, t3])
                  (try dsimp only)
                  split at h
                  · cases h
                  · rename_i hp hhand
                    (try rw [hhand])
                    (try dsimp only)
                    split at h
                    · rename_i k hk
                      (try rw [hk])
                      (try dsimp only)
                      split at h
                      · cases h
                      · rename_i hg
                        (try rw [hg])
                        (try dsimp only)
                        split at h
                        · rename_i hlt
                          rw [if_pos hlt]
                          exact ih _ _ _ _ _ _ _ h
                        · cases h
                    · rename_i k hk
                      (try rw [hk])
                      (try dsimp only)
                      split at h
                      · cases h
                      · rename_i hg
                        (try rw [hg])
                        (try dsimp only)
                        split at h
                        · rename_i hlt
                          rw [if_pos hlt]
                          exact ih _ _ _ _ _ _ _ h
                        · cases h
                    · cases h
                · cases h
theorem mm_mono {f g d : Nat} {M : mm_M} {pc : Nat} {lo : List (Option Value)} {st : List Value} {H : mm_H} {r : (Option Value ⊕ Nat) × mm_H} (h : mm_run f d M pc lo st H = some r) (hg : f ≤ g) : mm_run g d M pc lo st H = some r := by
  induction g with
  | zero => rw [Nat.le_zero.mp hg] at h; exact h
  | succ g ih =>
    rcases Nat.lt_or_ge g f with z | z
    · rw [show g + 1 = f by omega]; exact h
    · exact mm_mono1 _ _ _ _ _ _ _ _ (ih z)
section WP
variable {d : Nat} {M : mm_M} {pc len : Nat} {lo : List (Option Value)} {st : List Value} {H : mm_H} {Q : (Option Value ⊕ Nat) → mm_H → Prop} {i : Instr}
theorem mm_s1 {q : mm_St} (hl : mm_look M.2.2.2.2 pc = some (i, len)) (hs : mm_step M d pc len lo st H i = some (.inl q)) (k : mm_W d M q.1 q.2.1 q.2.2.1 q.2.2.2 Q) : mm_W d M pc lo st H Q := by
  obtain ⟨f, o, H1, h1, h2⟩ := k
  exact ⟨f + 1, o, H1, by rw [mm_run, hl]; dsimp only; rw [hs]; exact h1, h2⟩
def mm_go : Nat → mm_M → Nat → mm_St → Option mm_St
  | 0, _, _, q => some q
  | k + 1, M, d, q => match mm_look M.2.2.2.2 q.1 with
    | some (i, len) => (match mm_step M d q.1 len q.2.1 q.2.2.1 q.2.2.2 i with
      | some (.inl q1) => mm_go k M d q1
      | _ => none)
    | none => none
theorem mm_gW : ∀ (k : Nat) {q q1 : mm_St}, mm_go k M d q = some q1 → mm_W d M q1.1 q1.2.1 q1.2.2.1 q1.2.2.2 Q → mm_W d M q.1 q.2.1 q.2.2.1 q.2.2.2 Q
  | 0, q, q1, h, k => by
    simp only [mm_go, Option.some.injEq] at h
    rw [h]; exact k
  | n + 1, q, q1, h, k => by
    simp only [mm_go] at h
    split at h
    · rename_i i len hl
      split at h
      · rename_i q2 hs
        exact mm_s1 hl hs (mm_gW n h k)
      · cases h
    · cases h
theorem mm_g (k : Nat) {pc1 : Nat} {lo1 : List (Option Value)} {st1 : List Value} {H1 : mm_H} (h : mm_go k M d (pc, lo, st, H) = some (pc1, lo1, st1, H1)) (kk : mm_W d M pc1 lo1 st1 H1 Q) : mm_W d M pc lo st H Q := mm_gW k h kk
theorem mm_rt {v : Option Value} (hl : mm_look M.2.2.2.2 pc = some (i, len)) (hs : mm_step M d pc len lo st H i = some (.inr (.inl v))) (k : Q (.inl v) H) : mm_W d M pc lo st H Q :=
  ⟨1, _, _, by rw [mm_run, hl]; dsimp only; rw [hs], k⟩
theorem mm_th {E : Nat} (hl : mm_look M.2.2.2.2 pc = some (i, len)) (hs : mm_step M d pc len lo st H i = some (.inr (.inr (.inr E)))) (k : Q (.inr E) (mm_thr H)) : mm_W d M pc lo st H Q :=
  ⟨1, _, _, by rw [mm_run, hl]; dsimp only; rw [hs], k⟩
/-- a call that returns -/
theorem mm_cl1 {mi : Nat} {As rest : List Value} {thr : Bool} (hl : mm_look M.2.2.2.2 pc = some (i, len)) (hs : mm_step M d pc len lo st H i = some (.inr (.inr (.inl (mi, As, rest, thr))))) (hd : 1 ≤ d)
    (k : mm_C (d - 1) mi As H (fun o H1 => ∃ v, o = .inl v ∧ mm_W d M (pc + 3) lo (v.toList ++ rest) H1 Q)) : mm_W d M pc lo st H Q := by
  obtain ⟨M1, lo1, e1, e2, f, o, H1, h1, v, rfl, f2, o2, H2, h2, h3⟩ := k
  obtain ⟨d1, rfl⟩ : ∃ d1, d = d1 + 1 := ⟨d - 1, by omega⟩
  rw [Nat.add_sub_cancel] at h1
  refine ⟨max f f2 + 1, o2, H2, ?_, h3⟩
  rw [mm_run, hl]
  (try dsimp only)
  rw [hs]
  (try dsimp only)
  rw [e1]
  (try dsimp only)
  rw [e2]
  (try dsimp only)
  rw [mm_mono h1 (Nat.le_max_left _ _)]
  exact mm_mono h2 (Nat.le_max_right _ _)
/-- a call that returns or throws what isn't caught here -/
theorem mm_clx {mi : Nat} {As rest : List Value} (hl : mm_look M.2.2.2.2 pc = some (i, len)) (hs : mm_step M d pc len lo st H i = some (.inr (.inr (.inl (mi, As, rest, true))))) (hd : 1 ≤ d) (hM : M.2.2.2.1 = []) (hh : ∀ M1, mm_at mm_prog mi = some M1 → M1.2.2.2.1 = [])
    (k : mm_C (d - 1) mi As H (fun o H1 => match o with | .inl v => mm_W d M (pc + 3) lo (v.toList ++ rest) H1 Q | .inr E => Q (.inr E) H1)) : mm_W d M pc lo st H Q := by
  obtain ⟨M1, lo1, e1, e2, f, o, H1, h1, h9⟩ := k
  obtain ⟨d1, rfl⟩ : ∃ d1, d = d1 + 1 := ⟨d - 1, by omega⟩
  rw [Nat.add_sub_cancel] at h1
  cases o with
  | inl v =>
    obtain ⟨f2, o2, H2, h2, h3⟩ := h9
    refine ⟨max f f2 + 1, o2, H2, ?_, h3⟩
    rw [mm_run, hl]
    (try dsimp only)
    rw [hs]
    (try dsimp only)
    rw [e1]
    (try dsimp only)
    rw [e2]
    (try dsimp only)
    rw [mm_mono h1 (Nat.le_max_left _ _)]
    exact mm_mono h2 (Nat.le_max_right _ _)
  | inr E =>
    refine ⟨f + 1, _, _, ?_, h9⟩
    rw [mm_run, hl]
    (try dsimp only)
    rw [hs]
    (try dsimp only)
    rw [e1]
    (try dsimp only)
    rw [e2]
    (try dsimp only)
    rw [h1]
    (try dsimp only)
    rw [hh M1 e1, hM]
/-- a call whose throw is caught here -/
theorem mm_clh {mi : Nat} {As rest : List Value} (hl : mm_look M.2.2.2.2 pc = some (i, len)) (hs : mm_step M d pc len lo st H i = some (.inr (.inr (.inl (mi, As, rest, true))))) (hd : 1 ≤ d) {h9 : Nat × Nat × Nat × Nat} {hr : List (Nat × Nat × Nat × Nat)} (hM : M.2.2.2.1 = h9 :: hr) (hh : ∀ M1, mm_at mm_prog mi = some M1 → M1.2.2.2.1 = [])
    (k : mm_C (d - 1) mi As H (fun o H1 => match o with
      | .inl v => mm_W d M (pc + 3) lo (v.toList ++ rest) H1 Q
      | .inr E => ∃ hp k, mm_hand M.2.2.2.1 M.1 pc E = some hp ∧ ((mm_look M.2.2.2.2 hp = some (.astore_n k, 1) ∧ mm_lg lo k.val = false ∧ k.val < lo.length ∧ mm_W d M (hp + 1) (mm_set lo k.val none) [] H1 Q) ∨ (mm_look M.2.2.2.2 hp = some (.astore k.val, 2) ∧ mm_lg lo k.val = false ∧ k.val < lo.length ∧ mm_W d M (hp + 2) (mm_set lo k.val none) [] H1 Q) ∨ ∃ k2, mm_look M.2.2.2.2 hp = some (.astore k2, 2) ∧ mm_lg lo k2 = false ∧ k2 < lo.length ∧ mm_W d M (hp + 2) (mm_set lo k2 none) [] H1 Q))) : mm_W d M pc lo st H Q := by
  obtain ⟨M1, lo1, e1, e2, f, o, H1, h1, hq⟩ := k
  obtain ⟨d1, rfl⟩ : ∃ d1, d = d1 + 1 := ⟨d - 1, by omega⟩
  rw [Nat.add_sub_cancel] at h1
  cases o with
  | inl v =>
    obtain ⟨f2, o2, H2, h2, h3⟩ := hq
    refine ⟨max f f2 + 1, o2, H2, ?_, h3⟩
    rw [mm_run, hl]
    (try dsimp only)
    rw [hs]
    (try dsimp only)
    rw [e1]
    (try dsimp only)
    rw [e2]
    (try dsimp only)
    rw [mm_mono h1 (Nat.le_max_left _ _)]
    exact mm_mono h2 (Nat.le_max_right _ _)
  | inr E =>
    obtain ⟨hp, k, g1, g2⟩ := hq
    have key : ∃ k2 : Nat, mm_lg lo k2 = false ∧ k2 < lo.length ∧ ∃ w : Nat, mm_W (d1 + 1) M (hp + w) (mm_set lo k2 none) [] H1 Q ∧ ((w = 2 ∧ mm_look M.2.2.2.2 hp = some (.astore k2, 2)) ∨ (w = 1 ∧ ∃ k3 : Fin 4, k3.val = k2 ∧ mm_look M.2.2.2.2 hp = some (.astore_n k3, 1))) := by
      rcases g2 with ⟨a1, a2, a3, a4⟩ | ⟨a1, a2, a3, a4⟩ | ⟨k2, a1, a2, a3, a4⟩
      · exact ⟨k.val, a2, a3, 1, a4, Or.inr ⟨rfl, k, rfl, a1⟩⟩
      · exact ⟨k.val, a2, a3, 2, a4, Or.inl ⟨rfl, a1⟩⟩
      · exact ⟨k2, a2, a3, 2, a4, Or.inl ⟨rfl, a1⟩⟩
    obtain ⟨k2, b1, b2, w, ⟨f2, o2, H2, h2, h3⟩, b3⟩ := key
    refine ⟨max f f2 + 1, o2, H2, ?_, h3⟩
    rw [hM] at g1
    rw [mm_run, hl]
    (try dsimp only)
    rw [hs]
    (try dsimp only)
    rw [e1]
    (try dsimp only)
    rw [e2]
    (try dsimp only)
    rw [mm_mono h1 (Nat.le_max_left _ _)]
    (try dsimp only)
    rw [hh M1 e1, hM]
    (try dsimp only)
    rw [g1]
    (try dsimp only)
    rcases b3 with ⟨rfl, b3⟩ | ⟨rfl, k3, rfl, b3⟩
    · simp only [b3, b1, if_pos b2]
      exact mm_mono h2 (Nat.le_max_right _ _)
    · simp only [b3, b1, if_pos b2]
      exact mm_mono h2 (Nat.le_max_right _ _)
end WP
def mz_inR (v : Int) : Prop := -2147483648 ≤ v ∧ v ≤ 2147483647
theorem mz_inR_mk {v : Int} (h1 : -2147483648 ≤ v) (h2 : v ≤ 2147483647) : mz_inR v := ⟨h1, h2⟩
theorem mz_ti {a : Int} (h : mz_inR a) : (Int32.ofInt a).toInt = a := Int32.toInt_ofInt_of_le (by have := h.1; omega) (by have := h.2; omega)
theorem mz_toNat {a : Int} (h : mz_inR a) : (Int32.ofInt a).toNatClampNeg = a.toNat := by show (Int32.ofInt a).toInt.toNat = _; rw [mz_ti h]
theorem mz_lt {a b : Int} (ha : mz_inR a) (hb : mz_inR b) : (Int32.ofInt a < Int32.ofInt b) ↔ a < b := by rw [Int32.lt_iff_toInt_lt, mz_ti ha, mz_ti hb]
theorem mz_le {a b : Int} (ha : mz_inR a) (hb : mz_inR b) : (Int32.ofInt a ≤ Int32.ofInt b) ↔ a ≤ b := by rw [Int32.le_iff_toInt_le, mz_ti ha, mz_ti hb]
theorem mz_eq {a b : Int} (ha : mz_inR a) (hb : mz_inR b) : (Int32.ofInt a = Int32.ofInt b) ↔ a = b := by rw [← Int32.toInt_inj, mz_ti ha, mz_ti hb]
theorem mz_R0 : mz_inR 0 := ⟨by decide, by decide⟩
theorem mz_lt0 {a : Int} (ha : mz_inR a) : (Int32.ofInt a < 0) ↔ a < 0 := mz_lt ha mz_R0
theorem mz_le0 {a : Int} (ha : mz_inR a) : (Int32.ofInt a ≤ 0) ↔ a ≤ 0 := mz_le ha mz_R0
theorem mz_gt0 {a : Int} (ha : mz_inR a) : (0 < Int32.ofInt a) ↔ 0 < a := mz_lt mz_R0 ha
theorem mz_ge0 {a : Int} (ha : mz_inR a) : (0 ≤ Int32.ofInt a) ↔ 0 ≤ a := mz_le mz_R0 ha
theorem mz_eq0 {a : Int} (ha : mz_inR a) : (Int32.ofInt a = 0) ↔ a = 0 := mz_eq ha mz_R0
/-- the int of any machine int -/
theorem mz_of (x : Int32) : ∃ a : Int, mz_inR a ∧ x = Int32.ofInt a := ⟨x.toInt, ⟨by have := x.le_toInt; omega, by have := x.toInt_lt; omega⟩, (Int32.ofInt_toInt x).symm⟩
theorem mz_toR (x : Int32) : mz_inR x.toInt := ⟨by have := x.le_toInt; omega, by have := x.toInt_lt; omega⟩
def mz_wrap (a : Int) : Int := (Int32.ofInt a).toInt
theorem mz_wrap_in (a : Int) : mz_inR (mz_wrap a) := mz_toR _
theorem mz_wrap_of (a : Int) : Int32.ofInt (mz_wrap a) = Int32.ofInt a := Int32.ofInt_toInt _
theorem mz_wrap_id {a : Int} (h : mz_inR a) : mz_wrap a = a := mz_ti h
def mz_andI (a b : Int) : Int := (Int32.ofInt a &&& Int32.ofInt b).toInt
def mz_orI (a b : Int) : Int := (Int32.ofInt a ||| Int32.ofInt b).toInt
def mz_xorI (a b : Int) : Int := (Int32.ofInt a ^^^ Int32.ofInt b).toInt
def mz_shlI (a b : Int) : Int := (Int32.ofInt a <<< (Int32.ofInt b &&& 31)).toInt
def mz_shrI (a b : Int) : Int := (Int32.ofInt a >>> (Int32.ofInt b &&& 31)).toInt
def mz_ushrI (a b : Int) : Int := ((Int32.ofInt a).toUInt32 >>> ((Int32.ofInt b).toUInt32 &&& Int32.toUInt32 31)).toInt32.toInt
def mz_divI (a b : Int) : Int := (Int32.ofInt a / Int32.ofInt b).toInt
def mz_i8I (a : Int) : Int := (Int32.ofInt a).toInt8.toInt32.toInt
def mz_narI (a : Int) : Int := (vp_nar .byte (Int32.ofInt a)).toInt
/-- the heap out of its ints -/
abbrev mz_G : Type := Nat → Nat → Int
def mz_mk (g : mz_G) (x : mm_X) : mm_H := (fun k j => Int32.ofInt (g k j), mm_HR x.1 x.2.1 x.2.2.1, x.2.2.2.2.1, mm_SH x.2.2.2.1, mm_N, x.2.2.2.2.2.1, x.2.2.2.2.2.2)
def mz_tx (x : mm_X) : mm_X := (x.1, x.2.1, x.2.2.1, x.2.2.2.1, x.2.2.2.2.1, x.2.2.2.2.2.1 + 1, x.2.2.2.2.2.2 + 6)
theorem mz_mk_thr (g : mz_G) (x : mm_X) : mm_thr (mz_mk g x) = mz_mk g (mz_tx x) := rfl
def mz_up (g : mz_G) (k j : Nat) (v : Int) : mz_G := fun a b => if a = k ∧ b = j then v else g a b
theorem mz_up_at (g : mz_G) (k j : Nat) (v : Int) : mz_up g k j v k j = v := if_pos ⟨rfl, rfl⟩
theorem mz_up_ne {g : mz_G} {k j : Nat} {v : Int} {a b : Nat} (h : ¬ (a = k ∧ b = j)) : mz_up g k j v a b = g a b := if_neg h
theorem mz_mk_wI (g : mz_G) (x : mm_X) (k j : Nat) (v : Int) : mm_wI (mz_mk g x) k j (Int32.ofInt v) = mz_mk (mz_up g k j v) x := by
  unfold mm_wI mz_mk
  congr 1
  funext a b
  unfold mm_u2 mz_up
  by_cases h : a = k ∧ b = j
  · rw [if_pos h, if_pos h]
  · rw [if_neg h, if_neg h]
theorem mz_brI {x y : Int32} {a b : Int} (ha : x = Int32.ofInt a) (hb : y = Int32.ofInt b) : x = Int32.ofInt a ∧ y = Int32.ofInt b := ⟨ha, hb⟩
section WQ
variable {d : Nat} {M : mm_M} {pc len : Nat} {lo : List (Option Value)} {st : List Value} {H : mm_H} {Q : (Option Value ⊕ Nat) → mm_H → Prop} {i : Instr} {g : mz_G} {x : mm_X}
theorem mz_bt {off : Int} {tgt : Nat} (ht : (pc : Int) + off = (tgt : Int)) : mm_br pc off lo st H = some (.inl (tgt, lo, st, H)) := by unfold mm_br mm_nx; rw [ht, if_pos (Int.natCast_nonneg tgt)]; rfl
theorem mz_if_eq {a : Int} {off : Int} {tgt : Nat} (hl : mm_look M.2.2.2.2 pc = some (.ifCond .eq off, 3)) (ht : (pc : Int) + off = (tgt : Int)) (ha : mz_inR a) (kt : a = 0 → mm_W d M tgt lo st H Q) (kf : a ≠ 0 → mm_W d M (pc + 3) lo st H Q) : mm_W d M pc lo (.int (Int32.ofInt a) :: st) H Q := by
  by_cases hc : Int32.ofInt a = 0
  · have hc2 := (mz_eq0 ha).mp hc
    exact mm_s1 hl (by show (if Int32.ofInt a = 0 then _ else _) = _; rw [if_pos hc]; exact mz_bt ht) (kt hc2)
  · have hc2 : ¬ (a = 0) := fun z => hc ((mz_eq0 ha).mpr z)
    exact mm_s1 (q := (pc + 3, lo, st, H)) hl (by show (if Int32.ofInt a = 0 then _ else _) = _; rw [if_neg hc]; rfl) (kf hc2)
theorem mz_if_ne {a : Int} {off : Int} {tgt : Nat} (hl : mm_look M.2.2.2.2 pc = some (.ifCond .ne off, 3)) (ht : (pc : Int) + off = (tgt : Int)) (ha : mz_inR a) (kt : a ≠ 0 → mm_W d M tgt lo st H Q) (kf : a = 0 → mm_W d M (pc + 3) lo st H Q) : mm_W d M pc lo (.int (Int32.ofInt a) :: st) H Q := by
  by_cases hc : Int32.ofInt a = 0
  · have hc2 := (mz_eq0 ha).mp hc
    exact mm_s1 (q := (pc + 3, lo, st, H)) hl (by show (if Int32.ofInt a = 0 then _ else _) = _; rw [if_pos hc]; rfl) (kf hc2)
  · have hc2 : ¬ (a = 0) := fun z => hc ((mz_eq0 ha).mpr z)
    exact mm_s1 hl (by show (if Int32.ofInt a = 0 then _ else _) = _; rw [if_neg hc]; exact mz_bt ht) (kt hc2)
theorem mz_if_lt {a : Int} {off : Int} {tgt : Nat} (hl : mm_look M.2.2.2.2 pc = some (.ifCond .lt off, 3)) (ht : (pc : Int) + off = (tgt : Int)) (ha : mz_inR a) (kt : a < 0 → mm_W d M tgt lo st H Q) (kf : 0 ≤ a → mm_W d M (pc + 3) lo st H Q) : mm_W d M pc lo (.int (Int32.ofInt a) :: st) H Q := by
  by_cases hc : Int32.ofInt a < 0
  · have hc2 := (mz_lt0 ha).mp hc
    exact mm_s1 hl (by show (if Int32.ofInt a < 0 then _ else _) = _; rw [if_pos hc]; exact mz_bt ht) (kt hc2)
  · have hc2 : ¬ (a < 0) := fun z => hc ((mz_lt0 ha).mpr z)
    exact mm_s1 (q := (pc + 3, lo, st, H)) hl (by show (if Int32.ofInt a < 0 then _ else _) = _; rw [if_neg hc]; rfl) (kf (by omega))
theorem mz_if_ge {a : Int} {off : Int} {tgt : Nat} (hl : mm_look M.2.2.2.2 pc = some (.ifCond .ge off, 3)) (ht : (pc : Int) + off = (tgt : Int)) (ha : mz_inR a) (kt : 0 ≤ a → mm_W d M tgt lo st H Q) (kf : a < 0 → mm_W d M (pc + 3) lo st H Q) : mm_W d M pc lo (.int (Int32.ofInt a) :: st) H Q := by
  by_cases hc : 0 ≤ Int32.ofInt a
  · have hc2 := (mz_ge0 ha).mp hc
    exact mm_s1 hl (by show (if 0 ≤ Int32.ofInt a then _ else _) = _; rw [if_pos hc]; exact mz_bt ht) (kt hc2)
  · have hc2 : ¬ (0 ≤ a) := fun z => hc ((mz_ge0 ha).mpr z)
    exact mm_s1 (q := (pc + 3, lo, st, H)) hl (by show (if 0 ≤ Int32.ofInt a then _ else _) = _; rw [if_neg hc]; rfl) (kf (by omega))
theorem mz_if_gt {a : Int} {off : Int} {tgt : Nat} (hl : mm_look M.2.2.2.2 pc = some (.ifCond .gt off, 3)) (ht : (pc : Int) + off = (tgt : Int)) (ha : mz_inR a) (kt : 0 < a → mm_W d M tgt lo st H Q) (kf : a ≤ 0 → mm_W d M (pc + 3) lo st H Q) : mm_W d M pc lo (.int (Int32.ofInt a) :: st) H Q := by
  by_cases hc : 0 < Int32.ofInt a
  · have hc2 := (mz_gt0 ha).mp hc
    exact mm_s1 hl (by show (if 0 < Int32.ofInt a then _ else _) = _; rw [if_pos hc]; exact mz_bt ht) (kt hc2)
  · have hc2 : ¬ (0 < a) := fun z => hc ((mz_gt0 ha).mpr z)
    exact mm_s1 (q := (pc + 3, lo, st, H)) hl (by show (if 0 < Int32.ofInt a then _ else _) = _; rw [if_neg hc]; rfl) (kf (by omega))
theorem mz_if_le {a : Int} {off : Int} {tgt : Nat} (hl : mm_look M.2.2.2.2 pc = some (.ifCond .le off, 3)) (ht : (pc : Int) + off = (tgt : Int)) (ha : mz_inR a) (kt : a ≤ 0 → mm_W d M tgt lo st H Q) (kf : 0 < a → mm_W d M (pc + 3) lo st H Q) : mm_W d M pc lo (.int (Int32.ofInt a) :: st) H Q := by
  by_cases hc : Int32.ofInt a ≤ 0
  · have hc2 := (mz_le0 ha).mp hc
    exact mm_s1 hl (by show (if Int32.ofInt a ≤ 0 then _ else _) = _; rw [if_pos hc]; exact mz_bt ht) (kt hc2)
  · have hc2 : ¬ (a ≤ 0) := fun z => hc ((mz_le0 ha).mpr z)
    exact mm_s1 (q := (pc + 3, lo, st, H)) hl (by show (if Int32.ofInt a ≤ 0 then _ else _) = _; rw [if_neg hc]; rfl) (kf (by omega))
theorem mz_ic_eq {a b : Int} {off : Int} {tgt : Nat} (hl : mm_look M.2.2.2.2 pc = some (.if_icmp .eq off, 3)) (ht : (pc : Int) + off = (tgt : Int)) (ha : mz_inR a) (hb : mz_inR b) (kt : a = b → mm_W d M tgt lo st H Q) (kf : a ≠ b → mm_W d M (pc + 3) lo st H Q) : mm_W d M pc lo (.int (Int32.ofInt b) :: .int (Int32.ofInt a) :: st) H Q := by
  by_cases hc : Int32.ofInt a = Int32.ofInt b
  · have hc2 := (mz_eq ha hb).mp hc
    exact mm_s1 hl (by show (if Int32.ofInt a = Int32.ofInt b then _ else _) = _; rw [if_pos hc]; exact mz_bt ht) (kt hc2)
  · have hc2 : ¬ (a = b) := fun z => hc ((mz_eq ha hb).mpr z)
    exact mm_s1 (q := (pc + 3, lo, st, H)) hl (by show (if Int32.ofInt a = Int32.ofInt b then _ else _) = _; rw [if_neg hc]; rfl) (kf hc2)
theorem mz_ic_ne {a b : Int} {off : Int} {tgt : Nat} (hl : mm_look M.2.2.2.2 pc = some (.if_icmp .ne off, 3)) (ht : (pc : Int) + off = (tgt : Int)) (ha : mz_inR a) (hb : mz_inR b) (kt : a ≠ b → mm_W d M tgt lo st H Q) (kf : a = b → mm_W d M (pc + 3) lo st H Q) : mm_W d M pc lo (.int (Int32.ofInt b) :: .int (Int32.ofInt a) :: st) H Q := by
  by_cases hc : Int32.ofInt a = Int32.ofInt b
  · have hc2 := (mz_eq ha hb).mp hc
    exact mm_s1 (q := (pc + 3, lo, st, H)) hl (by show (if Int32.ofInt a = Int32.ofInt b then _ else _) = _; rw [if_pos hc]; rfl) (kf hc2)
  · have hc2 : ¬ (a = b) := fun z => hc ((mz_eq ha hb).mpr z)
    exact mm_s1 hl (by show (if Int32.ofInt a = Int32.ofInt b then _ else _) = _; rw [if_neg hc]; exact mz_bt ht) (kt hc2)
theorem mz_ic_lt {a b : Int} {off : Int} {tgt : Nat} (hl : mm_look M.2.2.2.2 pc = some (.if_icmp .lt off, 3)) (ht : (pc : Int) + off = (tgt : Int)) (ha : mz_inR a) (hb : mz_inR b) (kt : a < b → mm_W d M tgt lo st H Q) (kf : b ≤ a → mm_W d M (pc + 3) lo st H Q) : mm_W d M pc lo (.int (Int32.ofInt b) :: .int (Int32.ofInt a) :: st) H Q := by
  by_cases hc : Int32.ofInt a < Int32.ofInt b
  · have hc2 := (mz_lt ha hb).mp hc
    exact mm_s1 hl (by show (if Int32.ofInt a < Int32.ofInt b then _ else _) = _; rw [if_pos hc]; exact mz_bt ht) (kt hc2)
  · have hc2 : ¬ (a < b) := fun z => hc ((mz_lt ha hb).mpr z)
    exact mm_s1 (q := (pc + 3, lo, st, H)) hl (by show (if Int32.ofInt a < Int32.ofInt b then _ else _) = _; rw [if_neg hc]; rfl) (kf (by omega))
theorem mz_ic_ge {a b : Int} {off : Int} {tgt : Nat} (hl : mm_look M.2.2.2.2 pc = some (.if_icmp .ge off, 3)) (ht : (pc : Int) + off = (tgt : Int)) (ha : mz_inR a) (hb : mz_inR b) (kt : b ≤ a → mm_W d M tgt lo st H Q) (kf : a < b → mm_W d M (pc + 3) lo st H Q) : mm_W d M pc lo (.int (Int32.ofInt b) :: .int (Int32.ofInt a) :: st) H Q := by
  by_cases hc : Int32.ofInt b ≤ Int32.ofInt a
  · have hc2 := (mz_le hb ha).mp hc
    exact mm_s1 hl (by show (if Int32.ofInt b ≤ Int32.ofInt a then _ else _) = _; rw [if_pos hc]; exact mz_bt ht) (kt hc2)
  · have hc2 : ¬ (b ≤ a) := fun z => hc ((mz_le hb ha).mpr z)
    exact mm_s1 (q := (pc + 3, lo, st, H)) hl (by show (if Int32.ofInt b ≤ Int32.ofInt a then _ else _) = _; rw [if_neg hc]; rfl) (kf (by omega))
theorem mz_ic_gt {a b : Int} {off : Int} {tgt : Nat} (hl : mm_look M.2.2.2.2 pc = some (.if_icmp .gt off, 3)) (ht : (pc : Int) + off = (tgt : Int)) (ha : mz_inR a) (hb : mz_inR b) (kt : b < a → mm_W d M tgt lo st H Q) (kf : a ≤ b → mm_W d M (pc + 3) lo st H Q) : mm_W d M pc lo (.int (Int32.ofInt b) :: .int (Int32.ofInt a) :: st) H Q := by
  by_cases hc : Int32.ofInt b < Int32.ofInt a
  · have hc2 := (mz_lt hb ha).mp hc
    exact mm_s1 hl (by show (if Int32.ofInt b < Int32.ofInt a then _ else _) = _; rw [if_pos hc]; exact mz_bt ht) (kt hc2)
  · have hc2 : ¬ (b < a) := fun z => hc ((mz_lt hb ha).mpr z)
    exact mm_s1 (q := (pc + 3, lo, st, H)) hl (by show (if Int32.ofInt b < Int32.ofInt a then _ else _) = _; rw [if_neg hc]; rfl) (kf (by omega))
theorem mz_ic_le {a b : Int} {off : Int} {tgt : Nat} (hl : mm_look M.2.2.2.2 pc = some (.if_icmp .le off, 3)) (ht : (pc : Int) + off = (tgt : Int)) (ha : mz_inR a) (hb : mz_inR b) (kt : a ≤ b → mm_W d M tgt lo st H Q) (kf : b < a → mm_W d M (pc + 3) lo st H Q) : mm_W d M pc lo (.int (Int32.ofInt b) :: .int (Int32.ofInt a) :: st) H Q := by
  by_cases hc : Int32.ofInt a ≤ Int32.ofInt b
  · have hc2 := (mz_le ha hb).mp hc
    exact mm_s1 hl (by show (if Int32.ofInt a ≤ Int32.ofInt b then _ else _) = _; rw [if_pos hc]; exact mz_bt ht) (kt hc2)
  · have hc2 : ¬ (a ≤ b) := fun z => hc ((mz_le ha hb).mpr z)
    exact mm_s1 (q := (pc + 3, lo, st, H)) hl (by show (if Int32.ofInt a ≤ Int32.ofInt b then _ else _) = _; rw [if_neg hc]; rfl) (kf (by omega))
theorem mz_gt {off : Int} {tgt : Nat} (hl : mm_look M.2.2.2.2 pc = some (.goto off, 3)) (ht : (pc : Int) + off = (tgt : Int)) (k : mm_W d M tgt lo st H Q) : mm_W d M pc lo st H Q := mm_s1 hl (mz_bt ht) k
theorem mz_nn {off : Int} {tgt q : Nat} (hl : mm_look M.2.2.2.2 pc = some (.ifnonnull off, 3)) (ht : (pc : Int) + off = (tgt : Int)) (k : mm_W d M tgt lo st H Q) : mm_W d M pc lo (.ref q :: st) H Q := mm_s1 hl (mz_bt ht) k
theorem mz_nu {off : Int} {q : Nat} (hl : mm_look M.2.2.2.2 pc = some (.ifnull off, 3)) (k : mm_W d M (pc + 3) lo st H Q) : mm_W d M pc lo (.ref q :: st) H Q := mm_s1 (q := (pc + 3, lo, st, H)) hl rfl k
theorem mz_iadd {a b : Int} (hl : mm_look M.2.2.2.2 pc = some (.iadd, 1)) (k : mm_W d M (pc + 1) lo (.int (Int32.ofInt (a + b)) :: st) H Q) : mm_W d M pc lo (.int (Int32.ofInt b) :: .int (Int32.ofInt a) :: st) H Q := by
  rw [Int32.ofInt_add] at k
  exact mm_s1 (q := (pc + 1, lo, .int (Int32.ofInt a + Int32.ofInt b) :: st, H)) hl rfl k
theorem mz_iadd_w {a b : Int} (hl : mm_look M.2.2.2.2 pc = some (.iadd, 1)) (k : ∀ v : Int, v = mz_wrap (a + b) → mz_inR v → mm_W d M (pc + 1) lo (.int (Int32.ofInt v) :: st) H Q) : mm_W d M pc lo (.int (Int32.ofInt b) :: .int (Int32.ofInt a) :: st) H Q := by
  have := k _ rfl (mz_wrap_in _)
  rw [mz_wrap_of] at this
  exact mz_iadd hl this
theorem mz_isub {a b : Int} (hl : mm_look M.2.2.2.2 pc = some (.isub, 1)) (k : mm_W d M (pc + 1) lo (.int (Int32.ofInt (a - b)) :: st) H Q) : mm_W d M pc lo (.int (Int32.ofInt b) :: .int (Int32.ofInt a) :: st) H Q := by
  rw [Int32.ofInt_sub] at k
  exact mm_s1 (q := (pc + 1, lo, .int (Int32.ofInt a - Int32.ofInt b) :: st, H)) hl rfl k
theorem mz_isub_w {a b : Int} (hl : mm_look M.2.2.2.2 pc = some (.isub, 1)) (k : ∀ v : Int, v = mz_wrap (a - b) → mz_inR v → mm_W d M (pc + 1) lo (.int (Int32.ofInt v) :: st) H Q) : mm_W d M pc lo (.int (Int32.ofInt b) :: .int (Int32.ofInt a) :: st) H Q := by
  have := k _ rfl (mz_wrap_in _)
  rw [mz_wrap_of] at this
  exact mz_isub hl this
theorem mz_imul {a b : Int} (hl : mm_look M.2.2.2.2 pc = some (.imul, 1)) (k : mm_W d M (pc + 1) lo (.int (Int32.ofInt (a * b)) :: st) H Q) : mm_W d M pc lo (.int (Int32.ofInt b) :: .int (Int32.ofInt a) :: st) H Q := by
  rw [Int32.ofInt_mul] at k
  exact mm_s1 (q := (pc + 1, lo, .int (Int32.ofInt a * Int32.ofInt b) :: st, H)) hl rfl k
theorem mz_imul_w {a b : Int} (hl : mm_look M.2.2.2.2 pc = some (.imul, 1)) (k : ∀ v : Int, v = mz_wrap (a * b) → mz_inR v → mm_W d M (pc + 1) lo (.int (Int32.ofInt v) :: st) H Q) : mm_W d M pc lo (.int (Int32.ofInt b) :: .int (Int32.ofInt a) :: st) H Q := by
  have := k _ rfl (mz_wrap_in _)
  rw [mz_wrap_of] at this
  exact mz_imul hl this
theorem mz_iand {a b : Int} (hl : mm_look M.2.2.2.2 pc = some (.iand, 1)) (k : ∀ v : Int, v = mz_andI a b → mz_inR v → mm_W d M (pc + 1) lo (.int (Int32.ofInt v) :: st) H Q) : mm_W d M pc lo (.int (Int32.ofInt b) :: .int (Int32.ofInt a) :: st) H Q := by
  have := k _ rfl (mz_toR _)
  unfold mz_andI at this
  rw [Int32.ofInt_toInt] at this
  exact mm_s1 (q := (pc + 1, lo, .int (Int32.ofInt a &&& Int32.ofInt b) :: st, H)) hl rfl this
theorem mz_ior {a b : Int} (hl : mm_look M.2.2.2.2 pc = some (.ior, 1)) (k : ∀ v : Int, v = mz_orI a b → mz_inR v → mm_W d M (pc + 1) lo (.int (Int32.ofInt v) :: st) H Q) : mm_W d M pc lo (.int (Int32.ofInt b) :: .int (Int32.ofInt a) :: st) H Q := by
  have := k _ rfl (mz_toR _)
  unfold mz_orI at this
  rw [Int32.ofInt_toInt] at this
  exact mm_s1 (q := (pc + 1, lo, .int (Int32.ofInt a ||| Int32.ofInt b) :: st, H)) hl rfl this
theorem mz_ixor {a b : Int} (hl : mm_look M.2.2.2.2 pc = some (.ixor, 1)) (k : ∀ v : Int, v = mz_xorI a b → mz_inR v → mm_W d M (pc + 1) lo (.int (Int32.ofInt v) :: st) H Q) : mm_W d M pc lo (.int (Int32.ofInt b) :: .int (Int32.ofInt a) :: st) H Q := by
  have := k _ rfl (mz_toR _)
  unfold mz_xorI at this
  rw [Int32.ofInt_toInt] at this
  exact mm_s1 (q := (pc + 1, lo, .int (Int32.ofInt a ^^^ Int32.ofInt b) :: st, H)) hl rfl this
theorem mz_ishl {a b : Int} (hl : mm_look M.2.2.2.2 pc = some (.ishl, 1)) (k : ∀ v : Int, v = mz_shlI a b → mz_inR v → mm_W d M (pc + 1) lo (.int (Int32.ofInt v) :: st) H Q) : mm_W d M pc lo (.int (Int32.ofInt b) :: .int (Int32.ofInt a) :: st) H Q := by
  have := k _ rfl (mz_toR _)
  unfold mz_shlI at this
  rw [Int32.ofInt_toInt] at this
  exact mm_s1 (q := (pc + 1, lo, .int (Int32.ofInt a <<< (Int32.ofInt b &&& 31)) :: st, H)) hl rfl this
theorem mz_ishr {a b : Int} (hl : mm_look M.2.2.2.2 pc = some (.ishr, 1)) (k : ∀ v : Int, v = mz_shrI a b → mz_inR v → mm_W d M (pc + 1) lo (.int (Int32.ofInt v) :: st) H Q) : mm_W d M pc lo (.int (Int32.ofInt b) :: .int (Int32.ofInt a) :: st) H Q := by
  have := k _ rfl (mz_toR _)
  unfold mz_shrI at this
  rw [Int32.ofInt_toInt] at this
  exact mm_s1 (q := (pc + 1, lo, .int (Int32.ofInt a >>> (Int32.ofInt b &&& 31)) :: st, H)) hl rfl this
theorem mz_iushr {a b : Int} (hl : mm_look M.2.2.2.2 pc = some (.iushr, 1)) (k : ∀ v : Int, v = mz_ushrI a b → mz_inR v → mm_W d M (pc + 1) lo (.int (Int32.ofInt v) :: st) H Q) : mm_W d M pc lo (.int (Int32.ofInt b) :: .int (Int32.ofInt a) :: st) H Q := by
  have := k _ rfl (mz_toR _)
  unfold mz_ushrI at this
  rw [Int32.ofInt_toInt] at this
  exact mm_s1 (q := (pc + 1, lo, .int (((Int32.ofInt a).toUInt32 >>> ((Int32.ofInt b).toUInt32 &&& Int32.toUInt32 31)).toInt32) :: st, H)) hl rfl this
theorem mz_ineg {a : Int} (hl : mm_look M.2.2.2.2 pc = some (.ineg, 1)) (k : mm_W d M (pc + 1) lo (.int (Int32.ofInt (-a)) :: st) H Q) : mm_W d M pc lo (.int (Int32.ofInt a) :: st) H Q := by
  rw [Int32.ofInt_neg] at k
  exact mm_s1 (q := (pc + 1, lo, .int (-(Int32.ofInt a)) :: st, H)) hl rfl k
theorem mz_i2b {a : Int} (hl : mm_look M.2.2.2.2 pc = some (.i2b, 1)) (k : ∀ v : Int, v = mz_i8I a → mz_inR v → mm_W d M (pc + 1) lo (.int (Int32.ofInt v) :: st) H Q) : mm_W d M pc lo (.int (Int32.ofInt a) :: st) H Q := by
  have := k _ rfl (mz_toR _)
  unfold mz_i8I at this
  rw [Int32.ofInt_toInt] at this
  exact mm_s1 (q := (pc + 1, lo, .int ((Int32.ofInt a).toInt8.toInt32) :: st, H)) hl rfl this
theorem mz_iincR {j : Nat} {c v : Int} {lo2 : List (Option Value)} (hl : mm_look M.2.2.2.2 pc = some (.iinc j c, 3)) (h1 : mm_at lo j = some (some (.int (Int32.ofInt v)))) (h2 : mm_lg lo j = false) (h3 : j < lo.length) (h4 : mm_set lo j (some (.int (Int32.ofInt (v + c)))) = lo2) (k : mm_W d M (pc + 3) lo2 st H Q) : mm_W d M pc lo st H Q := by
  subst h4
  rw [Int32.ofInt_add] at k
  refine mm_s1 (q := (pc + 3, mm_set lo j (some (.int (Int32.ofInt v + Int32.ofInt c))), st, H)) hl ?_ k
  simp only [mm_step, h1, mm_sto, h2, if_pos h3]
  rfl
theorem mz_iincW {j : Nat} {c v : Int} {lo2 : Int → List (Option Value)} (hl : mm_look M.2.2.2.2 pc = some (.iinc j c, 3)) (h1 : mm_at lo j = some (some (.int (Int32.ofInt v)))) (h2 : mm_lg lo j = false) (h3 : j < lo.length) (h4 : ∀ w : Int, mm_set lo j (some (.int (Int32.ofInt w))) = lo2 w) (k : ∀ w : Int, w = mz_wrap (v + c) → mz_inR w → mm_W d M (pc + 3) (lo2 w) st H Q) : mm_W d M pc lo st H Q := by
  have k2 := k _ rfl (mz_wrap_in _)
  rw [← h4, mz_wrap_of] at k2
  exact mz_iincR hl h1 h2 h3 rfl k2
theorem mz_cI {v : Int32} {c : Int} (e : v = Int32.ofInt c) (k : mm_W d M pc lo (.int (Int32.ofInt c) :: st) H Q) : mm_W d M pc lo (.int v :: st) H Q := by rw [e]; exact k
theorem mz_bip {n c : Int} (hl : mm_look M.2.2.2.2 pc = some (.bipush n, 2)) (e : (Int8.ofInt n).toInt32 = Int32.ofInt c) (k : mm_W d M (pc + 2) lo (.int (Int32.ofInt c) :: st) H Q) : mm_W d M pc lo st H Q := by
  rw [← e] at k
  exact mm_s1 (q := (pc + 2, lo, .int (Int8.ofInt n).toInt32 :: st, H)) hl rfl k
theorem mz_sip {n c : Int} (hl : mm_look M.2.2.2.2 pc = some (.sipush n, 3)) (e : (Int16.ofInt n).toInt32 = Int32.ofInt c) (k : mm_W d M (pc + 3) lo (.int (Int32.ofInt c) :: st) H Q) : mm_W d M pc lo st H Q := by
  rw [← e] at k
  exact mm_s1 (q := (pc + 3, lo, .int (Int16.ofInt n).toInt32 :: st, H)) hl rfl k
theorem mz_ldcI {n w : Nat} {c : Int} {v : Int32} (hl : mm_look M.2.2.2.2 pc = some (.ldc n, w)) (ht : mm_tab mm_conT M.1 n = some v) (e : v = Int32.ofInt c) (k : mm_W d M (pc + w) lo (.int (Int32.ofInt c) :: st) H Q) : mm_W d M pc lo st H Q := by
  rw [← e] at k
  exact mm_s1 (q := (pc + w, lo, .int v :: st, H)) hl (by simp only [mm_step, ht]; rfl) k
theorem mz_ldcwI {n w : Nat} {c : Int} {v : Int32} (hl : mm_look M.2.2.2.2 pc = some (.ldc_w n, w)) (ht : mm_tab mm_conT M.1 n = some v) (e : v = Int32.ofInt c) (k : mm_W d M (pc + w) lo (.int (Int32.ofInt c) :: st) H Q) : mm_W d M pc lo st H Q := by
  rw [← e] at k
  exact mm_s1 (q := (pc + w, lo, .int v :: st, H)) hl (by simp only [mm_step, ht]; rfl) k
theorem mz_ldcS {n w j : Nat} (hl : mm_look M.2.2.2.2 pc = some (.ldc n, w)) (ht : mm_tab mm_conT M.1 n = none) (hs : mm_tab mm_strT M.1 n = some j) (k : mm_W d M (pc + w) lo (.ref (1000 + j) :: st) H Q) : mm_W d M pc lo st H Q :=
  mm_s1 (q := (pc + w, lo, .ref (1000 + j) :: st, H)) hl (by simp only [mm_step, ht, hs]; rfl) k
theorem mz_ldcSW {n w j : Nat} (hl : mm_look M.2.2.2.2 pc = some (.ldc_w n, w)) (ht : mm_tab mm_conT M.1 n = none) (hs : mm_tab mm_strT M.1 n = some j) (k : mm_W d M (pc + w) lo (.ref (1000 + j) :: st) H Q) : mm_W d M pc lo st H Q :=
  mm_s1 (q := (pc + w, lo, .ref (1000 + j) :: st, H)) hl (by simp only [mm_step, ht, hs]; rfl) k
theorem mz_l2w {n w : Nat} {c : Int} {v : Int64} (hl : mm_look M.2.2.2.2 pc = some (.ldc2_w n, w)) (ht : mm_tab mm_conLT M.1 n = some v) (e : v = Int64.ofInt c) (k : mm_W d M (pc + w) lo (.long (Int64.ofInt c) :: st) H Q) : mm_W d M pc lo st H Q := by
  rw [← e] at k
  exact mm_s1 (q := (pc + w, lo, .long v :: st, H)) hl (by simp only [mm_step, ht]; rfl) k
theorem mz_lcst {n : Fin 2} {c : Int} (hl : mm_look M.2.2.2.2 pc = some (.lconst n, 1)) (e : Int64.ofNat n.val = Int64.ofInt c) (k : mm_W d M (pc + 1) lo (.long (Int64.ofInt c) :: st) H Q) : mm_W d M pc lo st H Q := by
  rw [← e] at k
  exact mm_s1 (q := (pc + 1, lo, .long (Int64.ofNat n.val) :: st, H)) hl rfl k
theorem mz_i2l {a : Int} (hl : mm_look M.2.2.2.2 pc = some (.i2l, 1)) (ha : mz_inR a) (k : mm_W d M (pc + 1) lo (.long (Int64.ofInt a) :: st) H Q) : mm_W d M pc lo (.int (Int32.ofInt a) :: st) H Q := by
  have e : (Int32.ofInt a).toInt64 = Int64.ofInt a := Int32.toInt64_ofInt ha.1 ha.2
  rw [← e] at k
  exact mm_s1 (q := (pc + 1, lo, .long (Int32.ofInt a).toInt64 :: st, H)) hl rfl k
def mz_cmpI (a b : Int) : Int := if b < a then 1 else if a = b then 0 else -1
theorem mz_lcmp {a b : Int} (hl : mm_look M.2.2.2.2 pc = some (.lcmp, 1)) (ha : mz_inR a) (hb : mz_inR b) (k : ∀ v : Int, mz_inR v → ((0 ≤ v ↔ b ≤ a) ∧ (v ≤ 0 ↔ a ≤ b)) → mm_W d M (pc + 1) lo (.int (Int32.ofInt v) :: st) H Q) : mm_W d M pc lo (.long (Int64.ofInt b) :: .long (Int64.ofInt a) :: st) H Q := by
  have ta : (Int64.ofInt a).toInt = a := Int64.toInt_ofInt_of_le (by have := ha.1; omega) (by have := ha.2; omega)
  have tb : (Int64.ofInt b).toInt = b := Int64.toInt_ofInt_of_le (by have := hb.1; omega) (by have := hb.2; omega)
  have h1 := lg_cmp_ge (Int64.ofInt a) (Int64.ofInt b)
  have h2 := lg_cmp_le (Int64.ofInt a) (Int64.ofInt b)
  rw [Int64.le_iff_toInt_le, ta, tb] at h1 h2
  obtain ⟨v, hv, e⟩ := mz_of (lg_cmp (Int64.ofInt a) (Int64.ofInt b))
  rw [e, mz_ge0 hv] at h1
  rw [e, mz_le0 hv] at h2
  refine mm_s1 (q := (pc + 1, lo, .int (lg_cmp (Int64.ofInt a) (Int64.ofInt b)) :: st, H)) hl rfl ?_
  rw [e]
  exact k v hv ⟨h1, h2⟩
theorem mz_idiv {a b : Int} (hl : mm_look M.2.2.2.2 pc = some (.idiv, 1)) (hb : mz_inR b) (h0 : b ≠ 0) (k : ∀ v : Int, v = mz_divI a b → mz_inR v → mm_W d M (pc + 1) lo (.int (Int32.ofInt v) :: st) H Q) : mm_W d M pc lo (.int (Int32.ofInt b) :: .int (Int32.ofInt a) :: st) H Q := by
  have := k _ rfl (mz_toR _)
  unfold mz_divI at this
  rw [Int32.ofInt_toInt] at this
  exact mm_s1 (q := (pc + 1, lo, .int (Int32.ofInt a / Int32.ofInt b) :: st, H)) hl (by show (if Int32.ofInt b = 0 then _ else _) = _; rw [if_neg (fun z => h0 ((mz_eq0 hb).mp z))]; rfl) this
theorem mz_div_of {a b : Int} (ha : mz_inR a) (hb : mz_inR b) (h0 : 0 ≤ a) (h1 : 0 < b) : Int32.ofInt a / Int32.ofInt b = Int32.ofInt (a / b) := by
  rw [← Int32.toInt_inj, Int32.toInt_div, mz_ti ha, mz_ti hb, Int.tdiv_eq_ediv_of_nonneg h0, Int32.toInt_ofInt]
theorem mz_idivp {a b : Int} (hl : mm_look M.2.2.2.2 pc = some (.idiv, 1)) (ha : mz_inR a) (hb : mz_inR b) (h0 : 0 ≤ a) (h1 : 0 < b) (k : ∀ v : Int, v = a / b → mm_W d M (pc + 1) lo (.int (Int32.ofInt v) :: st) H Q) : mm_W d M pc lo (.int (Int32.ofInt b) :: .int (Int32.ofInt a) :: st) H Q := by
  have e : Int32.ofInt (mz_divI a b) = Int32.ofInt (a / b) := by unfold mz_divI; rw [Int32.ofInt_toInt, mz_div_of ha hb h0 h1]
  refine mz_idiv hl hb (by omega) (fun v hv _ => ?_)
  subst hv
  rw [e]
  exact k _ rfl
theorem mz_irem {a b : Int} (hl : mm_look M.2.2.2.2 pc = some (.irem, 1)) (hb : mz_inR b) (h0 : b ≠ 0) (k : ∀ v : Int, mz_inR v → mm_W d M (pc + 1) lo (.int (Int32.ofInt v) :: st) H Q) : mm_W d M pc lo (.int (Int32.ofInt b) :: .int (Int32.ofInt a) :: st) H Q := by
  obtain ⟨v, hv, e⟩ := mz_of (Int32.ofInt a - Int32.ofInt a / Int32.ofInt b * Int32.ofInt b)
  refine mm_s1 (q := (pc + 1, lo, .int (Int32.ofInt a - Int32.ofInt a / Int32.ofInt b * Int32.ofInt b) :: st, H)) hl (by show (if Int32.ofInt b = 0 then _ else _) = _; rw [if_neg (fun z => h0 ((mz_eq0 hb).mp z))]; rfl) ?_
  rw [e]
  exact k v hv
theorem mz_iremp {a b : Int} (hl : mm_look M.2.2.2.2 pc = some (.irem, 1)) (ha : mz_inR a) (hb : mz_inR b) (h0 : 0 ≤ a) (h1 : 0 < b) (k : ∀ v : Int, v = a % b → 0 ≤ v → v < b → mm_W d M (pc + 1) lo (.int (Int32.ofInt v) :: st) H Q) : mm_W d M pc lo (.int (Int32.ofInt b) :: .int (Int32.ofInt a) :: st) H Q := by
  refine mm_s1 (q := (pc + 1, lo, .int (Int32.ofInt a - Int32.ofInt a / Int32.ofInt b * Int32.ofInt b) :: st, H)) hl (by show (if Int32.ofInt b = 0 then _ else _) = _; rw [if_neg (fun z => by have := (mz_eq0 hb).mp z; omega)]; rfl) ?_
  rw [mz_div_of ha hb h0 h1, ← Int32.ofInt_mul, ← Int32.ofInt_sub, show a - a / b * b = a % b by rw [Int.emod_def, Int.mul_comm]]
  exact k _ rfl (Int.emod_nonneg _ (by omega)) (Int.emod_lt_of_pos _ h1)
theorem mz_fgI {q ci k ne j kd : Nat} {v : Int} (hl : mm_look M.2.2.2.2 pc = some (.getfield j, 3)) (hf : mm_tab mm_fldT M.1 j = some (ci, k, ne) ∧ mm_tab mm_ftT ci k = some kd) (hk : kd < 2) (hsh : (mm_SH x.2.2.2.1 q).1 = ci) (hv : g q k = v) (kk : mm_W d M (pc + 3) lo (.int (Int32.ofInt v) :: st) (mz_mk g x) Q) : mm_W d M pc lo (.ref q :: st) (mz_mk g x) Q := by
  subst hv
  refine mm_s1 (q := (pc + 3, lo, .int (mm_I (mz_mk g x) q k) :: st, mz_mk g x)) hl ?_ kk
  have hsh' : (mm_sh (mz_mk g x) q).1 = ci := hsh
  simp only [mm_step, hf.1, hf.2, hsh', if_true]
  rcases (by omega : kd = 0 ∨ kd = 1) with rfl | rfl <;> rfl
theorem mz_fgR {q ci k ne j kd v : Nat} (hl : mm_look M.2.2.2.2 pc = some (.getfield j, 3)) (hf : mm_tab mm_fldT M.1 j = some (ci, k, ne) ∧ mm_tab mm_ftT ci k = some kd) (hk : 2 ≤ kd) (hsh : (mm_SH x.2.2.2.1 q).1 = ci) (hv : mm_HR x.1 x.2.1 x.2.2.1 q k = some v) (kk : mm_W d M (pc + 3) lo (.ref v :: st) (mz_mk g x) Q) : mm_W d M pc lo (.ref q :: st) (mz_mk g x) Q := by
  refine mm_s1 (q := (pc + 3, lo, va_rf (mm_R (mz_mk g x) q k) :: st, mz_mk g x)) hl ?_ (by rw [show mm_R (mz_mk g x) q k = some v from hv]; exact kk)
  have hsh' : (mm_sh (mz_mk g x) q).1 = ci := hsh
  simp only [mm_step, hf.1, hf.2, hsh', if_true]
  obtain ⟨k2, rfl⟩ : ∃ k2, kd = k2 + 2 := ⟨kd - 2, by omega⟩
  rfl
theorem mz_fpI {q ci k ne j : Nat} {v : Int} (hl : mm_look M.2.2.2.2 pc = some (.putfield j, 3)) (hf : mm_tab mm_fldT M.1 j = some (ci, k, ne) ∧ mm_tab mm_ftT ci k = some 0) (hsh : (mm_SH x.2.2.2.1 q).1 = ci) (kk : mm_W d M (pc + 3) lo st (mz_mk (mz_up g q k v) x) Q) : mm_W d M pc lo (.int (Int32.ofInt v) :: .ref q :: st) (mz_mk g x) Q := by
  rw [← mz_mk_wI] at kk
  refine mm_s1 (q := (pc + 3, lo, st, mm_wI (mz_mk g x) q k (Int32.ofInt v))) hl ?_ kk
  have hsh' : (mm_sh (mz_mk g x) q).1 = ci := hsh
  simp only [mm_step, hf.1, hf.2, hsh', if_true]
  rfl
theorem mz_fpZ {q ci k ne j : Nat} {v : Int} (hl : mm_look M.2.2.2.2 pc = some (.putfield j, 3)) (hf : mm_tab mm_fldT M.1 j = some (ci, k, ne) ∧ mm_tab mm_ftT ci k = some 1) (hsh : (mm_SH x.2.2.2.1 q).1 = ci) (hv : v = 0 ∨ v = 1) (kk : mm_W d M (pc + 3) lo st (mz_mk (mz_up g q k v) x) Q) : mm_W d M pc lo (.int (Int32.ofInt v) :: .ref q :: st) (mz_mk g x) Q := by
  rw [← mz_mk_wI] at kk
  refine mm_s1 (q := (pc + 3, lo, st, mm_wI (mz_mk g x) q k (Int32.ofInt v))) hl ?_ kk
  have hsh' : (mm_sh (mz_mk g x) q).1 = ci := hsh
  have hv' : Int32.ofInt v = 0 ∨ Int32.ofInt v = 1 := by rcases hv with rfl | rfl; exact Or.inl rfl; exact Or.inr rfl
  simp only [mm_step, hf.1, hf.2, hsh', if_true, if_pos hv']
  rfl
theorem mz_inx {a : Int} {n : Nat} (h0 : 0 ≤ a) (h1 : a < n) (hn : n ≤ 100000) : ¬ (Int32.ofInt a < 0 ∨ n ≤ (Int32.ofInt a).toNatClampNeg) ∧ (Int32.ofInt a).toNatClampNeg = a.toNat ∧ 0 ≤ Int32.ofInt a ∧ a.toNat < n := by
  have hR : mz_inR a := ⟨by omega, by omega⟩
  rw [mz_lt0 hR, mz_toNat hR]
  exact ⟨by omega, rfl, (mz_ge0 hR).mpr h0, by omega⟩
theorem mz_ia {q n : Nat} {a v : Int} (hl : mm_look M.2.2.2.2 pc = some (.iaload, 1)) (hsh : mm_SH x.2.2.2.1 q = (100, n)) (h0 : 0 ≤ a) (h1 : a < n) (hn : n ≤ 100000) (hv : g q a.toNat = v) (kk : mm_W d M (pc + 1) lo (.int (Int32.ofInt v) :: st) (mz_mk g x) Q) : mm_W d M pc lo (.int (Int32.ofInt a) :: .ref q :: st) (mz_mk g x) Q := by
  obtain ⟨hin, hn2, hn3, hn4⟩ := mz_inx h0 h1 hn
  subst hv
  refine mm_s1 (q := (pc + 1, lo, .int (mm_I (mz_mk g x) q a.toNat) :: st, mz_mk g x)) hl ?_ kk
  have hsh' : mm_sh (mz_mk g x) q = (100, n) := hsh
  simp [mm_step, hsh', if_neg hin, mm_nx, hn2, hn3, hn4]
theorem mz_iaS {q n : Nat} {a v : Int} (hl : mm_look M.2.2.2.2 pc = some (.iaload, 1)) (hsh : mm_SH x.2.2.2.1 q = (106, n)) (h0 : 0 ≤ a) (h1 : a < n) (hn : n ≤ 100000) (hv : g q a.toNat = v) (kk : mm_W d M (pc + 1) lo (.int (Int32.ofInt v) :: st) (mz_mk g x) Q) : mm_W d M pc lo (.int (Int32.ofInt a) :: .ref q :: st) (mz_mk g x) Q := by
  obtain ⟨hin, hn2, hn3, hn4⟩ := mz_inx h0 h1 hn
  subst hv
  refine mm_s1 (q := (pc + 1, lo, .int (mm_I (mz_mk g x) q a.toNat) :: st, mz_mk g x)) hl ?_ kk
  have hsh' : mm_sh (mz_mk g x) q = (106, n) := hsh
  simp [mm_step, hsh', if_neg hin, mm_nx, hn2, hn3, hn4]
theorem mz_ba {q n t : Nat} {a v : Int} (hl : mm_look M.2.2.2.2 pc = some (.baload, 1)) (hsh : mm_SH x.2.2.2.1 q = (t, n)) (htg : t = 101 ∨ t = 108) (h0 : 0 ≤ a) (h1 : a < n) (hn : n ≤ 100000) (hv : g q a.toNat = v) (kk : mm_W d M (pc + 1) lo (.int (Int32.ofInt v) :: st) (mz_mk g x) Q) : mm_W d M pc lo (.int (Int32.ofInt a) :: .ref q :: st) (mz_mk g x) Q := by
  obtain ⟨hin, hn2, hn3, hn4⟩ := mz_inx h0 h1 hn
  subst hv
  refine mm_s1 (q := (pc + 1, lo, .int (mm_I (mz_mk g x) q a.toNat) :: st, mz_mk g x)) hl ?_ kk
  have hsh' : mm_sh (mz_mk g x) q = (t, n) := hsh
  simp [mm_step, hsh', if_pos htg, if_neg hin, mm_nx, hn2, hn3, hn4]
theorem mz_is {q n : Nat} {a v : Int} (hl : mm_look M.2.2.2.2 pc = some (.iastore, 1)) (hsh : mm_SH x.2.2.2.1 q = (100, n)) (h0 : 0 ≤ a) (h1 : a < n) (hn : n ≤ 100000) (kk : mm_W d M (pc + 1) lo st (mz_mk (mz_up g q a.toNat v) x) Q) : mm_W d M pc lo (.int (Int32.ofInt v) :: .int (Int32.ofInt a) :: .ref q :: st) (mz_mk g x) Q := by
  obtain ⟨hin, hn2, hn3, hn4⟩ := mz_inx h0 h1 hn
  rw [← mz_mk_wI] at kk
  refine mm_s1 (q := (pc + 1, lo, st, mm_wI (mz_mk g x) q a.toNat (Int32.ofInt v))) hl ?_ kk
  have hsh' : mm_sh (mz_mk g x) q = (100, n) := hsh
  simp [mm_step, hsh', if_neg hin, mm_nx, hn2, hn3, hn4]
theorem mz_bs {q n : Nat} {a v : Int} (hl : mm_look M.2.2.2.2 pc = some (.bastore, 1)) (hsh : mm_SH x.2.2.2.1 q = (101, n)) (h0 : 0 ≤ a) (h1 : a < n) (hn : n ≤ 100000) (kk : ∀ w : Int, w = mz_narI v → mz_inR w → mm_W d M (pc + 1) lo st (mz_mk (mz_up g q a.toNat w) x) Q) : mm_W d M pc lo (.int (Int32.ofInt v) :: .int (Int32.ofInt a) :: .ref q :: st) (mz_mk g x) Q := by
  obtain ⟨hin, hn2, hn3, hn4⟩ := mz_inx h0 h1 hn
  have kk2 := kk _ rfl (mz_toR _)
  unfold mz_narI at kk2
  rw [← mz_mk_wI, Int32.ofInt_toInt] at kk2
  refine mm_s1 (q := (pc + 1, lo, st, mm_wI (mz_mk g x) q a.toNat (vp_nar .byte (Int32.ofInt v)))) hl ?_ kk2
  have hsh' : mm_sh (mz_mk g x) q = (101, n) := hsh
  simp [mm_step, hsh', if_neg hin, mm_nx, hn2, hn3, hn4]
theorem mz_aa {q n t v : Nat} {a : Int} (hl : mm_look M.2.2.2.2 pc = some (.aaload, 1)) (hsh : mm_SH x.2.2.2.1 q = (t, n)) (htg : t = 103 ∨ t = 104 ∨ t = 105) (h0 : 0 ≤ a) (h1 : a < n) (hn : n ≤ 100000) (hv : mm_HR x.1 x.2.1 x.2.2.1 q a.toNat = some v) (kk : mm_W d M (pc + 1) lo (.ref v :: st) (mz_mk g x) Q) : mm_W d M pc lo (.int (Int32.ofInt a) :: .ref q :: st) (mz_mk g x) Q := by
  obtain ⟨hin, hn2, hn3, hn4⟩ := mz_inx h0 h1 hn
  refine mm_s1 (q := (pc + 1, lo, va_rf (mm_R (mz_mk g x) q a.toNat) :: st, mz_mk g x)) hl ?_ (by rw [show mm_R (mz_mk g x) q a.toNat = some v from hv]; exact kk)
  have hsh' : mm_sh (mz_mk g x) q = (t, n) := hsh
  simp [mm_step, hsh', if_pos htg, if_neg hin, mm_nx, hn2, hn3, hn4]
theorem mz_al {q n t : Nat} (hl : mm_look M.2.2.2.2 pc = some (.arraylength, 1)) (hsh : mm_SH x.2.2.2.1 q = (t, n)) (htg : (100 ≤ t ∧ t ≤ 106) ∨ t = 108) (kk : mm_W d M (pc + 1) lo (.int (Int32.ofInt (n : Int)) :: st) (mz_mk g x) Q) : mm_W d M pc lo (.ref q :: st) (mz_mk g x) Q := by
  rw [Int32.ofInt_eq_ofNat] at kk
  refine mm_s1 (q := (pc + 1, lo, .int (Int32.ofNat n) :: st, mz_mk g x)) hl ?_ kk
  have hsh' : mm_sh (mz_mk g x) q = (t, n) := hsh
  simp [mm_step, hsh', if_pos htg, mm_nx]
theorem mz_tsi {dflt l h : Int} {offs : Array Int} {a off : Int} {tgt w : Nat} (hl : mm_look M.2.2.2.2 pc = some (.tableswitch dflt l h offs, w)) (hR : mz_inR a) (h1 : l ≤ a) (h2 : a ≤ h) (ho : offs[(a - l).toNat]? = some off) (ht : (pc : Int) + off = (tgt : Int)) (k : mm_W d M tgt lo st H Q) : mm_W d M pc lo (.int (Int32.ofInt a) :: st) H Q := by
  refine mm_s1 (q := (tgt, lo, st, H)) hl ?_ k
  simp only [mm_step, mm_i, mz_ti hR]
  rw [if_neg (by omega), ho]
  exact mz_bt ht
theorem mz_tso {dflt l h : Int} {offs : Array Int} {a : Int} {tgt w : Nat} (hl : mm_look M.2.2.2.2 pc = some (.tableswitch dflt l h offs, w)) (hR : mz_inR a) (h1 : a < l ∨ h < a) (ht : (pc : Int) + dflt = (tgt : Int)) (k : mm_W d M tgt lo st H Q) : mm_W d M pc lo (.int (Int32.ofInt a) :: st) H Q := by
  refine mm_s1 (q := (tgt, lo, st, H)) hl ?_ k
  simp only [mm_step, mm_i, mz_ti hR]
  rw [if_pos h1]
  exact mz_bt ht
theorem mz_mx {j a1 a2 a3 a4 : Nat} {a b : Int} (hl : mm_look M.2.2.2.2 pc = some (.invokestatic j, 3)) (ht : mm_tab mm_mthT M.1 j = some (4, a1, a2, a3, a4)) (hc : mm_cat st ≤ 8) (hd : 12 ≤ d) (ha : mz_inR a) (hb : mz_inR b) (k : ∀ v : Int, v = max a b → mm_W d M (pc + 3) lo (.int (Int32.ofInt v) :: st) H Q) : mm_W d M pc lo (.int (Int32.ofInt b) :: .int (Int32.ofInt a) :: st) H Q := by
  have e : (if Int32.ofInt a < Int32.ofInt b then Int32.ofInt b else Int32.ofInt a) = Int32.ofInt (max a b) := by
    simp only [mz_lt ha hb, Int.max_def]
    repeat' split
    all_goals first | rfl | (congr 1; omega)
  have k2 := k _ rfl
  rw [← e] at k2
  refine mm_s1 (q := (pc + 3, lo, .int (if Int32.ofInt a < Int32.ofInt b then Int32.ofInt b else Int32.ofInt a) :: st, H)) hl ?_ k2
  simp only [mm_step, ht, if_pos (And.intro hc hd)]
  rfl
theorem mz_mn {j a1 a2 a3 a4 : Nat} {a b : Int} (hl : mm_look M.2.2.2.2 pc = some (.invokestatic j, 3)) (ht : mm_tab mm_mthT M.1 j = some (5, a1, a2, a3, a4)) (hc : mm_cat st ≤ 8) (hd : 12 ≤ d) (ha : mz_inR a) (hb : mz_inR b) (k : ∀ v : Int, v = min a b → mm_W d M (pc + 3) lo (.int (Int32.ofInt v) :: st) H Q) : mm_W d M pc lo (.int (Int32.ofInt b) :: .int (Int32.ofInt a) :: st) H Q := by
  have e : (if Int32.ofInt b < Int32.ofInt a then Int32.ofInt b else Int32.ofInt a) = Int32.ofInt (min a b) := by
    simp only [mz_lt hb ha, Int.min_def]
    repeat' split
    all_goals first | rfl | (congr 1; omega)
  have k2 := k _ rfl
  rw [← e] at k2
  refine mm_s1 (q := (pc + 3, lo, .int (if Int32.ofInt b < Int32.ofInt a then Int32.ofInt b else Int32.ofInt a) :: st, H)) hl ?_ k2
  simp only [mm_step, ht, if_pos (And.intro hc hd)]
  rfl
theorem mz_rtZ {v : Int} (hl : mm_look M.2.2.2.2 pc = some (.ireturn, 1)) (hM : M.2.2.1 = 2 ∨ M.2.2.1 = 6) (hx : v = 0 ∨ v = 1) (k : Q (.inl (some (.int (Int32.ofInt v)))) H) : mm_W d M pc lo [.int (Int32.ofInt v)] H Q := by
  have hv' : Int32.ofInt v = 0 ∨ Int32.ofInt v = 1 := by rcases hx with rfl | rfl; exact Or.inl rfl; exact Or.inr rfl
  rcases hM with hM | hM <;> exact mm_rt hl (by simp only [mm_step, hM, if_pos hv']) k
/-- calls -/
theorem mz_cs {mi n ne ci j : Nat} {As rest : List Value} (hl : mm_look M.2.2.2.2 pc = some (.invokestatic j, 3)) (ht : mm_tab mm_mthT M.1 j = some (0, mi, n, ne, ci)) (hne : ne = 0 ∨ ne = 1) (hp : mm_pop n [] st = some (As, rest)) (hc : mm_cat rest ≤ 8) (hd : 1 ≤ d) (k : mm_C (d - 1) mi As H (fun o H1 => ∃ v, o = .inl v ∧ mm_W d M (pc + 3) lo (v.toList ++ rest) H1 Q)) : mm_W d M pc lo st H Q := by
  rcases hne with rfl | rfl
  · exact mm_cl1 (thr := true) hl (by simp only [mm_step, ht, mm_call, hp, if_pos hc]) hd k
  · exact mm_cl1 (thr := false) hl (by simp only [mm_step, ht, mm_call, hp, if_pos hc]) hd k
theorem mz_csx {mi n ci j : Nat} {As rest : List Value} (hl : mm_look M.2.2.2.2 pc = some (.invokestatic j, 3)) (ht : mm_tab mm_mthT M.1 j = some (0, mi, n, 0, ci)) (hp : mm_pop n [] st = some (As, rest)) (hc : mm_cat rest ≤ 8) (hd : 1 ≤ d) (hM : M.2.2.2.1 = []) (hh : ∀ M1, mm_at mm_prog mi = some M1 → M1.2.2.2.1 = []) (k : mm_C (d - 1) mi As H (fun o H1 => match o with | .inl v => mm_W d M (pc + 3) lo (v.toList ++ rest) H1 Q | .inr E => Q (.inr E) H1)) : mm_W d M pc lo st H Q :=
  mm_clx hl (by simp only [mm_step, ht, mm_call, hp, if_pos hc]) hd hM hh k
theorem mz_cv {mi n ne ci j b : Nat} {As rest : List Value} (hl : mm_look M.2.2.2.2 pc = some (.invokevirtual j, 3)) (ht : mm_tab mm_mthT M.1 j = some (1, mi, n, ne, ci)) (hne : ne = 0 ∨ ne = 1) (hsh : (mm_SH x.2.2.2.1 b).1 = ci) (hp : mm_pop n [] st = some (As, .ref b :: rest)) (hc : mm_cat rest ≤ 8) (hd : 1 ≤ d) (k : mm_C (d - 1) mi (.ref b :: As) (mz_mk g x) (fun o H1 => ∃ v, o = .inl v ∧ mm_W d M (pc + 3) lo (v.toList ++ rest) H1 Q)) : mm_W d M pc lo st (mz_mk g x) Q := by
  have hc2 : (mm_sh (mz_mk g x) b).1 = ci ∧ mm_cat rest ≤ 8 := ⟨hsh, hc⟩
  rcases hne with rfl | rfl
  · exact mm_cl1 (thr := true) hl (by simp only [mm_step, ht, mm_call, hp, if_pos hc2]) hd k
  · exact mm_cl1 (thr := false) hl (by simp only [mm_step, ht, mm_call, hp, if_pos hc2]) hd k
theorem mz_cvx {mi n ci j b : Nat} {As rest : List Value} (hl : mm_look M.2.2.2.2 pc = some (.invokevirtual j, 3)) (ht : mm_tab mm_mthT M.1 j = some (1, mi, n, 0, ci)) (hsh : (mm_SH x.2.2.2.1 b).1 = ci) (hp : mm_pop n [] st = some (As, .ref b :: rest)) (hc : mm_cat rest ≤ 8) (hd : 1 ≤ d) (hM : M.2.2.2.1 = []) (hh : ∀ M1, mm_at mm_prog mi = some M1 → M1.2.2.2.1 = []) (k : mm_C (d - 1) mi (.ref b :: As) (mz_mk g x) (fun o H1 => match o with | .inl v => mm_W d M (pc + 3) lo (v.toList ++ rest) H1 Q | .inr E => Q (.inr E) H1)) : mm_W d M pc lo st (mz_mk g x) Q := by
  have hc2 : (mm_sh (mz_mk g x) b).1 = ci ∧ mm_cat rest ≤ 8 := ⟨hsh, hc⟩
  exact mm_clx hl (by simp only [mm_step, ht, mm_call, hp, if_pos hc2]) hd hM hh k
theorem mz_nop {mi : Nat} {M0 : mm_M} (h : mm_at mm_prog mi = some M0) (h2 : M0.2.2.2.1 = []) : ∀ M1, mm_at mm_prog mi = some M1 → M1.2.2.2.1 = [] := fun M1 e => by rw [h] at e; cases e; exact h2
/-- a slot that holds nothing wide -/
def mz_nl (o : Option Value) : Prop := ∀ v, o = some v → mm_long v = false
theorem mz_nl_n : mz_nl none := fun _ h => by cases h
theorem mz_nl_i (a : Int32) : mz_nl (some (.int a)) := fun _ h => by cases h; rfl
theorem mz_nl_r (q : Nat) : mz_nl (some (.ref q)) := fun _ h => by cases h; rfl
theorem mz_lgo {lo : List (Option Value)} {j : Nat} {o : Option Value} (h : mm_at lo j = some o) (ho : mz_nl o) : mm_lg lo (j + 1) = false := by
  simp only [mm_lg, h]
  cases o with
  | none => rfl
  | some v => exact ho v rfl
theorem mz_stoI {j : Nat} {v : Value} {lo2 : List (Option Value)} {i : Instr} {w : Nat} (hl : mm_look M.2.2.2.2 pc = some (i, w)) (hs : mm_step M d pc w lo (v :: st) H i = mm_sto (pc + w) lo j v st H) (hg : mm_lg lo j = false) (hj : j < lo.length) (h2 : mm_set lo j (some v) = lo2) (k : mm_W d M (pc + w) lo2 st H Q) : mm_W d M pc lo (v :: st) H Q := by
  subst h2
  refine mm_s1 (q := (pc + w, mm_set lo j (some v), st, H)) hl ?_ k
  rw [hs]
  simp only [mm_sto, hg, if_pos hj]
  rfl
theorem mz_cat8 {st : List Value} {n : Nat} (h : mm_cat st = n) (hn : n ≤ 8) : mm_cat st ≤ 8 := by omega
/-- a loop -/
theorem mz_lp {α : Type} (μ : α → Nat) {P : α → Prop} (h : ∀ a, (∀ b, μ b < μ a → P b) → P a) (a : α) : P a := by
  have : ∀ n a, μ a ≤ n → P a := by
    intro n
    induction n with
    | zero => intro a ha; exact h a (fun b hb => by omega)
    | succ n ih => intro a ha; exact h a (fun b hb => ih b (by omega))
  exact this (μ a) a (Nat.le_refl _)
end WQ
