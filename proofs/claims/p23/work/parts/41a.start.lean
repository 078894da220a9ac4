/-! THE START: what the constructors make -/
def mb_R (so : Option Nat) (rs : List (List (Nat × Nat))) (k j : Nat) : Option Nat := if k = 4000 ∧ j = 0 then so else mm_tab rs k j
def mb_S (n L q : Nat) : Nat × Nat := if q < n ∨ 1000 ≤ q then mm_SH L q else (999, 0)
def mb (n : Nat) (rs : List (List (Nat × Nat))) (g : mz_G) (so : Option Nat) (L sl : Nat) : mm_H := (fun k j => Int32.ofInt (g k j), mb_R so rs, fun _ _ => 0, mb_S n L, n, n, sl)
def mb_set : List (List (Nat × Nat)) → Nat → (Nat × Nat) → List (List (Nat × Nat))
  | [], _, _ => []
  | r :: l, 0, e => (e :: r) :: l
  | r :: l, n + 1, e => r :: mb_set l n e
theorem mb_at_set : ∀ (rs : List (List (Nat × Nat))) (q : Nat) (e : Nat × Nat) (a : Nat), mm_at (mb_set rs q e) a = if a = q then (mm_at rs a).map (fun r => e :: r) else mm_at rs a
  | [], q, e, a => by
    simp only [mb_set, mm_at]
    split <;> rfl
  | r :: l, 0, e, 0 => rfl
  | r :: l, 0, e, a + 1 => by
    simp only [mb_set, mm_at]
    rw [if_neg (by omega)]
  | r :: l, q + 1, e, 0 => by
    simp only [mb_set, mm_at]
    rw [if_neg (by omega)]
  | r :: l, q + 1, e, a + 1 => by
    simp only [mb_set, mm_at]
    rw [mb_at_set l q e a]
    by_cases h : a = q
    · rw [if_pos h, if_pos (by omega)]
    · rw [if_neg h, if_neg (by omega)]
theorem mb_set_len : ∀ (rs : List (List (Nat × Nat))) (q : Nat) (e : Nat × Nat), (mb_set rs q e).length = rs.length
  | [], q, e => rfl
  | r :: l, 0, e => rfl
  | r :: l, q + 1, e => by simp only [mb_set, List.length_cons, mb_set_len l q e]
theorem mb_at_lt : ∀ (rs : List (List (Nat × Nat))) (q : Nat), q < rs.length → ∃ r, mm_at rs q = some r
  | [], q, h => absurd h (Nat.not_lt_zero _)
  | r :: l, 0, h => ⟨r, rfl⟩
  | r :: l, q + 1, h => mb_at_lt l q (Nat.lt_of_succ_lt_succ h)
theorem mb_tab_set {rs : List (List (Nat × Nat))} {q k v : Nat} (h : q < rs.length) (a b : Nat) : mm_tab (mb_set rs q (k, v)) a b = if a = q ∧ b = k then some v else mm_tab rs a b := by
  obtain ⟨r, hr⟩ := mb_at_lt rs q h
  unfold mm_tab
  rw [mb_at_set]
  by_cases ha : a = q
  · subst ha
    rw [if_pos rfl, hr]
    show mm_look ((k, v) :: r) b = _
    by_cases hb : b = k
    · subst hb
      rw [if_pos ⟨rfl, rfl⟩]
      simp [mm_look]
    · rw [if_neg (fun z => hb z.2)]
      have hk : Nat.beq k b = false := by
        cases hh : Nat.beq k b with
        | false => rfl
        | true => exact absurd (Nat.eq_of_beq_eq_true hh).symm hb
      simp only [mm_look, hk]
  · rw [if_neg ha, if_neg (fun z => ha z.1)]
/-- the rows of refs: 180 of them, from n on empty -/
def mb_E (rs : List (List (Nat × Nat))) (n : Nat) : Prop := rs.length = 180 ∧ ∀ k j, n ≤ k → mm_tab rs k j = none
theorem mb_E_set {rs : List (List (Nat × Nat))} {n q k v : Nat} (h : mb_E rs n) (hq : q < n) (hn : q < 180) : mb_E (mb_set rs q (k, v)) n := by
  refine ⟨(mb_set_len _ _ _).trans h.1, fun a j ha => ?_⟩
  rw [mb_tab_set (by rw [h.1]; exact hn), if_neg (by omega)]
  exact h.2 a j ha
theorem mb_E_up {rs : List (List (Nat × Nat))} {n : Nat} (h : mb_E rs n) : mb_E rs (n + 1) := ⟨h.1, fun k j hk => h.2 k j (Nat.le_of_succ_le hk)⟩
theorem mb_g1 {rs : List (List (Nat × Nat))} {n q k v : Nat} (h : mb_E rs n) (hn : q < 180) : mm_tab (mb_set rs q (k, v)) q k = some v := by
  rw [mb_tab_set (by rw [h.1]; exact hn), if_pos ⟨rfl, rfl⟩]
theorem mb_g2 {rs : List (List (Nat × Nat))} {n q k v a b : Nat} (h : mb_E rs n) (hn : q < 180) (hne : ¬ (a = q ∧ b = k)) : mm_tab (mb_set rs q (k, v)) a b = mm_tab rs a b := by
  rw [mb_tab_set (by rw [h.1]; exact hn), if_neg hne]
theorem mb_alloc {n t len : Nat} {rs : List (List (Nat × Nat))} {g : mz_G} {so : Option Nat} {L sl : Nat} (E : mb_E rs n) (hn : n < 1000) (hs : mm_at mm_SHL n = some (t, len)) (hg : ∀ j, g n j = 0) : mm_new (mb n rs g so L sl) t len = mb (n + 1) rs g so L (sl + len) := by
  have e1 : mm_u1 (fun k j => Int32.ofInt (g k j)) n (fun _ => 0) = fun k j => Int32.ofInt (g k j) := by
    funext k j
    unfold mm_u1
    by_cases h : k = n
    · rw [if_pos h, h, hg]; rfl
    · rw [if_neg h]
  have e2 : mm_u1 (mb_R so rs) n (fun _ => none) = mb_R so rs := by
    funext k j
    unfold mm_u1
    by_cases h : k = n
    · rw [if_pos h, h]
      unfold mb_R
      rw [if_neg (by omega), E.2 n j (Nat.le_refl n)]
    · rw [if_neg h]
  have e3 : mm_u1 (fun (_ : Nat) (_ : Nat) => (0 : Int64)) n (fun (_ : Nat) => (0 : Int64)) = fun (_ : Nat) (_ : Nat) => (0 : Int64) := by
    funext k j
    unfold mm_u1
    split <;> rfl
  have e4 : mm_u1 (mb_S n L) n (t, len) = mb_S (n + 1) L := by
    funext q
    unfold mm_u1 mb_S
    by_cases h : q = n
    · rw [if_pos h, h, if_pos (by omega)]
      unfold mm_SH
      rw [hs]
    · rw [if_neg h]
      by_cases h2 : q < n ∨ 1000 ≤ q
      · rw [if_pos h2, if_pos (by omega)]
      · rw [if_neg h2, if_neg (by omega)]
  show (mm_u1 (fun k j => Int32.ofInt (g k j)) n (fun _ => 0), mm_u1 (mb_R so rs) n (fun _ => none), mm_u1 (fun (_ : Nat) (_ : Nat) => (0 : Int64)) n (fun (_ : Nat) => (0 : Int64)), mm_u1 (mb_S n L) n (t, len), n + 1, n + 1, sl + len) = _
  rw [e1, e2, e3, e4]
  rfl
theorem mb_wR {n q k v : Nat} {rs : List (List (Nat × Nat))} {g : mz_G} {so : Option Nat} {L sl : Nat} (E : mb_E rs n) (hn : q < 180) : mm_wR (mb n rs g so L sl) q k (some v) = mb n (mb_set rs q (k, v)) g so L sl := by
  have e : mm_u2 (mb_R so rs) q k (some v) = mb_R so (mb_set rs q (k, v)) := by
    funext a b
    unfold mm_u2 mb_R
    rw [mb_tab_set (by rw [E.1]; exact hn)]
    by_cases h : a = q ∧ b = k
    · rw [if_pos h, if_pos h, if_neg (by omega)]
    · rw [if_neg h, if_neg h]
  show (_, mm_u2 (mb_R so rs) q k (some v), _) = _
  rw [e]
  rfl
theorem mb_wI {n q k : Nat} {v : Int} {rs : List (List (Nat × Nat))} {g : mz_G} {so : Option Nat} {L sl : Nat} : mm_wI (mb n rs g so L sl) q k (Int32.ofInt v) = mb n rs (mz_up g q k v) so L sl := by
  have e : mm_u2 (fun k j => Int32.ofInt (g k j)) q k (Int32.ofInt v) = fun a b => Int32.ofInt (mz_up g q k v a b) := by
    funext a b
    unfold mm_u2 mz_up
    split <;> rfl
  show (mm_u2 (fun k j => Int32.ofInt (g k j)) q k (Int32.ofInt v), _) = _
  rw [e]
  rfl
theorem mb_w0 {n q k : Nat} {rs : List (List (Nat × Nat))} {g : mz_G} {so : Option Nat} {L sl : Nat} (h : g q k = 0) : mm_wI (mb n rs g so L sl) q k (Int32.ofInt 0) = mb n rs g so L sl := by
  rw [mb_wI]
  have e : mz_up g q k 0 = g := by
    funext a b
    unfold mz_up
    by_cases hh : a = q ∧ b = k
    · rw [if_pos hh, hh.1, hh.2, h]
    · rw [if_neg hh]
  rw [e]
section START
variable {d : Nat} {M : mm_M} {pc : Nat} {lo : List (Option Value)} {st : List Value} {Q : (Option Value ⊕ Nat) → mm_H → Prop} {g : mz_G} {n : Nat} {rs : List (List (Nat × Nat))} {so : Option Nat} {L sl : Nat} {H : mm_H}
theorem mb_new {i ci N sl2 : Nat} (E : mb_E rs n) (hl : mm_look M.2.2.2.2 pc = some (.new i, 3)) (ht : mm_tab mm_newT M.1 i = some (ci, N)) (hn : n < 1000) (hs : mm_at mm_SHL n = some (ci, N)) (hz : sl + N = sl2) (hg : ∀ j, g n j = 0) (k : mm_W d M (pc + 3) lo (.ref n :: st) (mb (n + 1) rs g so L sl2) Q) : mm_W d M pc lo st (mb n rs g so L sl) Q := by
  refine mm_s1 (q := (pc + 3, lo, .ref n :: st, mm_new (mb n rs g so L sl) ci N)) hl ?_ ?_
  · simp only [mm_step, ht]
    exact if_pos hn
  · rw [mb_alloc E hn hs hg, hz]; exact k
theorem mb_nai {len : Int} {c sl2 : Nat} (E : mb_E rs n) (hl : mm_look M.2.2.2.2 pc = some (.newarray .int, 2)) (hx : ¬ (Int32.ofInt len < 0 ∨ 100000 < (Int32.ofInt len).toNatClampNeg)) (hc : (Int32.ofInt len).toNatClampNeg = c) (hn : n < 1000) (hs : mm_at mm_SHL n = some (100, c)) (hz : sl + c = sl2) (hg : ∀ j, g n j = 0) (k : mm_W d M (pc + 2) lo (.ref n :: st) (mb (n + 1) rs g so L sl2) Q) : mm_W d M pc lo (.int (Int32.ofInt len) :: st) (mb n rs g so L sl) Q := by
  refine mm_s1 (q := (pc + 2, lo, .ref n :: st, mm_new (mb n rs g so L sl) 100 c)) hl ?_ ?_
  · have hn' : mm_n (mb n rs g so L sl) < 1000 := hn
    rw [hc] at hx
    simp only [mm_step, mm_i, hc, if_neg hx, if_pos hn']
    rfl
  · rw [mb_alloc E hn hs hg, hz]; exact k
theorem mb_nab {len : Int} {c sl2 : Nat} (E : mb_E rs n) (hl : mm_look M.2.2.2.2 pc = some (.newarray .byte, 2)) (hx : ¬ (Int32.ofInt len < 0 ∨ 100000 < (Int32.ofInt len).toNatClampNeg)) (hc : (Int32.ofInt len).toNatClampNeg = c) (hn : n < 1000) (hs : mm_at mm_SHL n = some (101, c)) (hz : sl + c = sl2) (hg : ∀ j, g n j = 0) (k : mm_W d M (pc + 2) lo (.ref n :: st) (mb (n + 1) rs g so L sl2) Q) : mm_W d M pc lo (.int (Int32.ofInt len) :: st) (mb n rs g so L sl) Q := by
  refine mm_s1 (q := (pc + 2, lo, .ref n :: st, mm_new (mb n rs g so L sl) 101 c)) hl ?_ ?_
  · have hn' : mm_n (mb n rs g so L sl) < 1000 := hn
    rw [hc] at hx
    simp only [mm_step, mm_i, hc, if_neg hx, if_pos hn']
    rfl
  · rw [mb_alloc E hn hs hg, hz]; exact k
theorem mb_nal {len : Int} {c sl2 : Nat} (E : mb_E rs n) (hl : mm_look M.2.2.2.2 pc = some (.newarray .long, 2)) (hx : ¬ (Int32.ofInt len < 0 ∨ 100000 < (Int32.ofInt len).toNatClampNeg)) (hc : (Int32.ofInt len).toNatClampNeg = c) (hn : n < 1000) (hs : mm_at mm_SHL n = some (102, c)) (hz : sl + c = sl2) (hg : ∀ j, g n j = 0) (k : mm_W d M (pc + 2) lo (.ref n :: st) (mb (n + 1) rs g so L sl2) Q) : mm_W d M pc lo (.int (Int32.ofInt len) :: st) (mb n rs g so L sl) Q := by
  refine mm_s1 (q := (pc + 2, lo, .ref n :: st, mm_new (mb n rs g so L sl) 102 c)) hl ?_ ?_
  · have hn' : mm_n (mb n rs g so L sl) < 1000 := hn
    rw [hc] at hx
    simp only [mm_step, mm_i, hc, if_neg hx, if_pos hn']
    rfl
  · rw [mb_alloc E hn hs hg, hz]; exact k
theorem mb_ana {len : Int} {c i t sl2 : Nat} (E : mb_E rs n) (hl : mm_look M.2.2.2.2 pc = some (.anewarray i, 3)) (ht : mm_tab mm_arrT M.1 i = some t) (hx : ¬ (Int32.ofInt len < 0 ∨ 100000 < (Int32.ofInt len).toNatClampNeg)) (hc : (Int32.ofInt len).toNatClampNeg = c) (hn : n < 1000) (hs : mm_at mm_SHL n = some (t, c)) (hz : sl + c = sl2) (hg : ∀ j, g n j = 0) (k : mm_W d M (pc + 3) lo (.ref n :: st) (mb (n + 1) rs g so L sl2) Q) : mm_W d M pc lo (.int (Int32.ofInt len) :: st) (mb n rs g so L sl) Q := by
  refine mm_s1 (q := (pc + 3, lo, .ref n :: st, mm_new (mb n rs g so L sl) t c)) hl ?_ ?_
  · have hn' : mm_n (mb n rs g so L sl) < 1000 := hn
    rw [hc] at hx
    simp only [mm_step, mm_i, hc, if_neg hx, if_pos hn', ht]
    rfl
  · rw [mb_alloc E hn hs hg, hz]; exact k
theorem mb_pR {j ci k ne q v : Nat} (E : mb_E rs n) (hl : mm_look M.2.2.2.2 pc = some (.putfield j, 3)) (ht : mm_tab mm_fldT M.1 j = some (ci, k, ne)) (hq : q < 180) (hsh : (mb_S n L q).1 = ci) (hf : mm_tab mm_ftT ci k = some 2 ∨ (mm_tab mm_ftT ci k = some 6 ∧ M.2.2.1 = 4 ∧ M.1 = ci)) (kk : mm_W d M (pc + 3) lo st (mb n (mb_set rs q (k, v)) g so L sl) Q) : mm_W d M pc lo (.ref v :: .ref q :: st) (mb n rs g so L sl) Q := by
  rw [← mb_wR E hq] at kk
  refine mm_s1 (q := (pc + 3, lo, st, mm_wR (mb n rs g so L sl) q k (some v))) hl ?_ kk
  have hsh' : (mm_sh (mb n rs g so L sl) q).1 = ci := hsh
  rcases hf with hf | ⟨hf, h4⟩
  · simp only [mm_step, ht, if_pos hsh', hf]
    rfl
  · simp only [mm_step, ht, if_pos hsh', hf, if_pos h4]
    rfl
theorem mb_p0 {j ci k ne q : Nat} (hl : mm_look M.2.2.2.2 pc = some (.putfield j, 3)) (ht : mm_tab mm_fldT M.1 j = some (ci, k, ne)) (hsh : (mb_S n L q).1 = ci) (hf : mm_tab mm_ftT ci k = some 0 ∨ mm_tab mm_ftT ci k = some 1) (hz : g q k = 0) (kk : mm_W d M (pc + 3) lo st (mb n rs g so L sl) Q) : mm_W d M pc lo (.int (Int32.ofInt 0) :: .ref q :: st) (mb n rs g so L sl) Q := by
  rw [← mb_w0 (q := q) (k := k) hz] at kk
  refine mm_s1 (q := (pc + 3, lo, st, mm_wI (mb n rs g so L sl) q k (Int32.ofInt 0))) hl ?_ kk
  have hsh' : (mm_sh (mb n rs g so L sl) q).1 = ci := hsh
  have h01 : Int32.ofInt 0 = 0 ∨ Int32.ofInt 0 = 1 := Or.inl rfl
  rcases hf with hf | hf
  · simp only [mm_step, ht, if_pos hsh', hf]
    rfl
  · simp only [mm_step, ht, if_pos hsh', hf, if_pos h01]
    rfl
theorem mb_pI {j ci k ne q : Nat} {v : Int} (hl : mm_look M.2.2.2.2 pc = some (.putfield j, 3)) (ht : mm_tab mm_fldT M.1 j = some (ci, k, ne)) (hsh : (mb_S n L q).1 = ci) (hf : mm_tab mm_ftT ci k = some 0) (kk : mm_W d M (pc + 3) lo st (mb n rs (mz_up g q k v) so L sl) Q) : mm_W d M pc lo (.int (Int32.ofInt v) :: .ref q :: st) (mb n rs g so L sl) Q := by
  rw [← mb_wI] at kk
  refine mm_s1 (q := (pc + 3, lo, st, mm_wI (mb n rs g so L sl) q k (Int32.ofInt v))) hl ?_ kk
  have hsh' : (mm_sh (mb n rs g so L sl) q).1 = ci := hsh
  simp only [mm_step, ht, if_pos hsh', hf]
  rfl
theorem mb_aa {i : Int} {c q v len : Nat} (E : mb_E rs n) (hl : mm_look M.2.2.2.2 pc = some (.aastore, 1)) (hq : q < 180) (htg : ((mb_S n L q).1 = 103 ∧ (mb_S n L v).1 = 0) ∨ ((mb_S n L q).1 = 104 ∧ (mb_S n L v).1 = 8) ∨ ((mb_S n L q).1 = 105 ∧ (mb_S n L v).1 = 107)) (hlen : (mb_S n L q).2 = len) (hx : ¬ (Int32.ofInt i < 0 ∨ len ≤ (Int32.ofInt i).toNatClampNeg)) (hc : (Int32.ofInt i).toNatClampNeg = c) (kk : mm_W d M (pc + 1) lo st (mb n (mb_set rs q (c, v)) g so L sl) Q) : mm_W d M pc lo (.ref v :: .int (Int32.ofInt i) :: .ref q :: st) (mb n rs g so L sl) Q := by
  rw [← mb_wR E hq] at kk
  refine mm_s1 (q := (pc + 1, lo, st, mm_wR (mb n rs g so L sl) q c (some v))) hl ?_ kk
  have htg' : ((mm_sh (mb n rs g so L sl) q).1 = 103 ∧ (mm_sh (mb n rs g so L sl) v).1 = 0) ∨ ((mm_sh (mb n rs g so L sl) q).1 = 104 ∧ (mm_sh (mb n rs g so L sl) v).1 = 8) ∨ ((mm_sh (mb n rs g so L sl) q).1 = 105 ∧ (mm_sh (mb n rs g so L sl) v).1 = 107) := htg
  have hx' : ¬ (Int32.ofInt i < 0 ∨ (mm_sh (mb n rs g so L sl) q).2 ≤ (Int32.ofInt i).toNatClampNeg) := by
    have e : (mm_sh (mb n rs g so L sl) q).2 = len := hlen
    rw [e]; exact hx
  rw [hc] at hx'
  simp only [mm_step, if_pos htg', hc, if_neg hx']
  rfl
theorem mb_gf {j ci k ne kd q v : Nat} (hl : mm_look M.2.2.2.2 pc = some (.getfield j, 3)) (ht : mm_tab mm_fldT M.1 j = some (ci, k, ne)) (hsh : (mb_S n L q).1 = ci) (hf : mm_tab mm_ftT ci k = some (kd + 2)) (hq : q < 180) (hv : mm_tab rs q k = some v) (kk : mm_W d M (pc + 3) lo (.ref v :: st) (mb n rs g so L sl) Q) : mm_W d M pc lo (.ref q :: st) (mb n rs g so L sl) Q := by
  have e : mm_R (mb n rs g so L sl) q k = some v := by
    show mb_R so rs q k = some v
    unfold mb_R
    rw [if_neg (by omega), hv]
  refine mm_s1 (q := (pc + 3, lo, va_rf (mm_R (mb n rs g so L sl) q k) :: st, mb n rs g so L sl)) hl ?_ (by rw [e]; exact kk)
  have hsh' : (mm_sh (mb n rs g so L sl) q).1 = ci := hsh
  simp only [mm_step, ht, if_pos hsh', hf]
  rfl
theorem mb_al {q c t : Nat} (hl : mm_look M.2.2.2.2 pc = some (.arraylength, 1)) (hsh : mb_S n L q = (t, c)) (htg : (100 ≤ t ∧ t ≤ 106) ∨ t = 108) (kk : mm_W d M (pc + 1) lo (.int (Int32.ofInt (c : Int)) :: st) (mb n rs g so L sl) Q) : mm_W d M pc lo (.ref q :: st) (mb n rs g so L sl) Q := by
  rw [Int32.ofInt_eq_ofNat] at kk
  refine mm_s1 (q := (pc + 1, lo, .int (Int32.ofNat c) :: st, mb n rs g so L sl)) hl ?_ kk
  have hsh' : mm_sh (mb n rs g so L sl) q = (t, c) := hsh
  simp [mm_step, hsh', if_pos htg, mm_nx]
theorem mb_obj {j a1 a2 a3 a4 q : Nat} (hl : mm_look M.2.2.2.2 pc = some (.invokespecial j, 3)) (ht : mm_tab mm_mthT M.1 j = some (3, a1, a2, a3, a4)) (hc : mm_cat st ≤ 8) (hd : 12 ≤ d) (kk : mm_W d M (pc + 3) lo st H Q) : mm_W d M pc lo (.ref q :: st) H Q := by
  refine mm_s1 (q := (pc + 3, lo, st, H)) hl ?_ kk
  simp only [mm_step, ht, if_pos (And.intro hc hd)]
  rfl
theorem mb_cl {mi na ne j b ci : Nat} {As rest : List Value} (hl : mm_look M.2.2.2.2 pc = some (.invokespecial j, 3)) (ht : mm_tab mm_mthT M.1 j = some (2, mi, na, ne, ci)) (hp : mm_pop na [] st = some (As, .ref b :: rest)) (hc : mm_cat rest ≤ 8) (hd : 1 ≤ d) (k : mm_C (d - 1) mi (.ref b :: As) H (fun o H1 => ∃ v, o = .inl v ∧ mm_W d M (pc + 3) lo (v.toList ++ rest) H1 Q)) : mm_W d M pc lo st H Q :=
  mm_cl1 (thr := false) hl (by simp only [mm_step, ht, mm_call, hp, if_pos hc]) hd k
end START
/-- two tables that answer alike -/
def mb_eq1 (l1 l2 : List (Nat × Nat)) : Bool := l1.all (fun e => mm_look l2 e.1 == some e.2) && l2.all (fun e => mm_look l1 e.1 == some e.2)
def mb_eqv : List (List (Nat × Nat)) → List (List (Nat × Nat)) → Bool
  | [], [] => true
  | a :: l, b :: m => mb_eq1 a b && mb_eqv l m
  | _, _ => false
theorem mb_look_mem {l : List (Nat × Nat)} {j v : Nat} (h : mm_look l j = some v) : (j, v) ∈ l := by
  induction l with
  | nil => cases h
  | cons e r ih =>
    obtain ⟨k, w⟩ := e
    cases hk : Nat.beq k j with
    | true =>
      simp only [mm_look, hk, Option.some.injEq] at h
      rw [← h, Nat.eq_of_beq_eq_true hk]
      exact List.mem_cons_self
    | false =>
      simp only [mm_look, hk] at h
      exact List.mem_cons_of_mem _ (ih h)
theorem mb_eq1_ok {l1 l2 : List (Nat × Nat)} (h : mb_eq1 l1 l2 = true) (j : Nat) : mm_look l1 j = mm_look l2 j := by
  unfold mb_eq1 at h
  rw [Bool.and_eq_true, List.all_eq_true, List.all_eq_true] at h
  cases e1 : mm_look l1 j with
  | some v =>
    have := h.1 _ (mb_look_mem e1)
    exact (eq_of_beq this).symm
  | none =>
    cases e2 : mm_look l2 j with
    | none => rfl
    | some v =>
      have := eq_of_beq (h.2 _ (mb_look_mem e2))
      rw [e1] at this
      cases this
theorem mb_eqv_ok : ∀ (l m : List (List (Nat × Nat))), mb_eqv l m = true → ∀ k j, mm_tab l k j = mm_tab m k j
  | [], [], _, k, j => rfl
  | a :: l, b :: m, h, 0, j => by
    rw [mb_eqv, Bool.and_eq_true] at h
    exact mb_eq1_ok h.1 j
  | a :: l, b :: m, h, k + 1, j => by
    rw [mb_eqv, Bool.and_eq_true] at h
    exact mb_eqv_ok l m h.2 k j
  | [], b :: m, h, k, j => by cases h
  | a :: l, [], h, k, j => by cases h
def mbR0 : List (List (Nat × Nat)) := List.replicate 180 []
theorem mbE0 : mb_E mbR0 0 := ⟨rfl, fun k j _ => by
  unfold mm_tab
  rw [mm_at_get, show mbR0 = List.replicate 180 [] from rfl, List.getElem?_replicate]
  split
  · rename_i l e; split at e
    · cases e; rfl
    · cases e
  · rfl⟩
def mbR1 : List (List (Nat × Nat)) := mb_set mbR0 2 (0, 3)
def mbR2 : List (List (Nat × Nat)) := mb_set mbR1 4 (0, 5)
def mbR3 : List (List (Nat × Nat)) := mb_set mbR2 2 (1, 4)
def mbR4 : List (List (Nat × Nat)) := mb_set mbR3 2 (2, 6)
def mbR5 : List (List (Nat × Nat)) := mb_set mbR4 2 (4, 7)
def mbR6 : List (List (Nat × Nat)) := mb_set mbR5 2 (5, 8)
def mbR7 : List (List (Nat × Nat)) := mb_set mbR6 2 (6, 9)
def mbR8 : List (List (Nat × Nat)) := mb_set mbR7 2 (7, 10)
def mbR9 : List (List (Nat × Nat)) := mb_set mbR8 11 (0, 12)
def mbR10 : List (List (Nat × Nat)) := mb_set mbR9 3 (0, 11)
def mbR11 : List (List (Nat × Nat)) := mb_set mbR10 13 (0, 14)
def mbR12 : List (List (Nat × Nat)) := mb_set mbR11 3 (1, 13)
def mbR13 : List (List (Nat × Nat)) := mb_set mbR12 15 (0, 16)
def mbR14 : List (List (Nat × Nat)) := mb_set mbR13 3 (2, 15)
def mbR15 : List (List (Nat × Nat)) := mb_set mbR14 17 (0, 18)
def mbR16 : List (List (Nat × Nat)) := mb_set mbR15 3 (3, 17)
def mbR17 : List (List (Nat × Nat)) := mb_set mbR16 19 (0, 20)
def mbR18 : List (List (Nat × Nat)) := mb_set mbR17 3 (4, 19)
def mbR19 : List (List (Nat × Nat)) := mb_set mbR18 21 (0, 22)
def mbR20 : List (List (Nat × Nat)) := mb_set mbR19 3 (5, 21)
def mbR21 : List (List (Nat × Nat)) := mb_set mbR20 23 (0, 24)
def mbR22 : List (List (Nat × Nat)) := mb_set mbR21 3 (6, 23)
def mbR23 : List (List (Nat × Nat)) := mb_set mbR22 25 (0, 26)
def mbR24 : List (List (Nat × Nat)) := mb_set mbR23 3 (7, 25)
def mbR25 : List (List (Nat × Nat)) := mb_set mbR24 1 (0, 2)
def mbR26 : List (List (Nat × Nat)) := mb_set mbR25 27 (0, 28)
def mbR27 : List (List (Nat × Nat)) := mb_set mbR26 27 (1, 29)
def mbR28 : List (List (Nat × Nat)) := mb_set mbR27 28 (0, 30)
def mbR29 : List (List (Nat × Nat)) := mb_set mbR28 28 (1, 31)
def mbR30 : List (List (Nat × Nat)) := mb_set mbR29 28 (2, 32)
def mbR31 : List (List (Nat × Nat)) := mb_set mbR30 28 (3, 33)
def mbR32 : List (List (Nat × Nat)) := mb_set mbR31 28 (4, 34)
def mbR33 : List (List (Nat × Nat)) := mb_set mbR32 28 (5, 35)
def mbR34 : List (List (Nat × Nat)) := mb_set mbR33 1 (1, 27)
def mbR35 : List (List (Nat × Nat)) := mb_set mbR34 1 (2, 36)
def mbR36 : List (List (Nat × Nat)) := mb_set mbR35 37 (0, 38)
def mbR37 : List (List (Nat × Nat)) := mb_set mbR36 37 (2, 39)
def mbR38 : List (List (Nat × Nat)) := mb_set mbR37 37 (3, 40)
def mbR39 : List (List (Nat × Nat)) := mb_set mbR38 1 (4, 37)
def mbR40 : List (List (Nat × Nat)) := mb_set mbR39 0 (1, 1)
def mbR41 : List (List (Nat × Nat)) := mb_set mbR40 42 (0, 43)
def mbR42 : List (List (Nat × Nat)) := mb_set mbR41 44 (0, 45)
def mbR43 : List (List (Nat × Nat)) := mb_set mbR42 42 (1, 44)
def mbR44 : List (List (Nat × Nat)) := mb_set mbR43 42 (2, 46)
def mbR45 : List (List (Nat × Nat)) := mb_set mbR44 42 (4, 47)
def mbR46 : List (List (Nat × Nat)) := mb_set mbR45 42 (5, 48)
def mbR47 : List (List (Nat × Nat)) := mb_set mbR46 42 (6, 49)
def mbR48 : List (List (Nat × Nat)) := mb_set mbR47 42 (7, 50)
def mbR49 : List (List (Nat × Nat)) := mb_set mbR48 51 (0, 52)
def mbR50 : List (List (Nat × Nat)) := mb_set mbR49 43 (0, 51)
def mbR51 : List (List (Nat × Nat)) := mb_set mbR50 53 (0, 54)
def mbR52 : List (List (Nat × Nat)) := mb_set mbR51 43 (1, 53)
def mbR53 : List (List (Nat × Nat)) := mb_set mbR52 55 (0, 56)
def mbR54 : List (List (Nat × Nat)) := mb_set mbR53 43 (2, 55)
def mbR55 : List (List (Nat × Nat)) := mb_set mbR54 57 (0, 58)
def mbR56 : List (List (Nat × Nat)) := mb_set mbR55 43 (3, 57)
def mbR57 : List (List (Nat × Nat)) := mb_set mbR56 59 (0, 60)
def mbR58 : List (List (Nat × Nat)) := mb_set mbR57 43 (4, 59)
def mbR59 : List (List (Nat × Nat)) := mb_set mbR58 61 (0, 62)
def mbR60 : List (List (Nat × Nat)) := mb_set mbR59 43 (5, 61)
def mbR61 : List (List (Nat × Nat)) := mb_set mbR60 63 (0, 64)
def mbR62 : List (List (Nat × Nat)) := mb_set mbR61 43 (6, 63)
def mbR63 : List (List (Nat × Nat)) := mb_set mbR62 65 (0, 66)
def mbR64 : List (List (Nat × Nat)) := mb_set mbR63 43 (7, 65)
def mbR65 : List (List (Nat × Nat)) := mb_set mbR64 41 (0, 42)
def mbR66 : List (List (Nat × Nat)) := mb_set mbR65 67 (0, 68)
def mbR67 : List (List (Nat × Nat)) := mb_set mbR66 67 (1, 69)
def mbR68 : List (List (Nat × Nat)) := mb_set mbR67 68 (0, 70)
def mbR69 : List (List (Nat × Nat)) := mb_set mbR68 68 (1, 71)
def mbR70 : List (List (Nat × Nat)) := mb_set mbR69 68 (2, 72)
def mbR71 : List (List (Nat × Nat)) := mb_set mbR70 68 (3, 73)
def mbR72 : List (List (Nat × Nat)) := mb_set mbR71 68 (4, 74)
def mbR73 : List (List (Nat × Nat)) := mb_set mbR72 68 (5, 75)
def mbR74 : List (List (Nat × Nat)) := mb_set mbR73 41 (1, 67)
def mbR75 : List (List (Nat × Nat)) := mb_set mbR74 41 (2, 76)
def mbR76 : List (List (Nat × Nat)) := mb_set mbR75 77 (0, 78)
def mbR77 : List (List (Nat × Nat)) := mb_set mbR76 77 (2, 79)
def mbR78 : List (List (Nat × Nat)) := mb_set mbR77 77 (3, 80)
def mbR79 : List (List (Nat × Nat)) := mb_set mbR78 41 (4, 77)
def mbR80 : List (List (Nat × Nat)) := mb_set mbR79 0 (2, 41)
def mbR81 : List (List (Nat × Nat)) := mb_set mbR80 82 (0, 83)
def mbR82 : List (List (Nat × Nat)) := mb_set mbR81 81 (0, 82)
def mbR83 : List (List (Nat × Nat)) := mb_set mbR82 81 (3, 84)
def mbR84 : List (List (Nat × Nat)) := mb_set mbR83 0 (3, 81)
def mbR85 : List (List (Nat × Nat)) := mb_set mbR84 0 (4, 85)
def mbR86 : List (List (Nat × Nat)) := mb_set mbR85 87 (0, 88)
def mbR87 : List (List (Nat × Nat)) := mb_set mbR86 87 (1, 89)
def mbR88 : List (List (Nat × Nat)) := mb_set mbR87 88 (0, 90)
def mbR89 : List (List (Nat × Nat)) := mb_set mbR88 88 (1, 91)
def mbR90 : List (List (Nat × Nat)) := mb_set mbR89 88 (2, 92)
def mbR91 : List (List (Nat × Nat)) := mb_set mbR90 88 (3, 93)
def mbR92 : List (List (Nat × Nat)) := mb_set mbR91 88 (4, 94)
def mbR93 : List (List (Nat × Nat)) := mb_set mbR92 88 (5, 95)
def mbR94 : List (List (Nat × Nat)) := mb_set mbR93 86 (0, 87)
def mbR95 : List (List (Nat × Nat)) := mb_set mbR94 86 (1, 96)
def mbR96 : List (List (Nat × Nat)) := mb_set mbR95 86 (4, 97)
def mbR97 : List (List (Nat × Nat)) := mb_set mbR96 86 (5, 98)
def mbR98 : List (List (Nat × Nat)) := mb_set mbR97 86 (6, 99)
def mbR99 : List (List (Nat × Nat)) := mb_set mbR98 86 (8, 100)
def mbR100 : List (List (Nat × Nat)) := mb_set mbR99 0 (5, 86)
def mbR101 : List (List (Nat × Nat)) := mb_set mbR100 102 (0, 103)
def mbR102 : List (List (Nat × Nat)) := mb_set mbR101 102 (1, 104)
def mbR103 : List (List (Nat × Nat)) := mb_set mbR102 103 (0, 105)
def mbR104 : List (List (Nat × Nat)) := mb_set mbR103 103 (1, 106)
def mbR105 : List (List (Nat × Nat)) := mb_set mbR104 103 (2, 107)
def mbR106 : List (List (Nat × Nat)) := mb_set mbR105 103 (3, 108)
def mbR107 : List (List (Nat × Nat)) := mb_set mbR106 103 (4, 109)
def mbR108 : List (List (Nat × Nat)) := mb_set mbR107 103 (5, 110)
def mbR109 : List (List (Nat × Nat)) := mb_set mbR108 101 (0, 102)
def mbR110 : List (List (Nat × Nat)) := mb_set mbR109 101 (1, 111)
def mbR111 : List (List (Nat × Nat)) := mb_set mbR110 101 (4, 112)
def mbR112 : List (List (Nat × Nat)) := mb_set mbR111 101 (5, 113)
def mbR113 : List (List (Nat × Nat)) := mb_set mbR112 101 (6, 114)
def mbR114 : List (List (Nat × Nat)) := mb_set mbR113 101 (8, 115)
def mbR115 : List (List (Nat × Nat)) := mb_set mbR114 0 (6, 101)
def mbR116 : List (List (Nat × Nat)) := mb_set mbR115 116 (0, 117)
def mbR117 : List (List (Nat × Nat)) := mb_set mbR116 0 (8, 116)
def mbR118 : List (List (Nat × Nat)) := mb_set mbR117 118 (0, 119)
def mbR119 : List (List (Nat × Nat)) := mb_set mbR118 118 (1, 120)
def mbR120 : List (List (Nat × Nat)) := mb_set mbR119 118 (2, 121)
def mbR121 : List (List (Nat × Nat)) := mb_set mbR120 0 (9, 118)
def mbR122 : List (List (Nat × Nat)) := mb_set mbR121 0 (10, 122)
def mbR123 : List (List (Nat × Nat)) := mb_set mbR122 0 (11, 123)
def mbR124 : List (List (Nat × Nat)) := mb_set mbR123 124 (0, 125)
def mbR125 : List (List (Nat × Nat)) := mb_set mbR124 124 (1, 126)
def mbR126 : List (List (Nat × Nat)) := mb_set mbR125 125 (0, 127)
def mbR127 : List (List (Nat × Nat)) := mb_set mbR126 125 (1, 128)
def mbR128 : List (List (Nat × Nat)) := mb_set mbR127 125 (2, 129)
def mbR129 : List (List (Nat × Nat)) := mb_set mbR128 125 (3, 130)
def mbR130 : List (List (Nat × Nat)) := mb_set mbR129 125 (4, 131)
def mbR131 : List (List (Nat × Nat)) := mb_set mbR130 125 (5, 132)
def mbR132 : List (List (Nat × Nat)) := mb_set mbR131 0 (12, 124)
def mbR133 : List (List (Nat × Nat)) := mb_set mbR132 133 (0, 134)
def mbR134 : List (List (Nat × Nat)) := mb_set mbR133 0 (13, 133)
def mbR135 : List (List (Nat × Nat)) := mb_set mbR134 135 (0, 136)
def mbR136 : List (List (Nat × Nat)) := mb_set mbR135 0 (14, 135)
def mbR137 : List (List (Nat × Nat)) := mb_set mbR136 138 (0, 1014)
def mbR138 : List (List (Nat × Nat)) := mb_set mbR137 138 (1, 1015)
def mbR139 : List (List (Nat × Nat)) := mb_set mbR138 137 (0, 138)
def mbR140 : List (List (Nat × Nat)) := mb_set mbR139 139 (0, 1016)
def mbR141 : List (List (Nat × Nat)) := mb_set mbR140 139 (1, 1017)
def mbR142 : List (List (Nat × Nat)) := mb_set mbR141 139 (2, 1018)
def mbR143 : List (List (Nat × Nat)) := mb_set mbR142 139 (3, 1019)
def mbR144 : List (List (Nat × Nat)) := mb_set mbR143 139 (4, 1020)
def mbR145 : List (List (Nat × Nat)) := mb_set mbR144 139 (5, 1021)
def mbR146 : List (List (Nat × Nat)) := mb_set mbR145 139 (6, 1022)
def mbR147 : List (List (Nat × Nat)) := mb_set mbR146 137 (1, 139)
def mbR148 : List (List (Nat × Nat)) := mb_set mbR147 137 (3, 140)
def mbR149 : List (List (Nat × Nat)) := mb_set mbR148 137 (4, 141)
def mbR150 : List (List (Nat × Nat)) := mb_set mbR149 137 (5, 142)
def mbR151 : List (List (Nat × Nat)) := mb_set mbR150 137 (6, 143)
def mbR152 : List (List (Nat × Nat)) := mb_set mbR151 137 (7, 144)
def mbR153 : List (List (Nat × Nat)) := mb_set mbR152 137 (8, 145)
def mbR154 : List (List (Nat × Nat)) := mb_set mbR153 137 (9, 146)
def mbR155 : List (List (Nat × Nat)) := mb_set mbR154 137 (10, 147)
def mbR156 : List (List (Nat × Nat)) := mb_set mbR155 137 (11, 148)
def mbR157 : List (List (Nat × Nat)) := mb_set mbR156 137 (12, 149)
def mbR158 : List (List (Nat × Nat)) := mb_set mbR157 137 (13, 150)
def mbR159 : List (List (Nat × Nat)) := mb_set mbR158 137 (14, 151)
def mbR160 : List (List (Nat × Nat)) := mb_set mbR159 137 (25, 152)
def mbR161 : List (List (Nat × Nat)) := mb_set mbR160 137 (26, 153)
def mbR162 : List (List (Nat × Nat)) := mb_set mbR161 137 (27, 154)
def mbR163 : List (List (Nat × Nat)) := mb_set mbR162 137 (28, 155)
def mbR164 : List (List (Nat × Nat)) := mb_set mbR163 137 (29, 156)
def mbR165 : List (List (Nat × Nat)) := mb_set mbR164 137 (33, 157)
def mbR166 : List (List (Nat × Nat)) := mb_set mbR165 137 (34, 158)
def mbR167 : List (List (Nat × Nat)) := mb_set mbR166 137 (35, 159)
def mbR168 : List (List (Nat × Nat)) := mb_set mbR167 137 (38, 160)
def mbR169 : List (List (Nat × Nat)) := mb_set mbR168 137 (39, 161)
def mbR170 : List (List (Nat × Nat)) := mb_set mbR169 137 (40, 162)
def mbR171 : List (List (Nat × Nat)) := mb_set mbR170 137 (41, 163)
def mbR172 : List (List (Nat × Nat)) := mb_set mbR171 137 (42, 164)
def mbR173 : List (List (Nat × Nat)) := mb_set mbR172 137 (43, 165)
def mbR174 : List (List (Nat × Nat)) := mb_set mbR173 137 (44, 166)
def mbR175 : List (List (Nat × Nat)) := mb_set mbR174 137 (45, 167)
def mbR176 : List (List (Nat × Nat)) := mb_set mbR175 137 (46, 168)
def mbR177 : List (List (Nat × Nat)) := mb_set mbR176 137 (47, 169)
def mbR178 : List (List (Nat × Nat)) := mb_set mbR177 137 (48, 170)
def mbR179 : List (List (Nat × Nat)) := mb_set mbR178 137 (49, 171)
def mbR180 : List (List (Nat × Nat)) := mb_set mbR179 137 (51, 172)
def mbR181 : List (List (Nat × Nat)) := mb_set mbR180 137 (56, 173)
def mbR182 : List (List (Nat × Nat)) := mb_set mbR181 137 (57, 174)
def mbR183 : List (List (Nat × Nat)) := mb_set mbR182 137 (58, 175)
def mbR184 : List (List (Nat × Nat)) := mb_set mbR183 137 (59, 176)
def mbR185 : List (List (Nat × Nat)) := mb_set mbR184 137 (60, 177)
def mbR186 : List (List (Nat × Nat)) := mb_set mbR185 137 (61, 178)
