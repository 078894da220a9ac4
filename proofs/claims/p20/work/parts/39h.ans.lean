/-! ANSWERS (8): read, alike -/
section WH
variable {x : mm_X} {g g0 g1 gA gB b0 : mz_G} {ld : Nat}
theorem read_a (hx : mk_x x) (K : kr gB) (k : ru x gA gB) {a1 a2 : Int} : ka (zF_X11_read x a1 a2 gA) (zF_X12_read a1 a2 gB) := by
  have k1 := ru_2 (v := 0) k
  have K1 : kr (mz_up gB 137 2 0) := kr_e (g0 := gB) (fun a b u v => up_k (by omega)) K
  unfold zF_X11_read zF_X12_read zJ_X11_read_20 zJ_X11_read_21 zJ_X12_read_21
  simp only [zf_lq]
  rw [isT_A, isT_B, isW_A, isW_B]
  generalize hb : mz_up gB 137 2 0 = b1 at *
  have c0 : b1 137 2 = 0 := by rw [← hb, mz_up_at]
  clear k hb
  have n2 : gA 87 2 = b1 140 1 := k1.2.2.2.1.1.1
  have W : sa_w x.1 gA b1 := k1.2.1.1
  rw [n2, W.1]
  by_cases ht : 0 ≤ a1 ∧ a1 < b1 140 1
  · rw [if_pos ht, i10, i10]
    by_cases hw : 0 ≤ a2 ∧ a2 < b1 140 0
    · rw [if_pos hw, i10, i10, mb_1]
      obtain ⟨-, ⟨e0, e1, e2, e3, e4⟩, vv, ss, tt, t6⟩ := now_t k1 ht.1 ht.2
      rw [get_A ht.1 t6]
      obtain ⟨r0, r1, r2, r3, r4, rf⟩ := asOf_A (g := gA) (q := 122) (r := 87 + 3 + a1.toNat) (by omega)
      generalize zF_X8_becomeAs 122 (87 + 3 + a1.toNat) gA = g2 at *
      have wl := sa_len W hw.1 hw.2
      obtain ⟨h1, e, tb, f1⟩ := winto_B (q1 := 158) (nq := 16) (b0 := b1) (by decide) hw.1 wl.2.2
      rw [e, m2_q]
      obtain ⟨s1, s2, s3⟩ := store_B (g := mz_up h1 137 37 (b1 142 a2.toNat)) (q := 162) (nq := 25) (p := 0) (by omega) (by decide)
      have q := qk_sto (q := 162) (g := mz_up h1 137 37 (b1 142 a2.toNat)) (Or.inl rfl)
      have o : ∀ a b : Nat, a ≠ 162 → a ≠ 158 → ¬ (a = 137 ∧ b = 37) → zF_X12_store 162 25 0 (mz_up h1 137 37 (b1 142 a2.toNat)) a b = b1 a b := fun a b z z1 z2 => (s3 a b (fun y => z y.1)).trans ((mz_up_ne z2).trans (f1 a b z1))
      have o37 : zF_X12_store 162 25 0 (mz_up h1 137 37 (b1 142 a2.toNat)) 137 37 = b1 142 a2.toNat := (s3 137 37 (by omega)).trans (mz_up_at ..)
      have o158 : ∀ j : Nat, (j : Int) < b1 142 a2.toNat → zF_X12_store 162 25 0 (mz_up h1 137 37 (b1 142 a2.toNat)) 158 j = b1 141 (8 * a2 + j).toNat := fun j hj => (s3 158 j (by omega)).trans ((up_k (by decide)).trans (tb j hj))
      have E : ∀ a b : Nat, (140 ≤ a ∧ a ≤ 149) ∨ (a = 137 ∧ b = 30) ∨ (152 ≤ a ∧ a ≤ 155) → mz_up h1 137 37 (b1 142 a2.toNat) a b = b1 a b := fun a b z => (mz_up_ne (by omega)).trans (f1 a b (by omega))
      have q' : qk 162 b1 (zF_X12_store 162 25 0 (mz_up h1 137 37 (b1 142 a2.toNat))) := by
        refine ⟨fun a b u v => (q.1 a b u v).trans (E a b (by omega)), q.2.1.trans (E 137 30 (by omega)), fun t ht => ?_⟩
        obtain ⟨y1, y2, y3, y4⟩ := q.2.2 t ht
        exact ⟨y1.trans (E _ _ (by omega)), y2.trans (E _ _ (by omega)), y3.trans (E _ _ (by omega)), y4.trans (E _ _ (by omega))⟩
      generalize zF_X12_store 162 25 0 (mz_up h1 137 37 (b1 142 a2.toNat)) = h at *
      exact read_ll hx k1 K1 ht.1 ht.2 hw.1 hw.2 (61 - 0 : Int).toNat 3000000000 3000000000 0 0 g2 h rfl (by decide) (by decide) rfl (fun a b z _ _ _ _ => rf a b (by omega)) (r0.trans e0) (r1.trans e1) (r2.trans e2) (r4.trans e4) (r3.trans e3) q' ((o _ _ (by decide) (by decide) (by decide)).trans c0) (by rw [o _ _ (by decide) (by decide) (by decide)]; omega) (o _ _ (by decide) (by decide) (by omega)) (o _ _ (by decide) (by decide) (by omega)) (o _ _ (by decide) (by decide) (by omega)) (o _ _ (by decide) (by decide) (by omega)) o37 o158
    · rw [if_neg hw, i00, i00, mb_0]
      exact ka_fail (c := 1) rfl (by decide)
  · rw [if_neg ht, i00, i00, mb_0]
    exact ka_fail (c := 1) rfl (by decide)
/-- one text is the other -/
theorem same_B (l16 : g 137 36 ≤ 16) (p0 : 0 ≤ g 137 37) : ((g 137 36 = g 137 37 ∧ ∀ j : Nat, (j : Int) < g 137 36 → g 157 j = g 158 j) → zF_X12_areSame g = 1) ∧ (¬ (g 137 36 = g 137 37 ∧ ∀ j : Nat, (j : Int) < g 137 36 → g 157 j = g 158 j) → zF_X12_areSame g = 0) := by
  unfold zF_X12_areSame zJ_X12_areSame_22
  simp only [zf_lq]
  obtain ⟨B1, B2⟩ := within_B l16 p0
  by_cases e : g 137 36 = g 137 37
  · rw [if_pos e]
    have ee : tw (g 157) (g 158) (g 137 36) (g 137 37) 0 ↔ ∀ j : Nat, (j : Int) < g 137 36 → g 157 j = g 158 j := by
      constructor
      · rintro ⟨a, h1, h2, h3⟩ j hj
        have a0 : a = 0 := by omega
        have := h3 j (by omega)
        rw [a0, Nat.zero_add] at this
        exact this
      · intro h
        exact ⟨0, by omega, by omega, fun j hj => by rw [Nat.zero_add]; exact h j (by omega)⟩
    refine ⟨fun h => ?_, fun h => ?_⟩
    · rw [B1 (ee.mpr h.2), if_neg (by decide)]
    · rw [B2 (fun y => h ⟨e, ee.mp y⟩), if_pos rfl]
  · rw [if_neg e]
    exact ⟨fun h => absurd h.1 e, fun _ => rfl⟩
end WH
