/-! WHAT IS ASKED of the reference leaves it as it was -/
def st_d (q : Nat) (g0 g : mz_G) : Prop := g q 0 = g0 137 30 ∧ ∀ t : Nat, t < 6 → g q (1 + t) = g0 152 t ∧ g q (7 + t) = g0 153 t ∧ g q (13 + t) = g0 154 t ∧ g q (19 + t) = g0 155 t
def sm5 (g0 g : mz_G) : Prop := g 137 30 = g0 137 30 ∧ ∀ t : Nat, t < 6 → g 152 t = g0 152 t ∧ g 153 t = g0 153 t ∧ g 154 t = g0 154 t ∧ g 155 t = g0 155 t
def qk (q : Nat) (g0 g : mz_G) : Prop := su_e g0 g ∧ st_d q g0 g
/-- what is known of the rule and of how many trunks -/
def kr (g : mz_G) : Prop := mz_pv g ∧ g 140 3 ≤ 700 ∧ g 140 1 ≤ 6
section YE
variable {x : mm_X} {g g0 g1 gA gB : mz_G} {q : Nat}
theorem sm_rf : sm5 g g := ⟨rfl, fun _ _ => ⟨rfl, rfl, rfl, rfl⟩⟩
theorem sm_tr (h : sm5 g0 g) (k : sm5 g g1) : sm5 g0 g1 := ⟨k.1.trans h.1, fun t ht => ⟨(k.2 t ht).1.trans (h.2 t ht).1, (k.2 t ht).2.1.trans (h.2 t ht).2.1, (k.2 t ht).2.2.1.trans (h.2 t ht).2.2.1, (k.2 t ht).2.2.2.trans (h.2 t ht).2.2.2⟩⟩
theorem sm_fr (f : ∀ a b : Nat, (a = 137 ∧ b = 30) ∨ (152 ≤ a ∧ a ≤ 155) → g1 a b = g a b) : sm5 g g1 := ⟨f _ _ (by omega), fun t _ => ⟨f _ _ (by omega), f _ _ (by omega), f _ _ (by omega), f _ _ (by omega)⟩⟩
theorem sm_2 {v : Int} : sm5 g (mz_up g 137 2 v) := sm_fr (fun a b z => mz_up_ne (by omega))
theorem kr_e (h : su_e g0 g) (k : kr g0) : kr g := ⟨mz_pv_fr k.1 (fun j => h 149 j (by decide) (by decide)) (h 140 3 (by decide) (by decide)), by rw [h 140 3 (by decide) (by decide)]; exact k.2.1, by rw [h 140 1 (by decide) (by decide)]; exact k.2.2⟩
theorem qk_sto (hq : q = 162 ∨ q = 169) : qk q g (zF_X12_store q 25 0 g) := by
  obtain ⟨s1, s2, s3⟩ := store_B (g := g) (q := q) (nq := 25) (p := 0) (by omega) (by decide)
  generalize zF_X12_store q 25 0 g = g1 at *
  have z : (0 : Int).toNat = 0 := rfl
  simp only [z, Nat.zero_add] at s1 s2 s3
  exact ⟨fun a b u v => s3 a b (by omega), s1, fun t ht => s2 t ht⟩
theorem sto_s (hq : q = 162 ∨ q = 169) : sm5 g (zF_X12_store q 25 0 g) := by
  obtain ⟨s1, s2, s3⟩ := store_B (g := g) (q := q) (nq := 25) (p := 0) (by omega) (by decide)
  generalize zF_X12_store q 25 0 g = g1 at *
  exact sm_fr (fun a b z => s3 a b (by omega))
theorem qk_fr (f : ∀ a b : Nat, (a = q ∨ (140 ≤ a ∧ a ≤ 149)) → g1 a b = g a b) (k : qk q g0 g) : qk q g0 g1 := by
  refine ⟨fun a b u v => (f a b (by omega)).trans (k.1 a b u v), (f _ _ (by omega)).trans k.2.1, fun t ht => ?_⟩
  rw [f _ _ (by omega), f _ _ (by omega), f _ _ (by omega), f _ _ (by omega)]
  exact k.2.2 t ht
theorem qk_go (K : kr g0) (hq : q = 162 ∨ q = 169) {n : Int} (n0 : 0 ≤ n) (n1 : n ≤ 2147483647) (k : qk q g0 g) : qk q g0 (zF_X12_goOn n g) := by
  obtain ⟨p, b, c⟩ := kr_e k.1 K
  obtain ⟨-, -, f⟩ := goOn_B p b c n0 n1
  exact qk_fr (fun a b z => f a b (by unfold fw_dy; omega)) k
theorem qk_day (K : kr g0) (hq : q = 162 ∨ q = 169) {h : Int} (k : qk q g0 g) : qk q g0 (zF_X12_aDayOf h g) := by
  obtain ⟨p, b, c⟩ := kr_e k.1 K
  obtain ⟨-, -, f⟩ := day_B p b (h := h) c
  exact qk_fr (fun a b z => f a b (by unfold fw_dy; omega)) k
theorem qk_rec (hq : q = 162 ∨ q = 169) (k : qk q g0 g) : sm5 g0 (zF_X12_recall q 25 0 g) ∧ qk q g0 (zF_X12_recall q 25 0 g) := by
  obtain ⟨r1, r2, r3⟩ := recall_B (g := g) (q := q) (nq := 25) (p := 0) (by omega) (by decide)
  generalize zF_X12_recall q 25 0 g = g1 at *
  have z : (0 : Int).toNat = 0 := rfl
  simp only [z, Nat.zero_add] at r1 r2
  refine ⟨⟨r1.trans k.2.1, fun t ht => ?_⟩, qk_fr (fun a b z => r3 a b (by omega) (by omega)) k⟩
  obtain ⟨a0, a1, a2, a3⟩ := r2 t ht
  obtain ⟨b0, b1, b2, b3⟩ := k.2.2 t ht
  exact ⟨a0.trans b0, a1.trans b1, a2.trans b2, a3.trans b3⟩
theorem inv_2 (I : mz_inv g) {v : Int} (h0 : -2147483648 ≤ v) (h1 : v ≤ 2147483647) : mz_inv (mz_up g 137 2 v) := mz_inv_up I (q := 137) (k := 2) (lo := -2147483648) (hi := 2147483647) rfl h0 h1
theorem fail_s {c : Int} : sm5 g (zf_m2 (zF_X12_fail c g) fun v g => (v, g)).2 := by
  unfold zf_m2 zF_X12_fail
  simp only [zf_lq]
  exact sm_2
theorem snd_s {v : Int} (h : sm5 g0 g) : sm5 g0 ((v, g) : Int × mz_G).2 := h
/-- then, blend -/
theorem then_s (hx : mk_x x) (I : mz_inv g) (K : kr g) (d9 : g 137 30 ≤ 999) {a1 a2 a3 : Int} : sm5 g (zF_X12_then a1 a2 a3 g).2 := by
  refine sm_tr (sm_2 (v := 0)) ?_
  have I1 := inv_2 I (v := 0) (by decide) (by decide)
  have K1 : kr (mz_up g 137 2 0) := kr_e (g0 := g) (fun a b u v => up_k (by omega)) K
  have d1 : mz_up g 137 2 0 137 30 ≤ 999 := by rw [up_j (by decide)]; exact d9
  unfold zF_X12_then zJ_X12_then_25 zJ_X12_then_104 zJ_X12_then_101
  simp only [zf_lq]
  rw [isT_B, isI_B, isI_B]
  generalize mz_up g 137 2 0 = b1 at *
  by_cases ht : 0 ≤ a1 ∧ a1 < b1 140 1
  · rw [if_pos ht, i10]
    by_cases h3 : 0 ≤ a3 ∧ a3 ≤ 3
    · rw [if_pos h3, i10]
      by_cases h2 : 0 ≤ a2 ∧ a2 ≤ 60
      · rw [if_pos h2, i10]
        have k := qk_go K1 (Or.inl rfl) h2.1 (by omega) (qk_sto (g := b1) (Or.inl rfl))
        obtain ⟨g2, i2, f2, e2⟩ := q_X12_store hx I1 (q1 := 162) (n_q1 := 25) (by unfold mk_rw; decide) (a2 := 0) (by decide) (by decide) (by decide) (by decide) d1
        rw [e2] at k ⊢
        obtain ⟨g3, i3, f3, -, e3⟩ := q_X12_goOn hx i2 h2.1 h2.2 (mz_pv_fr K1.1 (fun j => f2 149 j (by unfold fw_X12_store; omega)) (f2 140 3 (by unfold fw_X12_store; omega))) (by rw [f2 137 30 (by unfold fw_X12_store; omega)]; omega)
        rw [e3] at k ⊢
        have N : ∀ v : Int, 0 ≤ v → v ≤ 1 → sm5 b1 (zf_m2 (zF_X12_nearest a1 v g3) fun v14 g15 => (v14, zF_X12_recall 162 25 0 g15)).2 := fun v v0 v1 => by
          obtain ⟨r, g4, i4, f4, -, -, e4⟩ := q_X12_nearest hx i3 ht.1 (by have := K1.2.2; omega) v0 v1
          rw [e4]
          unfold zf_m2
          exact snd_s (qk_rec (Or.inl rfl) (qk_fr (fun a b z => f4 a b (by unfold fw_X12_nearest; omega)) k)).1
        split
        · exact snd_s (qk_rec (Or.inl rfl) k).1
        · split
          · exact snd_s (qk_rec (Or.inl rfl) k).1
          · split
            · exact N 1 (by decide) (by decide)
            · exact N 0 (by decide) (by decide)
      · rw [if_neg h2, i00]; exact fail_s
    · rw [if_neg h3, i00]; exact fail_s
  · rw [if_neg ht, i00]; exact fail_s
theorem sh157 (hx : mk_x x) : mm_SH x.2.2.2.1 157 = (100, 16) ∧ mm_SH x.2.2.2.1 158 = (100, 16) := ⟨rfl, rfl⟩
theorem up36 (I : mz_inv g) {v : Int} (h0 : 0 ≤ v) (h1 : v ≤ 16) : mz_inv (mz_up g 137 36 v) ∧ mz_inv (mz_up g 137 37 v) := ⟨mz_inv_up I (q := 137) (k := 36) (lo := 0) (hi := 16) rfl h0 h1, mz_inv_up I (q := 137) (k := 37) (lo := 0) (hi := 16) rfl h0 h1⟩
theorem blend_s (hx : mk_x x) (I : mz_inv g) (K : kr g) (d9 : g 137 30 ≤ 999) {a1 a2 a3 : Int} : sm5 g (zF_X12_blend a1 a2 a3 g).2 := by
  refine sm_tr (sm_2 (v := 0)) ?_
  have I1 := inv_2 I (v := 0) (by decide) (by decide)
  have K1 : kr (mz_up g 137 2 0) := kr_e (g0 := g) (fun a b u v => up_k (by omega)) K
  have d1 : mz_up g 137 2 0 137 30 ≤ 999 := by rw [up_j (by decide)]; exact d9
  unfold zF_X12_blend
  simp only [zf_lq]
  rw [isT_B, isI_B]
  generalize mz_up g 137 2 0 = b1 at *
  by_cases ht : 0 ≤ a1 ∧ a1 < b1 140 1
  · rw [if_pos ht, i10]
    by_cases h2 : 0 ≤ a3 ∧ a3 ≤ 60
    · rw [if_pos h2, i10]
      have k := qk_go K1 (Or.inl rfl) h2.1 (by omega) (qk_sto (g := b1) (Or.inl rfl))
      obtain ⟨g2, i2, f2, e2⟩ := q_X12_store hx I1 (q1 := 162) (n_q1 := 25) (by unfold mk_rw; decide) (a2 := 0) (by decide) (by decide) (by decide) (by decide) d1
      rw [e2] at k ⊢
      obtain ⟨g3, i3, f3, -, e3⟩ := q_X12_goOn hx i2 h2.1 h2.2 (mz_pv_fr K1.1 (fun j => f2 149 j (by unfold fw_X12_store; omega)) (f2 140 3 (by unfold fw_X12_store; omega))) (by rw [f2 137 30 (by unfold fw_X12_store; omega)]; omega)
      rw [e3] at k ⊢
      obtain ⟨r, g4, i4, f4, -, -, e4⟩ := q_X12_blendInto hx i3 (q1 := 157) (n_q1 := 16) rfl (by decide) (fun _ => rfl) ht.1 (by have := K1.2.2; omega) (by decide)
      rw [e4]
      unfold zf_m2
      have R := (qk_rec (Or.inl rfl) (qk_fr (g1 := mz_up g4 137 36 r) (fun a b z => (mz_up_ne (by omega)).trans (f4 a b (by unfold fw_X12_blendInto; omega))) k)).1
      dsimp only
      split
      · exact snd_s R
      · exact snd_s R
    · rw [if_neg h2, i00]; exact fail_s
  · rw [if_neg ht, i00]; exact fail_s
end YE
