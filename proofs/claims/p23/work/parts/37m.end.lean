/-! THE END OF A BAGGAGE, of both -/
section YC
variable {x : mm_X} {g gA gA' gB gB' : mz_G} {ld : Nat} {d : Int}
theorem dst_lo {f f' : Nat → Int} : ∀ (k : Nat), (∀ j : Nat, j < k → f' j = f j) → mz_dst f' k = mz_dst f k := by
  intro k
  induction k with
  | zero => intro _; rfl
  | succ k ih =>
    intro h
    simp only [mz_dst]
    rw [ih (fun j hj => h j (by omega)), h k (by omega)]
theorem pv_lo (h3 : gB' 140 3 = gB 140 3) (hb : gB 140 3 ≤ 700) (h : ∀ j : Nat, j < 700 → gB' 149 j = gB 149 j) (k : mz_pv gB) : mz_pv gB' := by
  intro i hi
  rw [h3] at hi
  rw [dst_lo (f := gB 149) i (fun j hj => h j (by omega))]
  exact k i hi
/-- the rule's signs are the eight of the language -/
theorem pv_28 (k : mz_pv gB) {i : Nat} (hi : (i : Int) < gB 140 3) : -28 ≤ gB 149 i := by
  obtain ⟨n, -, h⟩ := k (i + 1) (by omega)
  simp only [mz_dst] at h
  cases e : mz_dst (gB 149) i with
  | none => rw [e] at h; cases h
  | some m =>
    rw [e] at h
    simp only [mz_ds] at h
    split at h
    · omega
    · split at h
      · omega
      · split at h
        · omega
        · cases h
theorem sx_L (w : gB 140 0 ≤ 8) (n6 : gB 140 1 ≤ 6) (L : lk_k gB gB') : sx_e gB gB' := by
  obtain ⟨⟨l0, l2, l9⟩, l1, l3, l4, l8⟩ := L
  refine ⟨l0 1 (by decide), fun a b c v => ?_, fun t ht => l4 t (by omega)⟩
  obtain ⟨a0, a1, b0, b1, c0, c1⟩ := v
  have e : fu gB' a b = fu gB a b := by
    unfold fu
    rw [l2 _ (by omega), l2 _ (by omega)]
  unfold vt
  rw [e, l0 0 (by decide)]
  exact ⟨a0, a1, b0, b1, c0, c1⟩
theorem sta_L (hx : mk_x x) (I : mz_inv gB) (I' : mz_inv gB') (L : lk_k gB gB') (k : sta ld gA gB) : sta ld gA gB' := by
  obtain ⟨⟨l0, l2, l9⟩, l1, l3, l4, l8⟩ := L
  obtain ⟨⟨w1, w2, w3, w4⟩, o, ⟨h1, h2, h3, h4⟩, r1, r2, r3, r4, r5⟩ := k
  have e0 := l0 0 (by decide)
  have e2 := l0 2 (by decide)
  have e3 := l0 3 (by decide)
  refine ⟨⟨by rw [e0]; exact w1, by rw [e0]; exact w2, by rw [e0]; exact w3, fun i hi => ?_⟩, fun i j hi hj => ?_, ⟨by rw [e2]; exact h1, by rw [e2]; exact h2, by rw [e2]; exact h3, fun i hi => ?_⟩, by rw [e3]; exact r1, by rw [e3]; exact r2, by rw [e3]; exact r3, fun i hi => ?_, pv_lo e3 r3 l9 r5⟩
  · rw [e0] at hi
    obtain ⟨u1, u2, u3, u4, u5⟩ := w4 i hi
    rw [l2 i (by omega), l3 i (by omega)]
    refine ⟨u1, u2, u3, fun j hj => ?_, u5⟩
    rw [l1 _ (by omega)]
    exact u4 j hj
  · rw [e0] at hi hj
    rw [o i j hi hj, ov_B hx I (by omega) (by omega) (by omega) (by omega), ov_B hx I' (by omega) (by omega) (by omega) (by omega)]
    obtain ⟨-, ui, vi, -⟩ := w4 i hi
    obtain ⟨-, uj, vj, -⟩ := w4 j hj
    refine mz_ov_eq (ovr_c (fl := gB 141) (fn := gB 142) (by omega) (by omega) (l2 _ (by omega)) (l2 _ (by omega)) (by rw [Int.toNat_natCast]; exact vi) (by rw [Int.toNat_natCast]; exact vj) (fun q q0 q8 => l1 _ (by omega)) (fun q q0 q8 => l1 _ (by omega)) (ovr_ov (by rw [Int.toNat_natCast]; exact ui) (by rw [Int.toNat_natCast]; exact uj)))
  · rw [e2] at hi
    rw [l8 i (by omega)]
    exact h4 i hi
  · rw [e3] at hi
    rw [l9 i (by omega)]
    exact r4 i hi
/-- the reference takes over: the upper halves become the lower ones -/
theorem over_B (hx : mk_x x) (I : mz_inv gB) (ti : mz_TI gB d) (h : gB 137 22 = 0) : mz_inv (zF_X12_takeOver gB) ∧ mz_pv (zF_X12_takeOver gB) ∧ mz_fr (fw_X12_takeOver x) gB (zF_X12_takeOver gB) ∧ ((∀ j : Nat, j < 4 → zF_X12_takeOver gB 140 j = gB 140 (4 + j)) ∧ (∀ j : Nat, j < 64 → zF_X12_takeOver gB 141 j = gB 141 (64 + j)) ∧ (∀ j : Nat, j < 8 → zF_X12_takeOver gB 142 j = gB 142 (8 + j) ∧ zF_X12_takeOver gB 143 j = gB 143 (8 + j) ∧ zF_X12_takeOver gB 148 j = gB 148 (8 + j)) ∧ (∀ j : Nat, j < 6 → zF_X12_takeOver gB 144 j = gB 144 (6 + j)) ∧ (∀ j : Nat, j < 700 → zF_X12_takeOver gB 149 j = gB 149 (700 + j))) ∧ zF_X12_takeOver gB 137 30 = 0 ∧ (∀ t : Nat, t < 6 → zF_X12_takeOver gB 152 t = 0 ∧ ((t : Int) < gB 140 5 → zF_X12_takeOver gB 153 t = gB 145 (6 + t) ∧ zF_X12_takeOver gB 154 t = gB 146 (6 + t) ∧ zF_X12_takeOver gB 155 t = gB 147 (6 + t))) ∧ zF_X12_takeOver gB 137 31 = 0 ∧ zF_X12_takeOver gB 137 32 = 0 ∧ zF_X12_takeOver gB 137 53 = 0 := by
  have u := mz_isU ti.2 h
  obtain ⟨g1, i1, f, pv, d0, -, -, e⟩ := q_X12_takeOver hx I ti.1 u.1 u.2.1 (by
    by_cases y : d ≤ 1
    · exact Or.inr (u.2.2.1 y)
    · exact Or.inl (u.2.2.2 (by omega)))
  rw [e]
  refine ⟨i1, pv, f, ?_⟩
  rw [← e]
  clear e i1 f pv d0 g1 u
  have bb : ∀ q n : Nat, (q = 140 ∧ n = 8) ∨ (q = 141 ∧ n = 128) ∨ (q = 142 ∧ n = 16) ∨ (q = 143 ∧ n = 16) ∨ (q = 144 ∧ n = 12) ∨ (q = 145 ∧ n = 12) ∨ (q = 146 ∧ n = 12) ∨ (q = 147 ∧ n = 12) ∨ (q = 148 ∧ n = 16) ∨ (q = 149 ∧ n = 1400) → ∀ g : mz_G, mz_inv g → mz_inv (zF_X12_takeHalf q n g) ∧ (∀ a b : Nat, a ≠ q → zF_X12_takeHalf q n g a b = g a b) ∧ ∀ j : Nat, j < n / 2 → zF_X12_takeHalf q n g q j = g q (n / 2 + j) := fun q n hq g I => by
    have sh : mm_SH x.2.2.2.1 q = (100, n) := by rcases hq with ⟨rfl, rfl⟩ | ⟨rfl, rfl⟩ | ⟨rfl, rfl⟩ | ⟨rfl, rfl⟩ | ⟨rfl, rfl⟩ | ⟨rfl, rfl⟩ | ⟨rfl, rfl⟩ | ⟨rfl, rfl⟩ | ⟨rfl, rfl⟩ | ⟨rfl, rfl⟩ <;> rfl
    have bd : ∀ j, mz_bd q (n / 2 + j) = mz_bd q j := fun j => by
      rcases hq with ⟨rfl, rfl⟩ | ⟨rfl, rfl⟩ | ⟨rfl, rfl⟩ | ⟨rfl, rfl⟩ | ⟨rfl, rfl⟩ | ⟨rfl, rfl⟩ | ⟨rfl, rfl⟩ | ⟨rfl, rfl⟩ | ⟨rfl, rfl⟩ | ⟨rfl, rfl⟩
      · show mz_toldb (4 + j) = mz_toldb j
        unfold mz_toldb
        rw [show (4 + j) % 4 = j % 4 by omega]
      all_goals rfl
    obtain ⟨g1, i, f, v, e⟩ := q_X12_takeHalf hx I sh (by omega) bd
    rw [e]
    exact ⟨i, fun a b z => f a b (by unfold fw_X12_takeHalf; omega), v⟩
  unfold zF_X12_takeOver
  simp only [zf_lq]
  obtain ⟨i1, o1, v1⟩ := bb 140 8 (by omega) gB I
  generalize zF_X12_takeHalf 140 8 gB = g1 at *
  obtain ⟨i2, o2, v2⟩ := bb 141 128 (by omega) g1 i1
  generalize zF_X12_takeHalf 141 128 g1 = g2 at *
  obtain ⟨i3, o3, v3⟩ := bb 142 16 (by omega) g2 i2
  generalize zF_X12_takeHalf 142 16 g2 = g3 at *
  obtain ⟨i4, o4, v4⟩ := bb 143 16 (by omega) g3 i3
  generalize zF_X12_takeHalf 143 16 g3 = g4 at *
  obtain ⟨i5, o5, v5⟩ := bb 144 12 (by omega) g4 i4
  generalize zF_X12_takeHalf 144 12 g4 = g5 at *
  obtain ⟨i6, o6, v6⟩ := bb 145 12 (by omega) g5 i5
  generalize zF_X12_takeHalf 145 12 g5 = g6 at *
  obtain ⟨i7, o7, v7⟩ := bb 146 12 (by omega) g6 i6
  generalize zF_X12_takeHalf 146 12 g6 = g7 at *
  obtain ⟨i8, o8, v8⟩ := bb 147 12 (by omega) g7 i7
  generalize zF_X12_takeHalf 147 12 g7 = g8 at *
  obtain ⟨i9, o9, v9⟩ := bb 148 16 (by omega) g8 i8
  generalize zF_X12_takeHalf 148 16 g8 = g9 at *
  obtain ⟨i10, o10, v10⟩ := bb 149 1400 (by omega) g9 i9
  generalize zF_X12_takeHalf 149 1400 g9 = g10 at *
  clear bb
  have t140 : ∀ j : Nat, j < 4 → g10 140 j = gB 140 (4 + j) := fun j hj => by
    rw [o10 _ _ (by decide), o9 _ _ (by decide), o8 _ _ (by decide), o7 _ _ (by decide), o6 _ _ (by decide), o5 _ _ (by decide), o4 _ _ (by decide), o3 _ _ (by decide), o2 _ _ (by decide)]
    exact v1 j (by omega)
  have t141 : ∀ j : Nat, j < 64 → g10 141 j = gB 141 (64 + j) := fun j hj => by
    rw [o10 _ _ (by decide), o9 _ _ (by decide), o8 _ _ (by decide), o7 _ _ (by decide), o6 _ _ (by decide), o5 _ _ (by decide), o4 _ _ (by decide), o3 _ _ (by decide)]
    exact (v2 j (by omega)).trans (o1 _ _ (by decide))
  have t142 : ∀ j : Nat, j < 8 → g10 142 j = gB 142 (8 + j) := fun j hj => by
    rw [o10 _ _ (by decide), o9 _ _ (by decide), o8 _ _ (by decide), o7 _ _ (by decide), o6 _ _ (by decide), o5 _ _ (by decide), o4 _ _ (by decide)]
    exact (v3 j (by omega)).trans ((o2 _ _ (by decide)).trans (o1 _ _ (by decide)))
  have t143 : ∀ j : Nat, j < 8 → g10 143 j = gB 143 (8 + j) := fun j hj => by
    rw [o10 _ _ (by decide), o9 _ _ (by decide), o8 _ _ (by decide), o7 _ _ (by decide), o6 _ _ (by decide), o5 _ _ (by decide)]
    exact (v4 j (by omega)).trans ((o3 _ _ (by decide)).trans ((o2 _ _ (by decide)).trans (o1 _ _ (by decide))))
  have t144 : ∀ j : Nat, j < 6 → g10 144 j = gB 144 (6 + j) := fun j hj => by
    rw [o10 _ _ (by decide), o9 _ _ (by decide), o8 _ _ (by decide), o7 _ _ (by decide), o6 _ _ (by decide)]
    exact (v5 j (by omega)).trans ((o4 _ _ (by decide)).trans ((o3 _ _ (by decide)).trans ((o2 _ _ (by decide)).trans (o1 _ _ (by decide)))))
  have t145 : ∀ j : Nat, j < 6 → g10 145 j = gB 145 (6 + j) := fun j hj => by
    rw [o10 _ _ (by decide), o9 _ _ (by decide), o8 _ _ (by decide), o7 _ _ (by decide)]
    exact (v6 j (by omega)).trans ((o5 _ _ (by decide)).trans ((o4 _ _ (by decide)).trans ((o3 _ _ (by decide)).trans ((o2 _ _ (by decide)).trans (o1 _ _ (by decide))))))
  have t146 : ∀ j : Nat, j < 6 → g10 146 j = gB 146 (6 + j) := fun j hj => by
    rw [o10 _ _ (by decide), o9 _ _ (by decide), o8 _ _ (by decide)]
    exact (v7 j (by omega)).trans ((o6 _ _ (by decide)).trans ((o5 _ _ (by decide)).trans ((o4 _ _ (by decide)).trans ((o3 _ _ (by decide)).trans ((o2 _ _ (by decide)).trans (o1 _ _ (by decide)))))))
  have t147 : ∀ j : Nat, j < 6 → g10 147 j = gB 147 (6 + j) := fun j hj => by
    rw [o10 _ _ (by decide), o9 _ _ (by decide)]
    exact (v8 j (by omega)).trans ((o7 _ _ (by decide)).trans ((o6 _ _ (by decide)).trans ((o5 _ _ (by decide)).trans ((o4 _ _ (by decide)).trans ((o3 _ _ (by decide)).trans ((o2 _ _ (by decide)).trans (o1 _ _ (by decide))))))))
  have t148 : ∀ j : Nat, j < 8 → g10 148 j = gB 148 (8 + j) := fun j hj => by
    rw [o10 _ _ (by decide)]
    exact (v9 j (by omega)).trans ((o8 _ _ (by decide)).trans ((o7 _ _ (by decide)).trans ((o6 _ _ (by decide)).trans ((o5 _ _ (by decide)).trans ((o4 _ _ (by decide)).trans ((o3 _ _ (by decide)).trans ((o2 _ _ (by decide)).trans (o1 _ _ (by decide)))))))))
  have t149 : ∀ j : Nat, j < 700 → g10 149 j = gB 149 (700 + j) := fun j hj => (v10 j (by omega)).trans ((o9 _ _ (by decide)).trans ((o8 _ _ (by decide)).trans ((o7 _ _ (by decide)).trans ((o6 _ _ (by decide)).trans ((o5 _ _ (by decide)).trans ((o4 _ _ (by decide)).trans ((o3 _ _ (by decide)).trans ((o2 _ _ (by decide)).trans (o1 _ _ (by decide))))))))))
  obtain ⟨h1, e, w1, w2, w3, w4, w5⟩ := to77 (g0 := mz_up g10 137 30 0) (6 - 0 : Int).toNat 3000000000 0 (mz_up g10 137 30 0) rfl (by decide) (by decide) (by decide) (fun t z => by omega) (fun _ _ _ => rfl)
  rw [e]
  have k1 : ∀ a b : Nat, ¬ (152 ≤ a ∧ a ≤ 155) → a ≠ 137 → h1 a b = g10 a b := fun a b u v => (w2 a b u (by omega)).trans (up_k v)
  refine ⟨⟨fun j hj => (k1 _ _ (by decide) (by decide)).trans (t140 j hj), fun j hj => (k1 _ _ (by decide) (by decide)).trans (t141 j hj), fun j hj => ⟨(k1 _ _ (by decide) (by decide)).trans (t142 j hj), (k1 _ _ (by decide) (by decide)).trans (t143 j hj), (k1 _ _ (by decide) (by decide)).trans (t148 j hj)⟩, fun j hj => (k1 _ _ (by decide) (by decide)).trans (t144 j hj), fun j hj => (k1 _ _ (by decide) (by decide)).trans (t149 j hj)⟩, (w2 _ _ (by decide) (by decide)).trans (mz_up_at ..), fun t ht => ?_, w3, w4, w5⟩
  obtain ⟨y0, y1⟩ := w1 t ht
  refine ⟨y0, fun z => ?_⟩
  obtain ⟨y2, y3, y4⟩ := y1 (by rw [up_k (by decide), t140 1 (by decide)]; exact z)
  rw [up_k (by decide)] at y2 y3 y4
  exact ⟨y2.trans (t145 t ht), y3.trans (t146 t ht), y4.trans (t147 t ht)⟩
end YC
