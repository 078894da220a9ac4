/-! DAYS, of both -/
section DY
variable {ld : Nat} {gA gB : mz_G}
theorem get_k {T : Nat} {t : Int} {g : mz_G} (h0 : 0 ≤ t) (h1 : t < 6) : zF_X9_get T t g = T + 3 + t.toNat := X9_get h0 h1
theorem growBy_A {x : mm_X} (S : sta x.1 gA gB) (hld : x.1 = 1 ∨ x.1 = 41) {q : Nat} (hq : 121 < q) {l : Int} (d0 : 0 ≤ gA 87 3 + l) (d1 : gA 87 3 + l ≤ 2147483647) (v : vt gB (gA q 0) (gA q 1) (gA q 3)) (t : gA q 4 = 0 ∨ gA q 4 = 1) : zF_X11_growBy x q l gA q 3 = g1d gB (gA q 4) (gA q 0) (gA q 1) (gA q 2) (gA q 3) (gA 87 3 + l) (ht gB (gA 87 3 + l)) ∧ mz_fr (fw_gr x.1 q) gA (zF_X11_growBy x q l gA) := by
  unfold zF_X11_growBy
  simp only [zf_lq]
  rw [mz_wrap_id ⟨by omega, d1⟩, heat_A S.2.2.1 d0 d1]
  exact grow_A S hld (by omega) v t
theorem pd_A (hld : ld = 1 ∨ ld = 41) {T : Nat} (hT : T = 87 ∨ T = 124) (S : sta ld gA gB) {n d h : Int} (n0 : 0 ≤ n) (n6 : n ≤ 6) (hn : gA T 2 = n) (hd : gA T 3 = d) (d0 : 0 ≤ d) (d1 : d ≤ 2147483646) (V : ∀ t : Nat, (t : Int) < n → vt gB (gA (T + 3 + t) 0) (gA (T + 3 + t) 1) (gA (T + 3 + t) 3) ∧ (gA (T + 3 + t) 4 = 0 ∨ gA (T + 3 + t) 4 = 1)) : ∀ (m k : Nat) (l : Int) (g : mz_G), (n - l).toNat = m → m < k → 0 ≤ l → l ≤ n → (∀ t : Nat, (t : Int) < l → g (T + 3 + t) 3 = g1d gB (gA (T + 3 + t) 4) (gA (T + 3 + t) 0) (gA (T + 3 + t) 1) (gA (T + 3 + t) 2) (gA (T + 3 + t) 3) d h) → (∀ a b : Nat, ¬ (b = 3 ∧ ∃ t : Nat, (t : Int) < l ∧ a = T + 3 + t) → a ≠ ld + 38 → a ≠ ld + 39 → g a b = gA a b) → ∃ g1, zL_X1_passDay_11 ld T k h l g = g1 ∧ (∀ t : Nat, (t : Int) < n → g1 (T + 3 + t) 3 = g1d gB (gA (T + 3 + t) 4) (gA (T + 3 + t) 0) (gA (T + 3 + t) 1) (gA (T + 3 + t) 2) (gA (T + 3 + t) 3) d h) ∧ g1 T 3 = d + 1 ∧ (∀ a b : Nat, ¬ (b = 3 ∧ (a = T ∨ ∃ t : Nat, (t : Int) < n ∧ a = T + 3 + t)) → a ≠ ld + 38 → a ≠ ld + 39 → g1 a b = gA a b) := by
  intro m
  induction m with
  | zero =>
    intro k l g hm hk h0 h1 hv hf
    obtain ⟨k, rfl⟩ : ∃ k1, k = k1 + 1 := ⟨k - 1, by omega⟩
    have el : l = n := by omega
    subst el
    rw [zL_X1_passDay_11_s]
    unfold zB_X1_passDay_11
    simp only [zf_lq]
    have e2 : g T 2 = l := (hf T 2 (fun z => by omega) (by omega) (by omega)).trans hn
    have e3 : g T 3 = d := (hf T 3 (fun ⟨_, t, _, z⟩ => by omega) (by omega) (by omega)).trans hd
    rw [e2, if_neg (by omega), e3, mz_wrap_id ⟨by omega, by omega⟩]
    refine ⟨_, rfl, fun t ht => ?_, mz_up_at .., fun a b z u v => ?_⟩
    · rw [up_k (by omega)]; exact hv t ht
    · rw [mz_up_ne (fun y => z ⟨y.2, Or.inl y.1⟩)]
      exact hf a b (fun y => z ⟨y.1, Or.inr y.2⟩) u v
  | succ m ih =>
    intro k l g hm hk h0 h1 hv hf
    obtain ⟨k, rfl⟩ : ∃ k1, k = k1 + 1 := ⟨k - 1, by omega⟩
    have hl : l < n := by omega
    rw [zL_X1_passDay_11_s]
    unfold zB_X1_passDay_11
    simp only [zf_lq]
    have e2 : g T 2 = n := (hf T 2 (fun z => by omega) (by omega) (by omega)).trans hn
    have e3 : g T 3 = d := (hf T 3 (fun ⟨_, t, _, z⟩ => by omega) (by omega) (by omega)).trans hd
    rw [e2, if_pos hl, get_k h0 (by omega), e3]
    have Sg := sta_A S (g := g) (fun a b u v => hf a b (fun ⟨_, t, _, z⟩ => by omega) (by omega) (by omega))
    have eq : ∀ b : Nat, g (T + 3 + l.toNat) b = gA (T + 3 + l.toNat) b := fun b => hf _ b (fun ⟨_, t, z1, z2⟩ => by omega) (by omega) (by omega)
    have Vl := V l.toNat (by omega)
    obtain ⟨p1, p2⟩ := grow_A (gA := g) (h := h) (d := d) (q := T + 3 + l.toNat) Sg hld (by omega) (by rw [eq, eq, eq]; exact Vl.1) (by rw [eq]; exact Vl.2)
    rw [eq, eq, eq, eq, eq] at p1
    generalize zF_X1_grow ld (T + 3 + l.toNat) d h g = g6 at *
    refine ih k (l + 1) g6 (by omega) (by omega) (by omega) (by omega) (fun t ht => ?_) (fun a b z u v => ?_)
    · by_cases e : t = l.toNat
      · rw [e]; exact p1
      · rw [p2 _ _ (by unfold fw_gr; omega)]
        exact hv t (by omega)
    · have nf : ¬ fw_gr ld (T + 3 + l.toNat) a b := fun y => by
        rcases y with y | y | y
        · exact z ⟨y.2, l.toNat, by omega, y.1⟩
        · exact u y
        · exact v y
      rw [p2 a b nf]
      exact hf a b (fun ⟨y1, t, y2, y3⟩ => z ⟨y1, t, by omega, y3⟩) u v
theorem passDay_A (hld : ld = 1 ∨ ld = 41) {T : Nat} (hT : T = 87 ∨ T = 124) (S : sta ld gA gB) {n d : Int} (n0 : 0 ≤ n) (n6 : n ≤ 6) (hn : gA T 2 = n) (hd : gA T 3 = d) (d0 : 0 ≤ d) (d1 : d ≤ 2147483646) (V : ∀ t : Nat, (t : Int) < n → vt gB (gA (T + 3 + t) 0) (gA (T + 3 + t) 1) (gA (T + 3 + t) 3) ∧ (gA (T + 3 + t) 4 = 0 ∨ gA (T + 3 + t) 4 = 1)) : (∀ t : Nat, (t : Int) < n → zF_X1_passDay ld T gA (T + 3 + t) 3 = g1d gB (gA (T + 3 + t) 4) (gA (T + 3 + t) 0) (gA (T + 3 + t) 1) (gA (T + 3 + t) 2) (gA (T + 3 + t) 3) d (ht gB d)) ∧ zF_X1_passDay ld T gA T 3 = d + 1 ∧ (∀ a b : Nat, ¬ (b = 3 ∧ (a = T ∨ ∃ t : Nat, (t : Int) < n ∧ a = T + 3 + t)) → a ≠ ld + 38 → a ≠ ld + 39 → zF_X1_passDay ld T gA a b = gA a b) := by
  unfold zF_X1_passDay
  simp only [zf_lq]
  rw [hd, heat_A S.2.2.1 d0 (by omega)]
  obtain ⟨g1, e, r⟩ := pd_A hld hT S (h := ht gB d) n0 n6 hn hd d0 d1 V (n - 0).toNat 3000000000 0 gA rfl (by omega) (by decide) n0 (fun t z => by omega) (fun _ _ _ _ _ => rfl)
  rw [e]
  exact r
/-- the reference's day -/
def fw_dy : Nat → Nat → Prop := fun a b => a = 152 ∨ a = 160 ∨ a = 161 ∨ (a = 137 ∧ b = 30)
theorem dy_B (pv : mz_pv gB) (hb : gB 140 3 ≤ 700) {h : Int} : ∀ (m k : Nat) (l : Int) (g : mz_G), (gB 140 1 - l).toNat = m → m < k → 0 ≤ l → (∀ t : Nat, (t : Int) < l → g 152 t = g1d gB (gB 144 t) (gB 153 t) (gB 154 t) (gB 155 t) (gB 152 t) (gB 137 30) h) → (∀ t : Nat, ¬ (t : Int) < l → g 152 t = gB 152 t) → (∀ a b : Nat, a ≠ 152 → a ≠ 160 → a ≠ 161 → g a b = gB a b) → ∃ g1, zL_X12_aDayOf_2 h k l g = g1 ∧ (∀ t : Nat, ((t : Int) < gB 140 1 ∨ (t : Int) < l) → g1 152 t = g1d gB (gB 144 t) (gB 153 t) (gB 154 t) (gB 155 t) (gB 152 t) (gB 137 30) h) ∧ g1 137 30 = gB 137 30 + 1 ∧ mz_fr fw_dy gB g1 := by
  intro m
  induction m with
  | zero =>
    intro k l g hm hk h0 hv hw hf
    obtain ⟨k, rfl⟩ : ∃ k1, k = k1 + 1 := ⟨k - 1, by omega⟩
    rw [zL_X12_aDayOf_2_s]
    unfold zB_X12_aDayOf_2
    simp only [zf_lq]
    rw [hf 140 1 (by decide) (by decide) (by decide), if_neg (by omega), hf 137 30 (by decide) (by decide) (by decide)]
    refine ⟨_, rfl, fun t ht => ?_, mz_up_at .., fun a b z => ?_⟩
    · rw [up_k (by decide)]; exact hv t (by omega)
    · unfold fw_dy at z
      rw [mz_up_ne (by omega)]
      exact hf a b (by omega) (by omega) (by omega)
  | succ m ih =>
    intro k l g hm hk h0 hv hw hf
    obtain ⟨k, rfl⟩ : ∃ k1, k = k1 + 1 := ⟨k - 1, by omega⟩
    rw [zL_X12_aDayOf_2_s]
    unfold zB_X12_aDayOf_2
    simp only [zf_lq]
    have E : su_e gB g := fun a b u v => hf a b (by omega) (by omega) (by omega)
    rw [hf 140 1 (by decide) (by decide) (by decide), if_pos (by omega), full_B]
    obtain ⟨g5, e5, f5⟩ := grows_B (gB := g) (mz_pv_fr pv (fun j => E 149 j (by decide) (by decide)) (E 140 3 (by decide) (by decide))) (by rw [E 140 3 (by decide) (by decide)]; exact hb) (t := l) (h := h)
    rw [e5]
    unfold zf_m2
    dsimp only
    have one : min (fu g (g 153 l.toNat) (g 154 l.toNat)) (g 152 l.toNat + gv g (g 153 l.toNat) (g 154 l.toNat) (g 155 l.toNat) (g 152 l.toNat) (g 137 30) h * (1 + g 144 l.toNat)) = g1d gB (gB 144 l.toNat) (gB 153 l.toNat) (gB 154 l.toNat) (gB 155 l.toNat) (gB 152 l.toNat) (gB 137 30) h := by
      have := g1d_c E (tr := g 144 l.toNat) (sd := g 153 l.toNat) (mt := g 154 l.toNat) (sp := g 155 l.toNat) (gn := g 152 l.toNat) (d := g 137 30) (k := h)
      rw [hw _ (by omega), hf 144 _ (by decide) (by decide) (by decide), hf 153 _ (by decide) (by decide) (by decide), hf 154 _ (by decide) (by decide) (by decide), hf 155 _ (by decide) (by decide) (by decide), hf 137 _ (by decide) (by decide) (by decide)] at this
      rw [← this]
      unfold g1d
      rw [hw _ (by omega), hf 144 _ (by decide) (by decide) (by decide), hf 153 _ (by decide) (by decide) (by decide), hf 154 _ (by decide) (by decide) (by decide), hf 155 _ (by decide) (by decide) (by decide), hf 137 _ (by decide) (by decide) (by decide)]
    rw [one]
    obtain ⟨g1, e, r1, r2, r3⟩ := ih k (l + 1) (mz_up g5 152 l.toNat (g1d gB (gB 144 l.toNat) (gB 153 l.toNat) (gB 154 l.toNat) (gB 155 l.toNat) (gB 152 l.toNat) (gB 137 30) h)) (by omega) (by omega) (by omega) (fun t ht => by
      by_cases c : t = l.toNat
      · rw [c, mz_up_at]
      · rw [up_j c, f5 _ _ (by decide) (by decide)]; exact hv t (by omega)) (fun t ht => by rw [up_j (by omega), f5 _ _ (by decide) (by decide)]; exact hw t (by omega)) (fun a b u v w => by rw [up_k u, f5 _ _ v w]; exact hf a b u v w)
    exact ⟨g1, e, fun t ht => r1 t (by omega), r2, r3⟩
theorem day_B (pv : mz_pv gB) (hb : gB 140 3 ≤ 700) {h : Int} (c6 : gB 140 1 ≤ 6) : (∀ t : Nat, (t : Int) < gB 140 1 → zF_X12_aDayOf h gB 152 t = g1d gB (gB 144 t) (gB 153 t) (gB 154 t) (gB 155 t) (gB 152 t) (gB 137 30) h) ∧ zF_X12_aDayOf h gB 137 30 = gB 137 30 + 1 ∧ mz_fr fw_dy gB (zF_X12_aDayOf h gB) := by
  unfold zF_X12_aDayOf
  obtain ⟨g1, e, r1, r2, r3⟩ := dy_B pv hb (h := h) (gB 140 1 - 0).toNat 3000000000 0 gB rfl (by omega) (by decide) (fun t z => by omega) (fun _ _ => rfl) (fun _ _ _ _ _ => rfl)
  rw [e]
  exact ⟨fun t ht => r1 t (Or.inl ht), r2, r3⟩
theorem go_B (pv : mz_pv gB) (hb : gB 140 3 ≤ 700) (c6 : gB 140 1 ≤ 6) {n : Int} : ∀ (m k i : Nat) (l : Int) (g : mz_G), (n - l).toNat = m → m < k → (i : Int) = l → (∀ t : Nat, (t : Int) < gB 140 1 → g 152 t = gnd gB (gB 144 t) (gB 153 t) (gB 154 t) (gB 155 t) i (gB 152 t) (gB 137 30)) → g 137 30 = gB 137 30 + l → mz_fr fw_dy gB g → ∃ g1, zL_X12_goOn_2 n k l g = g1 ∧ (∀ t : Nat, (t : Int) < gB 140 1 → g1 152 t = gnd gB (gB 144 t) (gB 153 t) (gB 154 t) (gB 155 t) (i + m) (gB 152 t) (gB 137 30)) ∧ g1 137 30 = gB 137 30 + ((i + m : Nat) : Int) ∧ mz_fr fw_dy gB g1 := by
  intro m
  induction m with
  | zero =>
    intro k i l g hm hk hi hv hd hf
    obtain ⟨k, rfl⟩ : ∃ k1, k = k1 + 1 := ⟨k - 1, by omega⟩
    rw [zL_X12_goOn_2_s]
    unfold zB_X12_goOn_2
    rw [if_neg (by omega)]
    exact ⟨g, rfl, hv, by rw [hd, ← hi]; rfl, hf⟩
  | succ m ih =>
    intro k i l g hm hk hi hv hd hf
    obtain ⟨k, rfl⟩ : ∃ k1, k = k1 + 1 := ⟨k - 1, by omega⟩
    rw [zL_X12_goOn_2_s]
    unfold zB_X12_goOn_2
    simp only [zf_lq]
    have E : su_e gB g := fun a b u v => hf a b (by unfold fw_dy; omega)
    rw [if_pos (by omega), heat_B]
    obtain ⟨q1, q2, q3⟩ := day_B (gB := g) (mz_pv_fr pv (fun j => E 149 j (by decide) (by decide)) (E 140 3 (by decide) (by decide))) (by rw [E 140 3 (by decide) (by decide)]; exact hb) (h := ht g (g 137 30)) (by rw [E 140 1 (by decide) (by decide)]; exact c6)
    generalize zF_X12_aDayOf (ht g (g 137 30)) g = g3 at *
    obtain ⟨g1, e, r1, r2, r3⟩ := ih k (i + 1) (l + 1) g3 (by omega) (by omega) (by omega) (fun t ht => by
      rw [q1 t (by rw [E 140 1 (by decide) (by decide)]; exact ht), g1d_c E, ht_c E, hd, hv t ht, hf 144 t (by unfold fw_dy; omega), hf 153 t (by unfold fw_dy; omega), hf 154 t (by unfold fw_dy; omega), hf 155 t (by unfold fw_dy; omega), gnd_e, hi]) (by rw [q2, hd]; omega) (fun a b z => (q3 a b z).trans (hf a b z))
    rw [show i + (m + 1) = i + 1 + m by omega]
    exact ⟨g1, e, r1, r2, r3⟩
/-- the reference goes on so many days -/
theorem goOn_B (pv : mz_pv gB) (hb : gB 140 3 ≤ 700) (c6 : gB 140 1 ≤ 6) {n : Int} (n0 : 0 ≤ n) (n1 : n ≤ 2147483647) : (∀ t : Nat, (t : Int) < gB 140 1 → zF_X12_goOn n gB 152 t = gnd gB (gB 144 t) (gB 153 t) (gB 154 t) (gB 155 t) n.toNat (gB 152 t) (gB 137 30)) ∧ zF_X12_goOn n gB 137 30 = gB 137 30 + n ∧ mz_fr fw_dy gB (zF_X12_goOn n gB) := by
  unfold zF_X12_goOn
  obtain ⟨g1, e, r1, r2, r3⟩ := go_B pv hb c6 (n := n) (n - 0).toNat 3000000000 0 0 gB rfl (by omega) rfl (fun _ _ => rfl) (by omega) (fun _ _ _ => rfl)
  rw [e]
  rw [show 0 + (n - 0).toNat = n.toNat by omega] at r1 r2
  exact ⟨r1, by rw [r2]; omega, r3⟩
end DY
