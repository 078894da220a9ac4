/-! THE RULE: what it is worth, of both -/
def uf (S : Nat → Int) (i : Nat) (v : Int) : Nat → Int := fun j => if j = i then v else S j
theorem uf_at (S : Nat → Int) (i : Nat) (v : Int) : uf S i v i = v := if_pos rfl
theorem uf_ne {S : Nat → Int} {i j : Nat} {v : Int} (h : j ≠ i) : uf S i v j = S j := if_neg h
def rc2 (s a b : Int) : Int := zF_X12_reckon s a b (fun _ _ => 0)
theorem rc2_B {s a b : Int} {g : mz_G} : zF_X12_reckon s a b g = rc2 s a b := rfl
/-- one step over the parts that wait -/
def es (s : Int) (A : Nat → Int) (p : Int × (Nat → Int)) : Int × (Nat → Int) :=
  if -20 < s then (p.1 + 1, uf p.2 p.1.toNat (if s < 0 then A (-1 - s).toNat else s))
  else if s = -28 then (p.1, uf p.2 (p.1 - 1).toNat (if p.2 (p.1 - 1).toNat = 0 then 1 else 0))
  else (p.1 - 1, uf p.2 (p.1 - 2).toNat (rc2 s (p.2 (p.1 - 2).toNat) (p.2 (p.1 - 1).toNat)))
def yv (s : Nat → Int) (A : Nat → Int) : Nat → Int × (Nat → Int)
  | 0 => (0, fun _ => 0)
  | k + 1 => es (s k) A (yv s A k)
theorem yv_s {s A : Nat → Int} {k : Nat} : yv s A (k + 1) = es (s k) A (yv s A k) := rfl
/-- what a rule is worth by its values -/
def vl (g : mz_G) (A : Nat → Int) : Int := (yv (g 149) A (g 140 3).toNat).2 0
theorem dst_0 {s : Nat → Int} : ∀ {k n : Nat}, mz_dst s (k + 1) = some n → 1 ≤ n := by
  intro k n h
  simp only [mz_dst] at h
  cases e : mz_dst s k with
  | none => rw [e] at h; cases h
  | some m =>
    rw [e] at h
    simp only [mz_ds] at h
    split at h
    · split at h
      · cases h; omega
      · cases h
    · split at h
      · split at h
        · cases h; assumption
        · cases h
      · split at h
        · cases h; omega
        · cases h
theorem dst_s {s : Nat → Int} {k m n : Nat} (e : mz_dst s k = some m) (h : mz_dst s (k + 1) = some n) : (-20 < s k → -7 ≤ s k ∧ n = m + 1) ∧ (s k = -28 → 1 ≤ m ∧ n = m) ∧ (s k ≤ -20 → s k ≠ -28 → 2 ≤ m ∧ n = m - 1) := by
  simp only [mz_dst, e, mz_ds] at h
  refine ⟨fun z => ?_, fun z => ?_, fun z y => ?_⟩
  · rw [if_pos z] at h
    split at h
    · cases h; exact ⟨by assumption, rfl⟩
    · cases h
  · rw [if_neg (by omega), if_pos z] at h
    split at h
    · cases h; exact ⟨by assumption, rfl⟩
    · cases h
  · rw [if_neg (by omega), if_neg y] at h
    split at h
    · cases h; exact ⟨by omega, rfl⟩
    · cases h
theorem yv_n {s A : Nat → Int} : ∀ {k n : Nat}, mz_dst s k = some n → (yv s A k).1 = (n : Int) := by
  intro k
  induction k with
  | zero => intro n h; cases h; rfl
  | succ k ih =>
    intro n h
    cases e : mz_dst s k with
    | none => simp only [mz_dst, e] at h; cases h
    | some m =>
      obtain ⟨d1, d2, d3⟩ := dst_s e h
      have i := ih e
      rw [yv_s]
      unfold es
      by_cases z : -20 < s k
      · rw [if_pos z, (d1 z).2]; dsimp only; rw [i]; omega
      · rw [if_neg z]
        by_cases y : s k = -28
        · rw [if_pos y, (d2 y).2]; exact i
        · rw [if_neg y]
          have := d3 (by omega) y
          dsimp only
          rw [i]; omega
/-- at the next step: what is known of the parts that wait -/
theorem yv_k {g : mz_G} (pv : mz_pv g) {A : Nat → Int} {l : Int} (h0 : 0 ≤ l) (h1 : l < g 140 3) : (-20 < g 149 l.toNat → -7 ≤ g 149 l.toNat ∧ (yv (g 149) A l.toNat).1 + 1 ≤ 40) ∧ (g 149 l.toNat = -28 → 1 ≤ (yv (g 149) A l.toNat).1) ∧ (g 149 l.toNat ≤ -20 → g 149 l.toNat ≠ -28 → 2 ≤ (yv (g 149) A l.toNat).1) ∧ 0 ≤ (yv (g 149) A l.toNat).1 ∧ (yv (g 149) A l.toNat).1 ≤ 40 := by
  obtain ⟨m, m1, em⟩ := pv l.toNat (by omega)
  obtain ⟨n, n1, en⟩ := pv (l.toNat + 1) (by omega)
  obtain ⟨d1, d2, d3⟩ := dst_s em en
  have i := yv_n (A := A) em
  rw [i]
  exact ⟨fun z => ⟨(d1 z).1, by have := d1 z; omega⟩, fun z => by have := d2 z; omega, fun z y => by have := d3 z y; omega, by omega, by omega⟩
theorem yv_1 {g : mz_G} (pv : mz_pv g) {A : Nat → Int} (h1 : 0 < g 140 3) : 1 ≤ (yv (g 149) A (g 140 3).toNat).1 := by
  obtain ⟨n, n1, en⟩ := pv ((g 140 3).toNat - 1 + 1) (by omega)
  have := dst_0 en
  have i := yv_n (A := A) en
  rw [show (g 140 3).toNat = (g 140 3).toNat - 1 + 1 by omega, i]
  omega
theorem val_B {g0 : mz_G} (pv : mz_pv g0) {A : Nat → Int} (hp : 0 < g0 140 3) : ∀ (m k : Nat) (l : Int) (g : mz_G), (g0 140 3 - l).toNat = m → m < k → 0 ≤ l → l ≤ g0 140 3 → (∀ a b : Nat, a ≠ 161 → g a b = g0 a b) → (∀ j : Nat, j < 7 → g0 160 j = A j) → (∀ j : Nat, (j : Int) < (yv (g0 149) A l.toNat).1 → g 161 j = (yv (g0 149) A l.toNat).2 j) → ∃ g1, zL_X12_valueNow_4 k (yv (g0 149) A l.toNat).1 l g = (vl g0 A, g1) ∧ ∀ a b : Nat, a ≠ 161 → g1 a b = g0 a b := by
  intro m
  induction m with
  | zero =>
    intro k l g hm hk h0 h1 hf hA hS
    obtain ⟨k, rfl⟩ : ∃ k1, k = k1 + 1 := ⟨k - 1, by omega⟩
    have el : l = g0 140 3 := by omega
    rw [zL_X12_valueNow_4_s]
    unfold zB_X12_valueNow_4
    simp only [zf_lq]
    rw [hf 140 3 (by decide), if_neg (by omega)]
    refine ⟨g, ?_, hf⟩
    have e1 := yv_1 pv (A := A) hp
    rw [← el] at e1
    have := hS 0 (by omega)
    unfold vl
    rw [this, el]
  | succ m ih =>
    intro k l g hm hk h0 h1 hf hA hS
    obtain ⟨k, rfl⟩ : ∃ k1, k = k1 + 1 := ⟨k - 1, by omega⟩
    have hl : l < g0 140 3 := by omega
    obtain ⟨q1, q2, q3, q4, q5⟩ := yv_k pv (A := A) h0 hl
    have en : yv (g0 149) A (l + 1).toNat = es (g0 149 l.toNat) A (yv (g0 149) A l.toNat) := by rw [show (l + 1).toNat = l.toNat + 1 by omega, yv_s]
    have nx := fun g2 => ih k (l + 1) g2 (by omega) (by omega) (by omega) (by omega)
    rw [en] at nx
    generalize yv (g0 149) A l.toNat = p at *
    obtain ⟨n, S⟩ := p
    dsimp only at *
    rw [zL_X12_valueNow_4_s]
    unfold zB_X12_valueNow_4 zJ_X12_valueNow_48 zJ_X12_valueNow_84 zJ_X12_valueNow_117
    simp only [zf_lq]
    rw [hf 140 3 (by decide), if_pos hl, hf 149 _ (by decide)]
    generalize g0 149 l.toNat = s at *
    have up : ∀ (i : Nat) (v : Int) (a b : Nat), a ≠ 161 → mz_up g 161 i v a b = g0 a b := fun i v a b h => (up_k h).trans (hf a b h)
    have us : ∀ (i : Nat) (v : Int) (j : Nat), (j = i ∨ (j : Int) < n) → mz_up g 161 i v 161 j = uf S i v j := fun i v j hj => by
      by_cases e : j = i
      · rw [e, mz_up_at, uf_at]
      · rw [up_j e, uf_ne e]; exact hS j (by omega)
    unfold es at nx
    by_cases z : -20 < s
    · have := q1 z
      rw [if_pos z]
      rw [if_pos z] at nx
      dsimp only at nx
      by_cases y : s < 0
      · rw [if_pos y, hf 160 _ (by decide), hA _ (by omega)]
        rw [if_pos y] at nx
        exact nx _ (up _ _) hA (fun j hj => us _ _ j (by omega))
      · rw [if_neg y]
        rw [if_neg y] at nx
        exact nx _ (up _ _) hA (fun j hj => us _ _ j (by omega))
    · rw [if_neg z]
      rw [if_neg z] at nx
      by_cases y : s = -28
      · have := q2 y
        rw [if_pos y, hS _ (by omega)]
        rw [if_pos y] at nx
        dsimp only at nx
        by_cases w : S (n - 1).toNat = 0
        · rw [if_pos w]
          rw [if_pos w] at nx
          exact nx _ (up _ _) hA (fun j hj => us _ _ j (by omega))
        · rw [if_neg w]
          rw [if_neg w] at nx
          exact nx _ (up _ _) hA (fun j hj => us _ _ j (by omega))
      · have := q3 (by omega) y
        rw [if_neg y]
        rw [if_neg y] at nx
        dsimp only at nx
        rw [show (n + -1 - 1 : Int) = n - 2 by omega, show (n + -1 : Int) = n - 1 by omega, hS (n - 2).toNat (by omega), hS (n - 1).toNat (by omega), rc2_B]
        exact nx _ (up _ _) hA (fun j hj => us _ _ j (by omega))
theorem joined_k {s a b : Int} {g : mz_G} (h : s ≤ -20) (h1 : s ≠ -28) (h2 : -28 ≤ s) : zF_X5_joined (cm s) a b g = rc2 s a b := by
  unfold rc2 zF_X12_reckon zF_X5_joined cm
  simp only [zf_lq, zJ_X5_joined_110, zJ_X5_joined_74, zJ_X5_joined_56, zJ_X12_reckon_102, zJ_X12_reckon_112]
  by_cases c1 : s = -20
  · subst c1; rfl
  replace h : s ≤ -21 := by omega
  clear c1
  by_cases c2 : s = -21
  · subst c2; rfl
  replace h : s ≤ -22 := by omega
  clear c2
  by_cases c3 : s = -22
  · subst c3; rfl
  replace h : s ≤ -23 := by omega
  clear c3
  by_cases c4 : s = -23
  · subst c4; rfl
  replace h : s ≤ -24 := by omega
  clear c4
  by_cases c5 : s = -24
  · subst c5; rfl
  replace h : s ≤ -25 := by omega
  clear c5
  by_cases c6 : s = -25
  · subst c6; rfl
  replace h : s ≤ -26 := by omega
  clear c6
  by_cases c7 : s = -26
  · subst c7; rfl
  replace h : s ≤ -27 := by omega
  clear c7
  by_cases c8 : s = -27
  · subst c8; rfl
  replace h : s ≤ -28 := by omega
  clear c8
  exfalso
  omega
theorem cm_push {s : Int} (h : -20 < s) (h1 : -7 ≤ s) : cm s = s ∧ ¬ cm s < -7 := by rw [cm_id h]; exact ⟨rfl, by omega⟩
theorem cm_sign {s : Int} (h : s ≤ -20) (h2 : -28 ≤ s) : cm s < -7 ∧ (cm s = -13 ↔ s = -28) := by
  unfold cm
  omega
theorem val_A {ld : Nat} {gA gB : mz_G} (R : sa_r ld gA gB) {A : Nat → Int} (hp : 0 < gB 140 3) : ∀ (m k : Nat) (l : Int) (g : mz_G), (gB 140 3 - l).toNat = m → m < k → 0 ≤ l → l ≤ gB 140 3 → (∀ a b : Nat, a ≠ ld + 39 → g a b = gA a b) → (∀ j : Nat, j < 7 → gA (ld + 38) j = A j) → (∀ j : Nat, (j : Int) < (yv (gB 149) A l.toNat).1 → g (ld + 39) j = (yv (gB 149) A l.toNat).2 j) → ∃ g1, zL_X5_worth_4 (ld + 36) k ((yv (gB 149) A l.toNat).1 - 1) l g = (vl gB A, g1) ∧ ∀ a b : Nat, a ≠ ld + 39 → g1 a b = gA a b := by
  obtain ⟨r1, r2, r3, r4, pv⟩ := R
  intro m
  induction m with
  | zero =>
    intro k l g hm hk h0 h1 hf hA hS
    obtain ⟨k, rfl⟩ : ∃ k1, k = k1 + 1 := ⟨k - 1, by omega⟩
    have el : l = gB 140 3 := by omega
    rw [zL_X5_worth_4_s]
    unfold zB_X5_worth_4
    simp only [zf_lq]
    rw [hf (ld + 36) 1 (by omega), r1, if_neg (by omega), X11_at (n := 40) (by decide) (by decide)]
    refine ⟨g, ?_, hf⟩
    have e1 := yv_1 pv (A := A) hp
    rw [← el] at e1
    have := hS 0 (by omega)
    unfold vl
    rw [show ((0 : Int).toNat) = 0 from rfl, show ld + 36 + 3 = ld + 39 from rfl, this, el]
  | succ m ih =>
    intro k l g hm hk h0 h1 hf hA hS
    obtain ⟨k, rfl⟩ : ∃ k1, k = k1 + 1 := ⟨k - 1, by omega⟩
    have hl : l < gB 140 3 := by omega
    obtain ⟨q1, q2, q3, q4, q5⟩ := yv_k pv (A := A) h0 hl
    obtain ⟨st, sb⟩ := r4 l.toNat (by omega)
    have en : yv (gB 149) A (l + 1).toNat = es (gB 149 l.toNat) A (yv (gB 149) A l.toNat) := by rw [show (l + 1).toNat = l.toNat + 1 by omega, yv_s]
    have nx := fun g2 => ih k (l + 1) g2 (by omega) (by omega) (by omega) (by omega)
    rw [en] at nx
    generalize yv (gB 149) A l.toNat = p at *
    obtain ⟨n, S⟩ := p
    dsimp only at *
    rw [zL_X5_worth_4_s]
    unfold zB_X5_worth_4 zJ_X5_worth_86 zJ_X5_worth_53 zJ_X5_worth_125
    simp only [zf_lq, show ld + 36 + 1 = ld + 37 from rfl, show ld + 36 + 2 = ld + 38 from rfl, show ld + 36 + 3 = ld + 39 from rfl]
    rw [hf (ld + 36) 1 (by omega), r1, if_pos hl, X11_at (n := 700) h0 (by omega), hf (ld + 37) _ (by omega), st]
    generalize gB 149 l.toNat = s at *
    have up : ∀ (i : Nat) (v : Int) (a b : Nat), a ≠ ld + 39 → mz_up g (ld + 39) i v a b = gA a b := fun i v a b h => (up_k h).trans (hf a b h)
    have us : ∀ (i : Nat) (v : Int) (j : Nat), (j = i ∨ (j : Int) < n) → mz_up g (ld + 39) i v (ld + 39) j = uf S i v j := fun i v j hj => by
      by_cases e : j = i
      · rw [e, mz_up_at, uf_at]
      · rw [up_j e, uf_ne e]; exact hS j (by omega)
    unfold es at nx
    by_cases z : -20 < s
    · have b := q1 z
      obtain ⟨c1, c2⟩ := cm_push z b.1
      rw [if_neg c2, c1, mz_wrap_id ⟨by omega, by omega⟩, show n - 1 + 1 = n by omega]
      rw [if_pos z] at nx
      dsimp only at nx
      rw [show n + 1 - 1 = n by omega] at nx
      by_cases y : s < 0
      · rw [if_pos y, X11_at (n := 7) (by omega) (by omega), hf (ld + 38) _ (by omega), hA _ (by omega), X11_put (n := 40) (by omega) (by omega)]
        rw [if_pos y] at nx
        exact nx _ (up _ _) hA (fun j hj => us _ _ j (by omega))
      · rw [if_neg y, X11_put (n := 40) (by omega) (by omega)]
        rw [if_neg y] at nx
        exact nx _ (up _ _) hA (fun j hj => us _ _ j (by omega))
    · obtain ⟨c1, c2⟩ := cm_sign (by omega) sb
      rw [if_pos c1]
      rw [if_neg z] at nx
      by_cases y : s = -28
      · have := q2 y
        rw [if_pos (c2.mpr y), X11_at (n := 40) (by omega) (by omega), hS _ (by omega)]
        rw [if_pos y] at nx
        dsimp only at nx
        by_cases w : S (n - 1).toNat = 0
        · rw [if_pos w, X11_put (n := 40) (by omega) (by omega)]
          rw [if_pos w] at nx
          exact nx _ (up _ _) hA (fun j hj => us _ _ j (by omega))
        · rw [if_neg w, X11_put (n := 40) (by omega) (by omega)]
          rw [if_neg w] at nx
          exact nx _ (up _ _) hA (fun j hj => us _ _ j (by omega))
      · have := q3 (by omega) y
        rw [if_neg (fun k => y (c2.mp k)), mz_wrap_id (a := n - 1 + -1) ⟨by omega, by omega⟩, mz_wrap_id (a := n - 1 + -1 + 1) ⟨by omega, by omega⟩, X11_at (n := 40) (by omega) (by omega), X11_at (n := 40) (by omega) (by omega), X11_put (n := 40) (by omega) (by omega), joined_k (by omega) y sb]
        rw [if_neg y] at nx
        dsimp only at nx
        rw [show (n - 1 + -1 + 1 : Int) = n - 1 by omega, show (n - 1 + -1 : Int) = n - 2 by omega, hS (n - 2).toNat (by omega), hS (n - 1).toNat (by omega)]
        rw [show (n - 1 - 1 : Int) = n - 2 by omega] at nx
        exact nx _ (up _ _) hA (fun j hj => us _ _ j (by omega))
theorem worth_A {ld : Nat} {gA gB : mz_G} (R : sa_r ld gA gB) {A : Nat → Int} (hp : 0 < gB 140 3) (hA : ∀ j : Nat, j < 7 → gA (ld + 38) j = A j) : ∃ g1, zF_X5_worth (ld + 36) gA = (vl gB A, g1) ∧ ∀ a b : Nat, a ≠ ld + 39 → g1 a b = gA a b := by
  have := R.2.2.1
  obtain ⟨g1, e, f⟩ := val_A R (A := A) hp (gB 140 3 - 0).toNat 3000000000 0 gA rfl (by omega) (by decide) (by omega) (fun _ _ _ => rfl) hA (fun j hj => by rw [show (yv (gB 149) A (0 : Int).toNat).1 = 0 from rfl] at hj; omega)
  exact ⟨g1, e, f⟩
theorem value_B {g : mz_G} (pv : mz_pv g) (b : g 140 3 ≤ 700) {A : Nat → Int} (hp : 0 < g 140 3) (hA : ∀ j : Nat, j < 7 → g 160 j = A j) : ∃ g1, zF_X12_valueNow g = (vl g A, g1) ∧ ∀ a b : Nat, a ≠ 161 → g1 a b = g a b := by
  obtain ⟨g1, e, f⟩ := val_B pv (A := A) hp (g 140 3 - 0).toNat 3000000000 0 g rfl (by omega) (by decide) (by omega) (fun _ _ _ => rfl) hA (fun j hj => by rw [show (yv (g 149) A (0 : Int).toNat).1 = 0 from rfl] at hj; omega)
  exact ⟨g1, e, f⟩
theorem vl_c {g g1 : mz_G} (h : su_e g g1) {A : Nat → Int} : vl g1 A = vl g A := by
  unfold vl
  rw [su_f h (a := 149) (by decide) (by decide), su_f h (a := 140) (by decide) (by decide)]
