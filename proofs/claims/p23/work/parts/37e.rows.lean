/-! ROWS of numbers: kept, taken back, copied, of both -/
section RO
variable {g g0 : mz_G}
theorem sto_l {q nq : Nat} {p : Int} (hq : q < 152 ∨ 155 < q) (h0 : 0 ≤ p) : ∀ (m k : Nat) (l : Int) (g : mz_G), (6 - l).toNat = m → m < k → 0 ≤ l → l ≤ 6 → (∀ t : Nat, (t : Int) < l → g q (p.toNat + 1 + t) = g0 152 t ∧ g q (p.toNat + 7 + t) = g0 153 t ∧ g q (p.toNat + 13 + t) = g0 154 t ∧ g q (p.toNat + 19 + t) = g0 155 t) → (∀ a b : Nat, ¬ (a = q ∧ p.toNat + 1 ≤ b ∧ b < p.toNat + 25) → g a b = g0 a b) → ∃ g1, zL_X12_store_9 q nq p k l g = g1 ∧ (∀ t : Nat, t < 6 → g1 q (p.toNat + 1 + t) = g0 152 t ∧ g1 q (p.toNat + 7 + t) = g0 153 t ∧ g1 q (p.toNat + 13 + t) = g0 154 t ∧ g1 q (p.toNat + 19 + t) = g0 155 t) ∧ (∀ a b : Nat, ¬ (a = q ∧ p.toNat + 1 ≤ b ∧ b < p.toNat + 25) → g1 a b = g0 a b) := by
  intro m
  induction m with
  | zero =>
    intro k l g hm hk l0 l6 hv hf
    obtain ⟨k, rfl⟩ : ∃ k1, k = k1 + 1 := ⟨k - 1, by omega⟩
    rw [zL_X12_store_9_s]
    unfold zB_X12_store_9
    rw [if_neg (by omega)]
    exact ⟨g, rfl, fun t ht => hv t (by omega), hf⟩
  | succ m ih =>
    intro k l g hm hk l0 l6 hv hf
    obtain ⟨k, rfl⟩ : ∃ k1, k = k1 + 1 := ⟨k - 1, by omega⟩
    rw [zL_X12_store_9_s]
    unfold zB_X12_store_9
    simp only [zf_lq]
    have k153 : ∀ (g : mz_G) (j b : Nat) (v : Int), mz_up g q j v 153 b = g 153 b := fun _ _ _ _ => up_k (by omega)
    have k154 : ∀ (g : mz_G) (j b : Nat) (v : Int), mz_up g q j v 154 b = g 154 b := fun _ _ _ _ => up_k (by omega)
    have k155 : ∀ (g : mz_G) (j b : Nat) (v : Int), mz_up g q j v 155 b = g 155 b := fun _ _ _ _ => up_k (by omega)
    simp only [k153, k154, k155]
    rw [if_pos (by omega), show (p + 1 + l).toNat = p.toNat + 1 + l.toNat by omega, show (p + 1 + 6 + l).toNat = p.toNat + 7 + l.toNat by omega, show (p + 1 + 12 + l).toNat = p.toNat + 13 + l.toNat by omega, show (p + 1 + 18 + l).toNat = p.toNat + 19 + l.toNat by omega]
    refine ih k (l + 1) _ (by omega) (by omega) (by omega) (by omega) (fun t ht => ?_) (fun a b z => ?_)
    · by_cases c : t = l.toNat
      · subst c
        refine ⟨?_, ?_, ?_, ?_⟩
        · rw [up_j (by omega), up_j (by omega), up_j (by omega), mz_up_at]; exact hf _ _ (by omega)
        · rw [up_j (by omega), up_j (by omega), mz_up_at]; exact hf _ _ (by omega)
        · rw [up_j (by omega), mz_up_at]; exact hf _ _ (by omega)
        · rw [mz_up_at]; exact hf _ _ (by omega)
      · obtain ⟨v0, v1, v2, v3⟩ := hv t (by omega)
        refine ⟨?_, ?_, ?_, ?_⟩
        · rw [up_j (by omega), up_j (by omega), up_j (by omega), up_j (by omega)]; exact v0
        · rw [up_j (by omega), up_j (by omega), up_j (by omega), up_j (by omega)]; exact v1
        · rw [up_j (by omega), up_j (by omega), up_j (by omega), up_j (by omega)]; exact v2
        · rw [up_j (by omega), up_j (by omega), up_j (by omega), up_j (by omega)]; exact v3
    · rw [mz_up_ne (by omega), mz_up_ne (by omega), mz_up_ne (by omega), mz_up_ne (by omega)]; exact hf a b z
theorem store_B {q nq : Nat} {p : Int} (hq : q < 137 ∨ (137 < q ∧ q < 152) ∨ 155 < q) (h0 : 0 ≤ p) : zF_X12_store q nq p g q p.toNat = g 137 30 ∧ (∀ t : Nat, t < 6 → zF_X12_store q nq p g q (p.toNat + 1 + t) = g 152 t ∧ zF_X12_store q nq p g q (p.toNat + 7 + t) = g 153 t ∧ zF_X12_store q nq p g q (p.toNat + 13 + t) = g 154 t ∧ zF_X12_store q nq p g q (p.toNat + 19 + t) = g 155 t) ∧ (∀ a b : Nat, ¬ (a = q ∧ p.toNat ≤ b ∧ b < p.toNat + 25) → zF_X12_store q nq p g a b = g a b) := by
  unfold zF_X12_store
  simp only [zf_lq]
  obtain ⟨g1, e, v, f⟩ := sto_l (q := q) (nq := nq) (p := p) (g0 := mz_up g q p.toNat (g 137 30)) (by omega) h0 (6 - 0 : Int).toNat 3000000000 0 (mz_up g q p.toNat (g 137 30)) rfl (by decide) (by decide) (by decide) (fun t z => by omega) (fun _ _ _ => rfl)
  rw [e]
  refine ⟨?_, fun t ht => ?_, fun a b z => ?_⟩
  · rw [f _ _ (by omega), mz_up_at]
  · obtain ⟨v0, v1, v2, v3⟩ := v t ht
    rw [v0, v1, v2, v3, up_k (by omega), up_k (by omega), up_k (by omega), up_k (by omega)]
    exact ⟨rfl, rfl, rfl, rfl⟩
  · rw [f a b (by omega), mz_up_ne (by omega)]
theorem rec_l {q nq : Nat} {p : Int} (hq : q < 152 ∨ 155 < q) (h0 : 0 ≤ p) : ∀ (m k : Nat) (l : Int) (g : mz_G), (6 - l).toNat = m → m < k → 0 ≤ l → l ≤ 6 → (∀ t : Nat, (t : Int) < l → g 152 t = g0 q (p.toNat + 1 + t) ∧ g 153 t = g0 q (p.toNat + 7 + t) ∧ g 154 t = g0 q (p.toNat + 13 + t) ∧ g 155 t = g0 q (p.toNat + 19 + t)) → (∀ a b : Nat, ¬ ((152 ≤ a ∧ a ≤ 155) ∧ b < 6) → g a b = g0 a b) → ∃ g1, zL_X12_recall_9 q nq p k l g = g1 ∧ (∀ t : Nat, t < 6 → g1 152 t = g0 q (p.toNat + 1 + t) ∧ g1 153 t = g0 q (p.toNat + 7 + t) ∧ g1 154 t = g0 q (p.toNat + 13 + t) ∧ g1 155 t = g0 q (p.toNat + 19 + t)) ∧ (∀ a b : Nat, ¬ ((152 ≤ a ∧ a ≤ 155) ∧ b < 6) → g1 a b = g0 a b) := by
  intro m
  induction m with
  | zero =>
    intro k l g hm hk l0 l6 hv hf
    obtain ⟨k, rfl⟩ : ∃ k1, k = k1 + 1 := ⟨k - 1, by omega⟩
    rw [zL_X12_recall_9_s]
    unfold zB_X12_recall_9
    rw [if_neg (by omega)]
    exact ⟨g, rfl, fun t ht => hv t (by omega), hf⟩
  | succ m ih =>
    intro k l g hm hk l0 l6 hv hf
    obtain ⟨k, rfl⟩ : ∃ k1, k = k1 + 1 := ⟨k - 1, by omega⟩
    rw [zL_X12_recall_9_s]
    unfold zB_X12_recall_9
    simp only [zf_lq]
    have k2 : ∀ (g : mz_G) (j b : Nat) (v : Int), mz_up g 152 j v q b = g q b := fun _ _ _ _ => up_k (by omega)
    have k3 : ∀ (g : mz_G) (j b : Nat) (v : Int), mz_up g 153 j v q b = g q b := fun _ _ _ _ => up_k (by omega)
    have k4 : ∀ (g : mz_G) (j b : Nat) (v : Int), mz_up g 154 j v q b = g q b := fun _ _ _ _ => up_k (by omega)
    simp only [k2, k3, k4]
    rw [if_pos (by omega), show (p + 1 + l).toNat = p.toNat + 1 + l.toNat by omega, show (p + 1 + 6 + l).toNat = p.toNat + 7 + l.toNat by omega, show (p + 1 + 12 + l).toNat = p.toNat + 13 + l.toNat by omega, show (p + 1 + 18 + l).toNat = p.toNat + 19 + l.toNat by omega, hf q _ (by omega), hf q _ (by omega), hf q _ (by omega), hf q _ (by omega)]
    refine ih k (l + 1) _ (by omega) (by omega) (by omega) (by omega) (fun t ht => ?_) (fun a b z => ?_)
    · by_cases c : t = l.toNat
      · subst c
        refine ⟨?_, ?_, ?_, ?_⟩
        · rw [up_k (by decide), up_k (by decide), up_k (by decide), mz_up_at]
        · rw [up_k (by decide), up_k (by decide), mz_up_at]
        · rw [up_k (by decide), mz_up_at]
        · rw [mz_up_at]
      · obtain ⟨v0, v1, v2, v3⟩ := hv t (by omega)
        refine ⟨?_, ?_, ?_, ?_⟩
        · rw [mz_up_ne (by omega), mz_up_ne (by omega), mz_up_ne (by omega), mz_up_ne (by omega)]; exact v0
        · rw [mz_up_ne (by omega), mz_up_ne (by omega), mz_up_ne (by omega), mz_up_ne (by omega)]; exact v1
        · rw [mz_up_ne (by omega), mz_up_ne (by omega), mz_up_ne (by omega), mz_up_ne (by omega)]; exact v2
        · rw [mz_up_ne (by omega), mz_up_ne (by omega), mz_up_ne (by omega), mz_up_ne (by omega)]; exact v3
    · rw [mz_up_ne (by omega), mz_up_ne (by omega), mz_up_ne (by omega), mz_up_ne (by omega)]; exact hf a b z
theorem recall_B {q nq : Nat} {p : Int} (hq : q < 137 ∨ (137 < q ∧ q < 152) ∨ 155 < q) (h0 : 0 ≤ p) : zF_X12_recall q nq p g 137 30 = g q p.toNat ∧ (∀ t : Nat, t < 6 → zF_X12_recall q nq p g 152 t = g q (p.toNat + 1 + t) ∧ zF_X12_recall q nq p g 153 t = g q (p.toNat + 7 + t) ∧ zF_X12_recall q nq p g 154 t = g q (p.toNat + 13 + t) ∧ zF_X12_recall q nq p g 155 t = g q (p.toNat + 19 + t)) ∧ (∀ a b : Nat, ¬ (a = 137 ∧ b = 30) → ¬ ((152 ≤ a ∧ a ≤ 155) ∧ b < 6) → zF_X12_recall q nq p g a b = g a b) := by
  unfold zF_X12_recall
  simp only [zf_lq]
  obtain ⟨g1, e, v, f⟩ := rec_l (q := q) (nq := nq) (p := p) (g0 := mz_up g 137 30 (g q p.toNat)) (by omega) h0 (6 - 0 : Int).toNat 3000000000 0 (mz_up g 137 30 (g q p.toNat)) rfl (by decide) (by decide) (by decide) (fun t z => by omega) (fun _ _ _ => rfl)
  rw [e]
  refine ⟨?_, fun t ht => ?_, fun a b y z => ?_⟩
  · rw [f _ _ (by omega), mz_up_at]
  · obtain ⟨v0, v1, v2, v3⟩ := v t ht
    rw [v0, v1, v2, v3, up_k (by omega), up_k (by omega), up_k (by omega), up_k (by omega)]
    exact ⟨rfl, rfl, rfl, rfl⟩
  · rw [f a b z, mz_up_ne y]
theorem sav_l {T q : Nat} {p n : Int} (hq : q < T ∨ T + 8 < q) (h0 : 0 ≤ p) (h1 : p + 25 ≤ 1000) (n6 : n ≤ 6) (hn : g0 T 2 = n) : ∀ (m k : Nat) (l : Int) (g : mz_G), (n - l).toNat = m → m < k → 0 ≤ l → (∀ t : Nat, (t : Int) < l → g q (p.toNat + 1 + 4 * t) = g0 (T + 3 + t) 0 ∧ g q (p.toNat + 2 + 4 * t) = g0 (T + 3 + t) 1 ∧ g q (p.toNat + 3 + 4 * t) = g0 (T + 3 + t) 2 ∧ g q (p.toNat + 4 + 4 * t) = g0 (T + 3 + t) 3) → (∀ a b : Nat, ¬ (a = q ∧ p.toNat + 1 ≤ b ∧ b < p.toNat + 25) → g a b = g0 a b) → ∃ g1, zL_X9_saveIn_11 T q 1000 p k l g = g1 ∧ (∀ t : Nat, (t : Int) < n → g1 q (p.toNat + 1 + 4 * t) = g0 (T + 3 + t) 0 ∧ g1 q (p.toNat + 2 + 4 * t) = g0 (T + 3 + t) 1 ∧ g1 q (p.toNat + 3 + 4 * t) = g0 (T + 3 + t) 2 ∧ g1 q (p.toNat + 4 + 4 * t) = g0 (T + 3 + t) 3) ∧ (∀ a b : Nat, ¬ (a = q ∧ p.toNat + 1 ≤ b ∧ b < p.toNat + 25) → g1 a b = g0 a b) := by
  intro m
  induction m with
  | zero =>
    intro k l g hm hk l0 hv hf
    obtain ⟨k, rfl⟩ : ∃ k1, k = k1 + 1 := ⟨k - 1, by omega⟩
    rw [zL_X9_saveIn_11_s]
    unfold zB_X9_saveIn_11
    simp only [zf_lq]
    rw [hf T 2 (by omega), hn, if_neg (by omega)]
    exact ⟨g, rfl, fun t ht => hv t (by omega), hf⟩
  | succ m ih =>
    intro k l g hm hk l0 hv hf
    obtain ⟨k, rfl⟩ : ∃ k1, k = k1 + 1 := ⟨k - 1, by omega⟩
    rw [zL_X9_saveIn_11_s]
    unfold zB_X9_saveIn_11
    simp only [zf_lq]
    rw [hf T 2 (by omega), hn, if_pos (by omega), X9_get l0 (by omega), mz_wrap_id (a := p + 1) ⟨by omega, by omega⟩, mz_wrap_id (a := p + 1 + 4 * l) ⟨by omega, by omega⟩, mz_wrap_id (a := p + 1 + 4 * l + 1) ⟨by omega, by omega⟩, mz_wrap_id (a := p + 1 + 4 * l + 2) ⟨by omega, by omega⟩, mz_wrap_id (a := p + 1 + 4 * l + 3) ⟨by omega, by omega⟩]
    have kk : ∀ (g : mz_G) (j b : Nat) (v : Int), mz_up g q j v (T + 3 + l.toNat) b = g (T + 3 + l.toNat) b := fun _ _ _ _ => up_k (by omega)
    rw [X11_put (n := 1000) (i := p + 1 + 4 * l) (by omega) (by omega), kk, X11_put (n := 1000) (i := p + 1 + 4 * l + 1) (by omega) (by omega), kk, kk, X11_put (n := 1000) (i := p + 1 + 4 * l + 2) (by omega) (by omega), kk, kk, kk, X11_put (n := 1000) (i := p + 1 + 4 * l + 3) (by omega) (by omega)]
    rw [show (p + 1 + 4 * l).toNat = p.toNat + 1 + 4 * l.toNat by omega, show (p + 1 + 4 * l + 1).toNat = p.toNat + 2 + 4 * l.toNat by omega, show (p + 1 + 4 * l + 2).toNat = p.toNat + 3 + 4 * l.toNat by omega, show (p + 1 + 4 * l + 3).toNat = p.toNat + 4 + 4 * l.toNat by omega]
    refine ih k (l + 1) _ (by omega) (by omega) (by omega) (fun t ht => ?_) (fun a b z => ?_)
    · by_cases c : t = l.toNat
      · subst c
        refine ⟨?_, ?_, ?_, ?_⟩
        · rw [up_j (by omega), up_j (by omega), up_j (by omega), mz_up_at]; exact hf _ _ (by omega)
        · rw [up_j (by omega), up_j (by omega), mz_up_at]; exact hf _ _ (by omega)
        · rw [up_j (by omega), mz_up_at]; exact hf _ _ (by omega)
        · rw [mz_up_at]; exact hf _ _ (by omega)
      · obtain ⟨v0, v1, v2, v3⟩ := hv t (by omega)
        refine ⟨?_, ?_, ?_, ?_⟩
        · rw [up_j (by omega), up_j (by omega), up_j (by omega), up_j (by omega)]; exact v0
        · rw [up_j (by omega), up_j (by omega), up_j (by omega), up_j (by omega)]; exact v1
        · rw [up_j (by omega), up_j (by omega), up_j (by omega), up_j (by omega)]; exact v2
        · rw [up_j (by omega), up_j (by omega), up_j (by omega), up_j (by omega)]; exact v3
    · rw [mz_up_ne (by omega), mz_up_ne (by omega), mz_up_ne (by omega), mz_up_ne (by omega)]; exact hf a b z
theorem save_A {T q : Nat} {p : Int} (hq : q < T ∨ T + 8 < q) (h0 : 0 ≤ p) (h1 : p + 25 ≤ 1000) (n0 : 0 ≤ g T 2) (n6 : g T 2 ≤ 6) : zF_X9_saveIn T q 1000 p g q p.toNat = g T 3 ∧ (∀ t : Nat, (t : Int) < g T 2 → zF_X9_saveIn T q 1000 p g q (p.toNat + 1 + 4 * t) = g (T + 3 + t) 0 ∧ zF_X9_saveIn T q 1000 p g q (p.toNat + 2 + 4 * t) = g (T + 3 + t) 1 ∧ zF_X9_saveIn T q 1000 p g q (p.toNat + 3 + 4 * t) = g (T + 3 + t) 2 ∧ zF_X9_saveIn T q 1000 p g q (p.toNat + 4 + 4 * t) = g (T + 3 + t) 3) ∧ (∀ a b : Nat, ¬ (a = q ∧ p.toNat ≤ b ∧ b < p.toNat + 25) → zF_X9_saveIn T q 1000 p g a b = g a b) := by
  unfold zF_X9_saveIn
  simp only [zf_lq]
  rw [X11_put (n := 1000) h0 (by omega)]
  obtain ⟨g1, e, v, f⟩ := sav_l (T := T) (q := q) (p := p) (n := g T 2) (g0 := mz_up g q p.toNat (g T 3)) hq h0 h1 n6 (up_k (by omega)) (g T 2 - 0).toNat 3000000000 0 (mz_up g q p.toNat (g T 3)) rfl (by omega) (by decide) (fun t z => by omega) (fun _ _ _ => rfl)
  rw [e]
  refine ⟨?_, fun t ht => ?_, fun a b z => ?_⟩
  · rw [f _ _ (by omega), mz_up_at]
  · obtain ⟨v0, v1, v2, v3⟩ := v t ht
    rw [v0, v1, v2, v3, up_k (by omega), up_k (by omega), up_k (by omega), up_k (by omega)]
    exact ⟨rfl, rfl, rfl, rfl⟩
  · rw [f a b (by omega), mz_up_ne (by omega)]
theorem tak_l {T q : Nat} {p n : Int} (hq : q < T ∨ T + 8 < q) (h0 : 0 ≤ p) (h1 : p + 25 ≤ 1000) (n6 : n ≤ 6) (hn : g0 T 2 = n) : ∀ (m k : Nat) (l : Int) (g : mz_G), (n - l).toNat = m → m < k → 0 ≤ l → (∀ t : Nat, (t : Int) < l → g (T + 3 + t) 0 = g0 q (p.toNat + 1 + 4 * t) ∧ g (T + 3 + t) 1 = g0 q (p.toNat + 2 + 4 * t) ∧ g (T + 3 + t) 2 = g0 q (p.toNat + 3 + 4 * t) ∧ g (T + 3 + t) 3 = g0 q (p.toNat + 4 + 4 * t)) → (∀ a b : Nat, ¬ ((T + 3 ≤ a ∧ a < T + 9) ∧ b < 4) → g a b = g0 a b) → ∃ g1, zL_X9_takeFrom_11 T q 1000 p k l g = g1 ∧ (∀ t : Nat, (t : Int) < n → g1 (T + 3 + t) 0 = g0 q (p.toNat + 1 + 4 * t) ∧ g1 (T + 3 + t) 1 = g0 q (p.toNat + 2 + 4 * t) ∧ g1 (T + 3 + t) 2 = g0 q (p.toNat + 3 + 4 * t) ∧ g1 (T + 3 + t) 3 = g0 q (p.toNat + 4 + 4 * t)) ∧ (∀ a b : Nat, ¬ ((T + 3 ≤ a ∧ a < T + 9) ∧ b < 4) → g1 a b = g0 a b) := by
  intro m
  induction m with
  | zero =>
    intro k l g hm hk l0 hv hf
    obtain ⟨k, rfl⟩ : ∃ k1, k = k1 + 1 := ⟨k - 1, by omega⟩
    rw [zL_X9_takeFrom_11_s]
    unfold zB_X9_takeFrom_11
    simp only [zf_lq]
    rw [hf T 2 (by omega), hn, if_neg (by omega)]
    exact ⟨g, rfl, fun t ht => hv t (by omega), hf⟩
  | succ m ih =>
    intro k l g hm hk l0 hv hf
    obtain ⟨k, rfl⟩ : ∃ k1, k = k1 + 1 := ⟨k - 1, by omega⟩
    rw [zL_X9_takeFrom_11_s]
    unfold zB_X9_takeFrom_11
    simp only [zf_lq]
    rw [hf T 2 (by omega), hn, if_pos (by omega), X9_get l0 (by omega), mz_wrap_id (a := p + 1) ⟨by omega, by omega⟩, mz_wrap_id (a := p + 1 + 4 * l) ⟨by omega, by omega⟩, mz_wrap_id (a := p + 1 + 4 * l + 1) ⟨by omega, by omega⟩, mz_wrap_id (a := p + 1 + 4 * l + 2) ⟨by omega, by omega⟩, mz_wrap_id (a := p + 1 + 4 * l + 3) ⟨by omega, by omega⟩]
    have kk : ∀ (g : mz_G) (j b : Nat) (v : Int), mz_up g (T + 3 + l.toNat) j v q b = g q b := fun _ _ _ _ => up_k (by omega)
    have A : ∀ (g : mz_G) (i : Int), 0 ≤ i → i < 1000 → zF_X11_at q 1000 i g = g q i.toNat := fun g i u v => X11_at (n := 1000) u v
    rw [A _ _ (by omega) (by omega), A _ (p + 1 + 4 * l + 1) (by omega) (by omega), A _ (p + 1 + 4 * l + 2) (by omega) (by omega), A _ (p + 1 + 4 * l + 3) (by omega) (by omega)]
    simp only [kk]
    rw [show (p + 1 + 4 * l).toNat = p.toNat + 1 + 4 * l.toNat by omega, show (p + 1 + 4 * l + 1).toNat = p.toNat + 2 + 4 * l.toNat by omega, show (p + 1 + 4 * l + 2).toNat = p.toNat + 3 + 4 * l.toNat by omega, show (p + 1 + 4 * l + 3).toNat = p.toNat + 4 + 4 * l.toNat by omega, hf q _ (by omega), hf q _ (by omega), hf q _ (by omega), hf q _ (by omega)]
    refine ih k (l + 1) _ (by omega) (by omega) (by omega) (fun t ht => ?_) (fun a b z => ?_)
    · by_cases c : t = l.toNat
      · subst c
        refine ⟨?_, ?_, ?_, ?_⟩
        · rw [up_j (by decide), up_j (by decide), up_j (by decide), mz_up_at]
        · rw [up_j (by decide), up_j (by decide), mz_up_at]
        · rw [up_j (by decide), mz_up_at]
        · rw [mz_up_at]
      · obtain ⟨v0, v1, v2, v3⟩ := hv t (by omega)
        refine ⟨?_, ?_, ?_, ?_⟩
        · rw [up_k (by omega), up_k (by omega), up_k (by omega), up_k (by omega)]; exact v0
        · rw [up_k (by omega), up_k (by omega), up_k (by omega), up_k (by omega)]; exact v1
        · rw [up_k (by omega), up_k (by omega), up_k (by omega), up_k (by omega)]; exact v2
        · rw [up_k (by omega), up_k (by omega), up_k (by omega), up_k (by omega)]; exact v3
    · rw [mz_up_ne (by omega), mz_up_ne (by omega), mz_up_ne (by omega), mz_up_ne (by omega)]; exact hf a b z
theorem take_A {T q : Nat} {p : Int} (hq : q < T ∨ T + 8 < q) (h0 : 0 ≤ p) (h1 : p + 25 ≤ 1000) (n0 : 0 ≤ g T 2) (n6 : g T 2 ≤ 6) : zF_X9_takeFrom T q 1000 p g T 3 = g q p.toNat ∧ (∀ t : Nat, (t : Int) < g T 2 → zF_X9_takeFrom T q 1000 p g (T + 3 + t) 0 = g q (p.toNat + 1 + 4 * t) ∧ zF_X9_takeFrom T q 1000 p g (T + 3 + t) 1 = g q (p.toNat + 2 + 4 * t) ∧ zF_X9_takeFrom T q 1000 p g (T + 3 + t) 2 = g q (p.toNat + 3 + 4 * t) ∧ zF_X9_takeFrom T q 1000 p g (T + 3 + t) 3 = g q (p.toNat + 4 + 4 * t)) ∧ (∀ a b : Nat, ¬ (a = T ∧ b = 3) → ¬ ((T + 3 ≤ a ∧ a < T + 9) ∧ b < 4) → zF_X9_takeFrom T q 1000 p g a b = g a b) := by
  unfold zF_X9_takeFrom
  simp only [zf_lq]
  rw [X11_at (n := 1000) h0 (by omega)]
  obtain ⟨g1, e, v, f⟩ := tak_l (T := T) (q := q) (p := p) (n := g T 2) (g0 := mz_up g T 3 (g q p.toNat)) hq h0 h1 n6 (up_j (by decide)) (g T 2 - 0).toNat 3000000000 0 (mz_up g T 3 (g q p.toNat)) rfl (by omega) (by decide) (fun t z => by omega) (fun _ _ _ => rfl)
  rw [e]
  refine ⟨?_, fun t ht => ?_, fun a b y z => ?_⟩
  · rw [f _ _ (by omega), mz_up_at]
  · obtain ⟨v0, v1, v2, v3⟩ := v t ht
    rw [v0, v1, v2, v3, up_k (by omega), up_k (by omega), up_k (by omega), up_k (by omega)]
    exact ⟨rfl, rfl, rfl, rfl⟩
  · rw [f a b z, mz_up_ne y]
theorem asOf_A {q r : Nat} (h : q ≠ r) : zF_X8_becomeAs q r g q 0 = g r 0 ∧ zF_X8_becomeAs q r g q 1 = g r 1 ∧ zF_X8_becomeAs q r g q 2 = g r 2 ∧ zF_X8_becomeAs q r g q 3 = g r 3 ∧ zF_X8_becomeAs q r g q 4 = g r 4 ∧ ∀ a b : Nat, ¬ (a = q ∧ b < 5) → zF_X8_becomeAs q r g a b = g a b := by
  unfold zF_X8_becomeAs
  simp only [zf_lq]
  have kk : ∀ (g : mz_G) (j b : Nat) (v : Int), mz_up g q j v r b = g r b := fun _ _ _ _ => up_k (by omega)
  simp only [kk]
  refine ⟨?_, ?_, ?_, ?_, ?_, fun a b z => ?_⟩
  · rw [up_j (by decide), up_j (by decide), up_j (by decide), up_j (by decide), mz_up_at]
  · rw [up_j (by decide), up_j (by decide), up_j (by decide), mz_up_at]
  · rw [up_j (by decide), up_j (by decide), mz_up_at]
  · rw [up_j (by decide), mz_up_at]
  · rw [mz_up_at]
  · rw [mz_up_ne (by omega), mz_up_ne (by omega), mz_up_ne (by omega), mz_up_ne (by omega), mz_up_ne (by omega)]
theorem cpa_l {T U : Nat} {n : Int} (hq : U + 8 < T ∨ T + 8 < U) (n6 : n ≤ 6) (hn : g0 T 2 = n) : ∀ (m k : Nat) (l : Int) (g : mz_G), (n - l).toNat = m → m < k → 0 ≤ l → (∀ t j : Nat, (t : Int) < l → j < 5 → g (T + 3 + t) j = g0 (U + 3 + t) j) → (∀ a b : Nat, ¬ ((T + 3 ≤ a ∧ a < T + 9) ∧ b < 5) → g a b = g0 a b) → ∃ g1, zL_X9_copyAll_18 T U k l g = g1 ∧ (∀ t j : Nat, (t : Int) < n → j < 5 → g1 (T + 3 + t) j = g0 (U + 3 + t) j) ∧ (∀ a b : Nat, ¬ ((T + 3 ≤ a ∧ a < T + 9) ∧ b < 5) → g1 a b = g0 a b) := by
  intro m
  induction m with
  | zero =>
    intro k l g hm hk l0 hv hf
    obtain ⟨k, rfl⟩ : ∃ k1, k = k1 + 1 := ⟨k - 1, by omega⟩
    rw [zL_X9_copyAll_18_s]
    unfold zB_X9_copyAll_18
    simp only [zf_lq]
    rw [hf T 2 (by omega), hn, if_neg (by omega)]
    exact ⟨g, rfl, fun t j ht => hv t j (by omega), hf⟩
  | succ m ih =>
    intro k l g hm hk l0 hv hf
    obtain ⟨k, rfl⟩ : ∃ k1, k = k1 + 1 := ⟨k - 1, by omega⟩
    rw [zL_X9_copyAll_18_s]
    unfold zB_X9_copyAll_18
    simp only [zf_lq]
    rw [hf T 2 (by omega), hn, if_pos (by omega), X9_get l0 (by omega), X9_get l0 (by omega)]
    obtain ⟨b0, b1, b2, b3, b4, bf⟩ := asOf_A (g := g) (q := T + 3 + l.toNat) (r := U + 3 + l.toNat) (by omega)
    generalize zF_X8_becomeAs (T + 3 + l.toNat) (U + 3 + l.toNat) g = g8 at *
    refine ih k (l + 1) g8 (by omega) (by omega) (by omega) (fun t j ht hj => ?_) (fun a b z => ?_)
    · by_cases c : t = l.toNat
      · subst c
        rw [← hf (U + 3 + l.toNat) j (by omega)]
        have : j = 0 ∨ j = 1 ∨ j = 2 ∨ j = 3 ∨ j = 4 := by omega
        rcases this with rfl | rfl | rfl | rfl | rfl
        · exact b0
        · exact b1
        · exact b2
        · exact b3
        · exact b4
      · rw [bf _ _ (by omega)]; exact hv t j (by omega) hj
    · rw [bf _ _ (by omega)]; exact hf a b z
theorem copyAll_A {T U : Nat} (hq : U + 8 < T ∨ T + 8 < U) (n0 : 0 ≤ g U 2) (n6 : g U 2 ≤ 6) : zF_X9_copyAll T U g T 2 = g U 2 ∧ zF_X9_copyAll T U g T 3 = g U 3 ∧ (∀ t j : Nat, (t : Int) < g U 2 → j < 5 → zF_X9_copyAll T U g (T + 3 + t) j = g (U + 3 + t) j) ∧ (∀ a b : Nat, ¬ (a = T ∧ (b = 2 ∨ b = 3)) → ¬ ((T + 3 ≤ a ∧ a < T + 9) ∧ b < 5) → zF_X9_copyAll T U g a b = g a b) := by
  unfold zF_X9_copyAll
  simp only [zf_lq]
  rw [up_k (by omega)]
  obtain ⟨g1, e, v, f⟩ := cpa_l (T := T) (U := U) (n := g U 2) (g0 := mz_up (mz_up g T 2 (g U 2)) T 3 (g U 3)) hq n6 (by rw [up_j (by decide), mz_up_at]) (g U 2 - 0).toNat 3000000000 0 (mz_up (mz_up g T 2 (g U 2)) T 3 (g U 3)) rfl (by omega) (by decide) (fun t j z => by omega) (fun _ _ _ => rfl)
  rw [e]
  refine ⟨?_, ?_, fun t j ht hj => ?_, fun a b y z => ?_⟩
  · rw [f _ _ (by omega), up_j (by decide), mz_up_at]
  · rw [f _ _ (by omega), mz_up_at]
  · rw [v t j ht hj, up_k (by omega), up_k (by omega)]
  · rw [f a b z, mz_up_ne (by omega), mz_up_ne (by omega)]
theorem cpr_l {q r n : Nat} (hq : q ≠ r) : ∀ (m k : Nat) (l : Int) (g : mz_G), ((n : Int) - l).toNat = m → m < k → 0 ≤ l → (∀ j : Nat, (j : Int) < l → g r j = g0 q j) → (∀ a b : Nat, ¬ (a = r ∧ b < n) → g a b = g0 a b) → ∃ g1, zL_X11_copyRow_2 q n r n k l g = g1 ∧ (∀ j : Nat, j < n → g1 r j = g0 q j) ∧ (∀ a b : Nat, ¬ (a = r ∧ b < n) → g1 a b = g0 a b) := by
  intro m
  induction m with
  | zero =>
    intro k l g hm hk l0 hv hf
    obtain ⟨k, rfl⟩ : ∃ k1, k = k1 + 1 := ⟨k - 1, by omega⟩
    rw [zL_X11_copyRow_2_s]
    unfold zB_X11_copyRow_2
    rw [if_neg (by omega)]
    exact ⟨g, rfl, fun j hj => hv j (by omega), hf⟩
  | succ m ih =>
    intro k l g hm hk l0 hv hf
    obtain ⟨k, rfl⟩ : ∃ k1, k = k1 + 1 := ⟨k - 1, by omega⟩
    rw [zL_X11_copyRow_2_s]
    unfold zB_X11_copyRow_2
    simp only [zf_lq]
    rw [if_pos (by omega), if_pos (by omega)]
    refine ih k (l + 1) _ (by omega) (by omega) (by omega) (fun j hj => ?_) (fun a b z => ?_)
    · by_cases c : j = l.toNat
      · subst c
        rw [mz_up_at]; exact hf _ _ (by omega)
      · rw [up_j c]; exact hv j (by omega)
    · rw [mz_up_ne (by omega)]; exact hf a b z
theorem copyRow_A {q r n : Nat} (hq : q ≠ r) (hn : n ≤ 1000) : (∀ j : Nat, j < n → zF_X11_copyRow q n r n g r j = g q j) ∧ (∀ a b : Nat, ¬ (a = r ∧ b < n) → zF_X11_copyRow q n r n g a b = g a b) := by
  unfold zF_X11_copyRow
  obtain ⟨g1, e, v, f⟩ := cpr_l (q := q) (r := r) (n := n) (g0 := g) hq ((n : Int) - 0).toNat 3000000000 0 g rfl (by omega) (by decide) (fun t z => by omega) (fun _ _ _ => rfl)
  rw [e]
  exact ⟨v, f⟩
theorem cpt_l {q r n : Nat} (hq : q ≠ r) : ∀ (m k : Nat) (l : Int) (g : mz_G), ((n : Int) - l).toNat = m → m < k → 0 ≤ l → (∀ j : Nat, (j : Int) < l → g q j = g0 r j) → (∀ a b : Nat, ¬ (a = q ∧ b < n) → g a b = g0 a b) → ∃ g1, zL_X12_copyTo_2 q n r n k l g = g1 ∧ (∀ j : Nat, j < n → g1 q j = g0 r j) ∧ (∀ a b : Nat, ¬ (a = q ∧ b < n) → g1 a b = g0 a b) := by
  intro m
  induction m with
  | zero =>
    intro k l g hm hk l0 hv hf
    obtain ⟨k, rfl⟩ : ∃ k1, k = k1 + 1 := ⟨k - 1, by omega⟩
    rw [zL_X12_copyTo_2_s]
    unfold zB_X12_copyTo_2
    rw [if_neg (by omega)]
    exact ⟨g, rfl, fun j hj => hv j (by omega), hf⟩
  | succ m ih =>
    intro k l g hm hk l0 hv hf
    obtain ⟨k, rfl⟩ : ∃ k1, k = k1 + 1 := ⟨k - 1, by omega⟩
    rw [zL_X12_copyTo_2_s]
    unfold zB_X12_copyTo_2
    simp only [zf_lq]
    rw [if_pos (by omega)]
    refine ih k (l + 1) _ (by omega) (by omega) (by omega) (fun j hj => ?_) (fun a b z => ?_)
    · by_cases c : j = l.toNat
      · subst c
        rw [mz_up_at]; exact hf _ _ (by omega)
      · rw [up_j c]; exact hv j (by omega)
    · rw [mz_up_ne (by omega)]; exact hf a b z
theorem copyTo_B {q r n : Nat} (hq : q ≠ r) (hn : n ≤ 1000) : (∀ j : Nat, j < n → zF_X12_copyTo q n r n g q j = g r j) ∧ (∀ a b : Nat, ¬ (a = q ∧ b < n) → zF_X12_copyTo q n r n g a b = g a b) := by
  unfold zF_X12_copyTo
  obtain ⟨g1, e, v, f⟩ := cpt_l (q := q) (r := r) (n := n) (g0 := g) hq ((n : Int) - 0).toNat 3000000000 0 g rfl (by omega) (by decide) (fun t z => by omega) (fun _ _ _ => rfl)
  rw [e]
  exact ⟨v, f⟩
end RO
