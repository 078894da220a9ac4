/-! THE STATE of both: what days and acts change, what an image keeps -/
/-- the reference's numbers of a trunk now: 0 SAID, 1 MEANT, 2 STRAP, 3 GROWN -/
def sy_c (g : mz_G) : Nat → Nat → Int := fun f t => if f = 0 then g 153 t else if f = 1 then g 154 t else if f = 2 then g 155 t else g 152 t
/-- the same of a row -/
def sy_w (g : mz_G) (q p : Nat) : Nat → Nat → Int := fun f t => if f = 0 then g q (p + 7 + t) else if f = 1 then g q (p + 13 + t) else if f = 2 then g q (p + 19 + t) else g q (p + 1 + t)
def sy_v (gB : mz_G) (d : Int) (V : Nat → Nat → Int) : Prop := (0 ≤ d ∧ d ≤ 999) ∧ ∀ t : Nat, (t : Int) < gB 140 1 → vt gB (V 0 t) (V 1 t) (V 3 t) ∧ 0 ≤ V 2 t ∧ V 2 t ≤ 9
def sy_p (gA : mz_G) (q p : Nat) (n d : Int) (V : Nat → Nat → Int) : Prop := gA q p = d ∧ ∀ t : Nat, (t : Int) < n → gA q (p + 1 + 4 * t) = V 0 t ∧ gA q (p + 2 + 4 * t) = V 1 t ∧ gA q (p + 3 + 4 * t) = V 2 t ∧ gA q (p + 4 + 4 * t) = V 3 t
/-- now: the class's trunks at T -/
def sy_n (T : Nat) (gA gB : mz_G) (d : Int) (V : Nat → Nat → Int) : Prop := gA T 2 = gB 140 1 ∧ gA T 3 = d ∧ (∀ t : Nat, (t : Int) < gB 140 1 → gA (T + 3 + t) 0 = V 0 t ∧ gA (T + 3 + t) 1 = V 1 t ∧ gA (T + 3 + t) 2 = V 2 t ∧ gA (T + 3 + t) 3 = V 3 t ∧ gA (T + 3 + t) 4 = gB 144 t) ∧ sy_v gB d V
/-- acts: the class's in S, Q, the reference's in q -/
def sy_a (S Q : Nat) (gA gB : mz_G) (ac : Int) (q : Nat) : Prop := gA S 3 = ac ∧ (0 ≤ ac ∧ ac ≤ 40) ∧ (0 ≤ gA S 2 ∧ gA S 2 ≤ 39) ∧ ∀ k : Nat, (k : Int) < ac → sy_p gA Q (25 * (((gA S 2).toNat + k) % 40)) (gB 140 1) (gB q (25 * k)) (sy_w gB q (25 * k)) ∧ sy_v gB (gB q (25 * k)) (sy_w gB q (25 * k))
def sy_s (S Q : Nat) (gA gB : mz_G) (sn : Int) (q : Nat) : Prop := gA S 7 = sn ∧ (0 ≤ sn ∧ sn ≤ 8) ∧ ∀ i : Nat, (i : Int) < sn → gA Q i = gB q i ∧ gA (Q + 1) i = gB (q + 1) i ∧ gA (Q + 2) i = gB (q + 2) i ∧ (0 ≤ gB q i ∧ gB q i < gB 140 1) ∧ 0 ≤ gB (q + 1) i ∧ gB (q + 1) i ≤ 20
def sy_r (Q : Nat) (gA gB : mz_G) (q : Nat) : Prop := ∀ i : Nat, i < 3 → gA Q i = gB q i
/-- what is told may be used as before -/
def sx_e (gB gB' : mz_G) : Prop := gB' 140 1 = gB 140 1 ∧ (∀ a b c : Int, vt gB a b c → vt gB' a b c) ∧ ∀ t : Nat, (t : Int) < gB 140 1 → gB' 144 t = gB 144 t
theorem sx_of {gB gB' : mz_G} (h : su_e gB gB') : sx_e gB gB' := ⟨h 140 1 (by decide) (by decide), fun a b c v => (vt_c h).mpr v, fun t _ => h 144 t (by decide) (by decide)⟩
section SY
variable {gA gA' gB gB' : mz_G} {d d' : Int} {V V' : Nat → Nat → Int}
theorem sy_v_c (h : sx_e gB gB') (e : d' = d) (f : ∀ t : Nat, (t : Int) < gB 140 1 → V' 0 t = V 0 t ∧ V' 1 t = V 1 t ∧ V' 2 t = V 2 t ∧ V' 3 t = V 3 t) (k : sy_v gB d V) : sy_v gB' d' V' := by
  obtain ⟨k0, k1⟩ := k
  refine ⟨by rw [e]; exact k0, fun t ht => ?_⟩
  rw [h.1] at ht
  obtain ⟨f0, f1, f2, f3⟩ := f t ht
  rw [f0, f1, f2, f3]
  exact ⟨h.2.1 _ _ _ (k1 t ht).1, (k1 t ht).2⟩
theorem sy_n_c {T T' : Nat} (h : sx_e gB gB') (a2 : gA' T' 2 = gA T 2) (a3 : gA' T' 3 = gA T 3) (a5 : ∀ t j : Nat, (t : Int) < gB 140 1 → j < 5 → gA' (T' + 3 + t) j = gA (T + 3 + t) j) (e : d' = d) (f : ∀ t : Nat, (t : Int) < gB 140 1 → V' 0 t = V 0 t ∧ V' 1 t = V 1 t ∧ V' 2 t = V 2 t ∧ V' 3 t = V 3 t) (k : sy_n T gA gB d V) : sy_n T' gA' gB' d' V' := by
  obtain ⟨k1, k2, k3, k4⟩ := k
  have n1 := h.1
  refine ⟨by rw [a2, k1, n1], by rw [a3, k2, e], fun t ht => ?_, sy_v_c h e f k4⟩
  rw [n1] at ht
  obtain ⟨f0, f1, f2, f3⟩ := f t ht
  rw [a5 t 0 ht (by decide), a5 t 1 ht (by decide), a5 t 2 ht (by decide), a5 t 3 ht (by decide), a5 t 4 ht (by decide), f0, f1, f2, f3, h.2.2 t ht]
  exact k3 t ht
theorem sy_w_c {q q' p : Nat} (f : ∀ j : Nat, j < 1000 → gB' q' j = gB q j) (hp : p + 25 ≤ 1000) {n : Int} (hn : n ≤ 6) : ∀ t : Nat, (t : Int) < n → sy_w gB' q' p 0 t = sy_w gB q p 0 t ∧ sy_w gB' q' p 1 t = sy_w gB q p 1 t ∧ sy_w gB' q' p 2 t = sy_w gB q p 2 t ∧ sy_w gB' q' p 3 t = sy_w gB q p 3 t := fun t ht => ⟨f _ (by omega), f _ (by omega), f _ (by omega), f _ (by omega)⟩
theorem sy_a_c {S S' Q Q' q q' : Nat} {ac ac' : Int} (h : sx_e gB gB') (n6 : gB 140 1 ≤ 6) (a2 : gA' S' 2 = gA S 2) (a3 : gA' S' 3 = gA S 3) (aq : ∀ j : Nat, j < 1000 → gA' Q' j = gA Q j) (e : ac' = ac) (f : ∀ j : Nat, j < 1000 → gB' q' j = gB q j) (k : sy_a S Q gA gB ac q) : sy_a S' Q' gA' gB' ac' q' := by
  obtain ⟨k1, k2, k3, k4⟩ := k
  have n1 := h.1
  refine ⟨by rw [a3, k1, e], by rw [e]; exact k2, by rw [a2]; exact k3, fun i hi => ?_⟩
  rw [e] at hi
  obtain ⟨⟨r1, r2⟩, r3⟩ := k4 i hi
  have w := sy_w_c (gB := gB) (gB' := gB') (q := q) (q' := q') (p := 25 * i) f (by omega) n6
  refine ⟨⟨?_, fun t ht => ?_⟩, sy_v_c h (f _ (by omega)) w r3⟩
  · rw [a2, aq _ (by omega), f _ (by omega), r1]
  · rw [n1] at ht
    obtain ⟨w0, w1, w2, w3⟩ := w t ht
    rw [a2, aq _ (by omega), aq _ (by omega), aq _ (by omega), aq _ (by omega), w0, w1, w2, w3]
    exact r2 t ht
theorem sy_s_c {S S' Q Q' q q' : Nat} {sn sn' : Int} (h : sx_e gB gB') (a7 : gA' S' 7 = gA S 7) (aq : ∀ j : Nat, j < 8 → gA' Q' j = gA Q j ∧ gA' (Q' + 1) j = gA (Q + 1) j ∧ gA' (Q' + 2) j = gA (Q + 2) j) (e : sn' = sn) (f : ∀ j : Nat, j < 8 → gB' q' j = gB q j ∧ gB' (q' + 1) j = gB (q + 1) j ∧ gB' (q' + 2) j = gB (q + 2) j) (k : sy_s S Q gA gB sn q) : sy_s S' Q' gA' gB' sn' q' := by
  obtain ⟨k1, k2, k3⟩ := k
  refine ⟨by rw [a7, k1, e], by rw [e]; exact k2, fun i hi => ?_⟩
  rw [e] at hi
  obtain ⟨a0, a1, a2⟩ := aq i (by omega)
  obtain ⟨f0, f1, f2⟩ := f i (by omega)
  rw [a0, a1, a2, f0, f1, f2, h.1]
  exact k3 i hi
theorem sy_r_c {Q Q' q q' : Nat} (a : ∀ j : Nat, j < 3 → gA' Q' j = gA Q j) (f : ∀ j : Nat, j < 3 → gB' q' j = gB q j) (k : sy_r Q gA gB q) : sy_r Q' gA' gB' q' := fun i hi => by
  rw [a i hi, f i hi]
  exact k i hi
end SY
/-- a story of the class and the reference's -/
def sy_1 (gA gB : mz_G) : Prop := sy_n 87 gA gB (gB 137 30) (sy_c gB) ∧ sy_a 86 96 gA gB (gB 137 31) 156 ∧ sy_s 86 97 gA gB (gB 137 32) 166 ∧ sy_r 100 gA gB 150
def sy_2 (gA gB : mz_G) : Prop := sy_n 102 gA gB (gB 173 0) (sy_w gB 173 0) ∧ sy_a 101 111 gA gB (gB 137 54) 174 ∧ sy_s 101 112 gA gB (gB 137 55) 175 ∧ sy_r 115 gA gB 178
/-- strings, tapes, the fault's place -/
def ru_t (gA gB : mz_G) : Prop := mz_str gA ∧ mz_str gB ∧ (gA 82 1 = gB 137 15 ∧ ∀ j : Nat, mz_andI (gA 83 j) 255 = gB 151 j) ∧ gA 0 0 = gB 137 24 ∧ gA 27 3 = 0 ∧ gA 67 3 = 0
def ru_n (gB : mz_G) : Prop := (0 ≤ gB 140 1 ∧ gB 140 1 ≤ 6) ∧ ∀ t : Nat, (t : Int) < gB 140 1 → gB 144 t = 0 ∨ gB 144 t = 1
def ru (x : mm_X) (gA gB : mz_G) : Prop := ru_t gA gB ∧ sta x.1 gA gB ∧ ru_n gB ∧ sy_1 gA gB ∧ (gA 0 7 = gB 137 53 ∧ (gA 0 7 = 0 ∨ gA 0 7 = 1)) ∧ (gA 0 7 = 1 → sy_2 gA gB)
/-- the class's cells that tell nothing -/
def na_ (x : mm_X) : Nat → Nat → Prop := fun a b => (a = 0 ∧ b ≠ 0 ∧ b ≠ 7) ∨ a = x.1 + 38 ∨ a = x.1 + 39 ∨ (x.2.1 ≤ a ∧ a ≤ x.2.1 + 39 ∧ ¬ (a = x.2.1 + 26 ∧ b = 3)) ∨ a = 81 ∨ (a = 82 ∧ b ≠ 1) ∨ a = 84 ∨ a = 85 ∨ (116 ≤ a ∧ a < 2000)
/-- the reference's -/
def nb_ : Nat → Nat → Prop := fun a b => a < 137 ∨ (a = 137 ∧ b ≠ 15 ∧ b ≠ 24 ∧ b ≠ 30 ∧ b ≠ 31 ∧ b ≠ 32 ∧ b ≠ 53 ∧ b ≠ 54 ∧ b ≠ 55) ∨ ((152 ≤ a ∧ a ≤ 155) ∧ 6 ≤ b) ∨ (157 ≤ a ∧ a ≤ 165) ∨ (169 ≤ a ∧ a ≤ 172) ∨ (179 ≤ a ∧ a < 2000)
section RU
variable {x : mm_X} {gA gA' gB gB' : mz_G}
theorem sy_1_A (n6 : gB 140 1 ≤ 6) (f : ∀ a b : Nat, 86 ≤ a → a ≤ 100 → gA' a b = gA a b) (k : sy_1 gA gB) : sy_1 gA' gB := by
  obtain ⟨k1, k2, k3, k4⟩ := k
  exact ⟨sy_n_c (sx_of (su_e_r gB)) (f _ _ (by decide) (by decide)) (f _ _ (by decide) (by decide)) (fun t j ht _ => f _ _ (by omega) (by omega)) rfl (fun _ _ => ⟨rfl, rfl, rfl, rfl⟩) k1, sy_a_c (sx_of (su_e_r gB)) n6 (f _ _ (by decide) (by decide)) (f _ _ (by decide) (by decide)) (fun j _ => f _ _ (by decide) (by decide)) rfl (fun _ _ => rfl) k2, sy_s_c (sx_of (su_e_r gB)) (f _ _ (by decide) (by decide)) (fun j _ => ⟨f _ _ (by decide) (by decide), f _ _ (by decide) (by decide), f _ _ (by decide) (by decide)⟩) rfl (fun _ _ => ⟨rfl, rfl, rfl⟩) k3, sy_r_c (fun j _ => f _ _ (by decide) (by decide)) (fun _ _ => rfl) k4⟩
theorem sy_2_A (n6 : gB 140 1 ≤ 6) (f : ∀ a b : Nat, 101 ≤ a → a ≤ 115 → gA' a b = gA a b) (k : sy_2 gA gB) : sy_2 gA' gB := by
  obtain ⟨k1, k2, k3, k4⟩ := k
  exact ⟨sy_n_c (sx_of (su_e_r gB)) (f _ _ (by decide) (by decide)) (f _ _ (by decide) (by decide)) (fun t j ht _ => f _ _ (by omega) (by omega)) rfl (fun _ _ => ⟨rfl, rfl, rfl, rfl⟩) k1, sy_a_c (sx_of (su_e_r gB)) n6 (f _ _ (by decide) (by decide)) (f _ _ (by decide) (by decide)) (fun j _ => f _ _ (by decide) (by decide)) rfl (fun _ _ => rfl) k2, sy_s_c (sx_of (su_e_r gB)) (f _ _ (by decide) (by decide)) (fun j _ => ⟨f _ _ (by decide) (by decide), f _ _ (by decide) (by decide), f _ _ (by decide) (by decide)⟩) rfl (fun _ _ => ⟨rfl, rfl, rfl⟩) k3, sy_r_c (fun j _ => f _ _ (by decide) (by decide)) (fun _ _ => rfl) k4⟩
theorem sy_1_B (n6 : gB 140 1 ≤ 6) (h : su_e gB gB') (f7 : gB' 137 30 = gB 137 30 ∧ gB' 137 31 = gB 137 31 ∧ gB' 137 32 = gB 137 32) (f : ∀ a b : Nat, ((152 ≤ a ∧ a ≤ 155) ∧ b < 6) ∨ a = 150 ∨ a = 156 ∨ (166 ≤ a ∧ a ≤ 168) → gB' a b = gB a b) (k : sy_1 gA gB) : sy_1 gA gB' := by
  obtain ⟨k1, k2, k3, k4⟩ := k
  exact ⟨sy_n_c (V := sy_c gB) (sx_of h) rfl rfl (fun _ _ _ _ => rfl) f7.1 (fun t ht => ⟨f 153 t (by omega), f 154 t (by omega), f 155 t (by omega), f 152 t (by omega)⟩) k1, sy_a_c (sx_of h) n6 rfl rfl (fun _ _ => rfl) f7.2.1 (fun j _ => f _ _ (by omega)) k2, sy_s_c (sx_of h) rfl (fun _ _ => ⟨rfl, rfl, rfl⟩) f7.2.2 (fun j _ => ⟨f _ _ (by omega), f _ _ (by omega), f _ _ (by omega)⟩) k3, sy_r_c (fun _ _ => rfl) (fun j _ => f _ _ (by omega)) k4⟩
theorem sy_2_B (n6 : gB 140 1 ≤ 6) (h : su_e gB gB') (f7 : gB' 137 54 = gB 137 54 ∧ gB' 137 55 = gB 137 55) (f : ∀ a b : Nat, 173 ≤ a ∧ a ≤ 178 → gB' a b = gB a b) (k : sy_2 gA gB) : sy_2 gA gB' := by
  obtain ⟨k1, k2, k3, k4⟩ := k
  exact ⟨sy_n_c (V := sy_w gB 173 0) (sx_of h) rfl rfl (fun _ _ _ _ => rfl) (f _ _ (by omega)) (fun t ht => ⟨f 173 _ (by omega), f 173 _ (by omega), f 173 _ (by omega), f 173 _ (by omega)⟩) k1, sy_a_c (sx_of h) n6 rfl rfl (fun _ _ => rfl) f7.1 (fun j _ => f _ _ (by omega)) k2, sy_s_c (sx_of h) rfl (fun _ _ => ⟨rfl, rfl, rfl⟩) f7.2 (fun j _ => ⟨f _ _ (by omega), f _ _ (by omega), f _ _ (by omega)⟩) k3, sy_r_c (fun _ _ => rfl) (fun j _ => f _ _ (by omega)) k4⟩
theorem ru_t_A (f : mz_fr (na_ x) gA gA') (hx : mk_x x) (k : ru_t gA gB) : ru_t gA' gB := by
  have kx := kn_x hx
  unfold mk_x at hx
  obtain ⟨k1, k2, ⟨k3, k4⟩, k5, k6, k7⟩ := k
  refine ⟨fun q i hq => ?_, k2, ⟨?_, fun j => ?_⟩, ?_, ?_, ?_⟩
  · rw [f _ _ (by unfold na_; omega)]; exact k1 q i hq
  · rw [f _ _ (by unfold na_; omega)]; exact k3
  · rw [f _ _ (by unfold na_; omega)]; exact k4 j
  · rw [f _ _ (by unfold na_; omega)]; exact k5
  · rw [f _ _ (by unfold na_; omega)]; exact k6
  · rw [f _ _ (by unfold na_; omega)]; exact k7
theorem ru_t_B (f15 : gB' 137 15 = gB 137 15) (f24 : gB' 137 24 = gB 137 24) (f : ∀ a b : Nat, a = 151 ∨ 2000 ≤ a → gB' a b = gB a b) (k : ru_t gA gB) : ru_t gA gB' := by
  obtain ⟨k1, k2, ⟨k3, k4⟩, k5, k6⟩ := k
  refine ⟨k1, fun q i hq => ?_, ⟨?_, fun j => ?_⟩, ?_, k6⟩
  · rw [f _ _ (by omega)]; exact k2 q i hq
  · rw [f15]; exact k3
  · rw [f _ _ (by omega)]; exact k4 j
  · rw [f24]; exact k5
theorem ru_n_B (h : su_e gB gB') (k : ru_n gB) : ru_n gB' := by
  obtain ⟨k1, k2⟩ := k
  have n1 := h 140 1 (by decide) (by decide)
  refine ⟨by rw [n1]; exact k1, fun t ht => ?_⟩
  rw [n1] at ht
  rw [h 144 t (by decide) (by decide)]
  exact k2 t ht
/-- the class's side changes where nothing is told -/
theorem ru_A (hx : mk_x x) (f : mz_fr (na_ x) gA gA') (k : ru x gA gB) : ru x gA' gB := by
  have kx := kn_x hx
  unfold mk_x at hx
  obtain ⟨k1, k2, k3, k4, k5, k6⟩ := k
  have e7 : gA' 0 7 = gA 0 7 := f _ _ (by unfold na_; omega)
  refine ⟨ru_t_A f hx k1, sta_A k2 (fun a b u v => f a b (by unfold na_; omega)), k3, sy_1_A k3.1.2 (fun a b u v => f a b (by unfold na_; omega)) k4, by rw [e7]; exact k5, fun z => ?_⟩
  rw [e7] at z
  exact sy_2_A k3.1.2 (fun a b u v => f a b (by unfold na_; omega)) (k6 z)
/-- the reference's side changes where nothing is told -/
theorem ru_B (f : mz_fr nb_ gB gB') (k : ru x gA gB) : ru x gA gB' := by
  obtain ⟨k1, k2, k3, k4, k5, k6⟩ := k
  have h : su_e gB gB' := fun a b u v => f a b (by unfold nb_; omega)
  refine ⟨ru_t_B (f _ _ (by unfold nb_; omega)) (f _ _ (by unfold nb_; omega)) (fun a b z => f a b (by unfold nb_; omega)) k1, sta_B k2 h, ru_n_B h k3, sy_1_B k3.1.2 h ⟨f _ _ (by unfold nb_; omega), f _ _ (by unfold nb_; omega), f _ _ (by unfold nb_; omega)⟩ (fun a b z => f a b (by unfold nb_; omega)) k4, by rw [f 137 53 (by unfold nb_; omega)]; exact k5, fun z => ?_⟩
  exact sy_2_B k3.1.2 h ⟨f _ _ (by unfold nb_; omega), f _ _ (by unfold nb_; omega)⟩ (fun a b z => f a b (by unfold nb_; omega)) (k6 z)
end RU
