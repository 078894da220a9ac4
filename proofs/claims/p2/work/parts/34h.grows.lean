/-! THE CLASS'S READING OF A RULE is a run -/
theorem EV_s {B : Int → Int} {n b e kd d w : Int} {S : List Int} {nc k : Int} {F Z : Int → Int → Prop} {b1 e1 kd1 nu d1 w1 : Int} {S1 : List Int} {nc1 k1 : Int} (ht : tk_tok B n e b1 e1 kd1 nu) (h : EV B n b1 e1 kd1 d1 w1 S1 nc1 k1 F Z) (h1 : d = 1 → ∀ N : Int → Int → List Int → Int → Int → Prop, N d1 w1 S1 nc1 k1 → cp_part B b e kd w S nc k F N) (h0 : d = 0 → ¬ (w = 0 ∧ kd = 59) ∧ ∀ N : Int → Int → List Int → Int → Int → Prop, N d1 w1 S1 nc1 k1 → cp_sign B b e kd w S nc k F N) : EV B n b e kd d w S nc k F Z := by
  obtain ⟨m, h⟩ := h
  exact ⟨m + 1, fun z => h1 z _ ⟨b1, e1, kd1, nu, ht, h⟩, fun z => ⟨fun y => absurd y (h0 z).1, fun _ => (h0 z).2 _ ⟨b1, e1, kd1, nu, ht, h⟩⟩⟩
theorem EV_f {B : Int → Int} {n b e kd d w : Int} {S : List Int} {nc k : Int} {F Z : Int → Int → Prop} (h1 : d = 1 → ∀ N : Int → Int → List Int → Int → Int → Prop, cp_part B b e kd w S nc k F N) (h0 : d = 0 → ¬ (w = 0 ∧ kd = 59) ∧ ∀ N : Int → Int → List Int → Int → Int → Prop, cp_sign B b e kd w S nc k F N) : EV B n b e kd d w S nc k F Z := ⟨1, fun z => h1 z _, fun z => ⟨fun y => absurd y (h0 z).1, fun _ => (h0 z).2 _⟩⟩
theorem EV_z {B : Int → Int} {n b e kd d w : Int} {S : List Int} {nc k : Int} {F Z : Int → Int → Prop} (hd : d = 0) (hw : w = 0) (hk : kd = 59) (h : Z b e) : EV B n b e kd d w S nc k F Z := ⟨1, fun z => absurd (hd.symm.trans z) (by decide), fun _ => ⟨fun _ => h, fun y => absurd ⟨hw, hk⟩ y⟩⟩
/-- where the class is in its run from the token b0 on, fine or not -/
def gq_i (B : Int → Int) (n b0 e0 kd0 : Int) (g : mz_G) (fine : Int) : Prop := (fine = 1 ∧ ∃ S, st_k g S ∧ okc (g 81 7) (g 81 5) S (g 81 8) (g 81 6) ∧ ∀ F Z, EV B n (g 82 5) (g 82 3) (g 82 4) (g 81 7) (g 81 5) S (g 81 8) (g 81 6) F Z → EV B n b0 e0 kd0 1 0 [] 1 0 F Z) ∨ (fine = 0 ∧ ∀ F Z, F (g 81 1) (g 81 2) → EV B n b0 e0 kd0 1 0 [] 1 0 F Z)
theorem gq_0 {B : Int → Int} {n b0 e0 kd0 : Int} {g : mz_G} (h4 : g 81 4 = 0) (h7 : g 81 7 = 1) (h5 : g 81 5 = 0) (h8 : g 81 8 = 1) (h6 : g 81 6 = 0) (b : g 82 5 = b0) (e : g 82 3 = e0) (k : g 82 4 = kd0) : gq_i B n b0 e0 kd0 g 1 := by
  refine Or.inl ⟨rfl, [], ⟨by rw [h4]; rfl, by simp, fun n hn => absurd hn (by simp)⟩, ?_, ?_⟩
  · rw [h7, h5, h8, h6]
    exact okc_0
  · rw [h7, h5, h8, h6, b, e, k]
    exact fun _ _ h => h
theorem gq_l {B : Int → Int} {n b0 e0 kd0 : Int} {g : mz_G} {fine : Int} (h : gq_i B n b0 e0 kd0 g fine) (hf : fine ≠ 0) : ∃ S, st_k g S ∧ okc (g 81 7) (g 81 5) S (g 81 8) (g 81 6) ∧ ∀ F Z, EV B n (g 82 5) (g 82 3) (g 82 4) (g 81 7) (g 81 5) S (g 81 8) (g 81 6) F Z → EV B n b0 e0 kd0 1 0 [] 1 0 F Z := by
  rcases h with h | h
  · exact h.2
  · exact absurd h.1 hf
theorem gq_x {B C : Int → Int} {n m b0 e0 kd0 : Int} {g g1 : mz_G} {r : Int} {S : List Int} {c : (Int → Int → Prop) → (Int → Int → List Int → Int → Int → Prop) → Prop} (hB : C = B) (hn : m = n) (h : ∀ F Z, EV B n (g 82 5) (g 82 3) (g 82 4) (g 81 7) (g 81 5) S (g 81 8) (g 81 6) F Z → EV B n b0 e0 kd0 1 0 [] 1 0 F Z) (hx : (∃ x y : Int, ∀ F N, c F N ↔ F x y) ∨ (g 82 4 ≠ 0 ∧ ∃ (d w1 : Int) (S1 : List Int) (nc1 k1 : Int), okc d w1 S1 nc1 k1 ∧ ∀ F N, c F N ↔ N d w1 S1 nc1 k1)) (hc : c (cp_F g1 r) (cp_N C m (g 82 3) g g1 r)) (h1 : g 81 7 = 1 → ∀ F N, c F N → cp_part B (g 82 5) (g 82 3) (g 82 4) (g 81 5) S (g 81 8) (g 81 6) F N) (h0 : g 81 7 = 0 → ¬ (g 81 5 = 0 ∧ g 82 4 = 59) ∧ ∀ F N, c F N → cp_sign B (g 82 5) (g 82 3) (g 82 4) (g 81 5) S (g 81 8) (g 81 6) F N) : gq_i B n b0 e0 kd0 g1 r ∧ (r ≠ 0 → g 82 4 ≠ 0 ∧ ∃ nu, tk_tok B n (g 82 3) (g1 82 5) (g1 82 3) (g1 82 4) nu) := by
  rw [hB, hn] at hc
  rcases hx with ⟨x, y, hx⟩ | ⟨hk, d, w1, S1, nc1, k1, hok, hx⟩
  · obtain ⟨z1, z2, z3⟩ := (hx _ _).mp hc
    refine ⟨Or.inr ⟨z1, fun F Z hF => h F Z (EV_f (fun z N => h1 z _ _ ((hx _ _).mpr ?_)) (fun z => ⟨(h0 z).1, fun N => (h0 z).2 _ _ ((hx _ _).mpr ?_)⟩))⟩, fun y => absurd z1 y⟩
    · rw [← z2, ← z3]; exact hF
    · rw [← z2, ← z3]; exact hF
  · obtain ⟨z1, z2, z3, z4, z5, z6, z7, z8, nu, z9⟩ := (hx _ _).mp hc
    refine ⟨Or.inl ⟨z1, S1, z2, by rw [z3, z4, z5, z6]; exact hok, fun F Z hE => h F Z (EV_s z9 hE (fun z N hN => h1 z _ _ ((hx _ _).mpr ?_)) (fun z => ⟨(h0 z).1, fun N hN => (h0 z).2 _ _ ((hx _ _).mpr ?_)⟩))⟩, fun _ => ⟨hk, nu, z9⟩⟩
    · rw [z3, z4, z5, z6] at hN; exact hN
    · rw [z3, z4, z5, z6] at hN; exact hN
theorem gq_part {B C : Int → Int} {n m b0 e0 kd0 : Int} {g g1 : mz_G} {r : Int} {S : List Int} (hB : C = B) (hn : m = n) (h : ∀ F Z, EV B n (g 82 5) (g 82 3) (g 82 4) (g 81 7) (g 81 5) S (g 81 8) (g 81 6) F Z → EV B n b0 e0 kd0 1 0 [] 1 0 F Z) (ho : okc (g 81 7) (g 81 5) S (g 81 8) (g 81 6)) (hd : g 81 7 = 1) (hc : cp_part C (g 82 5) (g 82 3) (g 82 4) (g 81 5) S (g 81 8) (g 81 6) (cp_F g1 r) (cp_N C m (g 82 3) g g1 r)) : gq_i B n b0 e0 kd0 g1 r ∧ (r ≠ 0 → g 82 4 ≠ 0 ∧ ∃ nu, tk_tok B n (g 82 3) (g1 82 5) (g1 82 3) (g1 82 4) nu) := by
  refine gq_x (c := cp_part C (g 82 5) (g 82 3) (g 82 4) (g 81 5) S (g 81 8) (g 81 6)) hB hn h (cp_part_x C _ _ _ (hd ▸ ho)) hc (fun _ F N q => ?_) (fun z => absurd (hd.symm.trans z) (by decide))
  rw [← hB]; exact q
theorem gq_sign {B C : Int → Int} {n m b0 e0 kd0 : Int} {g g1 : mz_G} {r : Int} {S : List Int} (hB : C = B) (hn : m = n) (h : ∀ F Z, EV B n (g 82 5) (g 82 3) (g 82 4) (g 81 7) (g 81 5) S (g 81 8) (g 81 6) F Z → EV B n b0 e0 kd0 1 0 [] 1 0 F Z) (ho : okc (g 81 7) (g 81 5) S (g 81 8) (g 81 6)) (hd : g 81 7 = 0) (hz : ¬ (g 81 5 = 0 ∧ g 82 4 = 59)) (hc : cp_sign C (g 82 5) (g 82 3) (g 82 4) (g 81 5) S (g 81 8) (g 81 6) (cp_F g1 r) (cp_N C m (g 82 3) g g1 r)) : gq_i B n b0 e0 kd0 g1 r ∧ (r ≠ 0 → g 82 4 ≠ 0 ∧ ∃ nu, tk_tok B n (g 82 3) (g1 82 5) (g1 82 3) (g1 82 4) nu) := by
  refine gq_x (c := cp_sign C (g 82 5) (g 82 3) (g 82 4) (g 81 5) S (g 81 8) (g 81 6)) hB hn h (cp_sign_x C _ _ _ (hd ▸ ho)) hc (fun z => absurd (hd.symm.trans z) (by decide)) (fun _ => ⟨hz, fun F N q => ?_⟩)
  rw [← hB]; exact q
/-- what has been read behind 'grows': fine, an EXPR ahead of the token now, or its fault -/
def gq_o (B : Int → Int) (n b0 e0 kd0 : Int) (g : mz_G) (r : Int) : Prop := (r = 1 → g 82 4 = 59 ∧ ∀ F Z, Z (g 82 5) (g 82 3) → EV B n b0 e0 kd0 1 0 [] 1 0 F Z) ∧ (r ≠ 1 → r = 0 ∧ ∀ F Z, F (g 81 1) (g 81 2) → EV B n b0 e0 kd0 1 0 [] 1 0 F Z)
theorem gq_end {B : Int → Int} {n b0 e0 kd0 : Int} {g g1 : mz_G} {fine : Int} (h : gq_i B n b0 e0 kd0 g fine) (hf : fine = 0 ∨ (g 81 7 = 0 ∧ g 81 5 = 0 ∧ g 82 4 = 59)) (e1 : g1 81 1 = g 81 1) (e2 : g1 81 2 = g 81 2) (f5 : g1 82 5 = g 82 5) (f3 : g1 82 3 = g 82 3) (f4 : g1 82 4 = g 82 4) : gq_o B n b0 e0 kd0 g1 fine := by
  unfold gq_o
  rw [e1, e2, f5, f3, f4]
  rcases h with ⟨z, S, h1, h2, h3⟩ | ⟨z, h1⟩
  · rcases hf with y | ⟨y1, y2, y3⟩
    · omega
    · exact ⟨fun _ => ⟨y3, fun F Z hZ => h3 F Z (EV_z y1 y2 y3 hZ)⟩, fun y => absurd z y⟩
  · exact ⟨fun y => absurd (z.symm.trans y) (by decide), fun _ => ⟨z, h1⟩⟩
