/-! A RUN of the class's reading of a rule, config by config, with what it puts out (signs behind their parts) -/
def co : List Int → Int → List Int
  | [], _ => []
  | a :: S, r => if r ≤ rk a then a :: co S r else []
theorem co_self {S : List Int} {r : Int} (h : rk (tp S) < r) : co S r = [] := by
  cases S with
  | nil => rfl
  | cons a T => exact if_neg (by have h : rk a < r := h; omega)
theorem co_top {a : Int} {S : List Int} {r : Int} (h : r ≤ rk a) : co (a :: S) r = a :: co S r := if_pos h
theorem cl_top {a : Int} {S : List Int} {r : Int} (h : r ≤ rk a) : cl (a :: S) r = cl S r := if_pos h
theorem cl_not {a : Int} {S : List Int} {r : Int} (h : ¬ r ≤ rk a) : cl (a :: S) r = a :: S := if_neg h
theorem co_not {a : Int} {S : List Int} {r : Int} (h : ¬ r ≤ rk a) : co (a :: S) r = [] := if_neg h
theorem cl_self {S : List Int} {r : Int} (h : rk (tp S) < r) : cl S r = S := by
  cases S with
  | nil => rfl
  | cons a T =>
    have h : rk a < r := h
    exact if_neg (by omega)
theorem cl_cl : ∀ (S : List Int) (s r : Int), r ≤ s → cl (cl S s) r = cl S r
  | [], _, _, _ => rfl
  | a :: S, s, r, h => by
    by_cases z : s ≤ rk a
    · rw [cl_top z, cl_top (r := r) (by omega)]
      exact cl_cl S s r h
    · rw [cl_not z]
theorem co_cl : ∀ (S : List Int) (s r : Int), r ≤ s → co S r = co S s ++ co (cl S s) r
  | [], _, _, _ => rfl
  | a :: S, s, r, h => by
    by_cases z : s ≤ rk a
    · rw [cl_top z, co_top z, co_top (r := r) (by omega), co_cl S s r h]
      rfl
    · rw [cl_not z, co_not z]
      rfl
theorem cl_rk : ∀ (S : List Int) (r : Int), 1 ≤ r → rk (tp (cl S r)) < r
  | [], r, h => by
    show rk 0 < r
    exact (by show (0 : Int) < r; omega)
  | a :: S, r, h => by
    by_cases z : r ≤ rk a
    · rw [cl_top z]; exact cl_rk S r h
    · rw [cl_not z]; show rk a < r; omega
theorem co_len : ∀ (S : List Int) (r : Int), (co S r).length + (cl S r).length = S.length
  | [], _ => rfl
  | a :: S, r => by
    by_cases z : r ≤ rk a
    · rw [cl_top z, co_top z]
      have := co_len S r
      simp only [List.length_cons]
      omega
    · rw [cl_not z, co_not z]
      simp
/-- what a token is worth as a part: a number, or a value's sign -/
noncomputable def vv (B : Int → Int) (kd b e : Int) : Int :=
  if kd = 2 then tk_nv B b (e - b).toNat else
  @ite Int (tk_sp B kd b e 6) (Classical.propDecidable _) (-1)
  (@ite Int (tk_sp B kd b e 3) (Classical.propDecidable _) (-2)
  (@ite Int (tk_sp B kd b e 7) (Classical.propDecidable _) (-3)
  (@ite Int (tk_sp B kd b e 8) (Classical.propDecidable _) (-4)
  (@ite Int (tk_sp B kd b e 9) (Classical.propDecidable _) (-5)
  (@ite Int (tk_sp B kd b e 10) (Classical.propDecidable _) (-6)
  (@ite Int (tk_sp B kd b e 11) (Classical.propDecidable _) (-7) 0))))))
abbrev pw_F : Type := Int → Int → Prop
abbrev pw_N : Type := Int → Int → List Int → Int → Int → List Int → Prop
def cp_part (B : Int → Int) (b e kd w : Int) (S : List Int) (nc k : Int) (F : pw_F) (N : pw_N) : Prop :=
  (kd ≠ 2 → kd ≠ 1 → kd ≠ 40 → F 1 b) ∧ ((kd = 2 ∨ kd = 1 ∨ kd = 40) → (6 ≤ w → F 2 b) ∧ (w < 6 → (kd = 40 → N 1 (w + 1) (-20 :: S) 1 0 []) ∧ (kd ≠ 40 → ((nc = 1 ∧ tk_sp B kd b e 5) → (6 ≤ k → F 2 b) ∧ (k < 6 → N 1 w (-13 :: S) nc (k + 1) [])) ∧ (¬ (nc = 1 ∧ tk_sp B kd b e 5) → ((kd = 2 ∧ 4 < e - b) → F 2 b) ∧ ((kd = 1 ∧ ¬ tk_val B kd b e) → F 3 b) ∧ (¬ (kd = 2 ∧ 4 < e - b) → ¬ (kd = 1 ∧ ¬ tk_val B kd b e) → N 0 w S nc k [vv B kd b e])))))
def cp_sign (B : Int → Int) (b e kd w : Int) (S : List Int) (nc k : Int) (F : pw_F) (N : pw_N) : Prop :=
  ((kd = 41 ∧ 0 < w) → N 0 (w - 1) (cl S 1).tail nc k (co S 1)) ∧ (¬ (kd = 41 ∧ 0 < w) → ∀ sg, tk_so B kd b e sg → (rk sg = 0 → F 1 b) ∧ (rk sg ≠ 0 → ((rk sg = 4 ∧ rk (tp (cl S 5)) = 4) → F 1 b) ∧ (¬ (rk sg = 4 ∧ rk (tp (cl S 5)) = 4) → N 1 w (sg :: cl S (if rk sg = 4 then 5 else rk sg)) (if rk sg ≤ 2 then 1 else 0) 0 (co S (if rk sg = 4 then 5 else rk sg)))))
theorem cp_part_x (B : Int → Int) (b e kd : Int) {w : Int} {S : List Int} {nc k : Int} (h : okc 1 w S nc k) : (∃ x y : Int, ∀ F N, cp_part B b e kd w S nc k F N ↔ F x y) ∨ (kd ≠ 0 ∧ ∃ (d w1 : Int) (S1 : List Int) (nc1 k1 : Int) (D : List Int), okc d w1 S1 nc1 k1 ∧ D.length + S1.length ≤ S.length + 1 ∧ (nc1 = 0 ∨ nc1 = 1 ∨ nc1 = nc) ∧ ∀ F N, cp_part B b e kd w S nc k F N ↔ N d w1 S1 nc1 k1 D) := by
  obtain ⟨_, o1, o2, o3, o4⟩ := h
  have o4 := o4 rfl
  unfold cp_part
  by_cases h0 : kd = 2 ∨ kd = 1 ∨ kd = 40
  · by_cases h1 : 6 ≤ w
    · exact Or.inl ⟨2, b, fun F N => ⟨fun h => (h.2 h0).1 h1, fun h => ⟨fun a1 a2 a3 => by omega, fun _ => ⟨fun _ => h, fun a => absurd h1 (by omega)⟩⟩⟩⟩
    · have h1 : w < 6 := by omega
      by_cases h2 : kd = 40
      · refine Or.inr ⟨by omega, 1, w + 1, -20 :: S, 1, 0, [], ⟨Or.inr rfl, by omega, by omega, ⟨fun _ => ⟨by omega, by rw [show w + 1 - 1 = w by omega]; exact o3⟩, fun a => absurd rfl a⟩, fun _ _ => ⟨rfl, by show (0 : Int) ≤ 3; omega⟩⟩, by simp, Or.inr (Or.inl rfl), fun F N => ⟨fun h => ((h.2 h0).2 h1).1 h2, fun h => ⟨fun a1 a2 a3 => by omega, fun _ => ⟨fun a => by omega, fun _ => ⟨fun _ => h, fun a => absurd h2 a⟩⟩⟩⟩⟩
      · by_cases h3 : nc = 1 ∧ tk_sp B kd b e 5
        · obtain ⟨n1, n2⟩ := o4 h3.1
          by_cases h4 : 6 ≤ k
          · exact Or.inl ⟨2, b, fun F N => ⟨fun h => (((h.2 h0).2 h1).2 h2).1 h3 |>.1 h4, fun h => ⟨fun a1 a2 a3 => by omega, fun _ => ⟨fun a => by omega, fun _ => ⟨fun a => absurd a h2, fun _ => ⟨fun _ => ⟨fun _ => h, fun a => by omega⟩, fun a => absurd h3 a⟩⟩⟩⟩⟩⟩
          · have h4 : k < 6 := by omega
            have hr := rk_b (tp S)
            refine Or.inr ⟨by omega, 1, w, -13 :: S, nc, k + 1, [], ⟨Or.inr rfl, o1, o2, ⟨fun a => absurd a (by decide), fun _ => ⟨by decide, o3, ?_, fun _ => by omega⟩⟩, fun _ _ => ⟨by show k + 1 = nn S + 1; omega, by show (3 : Int) ≤ 3; omega⟩⟩, by simp, Or.inr (Or.inr rfl), fun F N => ⟨fun h => (((h.2 h0).2 h1).2 h2).1 h3 |>.2 h4, fun h => ⟨fun a1 a2 a3 => by omega, fun _ => ⟨fun a => by omega, fun _ => ⟨fun a => absurd a h2, fun _ => ⟨fun _ => ⟨fun a => by omega, fun _ => h⟩, fun a => absurd h3 a⟩⟩⟩⟩⟩⟩
            rcases (by omega : rk (tp S) < 3 ∨ rk (tp S) = 3) with y | y
            · exact Or.inl y
            · exact Or.inr ⟨rfl, hr.2.2.mp y⟩
        · by_cases h5 : kd = 2 ∧ 4 < e - b
          · exact Or.inl ⟨2, b, fun F N => ⟨fun h => (((h.2 h0).2 h1).2 h2).2 h3 |>.1 h5, fun h => ⟨fun a1 a2 a3 => by omega, fun _ => ⟨fun a => by omega, fun _ => ⟨fun a => absurd a h2, fun _ => ⟨fun a => absurd a h3, fun _ => ⟨fun _ => h, fun a => by omega, fun a => absurd h5 a⟩⟩⟩⟩⟩⟩⟩
          · by_cases h6 : kd = 1 ∧ ¬ tk_val B kd b e
            · exact Or.inl ⟨3, b, fun F N => ⟨fun h => (((h.2 h0).2 h1).2 h2).2 h3 |>.2.1 h6, fun h => ⟨fun a1 a2 a3 => by omega, fun _ => ⟨fun a => by omega, fun _ => ⟨fun a => absurd a h2, fun _ => ⟨fun a => absurd a h3, fun _ => ⟨fun a => absurd a h5, fun _ => h, fun _ a => absurd h6 a⟩⟩⟩⟩⟩⟩⟩
            · exact Or.inr ⟨by omega, 0, w, S, nc, k, [vv B kd b e], ⟨Or.inl rfl, o1, o2, o3, fun a => absurd a (by decide)⟩, by simp; omega, Or.inr (Or.inr rfl), fun F N => ⟨fun h => (((h.2 h0).2 h1).2 h2).2 h3 |>.2.2 h5 h6, fun h => ⟨fun a1 a2 a3 => by omega, fun _ => ⟨fun a => by omega, fun _ => ⟨fun a => absurd a h2, fun _ => ⟨fun a => absurd a h3, fun _ => ⟨fun a => absurd a h5, fun a => absurd a h6, fun _ _ => h⟩⟩⟩⟩⟩⟩⟩
  · exact Or.inl ⟨1, b, fun F N => ⟨fun h => h.1 (by omega) (by omega) (by omega), fun h => ⟨fun _ _ _ => h, fun a => absurd a h0⟩⟩⟩
theorem cp_sign_x (B : Int → Int) (b e kd : Int) {w : Int} {S : List Int} {nc k : Int} (h : okc 0 w S nc k) : (∃ x y : Int, ∀ F N, cp_sign B b e kd w S nc k F N ↔ F x y) ∨ (kd ≠ 0 ∧ ∃ (d w1 : Int) (S1 : List Int) (nc1 k1 : Int) (D : List Int), okc d w1 S1 nc1 k1 ∧ D.length + S1.length ≤ S.length + 1 ∧ (nc1 = 0 ∨ nc1 = 1 ∨ nc1 = nc) ∧ ∀ F N, cp_sign B b e kd w S nc k F N ↔ N d w1 S1 nc1 k1 D) := by
  obtain ⟨_, o1, o2, o3, _⟩ := h
  unfold cp_sign
  by_cases h0 : kd = 41 ∧ 0 < w
  · obtain ⟨c1, c2⟩ := sh_cl S w 1 (by omega) o3
    exact Or.inr ⟨by omega, 0, w - 1, (cl S 1).tail, nc, k, co S 1, ⟨Or.inl rfl, by omega, by omega, sh_tail c1 h0.2 c2, fun a => absurd a (by decide)⟩, by have := co_len S 1; rw [List.length_tail]; omega, Or.inr (Or.inr rfl), fun F N => ⟨fun h => h.1 h0, fun h => ⟨fun _ => h, fun a => absurd h0 a⟩⟩⟩
  · obtain ⟨sg, hs⟩ := tk_so_ex B kd b e
    obtain ⟨t1, t2, t3⟩ := tk_so_b hs
    have hr := rk_b sg
    by_cases h1 : rk sg = 0
    · refine Or.inl ⟨1, b, fun F N => ⟨fun h => (h.2 h0 sg hs).1 h1, fun h => ⟨fun a => absurd a h0, fun _ s hs2 => ?_⟩⟩⟩
      rw [tk_so_u hs2 hs]
      exact ⟨fun _ => h, fun a => absurd h1 a⟩
    · by_cases h2 : rk sg = 4 ∧ rk (tp (cl S 5)) = 4
      · refine Or.inl ⟨1, b, fun F N => ⟨fun h => ((h.2 h0 sg hs).2 h1).1 h2, fun h => ⟨fun a => absurd a h0, fun _ s hs2 => ?_⟩⟩⟩
        rw [tk_so_u hs2 hs]
        exact ⟨fun a => absurd a h1, fun _ => ⟨fun _ => h, fun a => absurd h2 a⟩⟩
      · have hc : sh (cl S (if rk sg = 4 then 5 else rk sg)) w ∧ rk (tp (cl S (if rk sg = 4 then 5 else rk sg))) < rk sg := by
          by_cases y : rk sg = 4
          · rw [if_pos y]
            obtain ⟨c1, c2⟩ := sh_cl S w 5 (by omega) o3
            have c3 := rk_b (tp (cl S 5))
            exact ⟨c1, by omega⟩
          · rw [if_neg y]
            exact sh_cl S w (rk sg) (by omega) o3
        refine Or.inr ⟨t1 h1, 1, w, sg :: cl S (if rk sg = 4 then 5 else rk sg), if rk sg ≤ 2 then 1 else 0, 0, co S (if rk sg = 4 then 5 else rk sg), ⟨Or.inr rfl, o1, o2, ⟨fun a => absurd a t3, fun _ => ⟨by omega, hc.1, Or.inl hc.2, fun a => absurd a t2⟩⟩, fun _ a => ⟨(if_neg t2).symm, ?_⟩⟩, by have := co_len S (if rk sg = 4 then 5 else rk sg); simp only [List.length_cons]; omega, by split; exact Or.inr (Or.inl rfl); exact Or.inl rfl, fun F N => ⟨fun h => ((h.2 h0 sg hs).2 h1).2 h2, fun h => ⟨fun a => absurd a h0, fun _ s hs2 => ?_⟩⟩⟩
        · show rk sg ≤ 3
          by_cases y : rk sg ≤ 2
          · omega
          · rw [if_neg y] at a
            exact absurd a (by decide)
        · rw [tk_so_u hs2 hs]
          exact ⟨fun a => absurd a h1, fun _ => ⟨fun a => absurd a h2, fun _ => h⟩⟩
abbrev pw_Z : Type := Int → Int → List Int → Prop
/-- the run: F what place at a fault, Z begin end and what is put out at a whole EXPR -/
def ev (B : Int → Int) (n : Int) (F : pw_F) (Z : pw_Z) : Nat → Int → Int → Int → Int → Int → List Int → Int → Int → List Int → Prop
  | 0, _, _, _, _, _, _, _, _, _ => False
  | m + 1, b, e, kd, d, w, S, nc, k, O =>
    (d = 1 → cp_part B b e kd w S nc k F (fun d1 w1 S1 nc1 k1 D => ∃ b1 e1 kd1 nu : Int, tk_tok B n e b1 e1 kd1 nu ∧ ev B n F Z m b1 e1 kd1 d1 w1 S1 nc1 k1 (O ++ D)))
    ∧ (d = 0 → (w = 0 ∧ kd = 59 → Z b e (O ++ co S 1)) ∧ (¬ (w = 0 ∧ kd = 59) → cp_sign B b e kd w S nc k F (fun d1 w1 S1 nc1 k1 D => ∃ b1 e1 kd1 nu : Int, tk_tok B n e b1 e1 kd1 nu ∧ ev B n F Z m b1 e1 kd1 d1 w1 S1 nc1 k1 (O ++ D))))
def EV (B : Int → Int) (n b e kd d w : Int) (S : List Int) (nc k : Int) (O : List Int) (F : pw_F) (Z : pw_Z) : Prop := ∃ m, ev B n F Z m b e kd d w S nc k O
/-- the run of a config tells one thing -/
theorem ev_det {B : Int → Int} {n : Int} {F F1 : pw_F} {Z Z1 : pw_Z} : ∀ (m m1 : Nat) {b e kd d w : Int} {S : List Int} {nc k : Int} {O : List Int}, okc d w S nc k → ev B n F Z m b e kd d w S nc k O → ev B n F1 Z1 m1 b e kd d w S nc k O → (∃ x y, F x y ∧ F1 x y) ∨ (∃ x y o, Z x y o ∧ Z1 x y o)
  | 0, _, _, _, _, _, _, _, _, _, _, _, h, _ => False.elim h
  | _ + 1, 0, _, _, _, _, _, _, _, _, _, _, _, h => False.elim h
  | m + 1, m1 + 1, b, e, kd, d, w, S, nc, k, O, ho, h, h1 => by
    have go : ∀ {c : pw_F → pw_N → Prop}, ((∃ x y : Int, ∀ F N, c F N ↔ F x y) ∨ (kd ≠ 0 ∧ ∃ (d w1 : Int) (S1 : List Int) (nc1 k1 : Int) (D : List Int), okc d w1 S1 nc1 k1 ∧ D.length + S1.length ≤ S.length + 1 ∧ (nc1 = 0 ∨ nc1 = 1 ∨ nc1 = nc) ∧ ∀ F N, c F N ↔ N d w1 S1 nc1 k1 D)) → c F (fun d1 w1 S1 nc1 k1 D => ∃ b1 e1 kd1 nu : Int, tk_tok B n e b1 e1 kd1 nu ∧ ev B n F Z m b1 e1 kd1 d1 w1 S1 nc1 k1 (O ++ D)) → c F1 (fun d1 w1 S1 nc1 k1 D => ∃ b1 e1 kd1 nu : Int, tk_tok B n e b1 e1 kd1 nu ∧ ev B n F1 Z1 m1 b1 e1 kd1 d1 w1 S1 nc1 k1 (O ++ D)) → (∃ x y, F x y ∧ F1 x y) ∨ (∃ x y o, Z x y o ∧ Z1 x y o) := by
      intro c hc a1 a2
      rcases hc with ⟨x, y, hc⟩ | ⟨_, d1, w1, S1, nc1, k1, D, hok, _, _, hc⟩
      · exact Or.inl ⟨x, y, (hc _ _).mp a1, (hc _ _).mp a2⟩
      · obtain ⟨b1, e1, kd1, nu, t1, r1⟩ := (hc _ _).mp a1
        obtain ⟨b2, e2, kd2, nu2, t2, r2⟩ := (hc _ _).mp a2
        obtain ⟨u1, u2, u3⟩ := tk_tok_v t1 t2
        rw [u1, u2, u3] at r2
        exact ev_det m m1 hok r1 r2
    rcases ho.1 with z | z
    · by_cases y : w = 0 ∧ kd = 59
      · exact Or.inr ⟨b, e, _, (h.2 z).1 y, (h1.2 z).1 y⟩
      · exact go (cp_sign_x B b e kd (z ▸ ho)) ((h.2 z).2 y) ((h1.2 z).2 y)
    · exact go (cp_part_x B b e kd (z ▸ ho)) (h.1 z) (h1.1 z)
theorem EV_det {B : Int → Int} {n b e kd d w : Int} {S : List Int} {nc k : Int} {O : List Int} {F F1 : pw_F} {Z Z1 : pw_Z} (ho : okc d w S nc k) (h : EV B n b e kd d w S nc k O F Z) (h1 : EV B n b e kd d w S nc k O F1 Z1) : (∃ x y, F x y ∧ F1 x y) ∨ (∃ x y o, Z x y o ∧ Z1 x y o) := by
  obtain ⟨m, h⟩ := h
  obtain ⟨m1, h1⟩ := h1
  exact ev_det m m1 ho h h1
theorem EV_s {B : Int → Int} {n b e kd d w : Int} {S : List Int} {nc k : Int} {O : List Int} {F : pw_F} {Z : pw_Z} {b1 e1 kd1 nu d1 w1 : Int} {S1 : List Int} {nc1 k1 : Int} {D : List Int} (ht : tk_tok B n e b1 e1 kd1 nu) (h : EV B n b1 e1 kd1 d1 w1 S1 nc1 k1 (O ++ D) F Z) (h1 : d = 1 → ∀ N : pw_N, N d1 w1 S1 nc1 k1 D → cp_part B b e kd w S nc k F N) (h0 : d = 0 → ¬ (w = 0 ∧ kd = 59) ∧ ∀ N : pw_N, N d1 w1 S1 nc1 k1 D → cp_sign B b e kd w S nc k F N) : EV B n b e kd d w S nc k O F Z := by
  obtain ⟨m, h⟩ := h
  exact ⟨m + 1, fun z => h1 z _ ⟨b1, e1, kd1, nu, ht, h⟩, fun z => ⟨fun y => absurd y (h0 z).1, fun _ => (h0 z).2 _ ⟨b1, e1, kd1, nu, ht, h⟩⟩⟩
theorem EV_f {B : Int → Int} {n b e kd d w : Int} {S : List Int} {nc k : Int} {O : List Int} {F : pw_F} {Z : pw_Z} (h1 : d = 1 → ∀ N : pw_N, cp_part B b e kd w S nc k F N) (h0 : d = 0 → ¬ (w = 0 ∧ kd = 59) ∧ ∀ N : pw_N, cp_sign B b e kd w S nc k F N) : EV B n b e kd d w S nc k O F Z := ⟨1, fun z => h1 z _, fun z => ⟨fun y => absurd y (h0 z).1, fun _ => (h0 z).2 _⟩⟩
theorem EV_z {B : Int → Int} {n b e kd d w : Int} {S : List Int} {nc k : Int} {O : List Int} {F : pw_F} {Z : pw_Z} (hd : d = 0) (hw : w = 0) (hk : kd = 59) (h : Z b e (O ++ co S 1)) : EV B n b e kd d w S nc k O F Z := ⟨1, fun z => absurd (hd.symm.trans z) (by decide), fun _ => ⟨fun _ => h, fun y => absurd ⟨hw, hk⟩ y⟩⟩
theorem cp_sign_nc {B : Int → Int} {b e kd w : Int} {S : List Int} {nc k nc1 k1 : Int} {F : pw_F} {N M : pw_N} (hN : ∀ w1 S1 a1 a2 c1 c2 D, N 0 w1 S1 a1 a2 D → M 0 w1 S1 c1 c2 D) (hM : ∀ w1 S1 a1 a2 D, N 1 w1 S1 a1 a2 D → M 1 w1 S1 a1 a2 D) (h : cp_sign B b e kd w S nc k F N) : cp_sign B b e kd w S nc1 k1 F M := ⟨fun z => hN _ _ _ _ _ _ _ (h.1 z), fun z sg hs => ⟨((h.2 z sg hs)).1, fun y => ⟨((h.2 z sg hs).2 y).1, fun x => hM _ _ _ _ _ (((h.2 z sg hs).2 y).2 x)⟩⟩⟩
/-- behind a part the nots tell nothing -/
theorem ev_nc {B : Int → Int} {n : Int} {F : pw_F} {Z : pw_Z} : ∀ (m : Nat) {b e kd w : Int} {S : List Int} {nc k nc1 k1 : Int} {O : List Int}, ev B n F Z m b e kd 0 w S nc k O → ev B n F Z m b e kd 0 w S nc1 k1 O
  | 0, _, _, _, _, _, _, _, _, _, _, h => h
  | m + 1, b, e, kd, w, S, nc, k, nc1, k1, O, h => ⟨fun z => absurd z (by decide), fun z => ⟨(h.2 z).1, fun y => cp_sign_nc (fun w1 S1 a1 a2 c1 c2 D q => by obtain ⟨b1, e1, kd1, nu, t, q⟩ := q; exact ⟨b1, e1, kd1, nu, t, ev_nc m q⟩) (fun _ _ _ _ _ q => q) ((h.2 z).2 y)⟩⟩
theorem EV_nc {B : Int → Int} {n b e kd w : Int} {S : List Int} {nc k nc1 k1 : Int} {O : List Int} {F : pw_F} {Z : pw_Z} (h : EV B n b e kd 0 w S nc k O F Z) : EV B n b e kd 0 w S nc1 k1 O F Z := by
  obtain ⟨m, h⟩ := h
  exact ⟨m, ev_nc m h⟩
theorem EV_sg {B : Int → Int} {n b e kd w : Int} {T : List Int} {nc k sg b1 e1 kd1 nu : Int} {O : List Int} {F : pw_F} {Z : pw_Z} (h41 : kd ≠ 41) (h59 : kd ≠ 59) (hs : tk_so B kd b e sg) (h0 : rk sg ≠ 0) (h4 : rk sg = 4 → rk (tp (cl T 5)) ≠ 4) (ht : tk_tok B n e b1 e1 kd1 nu) (h : EV B n b1 e1 kd1 1 w (sg :: cl T (if rk sg = 4 then 5 else rk sg)) (if rk sg ≤ 2 then 1 else 0) 0 (O ++ co T (if rk sg = 4 then 5 else rk sg)) F Z) : EV B n b e kd 0 w T nc k O F Z :=
  EV_s ht h (fun z => absurd z (by decide)) (fun _ => ⟨fun z => h59 z.2, fun N hN => ⟨fun z => absurd z.1 h41, fun _ s hs2 => by
    rw [tk_so_u hs2 hs]
    exact ⟨fun z => absurd z h0, fun _ => ⟨fun z => absurd z.2 (h4 z.1), fun _ => hN⟩⟩⟩⟩)
theorem EV_no {B : Int → Int} {n b e kd w : Int} {T : List Int} {nc k : Int} {O : List Int} {F : pw_F} {Z : pw_Z} (h41 : ¬ (kd = 41 ∧ 0 < w)) (h59 : ¬ (w = 0 ∧ kd = 59)) (hs : ∀ sg, tk_so B kd b e sg → rk sg = 0 ∨ (rk sg = 4 ∧ rk (tp (cl T 5)) = 4)) (hF : F 1 b) : EV B n b e kd 0 w T nc k O F Z :=
  EV_f (fun z => absurd z (by decide)) (fun _ => ⟨h59, fun N => ⟨fun z => absurd z h41, fun _ sg hq => by
    refine ⟨fun _ => hF, fun y => ⟨fun _ => hF, fun x => ?_⟩⟩
    rcases hs sg hq with u | u
    · exact absurd u y
    · exact absurd u x⟩⟩)
theorem EV_par {B : Int → Int} {n b e kd w : Int} {T : List Int} {nc k b1 e1 kd1 nu : Int} {O : List Int} {F : pw_F} {Z : pw_Z} (h41 : kd = 41) (hw : 0 < w) (ht : tk_tok B n e b1 e1 kd1 nu) (h : EV B n b1 e1 kd1 0 (w - 1) (cl T 1).tail nc k (O ++ co T 1) F Z) : EV B n b e kd 0 w T nc k O F Z :=
  EV_s ht h (fun z => absurd z (by decide)) (fun _ => ⟨fun z => by omega, fun N hN => ⟨fun _ => hN, fun z => absurd ⟨h41, hw⟩ z⟩⟩)
theorem EV_p1 {B : Int → Int} {n b e kd w : Int} {S : List Int} {nc k : Int} {O : List Int} {F : pw_F} {Z : pw_Z} (h2 : kd ≠ 2) (h1 : kd ≠ 1) (h40 : kd ≠ 40) (hF : F 1 b) : EV B n b e kd 1 w S nc k O F Z :=
  EV_f (fun _ N => ⟨fun _ _ _ => hF, fun z => by omega⟩) (fun z => absurd z (by decide))
theorem EV_p2 {B : Int → Int} {n b e kd w : Int} {S : List Int} {nc k : Int} {O : List Int} {F : pw_F} {Z : pw_Z} (hk : kd = 2 ∨ kd = 1 ∨ kd = 40) (hw : 6 ≤ w) (hF : F 2 b) : EV B n b e kd 1 w S nc k O F Z :=
  EV_f (fun _ N => ⟨fun _ _ _ => by omega, fun _ => ⟨fun _ => hF, fun z => absurd hw (by omega)⟩⟩) (fun z => absurd z (by decide))
theorem EV_open {B : Int → Int} {n b e kd w : Int} {S : List Int} {nc k b1 e1 kd1 nu : Int} {O : List Int} {F : pw_F} {Z : pw_Z} (hk : kd = 40) (hw : w < 6) (ht : tk_tok B n e b1 e1 kd1 nu) (h : EV B n b1 e1 kd1 1 (w + 1) (-20 :: S) 1 0 O F Z) : EV B n b e kd 1 w S nc k O F Z :=
  EV_s (D := []) ht (by rw [List.append_nil]; exact h) (fun _ N hN => ⟨fun _ _ _ => by omega, fun _ => ⟨fun z => by omega, fun _ => ⟨fun _ => hN, fun z => absurd hk z⟩⟩⟩) (fun z => absurd z (by decide))
theorem EV_not {B : Int → Int} {n b e kd w : Int} {S : List Int} {nc k b1 e1 kd1 nu : Int} {O : List Int} {F : pw_F} {Z : pw_Z} (hw : w < 6) (hn : nc = 1) (hq : tk_sp B kd b e 5) (hk : k < 6) (ht : tk_tok B n e b1 e1 kd1 nu) (h : EV B n b1 e1 kd1 1 w (-13 :: S) nc (k + 1) O F Z) : EV B n b e kd 1 w S nc k O F Z := by
  have h1 := hq.1
  exact EV_s (D := []) ht (by rw [List.append_nil]; exact h) (fun _ N hN => ⟨fun _ _ _ => by omega, fun _ => ⟨fun z => by omega, fun _ => ⟨fun z => by omega, fun _ => ⟨fun _ => ⟨fun z => by omega, fun _ => hN⟩, fun z => absurd ⟨hn, hq⟩ z⟩⟩⟩⟩) (fun z => absurd z (by decide))
theorem EV_not6 {B : Int → Int} {n b e kd w : Int} {S : List Int} {nc k : Int} {O : List Int} {F : pw_F} {Z : pw_Z} (hn : nc = 1) (hq : tk_sp B kd b e 5) (hk : 6 ≤ k) (hF : F 2 b) : EV B n b e kd 1 w S nc k O F Z := by
  have h1 := hq.1
  exact EV_f (fun _ N => ⟨fun _ _ _ => by omega, fun _ => ⟨fun _ => hF, fun _ => ⟨fun z => by omega, fun _ => ⟨fun _ => ⟨fun _ => hF, fun z => by omega⟩, fun z => absurd ⟨hn, hq⟩ z⟩⟩⟩⟩) (fun z => absurd z (by decide))
theorem EV_long {B : Int → Int} {n b e kd w : Int} {S : List Int} {nc k : Int} {O : List Int} {F : pw_F} {Z : pw_Z} (hk : kd = 2) (hl : 4 < e - b) (hF : F 2 b) : EV B n b e kd 1 w S nc k O F Z :=
  EV_f (fun _ N => ⟨fun _ _ _ => by omega, fun _ => ⟨fun _ => hF, fun _ => ⟨fun z => by omega, fun _ => ⟨fun z => absurd z.2.1 (by omega), fun _ => ⟨fun _ => hF, fun z => by omega, fun z => absurd ⟨hk, hl⟩ z⟩⟩⟩⟩⟩) (fun z => absurd z (by decide))
theorem EV_p3 {B : Int → Int} {n b e kd w : Int} {S : List Int} {nc k : Int} {O : List Int} {F : pw_F} {Z : pw_Z} (hw : w < 6) (hk : kd = 1) (hn : ¬ (nc = 1 ∧ tk_sp B kd b e 5)) (hv : ¬ tk_val B kd b e) (hF : F 3 b) : EV B n b e kd 1 w S nc k O F Z :=
  EV_f (fun _ N => ⟨fun _ _ _ => by omega, fun _ => ⟨fun z => by omega, fun _ => ⟨fun z => by omega, fun _ => ⟨fun z => absurd z hn, fun _ => ⟨fun z => by omega, fun _ => hF, fun _ z => absurd ⟨hk, hv⟩ z⟩⟩⟩⟩⟩) (fun z => absurd z (by decide))
theorem EV_val {B : Int → Int} {n b e kd w : Int} {S : List Int} {nc k b1 e1 kd1 nu : Int} {O : List Int} {F : pw_F} {Z : pw_Z} (hw : w < 6) (hk : (kd = 2 ∧ e - b ≤ 4) ∨ (kd = 1 ∧ tk_val B kd b e)) (hn : ¬ (nc = 1 ∧ tk_sp B kd b e 5)) (ht : tk_tok B n e b1 e1 kd1 nu) (h : EV B n b1 e1 kd1 0 w S nc k (O ++ [vv B kd b e]) F Z) : EV B n b e kd 1 w S nc k O F Z :=
  EV_s ht h (fun _ N hN => ⟨fun _ _ _ => by omega, fun _ => ⟨fun z => by omega, fun _ => ⟨fun z => by omega, fun _ => ⟨fun z => absurd z hn, fun _ => ⟨fun z => by omega, fun z => by
    rcases hk with u | u
    · omega
    · exact absurd u.2 z.2, fun _ _ => hN⟩⟩⟩⟩⟩) (fun z => absurd z (by decide))
/-! THE REFERENCE'S LEVELS (7 a part, 6 product, 5 sum, 3 not and test, 2 and, 1 expression) as pieces of the run -/
/-- what is known of the token behind a level -/
def rx (p : Int) (B : Int → Int) (b e kd : Int) (T : List Int) : Prop := (p ≤ 6 → kd ≠ 42 ∧ kd ≠ 47) ∧ (p ≤ 5 → kd ≠ 43 ∧ kd ≠ 45) ∧ (p ≤ 3 → kd = 60 ∨ kd = 61 → rk (tp (cl T 5)) = 4) ∧ (p ≤ 2 → ¬ tk_sp B kd b e 13) ∧ (p ≤ 1 → ¬ tk_sp B kd b e 12)
/-- a level's piece: from the token b with the stack S as far as the token b1, what is above S on the stack binds p and more, put out L in all when that is closed; or to its fault -/
def lv_R (B : Int → Int) (n p p1 w b e kd : Int) (S : List Int) (nc k : Int) (O : List Int) (b1 e1 kd1 bad pl : Int) (L : List Int) : Prop := (bad = 0 → ∃ T O1, cl T p = S ∧ O1 ++ co T p = O ++ L ∧ rx p1 B b1 e1 kd1 T ∧ ∀ F Z, EV B n b1 e1 kd1 0 w T 1 0 O1 F Z → EV B n b e kd 1 w S nc k O F Z) ∧ (bad ≠ 0 → ∀ (F : pw_F) (Z : pw_Z), F bad pl → EV B n b e kd 1 w S nc k O F Z)
section LV
variable {B : Int → Int} {n w b e kd nc k b1 e1 kd1 bad pl : Int} {S O L : List Int}
theorem lv_bad {p p1 : Int} (h0 : bad ≠ 0) (h : ∀ (F : pw_F) (Z : pw_Z), F bad pl → EV B n b e kd 1 w S nc k O F Z) : lv_R B n p p1 w b e kd S nc k O b1 e1 kd1 bad pl L := ⟨fun z => absurd z h0, fun _ => h⟩
theorem lv_w {p q p1 : Int} (h : lv_R B n p p1 w b e kd S nc k O b1 e1 kd1 bad pl L) (hq : q ≤ p) (hS : rk (tp S) < q) : lv_R B n q p1 w b e kd S nc k O b1 e1 kd1 bad pl L := by
  refine ⟨fun z => ?_, h.2⟩
  obtain ⟨T, O1, h1, h0, h2, h3⟩ := h.1 z
  exact ⟨T, O1, by rw [← cl_cl T p q hq, h1, cl_self hS], by rw [co_cl T p q hq, h1, co_self hS, List.append_nil, h0], h2, h3⟩
theorem lv_x {p p1 p2 : Int} (h : lv_R B n p p1 w b e kd S nc k O b1 e1 kd1 bad pl L) (hx : bad = 0 → ∀ T, cl T p = S → rx p1 B b1 e1 kd1 T → rx p2 B b1 e1 kd1 T) : lv_R B n p p2 w b e kd S nc k O b1 e1 kd1 bad pl L := by
  refine ⟨fun z => ?_, h.2⟩
  obtain ⟨T, O1, h1, h0, h2, h3⟩ := h.1 z
  exact ⟨T, O1, h1, h0, hx z T h1 h2, h3⟩
theorem cl_7 (S : List Int) : cl S 7 = S := cl_self (by have := (rk_b (tp S)).2.1; omega)
theorem co_7 (S : List Int) : co S 7 = [] := co_self (by have := (rk_b (tp S)).2.1; omega)
/-- a sign of the level itself, and what is right of it -/
theorem lv_go {p p1 q q1 pl1 sg b2 e2 kd2 nu b3 e3 kd3 bad1 nc1 : Int} {L2 : List Int} (h : lv_R B n p p1 w b e kd S nc k O b1 e1 kd1 bad pl L) (hb : bad = 0) (h41 : kd1 ≠ 41) (h59 : kd1 ≠ 59) (hs : tk_so B kd1 b1 e1 sg) (h0 : rk sg = p) (hp : 1 ≤ p) (h4 : p ≠ 4) (hn : nc1 = if p ≤ 2 then 1 else 0) (ht : tk_tok B n e1 b2 e2 kd2 nu) (h2 : lv_R B n q q1 w b2 e2 kd2 (sg :: S) nc1 0 (O ++ L) b3 e3 kd3 bad1 pl1 L2) (hq : p ≤ q) : lv_R B n p q1 w b e kd S nc k O b3 e3 kd3 bad1 pl1 (L ++ L2 ++ [sg]) := by
  obtain ⟨T, O1, i1, i0, _, i3⟩ := h.1 hb
  have hS : rk (tp S) < p := by rw [← i1]; exact cl_rk T p hp
  have go : ∀ F Z, EV B n b2 e2 kd2 1 w (sg :: S) nc1 0 (O ++ L) F Z → EV B n b e kd 1 w S nc k O F Z := fun F Z y => i3 F Z (EV_sg h41 h59 hs (by omega) (fun z => by omega) ht (by
    rw [if_neg (by omega), h0, i1, i0, ← hn]
    exact y))
  refine ⟨fun z => ?_, fun z F Z y => go F Z (h2.2 z F Z y)⟩
  obtain ⟨T1, O2, j1, j0, j2, j3⟩ := h2.1 z
  refine ⟨T1, O2, ?_, ?_, j2, fun F Z y => go F Z (j3 F Z y)⟩
  · rw [← cl_cl T1 q p hq, j1, cl_top (by omega), cl_self hS]
  · rw [co_cl T1 q p hq, j1, co_top (by omega), co_self hS, ← List.append_assoc, j0]
    simp only [List.append_assoc]
/-- a test: what it is of the level of nots -/
def lt_R (B : Int → Int) (n w b e kd : Int) (S : List Int) (nc k : Int) (O : List Int) (b1 e1 kd1 bad pl : Int) (L : List Int) : Prop := (bad = 0 → ∃ T O1, cl T 3 = cl S 3 ∧ O1 ++ co T 3 = (O ++ L) ++ co S 3 ∧ rx 3 B b1 e1 kd1 T ∧ ∀ F Z, EV B n b1 e1 kd1 0 w T 1 0 O1 F Z → EV B n b e kd 1 w S nc k O F Z) ∧ (bad ≠ 0 → ∀ (F : pw_F) (Z : pw_Z), F bad pl → EV B n b e kd 1 w S nc k O F Z)
theorem lv_test {pl1 sg b2 e2 kd2 nu b3 e3 kd3 bad1 : Int} {L2 : List Int} (h : lv_R B n 5 5 w b e kd S nc k O b1 e1 kd1 bad pl L) (hb : bad = 0) (h41 : kd1 ≠ 41) (h59 : kd1 ≠ 59) (hs : tk_so B kd1 b1 e1 sg) (h0 : rk sg = 4) (hS : rk (tp S) ≤ 3) (ht : tk_tok B n e1 b2 e2 kd2 nu) (h2 : lv_R B n 5 5 w b2 e2 kd2 (sg :: S) 0 0 (O ++ L) b3 e3 kd3 bad1 pl1 L2) : lt_R B n w b e kd S nc k O b3 e3 kd3 bad1 pl1 (L ++ L2 ++ [sg]) := by
  obtain ⟨T, O1, i1, i0, _, i3⟩ := h.1 hb
  have go : ∀ F Z, EV B n b2 e2 kd2 1 w (sg :: S) 0 0 (O ++ L) F Z → EV B n b e kd 1 w S nc k O F Z := fun F Z y => i3 F Z (EV_sg h41 h59 hs (by omega) (fun z => by rw [i1]; omega) ht (by
    rw [if_pos h0, i1, i0, if_neg (by omega)]
    exact y))
  refine ⟨fun z => ?_, fun z F Z y => go F Z (h2.2 z F Z y)⟩
  obtain ⟨T1, O2, j1, j0, j2, j3⟩ := h2.1 z
  refine ⟨T1, O2, ?_, ?_, ⟨fun _ => j2.1 (by decide), fun _ => j2.2.1 (by decide), fun _ _ => ?_, fun y => absurd y (by decide), fun y => absurd y (by decide)⟩, fun F Z y => go F Z (j3 F Z y)⟩
  · rw [← cl_cl T1 5 3 (by decide), j1, cl_top (by omega)]
  · rw [co_cl T1 5 3 (by decide), j1, co_top (by omega), ← List.append_assoc, j0]
    simp only [List.append_assoc, List.cons_append, List.nil_append]
  · rw [j1]
    exact h0
theorem lv_notest (h : lv_R B n 5 5 w b e kd S nc k O b1 e1 kd1 bad pl L) (hn : bad = 0 → kd1 ≠ 60 ∧ kd1 ≠ 61) : lt_R B n w b e kd S nc k O b1 e1 kd1 bad pl L := by
  refine ⟨fun z => ?_, h.2⟩
  obtain ⟨T, O1, h1, h0, h2, h3⟩ := h.1 z
  have hn := hn z
  exact ⟨T, O1, by rw [← cl_cl T 5 3 (by decide), h1], by rw [co_cl T 5 3 (by decide), h1, ← List.append_assoc, h0], ⟨fun _ => h2.1 (by decide), fun _ => h2.2.1 (by decide), fun _ y => by omega, fun y => absurd y (by decide), fun y => absurd y (by decide)⟩, h3⟩
/-- so many nots -/
def nt : Nat → List Int → List Int
  | 0, S => S
  | k + 1, S => -13 :: nt k S
theorem nt_cl : ∀ (k : Nat) {S : List Int}, rk (tp S) < 3 → cl (nt k S) 3 = S
  | 0, _, h => cl_self h
  | k + 1, S, h => (cl_top (a := -13) (by decide)).trans (nt_cl k h)
theorem nt_co : ∀ (k : Nat) {S : List Int}, rk (tp S) < 3 → co (nt k S) 3 = List.replicate k (-13)
  | 0, _, h => co_self h
  | k + 1, S, h => (co_top (a := -13) (by decide)).trans (by rw [nt_co k h]; rfl)
theorem nt_rk (k : Nat) {S : List Int} (h : rk (tp S) < 3) : rk (tp (nt k S)) ≤ 3 := by
  cases k with
  | zero => exact Int.le_of_lt h
  | succ k => exact Int.le_refl _
/-- on the way through nots -/
def ln_R (B : Int → Int) (n w b e kd : Int) (S : List Int) (O : List Int) (b1 e1 kd1 k bad pl : Int) : Prop := (bad = 0 → ∀ F Z, EV B n b1 e1 kd1 1 w (nt k.toNat S) 1 k O F Z → EV B n b e kd 1 w S 1 0 O F Z) ∧ (bad ≠ 0 → ∀ (F : pw_F) (Z : pw_Z), F bad pl → EV B n b e kd 1 w S 1 0 O F Z)
theorem ln_0 : ln_R B n w b e kd S O b e kd 0 0 pl := ⟨fun _ _ _ h => h, fun h => absurd rfl h⟩
theorem ln_up {bad1 pl1 b2 e2 kd2 nu : Int} (h : ln_R B n w b e kd S O b1 e1 kd1 k bad pl) (hb : bad = 0) (hw : w < 6) (hq : tk_sp B kd1 b1 e1 5) (h0 : 0 ≤ k) (hk : k < 6) (hb1 : bad1 = 0) (ht : tk_tok B n e1 b2 e2 kd2 nu) : ln_R B n w b e kd S O b2 e2 kd2 (k + 1) bad1 pl1 := by
  refine ⟨fun _ F Z y => h.1 hb F Z (EV_not hw rfl hq hk ht ?_), fun z => absurd hb1 z⟩
  rw [show (k + 1).toNat = k.toNat + 1 by omega] at y
  exact y
theorem ln_6 {b2 e2 kd2 k2 : Int} (h : ln_R B n w b e kd S O b1 e1 kd1 k bad pl) (hb : bad = 0) (hq : tk_sp B kd1 b1 e1 5) (hk : 6 ≤ k) : ln_R B n w b e kd S O b2 e2 kd2 k2 2 b1 :=
  ⟨fun z => absurd z (by decide), fun _ F Z y => h.1 hb F Z (EV_not6 rfl hq hk y)⟩
/-- the level of nots, of what is behind them -/
theorem lv_nots {b3 e3 kd3 bad1 pl1 : Int} (h : ln_R B n w b e kd S O b1 e1 kd1 k bad pl) (hS : rk (tp S) < 3) (hb : bad = 0) (h2 : lt_R B n w b1 e1 kd1 (nt k.toNat S) 1 k O b3 e3 kd3 bad1 pl1 L) : lv_R B n 3 3 w b e kd S 1 0 O b3 e3 kd3 bad1 pl1 (L ++ List.replicate k.toNat (-13)) := by
  refine ⟨fun z => ?_, fun z F Z y => h.1 hb F Z (h2.2 z F Z y)⟩
  obtain ⟨T, O1, j1, j0, j2, j3⟩ := h2.1 z
  exact ⟨T, O1, by rw [j1, nt_cl _ hS], by rw [j0, nt_co _ hS, List.append_assoc], j2, fun F Z y => h.1 hb F Z (j3 F Z y)⟩
theorem lv_nbad {p p1 b3 e3 kd3 : Int} (h : ln_R B n w b e kd S O b1 e1 kd1 k bad pl) (hb : bad ≠ 0) : lv_R B n p p1 w b e kd S 1 0 O b3 e3 kd3 bad pl L := lv_bad hb (h.2 hb)
/-- behind an expression no sign goes on -/
theorem rx_no {sg : Int} {T : List Int} (h : rx 1 B b e kd T) (hs : tk_so B kd b e sg) : rk sg = 0 ∨ (rk sg = 4 ∧ rk (tp (cl T 5)) = 4) := by
  obtain ⟨x1, x2, x3, x4, x5⟩ := h
  have x1 := x1 (by decide)
  have x2 := x2 (by decide)
  have x3 := x3 (by decide)
  have x4 := x4 (by decide)
  have x5 := x5 (by decide)
  obtain ⟨a1, a2, a3, a4, a5, a6, a7⟩ := hs
  by_cases z1 : kd = 60
  · rw [a1 z1]
    exact Or.inr ⟨rfl, x3 (Or.inl z1)⟩
  by_cases z2 : kd = 61
  · rw [a2 z2]
    exact Or.inr ⟨rfl, x3 (Or.inr z2)⟩
  · rw [(a7 z1 z2 x2.1 x2.2 x1.1 x1.2).2.2 x5 x4]
    exact Or.inl rfl
theorem rx_7 {T : List Int} : rx 7 B b e kd T := ⟨fun y => absurd y (by decide), fun y => absurd y (by decide), fun y => absurd y (by decide), fun y => absurd y (by decide), fun y => absurd y (by decide)⟩
/-- a parenthesis -/
theorem lv_paren {nu b2 e2 kd2 b3 e3 kd3 nu3 bad1 pl1 : Int} (hk : kd = 40) (hw : w < 6) (h0 : 0 ≤ w) (ht : tk_tok B n e b1 e1 kd1 nu) (h : lv_R B n 1 1 (w + 1) b1 e1 kd1 (-20 :: S) 1 0 O b2 e2 kd2 bad pl L) (hb : bad = 0) (h41 : kd2 = 41) (ht3 : tk_tok B n e2 b3 e3 kd3 nu3) (hb1 : bad1 = 0) : lv_R B n 7 7 w b e kd S nc k O b3 e3 kd3 bad1 pl1 L := by
  obtain ⟨T, O1, i1, i0, i2, i3⟩ := h.1 hb
  refine ⟨fun _ => ⟨S, O ++ L, cl_7 S, by rw [co_7, List.append_nil], rx_7, fun F Z y => EV_open hk hw ht (i3 F Z (EV_par h41 (by omega) ht3 ?_))⟩, fun z => absurd hb1 z⟩
  rw [i1, i0, show w + 1 - 1 = w by omega]
  exact y
theorem lv_paren1 {p p1 nu b2 e2 kd2 b3 e3 kd3 : Int} {L2 : List Int} (hk : kd = 40) (hw : w < 6) (h0 : 0 ≤ w) (ht : tk_tok B n e b1 e1 kd1 nu) (h : lv_R B n 1 1 (w + 1) b1 e1 kd1 (-20 :: S) 1 0 O b2 e2 kd2 bad pl L) (hb : bad = 0) (h41 : kd2 ≠ 41) : lv_R B n p p1 w b e kd S nc k O b3 e3 kd3 1 b2 L2 := by
  obtain ⟨T, O1, i1, i0, i2, i3⟩ := h.1 hb
  exact lv_bad (by decide) (fun F Z y => EV_open hk hw ht (i3 F Z (EV_no (fun z => h41 z.1) (fun z => by omega) (fun sg hs => rx_no i2 hs) y)))
theorem lv_paren2 {p p1 nu b2 e2 kd2 b3 e3 kd3 : Int} {L2 : List Int} (hk : kd = 40) (hw : w < 6) (ht : tk_tok B n e b1 e1 kd1 nu) (h : lv_R B n 1 1 (w + 1) b1 e1 kd1 (-20 :: S) 1 0 O b2 e2 kd2 bad pl L) (hb : bad ≠ 0) : lv_R B n p p1 w b e kd S nc k O b3 e3 kd3 bad pl L2 := lv_bad hb (fun F Z y => EV_open hk hw ht (h.2 hb F Z y))
/-- a value -/
theorem lv_val {nu : Int} (hw : w < 6) (hk : (kd = 2 ∧ e - b ≤ 4) ∨ (kd = 1 ∧ tk_val B kd b e)) (hn : ¬ (nc = 1 ∧ tk_sp B kd b e 5)) (ht : tk_tok B n e b1 e1 kd1 nu) (hb : bad = 0) : lv_R B n 7 7 w b e kd S nc k O b1 e1 kd1 bad pl [vv B kd b e] :=
  ⟨fun _ => ⟨S, O ++ [vv B kd b e], cl_7 S, by rw [co_7, List.append_nil], rx_7, fun F Z y => EV_val hw hk hn ht (EV_nc y)⟩, fun z => absurd hb z⟩
/-- a rule as a whole, of both: one fault, or one end -/
theorem lv_end (h : lv_R B n 1 1 0 b e kd [] 1 0 [] b1 e1 kd1 bad pl L) : (bad ≠ 0 → EV B n b e kd 1 0 [] 1 0 [] (fun x y => x = bad ∧ y = pl) (fun _ _ _ => False)) ∧ (bad = 0 → kd1 = 59 → EV B n b e kd 1 0 [] 1 0 [] (fun _ _ => False) (fun x y o => x = b1 ∧ y = e1 ∧ o = L)) ∧ (bad = 0 → kd1 ≠ 59 → EV B n b e kd 1 0 [] 1 0 [] (fun x y => x = 1 ∧ y = b1) (fun _ _ _ => False)) := by
  refine ⟨fun z => h.2 z _ _ ⟨rfl, rfl⟩, fun z y => ?_, fun z y => ?_⟩
  · obtain ⟨T, O1, i1, i0, i2, i3⟩ := h.1 z
    exact i3 _ _ (EV_z rfl rfl y ⟨rfl, rfl, i0⟩)
  · obtain ⟨T, O1, i1, i0, i2, i3⟩ := h.1 z
    exact i3 _ _ (EV_no (fun u => by omega) (fun u => y u.2) (fun sg hs => rx_no i2 hs) ⟨rfl, rfl⟩)
end LV
