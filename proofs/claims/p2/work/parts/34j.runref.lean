/-! STEPS OF A RUN, one by one, as the reference's descent takes them -/
theorem cl_cl : ∀ (S : List Int) (s r : Int), r ≤ s → cl (cl S s) r = cl S r
  | [], _, _, _ => rfl
  | a :: S, s, r, h => by
    by_cases z : s ≤ rk a
    · have e1 : cl (a :: S) s = cl S s := if_pos z
      have e2 : cl (a :: S) r = cl S r := if_pos (by omega)
      rw [e1, e2]
      exact cl_cl S s r h
    · have e1 : cl (a :: S) s = a :: S := if_neg z
      rw [e1]
theorem cl_self {S : List Int} {r : Int} (h : rk (tp S) < r) : cl S r = S := by
  cases S with
  | nil => rfl
  | cons a T =>
    have h : rk a < r := h
    exact if_neg (by omega)
theorem cl_top {a : Int} {S : List Int} {r : Int} (h : r ≤ rk a) : cl (a :: S) r = cl S r := if_pos h
theorem cp_sign_nc {B : Int → Int} {b e kd w : Int} {S : List Int} {nc k nc1 k1 : Int} {F : Int → Int → Prop} {N M : Int → Int → List Int → Int → Int → Prop} (hN : ∀ w1 S1 a1 a2 c1 c2, N 0 w1 S1 a1 a2 → M 0 w1 S1 c1 c2) (hM : ∀ w1 S1 a1 a2, N 1 w1 S1 a1 a2 → M 1 w1 S1 a1 a2) (h : cp_sign B b e kd w S nc k F N) : cp_sign B b e kd w S nc1 k1 F M := ⟨fun z => hN _ _ _ _ _ _ (h.1 z), fun z sg hs => ⟨((h.2 z sg hs)).1, fun y => ⟨((h.2 z sg hs).2 y).1, fun x => hM _ _ _ _ (((h.2 z sg hs).2 y).2 x)⟩⟩⟩
/-- behind a part the nots tell nothing -/
theorem ev_nc {B : Int → Int} {n : Int} {F Z : Int → Int → Prop} : ∀ (m : Nat) {b e kd w : Int} {S : List Int} {nc k nc1 k1 : Int}, ev B n F Z m b e kd 0 w S nc k → ev B n F Z m b e kd 0 w S nc1 k1
  | 0, _, _, _, _, _, _, _, _, _, h => h
  | m + 1, b, e, kd, w, S, nc, k, nc1, k1, h => ⟨fun z => absurd z (by decide), fun z => ⟨(h.2 z).1, fun y => cp_sign_nc (fun w1 S1 a1 a2 c1 c2 q => by obtain ⟨b1, e1, kd1, nu, t, q⟩ := q; exact ⟨b1, e1, kd1, nu, t, ev_nc m q⟩) (fun _ _ _ _ q => q) ((h.2 z).2 y)⟩⟩
theorem EV_nc {B : Int → Int} {n b e kd w : Int} {S : List Int} {nc k nc1 k1 : Int} {F Z : Int → Int → Prop} (h : EV B n b e kd 0 w S nc k F Z) : EV B n b e kd 0 w S nc1 k1 F Z := by
  obtain ⟨m, h⟩ := h
  exact ⟨m, ev_nc m h⟩
theorem EV_sg {B : Int → Int} {n b e kd w : Int} {T : List Int} {nc k sg b1 e1 kd1 nu : Int} {F Z : Int → Int → Prop} (h41 : kd ≠ 41) (h59 : kd ≠ 59) (hs : tk_so B kd b e sg) (h0 : rk sg ≠ 0) (h4 : rk sg = 4 → rk (tp (cl T 5)) ≠ 4) (ht : tk_tok B n e b1 e1 kd1 nu) (h : EV B n b1 e1 kd1 1 w (sg :: cl T (if rk sg = 4 then 5 else rk sg)) (if rk sg ≤ 2 then 1 else 0) 0 F Z) : EV B n b e kd 0 w T nc k F Z :=
  EV_s ht h (fun z => absurd z (by decide)) (fun _ => ⟨fun z => h59 z.2, fun N hN => ⟨fun z => absurd z.1 h41, fun _ s hs2 => by
    rw [tk_so_u hs2 hs]
    exact ⟨fun z => absurd z h0, fun _ => ⟨fun z => absurd z.2 (h4 z.1), fun _ => hN⟩⟩⟩⟩)
theorem EV_no {B : Int → Int} {n b e kd w : Int} {T : List Int} {nc k : Int} {F Z : Int → Int → Prop} (h41 : ¬ (kd = 41 ∧ 0 < w)) (h59 : ¬ (w = 0 ∧ kd = 59)) (hs : ∀ sg, tk_so B kd b e sg → rk sg = 0 ∨ (rk sg = 4 ∧ rk (tp (cl T 5)) = 4)) (hF : F 1 b) : EV B n b e kd 0 w T nc k F Z :=
  EV_f (fun z => absurd z (by decide)) (fun _ => ⟨h59, fun N => ⟨fun z => absurd z h41, fun _ sg hq => by
    refine ⟨fun _ => hF, fun y => ⟨fun _ => hF, fun x => ?_⟩⟩
    rcases hs sg hq with u | u
    · exact absurd u y
    · exact absurd u x⟩⟩)
theorem EV_par {B : Int → Int} {n b e kd w : Int} {T : List Int} {nc k b1 e1 kd1 nu : Int} {F Z : Int → Int → Prop} (h41 : kd = 41) (hw : 0 < w) (ht : tk_tok B n e b1 e1 kd1 nu) (h : EV B n b1 e1 kd1 0 (w - 1) (cl T 1).tail nc k F Z) : EV B n b e kd 0 w T nc k F Z :=
  EV_s ht h (fun z => absurd z (by decide)) (fun _ => ⟨fun z => by omega, fun N hN => ⟨fun _ => hN, fun z => absurd ⟨h41, hw⟩ z⟩⟩)
theorem EV_p1 {B : Int → Int} {n b e kd w : Int} {S : List Int} {nc k : Int} {F Z : Int → Int → Prop} (h2 : kd ≠ 2) (h1 : kd ≠ 1) (h40 : kd ≠ 40) (hF : F 1 b) : EV B n b e kd 1 w S nc k F Z :=
  EV_f (fun _ N => ⟨fun _ _ _ => hF, fun z => by omega⟩) (fun z => absurd z (by decide))
theorem EV_p2 {B : Int → Int} {n b e kd w : Int} {S : List Int} {nc k : Int} {F Z : Int → Int → Prop} (hk : kd = 2 ∨ kd = 1 ∨ kd = 40) (hw : 6 ≤ w) (hF : F 2 b) : EV B n b e kd 1 w S nc k F Z :=
  EV_f (fun _ N => ⟨fun _ _ _ => by omega, fun _ => ⟨fun _ => hF, fun z => absurd hw (by omega)⟩⟩) (fun z => absurd z (by decide))
theorem EV_open {B : Int → Int} {n b e kd w : Int} {S : List Int} {nc k b1 e1 kd1 nu : Int} {F Z : Int → Int → Prop} (hk : kd = 40) (hw : w < 6) (ht : tk_tok B n e b1 e1 kd1 nu) (h : EV B n b1 e1 kd1 1 (w + 1) (-20 :: S) 1 0 F Z) : EV B n b e kd 1 w S nc k F Z :=
  EV_s ht h (fun _ N hN => ⟨fun _ _ _ => by omega, fun _ => ⟨fun z => by omega, fun _ => ⟨fun _ => hN, fun z => absurd hk z⟩⟩⟩) (fun z => absurd z (by decide))
theorem EV_not {B : Int → Int} {n b e kd w : Int} {S : List Int} {nc k b1 e1 kd1 nu : Int} {F Z : Int → Int → Prop} (hw : w < 6) (hn : nc = 1) (hq : tk_sp B kd b e 5) (hk : k < 6) (ht : tk_tok B n e b1 e1 kd1 nu) (h : EV B n b1 e1 kd1 1 w (-13 :: S) nc (k + 1) F Z) : EV B n b e kd 1 w S nc k F Z := by
  have h1 := hq.1
  exact EV_s ht h (fun _ N hN => ⟨fun _ _ _ => by omega, fun _ => ⟨fun z => by omega, fun _ => ⟨fun z => by omega, fun _ => ⟨fun _ => ⟨fun z => by omega, fun _ => hN⟩, fun z => absurd ⟨hn, hq⟩ z⟩⟩⟩⟩) (fun z => absurd z (by decide))
theorem EV_not6 {B : Int → Int} {n b e kd w : Int} {S : List Int} {nc k : Int} {F Z : Int → Int → Prop} (hn : nc = 1) (hq : tk_sp B kd b e 5) (hk : 6 ≤ k) (hF : F 2 b) : EV B n b e kd 1 w S nc k F Z := by
  have h1 := hq.1
  exact EV_f (fun _ N => ⟨fun _ _ _ => by omega, fun _ => ⟨fun _ => hF, fun _ => ⟨fun z => by omega, fun _ => ⟨fun _ => ⟨fun _ => hF, fun z => by omega⟩, fun z => absurd ⟨hn, hq⟩ z⟩⟩⟩⟩) (fun z => absurd z (by decide))
theorem EV_long {B : Int → Int} {n b e kd w : Int} {S : List Int} {nc k : Int} {F Z : Int → Int → Prop} (hk : kd = 2) (hl : 4 < e - b) (hF : F 2 b) : EV B n b e kd 1 w S nc k F Z :=
  EV_f (fun _ N => ⟨fun _ _ _ => by omega, fun _ => ⟨fun _ => hF, fun _ => ⟨fun z => by omega, fun _ => ⟨fun z => absurd z.2.1 (by omega), fun _ => ⟨fun _ => hF, fun z => by omega, fun z => absurd ⟨hk, hl⟩ z⟩⟩⟩⟩⟩) (fun z => absurd z (by decide))
theorem EV_p3 {B : Int → Int} {n b e kd w : Int} {S : List Int} {nc k : Int} {F Z : Int → Int → Prop} (hw : w < 6) (hk : kd = 1) (hn : ¬ (nc = 1 ∧ tk_sp B kd b e 5)) (hv : ¬ tk_val B kd b e) (hF : F 3 b) : EV B n b e kd 1 w S nc k F Z :=
  EV_f (fun _ N => ⟨fun _ _ _ => by omega, fun _ => ⟨fun z => by omega, fun _ => ⟨fun z => by omega, fun _ => ⟨fun z => absurd z hn, fun _ => ⟨fun z => by omega, fun _ => hF, fun _ z => absurd ⟨hk, hv⟩ z⟩⟩⟩⟩⟩) (fun z => absurd z (by decide))
theorem EV_val {B : Int → Int} {n b e kd w : Int} {S : List Int} {nc k b1 e1 kd1 nu : Int} {F Z : Int → Int → Prop} (hw : w < 6) (hk : (kd = 2 ∧ e - b ≤ 4) ∨ (kd = 1 ∧ tk_val B kd b e)) (hn : ¬ (nc = 1 ∧ tk_sp B kd b e 5)) (ht : tk_tok B n e b1 e1 kd1 nu) (h : EV B n b1 e1 kd1 0 w S nc k F Z) : EV B n b e kd 1 w S nc k F Z :=
  EV_s ht h (fun _ N hN => ⟨fun _ _ _ => by omega, fun _ => ⟨fun z => by omega, fun _ => ⟨fun z => by omega, fun _ => ⟨fun z => absurd z hn, fun _ => ⟨fun z => by omega, fun z => by
    rcases hk with u | u
    · omega
    · exact absurd u.2 z.2, fun _ _ => hN⟩⟩⟩⟩⟩) (fun z => absurd z (by decide))
