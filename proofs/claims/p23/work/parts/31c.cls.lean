/-! THE CLASS'S READING OF A RULE is the run: the functions -/
theorem X11_put {q n : Nat} {i v : Int} {g : mz_G} (h0 : 0 ≤ i) (h1 : i < (n : Int)) : zF_X11_put q n i v g = mz_up g q i.toNat v := by
  unfold zF_X11_put zf_l
  rw [if_neg (by omega), if_pos h1]
theorem X11_at {q n : Nat} {i : Int} {g : mz_G} (h0 : 0 ≤ i) (h1 : i < (n : Int)) : zF_X11_at q n i g = g q i.toNat := by
  unfold zF_X11_at zf_l
  rw [if_neg (by omega), if_pos h1]
theorem X4_rankOf {a : Int} {g : mz_G} : zF_X4_rankOf a g = rk a := by
  unfold zF_X4_rankOf zJ_X4_rankOf_62 zJ_X4_rankOf_60 zJ_X4_rankOf_58 rk
  (repeat' split) <;> omega
/-- what is put out lies in the rule's row -/
def ol_k (g : mz_G) (ru : Nat) (O : List Int) : Prop := g ru 1 = (O.length : Int) ∧ ∀ i : Nat, i < O.length → g (ru + 1) i = O.getD i 0
def wk (ru : Nat) : Nat → Nat → Prop := fun a _ => a = 81 ∨ a = 82 ∨ a = 84 ∨ a = ru ∨ a = ru + 1
/-- the class's config -/
def ck (B : Int → Int) (n : Int) (ru : Nat) (g0 g : mz_G) (fa pl d w : Int) (S : List Int) (nc k : Int) (O : List Int) : Prop := mz_cb g = B ∧ g 82 2 = n ∧ mz_str g ∧ mz_fr (wk ru) g0 g ∧ (g 81 1 = fa ∧ g 81 2 = pl) ∧ (g 81 7 = d ∧ g 81 5 = w ∧ g 81 8 = nc ∧ g 81 6 = k) ∧ st_k g S ∧ ol_k g ru O
theorem str_up {g : mz_G} {k j : Nat} {v : Int} (h : mz_str g) (hk : k < 2000) : mz_str (mz_up g k j v) := mz_str_fr h (fun a b hn => up_k (by omega))
theorem str_fr {W : Nat → Nat → Prop} {g g1 : mz_G} (h : mz_str g) (f : mz_fr W g g1) (hW : ∀ k j, W k j → k < 2000) : mz_str g1 := mz_str_fr h (fun k j hk => f k j (fun z => by have := hW k j z; omega))
theorem st_up {g : mz_G} {k j : Nat} {v : Int} {S : List Int} (h : st_k g S) (h1 : k ≠ 84) (h2 : ¬ (k = 81 ∧ j = 4)) : st_k (mz_up g k j v) S := st_k_fr h (mz_up_ne (fun z => h2 ⟨z.1.symm, z.2.symm⟩)) (fun _ => up_k (fun z => h1 z.symm))
theorem ol_up {g : mz_G} {ru k j : Nat} {v : Int} {O : List Int} (h : ol_k g ru O) (h1 : k ≠ ru) (h2 : k ≠ ru + 1) : ol_k (mz_up g k j v) ru O := ⟨(up_k (fun z => h1 z.symm)).trans h.1, fun i hi => (up_k (fun z => h2 z.symm)).trans (h.2 i hi)⟩
theorem ol_fr {W : Nat → Nat → Prop} {g g1 : mz_G} {ru : Nat} {O : List Int} (h : ol_k g ru O) (f : mz_fr W g g1) (hW : ∀ k j, W k j → k ≠ ru ∧ k ≠ ru + 1) : ol_k g1 ru O := ⟨(f _ _ (fun z => (hW _ _ z).1 rfl)).trans h.1, fun i hi => (f _ _ (fun z => (hW _ _ z).2 rfl)).trans (h.2 i hi)⟩
section CK
variable {B : Int → Int} {n : Int} {ru : Nat} {g0 g : mz_G} {fa pl d w nc k : Int} {S O : List Int}
theorem ck_up {j : Nat} {v : Int} (hr : ru = 37 ∨ ru = 77) (hj : j ≠ 4) (h : ck B n ru g0 g fa pl d w S nc k O) : mz_cb (mz_up g 81 j v) = B ∧ mz_up g 81 j v 82 2 = n ∧ mz_str (mz_up g 81 j v) ∧ mz_fr (wk ru) g0 (mz_up g 81 j v) ∧ st_k (mz_up g 81 j v) S ∧ ol_k (mz_up g 81 j v) ru O := by
  obtain ⟨h1, h2, h3, h4, h5, h6, h7, h8⟩ := h
  exact ⟨(cb_up (by decide)).trans h1, (up_k (by decide)).trans h2, str_up h3 (by decide), fr_tr h4 (fr_up (Or.inl rfl)), st_up h7 (by decide) (fun z => hj z.2), ol_up h8 (by omega) (by omega)⟩
theorem ck_5 {v : Int} (hr : ru = 37 ∨ ru = 77) (h : ck B n ru g0 g fa pl d w S nc k O) : ck B n ru g0 (mz_up g 81 5 v) fa pl d v S nc k O := by
  obtain ⟨a1, a2, a3, a4, a7, a8⟩ := ck_up (j := 5) (v := v) hr (by decide) h
  obtain ⟨-, -, -, -, h5, h6, -, -⟩ := h
  exact ⟨a1, a2, a3, a4, ⟨(up_j (by decide)).trans h5.1, (up_j (by decide)).trans h5.2⟩, ⟨(up_j (by decide)).trans h6.1, mz_up_at .., (up_j (by decide)).trans h6.2.2.1, (up_j (by decide)).trans h6.2.2.2⟩, a7, a8⟩
theorem ck_6 {v : Int} (hr : ru = 37 ∨ ru = 77) (h : ck B n ru g0 g fa pl d w S nc k O) : ck B n ru g0 (mz_up g 81 6 v) fa pl d w S nc v O := by
  obtain ⟨a1, a2, a3, a4, a7, a8⟩ := ck_up (j := 6) (v := v) hr (by decide) h
  obtain ⟨-, -, -, -, h5, h6, -, -⟩ := h
  exact ⟨a1, a2, a3, a4, ⟨(up_j (by decide)).trans h5.1, (up_j (by decide)).trans h5.2⟩, ⟨(up_j (by decide)).trans h6.1, (up_j (by decide)).trans h6.2.1, (up_j (by decide)).trans h6.2.2.1, mz_up_at ..⟩, a7, a8⟩
theorem ck_7 {v : Int} (hr : ru = 37 ∨ ru = 77) (h : ck B n ru g0 g fa pl d w S nc k O) : ck B n ru g0 (mz_up g 81 7 v) fa pl v w S nc k O := by
  obtain ⟨a1, a2, a3, a4, a7, a8⟩ := ck_up (j := 7) (v := v) hr (by decide) h
  obtain ⟨-, -, -, -, h5, h6, -, -⟩ := h
  exact ⟨a1, a2, a3, a4, ⟨(up_j (by decide)).trans h5.1, (up_j (by decide)).trans h5.2⟩, ⟨mz_up_at .., (up_j (by decide)).trans h6.2.1, (up_j (by decide)).trans h6.2.2.1, (up_j (by decide)).trans h6.2.2.2⟩, a7, a8⟩
theorem ck_8 {v : Int} (hr : ru = 37 ∨ ru = 77) (h : ck B n ru g0 g fa pl d w S nc k O) : ck B n ru g0 (mz_up g 81 8 v) fa pl d w S v k O := by
  obtain ⟨a1, a2, a3, a4, a7, a8⟩ := ck_up (j := 8) (v := v) hr (by decide) h
  obtain ⟨-, -, -, -, h5, h6, -, -⟩ := h
  exact ⟨a1, a2, a3, a4, ⟨(up_j (by decide)).trans h5.1, (up_j (by decide)).trans h5.2⟩, ⟨(up_j (by decide)).trans h6.1, (up_j (by decide)).trans h6.2.1, mz_up_at .., (up_j (by decide)).trans h6.2.2.2⟩, a7, a8⟩
theorem ck_anew {v : Int} (hr : ru = 37 ∨ ru = 77) (h : ck B n ru g0 g fa pl d w S nc k O) : ck B n ru g0 (zF_X4_notsAnew v g) fa pl d w S v 0 O := ck_6 hr (ck_8 hr h)
theorem ck_tk {g1 : mz_G} (hr : ru = 37 ∨ ru = 77) (h : ck B n ru g0 g fa pl d w S nc k O) (f : mz_fr fw_tk g g1) : ck B n ru g0 g1 fa pl d w S nc k O := by
  obtain ⟨h1, h2, h3, h4, h5, h6, h7, h8⟩ := h
  have e : ∀ a b : Nat, a ≠ 82 → g1 a b = g a b := fun a b hn => f a b (fun z => hn z.1)
  exact ⟨(mz_cb_eq (fun j => e _ _ (by decide))).trans h1, (f _ _ (by unfold fw_tk; omega)).trans h2, str_fr h3 f (fun a b z => by have := z.1; omega), fr_tr h4 (fr_le f (fun a b z => Or.inr (Or.inl z.1))), ⟨(e _ _ (by decide)).trans h5.1, (e _ _ (by decide)).trans h5.2⟩, ⟨(e _ _ (by decide)).trans h6.1, (e _ _ (by decide)).trans h6.2.1, (e _ _ (by decide)).trans h6.2.2.1, (e _ _ (by decide)).trans h6.2.2.2⟩, st_k_fr h7 (e _ _ (by decide)) (fun _ => e _ _ (by decide)), ol_fr h8 f (fun a b z => by have := z.1; omega)⟩
theorem ck_step {p : Int} (hr : ru = 37 ∨ ru = 77) (hn : n ≤ 700) (h : ck B n ru g0 g fa pl d w S nc k O) (h3 : g 82 3 = p) (h0 : 0 ≤ p) (h1 : p ≤ n) : ck B n ru g0 (zF_X7_step g) fa pl d w S nc k O ∧ tk_tok B n p (zF_X7_step g 82 5) (zF_X7_step g 82 3) (zF_X7_step g 82 4) (zF_X7_step g 82 6) := by
  have e1 := h.1
  have e2 := h.2.1
  obtain ⟨i1, i2⟩ := X7_step (g := g) (by omega) (by omega) (by omega)
  rw [e1, e2, h3] at i1
  exact ⟨ck_tk hr h i2, i1⟩
theorem ck_open {a : Int} (hr : ru = 37 ∨ ru = 77) (hl : S.length < 84) (h : ck B n ru g0 g fa pl d w S nc k O) : ck B n ru g0 (zF_X4_openSign a g) fa pl d w (a :: S) nc k O := by
  obtain ⟨h1, h2, h3, h4, h5, h6, h7, h8⟩ := h
  have e4 := h7.1
  have e : zF_X4_openSign a g = mz_up (mz_up g 84 S.length a) 81 4 (g 81 4 + 1) := by
    unfold zF_X4_openSign
    simp only [zf_lq]
    rw [X11_put (by omega) (by omega), show (g 81 4).toNat = S.length by omega, show mz_up g 84 S.length a 81 4 = g 81 4 from up_k (by decide), mz_wrap_id ⟨by omega, by omega⟩]
  rw [e]
  exact ⟨((cb_up (by decide)).trans (cb_up (by decide))).trans h1, ((up_k (by decide)).trans (up_k (by decide))).trans h2, str_up (str_up h3 (by decide)) (by decide), fr_tr h4 (fr_tr (fr_up (Or.inr (Or.inr (Or.inl rfl)))) (fr_up (Or.inl rfl))), ⟨((up_j (by decide)).trans (up_k (by decide))).trans h5.1, ((up_j (by decide)).trans (up_k (by decide))).trans h5.2⟩, ⟨((up_j (by decide)).trans (up_k (by decide))).trans h6.1, ((up_j (by decide)).trans (up_k (by decide))).trans h6.2.1, ((up_j (by decide)).trans (up_k (by decide))).trans h6.2.2.1, ((up_j (by decide)).trans (up_k (by decide))).trans h6.2.2.2⟩, st_k_push h7 hl (mz_up_at ..) ((up_k (by decide)).trans (mz_up_at ..)) (fun j hj => (up_k (by decide)).trans (up_j hj)), ol_up (ol_up h8 (by omega) (by omega)) (by omega) (by omega)⟩
theorem ol_add {v : Int} (hr : ru = 37 ∨ ru = 77) (hl : O.length < 700) (h : ol_k g ru O) : ol_k (zF_X5_addStep ru v g) ru (O ++ [v]) ∧ mz_fr (fun a _ => a = ru ∨ a = ru + 1) g (zF_X5_addStep ru v g) := by
  obtain ⟨h1, h2⟩ := h
  have e : zF_X5_addStep ru v g = mz_up (mz_up g (ru + 1) O.length v) ru 1 (g ru 1 + 1) := by
    unfold zF_X5_addStep
    simp only [zf_lq]
    rw [if_pos (by omega), X11_put (by omega) (by omega), show (g ru 1).toNat = O.length by omega, show mz_up g (ru + 1) O.length v ru 1 = g ru 1 from up_k (by omega)]
  rw [e]
  refine ⟨⟨(mz_up_at ..).trans (by rw [List.length_append, h1]; rfl), fun i hi => ?_⟩, fr_tr (fr_up (Or.inr rfl)) (fr_up (Or.inl rfl))⟩
  rw [List.length_append] at hi
  have hi : i < O.length + 1 := hi
  rw [up_k (by omega)]
  by_cases z : i = O.length
  · rw [z, mz_up_at, List.getD_eq_getElem?_getD, List.getElem?_append_right (Nat.le_refl _), Nat.sub_self]
    rfl
  · rw [up_j z, h2 i (by omega), List.getD_eq_getElem?_getD, List.getD_eq_getElem?_getD, List.getElem?_append_left (by omega)]
theorem ck_ru {g1 : mz_G} {O1 : List Int} (hr : ru = 37 ∨ ru = 77) (h : ck B n ru g0 g fa pl d w S nc k O) (f : mz_fr (fun a _ => a = ru ∨ a = ru + 1) g g1) (h8 : ol_k g1 ru O1) : ck B n ru g0 g1 fa pl d w S nc k O1 := by
  obtain ⟨h1, h2, h3, h4, h5, h6, h7, -⟩ := h
  have e : ∀ a b : Nat, 80 < a → g1 a b = g a b := fun a b hn => f a b (fun z => by omega)
  exact ⟨(mz_cb_eq (fun j => e _ _ (by decide))).trans h1, (e _ _ (by decide)).trans h2, str_fr h3 f (fun a b z => by omega), fr_tr h4 (fr_le f (fun a b z => Or.inr (Or.inr (Or.inr z)))), ⟨(e _ _ (by decide)).trans h5.1, (e _ _ (by decide)).trans h5.2⟩, ⟨(e _ _ (by decide)).trans h6.1, (e _ _ (by decide)).trans h6.2.1, (e _ _ (by decide)).trans h6.2.2.1, (e _ _ (by decide)).trans h6.2.2.2⟩, st_k_fr h7 (e _ _ (by decide)) (fun _ => e _ _ (by decide)), h8⟩
theorem ck_add {v : Int} (hr : ru = 37 ∨ ru = 77) (hl : O.length < 700) (h : ck B n ru g0 g fa pl d w S nc k O) : ck B n ru g0 (zF_X5_addStep ru v g) fa pl d w S nc k (O ++ [v]) := by
  obtain ⟨a, b⟩ := ol_add (v := v) hr hl h.2.2.2.2.2.2.2
  exact ck_ru hr h b a
theorem ck_pop {a : Int} (hr : ru = 37 ∨ ru = 77) (h : ck B n ru g0 g fa pl d w (a :: S) nc k O) {v : Int} (hv : v = g 81 4 - 1) : ck B n ru g0 (mz_up g 81 4 v) fa pl d w S nc k O := by
  obtain ⟨h1, h2, h3, h4, h5, h6, h7, h8⟩ := h
  exact ⟨(cb_up (by decide)).trans h1, (up_k (by decide)).trans h2, str_up h3 (by decide), fr_tr h4 (fr_up (Or.inl rfl)), ⟨(up_j (by decide)).trans h5.1, (up_j (by decide)).trans h5.2⟩, ⟨(up_j (by decide)).trans h6.1, (up_j (by decide)).trans h6.2.1, (up_j (by decide)).trans h6.2.2.1, (up_j (by decide)).trans h6.2.2.2⟩, st_k_pop h7 ((mz_up_at ..).trans hv) (fun j => up_k (by decide)), ol_up h8 (by omega) (by omega)⟩
theorem X4_lastOpen {a : Int} (h : st_k g (a :: S)) : zF_X4_lastOpen g = a := by
  have e := h.1
  have l := h.2.1
  simp only [List.length_cons] at e l
  unfold zF_X4_lastOpen
  simp only [zf_lq]
  rw [mz_wrap_id ⟨by omega, by omega⟩, X11_at (by omega) (by omega), show (g 81 4 - 1).toNat = S.length by omega]
  exact st_k_top h
theorem X4_lastOpen0 (h : st_k g []) : zF_X4_lastOpen g = 0 := by
  have e := h.1
  simp only [List.length_nil] at e
  unfold zF_X4_lastOpen zF_X11_at
  simp only [zf_lq]
  rw [mz_wrap_id ⟨by omega, by omega⟩, if_pos (by omega)]
  rfl
theorem X4_lastOpen_tp (h : st_k g S) : zF_X4_lastOpen g = tp S := by
  cases S with
  | nil => exact X4_lastOpen0 h
  | cons a T => exact X4_lastOpen h
theorem ck_close {r : Int} (hr : ru = 37 ∨ ru = 77) : ∀ (S : List Int) (O : List Int) (m : Nat) (g : mz_G), S.length < m → O.length + S.length ≤ 700 → ck B n ru g0 g fa pl d w S nc k O → ck B n ru g0 (zL_X4_closeSigns_0 ru r m g) fa pl d w (cl S r) nc k (O ++ co S r) ∧ mz_fr (fun a b => a = ru ∨ a = ru + 1 ∨ (a = 81 ∧ b = 4)) g (zL_X4_closeSigns_0 ru r m g)
  | _, _, 0, _, h, _, _ => absurd h (Nat.not_lt_zero _)
  | [], O, m + 1, g, _, _, h => by
    have e := h.2.2.2.2.2.2.1.1
    simp only [List.length_nil] at e
    rw [zL_X4_closeSigns_0_s]
    unfold zB_X4_closeSigns_0
    simp only [zf_lq]
    rw [if_neg (by omega)]
    show ck B n ru g0 g fa pl d w [] nc k (O ++ []) ∧ _
    rw [List.append_nil]
    exact ⟨h, fr_rf⟩
  | a :: S, O, m + 1, g, hm, hl, h => by
    have hs := h.2.2.2.2.2.2.1
    have e := hs.1
    have l := hs.2.1
    simp only [List.length_cons] at e l hm hl
    rw [zL_X4_closeSigns_0_s]
    unfold zB_X4_closeSigns_0
    simp only [zf_lq]
    rw [if_pos (by omega), X4_lastOpen hs, X4_rankOf]
    by_cases z : rk a < r
    · rw [if_pos z, cl_not (by omega), co_not (by omega), List.append_nil]
      exact ⟨h, fr_rf⟩
    · rw [if_neg z, cl_top (by omega), co_top (by omega)]
      have b1 := ck_add (v := a) hr (by omega) h
      have b2 := ck_pop hr b1 (v := zF_X5_addStep ru a g 81 4 - 1) rfl
      obtain ⟨i1, i2⟩ := ck_close hr S (O ++ [a]) m _ (by omega) (by rw [List.length_append]; show O.length + 1 + S.length ≤ 700; omega) b2
      rw [List.append_assoc] at i1
      refine ⟨i1, fr_tr ?_ i2⟩
      exact fr_tr (fr_le (ol_add (v := a) hr (by omega) h.2.2.2.2.2.2.2).2 (fun x y q => by omega)) (fr_up (Or.inr (Or.inr ⟨rfl, rfl⟩)))
theorem X4_closeSigns {r : Int} (hr : ru = 37 ∨ ru = 77) (hl : O.length + S.length ≤ 700) (h : ck B n ru g0 g fa pl d w S nc k O) : ck B n ru g0 (zF_X4_closeSigns ru r g) fa pl d w (cl S r) nc k (O ++ co S r) ∧ mz_fr (fun a b => a = ru ∨ a = ru + 1 ∨ (a = 81 ∧ b = 4)) g (zF_X4_closeSigns ru r g) :=
  ck_close hr S O 3000000000 g (by have := h.2.2.2.2.2.2.1.2.1; omega) hl h
theorem X4_blame {v : Int} : zF_X4_blame v g = (0, mz_up (mz_up g 81 1 v) 81 2 (g 82 5)) := by
  unfold zF_X4_blame zF_X7_start
  simp only [zf_lq]
  rw [show mz_up g 81 1 v 82 5 = g 82 5 from up_k (by decide)]
end CK
