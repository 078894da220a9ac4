/-! readGrows of the class: the run to its end, or to its fault -/
/-- behind the loop: fine, an EXPR ahead of the token now; or its fault -/
def gr_o (B : Int → Int) (n : Int) (ru : Nat) (g0 : mz_G) (fa pl b0 e0 kd0 : Int) (q : Int × mz_G) : Prop := (q.1 = 1 ∧ ∃ (S : List Int) (nc k : Int) (O : List Int) (p : Int), ck B n ru g0 q.2 fa pl 0 0 S nc k O ∧ 0 ≤ p ∧ tk_tok B n p (q.2 82 5) (q.2 82 3) (q.2 82 4) (q.2 82 6) ∧ q.2 82 4 = 59 ∧ ∀ (F : pw_F) (Z : pw_Z), Z (q.2 82 5) (q.2 82 3) O → EV B n b0 e0 kd0 1 0 [] 1 0 [] F Z) ∨ (q.1 = 0 ∧ ∀ (F : pw_F) (Z : pw_Z), F (q.2 81 1) (q.2 81 2) → EV B n b0 e0 kd0 1 0 [] 1 0 [] F Z)
section RG
variable {B : Int → Int} {n : Int} {ru : Nat} {g0 : mz_G} {fa pl b0 e0 kd0 : Int}
theorem closeF_fr {r : Int} (hr : ru = 37 ∨ ru = 77) : ∀ (m k : Nat) (g : mz_G), (g 81 4).toNat < m → m ≤ k → mz_fr (fun a b => a = ru ∨ a = ru + 1 ∨ (a = 81 ∧ b = 4)) g (zL_X4_closeSigns_0 ru r k g)
  | 0, _, _, z, _ => absurd z (Nat.not_lt_zero _)
  | m + 1, 0, _, _, z => absurd z (by omega)
  | m + 1, k + 1, g, hm, hk => by
    rw [zL_X4_closeSigns_0_s]
    unfold zB_X4_closeSigns_0
    simp only [zf_lq]
    by_cases z : 0 < g 81 4
    · rw [if_pos z]
      split
      · exact fr_rf
      · have f1 : mz_fr (fun a b => a = ru ∨ a = ru + 1 ∨ (a = 81 ∧ b = 4)) g (zF_X5_addStep ru (zF_X4_lastOpen g) g) := by
          unfold zF_X5_addStep zF_X11_put
          simp only [zf_lq]
          split
          · split
            · exact fr_up (Or.inl rfl)
            · split
              · exact fr_tr (fr_up (Or.inr (Or.inl rfl))) (fr_up (Or.inl rfl))
              · exact fr_up (Or.inl rfl)
          · exact fr_rf
        refine fr_tr (fr_tr f1 (fr_up (Or.inr (Or.inr ⟨rfl, rfl⟩)))) (closeF_fr hr m k _ ?_ (by omega))
        rw [mz_up_at]
        have e4 : zF_X5_addStep ru (zF_X4_lastOpen g) g 81 4 = g 81 4 := by
          rcases hr with rfl | rfl
          · unfold zF_X5_addStep zF_X11_put
            simp only [zf_lq]
            split
            · split
              · exact up_k (by decide)
              · split
                · exact (up_k (by decide)).trans (up_k (by decide))
                · exact up_k (by decide)
            · rfl
          · unfold zF_X5_addStep zF_X11_put
            simp only [zf_lq]
            split
            · split
              · exact up_k (by decide)
              · split
                · exact (up_k (by decide)).trans (up_k (by decide))
                · exact up_k (by decide)
            · rfl
        rw [e4]
        omega
    · rw [if_neg z]
      exact fr_rf
/-- a step of the run, taken by the class -/
theorem gr_x {g : mz_G} {d w nc k p : Int} {S O : List Int} {c : pw_F → pw_N → Prop} {q : Int × mz_G} (ho : okc d w S nc k) (hO : (O.length : Int) + S.length ≤ g 82 5) (hb : g 82 4 ≠ 0 → g 82 5 < g 82 3) (hE : ∀ (F : pw_F) (Z : pw_Z), EV B n (g 82 5) (g 82 3) (g 82 4) d w S nc k O F Z → EV B n b0 e0 kd0 1 0 [] 1 0 [] F Z) (hx : (∃ x y : Int, ∀ F N, c F N ↔ F x y) ∨ (g 82 4 ≠ 0 ∧ ∃ (d1 w1 : Int) (S1 : List Int) (nc1 k1 : Int) (D : List Int), okc d1 w1 S1 nc1 k1 ∧ D.length + S1.length ≤ S.length + 1 ∧ (nc1 = 0 ∨ nc1 = 1 ∨ nc1 = nc) ∧ ∀ F N, c F N ↔ N d1 w1 S1 nc1 k1 D)) (hc : c (cF q) (cN B n ru g0 fa pl (g 82 3) O q)) (h1 : d = 1 → ∀ F N, c F N → cp_part B (g 82 5) (g 82 3) (g 82 4) w S nc k F N) (h0 : d = 0 → ¬ (w = 0 ∧ g 82 4 = 59) ∧ ∀ F N, c F N → cp_sign B (g 82 5) (g 82 3) (g 82 4) w S nc k F N) : (q.1 = 0 ∧ q.2 81 4 ≤ 84 ∧ ∀ (F : pw_F) (Z : pw_Z), F (q.2 81 1) (q.2 81 2) → EV B n b0 e0 kd0 1 0 [] 1 0 [] F Z) ∨ (q.1 = 1 ∧ ∃ (d1 w1 : Int) (S1 : List Int) (nc1 k1 : Int) (O1 : List Int), okc d1 w1 S1 nc1 k1 ∧ (nc1 = 0 ∨ nc1 = 1 ∨ nc1 = nc) ∧ ck B n ru g0 q.2 fa pl d1 w1 S1 nc1 k1 O1 ∧ g 82 5 < g 82 3 ∧ (O1.length : Int) + S1.length ≤ g 82 5 + 1 ∧ tk_tok B n (g 82 3) (q.2 82 5) (q.2 82 3) (q.2 82 4) (q.2 82 6) ∧ ∀ (F : pw_F) (Z : pw_Z), EV B n (q.2 82 5) (q.2 82 3) (q.2 82 4) d1 w1 S1 nc1 k1 O1 F Z → EV B n b0 e0 kd0 1 0 [] 1 0 [] F Z) := by
  rcases hx with ⟨x, y, hx⟩ | ⟨hk, d1, w1, S1, nc1, k1, D, hok, hD, hnn, hx⟩
  · obtain ⟨z1, z2, z3, z4⟩ := (hx _ _).mp hc
    refine Or.inl ⟨z1, z4, fun F Z hF => hE F Z (EV_f (fun z N => h1 z _ _ ((hx _ _).mpr ?_)) (fun z => ⟨(h0 z).1, fun N => (h0 z).2 _ _ ((hx _ _).mpr ?_)⟩))⟩
    · rw [← z2, ← z3]; exact hF
    · rw [← z2, ← z3]; exact hF
  · obtain ⟨z1, z2, z3⟩ := (hx _ _).mp hc
    refine Or.inr ⟨z1, d1, w1, S1, nc1, k1, O ++ D, hok, hnn, z2, hb hk, by rw [List.length_append]; omega, z3, fun F Z hEE => hE F Z (EV_s z3 hEE (fun z N hN => h1 z _ _ ((hx _ _).mpr hN)) (fun z => ⟨(h0 z).1, fun N hN => (h0 z).2 _ _ ((hx _ _).mpr hN)⟩))⟩
theorem J89_fine {g : mz_G} {S O : List Int} {nc k p : Int} (hr : ru = 37 ∨ ru = 77) (hn : n ≤ 700) (h : ck B n ru g0 g fa pl 0 0 S nc k O) (hp : 0 ≤ p) (ht : tk_tok B n p (g 82 5) (g 82 3) (g 82 4) (g 82 6)) (hO : (O.length : Int) + S.length ≤ g 82 5) (h59 : g 82 4 = 59) (hE : ∀ (F : pw_F) (Z : pw_Z), EV B n (g 82 5) (g 82 3) (g 82 4) 0 0 S nc k O F Z → EV B n b0 e0 kd0 1 0 [] 1 0 [] F Z) : gr_o B n ru g0 fa pl b0 e0 kd0 (zJ_X4_readGrows_89 ru 1 g) := by
  obtain ⟨t1, t2, t3, t4, t5⟩ := tk_tok_len ht
  unfold zJ_X4_readGrows_89
  simp only [zf_lq]
  obtain ⟨c1, c2⟩ := X4_closeSigns (r := 1) hr (by omega) h
  have e : ∀ j : Nat, zF_X4_closeSigns ru 1 g 82 j = g 82 j := fun j => c2 82 j (by omega)
  refine Or.inl ⟨rfl, cl S 1, nc, k, O ++ co S 1, p, c1, hp, ?_, ?_, fun F Z hZ => hE F Z (EV_z rfl rfl h59 ?_)⟩
  · dsimp only
    rw [e, e, e, e]
    exact ht
  · exact (e 4).trans h59
  · dsimp only at hZ
    rw [e, e] at hZ
    exact hZ
theorem J89_fault {g : mz_G} (h84 : g 81 4 ≤ 84) (hr : ru = 37 ∨ ru = 77) (hF : ∀ (F : pw_F) (Z : pw_Z), F (g 81 1) (g 81 2) → EV B n b0 e0 kd0 1 0 [] 1 0 [] F Z) : gr_o B n ru g0 fa pl b0 e0 kd0 (zJ_X4_readGrows_89 ru 0 g) := by
  unfold zJ_X4_readGrows_89
  simp only [zf_lq]
  have f := closeF_fr (r := 1) hr 100 3000000000 g (by omega) (by decide)
  have e1 : zF_X4_closeSigns ru 1 g 81 1 = g 81 1 := f 81 1 (by omega)
  have e2 : zF_X4_closeSigns ru 1 g 81 2 = g 81 2 := f 81 2 (by omega)
  refine Or.inr ⟨rfl, fun F Z h => hF F Z ?_⟩
  dsimp only at h
  rw [e1, e2] at h
  exact h
theorem L44_fault {g : mz_G} (h84 : g 81 4 ≤ 84) (hr : ru = 37 ∨ ru = 77) (hF : ∀ (F : pw_F) (Z : pw_Z), F (g 81 1) (g 81 2) → EV B n b0 e0 kd0 1 0 [] 1 0 [] F Z) (k : Nat) (l : Int) : gr_o B n ru g0 fa pl b0 e0 kd0 (zL_X4_readGrows_44 ru (k + 1) 0 l g) := by
  rw [zL_X4_readGrows_44_s]
  unfold zB_X4_readGrows_44
  by_cases z : 700 < l
  · rw [if_pos z]; exact J89_fault h84 hr hF
  · rw [if_neg z, if_pos rfl]; exact J89_fault h84 hr hF
theorem L44_run (hr : ru = 37 ∨ ru = 77) (hn : n ≤ 700) : ∀ (m f : Nat) (g : mz_G) (d w : Int) (S : List Int) (nc k : Int) (O : List Int) (l p : Int), (n - g 82 5).toNat < m → m + 1 ≤ f → okc d w S nc k → (nc = 0 ∨ nc = 1) → ck B n ru g0 g fa pl d w S nc k O → 0 ≤ p → tk_tok B n p (g 82 5) (g 82 3) (g 82 4) (g 82 6) → (O.length : Int) + S.length ≤ g 82 5 → l ≤ g 82 5 → (∀ (F : pw_F) (Z : pw_Z), EV B n (g 82 5) (g 82 3) (g 82 4) d w S nc k O F Z → EV B n b0 e0 kd0 1 0 [] 1 0 [] F Z) → gr_o B n ru g0 fa pl b0 e0 kd0 (zL_X4_readGrows_44 ru f 1 l g)
  | 0, _, _, _, _, _, _, _, _, _, _, h, _, _, _, _, _, _, _, _, _ => absurd h (Nat.not_lt_zero _)
  | m + 1, 0, _, _, _, _, _, _, _, _, _, _, h, _, _, _, _, _, _, _, _ => absurd h (by omega)
  | m + 1, f + 1, g, d, w, S, nc, k, O, l, p, hm, hf, ho, hnc, h, hp, ht, hO, hl, hE => by
    obtain ⟨t1, t2, t3, t4, t5⟩ := tk_tok_len ht
    rw [zL_X4_readGrows_44_s]
    unfold zB_X4_readGrows_44
    rw [if_neg (by omega), if_neg (by decide)]
    simp only [zf_lq]
    have e7 : g 81 7 = d := h.2.2.2.2.2.1.1
    have e5 : g 81 5 = w := h.2.2.2.2.2.1.2.1
    have hS := sh_l84 ho.2.2.2.1 ho.2.2.1
    -- the further turn
    have go : ∀ q : Int × mz_G, ((q.1 = 0 ∧ q.2 81 4 ≤ 84 ∧ ∀ (F : pw_F) (Z : pw_Z), F (q.2 81 1) (q.2 81 2) → EV B n b0 e0 kd0 1 0 [] 1 0 [] F Z) ∨ (q.1 = 1 ∧ ∃ (d1 w1 : Int) (S1 : List Int) (nc1 k1 : Int) (O1 : List Int), okc d1 w1 S1 nc1 k1 ∧ (nc1 = 0 ∨ nc1 = 1 ∨ nc1 = nc) ∧ ck B n ru g0 q.2 fa pl d1 w1 S1 nc1 k1 O1 ∧ g 82 5 < g 82 3 ∧ (O1.length : Int) + S1.length ≤ g 82 5 + 1 ∧ tk_tok B n (g 82 3) (q.2 82 5) (q.2 82 3) (q.2 82 4) (q.2 82 6) ∧ ∀ (F : pw_F) (Z : pw_Z), EV B n (q.2 82 5) (q.2 82 3) (q.2 82 4) d1 w1 S1 nc1 k1 O1 F Z → EV B n b0 e0 kd0 1 0 [] 1 0 [] F Z)) → gr_o B n ru g0 fa pl b0 e0 kd0 (zJ_X4_readGrows_82 ru (zL_X4_readGrows_44 ru f) q.1 l q.2) := by
      intro q hq
      unfold zJ_X4_readGrows_82
      obtain ⟨f1, rfl⟩ : ∃ f1, f = f1 + 1 := ⟨f - 1, by omega⟩
      rcases hq with ⟨z, h84, hF⟩ | ⟨z, d1, w1, S1, nc1, k1, O1, hok, hn1, hck, hlt, hO1, ht1, hE1⟩
      · rw [z]
        exact L44_fault h84 hr hF f1 (l + 1)
      · rw [z]
        have u := (tk_tok_len ht1).1
        exact L44_run hr hn m (f1 + 1) q.2 d1 w1 S1 nc1 k1 O1 (l + 1) (g 82 3) (by omega) (by omega) hok (by omega) hck (by omega) ht1 (by omega) (by omega) hE1
    unfold zF_X4_exprEnds zJ_X4_exprEnds_30 zF_X7_kind
    simp only [zf_lq]
    rw [e7, e5]
    rcases ho.1 with hd | hd
    · rw [hd] at h ho hE
      rw [if_pos hd]
      by_cases y : w = 0 ∧ g 82 4 = 59
      · rw [if_pos y.1, if_pos y.2, if_neg (by decide)]
        rw [y.1] at h hE
        exact J89_fine hr hn h hp ht hO y.2 hE
      · have hz : (if w = 0 then (if g 82 4 = 59 then (1 : Int) else 0) else 0) = 0 := by
          by_cases a : w = 0
          · rw [if_pos a, if_neg (fun b => y ⟨a, b⟩)]
          · rw [if_neg a]
        rw [hz, if_pos rfl, hd, if_pos rfl]
        have hsg := X4_readSign hr hn h hp ht hS hO ho.2.2.2.1
        exact go (zF_X4_readSign ru g) (gr_x (d := 0) (c := cp_sign B (g 82 5) (g 82 3) (g 82 4) w S nc k) (p := p) ho hO t5 hE (cp_sign_x B _ _ _ ho) hsg (fun z => absurd z (by decide)) (fun _ => ⟨y, fun _ _ q => q⟩))
    · rw [hd] at h ho hE
      rw [if_neg (show ¬ d = 0 by omega), if_pos rfl, if_neg (show ¬ d = 0 by omega)]
      have hsg := X4_readPart hr hn h hp ht hS hO hnc
      exact go (zF_X4_readPart ru g) (gr_x (d := 1) (c := cp_part B (g 82 5) (g 82 3) (g 82 4) w S nc k) (p := p) ho hO t5 hE (cp_part_x B _ _ _ ho) hsg (fun _ _ _ q => q) (fun z => absurd z (by decide)))
end RG
