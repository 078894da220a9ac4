/-! readPart, readSign, readGrows of the class -/
section VG
variable {g : mz_G}
theorem X4_valueOfWord (hs : mz_str g) (h0 : 0 ≤ g 82 5) (h1 : g 82 5 ≤ g 82 3) (h2 : g 82 3 ≤ 700) (hk : g 82 4 ≠ 2) : zF_X4_valueOfWord g = vv (mz_cb g) (g 82 4) (g 82 5) (g 82 3) := by
  unfold zF_X4_valueOfWord vv
  simp only [zf_lq]
  rw [if_neg hk]
  by_cases a6 : tk_sp (mz_cb g) (g 82 4) (g 82 5) (g 82 3) 6
  · rw [(X7_spells (by decide) hs h0 h1 h2).1 a6, if_neg (by decide), if_pos a6]
  rw [(X7_spells (by decide) hs h0 h1 h2).2 a6, if_pos rfl, if_neg a6]
  by_cases a3 : tk_sp (mz_cb g) (g 82 4) (g 82 5) (g 82 3) 3
  · rw [(X7_spells (by decide) hs h0 h1 h2).1 a3, if_neg (by decide), if_pos a3]
  rw [(X7_spells (by decide) hs h0 h1 h2).2 a3, if_pos rfl, if_neg a3]
  by_cases a7 : tk_sp (mz_cb g) (g 82 4) (g 82 5) (g 82 3) 7
  · rw [(X7_spells (by decide) hs h0 h1 h2).1 a7, if_neg (by decide), if_pos a7]
  rw [(X7_spells (by decide) hs h0 h1 h2).2 a7, if_pos rfl, if_neg a7]
  by_cases a8 : tk_sp (mz_cb g) (g 82 4) (g 82 5) (g 82 3) 8
  · rw [(X7_spells (by decide) hs h0 h1 h2).1 a8, if_neg (by decide), if_pos a8]
  rw [(X7_spells (by decide) hs h0 h1 h2).2 a8, if_pos rfl, if_neg a8]
  by_cases a9 : tk_sp (mz_cb g) (g 82 4) (g 82 5) (g 82 3) 9
  · rw [(X7_spells (by decide) hs h0 h1 h2).1 a9, if_neg (by decide), if_pos a9]
  rw [(X7_spells (by decide) hs h0 h1 h2).2 a9, if_pos rfl, if_neg a9]
  by_cases a10 : tk_sp (mz_cb g) (g 82 4) (g 82 5) (g 82 3) 10
  · rw [(X7_spells (by decide) hs h0 h1 h2).1 a10, if_neg (by decide), if_pos a10]
  rw [(X7_spells (by decide) hs h0 h1 h2).2 a10, if_pos rfl, if_neg a10]
  by_cases a11 : tk_sp (mz_cb g) (g 82 4) (g 82 5) (g 82 3) 11
  · rw [(X7_spells (by decide) hs h0 h1 h2).1 a11, if_neg (by decide), if_pos a11]
  rw [(X7_spells (by decide) hs h0 h1 h2).2 a11, if_pos rfl, if_neg a11]
end VG
theorem vv_0 {B : Int → Int} {kd b e : Int} (hk : kd ≠ 2) : vv B kd b e = 0 ↔ ¬ tk_val B kd b e := by
  unfold vv tk_val
  rw [if_neg hk]
  by_cases a6 : tk_sp B kd b e 6
  · rw [if_pos a6]; exact ⟨fun z => absurd z (by decide), fun z => absurd (Or.inl a6) z⟩
  rw [if_neg a6]
  by_cases a3 : tk_sp B kd b e 3
  · rw [if_pos a3]; exact ⟨fun z => absurd z (by decide), fun z => absurd (Or.inr (Or.inl a3)) z⟩
  rw [if_neg a3]
  by_cases a7 : tk_sp B kd b e 7
  · rw [if_pos a7]; exact ⟨fun z => absurd z (by decide), fun z => absurd (Or.inr (Or.inr (Or.inl a7))) z⟩
  rw [if_neg a7]
  by_cases a8 : tk_sp B kd b e 8
  · rw [if_pos a8]; exact ⟨fun z => absurd z (by decide), fun z => absurd (Or.inr (Or.inr (Or.inr (Or.inl a8)))) z⟩
  rw [if_neg a8]
  by_cases a9 : tk_sp B kd b e 9
  · rw [if_pos a9]; exact ⟨fun z => absurd z (by decide), fun z => absurd (Or.inr (Or.inr (Or.inr (Or.inr (Or.inl a9))))) z⟩
  rw [if_neg a9]
  by_cases a10 : tk_sp B kd b e 10
  · rw [if_pos a10]; exact ⟨fun z => absurd z (by decide), fun z => absurd (Or.inr (Or.inr (Or.inr (Or.inr (Or.inr (Or.inl a10)))))) z⟩
  rw [if_neg a10]
  by_cases a11 : tk_sp B kd b e 11
  · rw [if_pos a11]; exact ⟨fun z => absurd z (by decide), fun z => absurd (Or.inr (Or.inr (Or.inr (Or.inr (Or.inr (Or.inr a11)))))) z⟩
  rw [if_neg a11]
  exact ⟨fun _ z => by rcases z with z | z | z | z | z | z | z <;> contradiction, fun _ => rfl⟩
section VS
variable {g : mz_G}
theorem X4_sign118 (h60 : g 82 4 ≠ 60) (h61 : g 82 4 ≠ 61) (h43 : g 82 4 ≠ 43) (h45 : g 82 4 ≠ 45) (h42 : g 82 4 ≠ 42) (h47 : g 82 4 ≠ 47) : zF_X4_signOfToken g = zJ_X4_signOfToken_118 g := by
  unfold zF_X4_signOfToken zF_X7_kind
  simp only [zf_lq]
  simp only [if_neg h42, if_neg h43, if_neg h45, if_neg h47, if_neg h60, if_neg h61, ite_self]
theorem X4_signs : (g 82 4 = 60 → zF_X4_signOfToken g = -14) ∧ (g 82 4 = 61 → zF_X4_signOfToken g = -15) ∧ (g 82 4 = 43 → zF_X4_signOfToken g = -16) ∧ (g 82 4 = 45 → zF_X4_signOfToken g = -17) ∧ (g 82 4 = 42 → zF_X4_signOfToken g = -18) ∧ (g 82 4 = 47 → zF_X4_signOfToken g = -19) := by
  unfold zF_X4_signOfToken zF_X7_kind
  simp only [zf_lq]
  refine ⟨fun h => ?_, fun h => ?_, fun h => ?_, fun h => ?_, fun h => ?_, fun h => ?_⟩ <;> rw [h] <;> rfl
theorem X4_signOfToken (hs : mz_str g) (h0 : 0 ≤ g 82 5) (h1 : g 82 5 ≤ g 82 3) (h2 : g 82 3 ≤ 700) : tk_so (mz_cb g) (g 82 4) (g 82 5) (g 82 3) (zF_X4_signOfToken g) := by
  obtain ⟨s1, s2, s3, s4, s5, s6⟩ := X4_signs (g := g)
  refine ⟨s1, s2, s3, s4, s5, s6, fun a b c d e f => ?_⟩
  rw [X4_sign118 a b c d e f]
  unfold zJ_X4_signOfToken_118
  simp only [zf_lq]
  by_cases a12 : tk_sp (mz_cb g) (g 82 4) (g 82 5) (g 82 3) 12
  · rw [(X7_spells (by decide) hs h0 h1 h2).1 a12, if_neg (by decide)]
    exact ⟨fun _ => rfl, fun z => absurd a12 z, fun z => absurd a12 z⟩
  rw [(X7_spells (by decide) hs h0 h1 h2).2 a12, if_pos rfl]
  by_cases a13 : tk_sp (mz_cb g) (g 82 4) (g 82 5) (g 82 3) 13
  · rw [(X7_spells (by decide) hs h0 h1 h2).1 a13, if_neg (by decide)]
    exact ⟨fun z => absurd z a12, fun _ _ => rfl, fun _ z => absurd a13 z⟩
  rw [(X7_spells (by decide) hs h0 h1 h2).2 a13, if_pos rfl]
  exact ⟨fun z => absurd z a12, fun _ z => absurd z a13, fun _ _ => rfl⟩
end VS
def cF (q : Int × mz_G) : pw_F := fun x y => q.1 = 0 ∧ q.2 81 1 = x ∧ q.2 81 2 = y ∧ q.2 81 4 ≤ 84
def cN (B : Int → Int) (n : Int) (ru : Nat) (g0 : mz_G) (fa pl e : Int) (O : List Int) (q : Int × mz_G) : pw_N := fun d w S nc k D => q.1 = 1 ∧ ck B n ru g0 q.2 fa pl d w S nc k (O ++ D) ∧ tk_tok B n e (q.2 82 5) (q.2 82 3) (q.2 82 4) (q.2 82 6)
section RP
variable {B : Int → Int} {n : Int} {ru : Nat} {g0 g : mz_G} {fa pl w nc k p : Int} {S O : List Int}
theorem blame_F {v : Int} (h4 : g 81 4 ≤ 84) : cF (zF_X4_blame v g) v (g 82 5) := by
  rw [X4_blame]
  refine ⟨rfl, ?_, ?_, ?_⟩
  · show mz_up (mz_up g 81 1 v) 81 2 (g 82 5) 81 1 = v
    exact (up_j (by decide)).trans (mz_up_at ..)
  · show mz_up (mz_up g 81 1 v) 81 2 (g 82 5) 81 2 = g 82 5
    exact mz_up_at ..
  · show mz_up (mz_up g 81 1 v) 81 2 (g 82 5) 81 4 ≤ 84
    rw [up_j (by decide), up_j (by decide)]
    exact h4
theorem J195_N {d : Int} {D : List Int} {e : Int} (hr : ru = 37 ∨ ru = 77) (hn : n ≤ 700) (h : ck B n ru g0 g fa pl d w S nc k (O ++ D)) (h3 : g 82 3 = e) (h0 : 0 ≤ e) (h1 : e ≤ n) : cN B n ru g0 fa pl e O (zJ_X4_readPart_195 ru g) d w S nc k D := by
  obtain ⟨a, b⟩ := ck_step hr hn h h3 h0 h1
  exact ⟨rfl, a, b⟩
theorem X4_readPart (hr : ru = 37 ∨ ru = 77) (hn : n ≤ 700) (h : ck B n ru g0 g fa pl 1 w S nc k O) (hp : 0 ≤ p) (ht : tk_tok B n p (g 82 5) (g 82 3) (g 82 4) (g 82 6)) (hl : S.length < 84) (hO : (O.length : Int) + S.length ≤ g 82 5) (hnc : nc = 0 ∨ nc = 1) : cp_part B (g 82 5) (g 82 3) (g 82 4) w S nc k (cF (zF_X4_readPart ru g)) (cN B n ru g0 fa pl (g 82 3) O (zF_X4_readPart ru g)) := by
  obtain ⟨t1, t2, t3, t4, t5⟩ := tk_tok_len ht
  have hs := h.2.2.1
  have eB := h.1
  have e5 : g 81 5 = w := h.2.2.2.2.2.1.2.1
  have e8 : g 81 8 = nc := h.2.2.2.2.2.1.2.2.1
  have e6 : g 81 6 = k := h.2.2.2.2.2.1.2.2.2
  have h84 := (st_k_b h.2.2.2.2.2.2.1).2
  have hsp : ∀ q : Nat, q < 28 → (tk_sp B (g 82 4) (g 82 5) (g 82 3) q → zF_X7_spells q g = 1) ∧ (¬ tk_sp B (g 82 4) (g 82 5) (g 82 3) q → zF_X7_spells q g = 0) := fun q hq => by
    rw [← eB]
    exact X7_spells hq hs (by omega) t3 (by omega)
  unfold zF_X4_readPart zF_X7_kind
  simp only [zf_lq]
  -- a kind that can be a part
  have main : (g 82 4 = 2 ∨ g 82 4 = 1 ∨ g 82 4 = 40) → cp_part B (g 82 5) (g 82 3) (g 82 4) w S nc k (cF (zJ_X4_readPart_30 ru (g 82 4) g)) (cN B n ru g0 fa pl (g 82 3) O (zJ_X4_readPart_30 ru (g 82 4) g)) := by
    intro hk
    unfold zJ_X4_readPart_30
    simp only [zf_lq]
    rw [e5]
    refine ⟨fun a b c => by omega, fun _ => ⟨fun hw => ?_, fun hw => ⟨fun h40 => ?_, fun h40 => ⟨fun hq => ⟨fun hk6 => ?_, fun hk6 => ?_⟩, fun hq => ?_⟩⟩⟩⟩
    · rw [if_neg (by omega)]
      exact blame_F h84
    · rw [if_pos hw, if_pos h40]
      have b1 := ck_open (a := -20) hr hl h
      have b2 : zF_X4_openSign (-20) g 81 5 = w := b1.2.2.2.2.2.1.2.1
      rw [b2]
      refine J195_N hr hn (by rw [List.append_nil]; exact ck_anew hr (ck_5 hr b1)) ?_ (by omega) t4
      have e4 := h.2.2.2.2.2.2.1.1
      unfold zF_X4_notsAnew zF_X4_openSign
      simp only [zf_lq]
      rw [X11_put (by omega) (by omega)]
      exact (up_k (by decide)).trans ((up_k (by decide)).trans ((up_k (by decide)).trans ((up_k (by decide)).trans (up_k (by decide)))))
    · rw [if_pos hw, if_neg h40, e8, if_neg (by omega), (hsp 5 (by decide)).1 hq.2, if_neg (by decide), e6, if_neg (by omega)]
      exact blame_F h84
    · rw [if_pos hw, if_neg h40, e8, if_neg (by omega), (hsp 5 (by decide)).1 hq.2, if_neg (by decide), e6, if_pos hk6]
      have b0 : ck B n ru g0 (mz_up g 81 6 (k + 1)) fa pl 1 w S nc (k + 1) O := ck_6 hr h
      refine J195_N hr hn (by rw [List.append_nil]; exact ck_open hr hl b0) ?_ (by omega) t4
      have e4 := b0.2.2.2.2.2.2.1.1
      unfold zF_X4_openSign
      simp only [zf_lq]
      rw [X11_put (by omega) (by omega)]
      exact (up_k (by decide)).trans ((up_k (by decide)).trans (up_k (by decide)))
    · have j128 : (if w < 6 then (if g 82 4 = 40 then zJ_X4_readPart_195 ru (zF_X4_notsAnew 1 (mz_up (zF_X4_openSign (-20) g) 81 5 (zF_X4_openSign (-20) g 81 5 + 1))) else if g 81 8 = 0 then zJ_X4_readPart_128 ru (g 82 4) g else if zF_X7_spells 5 g = 0 then zJ_X4_readPart_128 ru (g 82 4) g else if g 81 6 < 6 then zJ_X4_readPart_195 ru (zF_X4_openSign (-13) (mz_up g 81 6 (g 81 6 + 1))) else zf_m2 (zF_X4_blame 2 g) fun v23 g24 => (v23, g24)) else zf_m2 (zF_X4_blame 2 g) fun v25 g26 => (v25, g26)) = zJ_X4_readPart_128 ru (g 82 4) g := by
        rw [if_pos hw, if_neg h40]
        by_cases z : nc = 0
        · rw [e8, if_pos z]
        · rw [e8, if_neg z, (hsp 5 (by decide)).2 (fun y => hq ⟨by omega, y⟩), if_pos rfl]
      rw [j128]
      unfold zJ_X4_readPart_128 zF_X7_number
      simp only [zf_lq]
      -- a value's step
      have fin : ∀ v : Int, vv B (g 82 4) (g 82 5) (g 82 3) = v → g 82 4 ≠ 0 → cN B n ru g0 fa pl (g 82 3) O (zJ_X4_readPart_185 ru v g) 0 w S nc k [vv B (g 82 4) (g 82 5) (g 82 3)] := by
        intro v hv hk0
        rw [hv]
        unfold zJ_X4_readPart_185
        simp only [zf_lq]
        have t6 := t5 hk0
        have b1 := ck_add (v := v) hr (by omega) h
        refine J195_N hr hn (ck_7 hr b1) ?_ (by omega) t4
        rw [up_k (by decide)]
        exact (ol_add (v := v) hr (by omega) h.2.2.2.2.2.2.2).2 82 3 (by omega)
      by_cases h2 : g 82 4 = 2
      · rw [if_pos h2]
        unfold zJ_X4_readPart_147 zF_X7_tokenSize
        simp only [zf_lq]
        rw [if_pos h2]
        refine ⟨fun hl4 => ?_, fun hv => by omega, fun hl4 _ => ?_⟩
        · rw [if_pos hl4.2]
          exact blame_F h84
        · rw [if_neg (fun z => hl4 ⟨h2, z⟩)]
          unfold zJ_X4_readPart_170
          rw [if_neg (by omega)]
          refine fin _ ?_ (by omega)
          unfold vv
          rw [if_pos h2]
          have hb : g 82 5 < n := by have := t5 (by omega); omega
          obtain ⟨a1, a2, a3, a4, a5⟩ := ht
          by_cases z1 : tk_let (B (g 82 5))
          · have := (a3 hb z1).1; omega
          · by_cases z2 : tk_dig (B (g 82 5))
            · exact ((a4 hb z2).2.2 (by omega)).symm
            · have := a5 hb z1 z2
              by_cases z3 : tk_sgn (B (g 82 5))
              · have := this.2.1 z3
                unfold tk_sgn at z3
                omega
              · have := this.2.2 z3
                omega
      · have h1 : g 82 4 = 1 := by omega
        rw [if_neg h2]
        have hvw : zF_X4_valueOfWord g = vv B (g 82 4) (g 82 5) (g 82 3) := by
          rw [← eB]
          exact X4_valueOfWord hs (by omega) t3 (by omega) h2
        rw [hvw]
        unfold zJ_X4_readPart_147
        rw [if_neg h2]
        unfold zJ_X4_readPart_170
        rw [if_pos h1]
        refine ⟨fun hl4 => by omega, fun hv => ?_, fun _ hv => ?_⟩
        · rw [if_pos ((vv_0 h2).mpr hv.2)]
          exact blame_F h84
        · rw [if_neg (fun z => hv ⟨h1, (vv_0 h2).mp z⟩)]
          exact fin _ rfl (by omega)
  by_cases k2 : g 82 4 = 2
  · rw [if_pos k2]
    exact main (Or.inl k2)
  · rw [if_neg k2]
    by_cases k1 : g 82 4 = 1
    · rw [if_pos k1]
      exact main (Or.inr (Or.inl k1))
    · rw [if_neg k1]
      by_cases k40 : g 82 4 = 40
      · rw [if_pos k40]
        exact main (Or.inr (Or.inr k40))
      · rw [if_neg k40]
        exact ⟨fun _ _ _ => blame_F h84, fun z => by omega⟩
theorem X4_readSign (hr : ru = 37 ∨ ru = 77) (hn : n ≤ 700) (h : ck B n ru g0 g fa pl 0 w S nc k O) (hp : 0 ≤ p) (ht : tk_tok B n p (g 82 5) (g 82 3) (g 82 4) (g 82 6)) (hl : S.length < 84) (hO : (O.length : Int) + S.length ≤ g 82 5) (hsh : sh S w) : cp_sign B (g 82 5) (g 82 3) (g 82 4) w S nc k (cF (zF_X4_readSign ru g)) (cN B n ru g0 fa pl (g 82 3) O (zF_X4_readSign ru g)) := by
  obtain ⟨t1, t2, t3, t4, t5⟩ := tk_tok_len ht
  have hs := h.2.2.1
  have eB := h.1
  have e5 : g 81 5 = w := h.2.2.2.2.2.1.2.1
  have h84 := (st_k_b h.2.2.2.2.2.2.1).2
  unfold zF_X4_readSign zF_X7_kind
  simp only [zf_lq]
  rw [e5]
  refine ⟨fun z => ?_, fun z sg hsg => ?_⟩
  · rw [if_pos z.1, if_pos z.2]
    obtain ⟨c1, c2⟩ := X4_closeSigns (r := 1) hr (by omega) h
    have hne : cl S 1 ≠ [] := sh_ne (sh_cl S w 1 (by decide) hsh).1 z.2
    obtain ⟨a, T, hT⟩ : ∃ a T, cl S 1 = a :: T := by
      cases hc : cl S 1 with
      | nil => exact absurd hc hne
      | cons a T => exact ⟨a, T, rfl⟩
    rw [hT] at c1
    have e4 := c1.2.2.2.2.2.2.1.1
    have l4 := c1.2.2.2.2.2.2.1.2.1
    simp only [List.length_cons] at e4 l4
    rw [mz_wrap_id ⟨by omega, by omega⟩]
    have b1 := ck_pop hr c1 (v := zF_X4_closeSigns ru 1 g 81 4 - 1) rfl
    have b5 : mz_up (zF_X4_closeSigns ru 1 g) 81 4 (zF_X4_closeSigns ru 1 g 81 4 - 1) 81 5 = w := b1.2.2.2.2.2.1.2.1
    rw [b5]
    have b2 := ck_5 (v := w - 1) hr b1
    obtain ⟨b3, b4⟩ := ck_step (p := g 82 3) hr hn b2 ((up_k (by decide)).trans ((up_k (by decide)).trans (c2 82 3 (by omega)))) (by omega) t4
    rw [hT]
    exact ⟨rfl, b3, b4⟩
  · have hj : (if g 82 4 = 41 then (if 0 < w then ((1 : Int), zF_X7_step (mz_up (mz_up (zF_X4_closeSigns ru 1 g) 81 4 (mz_wrap (zF_X4_closeSigns ru 1 g 81 4 - 1))) 81 5 (mz_up (zF_X4_closeSigns ru 1 g) 81 4 (mz_wrap (zF_X4_closeSigns ru 1 g 81 4 - 1)) 81 5 - 1))) else zJ_X4_readSign_54 ru g) else zJ_X4_readSign_54 ru g) = zJ_X4_readSign_54 ru g := by
      by_cases y : g 82 4 = 41
      · rw [if_pos y, if_neg (fun x => z ⟨y, x⟩)]
      · rw [if_neg y]
    rw [hj]
    have esg : zF_X4_signOfToken g = sg := by
      refine tk_so_u ?_ hsg
      rw [← eB]
      exact X4_signOfToken hs (by omega) t3 (by omega)
    unfold zJ_X4_readSign_54
    simp only [zf_lq]
    rw [esg, X4_rankOf]
    have hb := rk_b sg
    -- behind the closing
    have j88 : ∀ s2 : Int, s2 = (if rk sg = 4 then 5 else rk sg) → rk sg ≠ 0 → ((rk sg = 4 ∧ rk (tp (cl S 5)) = 4) → cF (zJ_X4_readSign_88 ru s2 sg (rk sg) g) 1 (g 82 5)) ∧ (¬ (rk sg = 4 ∧ rk (tp (cl S 5)) = 4) → cN B n ru g0 fa pl (g 82 3) O (zJ_X4_readSign_88 ru s2 sg (rk sg) g) 1 w (sg :: cl S (if rk sg = 4 then 5 else rk sg)) (if rk sg ≤ 2 then 1 else 0) 0 (co S (if rk sg = 4 then 5 else rk sg))) := by
      intro s2 hs2 h0
      obtain ⟨c1, c2⟩ := X4_closeSigns (r := s2) hr (by omega) h
      unfold zJ_X4_readSign_88
      simp only [zf_lq]
      have j113 : cN B n ru g0 fa pl (g 82 3) O (zJ_X4_readSign_113 ru sg (rk sg) (zF_X4_closeSigns ru s2 g)) 1 w (sg :: cl S s2) (if rk sg ≤ 2 then 1 else 0) 0 (co S s2) := by
        unfold zJ_X4_readSign_113
        simp only [zf_lq]
        have b1 := ck_open (a := sg) hr (Nat.lt_of_le_of_lt (cl_len S s2) hl) c1
        have b2 := ck_7 (v := 1) hr b1
        have e4 := c1.2.2.2.2.2.2.1.1
        have l4 := c1.2.2.2.2.2.2.1.2.1
        have l5 := Nat.lt_of_le_of_lt (cl_len S s2) hl
        have j134 : ∀ v : Int, v = (if rk sg ≤ 2 then 1 else 0) → cN B n ru g0 fa pl (g 82 3) O (zJ_X4_readSign_134 ru v (mz_up (zF_X4_openSign sg (zF_X4_closeSigns ru s2 g)) 81 7 1)) 1 w (sg :: cl S s2) (if rk sg ≤ 2 then 1 else 0) 0 (co S s2) := by
          intro v hv
          unfold zJ_X4_readSign_134
          simp only [zf_lq]
          have b3 := ck_anew (v := v) hr b2
          obtain ⟨b4, b5⟩ := ck_step (p := g 82 3) hr hn b3 (by
            unfold zF_X4_notsAnew zF_X4_openSign
            simp only [zf_lq]
            rw [X11_put (by omega) (by omega)]
            exact (up_k (by decide)).trans ((up_k (by decide)).trans ((up_k (by decide)).trans ((up_k (by decide)).trans ((up_k (by decide)).trans (c2 82 3 (by omega))))))) (by omega) t4
          rw [hv] at b4 b5 ⊢
          exact ⟨rfl, b4, b5⟩
        by_cases y : 2 < rk sg
        · rw [if_pos y]
          exact j134 0 (by rw [if_neg (by omega)])
        · rw [if_neg y]
          exact j134 1 (by rw [if_pos (by omega)])
      by_cases y : rk sg = 4
      · rw [if_pos y] at hs2
        rw [if_pos y, X4_lastOpen_tp c1.2.2.2.2.2.2.1, X4_rankOf, if_pos y, hs2]
        rw [hs2] at j113 c2 c1
        refine ⟨fun x => ?_, fun x => ?_⟩
        · rw [if_pos x.2]
          have := blame_F (g := zF_X4_closeSigns ru 5 g) (v := 1) (st_k_b c1.2.2.2.2.2.2.1).2
          rw [c2 82 5 (by omega)] at this
          exact this
        · rw [if_neg (fun u => x ⟨y, u⟩)]
          exact j113
      · rw [if_neg y] at hs2
        subst hs2
        rw [if_neg y, if_neg y]
        exact ⟨fun x => absurd x.1 y, fun _ => j113⟩
    refine ⟨fun h0 => ?_, fun h0 => ?_⟩
    · rw [if_pos h0]
      exact blame_F h84
    · rw [if_neg h0]
      by_cases y : rk sg = 4
      · rw [if_pos y]
        have := j88 (rk sg + 1) (by rw [if_pos y, y]; rfl) h0
        rw [y] at this ⊢
        exact this
      · rw [if_neg y]
        exact j88 (rk sg) (by rw [if_neg y]) h0
end RP
