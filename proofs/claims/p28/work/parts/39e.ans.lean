/-! ANSWERS (5): game -/
/-- a trunk's size in four days under a strap; what it gains -/
def sz (b0 : mz_G) (s : Int) (t : Nat) : Int := bn b0 (b0 153 t) (b0 154 t) (gnd b0 (b0 144 t) (b0 153 t) (b0 154 t) s 4 (b0 152 t) (b0 137 30))
def gg (b0 : mz_G) (t : Nat) (l : Int) : Int := sz b0 (if l = 1 then 9 else b0 155 t) t - l
def gm (b0 : mz_G) (t1 t2 : Nat) (p : Int × Int) (i j : Int) : Int × Int := if gg b0 t1 i < gg b0 t1 (1 - i) then p else if gg b0 t2 j < gg b0 t2 (1 - j) then p else (p.1 + 1, if p.2 = -1 then 10 * i + j else p.2)
section WE
variable {x : mm_X} {g g0 g1 gA gB b0 : mz_G} {ld : Nat}
theorem sz_b (hx : mk_x x) (k0 : ru x gA b0) {t : Int} (t0 : 0 ≤ t) (t1 : t < b0 140 1) (s : Int) : 1 ≤ sz b0 s t.toNat ∧ sz b0 s t.toNat ≤ 16 := by
  obtain ⟨-, -, vv, ss, tt, t6⟩ := now_t k0 t0 t1
  have vg := (gnd_b tt 4 _ (b0 137 30) vv (sp := s)).1
  have b := bn_b k0.2.1.1 vg
  exact ⟨b.1, b.2.1⟩
theorem own_A (hx : mk_x x) (k0 : ru x gA b0) {t l : Int} (t0 : 0 ≤ t) (t1 : t < b0 140 1) (hl : l = 0 ∨ l = 1) (f : fp x gA g) : ∃ g1, zF_X11_ownGain x t l g = (gg b0 t.toNat l, g1) ∧ fp x gA g1 := by
  have hld : x.1 = 1 ∨ x.1 = 41 := by unfold mk_x at hx; omega
  obtain ⟨-, ⟨e0, e1, e2, e3, e4⟩, vv, ss, tt, t6⟩ := now_t k0 t0 t1
  have e87 : gA 87 3 = b0 137 30 := k0.2.2.2.1.1.2.1
  have dd : 0 ≤ b0 137 30 ∧ b0 137 30 ≤ 999 := k0.2.2.2.1.1.2.2.2.1
  have ft : ∀ b : Nat, g (87 + 3 + t.toNat) b = gA (87 + 3 + t.toNat) b := fun b => f _ b (by omega) (by omega) (by omega)
  have P : ∀ s : Int, ∃ g1, zJ_X11_ownGain_26 x t l t s g = (sz b0 s t.toNat - l, g1) ∧ fp x gA g1 := fun s => by
    unfold zJ_X11_ownGain_26
    simp only [zf_lq]
    obtain ⟨g7, eg, ⟨w0, w1, w3, w4⟩, wf⟩ := probe_A (s := s) hld (fp_S hld k0.2.1 f) t0 t6 ((ft 0).trans e0) ((ft 1).trans e1) ((ft 3).trans e3) ((ft 4).trans e4) vv tt ((f 87 3 (by decide) (by omega) (by omega)).trans e87) dd.1 dd.2 (n := 4) (by decide) (by decide)
    rw [eg]
    have fg := fp_t f wf
    have b := sz_b hx k0 t0 t1 s
    have vg := (gnd_b tt 4 _ (b0 137 30) vv (sp := s)).1
    rw [bsize_n (fp_S hld k0.2.1 fg).1 w0 w1 w3 vg]
    have e : bn b0 (b0 153 t.toNat) (b0 154 t.toNat) (gnd b0 (b0 144 t.toNat) (b0 153 t.toNat) (b0 154 t.toNat) s 4 (b0 152 t.toNat) (b0 137 30)) = sz b0 s t.toNat := rfl
    rw [show (4 : Int).toNat = 4 from rfl, e, mz_wrap_id ⟨by omega, by omega⟩]
    exact ⟨g7, rfl, fg⟩
  unfold zF_X11_ownGain gg
  simp only [zf_lq]
  by_cases z : l = 1
  · rw [if_pos z, if_pos z]
    exact P 9
  · rw [if_neg z, if_neg z, get_A t0 t6, ft 2, e2]
    exact P _
theorem gm_1 {p : Int × Int} {i j : Int} {t1 t2 : Nat} (h : gg b0 t1 i < gg b0 t1 (1 - i)) : gm b0 t1 t2 p i j = p := if_pos h
theorem gm_2 {p : Int × Int} {i j : Int} {t1 t2 : Nat} (h1 : ¬ gg b0 t1 i < gg b0 t1 (1 - i)) (h : gg b0 t2 j < gg b0 t2 (1 - j)) : gm b0 t1 t2 p i j = p := (if_neg h1).trans (if_pos h)
theorem gm_3 {p : Int × Int} {i j : Int} {t1 t2 : Nat} (h1 : ¬ gg b0 t1 i < gg b0 t1 (1 - i)) (h : ¬ gg b0 t2 j < gg b0 t2 (1 - j)) : gm b0 t1 t2 p i j = (p.1 + 1, if p.2 = -1 then 10 * i + j else p.2) := (if_neg h1).trans (if_neg h)
theorem gm_b {p : Int × Int} {i j : Int} {t1 t2 : Nat} : (gm b0 t1 t2 p i j).1 = p.1 ∨ (gm b0 t1 t2 p i j).1 = p.1 + 1 := by
  by_cases h1 : gg b0 t1 i < gg b0 t1 (1 - i)
  · rw [gm_1 h1]; exact Or.inl rfl
  · by_cases h2 : gg b0 t2 j < gg b0 t2 (1 - j)
    · rw [gm_2 h1 h2]; exact Or.inl rfl
    · rw [gm_3 h1 h2]; exact Or.inr rfl
theorem g64_s (hx : mk_x x) (k0 : ru x gA b0) {a1 a2 a3 : Int} (t0 : 0 ≤ a1) (t1 : a1 < b0 140 1) (s0 : 0 ≤ a2) (s1 : a2 < b0 140 1) {l4 l5 l6 l7 : Int} (h4 : 0 ≤ l4 ∧ l4 ≤ 100) (h6 : l6 = 0 ∨ l6 = 1) (h7 : l7 = 0 ∨ l7 = 1) (f : fp x gA g) (k : Nat) : ∃ g1, zL_X11_game_64 x a1 a2 a3 (k + 1) l4 l5 l6 l7 g = zL_X11_game_64 x a1 a2 a3 k (gm b0 a1.toNat a2.toNat (l4, l5) l6 l7).1 (gm b0 a1.toNat a2.toNat (l4, l5) l6 l7).2 l6 (l7 + 1) g1 ∧ fp x gA g1 := by
  rw [zL_X11_game_64_s]
  unfold zB_X11_game_64 zJ_X11_game_132 zJ_X11_game_127
  rw [if_neg (by omega)]
  obtain ⟨g1, e1, f1⟩ := own_A hx k0 t0 t1 h6 f
  rw [e1]
  unfold zf_m2
  dsimp only
  obtain ⟨g2, e2, f2⟩ := own_A hx k0 t0 t1 (l := 1 - l6) (by omega) f1
  rw [e2]
  dsimp only
  by_cases z1 : gg b0 a1.toNat l6 < gg b0 a1.toNat (1 - l6)
  · rw [if_pos z1, gm_1 z1]
    exact ⟨g2, rfl, f2⟩
  · rw [if_neg z1]
    obtain ⟨g3, e3, f3⟩ := own_A hx k0 s0 s1 h7 f2
    rw [e3]
    dsimp only
    obtain ⟨g4, e4, f4⟩ := own_A hx k0 s0 s1 (l := 1 - l7) (by omega) f3
    rw [e4]
    dsimp only
    by_cases z2 : gg b0 a2.toNat l7 < gg b0 a2.toNat (1 - l7)
    · rw [if_pos z2, gm_2 z1 z2]
      exact ⟨g4, rfl, f4⟩
    · rw [if_neg z2, gm_3 z1 z2]
      simp only [zf_lq]
      rw [mz_wrap_id ⟨by omega, by omega⟩]
      by_cases z3 : l5 = -1
      · rw [if_pos z3, if_pos z3]
        exact ⟨g4, rfl, f4⟩
      · rw [if_neg z3, if_neg z3]
        exact ⟨g4, rfl, f4⟩
def gq (b0 : mz_G) (t1 t2 : Nat) : Int × Int := gm b0 t1 t2 (gm b0 t1 t2 (gm b0 t1 t2 (gm b0 t1 t2 (0, -1) 0 0) 0 1) 1 0) 1 1
theorem g64_e {a1 a2 a3 l4 l5 l6 : Int} (k : Nat) : zL_X11_game_64 x a1 a2 a3 (k + 1) l4 l5 l6 2 g = (l4, l5, g) := by
  rw [zL_X11_game_64_s]
  unfold zB_X11_game_64
  rw [if_pos (by decide)]
theorem g64 (hx : mk_x x) (k0 : ru x gA b0) {a1 a2 a3 : Int} (t0 : 0 ≤ a1) (t1 : a1 < b0 140 1) (s0 : 0 ≤ a2) (s1 : a2 < b0 140 1) {l4 l5 l6 : Int} (h4 : 0 ≤ l4 ∧ l4 ≤ 50) (h6 : l6 = 0 ∨ l6 = 1) (f : fp x gA g) (k : Nat) : ∃ g1, zL_X11_game_64 x a1 a2 a3 (k + 1 + 1 + 1) l4 l5 l6 0 g = ((gm b0 a1.toNat a2.toNat (gm b0 a1.toNat a2.toNat (l4, l5) l6 0) l6 1).1, (gm b0 a1.toNat a2.toNat (gm b0 a1.toNat a2.toNat (l4, l5) l6 0) l6 1).2, g1) ∧ fp x gA g1 := by
  obtain ⟨g1, e1, f1⟩ := g64_s hx k0 (a3 := a3) t0 t1 s0 s1 (l5 := l5) ⟨h4.1, by omega⟩ h6 (Or.inl rfl) f (k + 1 + 1)
  have b := gm_b (b0 := b0) (p := (l4, l5)) (i := l6) (j := 0) (t1 := a1.toNat) (t2 := a2.toNat)
  dsimp only at b
  generalize gm b0 a1.toNat a2.toNat (l4, l5) l6 0 = p at *
  obtain ⟨g2, e2, f2⟩ := g64_s hx k0 (a3 := a3) t0 t1 s0 s1 (l4 := p.1) (l5 := p.2) (l7 := 0 + 1) ⟨by omega, by omega⟩ h6 (Or.inr rfl) f1 (k + 1)
  rw [e1, e2, show (0 : Int) + 1 + 1 = 2 from rfl, g64_e]
  exact ⟨g2, rfl, f2⟩
theorem g55 (hx : mk_x x) (k0 : ru x gA b0) {a1 a2 a3 : Int} (t0 : 0 ≤ a1) (t1 : a1 < b0 140 1) (s0 : 0 ≤ a2) (s1 : a2 < b0 140 1) : ∃ g1, zL_X11_game_55 x a1 a2 a3 3000000000 0 (-1) 0 gA = (0, if a3 = 0 then (gq b0 a1.toNat a2.toNat).1 else (gq b0 a1.toNat a2.toNat).2, g1) := by
  obtain ⟨k, hk⟩ : ∃ k : Nat, 3000000000 = k + 1 + 1 + 1 := ⟨2999999997, by omega⟩
  obtain ⟨g1, e1, f1⟩ := g64 hx k0 (a3 := a3) t0 t1 s0 s1 (l4 := 0) (l5 := -1) (l6 := 0) (by decide) (Or.inl rfl) (fun _ _ _ _ _ => rfl) k
  have b1 := gm_b (b0 := b0) (p := (0, -1)) (i := 0) (j := 0) (t1 := a1.toNat) (t2 := a2.toNat)
  unfold gq
  generalize gm b0 a1.toNat a2.toNat (0, -1) 0 0 = p1 at *
  have b2 := gm_b (b0 := b0) (p := p1) (i := 0) (j := 1) (t1 := a1.toNat) (t2 := a2.toNat)
  generalize gm b0 a1.toNat a2.toNat p1 0 1 = p2 at *
  obtain ⟨g2, e2, f2⟩ := g64 hx k0 (a3 := a3) t0 t1 s0 s1 (l4 := p2.1) (l5 := p2.2) (l6 := 0 + 1) (by omega) (Or.inr rfl) f1 k
  rw [← hk] at e1 e2
  rw [hk, zL_X11_game_55_s]
  unfold zB_X11_game_55
  rw [if_neg (by decide), e1]
  unfold zf_m3
  dsimp only
  rw [zL_X11_game_55_s]
  unfold zB_X11_game_55
  rw [if_neg (by decide), e2]
  unfold zf_m3
  dsimp only
  rw [zL_X11_game_55_s]
  unfold zB_X11_game_55
  rw [if_pos (by decide)]
  refine ⟨g2, ?_⟩
  by_cases z : a3 = 0
  · rw [if_pos z, if_pos z]
    rfl
  · rw [if_neg z, if_neg z]
    rfl
end WE
