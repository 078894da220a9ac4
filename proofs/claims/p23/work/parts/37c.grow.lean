/-! GROWING by a day, of both -/
/-- the values that a rule is asked for -/
def av (g : mz_G) (sd mt sp gn d h : Int) : Nat → Int := fun j => if j = 0 then sp else if j = 1 then h else if j = 2 then gn else if j = 3 then g 143 sd.toNat else if j = 4 then g 143 mt.toNat else if j = 5 then zF_X12_overlapOf sd mt g else d
/-- how much a trunk grows more, behind its bounds -/
def gv (g : mz_G) (sd mt sp gn d h : Int) : Int := max 0 (min 3 (if 0 < g 140 3 then vl g (av g sd mt sp gn d h) else if sp < h then 1 else 0))
/-- GROWN behind a day -/
def g1d (g : mz_G) (tr sd mt sp gn d h : Int) : Int := min (fu g sd mt) (gn + gv g sd mt sp gn d h * (1 + tr))
theorem gv_b {g : mz_G} {sd mt sp gn d h : Int} : 0 ≤ gv g sd mt sp gn d h ∧ gv g sd mt sp gn d h ≤ 3 := by
  unfold gv
  omega
theorem g1d_b {g : mz_G} {tr sd mt sp gn d h : Int} (v : vt g sd mt gn) (t : tr = 0 ∨ tr = 1) : vt g sd mt (g1d g tr sd mt sp gn d h) ∧ gn ≤ g1d g tr sd mt sp gn d h := by
  obtain ⟨a, b, c, e, f, i⟩ := v
  have := gv_b (g := g) (sd := sd) (mt := mt) (sp := sp) (gn := gn) (d := d) (h := h)
  have : gv g sd mt sp gn d h ≤ gv g sd mt sp gn d h * (1 + tr) ∧ gv g sd mt sp gn d h * (1 + tr) ≤ 6 := by
    rcases t with rfl | rfl <;> omega
  unfold g1d
  exact ⟨⟨a, b, c, e, by omega, by omega⟩, by omega⟩
section GD
variable {ld : Nat} {gA gB : mz_G}
/-- the class's cells that growing writes: of a trunk, of the rule's room -/
def fw_gr (ld q : Nat) : Nat → Nat → Prop := fun a b => (a = q ∧ b = 3) ∨ a = ld + 38 ∨ a = ld + 39
/-- the values put for the rule -/
def sv (ld : Nat) (gA : mz_G) (a0 a2 a6 a1 : Int) : mz_G := mz_up (mz_up (mz_up (mz_up gA (ld + 38) 0 a0) (ld + 38) 2 a2) (ld + 38) 6 a6) (ld + 38) 1 a1
def sw (ld : Nat) (g : mz_G) (a3 a4 a5 : Int) : mz_G := mz_up (mz_up (mz_up g (ld + 38) 3 a3) (ld + 38) 4 a4) (ld + 38) 5 a5
theorem setT {q : Nat} (hq : q ≠ ld + 38) {d h : Int} : zF_X5_setTrunk (ld + 36) q d h gA = sv ld gA (gA q 2) (gA q 3) d h := by
  unfold zF_X5_setTrunk sv
  simp only [zf_lq]
  rw [X11_put (n := 7) (by decide) (by decide), X11_put (n := 7) (by decide) (by decide), X11_put (n := 7) (by decide) (by decide), X11_put (n := 7) (by decide) (by decide), show ld + 36 + 2 = ld + 38 from rfl, up_k hq]
  rfl
theorem setW {a3 a4 a5 : Int} : zF_X5_setWords (ld + 36) a3 a4 a5 gA = sw ld gA a3 a4 a5 := by
  unfold zF_X5_setWords sw
  simp only [zf_lq]
  rw [X11_put (n := 7) (by decide) (by decide), X11_put (n := 7) (by decide) (by decide), X11_put (n := 7) (by decide) (by decide)]
  rfl
theorem sv_o {a0 a2 a6 a1 : Int} {a b : Nat} (h : a ≠ ld + 38) : sv ld gA a0 a2 a6 a1 a b = gA a b := by
  unfold sv
  rw [up_k h, up_k h, up_k h, up_k h]
theorem sw_o {a3 a4 a5 : Int} {a b : Nat} (h : a ≠ ld + 38) : sw ld gA a3 a4 a5 a b = gA a b := by
  unfold sw
  rw [up_k h, up_k h, up_k h]
theorem sw_v {a0 a1 a2 a3 a4 a5 a6 : Int} {j : Nat} (hj : j < 7) : sw ld (sv ld gA a0 a2 a6 a1) a3 a4 a5 (ld + 38) j = if j = 0 then a0 else if j = 1 then a1 else if j = 2 then a2 else if j = 3 then a3 else if j = 4 then a4 else if j = 5 then a5 else a6 := by
  unfold sw sv mz_up
  have : j = 0 ∨ j = 1 ∨ j = 2 ∨ j = 3 ∨ j = 4 ∨ j = 5 ∨ j = 6 := by omega
  rcases this with rfl | rfl | rfl | rfl | rfl | rfl | rfl <;> simp
theorem grow_A (S : sta ld gA gB) (hld : ld = 1 ∨ ld = 41) {q : Nat} (hq : 86 < q) {d h : Int} (v : vt gB (gA q 0) (gA q 1) (gA q 3)) (t : gA q 4 = 0 ∨ gA q 4 = 1) : zF_X1_grow ld q d h gA q 3 = g1d gB (gA q 4) (gA q 0) (gA q 1) (gA q 2) (gA q 3) d h ∧ mz_fr (fw_gr ld q) gA (zF_X1_grow ld q d h gA) := by
  obtain ⟨w, o, hh, r⟩ := id S
  obtain ⟨a0, a1, b0, b1, c0, c1⟩ := v
  have fb := fu_b w a0 a1 b0 b1
  -- what is left behind the number that the rule gives
  have tail : ∀ (g : mz_G) (y : Int), (∀ a b : Nat, a ≠ ld + 38 → a ≠ ld + 39 → g a b = gA a b) → 0 ≤ y → y ≤ 3 → zJ_X1_grow_96 ld q d h y g q 3 = min (fu gB (gA q 0) (gA q 1)) (gA q 3 + y * (1 + gA q 4)) ∧ mz_fr (fw_gr ld q) gA (zJ_X1_grow_96 ld q d h y g) := fun g y f y0 y3 => by
    have wg : sa_w ld g gB := (sta_A S (g := g) (fun a b u v => f a b (by omega) (by omega))).1
    have e : ∀ b : Nat, g q b = gA q b := fun b => f q b (by omega) (by omega)
    have fl : zF_X1_fullOf ld q g = fu gB (gA q 0) (gA q 1) := by
      rw [full_A wg (by rw [e]; exact a0) (by rw [e]; exact a1) (by rw [e]; exact b0) (by rw [e]; exact b1), e, e]
    have fin : ∀ z : Int, 0 ≤ z → z ≤ 6 → zJ_X1_grow_116 ld q d h (gA q 3) z g q 3 = min (fu gB (gA q 0) (gA q 1)) (gA q 3 + z) ∧ mz_fr (fw_gr ld q) gA (zJ_X1_grow_116 ld q d h (gA q 3) z g) := fun z z0 z6 => by
      unfold zJ_X1_grow_116
      simp only [zf_lq]
      rw [fl, mz_wrap_id ⟨by omega, by omega⟩]
      refine ⟨mz_up_at .., fun a b hab => ?_⟩
      unfold fw_gr at hab
      rw [mz_up_ne (by omega)]
      exact f a b (by omega) (by omega)
    unfold zJ_X1_grow_96
    simp only [zf_lq]
    rw [e, e]
    rcases t with t | t
    · rw [if_pos t, t, show y * (1 + 0) = y by omega]
      exact fin y y0 (by omega)
    · rw [if_neg (by omega), t, show y * (1 + 1) = 2 * y by omega]
      exact fin (2 * y) (by omega) (by omega)
  have body : ∀ s0 : Int, s0 = (if gA q 2 < h then 1 else 0) → zJ_X1_grow_13 ld q d h s0 gA q 3 = g1d gB (gA q 4) (gA q 0) (gA q 1) (gA q 2) (gA q 3) d h ∧ mz_fr (fw_gr ld q) gA (zJ_X1_grow_13 ld q d h s0 gA) := fun s0 hs => by
    unfold zJ_X1_grow_13 zF_X5_isTold g1d gv
    simp only [zf_lq]
    rw [r.1]
    by_cases hp : 0 < gB 140 3
    · rw [if_pos hp, if_pos hp, if_neg (by decide : ¬ (1 : Int) = 0)]
      rw [setT (by omega)]
      have o1 : ∀ a b : Nat, a ≠ ld + 38 → sv ld gA (gA q 2) (gA q 3) d h a b = gA a b := fun a b z => sv_o z
      generalize hg9 : sv ld gA (gA q 2) (gA q 3) d h = g9 at o1 ⊢
      have S9 := sta_A S (g := g9) (fun a b u v => o1 a b (by omega))
      rw [o1 q 0 (by omega), o1 q 1 (by omega), firm_w S9.1 a0 a1, firm_w S9.1 b0 b1, over_w S9.1 S9.2.1 a0 a1 b0 b1, setW]
      have o2 : ∀ a b : Nat, a ≠ ld + 38 → sw ld g9 (gB 143 (gA q 0).toNat) (gB 143 (gA q 1).toNat) (zF_X12_overlapOf (gA q 0) (gA q 1) gB) a b = gA a b := fun a b z => (sw_o z).trans (o1 a b z)
      have vv : ∀ j : Nat, j < 7 → sw ld g9 (gB 143 (gA q 0).toNat) (gB 143 (gA q 1).toNat) (zF_X12_overlapOf (gA q 0) (gA q 1) gB) (ld + 38) j = av gB (gA q 0) (gA q 1) (gA q 2) (gA q 3) d h j := fun j hj => by
        rw [← hg9, sw_v hj]
        rfl
      generalize sw ld g9 (gB 143 (gA q 0).toNat) (gB 143 (gA q 1).toNat) (zF_X12_overlapOf (gA q 0) (gA q 1) gB) = g17 at o2 vv ⊢
      have S17 := sta_A S (g := g17) (fun a b u v => o2 a b (by omega))
      obtain ⟨g19, e19, f19⟩ := worth_A S17.2.2.2 hp vv
      rw [e19]
      exact tail g19 _ (fun a b u z => (f19 a b z).trans (o2 a b u)) (by omega) (by omega)
    · rw [if_neg hp, if_neg hp, if_pos rfl, show max 0 (min 3 (if gA q 2 < h then (1 : Int) else 0)) = s0 by rw [hs]; split <;> rfl]
      exact tail gA s0 (fun _ _ _ _ => rfl) (by rw [hs]; split <;> decide) (by rw [hs]; split <;> decide)
  unfold zF_X1_grow
  simp only [zf_lq]
  by_cases c : gA q 2 < h
  · rw [if_pos c]; exact body 1 (by rw [if_pos c])
  · rw [if_neg c]; exact body 0 (by rw [if_neg c])
theorem grows_B (pv : mz_pv gB) (hb : gB 140 3 ≤ 700) {t : Int} {h : Int} : ∃ g1, zF_X12_growsOf t h gB = (gv gB (gB 153 t.toNat) (gB 154 t.toNat) (gB 155 t.toNat) (gB 152 t.toNat) (gB 137 30) h * (1 + gB 144 t.toNat), g1) ∧ ∀ a b : Nat, a ≠ 160 → a ≠ 161 → g1 a b = gB a b := by
  have body : ∀ s0 : Int, s0 = (if gB 155 t.toNat < h then 1 else 0) → ∃ g1, zJ_X12_growsOf_15 t h s0 gB = (gv gB (gB 153 t.toNat) (gB 154 t.toNat) (gB 155 t.toNat) (gB 152 t.toNat) (gB 137 30) h * (1 + gB 144 t.toNat), g1) ∧ ∀ a b : Nat, a ≠ 160 → a ≠ 161 → g1 a b = gB a b := fun s0 hs => by
    unfold zJ_X12_growsOf_15 zJ_X12_growsOf_128 gv
    simp only [zf_lq]
    by_cases hp : 0 < gB 140 3
    · rw [if_pos hp, if_pos hp]
      have F : ∀ g19 : mz_G, (∀ a b : Nat, a ≠ 160 → g19 a b = gB a b) → (∀ j : Nat, j < 7 → g19 160 j = av gB (gB 153 t.toNat) (gB 154 t.toNat) (gB 155 t.toNat) (gB 152 t.toNat) (gB 137 30) h j) → ∃ g1, (zf_m2 (zF_X12_valueNow g19) fun v20 g21 => (max 0 (min 3 v20) * (1 + g21 144 t.toNat), g21)) = (max 0 (min 3 (vl gB (av gB (gB 153 t.toNat) (gB 154 t.toNat) (gB 155 t.toNat) (gB 152 t.toNat) (gB 137 30) h))) * (1 + gB 144 t.toNat), g1) ∧ ∀ a b : Nat, a ≠ 160 → a ≠ 161 → g1 a b = gB a b := fun g19 f1 f2 => by
        obtain ⟨g1, e, f⟩ := value_B (g := g19) (mz_pv_fr pv (fun j => f1 149 j (by decide)) (f1 140 3 (by decide))) (by rw [f1 140 3 (by decide)]; exact hb) (A := av gB (gB 153 t.toNat) (gB 154 t.toNat) (gB 155 t.toNat) (gB 152 t.toNat) (gB 137 30) h) (by rw [f1 140 3 (by decide)]; exact hp) f2
        rw [e, vl_c (g := gB) (g1 := g19) (fun a b u v => f1 a b (by omega))]
        unfold zf_m2
        refine ⟨g1, ?_, fun a b u v => (f a b v).trans (f1 a b u)⟩
        dsimp only
        rw [f 144 _ (by decide), f1 144 _ (by decide)]
      have k152 : ∀ (g : mz_G) (j b : Nat) (v : Int), mz_up g 160 j v 152 b = g 152 b := fun _ _ _ _ => up_k (by decide)
      have k153 : ∀ (g : mz_G) (j b : Nat) (v : Int), mz_up g 160 j v 153 b = g 153 b := fun _ _ _ _ => up_k (by decide)
      have k154 : ∀ (g : mz_G) (j b : Nat) (v : Int), mz_up g 160 j v 154 b = g 154 b := fun _ _ _ _ => up_k (by decide)
      have k143 : ∀ (g : mz_G) (j b : Nat) (v : Int), mz_up g 160 j v 143 b = g 143 b := fun _ _ _ _ => up_k (by decide)
      have k137 : ∀ (g : mz_G) (j b : Nat) (v : Int), mz_up g 160 j v 137 b = g 137 b := fun _ _ _ _ => up_k (by decide)
      have kk : ∀ (g : mz_G) (j : Nat) (v : Int) (a b : Nat), a ≠ 160 → mz_up g 160 j v a b = g a b := fun _ _ _ _ _ z => up_k z
      simp only [k152, k153, k154, k143, k137]
      rw [ov_c (g := gB) (fun a b u v => by rw [kk _ _ _ _ _ (by omega), kk _ _ _ _ _ (by omega), kk _ _ _ _ _ (by omega), kk _ _ _ _ _ (by omega), kk _ _ _ _ _ (by omega)])]
      refine F _ (fun a b z => by rw [kk _ _ _ _ _ z, kk _ _ _ _ _ z, kk _ _ _ _ _ z, kk _ _ _ _ _ z, kk _ _ _ _ _ z, kk _ _ _ _ _ z, kk _ _ _ _ _ z]) (fun j hj => ?_)
      unfold av mz_up
      have : j = 0 ∨ j = 1 ∨ j = 2 ∨ j = 3 ∨ j = 4 ∨ j = 5 ∨ j = 6 := by omega
      rcases this with rfl | rfl | rfl | rfl | rfl | rfl | rfl <;> simp
    · rw [if_neg hp, if_neg hp, ← hs]
      exact ⟨gB, rfl, fun _ _ _ _ => rfl⟩
  unfold zF_X12_growsOf
  simp only [zf_lq]
  by_cases c : gB 155 t.toNat < h
  · rw [if_pos c]; exact body 1 (by rw [if_pos c])
  · rw [if_neg c]; exact body 0 (by rw [if_neg c])
theorem g1d_c {g g1 : mz_G} (h : su_e g g1) {tr sd mt sp gn d k : Int} : g1d g1 tr sd mt sp gn d k = g1d g tr sd mt sp gn d k := by
  have e : av g1 sd mt sp gn d k = av g sd mt sp gn d k := by
    unfold av
    rw [su_f h (a := 143) (by decide) (by decide), ov_c h]
  unfold g1d gv
  rw [fu_c h, vl_c h, su_f h (a := 140) (by decide) (by decide), e]
/-- GROWN behind so many days, from that day on -/
def gnd (g : mz_G) (tr sd mt sp : Int) : Nat → Int → Int → Int
  | 0 => fun gn _ => gn
  | n + 1 => fun gn d => gnd g tr sd mt sp n (g1d g tr sd mt sp gn d (ht g d)) (d + 1)
theorem gnd_s {g : mz_G} {tr sd mt sp gn d : Int} {n : Nat} : gnd g tr sd mt sp (n + 1) gn d = gnd g tr sd mt sp n (g1d g tr sd mt sp gn d (ht g d)) (d + 1) := rfl
theorem gnd_e {g : mz_G} {tr sd mt sp : Int} : ∀ (n : Nat) (gn d : Int), gnd g tr sd mt sp (n + 1) gn d = g1d g tr sd mt sp (gnd g tr sd mt sp n gn d) (d + n) (ht g (d + n)) := by
  intro n
  induction n with
  | zero => intro gn d; rw [gnd_s]; unfold gnd; rw [show d + ((0 : Nat) : Int) = d by omega]
  | succ n ih => intro gn d; rw [gnd_s, ih, gnd_s, show d + 1 + (n : Int) = d + ((n + 1 : Nat) : Int) by omega]
theorem gnd_c {g g1 : mz_G} (h : su_e g g1) {tr sd mt sp : Int} : ∀ (n : Nat) (gn d : Int), gnd g1 tr sd mt sp n gn d = gnd g tr sd mt sp n gn d := by
  intro n
  induction n with
  | zero => intros; rfl
  | succ n ih => intro gn d; rw [gnd_s, gnd_s, g1d_c h, ht_c h, ih]
theorem gnd_b {g : mz_G} {tr sd mt sp : Int} (t : tr = 0 ∨ tr = 1) : ∀ (n : Nat) (gn d : Int), vt g sd mt gn → vt g sd mt (gnd g tr sd mt sp n gn d) ∧ gn ≤ gnd g tr sd mt sp n gn d := by
  intro n
  induction n with
  | zero => intro gn d v; exact ⟨v, Int.le_refl _⟩
  | succ n ih =>
    intro gn d v
    have a := g1d_b (sp := sp) (d := d) (h := ht g d) v t
    have b := ih _ (d + 1) a.1
    rw [gnd_s]
    exact ⟨b.1, Int.le_trans a.2 b.2⟩
end GD
