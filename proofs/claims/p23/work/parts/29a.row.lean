/-! EXACT: the reference (wip/p2/tools/gen50.py) -/
/-! THE ROW, THE CHAIN: what the table behind tells -/
theorem mz_bit_k : ∀ h : Fin 256, ∀ v : Fin 8, mz_bit (h.val : Int) (v.val : Int) = ((h.val / 2 ^ v.val % 2 : Nat) : Int) := by decide +kernel
theorem mz_nx_k : ∀ h : Fin 256, ∀ v : Fin 8, h.val / 2 ^ v.val % 2 = 0 → mz_nx (h.val : Int) (v.val : Int) = ((h.val + 2 ^ v.val : Nat) : Int) := by decide +kernel
theorem mz_up_k : ∀ T : Fin 9, ∀ h : Fin 256, ∀ v : Fin 8, v.val < T.val → h.val ≤ 2 ^ T.val - 1 → h.val / 2 ^ v.val % 2 = 0 → h.val + 2 ^ v.val ≤ 2 ^ T.val - 1 ∧ (h.val + 2 ^ v.val) / 2 ^ v.val % 2 = 1 := by decide +kernel
theorem mz_free_k : ∀ T : Fin 9, ∀ h : Fin 256, h.val < 2 ^ T.val - 1 → ∃ v : Fin 8, v.val < T.val ∧ h.val / 2 ^ v.val % 2 = 0 := by decide +kernel
theorem mz_full_k : ∀ T : Fin 9, ∀ v : Fin 8, v.val < T.val → (2 ^ T.val - 1) / 2 ^ v.val % 2 = 1 := by decide +kernel
def mz_pcN (h : Nat) : Nat := h % 2 + h / 2 % 2 + h / 4 % 2 + h / 8 % 2 + h / 16 % 2 + h / 32 % 2 + h / 64 % 2 + h / 128 % 2
theorem mz_pc_k : ∀ h : Fin 256, ∀ v : Fin 8, h.val / 2 ^ v.val % 2 = 0 → mz_pcN (h.val + 2 ^ v.val) = mz_pcN h.val + 1 := by decide +kernel
theorem mz_pcA_k : ∀ T : Fin 9, mz_pcN (2 ^ T.val - 1) = T.val := by decide +kernel
def mz_A (T : Int) : Int := mz_shlI 1 T - 1
def mz_pc (h : Int) : Int := (mz_pcN h.toNat : Int)
theorem mz_A_k : ∀ T : Fin 9, mz_A (T.val : Int) = ((2 ^ T.val - 1 : Nat) : Int) := by decide +kernel
theorem mz_p2_k : ∀ T : Fin 9, 2 ^ T.val - 1 ≤ 255 ∧ (1 ≤ T.val → 1 ≤ 2 ^ T.val - 1) := by decide +kernel
section BITS
variable {T h v : Int}
theorem mz_Ae (h0 : 0 ≤ T) (h1 : T ≤ 8) : mz_A T = ((2 ^ T.toNat - 1 : Nat) : Int) := by
  have := mz_A_k ⟨T.toNat, by omega⟩
  dsimp only at this
  rw [show ((T.toNat : Nat) : Int) = T by omega] at this
  exact this
theorem mz_Ab (h0 : 0 ≤ T) (h1 : T ≤ 8) : 0 ≤ mz_A T ∧ mz_A T ≤ 255 ∧ (1 ≤ T → 1 ≤ mz_A T) := by
  have := mz_p2_k ⟨T.toNat, by omega⟩
  dsimp only at this
  rw [mz_Ae h0 h1]
  refine ⟨by omega, by omega, fun z => ?_⟩
  have := this.2 (by omega)
  omega
theorem mz_be (h0 : 0 ≤ h) (h1 : h ≤ 255) (v0 : 0 ≤ v) (v1 : v ≤ 7) : mz_bit h v = ((h.toNat / 2 ^ v.toNat % 2 : Nat) : Int) := by
  have := mz_bit_k ⟨h.toNat, by omega⟩ ⟨v.toNat, by omega⟩
  dsimp only at this
  rw [show ((h.toNat : Nat) : Int) = h by omega, show ((v.toNat : Nat) : Int) = v by omega] at this
  exact this
theorem mz_b01 (h0 : 0 ≤ h) (h1 : h ≤ 255) (v0 : 0 ≤ v) (v1 : v ≤ 7) : mz_bit h v = 0 ∨ mz_bit h v = 1 := by
  rw [mz_be h0 h1 v0 v1]
  omega
theorem mz_bit0 (v0 : 0 ≤ v) (v1 : v ≤ 7) : mz_bit 0 v = 0 := by
  rw [mz_be (by decide) (by decide) v0 v1]
  simp
theorem mz_nxe (h0 : 0 ≤ h) (h1 : h ≤ 255) (v0 : 0 ≤ v) (v1 : v ≤ 7) (hb : mz_bit h v = 0) : mz_nx h v = ((h.toNat + 2 ^ v.toNat : Nat) : Int) := by
  rw [mz_be h0 h1 v0 v1] at hb
  have := mz_nx_k ⟨h.toNat, by omega⟩ ⟨v.toNat, by omega⟩
  dsimp only at this
  rw [show ((h.toNat : Nat) : Int) = h by omega, show ((v.toNat : Nat) : Int) = v by omega] at this
  exact this (by omega)
theorem mz_nxA (T0 : 0 ≤ T) (T1 : T ≤ 8) (h0 : 0 ≤ h) (h1 : h ≤ mz_A T) (v0 : 0 ≤ v) (v1 : v < T) (hb : mz_bit h v = 0) : h < mz_nx h v ∧ mz_nx h v ≤ mz_A T ∧ mz_bit (mz_nx h v) v = 1 ∧ mz_pc (mz_nx h v) = mz_pc h + 1 := by
  have hA := mz_Ab T0 T1
  have e := mz_nxe h0 (by omega) v0 (by omega) hb
  have hb2 := hb
  rw [mz_be h0 (by omega) v0 (by omega)] at hb2
  have k := mz_up_k ⟨T.toNat, by omega⟩ ⟨h.toNat, by omega⟩ ⟨v.toNat, by omega⟩
  have p := mz_pc_k ⟨h.toNat, by omega⟩ ⟨v.toNat, by omega⟩
  dsimp only at k p
  have hAe := mz_Ae T0 T1
  obtain ⟨k1, k2⟩ := k (by omega) (by omega) (by omega)
  have p1 := p (by omega)
  have hp : 0 < 2 ^ v.toNat := Nat.pow_pos (by decide)
  have e2 : (mz_nx h v).toNat = h.toNat + 2 ^ v.toNat := by omega
  refine ⟨by omega, by omega, ?_, ?_⟩
  · rw [mz_be (by omega) (by omega) v0 (by omega), e2, k2]
    rfl
  · unfold mz_pc
    rw [e2, p1]
    omega
theorem mz_Afree (T0 : 0 ≤ T) (T1 : T ≤ 8) (h0 : 0 ≤ h) (h1 : h < mz_A T) : ∃ v, 0 ≤ v ∧ v < T ∧ mz_bit h v = 0 := by
  have hA := mz_Ab T0 T1
  have hAe := mz_Ae T0 T1
  have k := mz_free_k ⟨T.toNat, by omega⟩ ⟨h.toNat, by omega⟩
  dsimp only at k
  obtain ⟨v, v1, v2⟩ := k (by omega)
  refine ⟨(v.val : Int), by omega, by omega, ?_⟩
  rw [mz_be h0 (by omega) (by omega) (by omega), Int.toNat_natCast, v2]
  rfl
theorem mz_Afull (T0 : 0 ≤ T) (T1 : T ≤ 8) (v0 : 0 ≤ v) (v1 : v < T) : mz_bit (mz_A T) v = 1 := by
  have hA := mz_Ab T0 T1
  have hAe := mz_Ae T0 T1
  have k := mz_full_k ⟨T.toNat, by omega⟩ ⟨v.toNat, by omega⟩
  dsimp only at k
  rw [mz_be (by omega) (by omega) v0 (by omega), show (mz_A T).toNat = 2 ^ T.toNat - 1 by omega, k (by omega)]
  rfl
theorem mz_pcA (T0 : 0 ≤ T) (T1 : T ≤ 8) : mz_pc (mz_A T) = T := by
  have hAe := mz_Ae T0 T1
  have k := mz_pcA_k ⟨T.toNat, by omega⟩
  dsimp only at k
  unfold mz_pc
  rw [show (mz_A T).toNat = 2 ^ T.toNat - 1 by omega, k]
  omega
theorem mz_first (T0 : 0 ≤ T) (T1 : T ≤ 8) (v0 : 0 ≤ v) (v1 : v < T) : 0 < mz_shlI 1 v ∧ mz_shlI 1 v ≤ mz_A T ∧ mz_bit (mz_shlI 1 v) v = 1 ∧ mz_pc (mz_shlI 1 v) = 1 ∧ mz_nx 0 v = mz_shlI 1 v := by
  have hA := mz_Ab T0 T1
  have e : mz_nx 0 v = mz_shlI 1 v := by
    rcases (by omega : v = 0 ∨ v = 1 ∨ v = 2 ∨ v = 3 ∨ v = 4 ∨ v = 5 ∨ v = 6 ∨ v = 7) with z | z | z | z | z | z | z | z <;> (rw [z]; decide)
  have k := mz_nxA T0 T1 (Int.le_refl 0) hA.1 v0 v1 (mz_bit0 v0 (by omega))
  rw [e] at k
  refine ⟨k.1, k.2.1, k.2.2.1, ?_, e⟩
  rw [k.2.2.2]
  decide
end BITS
/-- which of the two: true the row (the fewest), false the chain (the most) -/
def mz_cd (b : Bool) (T h l : Int) : Prop := match b with
  | true => h < mz_A T
  | false => 0 < l
def mz_cf (b : Bool) : Int := match b with
  | true => 8
  | false => 1
def mz_E (b : Bool) (S : Int → Int → Prop) (P : Int → Int → Int) (g : mz_G) (T h w : Int) : Prop := 0 ≤ mz_go g w h ∧ mz_go g w h ≤ mz_cf b * (mz_A T - h) ∧ (mz_cd b T h (mz_go g w h) → ∃ v, 0 ≤ v ∧ v < T ∧ mz_bit h v = 0 ∧ S w v ∧ mz_go g w h = P w v + mz_go g v (mz_nx h v))
def mz_ET (b : Bool) (S : Int → Int → Prop) (P : Int → Int → Int) (g : mz_G) (T lo : Int) : Prop := ∀ h w, lo < h → h ≤ mz_A T → 0 ≤ w → w < T → mz_bit h w = 1 → mz_E b S P g T h w
def mz_EM (b : Bool) (S : Int → Int → Prop) (P : Int → Int → Int) (g : mz_G) (T h w : Int) : Prop := ∀ u, 0 ≤ u → u < w → mz_bit h u = 1 → mz_E b S P g T h u
def mz_RI (P : Int → Int → Int) (g : mz_G) (T h w v l : Int) : Prop := 0 ≤ l ∧ (h = mz_A T → l = 0) ∧ (h < mz_A T → (l = 100000 ∧ ∀ u, 0 ≤ u → u < v → mz_bit h u = 1) ∨ (l ≤ 8 * (mz_A T - h) ∧ ∃ u, 0 ≤ u ∧ u < T ∧ mz_bit h u = 0 ∧ l = P w u + mz_go g u (mz_nx h u)))
def mz_CI (S : Int → Int → Prop) (g : mz_G) (T h w l : Int) : Prop := 0 ≤ l ∧ l ≤ mz_A T - h ∧ (0 < l → ∃ u, 0 ≤ u ∧ u < T ∧ mz_bit h u = 0 ∧ S w u ∧ l = 1 + mz_go g u (mz_nx h u))
section TAB
variable {b : Bool} {S : Int → Int → Prop} {P : Int → Int → Int} {g g1 : mz_G} {T h w v l i : Int}
theorem mz_ET_made (R : mz_ET b S P g T h) (T0 : 0 ≤ T) (T1 : T ≤ 8) (h0 : 0 ≤ h) (h1 : h ≤ mz_A T) (v0 : 0 ≤ v) (v1 : v < T) (hb : mz_bit h v = 0) : 0 ≤ mz_go g v (mz_nx h v) ∧ mz_go g v (mz_nx h v) ≤ mz_cf b * (mz_A T - h) - mz_cf b := by
  have k := mz_nxA T0 T1 h0 h1 v0 v1 hb
  have e := R (mz_nx h v) v k.1 k.2.1 v0 v1 k.2.2.1
  refine ⟨e.1, ?_⟩
  have e2 := e.2.1
  cases b
  · simp only [mz_cf] at e2 ⊢; omega
  · simp only [mz_cf] at e2 ⊢; omega
theorem mz_RI_0a (e : h = mz_A T) : mz_RI P g T h w 0 0 := ⟨by omega, fun _ => rfl, fun z => absurd z (by omega)⟩
theorem mz_RI_0b (e : h ≠ mz_A T) : mz_RI P g T h w 0 100000 := ⟨by decide, fun z => absurd z e, fun _ => Or.inl ⟨rfl, fun u h0 h1 => absurd h0 (by omega)⟩⟩
theorem mz_RI_skip (I : mz_RI P g T h w v l) (hb : mz_bit h v = 1) : mz_RI P g T h w (v + 1) l := by
  refine ⟨I.1, I.2.1, fun z => ?_⟩
  rcases I.2.2 z with y | y
  · refine Or.inl ⟨y.1, fun u h0 h1 => ?_⟩
    rcases (by omega : u < v ∨ u = v) with q | q
    · exact y.2 u h0 q
    · rw [q]; exact hb
  · exact Or.inr y
theorem mz_RI_take {r1 r2 l1 : Int} (I : mz_RI P g T h w v l) (R : mz_ET true S P g T h) (T0 : 0 ≤ T) (T1 : T ≤ 8) (h0 : 0 ≤ h) (h1 : h ≤ mz_A T) (v0 : 0 ≤ v) (v1 : v < T) (hb : mz_bit h v = 0) (e1 : r1 = P w v) (e2 : r2 = mz_go g v (mz_nx h v)) (b1 : 0 ≤ r1 ∧ r1 ≤ 8) (m1 : l1 ≤ l) (m2 : l1 ≤ r1 + r2) (m3 : l1 = l ∨ l1 = r1 + r2) : mz_RI P g T h w (v + 1) l1 := by
  have hm := mz_ET_made R T0 T1 h0 h1 v0 v1 hb
  simp only [mz_cf] at hm
  rw [← e2] at hm
  have hA := mz_Ab T0 T1
  have hne : h ≠ mz_A T := fun z => by
    have := mz_Afull T0 T1 v0 v1
    rw [← z] at this
    omega
  have i0 := I.1
  refine ⟨by omega, fun z => absurd z hne, fun z => Or.inr ?_⟩
  rcases m3 with q | q
  · rcases I.2.2 z with y | y
    · exfalso; have := y.1; omega
    · rw [q]; exact y
  · exact ⟨by omega, v, v0, v1, hb, by rw [q, e1, e2]⟩
theorem mz_CI_0 (h1 : h ≤ mz_A T) : mz_CI S g T h w 0 := ⟨by omega, by omega, fun z => absurd z (by decide)⟩
theorem mz_CI_take {r2 l1 : Int} (I : mz_CI S g T h w l) (R : mz_ET false S P g T h) (T0 : 0 ≤ T) (T1 : T ≤ 8) (h0 : 0 ≤ h) (h1 : h ≤ mz_A T) (v0 : 0 ≤ v) (v1 : v < T) (hb : mz_bit h v = 0) (hs : S w v) (e2 : r2 = mz_go g v (mz_nx h v)) (m3 : l1 = l ∨ l1 = 1 + r2) : mz_CI S g T h w l1 := by
  have hm := mz_ET_made R T0 T1 h0 h1 v0 v1 hb
  simp only [mz_cf] at hm
  rw [← e2] at hm
  rcases m3 with q | q
  · rw [q]; exact I
  · exact ⟨by omega, by omega, fun _ => ⟨v, v0, v1, hb, hs, by rw [q, e2]⟩⟩
theorem mz_go_up (hu : mz_us g 163 i.toNat l g1) (ei : i = mz_shlI w 8 + h) (w0 : 0 ≤ w) (w1 : w ≤ 7) (h0 : 0 ≤ h) (h1 : h ≤ 255) : mz_go g1 w h = l ∧ ∀ w1 h1, 0 ≤ w1 → 0 ≤ h1 → h1 ≤ 255 → ¬ (w1 = w ∧ h1 = h) → mz_go g1 w1 h1 = mz_go g w1 h1 := by
  rw [mz_sh8 w0 w1] at ei
  subst ei
  exact ⟨hu.1, fun w1 h1 q0 q1 q2 q3 => hu.2 _ _ (by omega)⟩
theorem mz_ET_up (R : mz_ET b S P g T h) (hu : mz_us g 163 i.toNat l g1) (ei : i = mz_shlI w 8 + h) (T0 : 0 ≤ T) (T1 : T ≤ 8) (w0 : 0 ≤ w) (w1 : w ≤ 7) (h0 : 0 ≤ h) (h1 : h ≤ mz_A T) : mz_ET b S P g1 T h := by
  have hA := mz_Ab T0 T1
  obtain ⟨_, k⟩ := mz_go_up hu ei w0 w1 h0 (by omega)
  intro h2 w2 a1 a2 a3 a4 a5
  have e := R h2 w2 a1 a2 a3 a4 a5
  have q : mz_go g1 w2 h2 = mz_go g w2 h2 := k _ _ a3 (by omega) (by omega) (by omega)
  refine ⟨by rw [q]; exact e.1, by rw [q]; exact e.2.1, fun z => ?_⟩
  rw [q] at z ⊢
  obtain ⟨v, y1, y2, y3, y4, y5⟩ := e.2.2 z
  have n := mz_nxA T0 T1 (by omega) a2 y1 y2 y3
  exact ⟨v, y1, y2, y3, y4, by rw [k _ _ y1 (by omega) (by omega) (by omega)]; exact y5⟩
theorem mz_EM_up (R : mz_EM b S P g T h w) (hu : mz_us g 163 i.toNat l g1) (ei : i = mz_shlI w 8 + h) (T0 : 0 ≤ T) (T1 : T ≤ 8) (w0 : 0 ≤ w) (w1 : w ≤ 7) (h0 : 0 ≤ h) (h1 : h ≤ mz_A T) (l0 : 0 ≤ l) (l1 : l ≤ mz_cf b * (mz_A T - h)) (L : mz_cd b T h l → ∃ v, 0 ≤ v ∧ v < T ∧ mz_bit h v = 0 ∧ S w v ∧ l = P w v + mz_go g v (mz_nx h v)) : mz_EM b S P g1 T h (w + 1) := by
  have hA := mz_Ab T0 T1
  obtain ⟨k0, k⟩ := mz_go_up hu ei w0 w1 h0 (by omega)
  have kk : ∀ v, 0 ≤ v → v < T → mz_bit h v = 0 → mz_go g1 v (mz_nx h v) = mz_go g v (mz_nx h v) := fun v y1 y2 y3 => by
    have n := mz_nxA T0 T1 h0 h1 y1 y2 y3
    exact k _ _ y1 (by omega) (by omega) (by omega)
  intro u a1 a2 a3
  rcases (by omega : u < w ∨ u = w) with z | z
  · have e := R u a1 z a3
    have q : mz_go g1 u h = mz_go g u h := k _ _ a1 h0 (by omega) (by omega)
    refine ⟨by rw [q]; exact e.1, by rw [q]; exact e.2.1, fun z => ?_⟩
    rw [q] at z ⊢
    obtain ⟨v, y1, y2, y3, y4, y5⟩ := e.2.2 z
    exact ⟨v, y1, y2, y3, y4, by rw [kk v y1 y2 y3]; exact y5⟩
  · rw [z]
    refine ⟨by rw [k0]; exact l0, by rw [k0]; exact l1, fun z => ?_⟩
    rw [k0] at z ⊢
    obtain ⟨v, y1, y2, y3, y4, y5⟩ := L z
    exact ⟨v, y1, y2, y3, y4, by rw [kk v y1 y2 y3]; exact y5⟩
theorem mz_EM_row (R : mz_EM true (fun _ _ => True) P g T h w) (hu : mz_us g 163 i.toNat l g1) (ei : i = mz_shlI w 8 + h) (T0 : 0 ≤ T) (T1 : T ≤ 8) (w0 : 0 ≤ w) (w1 : w ≤ 7) (h0 : 0 ≤ h) (h1 : h ≤ mz_A T) (I : mz_RI P g T h w v l) (hv : T ≤ v) : mz_EM true (fun _ _ => True) P g1 T h (w + 1) := by
  have hlt : h < mz_A T → l ≤ 8 * (mz_A T - h) ∧ ∃ u, 0 ≤ u ∧ u < T ∧ mz_bit h u = 0 ∧ l = P w u + mz_go g u (mz_nx h u) := fun z => by
    rcases I.2.2 z with y | y
    · exfalso
      obtain ⟨u, u0, u1, u2⟩ := mz_Afree T0 T1 h0 z
      have := y.2 u u0 (by omega)
      omega
    · exact y
  refine mz_EM_up R hu ei T0 T1 w0 w1 h0 h1 I.1 ?_ (fun z => ?_)
  · show l ≤ 8 * (mz_A T - h)
    rcases (by omega : h < mz_A T ∨ h = mz_A T) with y | y
    · exact (hlt y).1
    · have := I.2.1 y
      omega
  · obtain ⟨u, u0, u1, u2, u3⟩ := (hlt z).2
    exact ⟨u, u0, u1, u2, trivial, u3⟩
theorem mz_EM_chain (R : mz_EM false S (fun _ _ => 1) g T h w) (hu : mz_us g 163 i.toNat l g1) (ei : i = mz_shlI w 8 + h) (T0 : 0 ≤ T) (T1 : T ≤ 8) (w0 : 0 ≤ w) (w1 : w ≤ 7) (h0 : 0 ≤ h) (h1 : h ≤ mz_A T) (I : mz_CI S g T h w l) : mz_EM false S (fun _ _ => 1) g1 T h (w + 1) :=
  mz_EM_up R hu ei T0 T1 w0 w1 h0 h1 I.1 (by have := I.2.1; show l ≤ 1 * (mz_A T - h); omega) (fun z => I.2.2 z)
theorem mz_EM_skip (R : mz_EM b S P g T h w) (hb : mz_bit h w = 0) : mz_EM b S P g T h (w + 1) := by
  intro u a1 a2 a3
  rcases (by omega : u < w ∨ u = w) with z | z
  · exact R u a1 z a3
  · rw [z] at a3; omega
theorem mz_ET_ge {lo : Int} (R : mz_ET b S P g T lo) (hl : lo ≤ h) : mz_ET b S P g T h := fun h2 w2 a1 a2 a3 a4 a5 => R h2 w2 (by omega) a2 a3 a4 a5
theorem mz_EM_0 : mz_EM b S P g T h 0 := fun u a1 a2 => absurd a1 (by omega)
theorem mz_ET_A : mz_ET b S P g T (mz_A T) := fun h w a1 a2 => absurd a1 (by omega)
theorem mz_ET_dn (R : mz_ET b S P g T h) (M : mz_EM b S P g T h w) (hw : T ≤ w) : mz_ET b S P g T (h + -1) := by
  intro h2 w2 a1 a2 a3 a4 a5
  rcases (by omega : h < h2 ∨ h2 = h) with z | z
  · exact R h2 w2 z a2 a3 a4 a5
  · rw [z] at a5 ⊢; exact M w2 a3 (by omega) a5
/-- the next of a walk -/
def mz_NC (S : Int → Int → Prop) (P : Int → Int → Int) (g : mz_G) (w h u : Int) : Prop := mz_bit h u = 0 ∧ S w u ∧ P w u + mz_go g u (mz_nx h u) = mz_go g w h
def mz_NI (S : Int → Int → Prop) (P : Int → Int → Int) (g : mz_G) (T w h n v : Int) : Prop := (n = -1 ∧ ∀ u, v < u → u < T → ¬ mz_NC S P g w h u) ∨ (0 ≤ n ∧ n < T ∧ mz_NC S P g w h n)
theorem mz_NI_0 {e : Int} (he : e = T + -1 ∨ e = T - 1) : mz_NI S P g T w h (-1) e := Or.inl ⟨rfl, fun u a1 a2 => absurd a1 (by omega)⟩
theorem mz_NI_skip {n : Int} (I : mz_NI S P g T w h n v) (hn : ¬ mz_NC S P g w h v) : mz_NI S P g T w h n (v + -1) := by
  rcases I with y | y
  · refine Or.inl ⟨y.1, fun u a1 a2 => ?_⟩
    rcases (by omega : v < u ∨ u = v) with z | z
    · exact y.2 u z a2
    · rw [z]; exact hn
  · exact Or.inr y
theorem mz_NI_take {e : Int} (v0 : 0 ≤ v) (v1 : v < T) (hn : mz_NC S P g w h v) : mz_NI S P g T w h v e := Or.inr ⟨v0, v1, hn⟩
theorem mz_NI_end {n : Int} (I : mz_NI S P g T w h n v) (hv : v < 0) (R : mz_ET b S P g T 0) (h0 : 0 < h) (h1 : h ≤ mz_A T) (w0 : 0 ≤ w) (w1 : w < T) (hb : mz_bit h w = 1) (hc : mz_cd b T h (mz_go g w h)) : 0 ≤ n ∧ n < T ∧ mz_NC S P g w h n := by
  rcases I with y | y
  · exfalso
    obtain ⟨u, u0, u1, u2, u3, u4⟩ := (R h w h0 h1 w0 w1 hb).2.2 hc
    exact y.2 u (by omega) u1 ⟨u2, u3, u4.symm⟩
  · exact y
theorem mz_go_at {vs vg : Int} (e1 : vs = mz_shlI w 8) (w0 : 0 ≤ w) (w1 : w ≤ 7) (e2 : g 163 (vs + h).toNat = vg) : mz_go g w h = vg := by
  rw [mz_sh8 w0 w1] at e1
  subst e1
  exact e2
end TAB
def mz_fo (fl fn : Nat → Int) (w v : Int) : Prop := fl (8 * w + (fn w.toNat - 1)).toNat = fl (8 * v + 0).toNat
theorem mt_12_453 : mm_tab mm_mthT 12 453 = some (1, 269, 2, 0, 12) := rfl
theorem mt_12_456 : mm_tab mm_mthT 12 456 = some (1, 267, 2, 0, 12) := rfl
theorem mt_12_461 : mm_tab mm_mthT 12 461 = some (1, 268, 0, 0, 12) := rfl
set_option maxHeartbeats 20000000 in
theorem f_X12_follows {d : Nat} (hd : 2 ≤ d) {x : mm_X} (hx : mk_x x) {g : mz_G} (hI : mz_inv g) {a1 : Int} (l_a1 : 0 ≤ a1) (u_a1 : a1 ≤ 7) {a2 : Int} (l_a2 : 0 ≤ a2) (u_a2 : a2 ≤ 7) (p1 : 1 ≤ g 142 a1.toNat) {Q : (Option Value ⊕ Nat) → mm_H → Prop} (hQ : ∀ (r : Int), 0 ≤ r → r ≤ 1 → (r = 1 ↔ mz_fo (g 141) (g 142) a1 a2) → zf_E (zF_X12_follows a1 a2 g) (r) → Q (.inl (some (.int (Int32.ofInt r)))) (mz_mk g x)) : mm_C d 271 [.ref 137, .int (Int32.ofInt a1), .int (Int32.ofInt a2)] (mz_mk g x) Q := by
  refine ⟨mmX12_follows, [some (.ref 137), some (.int (Int32.ofInt a1)), some (.int (Int32.ofInt a2))], rfl, rfl, ?_⟩
  have hE : zf_E (zF_X12_follows a1 a2 g) (zF_X12_follows a1 a2 g) := zf_rf
  refine mm_g 3 (pc1 := 3) (lo1 := [some (.ref 137), some (.int (Int32.ofInt a1)), some (.int (Int32.ofInt a2))]) (st1 := [.ref 137, .int (Int32.ofInt a1), .ref 137]) (H1 := mz_mk g x) rfl ?_
  refine mz_fgR (v := 142) rfl fd_12_43 (by decide) (sc_137 _) (rf_137_5 _ _ _) ?_
  refine mm_g 1 (pc1 := 7) (lo1 := [some (.ref 137), some (.int (Int32.ofInt a1)), some (.int (Int32.ofInt a2))]) (st1 := [.int (Int32.ofInt a1), .ref 142, .int (Int32.ofInt a1), .ref 137]) (H1 := mz_mk g x) rfl ?_
  refine mz_aI rfl (sh_142 _) (by omega) (by omega) (by decide) hI (ba_142 _) (fun v1 e_v1 l_v1 u_v1 => ?_)
  replace hE := zf_tr hE (zf_le e_v1)
  refine mm_g 1 (pc1 := 9) (lo1 := [some (.ref 137), some (.int (Int32.ofInt a1)), some (.int (Int32.ofInt a2))]) (st1 := [.int (Int32.ofInt 1), .int (Int32.ofInt v1), .int (Int32.ofInt a1), .ref 137]) (H1 := mz_mk g x) rfl ?_
  refine mz_isub rfl ?_
  refine mz_cv rfl mt_12_320 (by decide) (sc_137 _) rfl (Nat.le_of_ble_eq_true rfl) (by omega) (f_X12_letterOf (by omega) hx hI l_a1 u_a1 (by omega) (by omega) (fun v2 l_v2 u_v2 hp3 hc4 => ⟨_, rfl, ?_⟩))
  show mm_W d mmX12_follows 13 [some (.ref 137), some (.int (Int32.ofInt a1)), some (.int (Int32.ofInt a2))] [.int (Int32.ofInt v2)] (mz_mk g x) Q
  replace hE := zf_t1 hE hc4
  refine mm_g 3 (pc1 := 16) (lo1 := [some (.ref 137), some (.int (Int32.ofInt a1)), some (.int (Int32.ofInt a2))]) (st1 := [.int (Int32.ofInt 0), .int (Int32.ofInt a2), .ref 137, .int (Int32.ofInt v2)]) (H1 := mz_mk g x) rfl ?_
  refine mz_cv rfl mt_12_320 (by decide) (sc_137 _) rfl (Nat.le_of_ble_eq_true rfl) (by omega) (f_X12_letterOf (by omega) hx hI l_a2 u_a2 (by decide) (by decide) (fun v5 l_v5 u_v5 hp6 hc7 => ⟨_, rfl, ?_⟩))
  show mm_W d mmX12_follows 19 [some (.ref 137), some (.int (Int32.ofInt a1)), some (.int (Int32.ofInt a2))] [.int (Int32.ofInt v5), .int (Int32.ofInt v2)] (mz_mk g x) Q
  replace hE := zf_t1 hE hc7
  refine mz_ic_ne (tgt := 26) rfl rfl (mz_rg l_v2 u_v2) (mz_rg l_v5 u_v5) (fun c19_7 => ?_) (fun c19_7 => ?_)
  · skip
    replace hE := zf_in hE c19_7
    refine mm_g 1 (pc1 := 27) (lo1 := [some (.ref 137), some (.int (Int32.ofInt a1)), some (.int (Int32.ofInt a2))]) (st1 := [.int (Int32.ofInt 0)]) (H1 := mz_mk g x) rfl ?_
    exact mz_rtZ rfl (by decide) (by omega) (hQ _ (by decide) (by decide) (by unfold mz_fo; rw [e_v1, ← hp3, ← hp6]; constructor <;> omega) hE)
  · skip
    replace hE := zf_ip hE c19_7
    refine mm_g 1 (pc1 := 23) (lo1 := [some (.ref 137), some (.int (Int32.ofInt a1)), some (.int (Int32.ofInt a2))]) (st1 := [.int (Int32.ofInt 1)]) (H1 := mz_mk g x) rfl ?_
    refine mz_gt (tgt := 27) rfl rfl ?_
    exact mz_rtZ rfl (by decide) (by omega) (hQ _ (by decide) (by decide) (by unfold mz_fo; rw [e_v1, ← hp3, ← hp6]; constructor <;> omega) hE)
def fl_X12_tellRow_13 (x : mm_X) : Nat → Nat → Prop := fun k j => k = 163
def fl_X12_tellRow_19 (x : mm_X) : Nat → Nat → Prop := fun k j => k = 163
def fw_X12_tellRow (x : mm_X) : Nat → Nat → Prop := fun k j => k = 163
set_option maxHeartbeats 20000000 in
theorem f_X12_tellRow {d : Nat} (hd : 14 ≤ d) {x : mm_X} (hx : mk_x x) {g : mz_G} (hI : mz_inv g) {Q : (Option Value ⊕ Nat) → mm_H → Prop} (hQ : ∀ (g1 : mz_G), mz_inv g1 → mz_fr (fw_X12_tellRow x) g g1 → (mz_ET true (fun _ _ => True) (mz_pu (g 141) (g 142)) g1 (g 140 0) 0) → zf_E (zF_X12_tellRow g) (g1) → Q (.inl none) (mz_mk g1 x)) : mm_C d 268 [.ref 137] (mz_mk g x) Q := by
  refine ⟨mmX12_tellRow, [some (.ref 137), none, none, none, none, none], rfl, rfl, ?_⟩
  have bz0 := mz_rd hI bt_140_0
  have hE : zf_E (zF_X12_tellRow g) (zF_X12_tellRow g) := zf_rf
  refine mm_g 2 (pc1 := 2) (lo1 := [some (.ref 137), none, none, none, none, none]) (st1 := [.ref 137, .int (Int32.ofInt 1)]) (H1 := mz_mk g x) rfl ?_
  refine mz_fgR (v := 140) rfl fd_12_36 (by decide) (sc_137 _) (rf_137_3 _ _ _) ?_
  refine mm_g 1 (pc1 := 6) (lo1 := [some (.ref 137), none, none, none, none, none]) (st1 := [.int (Int32.ofInt 0), .ref 140, .int (Int32.ofInt 1)]) (H1 := mz_mk g x) rfl ?_
  refine mz_ia (v := (g 140 0)) rfl (sh_140 _) (by decide) (by decide) (by decide) (show g 140 0 = (g 140 0) from rfl) ?_
  replace hE := zf_tr hE (zf_le (show g 140 0 = (g 140 0) from rfl))
  refine mz_ishl rfl (fun v1 e_v1 hwv1 => ?_)
  have b_v1 : 1 ≤ v1 ∧ v1 ≤ 256 := by rw [e_v1]; exact mz_shl_b (lx := 1) (hx := 1) (k := 8) (by decide) (by decide) (by omega) (by omega) (by omega) (by omega)
  have l_v1 := b_v1.1
  have u_v1 := b_v1.2
  replace hE := zf_tr hE (zf_le e_v1.symm)
  refine mm_g 1 (pc1 := 9) (lo1 := [some (.ref 137), none, none, none, none, none]) (st1 := [.int (Int32.ofInt 1), .int (Int32.ofInt v1)]) (H1 := mz_mk g x) rfl ?_
  refine mz_isub rfl ?_
  have hA : mz_A (g 140 0) = (v1 - 1) := by unfold mz_A; rw [e_v1]
  have hAb := mz_Ab (T := (g 140 0)) (by omega) (by omega)
  refine mm_g 3 (pc1 := 13) (lo1 := [some (.ref 137), some (.int (Int32.ofInt (v1 - 1))), some (.int (Int32.ofInt (v1 - 1))), none, none, none]) (st1 := []) (H1 := mz_mk g x) rfl ?_
  have L9 : ∀ n8 : Nat, ∀ (v2 : Int) (o3 : Option Value) (o4 : Option Value) (o5 : Option Value) (g6 : mz_G), (v2 - 0).toNat = n8 → 0 ≤ v2 → v2 ≤ 255 → mz_nl o3 → mz_nl o4 → mz_nl o5 → mz_inv g6 → mz_fr (fl_X12_tellRow_13 x) g g6 → (mz_ET true (fun _ _ => True) (mz_pu (g 141) (g 142)) g6 (g 140 0) v2) → (v2 ≤ mz_A (g 140 0)) → (∃ fk : Nat, (v2 - 0).toNat < fk ∧ zf_E (zF_X12_tellRow g) (zL_X12_tellRow_13 fk (v1 - 1) v2 g6)) → mm_W d mmX12_tellRow 13 [some (.ref 137), some (.int (Int32.ofInt (v1 - 1))), some (.int (Int32.ofInt v2)), o3, o4, o5] [] (mz_mk g6 x) Q := by
    intro n8
    induction n8 using Nat.strongRecOn with
    | ind n8 ih7 =>
    intro v2 o3 o4 o5 g6 hmn8 l_v2 u_v2 h_o3 h_o4 h_o5 hIg6 hfg6 hv10 hv11 hF
    obtain ⟨fk, fl, hE⟩ := hF
    obtain ⟨fj12, rfl⟩ : ∃ fj, fk = fj + 1 := ⟨fk - 1, by omega⟩
    have fn13 : n8 ≤ fj12 := by omega
    replace hE := zf_tr hE zL_X12_tellRow_13_s
    refine mm_g 1 (pc1 := 14) (lo1 := [some (.ref 137), some (.int (Int32.ofInt (v1 - 1))), some (.int (Int32.ofInt v2)), o3, o4, o5]) (st1 := [.int (Int32.ofInt v2)]) (H1 := mz_mk g6 x) rfl ?_
    refine mz_if_le (tgt := 129) rfl rfl (mz_rg l_v2 u_v2) (fun c14_13 => ?_) (fun c14_13 => ?_)
    · skip
      replace hE := zf_nl hE c14_13
      exact mm_rt rfl rfl (hQ _ hIg6 (fun k j hk => (hfg6 k j (fun h => hk h))) (by have h9 := hv10; rw [show v2 = 0 by omega] at h9; exact h9) hE)
    · skip
      replace hE := zf_ip hE c14_13
      refine mm_g 2 (pc1 := 19) (lo1 := [some (.ref 137), some (.int (Int32.ofInt (v1 - 1))), some (.int (Int32.ofInt v2)), some (.int (Int32.ofInt 0)), o4, o5]) (st1 := []) (H1 := mz_mk g6 x) rfl ?_
      have hO20 := hE
      have L21 : ∀ n19 : Nat, ∀ (v14 : Int) (o15 : Option Value) (o16 : Option Value) (g17 : mz_G), (8 - v14).toNat = n19 → 0 ≤ v14 → v14 ≤ 8 → mz_nl o15 → mz_nl o16 → mz_inv g17 → mz_fr (fl_X12_tellRow_19 x) g6 g17 → (mz_ET true (fun _ _ => True) (mz_pu (g 141) (g 142)) g17 (g 140 0) v2) → (mz_EM true (fun _ _ => True) (mz_pu (g 141) (g 142)) g17 (g 140 0) v2 v14) → (∃ fk : Nat, (8 - v14).toNat < fk ∧ zf_E (zL_X12_tellRow_19 3000000000 (v1 - 1) v2 0 g6) (zL_X12_tellRow_19 fk (v1 - 1) v2 v14 g17)) → mm_W d mmX12_tellRow 19 [some (.ref 137), some (.int (Int32.ofInt (v1 - 1))), some (.int (Int32.ofInt v2)), some (.int (Int32.ofInt v14)), o15, o16] [] (mz_mk g17 x) Q := by
        intro n19
        induction n19 using Nat.strongRecOn with
        | ind n19 ih18 =>
        intro v14 o15 o16 g17 hmn19 l_v14 u_v14 h_o15 h_o16 hIg17 hfg17 hv22 hv23 hF
        obtain ⟨fk, fl, hE⟩ := hF
        obtain ⟨fj24, rfl⟩ : ∃ fj, fk = fj + 1 := ⟨fk - 1, by omega⟩
        have fn25 : n19 ≤ fj24 := by omega
        replace hE := zf_tr hE zL_X12_tellRow_19_s
        refine mm_g 2 (pc1 := 21) (lo1 := [some (.ref 137), some (.int (Int32.ofInt (v1 - 1))), some (.int (Int32.ofInt v2)), some (.int (Int32.ofInt v14)), o15, o16]) (st1 := [.ref 137, .int (Int32.ofInt v14)]) (H1 := mz_mk g17 x) rfl ?_
        refine mz_fgR (v := 140) rfl fd_12_36 (by decide) (sc_137 _) (rf_137_3 _ _ _) ?_
        refine mm_g 1 (pc1 := 25) (lo1 := [some (.ref 137), some (.int (Int32.ofInt (v1 - 1))), some (.int (Int32.ofInt v2)), some (.int (Int32.ofInt v14)), o15, o16]) (st1 := [.int (Int32.ofInt 0), .ref 140, .int (Int32.ofInt v14)]) (H1 := mz_mk g17 x) rfl ?_
        refine mz_ia (v := (g 140 0)) rfl (sh_140 _) (by decide) (by decide) (by decide) (show g17 140 0 = (g 140 0) from ((hfg17 140 0 (fun h => (absurd (show 140 = 163 from h) (by decide)))).trans ((hfg6 140 0 (fun h => (absurd (show 140 = 163 from h) (by decide)))).trans rfl))) ?_
        replace hE := zf_tr hE (zf_le (show g17 140 0 = (g 140 0) from ((hfg17 140 0 (fun h => (absurd (show 140 = 163 from h) (by decide)))).trans ((hfg6 140 0 (fun h => (absurd (show 140 = 163 from h) (by decide)))).trans rfl))))
        refine mz_ic_ge (tgt := 123) rfl rfl (mz_rg l_v14 u_v14) ⟨by omega, by omega⟩ (fun c26_25 => ?_) (fun c26_25 => ?_)
        · skip
          replace hE := zf_nl hE c26_25
          replace hE := zf_t1 hO20 hE
          refine mz_iincR (v := v2) (lo2 := [some (.ref 137), some (.int (Int32.ofInt (v1 - 1))), some (.int (Int32.ofInt (v2 + (-1)))), some (.int (Int32.ofInt v14)), o15, o16]) rfl rfl rfl (Nat.le_of_ble_eq_true rfl) rfl ?_
          refine mz_gt (tgt := 13) rfl rfl ?_
          exact ih7 (((v2 + (-1)) - 0).toNat) (by omega) (v2 + (-1)) (some (.int (Int32.ofInt v14))) o15 o16 g17 rfl (by omega) (by omega) (mz_nl_i _) h_o15 h_o16 hIg17 (fun k j hk => ((hfg17 k j (fun h => hk h)).trans (hfg6 k j (fun h => hk h)))) (mz_ET_dn hv22 hv23 (by omega)) (by omega) ⟨fj12, Nat.lt_of_lt_of_le (show (((v2 + (-1)) - 0).toNat) < n8 from (by omega)) fn13, hE⟩
        · skip
          replace hE := zf_ip hE c26_25
          refine mm_g 2 (pc1 := 31) (lo1 := [some (.ref 137), some (.int (Int32.ofInt (v1 - 1))), some (.int (Int32.ofInt v2)), some (.int (Int32.ofInt v14)), o15, o16]) (st1 := [.int (Int32.ofInt v14), .int (Int32.ofInt v2)]) (H1 := mz_mk g17 x) rfl ?_
          refine mz_cs rfl mt_12_450 (by decide) rfl (Nat.le_of_ble_eq_true rfl) (by omega) (f_X12_isOf (by omega) hx hIg17 (by omega) (by omega) (by omega) (by omega) (fun v26 l_v26 u_v26 hp27 hc28 => ⟨_, rfl, ?_⟩))
          show mm_W d mmX12_tellRow 34 [some (.ref 137), some (.int (Int32.ofInt (v1 - 1))), some (.int (Int32.ofInt v2)), some (.int (Int32.ofInt v14)), o15, o16] [.int (Int32.ofInt v26)] (mz_mk g17 x) Q
          replace hE := zf_t1 hE hc28
          refine mz_if_ne (tgt := 40) rfl rfl (mz_rg l_v26 u_v26) (fun c34_28 => ?_) (fun c34_28 => ?_)
          · skip
            replace hE := zf_in hE c34_28
            refine mm_g 2 (pc1 := 42) (lo1 := [some (.ref 137), some (.int (Int32.ofInt (v1 - 1))), some (.int (Int32.ofInt v2)), some (.int (Int32.ofInt v14)), o15, o16]) (st1 := [.int (Int32.ofInt (v1 - 1)), .int (Int32.ofInt v2)]) (H1 := mz_mk g17 x) rfl ?_
            refine mz_ic_ne (tgt := 49) rfl rfl (mz_rg l_v2 u_v2) ⟨by omega, by omega⟩ (fun c42_28 => ?_) (fun c42_28 => ?_)
            · skip
              replace hE := zf_in hE c42_28
              refine mz_ldcI (c := 100000) rfl rfl rfl ?_
              refine mm_g 3 (pc1 := 56) (lo1 := [some (.ref 137), some (.int (Int32.ofInt (v1 - 1))), some (.int (Int32.ofInt v2)), some (.int (Int32.ofInt v14)), some (.int (Int32.ofInt 100000)), some (.int (Int32.ofInt 0))]) (st1 := []) (H1 := mz_mk g17 x) rfl ?_
              have hO34 := hE
              have L35 : ∀ n33 : Nat, ∀ (v29 : Int) (v30 : Int), (8 - v30).toNat = n33 → 0 ≤ v29 → v29 ≤ 100000 → 0 ≤ v30 → v30 ≤ 8 → (mz_RI (mz_pu (g 141) (g 142)) g17 (g 140 0) v2 v14 v30 v29) → (∃ fk : Nat, (8 - v30).toNat < fk ∧ zf_E (zL_X12_tellRow_56 g17 3000000000 (v1 - 1) v2 v14 100000 0) (zL_X12_tellRow_56 g17 fk (v1 - 1) v2 v14 v29 v30)) → mm_W d mmX12_tellRow 56 [some (.ref 137), some (.int (Int32.ofInt (v1 - 1))), some (.int (Int32.ofInt v2)), some (.int (Int32.ofInt v14)), some (.int (Int32.ofInt v29)), some (.int (Int32.ofInt v30))] [] (mz_mk g17 x) Q := by
                intro n33
                induction n33 using Nat.strongRecOn with
                | ind n33 ih32 =>
                intro v29 v30 hmn33 l_v29 u_v29 l_v30 u_v30 hv36 hF
                obtain ⟨fk, fl, hE⟩ := hF
                obtain ⟨fj37, rfl⟩ : ∃ fj, fk = fj + 1 := ⟨fk - 1, by omega⟩
                have fn38 : n33 ≤ fj37 := by omega
                replace hE := zf_tr hE zL_X12_tellRow_56_s
                refine mm_g 2 (pc1 := 59) (lo1 := [some (.ref 137), some (.int (Int32.ofInt (v1 - 1))), some (.int (Int32.ofInt v2)), some (.int (Int32.ofInt v14)), some (.int (Int32.ofInt v29)), some (.int (Int32.ofInt v30))]) (st1 := [.ref 137, .int (Int32.ofInt v30)]) (H1 := mz_mk g17 x) rfl ?_
                refine mz_fgR (v := 140) rfl fd_12_36 (by decide) (sc_137 _) (rf_137_3 _ _ _) ?_
                refine mm_g 1 (pc1 := 63) (lo1 := [some (.ref 137), some (.int (Int32.ofInt (v1 - 1))), some (.int (Int32.ofInt v2)), some (.int (Int32.ofInt v14)), some (.int (Int32.ofInt v29)), some (.int (Int32.ofInt v30))]) (st1 := [.int (Int32.ofInt 0), .ref 140, .int (Int32.ofInt v30)]) (H1 := mz_mk g17 x) rfl ?_
                refine mz_ia (v := (g 140 0)) rfl (sh_140 _) (by decide) (by decide) (by decide) (show g17 140 0 = (g 140 0) from ((hfg17 140 0 (fun h => (absurd (show 140 = 163 from h) (by decide)))).trans ((hfg6 140 0 (fun h => (absurd (show 140 = 163 from h) (by decide)))).trans rfl))) ?_
                replace hE := zf_tr hE (zf_le (show g17 140 0 = (g 140 0) from ((hfg17 140 0 (fun h => (absurd (show 140 = 163 from h) (by decide)))).trans ((hfg6 140 0 (fun h => (absurd (show 140 = 163 from h) (by decide)))).trans rfl))))
                refine mz_ic_ge (tgt := 104) rfl rfl (mz_rg l_v30 u_v30) ⟨by omega, by omega⟩ (fun c64_38 => ?_) (fun c64_38 => ?_)
                · skip
                  replace hE := zf_nl hE c64_38
                  replace hE := zf_t1 hO34 hE
                  refine mm_g 1 (pc1 := 105) (lo1 := [some (.ref 137), some (.int (Int32.ofInt (v1 - 1))), some (.int (Int32.ofInt v2)), some (.int (Int32.ofInt v14)), some (.int (Int32.ofInt v29)), some (.int (Int32.ofInt v30))]) (st1 := [.ref 137]) (H1 := mz_mk g17 x) rfl ?_
                  refine mz_fgR (v := 163) rfl fd_12_106 (by decide) (sc_137 _) (rf_137_41 _ _ _) ?_
                  refine mm_g 1 (pc1 := 109) (lo1 := [some (.ref 137), some (.int (Int32.ofInt (v1 - 1))), some (.int (Int32.ofInt v2)), some (.int (Int32.ofInt v14)), some (.int (Int32.ofInt v29)), some (.int (Int32.ofInt v30))]) (st1 := [.int (Int32.ofInt v14), .ref 163]) (H1 := mz_mk g17 x) rfl ?_
                  refine mz_bip rfl bip_8 ?_
                  refine mz_ishl rfl (fun v39 e_v39 hwv39 => ?_)
                  have b_v39 : 0 ≤ v39 ∧ v39 ≤ 1792 := by rw [e_v39]; exact mz_shl_b (lx := 0) (hx := 7) (k := 8) (by decide) (by decide) (by omega) (by omega) (by omega) (by omega)
                  have l_v39 := b_v39.1
                  have u_v39 := b_v39.2
                  replace hE := zf_tr hE (zf_le e_v39.symm)
                  refine mm_g 1 (pc1 := 113) (lo1 := [some (.ref 137), some (.int (Int32.ofInt (v1 - 1))), some (.int (Int32.ofInt v2)), some (.int (Int32.ofInt v14)), some (.int (Int32.ofInt v29)), some (.int (Int32.ofInt v30))]) (st1 := [.int (Int32.ofInt v2), .int (Int32.ofInt v39), .ref 163]) (H1 := mz_mk g17 x) rfl ?_
                  refine mz_iadd rfl ?_
                  refine mm_g 1 (pc1 := 116) (lo1 := [some (.ref 137), some (.int (Int32.ofInt (v1 - 1))), some (.int (Int32.ofInt v2)), some (.int (Int32.ofInt v14)), some (.int (Int32.ofInt v29)), some (.int (Int32.ofInt v30))]) (st1 := [.int (Int32.ofInt v29), .int (Int32.ofInt (v39 + v2)), .ref 163]) (H1 := mz_mk g17 x) rfl ?_
                  refine mz_sI rfl (sh_163 _) (by omega) (by omega) (by decide) hIg17 (ba_163 _) (by omega) (by omega) (fun g40 hIg40 hug40 => ?_)
                  replace hE := zf_tr hE (zf_lg hug40)
                  refine mz_iincR (v := v14) (lo2 := [some (.ref 137), some (.int (Int32.ofInt (v1 - 1))), some (.int (Int32.ofInt v2)), some (.int (Int32.ofInt (v14 + 1))), some (.int (Int32.ofInt v29)), some (.int (Int32.ofInt v30))]) rfl rfl rfl (Nat.le_of_ble_eq_true rfl) rfl ?_
                  refine mz_gt (tgt := 19) rfl rfl ?_
                  exact ih18 ((8 - (v14 + 1)).toNat) (by omega) (v14 + 1) (some (.int (Int32.ofInt v29))) (some (.int (Int32.ofInt v30))) g40 rfl (by omega) (by omega) (mz_nl_i _) (mz_nl_i _) hIg40 (fun k j hk => ((hug40.2 k j (fun h => hk h.1)).trans (hfg17 k j (fun h => hk h)))) (mz_ET_up hv22 hug40 (show (v39 + v2) = mz_shlI v14 8 + v2 by rw [e_v39]) (by omega) (by omega) (by omega) (by omega) (by omega) (by omega)) (mz_EM_row hv23 hug40 (show (v39 + v2) = mz_shlI v14 8 + v2 by rw [e_v39]) (by omega) (by omega) (by omega) (by omega) (by omega) (by omega) hv36 (by omega)) ⟨fj24, Nat.lt_of_lt_of_le (show ((8 - (v14 + 1)).toNat) < n19 from (by omega)) fn25, hE⟩
                · skip
                  replace hE := zf_ip hE c64_38
                  refine mm_g 2 (pc1 := 70) (lo1 := [some (.ref 137), some (.int (Int32.ofInt (v1 - 1))), some (.int (Int32.ofInt v2)), some (.int (Int32.ofInt v14)), some (.int (Int32.ofInt v29)), some (.int (Int32.ofInt v30))]) (st1 := [.int (Int32.ofInt v30), .int (Int32.ofInt v2)]) (H1 := mz_mk g17 x) rfl ?_
                  refine mz_cs rfl mt_12_450 (by decide) rfl (Nat.le_of_ble_eq_true rfl) (by omega) (f_X12_isOf (by omega) hx hIg17 (by omega) (by omega) (by omega) (by omega) (fun v41 l_v41 u_v41 hp42 hc43 => ⟨_, rfl, ?_⟩))
                  show mm_W d mmX12_tellRow 73 [some (.ref 137), some (.int (Int32.ofInt (v1 - 1))), some (.int (Int32.ofInt v2)), some (.int (Int32.ofInt v14)), some (.int (Int32.ofInt v29)), some (.int (Int32.ofInt v30))] [.int (Int32.ofInt v41)] (mz_mk g17 x) Q
                  replace hE := zf_t1 hE hc43
                  refine mz_if_ne (tgt := 98) rfl rfl (mz_rg l_v41 u_v41) (fun c73_43 => ?_) (fun c73_43 => ?_)
                  · skip
                    replace hE := zf_in hE c73_43
                    refine mz_iincR (v := v30) (lo2 := [some (.ref 137), some (.int (Int32.ofInt (v1 - 1))), some (.int (Int32.ofInt v2)), some (.int (Int32.ofInt v14)), some (.int (Int32.ofInt v29)), some (.int (Int32.ofInt (v30 + 1)))]) rfl rfl rfl (Nat.le_of_ble_eq_true rfl) rfl ?_
                    refine mz_gt (tgt := 56) rfl rfl ?_
                    exact ih32 ((8 - (v30 + 1)).toNat) (by omega) v29 (v30 + 1) rfl (by omega) (by omega) (by omega) (by omega) (mz_RI_skip hv36 (by rw [← hp42 (by omega) (by omega) (by omega)]; omega)) ⟨fj37, Nat.lt_of_lt_of_le (show ((8 - (v30 + 1)).toNat) < n33 from (by omega)) fn38, hE⟩
                  · skip
                    replace hE := zf_ip hE c73_43
                    refine mm_g 4 (pc1 := 82) (lo1 := [some (.ref 137), some (.int (Int32.ofInt (v1 - 1))), some (.int (Int32.ofInt v2)), some (.int (Int32.ofInt v14)), some (.int (Int32.ofInt v29)), some (.int (Int32.ofInt v30))]) (st1 := [.int (Int32.ofInt v30), .int (Int32.ofInt v14), .ref 137, .int (Int32.ofInt v29)]) (H1 := mz_mk g17 x) rfl ?_
                    refine mz_cv rfl mt_12_453 (by decide) (sc_137 _) rfl (Nat.le_of_ble_eq_true rfl) (by omega) (f_X12_pushed (by omega) hx hIg17 (by omega) (by omega) (by omega) (by omega) (fun v44 l_v44 u_v44 hp45 hp46 hc47 => ⟨_, rfl, ?_⟩))
                    show mm_W d mmX12_tellRow 85 [some (.ref 137), some (.int (Int32.ofInt (v1 - 1))), some (.int (Int32.ofInt v2)), some (.int (Int32.ofInt v14)), some (.int (Int32.ofInt v29)), some (.int (Int32.ofInt v30))] [.int (Int32.ofInt v44), .int (Int32.ofInt v29)] (mz_mk g17 x) Q
                    replace hE := zf_t1 hE hc47
                    have pu47 := hp45
                    rw [show g17 141 = g 141 from funext (fun j => ((hfg17 141 j (fun h => (absurd (show 141 = 163 from h) (by decide)))).trans (hfg6 141 j (fun h => (absurd (show 141 = 163 from h) (by decide)))))), show g17 142 = g 142 from funext (fun j => ((hfg17 142 j (fun h => (absurd (show 142 = 163 from h) (by decide)))).trans (hfg6 142 j (fun h => (absurd (show 142 = 163 from h) (by decide))))))] at pu47
                    refine mm_g 3 (pc1 := 89) (lo1 := [some (.ref 137), some (.int (Int32.ofInt (v1 - 1))), some (.int (Int32.ofInt v2)), some (.int (Int32.ofInt v14)), some (.int (Int32.ofInt v29)), some (.int (Int32.ofInt v30))]) (st1 := [.int (Int32.ofInt v2), .int (Int32.ofInt v30), .ref 137, .int (Int32.ofInt v44), .int (Int32.ofInt v29)]) (H1 := mz_mk g17 x) rfl ?_
                    refine mz_cv rfl mt_12_456 (by decide) (sc_137 _) rfl (Nat.le_of_ble_eq_true rfl) (by omega) (f_X12_madeOn (by omega) hx hIg17 (by omega) (by omega) l_v2 u_v2 (fun v48 l_v48 u_v48 hp49 hc50 => ⟨_, rfl, ?_⟩))
                    show mm_W d mmX12_tellRow 92 [some (.ref 137), some (.int (Int32.ofInt (v1 - 1))), some (.int (Int32.ofInt v2)), some (.int (Int32.ofInt v14)), some (.int (Int32.ofInt v29)), some (.int (Int32.ofInt v30))] [.int (Int32.ofInt v48), .int (Int32.ofInt v44), .int (Int32.ofInt v29)] (mz_mk g17 x) Q
                    replace hE := zf_t1 hE hc50
                    have mb50 := mz_ET_made (v := v30) hv22 (by omega) (by omega) (by omega) (by omega) (by omega) (by omega) (by rw [← hp42 (by omega) (by omega) (by omega)]; omega)
                    simp only [mz_cf] at mb50
                    rw [← hp49] at mb50
                    refine mz_iadd rfl ?_
                    refine mz_mn rfl mt_12_191 (Nat.le_of_ble_eq_true rfl) (by omega) (mz_rg l_v29 u_v29) ⟨by omega, by omega⟩ (fun v51 e_v51 => ?_)
                    have l_v51 : 0 ≤ v51 := by omega
                    have u_v51 : v51 ≤ 2048 := by omega
                    replace hE := zf_tr hE (zf_le e_v51.symm)
                    refine mm_g 1 (pc1 := 98) (lo1 := [some (.ref 137), some (.int (Int32.ofInt (v1 - 1))), some (.int (Int32.ofInt v2)), some (.int (Int32.ofInt v14)), some (.int (Int32.ofInt v51)), some (.int (Int32.ofInt v30))]) (st1 := []) (H1 := mz_mk g17 x) rfl ?_
                    refine mz_iincR (v := v30) (lo2 := [some (.ref 137), some (.int (Int32.ofInt (v1 - 1))), some (.int (Int32.ofInt v2)), some (.int (Int32.ofInt v14)), some (.int (Int32.ofInt v51)), some (.int (Int32.ofInt (v30 + 1)))]) rfl rfl rfl (Nat.le_of_ble_eq_true rfl) rfl ?_
                    refine mz_gt (tgt := 56) rfl rfl ?_
                    exact ih32 ((8 - (v30 + 1)).toNat) (by omega) v51 (v30 + 1) rfl (by omega) (by omega) (by omega) (by omega) (mz_RI_take hv36 hv22 (by omega) (by omega) (by omega) (by omega) (by omega) (by omega) (by rw [← hp42 (by omega) (by omega) (by omega)]; omega) pu47 hp49 ⟨by omega, by omega⟩ (by omega) (by omega) (by omega)) ⟨fj37, Nat.lt_of_lt_of_le (show ((8 - (v30 + 1)).toNat) < n33 from (by omega)) fn38, hE⟩
              exact L35 _ 100000 0 rfl (by decide) (by decide) (by decide) (by decide) (mz_RI_0b (by omega)) ⟨3000000000, by omega, zf_rf⟩
            · skip
              replace hE := zf_ip hE c42_28
              refine mm_g 1 (pc1 := 46) (lo1 := [some (.ref 137), some (.int (Int32.ofInt (v1 - 1))), some (.int (Int32.ofInt v2)), some (.int (Int32.ofInt v14)), o15, o16]) (st1 := [.int (Int32.ofInt 0)]) (H1 := mz_mk g17 x) rfl ?_
              refine mz_gt (tgt := 51) rfl rfl ?_
              refine mm_g 3 (pc1 := 56) (lo1 := [some (.ref 137), some (.int (Int32.ofInt (v1 - 1))), some (.int (Int32.ofInt v2)), some (.int (Int32.ofInt v14)), some (.int (Int32.ofInt 0)), some (.int (Int32.ofInt 0))]) (st1 := []) (H1 := mz_mk g17 x) rfl ?_
              have hO57 := hE
              have L58 : ∀ n56 : Nat, ∀ (v52 : Int) (v53 : Int), (8 - v53).toNat = n56 → 0 ≤ v52 → v52 ≤ 0 → 0 ≤ v53 → v53 ≤ 8 → (mz_RI (mz_pu (g 141) (g 142)) g17 (g 140 0) v2 v14 v53 v52) → (∃ fk : Nat, (8 - v53).toNat < fk ∧ zf_E (zL_X12_tellRow_56 g17 3000000000 (v1 - 1) v2 v14 0 0) (zL_X12_tellRow_56 g17 fk (v1 - 1) v2 v14 v52 v53)) → mm_W d mmX12_tellRow 56 [some (.ref 137), some (.int (Int32.ofInt (v1 - 1))), some (.int (Int32.ofInt v2)), some (.int (Int32.ofInt v14)), some (.int (Int32.ofInt v52)), some (.int (Int32.ofInt v53))] [] (mz_mk g17 x) Q := by
                intro n56
                induction n56 using Nat.strongRecOn with
                | ind n56 ih55 =>
                intro v52 v53 hmn56 l_v52 u_v52 l_v53 u_v53 hv59 hF
                obtain ⟨fk, fl, hE⟩ := hF
                obtain ⟨fj60, rfl⟩ : ∃ fj, fk = fj + 1 := ⟨fk - 1, by omega⟩
                have fn61 : n56 ≤ fj60 := by omega
                replace hE := zf_tr hE zL_X12_tellRow_56_s
                refine mm_g 2 (pc1 := 59) (lo1 := [some (.ref 137), some (.int (Int32.ofInt (v1 - 1))), some (.int (Int32.ofInt v2)), some (.int (Int32.ofInt v14)), some (.int (Int32.ofInt v52)), some (.int (Int32.ofInt v53))]) (st1 := [.ref 137, .int (Int32.ofInt v53)]) (H1 := mz_mk g17 x) rfl ?_
                refine mz_fgR (v := 140) rfl fd_12_36 (by decide) (sc_137 _) (rf_137_3 _ _ _) ?_
                refine mm_g 1 (pc1 := 63) (lo1 := [some (.ref 137), some (.int (Int32.ofInt (v1 - 1))), some (.int (Int32.ofInt v2)), some (.int (Int32.ofInt v14)), some (.int (Int32.ofInt v52)), some (.int (Int32.ofInt v53))]) (st1 := [.int (Int32.ofInt 0), .ref 140, .int (Int32.ofInt v53)]) (H1 := mz_mk g17 x) rfl ?_
                refine mz_ia (v := (g 140 0)) rfl (sh_140 _) (by decide) (by decide) (by decide) (show g17 140 0 = (g 140 0) from ((hfg17 140 0 (fun h => (absurd (show 140 = 163 from h) (by decide)))).trans ((hfg6 140 0 (fun h => (absurd (show 140 = 163 from h) (by decide)))).trans rfl))) ?_
                replace hE := zf_tr hE (zf_le (show g17 140 0 = (g 140 0) from ((hfg17 140 0 (fun h => (absurd (show 140 = 163 from h) (by decide)))).trans ((hfg6 140 0 (fun h => (absurd (show 140 = 163 from h) (by decide)))).trans rfl))))
                refine mz_ic_ge (tgt := 104) rfl rfl (mz_rg l_v53 u_v53) ⟨by omega, by omega⟩ (fun c64_61 => ?_) (fun c64_61 => ?_)
                · skip
                  replace hE := zf_nl hE c64_61
                  replace hE := zf_t1 hO57 hE
                  refine mm_g 1 (pc1 := 105) (lo1 := [some (.ref 137), some (.int (Int32.ofInt (v1 - 1))), some (.int (Int32.ofInt v2)), some (.int (Int32.ofInt v14)), some (.int (Int32.ofInt v52)), some (.int (Int32.ofInt v53))]) (st1 := [.ref 137]) (H1 := mz_mk g17 x) rfl ?_
                  refine mz_fgR (v := 163) rfl fd_12_106 (by decide) (sc_137 _) (rf_137_41 _ _ _) ?_
                  refine mm_g 1 (pc1 := 109) (lo1 := [some (.ref 137), some (.int (Int32.ofInt (v1 - 1))), some (.int (Int32.ofInt v2)), some (.int (Int32.ofInt v14)), some (.int (Int32.ofInt v52)), some (.int (Int32.ofInt v53))]) (st1 := [.int (Int32.ofInt v14), .ref 163]) (H1 := mz_mk g17 x) rfl ?_
                  refine mz_bip rfl bip_8 ?_
                  refine mz_ishl rfl (fun v62 e_v62 hwv62 => ?_)
                  have b_v62 : 0 ≤ v62 ∧ v62 ≤ 1792 := by rw [e_v62]; exact mz_shl_b (lx := 0) (hx := 7) (k := 8) (by decide) (by decide) (by omega) (by omega) (by omega) (by omega)
                  have l_v62 := b_v62.1
                  have u_v62 := b_v62.2
                  replace hE := zf_tr hE (zf_le e_v62.symm)
                  refine mm_g 1 (pc1 := 113) (lo1 := [some (.ref 137), some (.int (Int32.ofInt (v1 - 1))), some (.int (Int32.ofInt v2)), some (.int (Int32.ofInt v14)), some (.int (Int32.ofInt v52)), some (.int (Int32.ofInt v53))]) (st1 := [.int (Int32.ofInt v2), .int (Int32.ofInt v62), .ref 163]) (H1 := mz_mk g17 x) rfl ?_
                  refine mz_iadd rfl ?_
                  refine mm_g 1 (pc1 := 116) (lo1 := [some (.ref 137), some (.int (Int32.ofInt (v1 - 1))), some (.int (Int32.ofInt v2)), some (.int (Int32.ofInt v14)), some (.int (Int32.ofInt v52)), some (.int (Int32.ofInt v53))]) (st1 := [.int (Int32.ofInt v52), .int (Int32.ofInt (v62 + v2)), .ref 163]) (H1 := mz_mk g17 x) rfl ?_
                  refine mz_sI rfl (sh_163 _) (by omega) (by omega) (by decide) hIg17 (ba_163 _) (by omega) (by omega) (fun g63 hIg63 hug63 => ?_)
                  replace hE := zf_tr hE (zf_lg hug63)
                  refine mz_iincR (v := v14) (lo2 := [some (.ref 137), some (.int (Int32.ofInt (v1 - 1))), some (.int (Int32.ofInt v2)), some (.int (Int32.ofInt (v14 + 1))), some (.int (Int32.ofInt v52)), some (.int (Int32.ofInt v53))]) rfl rfl rfl (Nat.le_of_ble_eq_true rfl) rfl ?_
                  refine mz_gt (tgt := 19) rfl rfl ?_
                  exact ih18 ((8 - (v14 + 1)).toNat) (by omega) (v14 + 1) (some (.int (Int32.ofInt v52))) (some (.int (Int32.ofInt v53))) g63 rfl (by omega) (by omega) (mz_nl_i _) (mz_nl_i _) hIg63 (fun k j hk => ((hug63.2 k j (fun h => hk h.1)).trans (hfg17 k j (fun h => hk h)))) (mz_ET_up hv22 hug63 (show (v62 + v2) = mz_shlI v14 8 + v2 by rw [e_v62]) (by omega) (by omega) (by omega) (by omega) (by omega) (by omega)) (mz_EM_row hv23 hug63 (show (v62 + v2) = mz_shlI v14 8 + v2 by rw [e_v62]) (by omega) (by omega) (by omega) (by omega) (by omega) (by omega) hv59 (by omega)) ⟨fj24, Nat.lt_of_lt_of_le (show ((8 - (v14 + 1)).toNat) < n19 from (by omega)) fn25, hE⟩
                · skip
                  replace hE := zf_ip hE c64_61
                  refine mm_g 2 (pc1 := 70) (lo1 := [some (.ref 137), some (.int (Int32.ofInt (v1 - 1))), some (.int (Int32.ofInt v2)), some (.int (Int32.ofInt v14)), some (.int (Int32.ofInt v52)), some (.int (Int32.ofInt v53))]) (st1 := [.int (Int32.ofInt v53), .int (Int32.ofInt v2)]) (H1 := mz_mk g17 x) rfl ?_
                  refine mz_cs rfl mt_12_450 (by decide) rfl (Nat.le_of_ble_eq_true rfl) (by omega) (f_X12_isOf (by omega) hx hIg17 (by omega) (by omega) (by omega) (by omega) (fun v64 l_v64 u_v64 hp65 hc66 => ⟨_, rfl, ?_⟩))
                  show mm_W d mmX12_tellRow 73 [some (.ref 137), some (.int (Int32.ofInt (v1 - 1))), some (.int (Int32.ofInt v2)), some (.int (Int32.ofInt v14)), some (.int (Int32.ofInt v52)), some (.int (Int32.ofInt v53))] [.int (Int32.ofInt v64)] (mz_mk g17 x) Q
                  replace hE := zf_t1 hE hc66
                  refine mz_if_ne (tgt := 98) rfl rfl (mz_rg l_v64 u_v64) (fun c73_66 => ?_) (fun c73_66 => ?_)
                  · skip
                    replace hE := zf_in hE c73_66
                    refine mz_iincR (v := v53) (lo2 := [some (.ref 137), some (.int (Int32.ofInt (v1 - 1))), some (.int (Int32.ofInt v2)), some (.int (Int32.ofInt v14)), some (.int (Int32.ofInt v52)), some (.int (Int32.ofInt (v53 + 1)))]) rfl rfl rfl (Nat.le_of_ble_eq_true rfl) rfl ?_
                    refine mz_gt (tgt := 56) rfl rfl ?_
                    exact ih55 ((8 - (v53 + 1)).toNat) (by omega) v52 (v53 + 1) rfl (by omega) (by omega) (by omega) (by omega) (mz_RI_skip hv59 (by rw [← hp65 (by omega) (by omega) (by omega)]; omega)) ⟨fj60, Nat.lt_of_lt_of_le (show ((8 - (v53 + 1)).toNat) < n56 from (by omega)) fn61, hE⟩
                  · skip
                    replace hE := zf_ip hE c73_66
                    refine mm_g 4 (pc1 := 82) (lo1 := [some (.ref 137), some (.int (Int32.ofInt (v1 - 1))), some (.int (Int32.ofInt v2)), some (.int (Int32.ofInt v14)), some (.int (Int32.ofInt v52)), some (.int (Int32.ofInt v53))]) (st1 := [.int (Int32.ofInt v53), .int (Int32.ofInt v14), .ref 137, .int (Int32.ofInt v52)]) (H1 := mz_mk g17 x) rfl ?_
                    refine mz_cv rfl mt_12_453 (by decide) (sc_137 _) rfl (Nat.le_of_ble_eq_true rfl) (by omega) (f_X12_pushed (by omega) hx hIg17 (by omega) (by omega) (by omega) (by omega) (fun v67 l_v67 u_v67 hp68 hp69 hc70 => ⟨_, rfl, ?_⟩))
                    show mm_W d mmX12_tellRow 85 [some (.ref 137), some (.int (Int32.ofInt (v1 - 1))), some (.int (Int32.ofInt v2)), some (.int (Int32.ofInt v14)), some (.int (Int32.ofInt v52)), some (.int (Int32.ofInt v53))] [.int (Int32.ofInt v67), .int (Int32.ofInt v52)] (mz_mk g17 x) Q
                    replace hE := zf_t1 hE hc70
                    have pu70 := hp68
                    rw [show g17 141 = g 141 from funext (fun j => ((hfg17 141 j (fun h => (absurd (show 141 = 163 from h) (by decide)))).trans (hfg6 141 j (fun h => (absurd (show 141 = 163 from h) (by decide)))))), show g17 142 = g 142 from funext (fun j => ((hfg17 142 j (fun h => (absurd (show 142 = 163 from h) (by decide)))).trans (hfg6 142 j (fun h => (absurd (show 142 = 163 from h) (by decide))))))] at pu70
                    refine mm_g 3 (pc1 := 89) (lo1 := [some (.ref 137), some (.int (Int32.ofInt (v1 - 1))), some (.int (Int32.ofInt v2)), some (.int (Int32.ofInt v14)), some (.int (Int32.ofInt v52)), some (.int (Int32.ofInt v53))]) (st1 := [.int (Int32.ofInt v2), .int (Int32.ofInt v53), .ref 137, .int (Int32.ofInt v67), .int (Int32.ofInt v52)]) (H1 := mz_mk g17 x) rfl ?_
                    refine mz_cv rfl mt_12_456 (by decide) (sc_137 _) rfl (Nat.le_of_ble_eq_true rfl) (by omega) (f_X12_madeOn (by omega) hx hIg17 (by omega) (by omega) l_v2 u_v2 (fun v71 l_v71 u_v71 hp72 hc73 => ⟨_, rfl, ?_⟩))
                    show mm_W d mmX12_tellRow 92 [some (.ref 137), some (.int (Int32.ofInt (v1 - 1))), some (.int (Int32.ofInt v2)), some (.int (Int32.ofInt v14)), some (.int (Int32.ofInt v52)), some (.int (Int32.ofInt v53))] [.int (Int32.ofInt v71), .int (Int32.ofInt v67), .int (Int32.ofInt v52)] (mz_mk g17 x) Q
                    replace hE := zf_t1 hE hc73
                    have mb73 := mz_ET_made (v := v53) hv22 (by omega) (by omega) (by omega) (by omega) (by omega) (by omega) (by rw [← hp65 (by omega) (by omega) (by omega)]; omega)
                    simp only [mz_cf] at mb73
                    rw [← hp72] at mb73
                    refine mz_iadd rfl ?_
                    refine mz_mn rfl mt_12_191 (Nat.le_of_ble_eq_true rfl) (by omega) (mz_rg l_v52 u_v52) ⟨by omega, by omega⟩ (fun v74 e_v74 => ?_)
                    have l_v74 : 0 ≤ v74 := by omega
                    have u_v74 : v74 ≤ 0 := by omega
                    replace hE := zf_tr hE (zf_le e_v74.symm)
                    refine mm_g 1 (pc1 := 98) (lo1 := [some (.ref 137), some (.int (Int32.ofInt (v1 - 1))), some (.int (Int32.ofInt v2)), some (.int (Int32.ofInt v14)), some (.int (Int32.ofInt v74)), some (.int (Int32.ofInt v53))]) (st1 := []) (H1 := mz_mk g17 x) rfl ?_
                    refine mz_iincR (v := v53) (lo2 := [some (.ref 137), some (.int (Int32.ofInt (v1 - 1))), some (.int (Int32.ofInt v2)), some (.int (Int32.ofInt v14)), some (.int (Int32.ofInt v74)), some (.int (Int32.ofInt (v53 + 1)))]) rfl rfl rfl (Nat.le_of_ble_eq_true rfl) rfl ?_
                    refine mz_gt (tgt := 56) rfl rfl ?_
                    exact ih55 ((8 - (v53 + 1)).toNat) (by omega) v74 (v53 + 1) rfl (by omega) (by omega) (by omega) (by omega) (mz_RI_take hv59 hv22 (by omega) (by omega) (by omega) (by omega) (by omega) (by omega) (by rw [← hp65 (by omega) (by omega) (by omega)]; omega) pu70 hp72 ⟨by omega, by omega⟩ (by omega) (by omega) (by omega)) ⟨fj60, Nat.lt_of_lt_of_le (show ((8 - (v53 + 1)).toNat) < n56 from (by omega)) fn61, hE⟩
              exact L58 _ 0 0 rfl (by decide) (by decide) (by decide) (by decide) (mz_RI_0a (by omega)) ⟨3000000000, by omega, zf_rf⟩
          · skip
            replace hE := zf_ip hE c34_28
            refine mz_gt (tgt := 117) rfl rfl ?_
            refine mz_iincR (v := v14) (lo2 := [some (.ref 137), some (.int (Int32.ofInt (v1 - 1))), some (.int (Int32.ofInt v2)), some (.int (Int32.ofInt (v14 + 1))), o15, o16]) rfl rfl rfl (Nat.le_of_ble_eq_true rfl) rfl ?_
            refine mz_gt (tgt := 19) rfl rfl ?_
            exact ih18 ((8 - (v14 + 1)).toNat) (by omega) (v14 + 1) o15 o16 g17 rfl (by omega) (by omega) h_o15 h_o16 hIg17 (fun k j hk => (hfg17 k j (fun h => hk h))) hv22 (mz_EM_skip hv23 (by rw [← hp27 (by omega) (by omega) (by omega)]; omega)) ⟨fj24, Nat.lt_of_lt_of_le (show ((8 - (v14 + 1)).toNat) < n19 from (by omega)) fn25, hE⟩
      exact L21 _ 0 o4 o5 g6 rfl (by decide) (by decide) h_o4 h_o5 hIg6 (fun _ _ _ => rfl) hv10 mz_EM_0 ⟨3000000000, by omega, zf_rf⟩
  exact L9 _ (v1 - 1) none none none g rfl (by omega) (by omega) mz_nl_n mz_nl_n mz_nl_n hI (fun _ _ _ => rfl) (by rw [← hA]; exact mz_ET_A) (by omega) ⟨3000000000, by omega, hE⟩
def fw_X12_row (x : mm_X) (a1 : Int) : Nat → Nat → Prop := fun k j => (k = 137 ∧ j = 2) ∨ k = 163
set_option maxHeartbeats 20000000 in
theorem f_X12_row {d : Nat} (hd : 15 ≤ d) {x : mm_X} (hx : mk_x x) {g : mz_G} (hI : mz_inv g) {a1 : Int} (l_a1 : (-2147483648) ≤ a1) (u_a1 : a1 ≤ 2147483647) (p1 : mz_pv g) (p2 : g 137 30 ≤ 999) {Q : (Option Value ⊕ Nat) → mm_H → Prop} (hQ : ∀ (r : Int) (g1 : mz_G), mz_inv g1 → mz_fr (fw_X12_row x a1) g g1 → 0 ≤ r → r ≤ 100000 → (g1 137 30 ≤ 999) → zf_E (zF_X12_row a1 g) ((r, g1)) → Q (.inl (some (.int (Int32.ofInt r)))) (mz_mk g1 x)) : mm_C d 270 [.ref 137, .int (Int32.ofInt a1)] (mz_mk g x) Q := by
  refine ⟨mmX12_row, [some (.ref 137), some (.int (Int32.ofInt a1)), none, none, none, none, none, none], rfl, rfl, ?_⟩
  have bz0 := mz_rd hI bd_137_30
  have bz1 := mz_rd hI bt_140_0
  have bz2 := mz_rd hI bt_140_1
  have hpv := p1
  have hE : zf_E (zF_X12_row a1 g) (zF_X12_row a1 g) := zf_rf
  refine mm_g 2 (pc1 := 2) (lo1 := [some (.ref 137), some (.int (Int32.ofInt a1)), none, none, none, none, none, none]) (st1 := [.int (Int32.ofInt 0), .ref 137]) (H1 := mz_mk g x) rfl ?_
  refine mz_pI rfl fd_12_154 (sc_137 _) hI bd_137_2 (by omega) (by omega) (fun g1 hIg1 hug1 => ?_)
  replace hE := zf_tr hE (zf_lg hug1)
  refine mm_g 1 (pc1 := 6) (lo1 := [some (.ref 137), some (.int (Int32.ofInt a1)), none, none, none, none, none, none]) (st1 := [.int (Int32.ofInt a1)]) (H1 := mz_mk g1 x) rfl ?_
  refine mz_i2l rfl (mz_rg l_a1 u_a1) ?_
  refine mz_l2w (c := (-1)) rfl rfl rfl ?_
  refine mm_g 1 (pc1 := 11) (lo1 := [some (.ref 137), some (.int (Int32.ofInt a1)), none, none, none, none, none, none]) (st1 := [.ref 137, .long (Int64.ofInt (-1)), .long (Int64.ofInt a1)]) (H1 := mz_mk g1 x) rfl ?_
  refine mz_fgR (v := 140) rfl fd_12_36 (by decide) (sc_137 _) (rf_137_3 _ _ _) ?_
  refine mm_g 1 (pc1 := 15) (lo1 := [some (.ref 137), some (.int (Int32.ofInt a1)), none, none, none, none, none, none]) (st1 := [.int (Int32.ofInt 0), .ref 140, .long (Int64.ofInt (-1)), .long (Int64.ofInt a1)]) (H1 := mz_mk g1 x) rfl ?_
  refine mz_ia (v := (g 140 0)) rfl (sh_140 _) (by decide) (by decide) (by decide) (show g1 140 0 = (g 140 0) from ((hug1.2 140 0 (fun h => absurd h.1 (by decide))).trans rfl)) ?_
  replace hE := zf_tr hE (zf_le (show g1 140 0 = (g 140 0) from ((hug1.2 140 0 (fun h => absurd h.1 (by decide))).trans rfl)))
  refine mm_g 1 (pc1 := 17) (lo1 := [some (.ref 137), some (.int (Int32.ofInt a1)), none, none, none, none, none, none]) (st1 := [.int (Int32.ofInt 1), .int (Int32.ofInt (g 140 0)), .long (Int64.ofInt (-1)), .long (Int64.ofInt a1)]) (H1 := mz_mk g1 x) rfl ?_
  refine mz_isub rfl ?_
  refine mz_i2l rfl ⟨by omega, by omega⟩ ?_
  refine mz_cs rfl mt_12_157 (by decide) rfl (Nat.le_of_ble_eq_true rfl) (by omega) (f_X12_isIn (by omega) hx hIg1 (by omega) (by omega) (by omega) (by omega) (by omega) (by omega) (fun v2 l_v2 u_v2 hp3 hc4 => ⟨_, rfl, ?_⟩))
  show mm_W d mmX12_row 22 [some (.ref 137), some (.int (Int32.ofInt a1)), none, none, none, none, none, none] [.int (Int32.ofInt v2)] (mz_mk g1 x) Q
  replace hE := zf_t1 hE hc4
  refine mz_if_ne (tgt := 31) rfl rfl (mz_rg l_v2 u_v2) (fun c22_4 => ?_) (fun c22_4 => ?_)
  · skip
    replace hE := zf_in hE c22_4
    refine mm_g 1 (pc1 := 32) (lo1 := [some (.ref 137), some (.int (Int32.ofInt a1)), none, none, none, none, none, none]) (st1 := [.ref 137]) (H1 := mz_mk g1 x) rfl ?_
    refine mz_fgR (v := 140) rfl fd_12_36 (by decide) (sc_137 _) (rf_137_3 _ _ _) ?_
    refine mm_g 1 (pc1 := 36) (lo1 := [some (.ref 137), some (.int (Int32.ofInt a1)), none, none, none, none, none, none]) (st1 := [.int (Int32.ofInt 0), .ref 140]) (H1 := mz_mk g1 x) rfl ?_
    refine mz_ia (v := (g 140 0)) rfl (sh_140 _) (by decide) (by decide) (by decide) (show g1 140 0 = (g 140 0) from ((hug1.2 140 0 (fun h => absurd h.1 (by decide))).trans rfl)) ?_
    replace hE := zf_tr hE (zf_le (show g1 140 0 = (g 140 0) from ((hug1.2 140 0 (fun h => absurd h.1 (by decide))).trans rfl)))
    refine mz_if_ne (tgt := 42) rfl rfl ⟨by omega, by omega⟩ (fun c37_4 => ?_) (fun c37_4 => ?_)
    · skip
      replace hE := zf_in hE c37_4
      refine mm_g 1 (pc1 := 43) (lo1 := [some (.ref 137), some (.int (Int32.ofInt a1)), none, none, none, none, none, none]) (st1 := [.ref 137]) (H1 := mz_mk g1 x) rfl ?_
      refine mz_cv rfl mt_12_461 (by decide) (sc_137 _) rfl (Nat.le_of_ble_eq_true rfl) (by omega) (f_X12_tellRow (by omega) hx hIg1 (fun g5 hIg5 hfg5 hp6 hc7 => ⟨_, rfl, ?_⟩))
      show mm_W d mmX12_row 46 [some (.ref 137), some (.int (Int32.ofInt a1)), none, none, none, none, none, none] [] (mz_mk g5 x) Q
      replace hE := zf_t1 hE hc7
      have rt7 := hp6
      rw [show g1 141 = g 141 from funext (fun j => (hug1.2 141 j (fun h => absurd h.1 (by decide)))), show g1 142 = g 142 from funext (fun j => (hug1.2 142 j (fun h => absurd h.1 (by decide)))), show g1 140 0 = g 140 0 from (hug1.2 140 0 (fun h => absurd h.1 (by decide)))] at rt7
      have hAb := mz_Ab (T := (g 140 0)) (by omega) (by omega)
      refine mm_g 2 (pc1 := 48) (lo1 := [some (.ref 137), some (.int (Int32.ofInt a1)), some (.int (Int32.ofInt (-1))), none, none, none, none, none]) (st1 := []) (H1 := mz_mk g5 x) rfl ?_
      refine mz_ldcI (c := 100000) rfl rfl rfl ?_
      refine mm_g 3 (pc1 := 54) (lo1 := [some (.ref 137), some (.int (Int32.ofInt a1)), some (.int (Int32.ofInt (-1))), some (.int (Int32.ofInt 100000)), some (.int (Int32.ofInt 0)), none, none, none]) (st1 := []) (H1 := mz_mk g5 x) rfl ?_
      have L15 : ∀ n14 : Nat, ∀ (v8 : Int) (v9 : Int) (v10 : Int) (o11 : Option Value), (8 - v10).toNat = n14 → (-1) ≤ v8 → v8 ≤ 16 → 0 ≤ v9 → v9 ≤ 100000 → 0 ≤ v10 → v10 ≤ 8 → mz_nl o11 → ((v10 = 0 ∧ v8 = -1 ∧ v9 = 100000) ∨ (0 ≤ v8 ∧ v8 < g 140 0 ∧ 0 ≤ v9 ∧ v9 ≤ 2048)) → (∃ fk : Nat, (8 - v10).toNat < fk ∧ zf_E (zF_X12_row a1 g) (zL_X12_row_54 a1 g5 fk v8 v9 v10)) → mm_W d mmX12_row 54 [some (.ref 137), some (.int (Int32.ofInt a1)), some (.int (Int32.ofInt v8)), some (.int (Int32.ofInt v9)), some (.int (Int32.ofInt v10)), o11, none, none] [] (mz_mk g5 x) Q := by
        intro n14
        induction n14 using Nat.strongRecOn with
        | ind n14 ih13 =>
        intro v8 v9 v10 o11 hmn14 l_v8 u_v8 l_v9 u_v9 l_v10 u_v10 h_o11 hv16 hF
        obtain ⟨fk, fl, hE⟩ := hF
        obtain ⟨fj17, rfl⟩ : ∃ fj, fk = fj + 1 := ⟨fk - 1, by omega⟩
        have fn18 : n14 ≤ fj17 := by omega
        replace hE := zf_tr hE zL_X12_row_54_s
        refine mm_g 2 (pc1 := 57) (lo1 := [some (.ref 137), some (.int (Int32.ofInt a1)), some (.int (Int32.ofInt v8)), some (.int (Int32.ofInt v9)), some (.int (Int32.ofInt v10)), o11, none, none]) (st1 := [.ref 137, .int (Int32.ofInt v10)]) (H1 := mz_mk g5 x) rfl ?_
        refine mz_fgR (v := 140) rfl fd_12_36 (by decide) (sc_137 _) (rf_137_3 _ _ _) ?_
        refine mm_g 1 (pc1 := 61) (lo1 := [some (.ref 137), some (.int (Int32.ofInt a1)), some (.int (Int32.ofInt v8)), some (.int (Int32.ofInt v9)), some (.int (Int32.ofInt v10)), o11, none, none]) (st1 := [.int (Int32.ofInt 0), .ref 140, .int (Int32.ofInt v10)]) (H1 := mz_mk g5 x) rfl ?_
        refine mz_ia (v := (g 140 0)) rfl (sh_140 _) (by decide) (by decide) (by decide) (show g5 140 0 = (g 140 0) from ((hfg5 140 0 (fun h => (absurd (show 140 = 163 from h) (by decide)))).trans ((hug1.2 140 0 (fun h => absurd h.1 (by decide))).trans rfl))) ?_
        replace hE := zf_tr hE (zf_le (show g5 140 0 = (g 140 0) from ((hfg5 140 0 (fun h => (absurd (show 140 = 163 from h) (by decide)))).trans ((hug1.2 140 0 (fun h => absurd h.1 (by decide))).trans rfl))))
        refine mz_ic_ge (tgt := 103) rfl rfl (mz_rg l_v10 u_v10) ⟨by omega, by omega⟩ (fun c62_18 => ?_) (fun c62_18 => ?_)
        · skip
          replace hE := zf_nl hE c62_18
          refine mm_g 2 (pc1 := 105) (lo1 := [some (.ref 137), some (.int (Int32.ofInt a1)), some (.int (Int32.ofInt v8)), some (.int (Int32.ofInt v9)), some (.int (Int32.ofInt v10)), o11, none, none]) (st1 := [.int (Int32.ofInt (-1)), .int (Int32.ofInt a1)]) (H1 := mz_mk g5 x) rfl ?_
          refine mz_ic_ne (tgt := 110) rfl rfl (mz_rg l_a1 u_a1) ⟨by decide, by decide⟩ (fun c105_18 => ?_) (fun c105_18 => ?_)
          · skip
            replace hE := zf_in hE c105_18
            have w0_v8 : 0 ≤ v8 ∧ v8 ≤ 7 ∧ v8 < (g 140 0) := by omega
            refine mm_g 2 (pc1 := 112) (lo1 := [some (.ref 137), some (.int (Int32.ofInt a1)), some (.int (Int32.ofInt v8)), some (.int (Int32.ofInt v9)), some (.int (Int32.ofInt v10)), o11, none, none]) (st1 := [.int (Int32.ofInt v8), .int (Int32.ofInt 1)]) (H1 := mz_mk g5 x) rfl ?_
            refine mz_ishl rfl (fun v19 e_v19 hwv19 => ?_)
            have b_v19 : 1 ≤ v19 ∧ v19 ≤ 128 := by rw [e_v19]; exact mz_shl_b (lx := 1) (hx := 1) (k := 7) (by decide) (by decide) (by omega) (by omega) (by omega) (by omega)
            have l_v19 := b_v19.1
            have u_v19 := b_v19.2
            replace hE := zf_tr hE (zf_le e_v19.symm)
            have wf := mz_first (T := (g 140 0)) (v := v8) (by omega) (by omega) (by omega) (by omega)
            rw [← e_v19] at wf
            have wf1 := wf.1
            have wf2 := wf.2.1
            have lw_v19 : 1 ≤ v19 := by omega
            have uw_v19 : v19 ≤ 255 := by omega
            refine mm_g 3 (pc1 := 118) (lo1 := [some (.ref 137), some (.int (Int32.ofInt a1)), some (.int (Int32.ofInt v8)), some (.int (Int32.ofInt v9)), some (.int (Int32.ofInt v19)), some (.int (Int32.ofInt 0)), none, none]) (st1 := []) (H1 := mz_mk g5 x) rfl ?_
            have L28 : ∀ n27 : Nat, ∀ (v20 : Int) (v21 : Int) (v22 : Int) (o23 : Option Value) (o24 : Option Value), (7 - v22).toNat = n27 → 0 ≤ v20 → v20 ≤ 7 → 1 ≤ v21 → v21 ≤ 255 → 0 ≤ v22 → v22 ≤ 7 → mz_nl o23 → mz_nl o24 → (0 ≤ v20 ∧ v20 < (g 140 0)) → (0 < v21 ∧ v21 ≤ mz_A (g 140 0)) → (mz_bit v21 v20 = 1) → (mz_pc v21 = v22 + 1) → (∃ fk : Nat, (7 - v22).toNat < fk ∧ zf_E (zF_X12_row a1 g) (zL_X12_row_118 a1 g5 fk v20 v21 v22)) → mm_W d mmX12_row 118 [some (.ref 137), some (.int (Int32.ofInt a1)), some (.int (Int32.ofInt v20)), some (.int (Int32.ofInt v9)), some (.int (Int32.ofInt v21)), some (.int (Int32.ofInt v22)), o23, o24] [] (mz_mk g5 x) Q := by
              intro n27
              induction n27 using Nat.strongRecOn with
              | ind n27 ih26 =>
              intro v20 v21 v22 o23 o24 hmn27 l_v20 u_v20 l_v21 u_v21 l_v22 u_v22 h_o23 h_o24 hv29 hv30 hv31 hv32 hF
              obtain ⟨fk, fl, hE⟩ := hF
              obtain ⟨fj33, rfl⟩ : ∃ fj, fk = fj + 1 := ⟨fk - 1, by omega⟩
              have fn34 : n27 ≤ fj33 := by omega
              replace hE := zf_tr hE zL_X12_row_118_s
              refine mm_g 2 (pc1 := 121) (lo1 := [some (.ref 137), some (.int (Int32.ofInt a1)), some (.int (Int32.ofInt v20)), some (.int (Int32.ofInt v9)), some (.int (Int32.ofInt v21)), some (.int (Int32.ofInt v22)), o23, o24]) (st1 := [.int (Int32.ofInt a1), .int (Int32.ofInt v22)]) (H1 := mz_mk g5 x) rfl ?_
              refine mz_ic_ge (tgt := 211) rfl rfl (mz_rg l_v22 u_v22) (mz_rg l_a1 u_a1) (fun c121_34 => ?_) (fun c121_34 => ?_)
              · skip
                replace hE := zf_nl hE c121_34
                refine mm_g 1 (pc1 := 212) (lo1 := [some (.ref 137), some (.int (Int32.ofInt a1)), some (.int (Int32.ofInt v20)), some (.int (Int32.ofInt v9)), some (.int (Int32.ofInt v21)), some (.int (Int32.ofInt v22)), o23, o24]) (st1 := [.int (Int32.ofInt v20)]) (H1 := mz_mk g5 x) rfl ?_
                exact mm_rt rfl rfl (hQ _ _ hIg5 (fun k j hk => ((hfg5 k j (fun h => hk (Or.inr h))).trans (hug1.2 k j (fun h => hk (Or.inl h))))) (by omega) (by omega) (by have h9 := (show g5 137 30 = (g 137 30) from ((hfg5 137 30 (fun h => (absurd (show 137 = 163 from h) (by decide)))).trans ((hug1.2 137 30 (fun h => absurd h.2 (by decide))).trans rfl))); omega) hE)
              · skip
                replace hE := zf_ip hE c121_34
                refine mm_g 3 (pc1 := 128) (lo1 := [some (.ref 137), some (.int (Int32.ofInt a1)), some (.int (Int32.ofInt v20)), some (.int (Int32.ofInt v9)), some (.int (Int32.ofInt v21)), some (.int (Int32.ofInt v22)), some (.int (Int32.ofInt (-1))), o24]) (st1 := [.ref 137]) (H1 := mz_mk g5 x) rfl ?_
                refine mz_fgR (v := 140) rfl fd_12_36 (by decide) (sc_137 _) (rf_137_3 _ _ _) ?_
                refine mm_g 1 (pc1 := 132) (lo1 := [some (.ref 137), some (.int (Int32.ofInt a1)), some (.int (Int32.ofInt v20)), some (.int (Int32.ofInt v9)), some (.int (Int32.ofInt v21)), some (.int (Int32.ofInt v22)), some (.int (Int32.ofInt (-1))), o24]) (st1 := [.int (Int32.ofInt 0), .ref 140]) (H1 := mz_mk g5 x) rfl ?_
                refine mz_ia (v := (g 140 0)) rfl (sh_140 _) (by decide) (by decide) (by decide) (show g5 140 0 = (g 140 0) from ((hfg5 140 0 (fun h => (absurd (show 140 = 163 from h) (by decide)))).trans ((hug1.2 140 0 (fun h => absurd h.1 (by decide))).trans rfl))) ?_
                replace hE := zf_tr hE (zf_le (show g5 140 0 = (g 140 0) from ((hfg5 140 0 (fun h => (absurd (show 140 = 163 from h) (by decide)))).trans ((hug1.2 140 0 (fun h => absurd h.1 (by decide))).trans rfl))))
                refine mm_g 1 (pc1 := 134) (lo1 := [some (.ref 137), some (.int (Int32.ofInt a1)), some (.int (Int32.ofInt v20)), some (.int (Int32.ofInt v9)), some (.int (Int32.ofInt v21)), some (.int (Int32.ofInt v22)), some (.int (Int32.ofInt (-1))), o24]) (st1 := [.int (Int32.ofInt 1), .int (Int32.ofInt (g 140 0))]) (H1 := mz_mk g5 x) rfl ?_
                refine mz_isub rfl ?_
                refine mm_g 1 (pc1 := 137) (lo1 := [some (.ref 137), some (.int (Int32.ofInt a1)), some (.int (Int32.ofInt v20)), some (.int (Int32.ofInt v9)), some (.int (Int32.ofInt v21)), some (.int (Int32.ofInt v22)), some (.int (Int32.ofInt (-1))), some (.int (Int32.ofInt ((g 140 0) - 1)))]) (st1 := []) (H1 := mz_mk g5 x) rfl ?_
                have hO40 := hE
                have L41 : ∀ n39 : Nat, ∀ (v35 : Int) (v36 : Int), (v36 - (-1)).toNat = n39 → (-1) ≤ v35 → v35 ≤ 7 → (-1) ≤ v36 → v36 ≤ 7 → (mz_NI (fun _ _ => True) (mz_pu (g 141) (g 142)) g5 (g 140 0) v20 v21 v35 v36) → (v36 + 1 ≤ (g 140 0)) → (∃ fk : Nat, (v36 - (-1)).toNat < fk ∧ zf_E (zL_X12_row_137 a1 g5 3000000000 v20 v21 v22 (-1) ((g 140 0) - 1)) (zL_X12_row_137 a1 g5 fk v20 v21 v22 v35 v36)) → mm_W d mmX12_row 137 [some (.ref 137), some (.int (Int32.ofInt a1)), some (.int (Int32.ofInt v20)), some (.int (Int32.ofInt v9)), some (.int (Int32.ofInt v21)), some (.int (Int32.ofInt v22)), some (.int (Int32.ofInt v35)), some (.int (Int32.ofInt v36))] [] (mz_mk g5 x) Q := by
                  intro n39
                  induction n39 using Nat.strongRecOn with
                  | ind n39 ih38 =>
                  intro v35 v36 hmn39 l_v35 u_v35 l_v36 u_v36 hv42 hv43 hF
                  obtain ⟨fk, fl, hE⟩ := hF
                  obtain ⟨fj44, rfl⟩ : ∃ fj, fk = fj + 1 := ⟨fk - 1, by omega⟩
                  have fn45 : n39 ≤ fj44 := by omega
                  replace hE := zf_tr hE zL_X12_row_137_s
                  refine mm_g 1 (pc1 := 139) (lo1 := [some (.ref 137), some (.int (Int32.ofInt a1)), some (.int (Int32.ofInt v20)), some (.int (Int32.ofInt v9)), some (.int (Int32.ofInt v21)), some (.int (Int32.ofInt v22)), some (.int (Int32.ofInt v35)), some (.int (Int32.ofInt v36))]) (st1 := [.int (Int32.ofInt v36)]) (H1 := mz_mk g5 x) rfl ?_
                  refine mz_if_lt (tgt := 193) rfl rfl (mz_rg l_v36 u_v36) (fun c139_45 => ?_) (fun c139_45 => ?_)
                  · skip
                    replace hE := zf_ip hE c139_45
                    replace hE := zf_t1 hO40 hE
                    obtain ⟨n0_v35, n1_v35, nc_v35⟩ := mz_NI_end (b := true) hv42 (by omega) rt7 (by omega) (by omega) (by omega) (by omega) hv31 (by have hp := mz_pcA (T := (g 140 0)) (by omega) (by omega); show v21 < mz_A (g 140 0); rcases (by omega : v21 < mz_A (g 140 0) ∨ v21 = mz_A (g 140 0)) with z | z; exact z; rw [← z] at hp; omega)
                    have n2_v35 : v35 ≤ 7 := by omega
                    refine mm_g 3 (pc1 := 198) (lo1 := [some (.ref 137), some (.int (Int32.ofInt a1)), some (.int (Int32.ofInt v20)), some (.int (Int32.ofInt v9)), some (.int (Int32.ofInt v21)), some (.int (Int32.ofInt v22)), some (.int (Int32.ofInt v35)), some (.int (Int32.ofInt v36))]) (st1 := [.int (Int32.ofInt v35), .int (Int32.ofInt 1), .int (Int32.ofInt v21)]) (H1 := mz_mk g5 x) rfl ?_
                    refine mz_ishl rfl (fun v46 e_v46 hwv46 => ?_)
                    have b_v46 : 1 ≤ v46 ∧ v46 ≤ 128 := by rw [e_v46]; exact mz_shl_b (lx := 1) (hx := 1) (k := 7) (by decide) (by decide) (by omega) (by omega) (by omega) (by omega)
                    have l_v46 := b_v46.1
                    have u_v46 := b_v46.2
                    replace hE := zf_tr hE (zf_le e_v46.symm)
                    refine mz_ior rfl (fun v47 e_v47 hwv47 => ?_)
                    have b_v47 : 0 ≤ v47 ∧ v47 ≤ 255 := by rw [e_v47]; exact mz_or_lt (n := 8) (by decide) (by omega) (by omega) (by omega) (by omega)
                    have l_v47 := b_v47.1
                    have u_v47 := b_v47.2
                    replace hE := zf_tr hE (zf_le e_v47.symm)
                    have wn_v47 := mz_nxA (T := (g 140 0)) (h := v21) (v := v35) (by omega) (by omega) (by omega) (by omega) (by omega) (by omega) nc_v35.1
                    unfold mz_nx at wn_v47
                    rw [← e_v46, ← e_v47] at wn_v47
                    have wn1_v47 := wn_v47.1
                    have wn2_v47 := wn_v47.2.1
                    refine mm_g 3 (pc1 := 205) (lo1 := [some (.ref 137), some (.int (Int32.ofInt a1)), some (.int (Int32.ofInt v35)), some (.int (Int32.ofInt v9)), some (.int (Int32.ofInt v47)), some (.int (Int32.ofInt v22)), some (.int (Int32.ofInt v35)), some (.int (Int32.ofInt v36))]) (st1 := []) (H1 := mz_mk g5 x) rfl ?_
                    refine mz_iincR (v := v22) (lo2 := [some (.ref 137), some (.int (Int32.ofInt a1)), some (.int (Int32.ofInt v35)), some (.int (Int32.ofInt v9)), some (.int (Int32.ofInt v47)), some (.int (Int32.ofInt (v22 + 1))), some (.int (Int32.ofInt v35)), some (.int (Int32.ofInt v36))]) rfl rfl rfl (Nat.le_of_ble_eq_true rfl) rfl ?_
                    refine mz_gt (tgt := 118) rfl rfl ?_
                    exact ih26 ((7 - (v22 + 1)).toNat) (by omega) v35 v47 (v22 + 1) (some (.int (Int32.ofInt v35))) (some (.int (Int32.ofInt v36))) rfl (by omega) (by omega) (by omega) (by omega) (by omega) (by omega) (mz_nl_i _) (mz_nl_i _) (by omega) (by omega) wn_v47.2.2.1 (by have h9 := wn_v47.2.2.2; omega) ⟨fj33, Nat.lt_of_lt_of_le (show ((7 - (v22 + 1)).toNat) < n27 from (by omega)) fn34, hE⟩
                  · skip
                    replace hE := zf_nl hE c139_45
                    refine mm_g 2 (pc1 := 146) (lo1 := [some (.ref 137), some (.int (Int32.ofInt a1)), some (.int (Int32.ofInt v20)), some (.int (Int32.ofInt v9)), some (.int (Int32.ofInt v21)), some (.int (Int32.ofInt v22)), some (.int (Int32.ofInt v35)), some (.int (Int32.ofInt v36))]) (st1 := [.int (Int32.ofInt v36), .int (Int32.ofInt v21)]) (H1 := mz_mk g5 x) rfl ?_
                    refine mz_cs rfl mt_12_450 (by decide) rfl (Nat.le_of_ble_eq_true rfl) (by omega) (f_X12_isOf (by omega) hx hIg5 (by omega) (by omega) (by omega) (by omega) (fun v48 l_v48 u_v48 hp49 hc50 => ⟨_, rfl, ?_⟩))
                    show mm_W d mmX12_row 149 [some (.ref 137), some (.int (Int32.ofInt a1)), some (.int (Int32.ofInt v20)), some (.int (Int32.ofInt v9)), some (.int (Int32.ofInt v21)), some (.int (Int32.ofInt v22)), some (.int (Int32.ofInt v35)), some (.int (Int32.ofInt v36))] [.int (Int32.ofInt v48)] (mz_mk g5 x) Q
                    replace hE := zf_t1 hE hc50
                    refine mz_if_ne (tgt := 187) rfl rfl (mz_rg l_v48 u_v48) (fun c149_50 => ?_) (fun c149_50 => ?_)
                    · skip
                      replace hE := zf_in hE c149_50
                      refine mz_iincR (v := v36) (lo2 := [some (.ref 137), some (.int (Int32.ofInt a1)), some (.int (Int32.ofInt v20)), some (.int (Int32.ofInt v9)), some (.int (Int32.ofInt v21)), some (.int (Int32.ofInt v22)), some (.int (Int32.ofInt v35)), some (.int (Int32.ofInt (v36 + (-1))))]) rfl rfl rfl (Nat.le_of_ble_eq_true rfl) rfl ?_
                      refine mz_gt (tgt := 137) rfl rfl ?_
                      exact ih38 (((v36 + (-1)) - (-1)).toNat) (by omega) v35 (v36 + (-1)) rfl (by omega) (by omega) (by omega) (by omega) (mz_NI_skip hv42 (fun z => by have h9 := z.1; rw [← hp49 (by omega) (by omega) (by omega)] at h9; omega)) (by omega) ⟨fj44, Nat.lt_of_lt_of_le (show (((v36 + (-1)) - (-1)).toNat) < n39 from (by omega)) fn45, hE⟩
                    · skip
                      replace hE := zf_ip hE c149_50
                      refine mm_g 3 (pc1 := 156) (lo1 := [some (.ref 137), some (.int (Int32.ofInt a1)), some (.int (Int32.ofInt v20)), some (.int (Int32.ofInt v9)), some (.int (Int32.ofInt v21)), some (.int (Int32.ofInt v22)), some (.int (Int32.ofInt v35)), some (.int (Int32.ofInt v36))]) (st1 := [.int (Int32.ofInt v36), .int (Int32.ofInt v20), .ref 137]) (H1 := mz_mk g5 x) rfl ?_
                      refine mz_cv rfl mt_12_453 (by decide) (sc_137 _) rfl (Nat.le_of_ble_eq_true rfl) (by omega) (f_X12_pushed (by omega) hx hIg5 l_v20 u_v20 (by omega) (by omega) (fun v51 l_v51 u_v51 hp52 hp53 hc54 => ⟨_, rfl, ?_⟩))
                      show mm_W d mmX12_row 159 [some (.ref 137), some (.int (Int32.ofInt a1)), some (.int (Int32.ofInt v20)), some (.int (Int32.ofInt v9)), some (.int (Int32.ofInt v21)), some (.int (Int32.ofInt v22)), some (.int (Int32.ofInt v35)), some (.int (Int32.ofInt v36))] [.int (Int32.ofInt v51)] (mz_mk g5 x) Q
                      replace hE := zf_t1 hE hc54
                      have pu54 := hp52
                      rw [show g5 141 = g 141 from funext (fun j => ((hfg5 141 j (fun h => (absurd (show 141 = 163 from h) (by decide)))).trans (hug1.2 141 j (fun h => absurd h.1 (by decide))))), show g5 142 = g 142 from funext (fun j => ((hfg5 142 j (fun h => (absurd (show 142 = 163 from h) (by decide)))).trans (hug1.2 142 j (fun h => absurd h.1 (by decide)))))] at pu54
                      refine mm_g 3 (pc1 := 164) (lo1 := [some (.ref 137), some (.int (Int32.ofInt a1)), some (.int (Int32.ofInt v20)), some (.int (Int32.ofInt v9)), some (.int (Int32.ofInt v21)), some (.int (Int32.ofInt v22)), some (.int (Int32.ofInt v35)), some (.int (Int32.ofInt v36))]) (st1 := [.int (Int32.ofInt v21), .int (Int32.ofInt v36), .ref 137, .int (Int32.ofInt v51)]) (H1 := mz_mk g5 x) rfl ?_
                      refine mz_cv rfl mt_12_456 (by decide) (sc_137 _) rfl (Nat.le_of_ble_eq_true rfl) (by omega) (f_X12_madeOn (by omega) hx hIg5 (by omega) (by omega) (by omega) (by omega) (fun v55 l_v55 u_v55 hp56 hc57 => ⟨_, rfl, ?_⟩))
                      show mm_W d mmX12_row 167 [some (.ref 137), some (.int (Int32.ofInt a1)), some (.int (Int32.ofInt v20)), some (.int (Int32.ofInt v9)), some (.int (Int32.ofInt v21)), some (.int (Int32.ofInt v22)), some (.int (Int32.ofInt v35)), some (.int (Int32.ofInt v36))] [.int (Int32.ofInt v55), .int (Int32.ofInt v51)] (mz_mk g5 x) Q
                      replace hE := zf_t1 hE hc57
                      have mb57 := mz_ET_made (v := v36) (mz_ET_ge (h := v21) rt7 (by omega)) (by omega) (by omega) (by omega) (by omega) (by omega) (by omega) (by rw [← hp49 (by omega) (by omega) (by omega)]; omega)
                      simp only [mz_cf] at mb57
                      rw [← hp56] at mb57
                      refine mz_iadd rfl ?_
                      refine mm_g 1 (pc1 := 169) (lo1 := [some (.ref 137), some (.int (Int32.ofInt a1)), some (.int (Int32.ofInt v20)), some (.int (Int32.ofInt v9)), some (.int (Int32.ofInt v21)), some (.int (Int32.ofInt v22)), some (.int (Int32.ofInt v35)), some (.int (Int32.ofInt v36))]) (st1 := [.ref 137, .int (Int32.ofInt (v51 + v55))]) (H1 := mz_mk g5 x) rfl ?_
                      refine mz_fgR (v := 163) rfl fd_12_106 (by decide) (sc_137 _) (rf_137_41 _ _ _) ?_
                      refine mm_g 1 (pc1 := 173) (lo1 := [some (.ref 137), some (.int (Int32.ofInt a1)), some (.int (Int32.ofInt v20)), some (.int (Int32.ofInt v9)), some (.int (Int32.ofInt v21)), some (.int (Int32.ofInt v22)), some (.int (Int32.ofInt v35)), some (.int (Int32.ofInt v36))]) (st1 := [.int (Int32.ofInt v20), .ref 163, .int (Int32.ofInt (v51 + v55))]) (H1 := mz_mk g5 x) rfl ?_
                      refine mz_bip rfl bip_8 ?_
                      refine mz_ishl rfl (fun v58 e_v58 hwv58 => ?_)
                      have b_v58 : 0 ≤ v58 ∧ v58 ≤ 1792 := by rw [e_v58]; exact mz_shl_b (lx := 0) (hx := 7) (k := 8) (by decide) (by decide) (by omega) (by omega) (by omega) (by omega)
                      have l_v58 := b_v58.1
                      have u_v58 := b_v58.2
                      replace hE := zf_tr hE (zf_le e_v58.symm)
                      refine mm_g 1 (pc1 := 178) (lo1 := [some (.ref 137), some (.int (Int32.ofInt a1)), some (.int (Int32.ofInt v20)), some (.int (Int32.ofInt v9)), some (.int (Int32.ofInt v21)), some (.int (Int32.ofInt v22)), some (.int (Int32.ofInt v35)), some (.int (Int32.ofInt v36))]) (st1 := [.int (Int32.ofInt v21), .int (Int32.ofInt v58), .ref 163, .int (Int32.ofInt (v51 + v55))]) (H1 := mz_mk g5 x) rfl ?_
                      refine mz_iadd rfl ?_
                      refine mz_aI rfl (sh_163 _) (by omega) (by omega) (by decide) hIg5 (ba_163 _) (fun v59 e_v59 l_v59 u_v59 => ?_)
                      replace hE := zf_tr hE (zf_le e_v59)
                      have goe59 := mz_go_at (g := g5) (h := v21) e_v58 (by omega) (by omega) e_v59
                      refine mz_ic_ne (tgt := 187) rfl rfl ⟨by omega, by omega⟩ (mz_rg l_v59 u_v59) (fun c180_59 => ?_) (fun c180_59 => ?_)
                      · skip
                        replace hE := zf_in hE c180_59
                        refine mz_iincR (v := v36) (lo2 := [some (.ref 137), some (.int (Int32.ofInt a1)), some (.int (Int32.ofInt v20)), some (.int (Int32.ofInt v9)), some (.int (Int32.ofInt v21)), some (.int (Int32.ofInt v22)), some (.int (Int32.ofInt v35)), some (.int (Int32.ofInt (v36 + (-1))))]) rfl rfl rfl (Nat.le_of_ble_eq_true rfl) rfl ?_
                        refine mz_gt (tgt := 137) rfl rfl ?_
                        exact ih38 (((v36 + (-1)) - (-1)).toNat) (by omega) v35 (v36 + (-1)) rfl (by omega) (by omega) (by omega) (by omega) (mz_NI_skip hv42 (fun z => by have h9 : mz_pu (g 141) (g 142) v20 v36 + mz_go g5 v36 (mz_nx v21 v36) = mz_go g5 v20 v21 := z.2.2; rw [← pu54, ← hp56, goe59] at h9; omega)) (by omega) ⟨fj44, Nat.lt_of_lt_of_le (show (((v36 + (-1)) - (-1)).toNat) < n39 from (by omega)) fn45, hE⟩
                      · skip
                        replace hE := zf_ip hE c180_59
                        refine mm_g 2 (pc1 := 187) (lo1 := [some (.ref 137), some (.int (Int32.ofInt a1)), some (.int (Int32.ofInt v20)), some (.int (Int32.ofInt v9)), some (.int (Int32.ofInt v21)), some (.int (Int32.ofInt v22)), some (.int (Int32.ofInt v36)), some (.int (Int32.ofInt v36))]) (st1 := []) (H1 := mz_mk g5 x) rfl ?_
                        refine mz_iincR (v := v36) (lo2 := [some (.ref 137), some (.int (Int32.ofInt a1)), some (.int (Int32.ofInt v20)), some (.int (Int32.ofInt v9)), some (.int (Int32.ofInt v21)), some (.int (Int32.ofInt v22)), some (.int (Int32.ofInt v36)), some (.int (Int32.ofInt (v36 + (-1))))]) rfl rfl rfl (Nat.le_of_ble_eq_true rfl) rfl ?_
                        refine mz_gt (tgt := 137) rfl rfl ?_
                        exact ih38 (((v36 + (-1)) - (-1)).toNat) (by omega) v36 (v36 + (-1)) rfl (by omega) (by omega) (by omega) (by omega) (mz_NI_take (by omega) (by omega) ⟨(by rw [← hp49 (by omega) (by omega) (by omega)]; omega), trivial, (show mz_pu (g 141) (g 142) v20 v36 + mz_go g5 v36 (mz_nx v21 v36) = mz_go g5 v20 v21 by rw [← pu54, ← hp56, goe59]; omega)⟩) (by omega) ⟨fj44, Nat.lt_of_lt_of_le (show (((v36 + (-1)) - (-1)).toNat) < n39 from (by omega)) fn45, hE⟩
                exact L41 _ (-1) ((g 140 0) - 1) rfl (by decide) (by decide) (by omega) (by omega) (mz_NI_0 (by omega)) (by omega) ⟨3000000000, by omega, zf_rf⟩
            exact L28 _ v8 v19 0 none none rfl (by omega) (by omega) (by omega) (by omega) (by decide) (by decide) mz_nl_n mz_nl_n (by omega) (by omega) wf.2.2.1 (by have h9 := wf.2.2.2.1; omega) ⟨3000000000, by omega, hE⟩
          · skip
            replace hE := zf_ip hE c105_18
            refine mm_g 1 (pc1 := 109) (lo1 := [some (.ref 137), some (.int (Int32.ofInt a1)), some (.int (Int32.ofInt v8)), some (.int (Int32.ofInt v9)), some (.int (Int32.ofInt v10)), o11, none, none]) (st1 := [.int (Int32.ofInt v9)]) (H1 := mz_mk g5 x) rfl ?_
            exact mm_rt rfl rfl (hQ _ _ hIg5 (fun k j hk => ((hfg5 k j (fun h => hk (Or.inr h))).trans (hug1.2 k j (fun h => hk (Or.inl h))))) (by omega) (by omega) (by have h9 := (show g5 137 30 = (g 137 30) from ((hfg5 137 30 (fun h => (absurd (show 137 = 163 from h) (by decide)))).trans ((hug1.2 137 30 (fun h => absurd h.2 (by decide))).trans rfl))); omega) hE)
        · skip
          replace hE := zf_ip hE c62_18
          refine mm_g 1 (pc1 := 66) (lo1 := [some (.ref 137), some (.int (Int32.ofInt a1)), some (.int (Int32.ofInt v8)), some (.int (Int32.ofInt v9)), some (.int (Int32.ofInt v10)), o11, none, none]) (st1 := [.ref 137]) (H1 := mz_mk g5 x) rfl ?_
          refine mz_fgR (v := 142) rfl fd_12_43 (by decide) (sc_137 _) (rf_137_5 _ _ _) ?_
          refine mm_g 1 (pc1 := 71) (lo1 := [some (.ref 137), some (.int (Int32.ofInt a1)), some (.int (Int32.ofInt v8)), some (.int (Int32.ofInt v9)), some (.int (Int32.ofInt v10)), o11, none, none]) (st1 := [.int (Int32.ofInt v10), .ref 142]) (H1 := mz_mk g5 x) rfl ?_
          refine mz_aI rfl (sh_142 _) (by omega) (by omega) (by decide) hIg5 (ba_142 _) (fun v60 e_v60 l_v60 u_v60 => ?_)
          replace hE := zf_tr hE (zf_le e_v60)
          refine mm_g 3 (pc1 := 76) (lo1 := [some (.ref 137), some (.int (Int32.ofInt a1)), some (.int (Int32.ofInt v8)), some (.int (Int32.ofInt v9)), some (.int (Int32.ofInt v10)), o11, none, none]) (st1 := [.int (Int32.ofInt 0), .int (Int32.ofInt v10), .ref 137, .int (Int32.ofInt v60)]) (H1 := mz_mk g5 x) rfl ?_
          refine mz_cv rfl mt_12_456 (by decide) (sc_137 _) rfl (Nat.le_of_ble_eq_true rfl) (by omega) (f_X12_madeOn (by omega) hx hIg5 (by omega) (by omega) (by decide) (by decide) (fun v61 l_v61 u_v61 hp62 hc63 => ⟨_, rfl, ?_⟩))
          show mm_W d mmX12_row 79 [some (.ref 137), some (.int (Int32.ofInt a1)), some (.int (Int32.ofInt v8)), some (.int (Int32.ofInt v9)), some (.int (Int32.ofInt v10)), o11, none, none] [.int (Int32.ofInt v61), .int (Int32.ofInt v60)] (mz_mk g5 x) Q
          replace hE := zf_t1 hE hc63
          have mb63 := mz_ET_made (v := v10) rt7 (by omega) (by omega) (by omega) (by omega) (by omega) (by omega) (mz_bit0 (by omega) (by omega))
          simp only [mz_cf] at mb63
          rw [← hp62] at mb63
          refine mz_iadd rfl ?_
          refine mm_g 3 (pc1 := 85) (lo1 := [some (.ref 137), some (.int (Int32.ofInt a1)), some (.int (Int32.ofInt v8)), some (.int (Int32.ofInt v9)), some (.int (Int32.ofInt v10)), some (.int (Int32.ofInt (v60 + v61))), none, none]) (st1 := [.int (Int32.ofInt v9), .int (Int32.ofInt (v60 + v61))]) (H1 := mz_mk g5 x) rfl ?_
          refine mz_ic_lt (tgt := 91) rfl rfl ⟨by omega, by omega⟩ (mz_rg l_v9 u_v9) (fun c85_63 => ?_) (fun c85_63 => ?_)
          · skip
            replace hE := zf_ip hE c85_63
            refine mm_g 4 (pc1 := 97) (lo1 := [some (.ref 137), some (.int (Int32.ofInt a1)), some (.int (Int32.ofInt v10)), some (.int (Int32.ofInt (v60 + v61))), some (.int (Int32.ofInt v10)), some (.int (Int32.ofInt (v60 + v61))), none, none]) (st1 := []) (H1 := mz_mk g5 x) rfl ?_
            refine mz_iincR (v := v10) (lo2 := [some (.ref 137), some (.int (Int32.ofInt a1)), some (.int (Int32.ofInt v10)), some (.int (Int32.ofInt (v60 + v61))), some (.int (Int32.ofInt (v10 + 1))), some (.int (Int32.ofInt (v60 + v61))), none, none]) rfl rfl rfl (Nat.le_of_ble_eq_true rfl) rfl ?_
            refine mz_gt (tgt := 54) rfl rfl ?_
            exact ih13 ((8 - (v10 + 1)).toNat) (by omega) v10 (v60 + v61) (v10 + 1) (some (.int (Int32.ofInt (v60 + v61)))) rfl (by omega) (by omega) (by omega) (by omega) (by omega) (by omega) (mz_nl_i _) (by omega) ⟨fj17, Nat.lt_of_lt_of_le (show ((8 - (v10 + 1)).toNat) < n14 from (by omega)) fn18, hE⟩
          · skip
            replace hE := zf_nl hE c85_63
            refine mz_gt (tgt := 97) rfl rfl ?_
            refine mz_iincR (v := v10) (lo2 := [some (.ref 137), some (.int (Int32.ofInt a1)), some (.int (Int32.ofInt v8)), some (.int (Int32.ofInt v9)), some (.int (Int32.ofInt (v10 + 1))), some (.int (Int32.ofInt (v60 + v61))), none, none]) rfl rfl rfl (Nat.le_of_ble_eq_true rfl) rfl ?_
            refine mz_gt (tgt := 54) rfl rfl ?_
            exact ih13 ((8 - (v10 + 1)).toNat) (by omega) v8 v9 (v10 + 1) (some (.int (Int32.ofInt (v60 + v61)))) rfl (by omega) (by omega) (by omega) (by omega) (by omega) (by omega) (mz_nl_i _) (by omega) ⟨fj17, Nat.lt_of_lt_of_le (show ((8 - (v10 + 1)).toNat) < n14 from (by omega)) fn18, hE⟩
      exact L15 _ (-1) 100000 0 none rfl (by decide) (by decide) (by decide) (by decide) (by decide) (by decide) mz_nl_n (by omega) ⟨3000000000, by omega, hE⟩
    · skip
      replace hE := zf_ip hE c37_4
      refine mm_g 1 (pc1 := 41) (lo1 := [some (.ref 137), some (.int (Int32.ofInt a1)), none, none, none, none, none, none]) (st1 := [.int (Int32.ofInt 0)]) (H1 := mz_mk g1 x) rfl ?_
      exact mm_rt rfl rfl (hQ _ _ hIg1 (fun k j hk => (hug1.2 k j (fun h => hk (Or.inl h)))) (by decide) (by decide) (by have h9 := (show g1 137 30 = (g 137 30) from ((hug1.2 137 30 (fun h => absurd h.2 (by decide))).trans rfl)); omega) hE)
  · skip
    replace hE := zf_ip hE c22_4
    refine mm_g 2 (pc1 := 27) (lo1 := [some (.ref 137), some (.int (Int32.ofInt a1)), none, none, none, none, none, none]) (st1 := [.int (Int32.ofInt 1), .ref 137]) (H1 := mz_mk g1 x) rfl ?_
    refine mz_cv rfl mt_12_294 (by decide) (sc_137 _) rfl (Nat.le_of_ble_eq_true rfl) (by omega) (f_X12_fail (by omega) hx hIg1 (by decide) (by decide) (fun v64 g65 hIg65 hfg65 l_v64 u_v64 hc66 => ⟨_, rfl, ?_⟩))
    show mm_W d mmX12_row 30 [some (.ref 137), some (.int (Int32.ofInt a1)), none, none, none, none, none, none] [.int (Int32.ofInt v64)] (mz_mk g65 x) Q
    replace hE := zf_t2 hE hc66
    exact mm_rt rfl rfl (hQ _ _ hIg65 (fun k j hk => ((hfg65 k j (fun h => hk (Or.inl h))).trans (hug1.2 k j (fun h => hk (Or.inl h))))) (by omega) (by omega) (by have h9 := (show g65 137 30 = (g 137 30) from ((hfg65 137 30 (fun h => (absurd (show (137 = 137 ∧ 30 = 2) from h) (by decide)))).trans ((hug1.2 137 30 (fun h => absurd h.2 (by decide))).trans rfl))); omega) hE)
