/-! THE ROW, THE CHAIN: what the table behind tells -/
theorem mz_bit_k : ∀ h : Fin 256, ∀ v : Fin 8, mz_bit (h.val : Int) (v.val : Int) = ((h.val / 2 ^ v.val % 2 : Nat) : Int) := by decide +kernel
theorem mz_nx_k : ∀ h : Fin 256, ∀ v : Fin 8, h.val / 2 ^ v.val % 2 = 0 → mz_nx (h.val : Int) (v.val : Int) = ((h.val + 2 ^ v.val : Nat) : Int) := by decide +kernel
theorem mz_up_k : ∀ T : Fin 9, ∀ h : Fin 256, ∀ v : Fin 8, v.val < T.val → h.val ≤ 2 ^ T.val - 1 → h.val / 2 ^ v.val % 2 = 0 → h.val + 2 ^ v.val ≤ 2 ^ T.val - 1 ∧ (h.val + 2 ^ v.val) / 2 ^ v.val % 2 = 1 := by decide +kernel
theorem mz_free_k : ∀ T : Fin 9, ∀ h : Fin 256, h.val < 2 ^ T.val - 1 → ∃ v : Fin 8, v.val < T.val ∧ h.val / 2 ^ v.val % 2 = 0 := by decide +kernel
theorem mz_full_k : ∀ T : Fin 9, ∀ v : Fin 8, v.val < T.val → (2 ^ T.val - 1) / 2 ^ v.val % 2 = 1 := by decide +kernel
def mz_pcN (h : Nat) : Nat := h % 2 + h / 2 % 2 + h / 4 % 2 + h / 8 % 2 + h / 16 % 2 + h / 32 % 2 + h / 64 % 2 + h / 128 % 2
theorem mz_pc_k : ∀ h : Fin 256, ∀ v : Fin 8, h.val / 2 ^ v.val % 2 = 0 → mz_pcN (h.val + 2 ^ v.val) = mz_pcN h.val + 1 := by decide +kernel
theorem mz_pcA_k : ∀ T : Fin 9, mz_pcN (2 ^ T.val - 1) = T.val := by decide +kernel
def mz_A (T : Int) : Int := mz_shlI 1 T - 1
def mz_pc (h : Int) : Int := (mz_pcN h.toNat : Int)
theorem mz_A_k : ∀ T : Fin 9, mz_A (T.val : Int) = ((2 ^ T.val - 1 : Nat) : Int) := by decide +kernel
theorem mz_p2_k : ∀ T : Fin 9, 2 ^ T.val - 1 ≤ 255 ∧ (1 ≤ T.val → 1 ≤ 2 ^ T.val - 1) := by decide +kernel
section BITS
variable {T h v : Int}
theorem mz_Ae (h0 : 0 ≤ T) (h1 : T ≤ 8) : mz_A T = ((2 ^ T.toNat - 1 : Nat) : Int) := by
  have := mz_A_k ⟨T.toNat, by omega⟩
  dsimp only at this
  rw [show ((T.toNat : Nat) : Int) = T by omega] at this
  exact this
theorem mz_Ab (h0 : 0 ≤ T) (h1 : T ≤ 8) : 0 ≤ mz_A T ∧ mz_A T ≤ 255 ∧ (1 ≤ T → 1 ≤ mz_A T) := by
  have := mz_p2_k ⟨T.toNat, by omega⟩
  dsimp only at this
  rw [mz_Ae h0 h1]
  refine ⟨by omega, by omega, fun z => ?_⟩
  have := this.2 (by omega)
  omega
theorem mz_be (h0 : 0 ≤ h) (h1 : h ≤ 255) (v0 : 0 ≤ v) (v1 : v ≤ 7) : mz_bit h v = ((h.toNat / 2 ^ v.toNat % 2 : Nat) : Int) := by
  have := mz_bit_k ⟨h.toNat, by omega⟩ ⟨v.toNat, by omega⟩
  dsimp only at this
  rw [show ((h.toNat : Nat) : Int) = h by omega, show ((v.toNat : Nat) : Int) = v by omega] at this
  exact this
theorem mz_b01 (h0 : 0 ≤ h) (h1 : h ≤ 255) (v0 : 0 ≤ v) (v1 : v ≤ 7) : mz_bit h v = 0 ∨ mz_bit h v = 1 := by
  rw [mz_be h0 h1 v0 v1]
  omega
theorem mz_bit0 (v0 : 0 ≤ v) (v1 : v ≤ 7) : mz_bit 0 v = 0 := by
  rw [mz_be (by decide) (by decide) v0 v1]
  simp
theorem mz_nxe (h0 : 0 ≤ h) (h1 : h ≤ 255) (v0 : 0 ≤ v) (v1 : v ≤ 7) (hb : mz_bit h v = 0) : mz_nx h v = ((h.toNat + 2 ^ v.toNat : Nat) : Int) := by
  rw [mz_be h0 h1 v0 v1] at hb
  have := mz_nx_k ⟨h.toNat, by omega⟩ ⟨v.toNat, by omega⟩
  dsimp only at this
  rw [show ((h.toNat : Nat) : Int) = h by omega, show ((v.toNat : Nat) : Int) = v by omega] at this
  exact this (by omega)
theorem mz_nxA (T0 : 0 ≤ T) (T1 : T ≤ 8) (h0 : 0 ≤ h) (h1 : h ≤ mz_A T) (v0 : 0 ≤ v) (v1 : v < T) (hb : mz_bit h v = 0) : h < mz_nx h v ∧ mz_nx h v ≤ mz_A T ∧ mz_bit (mz_nx h v) v = 1 ∧ mz_pc (mz_nx h v) = mz_pc h + 1 := by
  have hA := mz_Ab T0 T1
  have e := mz_nxe h0 (by omega) v0 (by omega) hb
  have hb2 := hb
  rw [mz_be h0 (by omega) v0 (by omega)] at hb2
  have k := mz_up_k ⟨T.toNat, by omega⟩ ⟨h.toNat, by omega⟩ ⟨v.toNat, by omega⟩
  have p := mz_pc_k ⟨h.toNat, by omega⟩ ⟨v.toNat, by omega⟩
  dsimp only at k p
  have hAe := mz_Ae T0 T1
  obtain ⟨k1, k2⟩ := k (by omega) (by omega) (by omega)
  have p1 := p (by omega)
  have hp : 0 < 2 ^ v.toNat := Nat.pow_pos (by decide)
  have e2 : (mz_nx h v).toNat = h.toNat + 2 ^ v.toNat := by omega
  refine ⟨by omega, by omega, ?_, ?_⟩
  · rw [mz_be (by omega) (by omega) v0 (by omega), e2, k2]
    rfl
  · unfold mz_pc
    rw [e2, p1]
    omega
theorem mz_Afree (T0 : 0 ≤ T) (T1 : T ≤ 8) (h0 : 0 ≤ h) (h1 : h < mz_A T) : ∃ v, 0 ≤ v ∧ v < T ∧ mz_bit h v = 0 := by
  have hA := mz_Ab T0 T1
  have hAe := mz_Ae T0 T1
  have k := mz_free_k ⟨T.toNat, by omega⟩ ⟨h.toNat, by omega⟩
  dsimp only at k
  obtain ⟨v, v1, v2⟩ := k (by omega)
  refine ⟨(v.val : Int), by omega, by omega, ?_⟩
  rw [mz_be h0 (by omega) (by omega) (by omega), Int.toNat_natCast, v2]
  rfl
theorem mz_Afull (T0 : 0 ≤ T) (T1 : T ≤ 8) (v0 : 0 ≤ v) (v1 : v < T) : mz_bit (mz_A T) v = 1 := by
  have hA := mz_Ab T0 T1
  have hAe := mz_Ae T0 T1
  have k := mz_full_k ⟨T.toNat, by omega⟩ ⟨v.toNat, by omega⟩
  dsimp only at k
  rw [mz_be (by omega) (by omega) v0 (by omega), show (mz_A T).toNat = 2 ^ T.toNat - 1 by omega, k (by omega)]
  rfl
theorem mz_pcA (T0 : 0 ≤ T) (T1 : T ≤ 8) : mz_pc (mz_A T) = T := by
  have hAe := mz_Ae T0 T1
  have k := mz_pcA_k ⟨T.toNat, by omega⟩
  dsimp only at k
  unfold mz_pc
  rw [show (mz_A T).toNat = 2 ^ T.toNat - 1 by omega, k]
  omega
theorem mz_first (T0 : 0 ≤ T) (T1 : T ≤ 8) (v0 : 0 ≤ v) (v1 : v < T) : 0 < mz_shlI 1 v ∧ mz_shlI 1 v ≤ mz_A T ∧ mz_bit (mz_shlI 1 v) v = 1 ∧ mz_pc (mz_shlI 1 v) = 1 ∧ mz_nx 0 v = mz_shlI 1 v := by
  have hA := mz_Ab T0 T1
  have e : mz_nx 0 v = mz_shlI 1 v := by
    rcases (by omega : v = 0 ∨ v = 1 ∨ v = 2 ∨ v = 3 ∨ v = 4 ∨ v = 5 ∨ v = 6 ∨ v = 7) with z | z | z | z | z | z | z | z <;> (rw [z]; decide)
  have k := mz_nxA T0 T1 (Int.le_refl 0) hA.1 v0 v1 (mz_bit0 v0 (by omega))
  rw [e] at k
  refine ⟨k.1, k.2.1, k.2.2.1, ?_, e⟩
  rw [k.2.2.2]
  decide
end BITS
/-- which of the two: true the row (the fewest), false the chain (the most) -/
def mz_cd (b : Bool) (T h l : Int) : Prop := match b with
  | true => h < mz_A T
  | false => 0 < l
def mz_cf (b : Bool) : Int := match b with
  | true => 8
  | false => 1
def mz_E (b : Bool) (S : Int → Int → Prop) (P : Int → Int → Int) (g : mz_G) (T h w : Int) : Prop := 0 ≤ mz_go g w h ∧ mz_go g w h ≤ mz_cf b * (mz_A T - h) ∧ (mz_cd b T h (mz_go g w h) → ∃ v, 0 ≤ v ∧ v < T ∧ mz_bit h v = 0 ∧ S w v ∧ mz_go g w h = P w v + mz_go g v (mz_nx h v))
def mz_ET (b : Bool) (S : Int → Int → Prop) (P : Int → Int → Int) (g : mz_G) (T lo : Int) : Prop := ∀ h w, lo < h → h ≤ mz_A T → 0 ≤ w → w < T → mz_bit h w = 1 → mz_E b S P g T h w
def mz_EM (b : Bool) (S : Int → Int → Prop) (P : Int → Int → Int) (g : mz_G) (T h w : Int) : Prop := ∀ u, 0 ≤ u → u < w → mz_bit h u = 1 → mz_E b S P g T h u
def mz_RI (P : Int → Int → Int) (g : mz_G) (T h w v l : Int) : Prop := 0 ≤ l ∧ (h = mz_A T → l = 0) ∧ (h < mz_A T → (l = 100000 ∧ ∀ u, 0 ≤ u → u < v → mz_bit h u = 1) ∨ (l ≤ 8 * (mz_A T - h) ∧ ∃ u, 0 ≤ u ∧ u < T ∧ mz_bit h u = 0 ∧ l = P w u + mz_go g u (mz_nx h u)))
def mz_CI (S : Int → Int → Prop) (g : mz_G) (T h w l : Int) : Prop := 0 ≤ l ∧ l ≤ mz_A T - h ∧ (0 < l → ∃ u, 0 ≤ u ∧ u < T ∧ mz_bit h u = 0 ∧ S w u ∧ l = 1 + mz_go g u (mz_nx h u))
section TAB
variable {b : Bool} {S : Int → Int → Prop} {P : Int → Int → Int} {g g1 : mz_G} {T h w v l i : Int}
theorem mz_ET_made (R : mz_ET b S P g T h) (T0 : 0 ≤ T) (T1 : T ≤ 8) (h0 : 0 ≤ h) (h1 : h ≤ mz_A T) (v0 : 0 ≤ v) (v1 : v < T) (hb : mz_bit h v = 0) : 0 ≤ mz_go g v (mz_nx h v) ∧ mz_go g v (mz_nx h v) ≤ mz_cf b * (mz_A T - h) - mz_cf b := by
  have k := mz_nxA T0 T1 h0 h1 v0 v1 hb
  have e := R (mz_nx h v) v k.1 k.2.1 v0 v1 k.2.2.1
  refine ⟨e.1, ?_⟩
  have e2 := e.2.1
  cases b
  · simp only [mz_cf] at e2 ⊢; omega
  · simp only [mz_cf] at e2 ⊢; omega
theorem mz_RI_0a (e : h = mz_A T) : mz_RI P g T h w 0 0 := ⟨by omega, fun _ => rfl, fun z => absurd z (by omega)⟩
theorem mz_RI_0b (e : h ≠ mz_A T) : mz_RI P g T h w 0 100000 := ⟨by decide, fun z => absurd z e, fun _ => Or.inl ⟨rfl, fun u h0 h1 => absurd h0 (by omega)⟩⟩
theorem mz_RI_skip (I : mz_RI P g T h w v l) (hb : mz_bit h v = 1) : mz_RI P g T h w (v + 1) l := by
  refine ⟨I.1, I.2.1, fun z => ?_⟩
  rcases I.2.2 z with y | y
  · refine Or.inl ⟨y.1, fun u h0 h1 => ?_⟩
    rcases (by omega : u < v ∨ u = v) with q | q
    · exact y.2 u h0 q
    · rw [q]; exact hb
  · exact Or.inr y
theorem mz_RI_take {r1 r2 l1 : Int} (I : mz_RI P g T h w v l) (R : mz_ET true S P g T h) (T0 : 0 ≤ T) (T1 : T ≤ 8) (h0 : 0 ≤ h) (h1 : h ≤ mz_A T) (v0 : 0 ≤ v) (v1 : v < T) (hb : mz_bit h v = 0) (e1 : r1 = P w v) (e2 : r2 = mz_go g v (mz_nx h v)) (b1 : 0 ≤ r1 ∧ r1 ≤ 8) (m1 : l1 ≤ l) (m2 : l1 ≤ r1 + r2) (m3 : l1 = l ∨ l1 = r1 + r2) : mz_RI P g T h w (v + 1) l1 := by
  have hm := mz_ET_made R T0 T1 h0 h1 v0 v1 hb
  simp only [mz_cf] at hm
  rw [← e2] at hm
  have hA := mz_Ab T0 T1
  have hne : h ≠ mz_A T := fun z => by
    have := mz_Afull T0 T1 v0 v1
    rw [← z] at this
    omega
  have i0 := I.1
  refine ⟨by omega, fun z => absurd z hne, fun z => Or.inr ?_⟩
  rcases m3 with q | q
  · rcases I.2.2 z with y | y
    · exfalso; have := y.1; omega
    · rw [q]; exact y
  · exact ⟨by omega, v, v0, v1, hb, by rw [q, e1, e2]⟩
theorem mz_CI_0 (h1 : h ≤ mz_A T) : mz_CI S g T h w 0 := ⟨by omega, by omega, fun z => absurd z (by decide)⟩
theorem mz_CI_take {r2 l1 : Int} (I : mz_CI S g T h w l) (R : mz_ET false S P g T h) (T0 : 0 ≤ T) (T1 : T ≤ 8) (h0 : 0 ≤ h) (h1 : h ≤ mz_A T) (v0 : 0 ≤ v) (v1 : v < T) (hb : mz_bit h v = 0) (hs : S w v) (e2 : r2 = mz_go g v (mz_nx h v)) (m3 : l1 = l ∨ l1 = 1 + r2) : mz_CI S g T h w l1 := by
  have hm := mz_ET_made R T0 T1 h0 h1 v0 v1 hb
  simp only [mz_cf] at hm
  rw [← e2] at hm
  rcases m3 with q | q
  · rw [q]; exact I
  · exact ⟨by omega, by omega, fun _ => ⟨v, v0, v1, hb, hs, by rw [q, e2]⟩⟩
theorem mz_go_up (hu : mz_us g 163 i.toNat l g1) (ei : i = mz_shlI w 8 + h) (w0 : 0 ≤ w) (w1 : w ≤ 7) (h0 : 0 ≤ h) (h1 : h ≤ 255) : mz_go g1 w h = l ∧ ∀ w1 h1, 0 ≤ w1 → 0 ≤ h1 → h1 ≤ 255 → ¬ (w1 = w ∧ h1 = h) → mz_go g1 w1 h1 = mz_go g w1 h1 := by
  rw [mz_sh8 w0 w1] at ei
  subst ei
  exact ⟨hu.1, fun w1 h1 q0 q1 q2 q3 => hu.2 _ _ (by omega)⟩
theorem mz_ET_up (R : mz_ET b S P g T h) (hu : mz_us g 163 i.toNat l g1) (ei : i = mz_shlI w 8 + h) (T0 : 0 ≤ T) (T1 : T ≤ 8) (w0 : 0 ≤ w) (w1 : w ≤ 7) (h0 : 0 ≤ h) (h1 : h ≤ mz_A T) : mz_ET b S P g1 T h := by
  have hA := mz_Ab T0 T1
  obtain ⟨_, k⟩ := mz_go_up hu ei w0 w1 h0 (by omega)
  intro h2 w2 a1 a2 a3 a4 a5
  have e := R h2 w2 a1 a2 a3 a4 a5
  have q : mz_go g1 w2 h2 = mz_go g w2 h2 := k _ _ a3 (by omega) (by omega) (by omega)
  refine ⟨by rw [q]; exact e.1, by rw [q]; exact e.2.1, fun z => ?_⟩
  rw [q] at z ⊢
  obtain ⟨v, y1, y2, y3, y4, y5⟩ := e.2.2 z
  have n := mz_nxA T0 T1 (by omega) a2 y1 y2 y3
  exact ⟨v, y1, y2, y3, y4, by rw [k _ _ y1 (by omega) (by omega) (by omega)]; exact y5⟩
theorem mz_EM_up (R : mz_EM b S P g T h w) (hu : mz_us g 163 i.toNat l g1) (ei : i = mz_shlI w 8 + h) (T0 : 0 ≤ T) (T1 : T ≤ 8) (w0 : 0 ≤ w) (w1 : w ≤ 7) (h0 : 0 ≤ h) (h1 : h ≤ mz_A T) (l0 : 0 ≤ l) (l1 : l ≤ mz_cf b * (mz_A T - h)) (L : mz_cd b T h l → ∃ v, 0 ≤ v ∧ v < T ∧ mz_bit h v = 0 ∧ S w v ∧ l = P w v + mz_go g v (mz_nx h v)) : mz_EM b S P g1 T h (w + 1) := by
  have hA := mz_Ab T0 T1
  obtain ⟨k0, k⟩ := mz_go_up hu ei w0 w1 h0 (by omega)
  have kk : ∀ v, 0 ≤ v → v < T → mz_bit h v = 0 → mz_go g1 v (mz_nx h v) = mz_go g v (mz_nx h v) := fun v y1 y2 y3 => by
    have n := mz_nxA T0 T1 h0 h1 y1 y2 y3
    exact k _ _ y1 (by omega) (by omega) (by omega)
  intro u a1 a2 a3
  rcases (by omega : u < w ∨ u = w) with z | z
  · have e := R u a1 z a3
    have q : mz_go g1 u h = mz_go g u h := k _ _ a1 h0 (by omega) (by omega)
    refine ⟨by rw [q]; exact e.1, by rw [q]; exact e.2.1, fun z => ?_⟩
    rw [q] at z ⊢
    obtain ⟨v, y1, y2, y3, y4, y5⟩ := e.2.2 z
    exact ⟨v, y1, y2, y3, y4, by rw [kk v y1 y2 y3]; exact y5⟩
  · rw [z]
    refine ⟨by rw [k0]; exact l0, by rw [k0]; exact l1, fun z => ?_⟩
    rw [k0] at z ⊢
    obtain ⟨v, y1, y2, y3, y4, y5⟩ := L z
    exact ⟨v, y1, y2, y3, y4, by rw [kk v y1 y2 y3]; exact y5⟩
theorem mz_EM_row (R : mz_EM true (fun _ _ => True) P g T h w) (hu : mz_us g 163 i.toNat l g1) (ei : i = mz_shlI w 8 + h) (T0 : 0 ≤ T) (T1 : T ≤ 8) (w0 : 0 ≤ w) (w1 : w ≤ 7) (h0 : 0 ≤ h) (h1 : h ≤ mz_A T) (I : mz_RI P g T h w v l) (hv : T ≤ v) : mz_EM true (fun _ _ => True) P g1 T h (w + 1) := by
  have hlt : h < mz_A T → l ≤ 8 * (mz_A T - h) ∧ ∃ u, 0 ≤ u ∧ u < T ∧ mz_bit h u = 0 ∧ l = P w u + mz_go g u (mz_nx h u) := fun z => by
    rcases I.2.2 z with y | y
    · exfalso
      obtain ⟨u, u0, u1, u2⟩ := mz_Afree T0 T1 h0 z
      have := y.2 u u0 (by omega)
      omega
    · exact y
  refine mz_EM_up R hu ei T0 T1 w0 w1 h0 h1 I.1 ?_ (fun z => ?_)
  · show l ≤ 8 * (mz_A T - h)
    rcases (by omega : h < mz_A T ∨ h = mz_A T) with y | y
    · exact (hlt y).1
    · have := I.2.1 y
      omega
  · obtain ⟨u, u0, u1, u2, u3⟩ := (hlt z).2
    exact ⟨u, u0, u1, u2, trivial, u3⟩
theorem mz_EM_chain (R : mz_EM false S (fun _ _ => 1) g T h w) (hu : mz_us g 163 i.toNat l g1) (ei : i = mz_shlI w 8 + h) (T0 : 0 ≤ T) (T1 : T ≤ 8) (w0 : 0 ≤ w) (w1 : w ≤ 7) (h0 : 0 ≤ h) (h1 : h ≤ mz_A T) (I : mz_CI S g T h w l) : mz_EM false S (fun _ _ => 1) g1 T h (w + 1) :=
  mz_EM_up R hu ei T0 T1 w0 w1 h0 h1 I.1 (by have := I.2.1; show l ≤ 1 * (mz_A T - h); omega) (fun z => I.2.2 z)
theorem mz_EM_skip (R : mz_EM b S P g T h w) (hb : mz_bit h w = 0) : mz_EM b S P g T h (w + 1) := by
  intro u a1 a2 a3
  rcases (by omega : u < w ∨ u = w) with z | z
  · exact R u a1 z a3
  · rw [z] at a3; omega
theorem mz_ET_ge {lo : Int} (R : mz_ET b S P g T lo) (hl : lo ≤ h) : mz_ET b S P g T h := fun h2 w2 a1 a2 a3 a4 a5 => R h2 w2 (by omega) a2 a3 a4 a5
theorem mz_EM_0 : mz_EM b S P g T h 0 := fun u a1 a2 => absurd a1 (by omega)
theorem mz_ET_A : mz_ET b S P g T (mz_A T) := fun h w a1 a2 => absurd a1 (by omega)
theorem mz_ET_dn (R : mz_ET b S P g T h) (M : mz_EM b S P g T h w) (hw : T ≤ w) : mz_ET b S P g T (h + -1) := by
  intro h2 w2 a1 a2 a3 a4 a5
  rcases (by omega : h < h2 ∨ h2 = h) with z | z
  · exact R h2 w2 z a2 a3 a4 a5
  · rw [z] at a5 ⊢; exact M w2 a3 (by omega) a5
/-- the next of a walk -/
def mz_NC (S : Int → Int → Prop) (P : Int → Int → Int) (g : mz_G) (w h u : Int) : Prop := mz_bit h u = 0 ∧ S w u ∧ P w u + mz_go g u (mz_nx h u) = mz_go g w h
def mz_NI (S : Int → Int → Prop) (P : Int → Int → Int) (g : mz_G) (T w h n v : Int) : Prop := (n = -1 ∧ ∀ u, v < u → u < T → ¬ mz_NC S P g w h u) ∨ (0 ≤ n ∧ n < T ∧ mz_NC S P g w h n)
theorem mz_NI_0 {e : Int} (he : e = T + -1 ∨ e = T - 1) : mz_NI S P g T w h (-1) e := Or.inl ⟨rfl, fun u a1 a2 => absurd a1 (by omega)⟩
theorem mz_NI_skip {n : Int} (I : mz_NI S P g T w h n v) (hn : ¬ mz_NC S P g w h v) : mz_NI S P g T w h n (v + -1) := by
  rcases I with y | y
  · refine Or.inl ⟨y.1, fun u a1 a2 => ?_⟩
    rcases (by omega : v < u ∨ u = v) with z | z
    · exact y.2 u z a2
    · rw [z]; exact hn
  · exact Or.inr y
theorem mz_NI_take {e : Int} (v0 : 0 ≤ v) (v1 : v < T) (hn : mz_NC S P g w h v) : mz_NI S P g T w h v e := Or.inr ⟨v0, v1, hn⟩
theorem mz_NI_end {n : Int} (I : mz_NI S P g T w h n v) (hv : v < 0) (R : mz_ET b S P g T 0) (h0 : 0 < h) (h1 : h ≤ mz_A T) (w0 : 0 ≤ w) (w1 : w < T) (hb : mz_bit h w = 1) (hc : mz_cd b T h (mz_go g w h)) : 0 ≤ n ∧ n < T ∧ mz_NC S P g w h n := by
  rcases I with y | y
  · exfalso
    obtain ⟨u, u0, u1, u2, u3, u4⟩ := (R h w h0 h1 w0 w1 hb).2.2 hc
    exact y.2 u (by omega) u1 ⟨u2, u3, u4.symm⟩
  · exact y
theorem mz_go_at {vs vg : Int} (e1 : vs = mz_shlI w 8) (w0 : 0 ≤ w) (w1 : w ≤ 7) (e2 : g 163 (vs + h).toNat = vg) : mz_go g w h = vg := by
  rw [mz_sh8 w0 w1] at e1
  subst e1
  exact e2
end TAB
def mz_fo (fl fn : Nat → Int) (w v : Int) : Prop := fl (8 * w + (fn w.toNat - 1)).toNat = fl (8 * v + 0).toNat
theorem mt_12_453 : mm_tab mm_mthT 12 453 = some (1, 268, 2, 0, 12) := rfl
theorem mt_12_456 : mm_tab mm_mthT 12 456 = some (1, 266, 2, 0, 12) := rfl
theorem mt_12_461 : mm_tab mm_mthT 12 461 = some (1, 267, 0, 0, 12) := rfl
/-! CONTRACTS OF THE REFERENCE, by program (wip/p2/tools/gen25.py) -/
set_option maxHeartbeats 20000000 in
theorem c_X12_follows {d : Nat} (hd : 2 ≤ d) {x : mm_X} (hx : mk_x x) {g : mz_G} (hI : mz_inv g) {a1 : Int} (l_a1 : 0 ≤ a1) (u_a1 : a1 ≤ 7) {a2 : Int} (l_a2 : 0 ≤ a2) (u_a2 : a2 ≤ 7) (p1 : 1 ≤ g 142 a1.toNat) {Q : (Option Value ⊕ Nat) → mm_H → Prop} (hQ : ∀ (r : Int), 0 ≤ r → r ≤ 1 → (r = 1 ↔ mz_fo (g 141) (g 142) a1 a2) → Q (.inl (some (.int (Int32.ofInt r)))) (mz_mk g x)) : mm_C d 270 [.ref 137, .int (Int32.ofInt a1), .int (Int32.ofInt a2)] (mz_mk g x) Q := by
  refine ⟨mmX12_follows, [some (.ref 137), some (.int (Int32.ofInt a1)), some (.int (Int32.ofInt a2))], rfl, rfl, ?_⟩
  refine mm_g 3 (pc1 := 3) (lo1 := [some (.ref 137), some (.int (Int32.ofInt a1)), some (.int (Int32.ofInt a2))]) (st1 := [.ref 137, .int (Int32.ofInt a1), .ref 137]) (H1 := mz_mk g x) rfl ?_
  refine mz_fgR (v := 142) rfl fd_12_43 (by decide) (sc_137 _) (rf_137_5 _ _ _) ?_
  refine mm_g 1 (pc1 := 7) (lo1 := [some (.ref 137), some (.int (Int32.ofInt a1)), some (.int (Int32.ofInt a2))]) (st1 := [.int (Int32.ofInt a1), .ref 142, .int (Int32.ofInt a1), .ref 137]) (H1 := mz_mk g x) rfl ?_
  refine mz_aI rfl (sh_142 _) (by omega) (by omega) (by decide) hI (ba_142 _) (fun v1 e_v1 l_v1 u_v1 => ?_)
  refine mm_g 1 (pc1 := 9) (lo1 := [some (.ref 137), some (.int (Int32.ofInt a1)), some (.int (Int32.ofInt a2))]) (st1 := [.int (Int32.ofInt 1), .int (Int32.ofInt v1), .int (Int32.ofInt a1), .ref 137]) (H1 := mz_mk g x) rfl ?_
  refine mz_isub rfl ?_
  refine mz_cv rfl mt_12_320 (by decide) (sc_137 _) rfl (Nat.le_of_ble_eq_true rfl) (by omega) (c_X12_letterOf (by omega) hx hI l_a1 u_a1 (by omega) (by omega) (fun v2 l_v2 u_v2 hp3 => ⟨_, rfl, ?_⟩))
  show mm_W d mmX12_follows 13 [some (.ref 137), some (.int (Int32.ofInt a1)), some (.int (Int32.ofInt a2))] [.int (Int32.ofInt v2)] (mz_mk g x) Q
  refine mm_g 3 (pc1 := 16) (lo1 := [some (.ref 137), some (.int (Int32.ofInt a1)), some (.int (Int32.ofInt a2))]) (st1 := [.int (Int32.ofInt 0), .int (Int32.ofInt a2), .ref 137, .int (Int32.ofInt v2)]) (H1 := mz_mk g x) rfl ?_
  refine mz_cv rfl mt_12_320 (by decide) (sc_137 _) rfl (Nat.le_of_ble_eq_true rfl) (by omega) (c_X12_letterOf (by omega) hx hI l_a2 u_a2 (by decide) (by decide) (fun v4 l_v4 u_v4 hp5 => ⟨_, rfl, ?_⟩))
  show mm_W d mmX12_follows 19 [some (.ref 137), some (.int (Int32.ofInt a1)), some (.int (Int32.ofInt a2))] [.int (Int32.ofInt v4), .int (Int32.ofInt v2)] (mz_mk g x) Q
  refine mz_ic_ne (tgt := 26) rfl rfl (mz_rg l_v2 u_v2) (mz_rg l_v4 u_v4) (fun c19_5 => ?_) (fun c19_5 => ?_)
  · skip
    refine mm_g 1 (pc1 := 27) (lo1 := [some (.ref 137), some (.int (Int32.ofInt a1)), some (.int (Int32.ofInt a2))]) (st1 := [.int (Int32.ofInt 0)]) (H1 := mz_mk g x) rfl ?_
    exact mz_rtZ rfl (by decide) (by omega) (hQ _ (by decide) (by decide) (by unfold mz_fo; rw [e_v1, ← hp3, ← hp5]; constructor <;> omega))
  · skip
    refine mm_g 1 (pc1 := 23) (lo1 := [some (.ref 137), some (.int (Int32.ofInt a1)), some (.int (Int32.ofInt a2))]) (st1 := [.int (Int32.ofInt 1)]) (H1 := mz_mk g x) rfl ?_
    refine mz_gt (tgt := 27) rfl rfl ?_
    exact mz_rtZ rfl (by decide) (by omega) (hQ _ (by decide) (by decide) (by unfold mz_fo; rw [e_v1, ← hp3, ← hp5]; constructor <;> omega))
def fl_X12_tellRow_13 (x : mm_X) : Nat → Nat → Prop := fun k j => k = 163
def fl_X12_tellRow_19 (x : mm_X) : Nat → Nat → Prop := fun k j => k = 163
def fw_X12_tellRow (x : mm_X) : Nat → Nat → Prop := fun k j => k = 163
set_option maxHeartbeats 20000000 in
theorem c_X12_tellRow {d : Nat} (hd : 14 ≤ d) {x : mm_X} (hx : mk_x x) {g : mz_G} (hI : mz_inv g) {Q : (Option Value ⊕ Nat) → mm_H → Prop} (hQ : ∀ (g1 : mz_G), mz_inv g1 → mz_fr (fw_X12_tellRow x) g g1 → (mz_ET true (fun _ _ => True) (mz_pu (g 141) (g 142)) g1 (g 140 0) 0) → Q (.inl none) (mz_mk g1 x)) : mm_C d 267 [.ref 137] (mz_mk g x) Q := by
  refine ⟨mmX12_tellRow, [some (.ref 137), none, none, none, none, none], rfl, rfl, ?_⟩
  have bz0 := mz_rd hI bt_140_0
  refine mm_g 2 (pc1 := 2) (lo1 := [some (.ref 137), none, none, none, none, none]) (st1 := [.ref 137, .int (Int32.ofInt 1)]) (H1 := mz_mk g x) rfl ?_
  refine mz_fgR (v := 140) rfl fd_12_36 (by decide) (sc_137 _) (rf_137_3 _ _ _) ?_
  refine mm_g 1 (pc1 := 6) (lo1 := [some (.ref 137), none, none, none, none, none]) (st1 := [.int (Int32.ofInt 0), .ref 140, .int (Int32.ofInt 1)]) (H1 := mz_mk g x) rfl ?_
  refine mz_ia (v := (g 140 0)) rfl (sh_140 _) (by decide) (by decide) (by decide) (show g 140 0 = (g 140 0) from rfl) ?_
  refine mz_ishl rfl (fun v1 e_v1 hwv1 => ?_)
  have b_v1 : 1 ≤ v1 ∧ v1 ≤ 256 := by rw [e_v1]; exact mz_shl_b (lx := 1) (hx := 1) (k := 8) (by decide) (by decide) (by omega) (by omega) (by omega) (by omega)
  have l_v1 := b_v1.1
  have u_v1 := b_v1.2
  refine mm_g 1 (pc1 := 9) (lo1 := [some (.ref 137), none, none, none, none, none]) (st1 := [.int (Int32.ofInt 1), .int (Int32.ofInt v1)]) (H1 := mz_mk g x) rfl ?_
  refine mz_isub rfl ?_
  have hA : mz_A (g 140 0) = (v1 - 1) := by unfold mz_A; rw [e_v1]
  have hAb := mz_Ab (T := (g 140 0)) (by omega) (by omega)
  refine mm_g 3 (pc1 := 13) (lo1 := [some (.ref 137), some (.int (Int32.ofInt (v1 - 1))), some (.int (Int32.ofInt (v1 - 1))), none, none, none]) (st1 := []) (H1 := mz_mk g x) rfl ?_
  have L9 : ∀ n8 : Nat, ∀ (v2 : Int) (o3 : Option Value) (o4 : Option Value) (o5 : Option Value) (g6 : mz_G), (v2 - 0).toNat = n8 → 0 ≤ v2 → v2 ≤ 255 → mz_nl o3 → mz_nl o4 → mz_nl o5 → mz_inv g6 → mz_fr (fl_X12_tellRow_13 x) g g6 → (mz_ET true (fun _ _ => True) (mz_pu (g 141) (g 142)) g6 (g 140 0) v2) → (v2 ≤ mz_A (g 140 0)) → mm_W d mmX12_tellRow 13 [some (.ref 137), some (.int (Int32.ofInt (v1 - 1))), some (.int (Int32.ofInt v2)), o3, o4, o5] [] (mz_mk g6 x) Q := by
    intro n8
    induction n8 using Nat.strongRecOn with
    | ind n8 ih7 =>
    intro v2 o3 o4 o5 g6 hmn8 l_v2 u_v2 h_o3 h_o4 h_o5 hIg6 hfg6 hv10 hv11
    refine mm_g 1 (pc1 := 14) (lo1 := [some (.ref 137), some (.int (Int32.ofInt (v1 - 1))), some (.int (Int32.ofInt v2)), o3, o4, o5]) (st1 := [.int (Int32.ofInt v2)]) (H1 := mz_mk g6 x) rfl ?_
    refine mz_if_le (tgt := 129) rfl rfl (mz_rg l_v2 u_v2) (fun c14_11 => ?_) (fun c14_11 => ?_)
    · skip
      exact mm_rt rfl rfl (hQ _ hIg6 (fun k j hk => (hfg6 k j (fun h => hk h))) (by have h9 := hv10; rw [show v2 = 0 by omega] at h9; exact h9))
    · skip
      refine mm_g 2 (pc1 := 19) (lo1 := [some (.ref 137), some (.int (Int32.ofInt (v1 - 1))), some (.int (Int32.ofInt v2)), some (.int (Int32.ofInt 0)), o4, o5]) (st1 := []) (H1 := mz_mk g6 x) rfl ?_
      have L18 : ∀ n17 : Nat, ∀ (v12 : Int) (o13 : Option Value) (o14 : Option Value) (g15 : mz_G), (8 - v12).toNat = n17 → 0 ≤ v12 → v12 ≤ 8 → mz_nl o13 → mz_nl o14 → mz_inv g15 → mz_fr (fl_X12_tellRow_19 x) g6 g15 → (mz_ET true (fun _ _ => True) (mz_pu (g 141) (g 142)) g15 (g 140 0) v2) → (mz_EM true (fun _ _ => True) (mz_pu (g 141) (g 142)) g15 (g 140 0) v2 v12) → mm_W d mmX12_tellRow 19 [some (.ref 137), some (.int (Int32.ofInt (v1 - 1))), some (.int (Int32.ofInt v2)), some (.int (Int32.ofInt v12)), o13, o14] [] (mz_mk g15 x) Q := by
        intro n17
        induction n17 using Nat.strongRecOn with
        | ind n17 ih16 =>
        intro v12 o13 o14 g15 hmn17 l_v12 u_v12 h_o13 h_o14 hIg15 hfg15 hv19 hv20
        refine mm_g 2 (pc1 := 21) (lo1 := [some (.ref 137), some (.int (Int32.ofInt (v1 - 1))), some (.int (Int32.ofInt v2)), some (.int (Int32.ofInt v12)), o13, o14]) (st1 := [.ref 137, .int (Int32.ofInt v12)]) (H1 := mz_mk g15 x) rfl ?_
        refine mz_fgR (v := 140) rfl fd_12_36 (by decide) (sc_137 _) (rf_137_3 _ _ _) ?_
        refine mm_g 1 (pc1 := 25) (lo1 := [some (.ref 137), some (.int (Int32.ofInt (v1 - 1))), some (.int (Int32.ofInt v2)), some (.int (Int32.ofInt v12)), o13, o14]) (st1 := [.int (Int32.ofInt 0), .ref 140, .int (Int32.ofInt v12)]) (H1 := mz_mk g15 x) rfl ?_
        refine mz_ia (v := (g 140 0)) rfl (sh_140 _) (by decide) (by decide) (by decide) (show g15 140 0 = (g 140 0) from ((hfg15 140 0 (fun h => (absurd (show 140 = 163 from h) (by decide)))).trans ((hfg6 140 0 (fun h => (absurd (show 140 = 163 from h) (by decide)))).trans rfl))) ?_
        refine mz_ic_ge (tgt := 123) rfl rfl (mz_rg l_v12 u_v12) ⟨by omega, by omega⟩ (fun c26_20 => ?_) (fun c26_20 => ?_)
        · skip
          refine mz_iincR (v := v2) (lo2 := [some (.ref 137), some (.int (Int32.ofInt (v1 - 1))), some (.int (Int32.ofInt (v2 + (-1)))), some (.int (Int32.ofInt v12)), o13, o14]) rfl rfl rfl (Nat.le_of_ble_eq_true rfl) rfl ?_
          refine mz_gt (tgt := 13) rfl rfl ?_
          exact ih7 (((v2 + (-1)) - 0).toNat) (by omega) (v2 + (-1)) (some (.int (Int32.ofInt v12))) o13 o14 g15 rfl (by omega) (by omega) (mz_nl_i _) h_o13 h_o14 hIg15 (fun k j hk => ((hfg15 k j (fun h => hk h)).trans (hfg6 k j (fun h => hk h)))) (mz_ET_dn hv19 hv20 (by omega)) (by omega)
        · skip
          refine mm_g 2 (pc1 := 31) (lo1 := [some (.ref 137), some (.int (Int32.ofInt (v1 - 1))), some (.int (Int32.ofInt v2)), some (.int (Int32.ofInt v12)), o13, o14]) (st1 := [.int (Int32.ofInt v12), .int (Int32.ofInt v2)]) (H1 := mz_mk g15 x) rfl ?_
          refine mz_cs rfl mt_12_450 (by decide) rfl (Nat.le_of_ble_eq_true rfl) (by omega) (c_X12_isOf (by omega) hx hIg15 (by omega) (by omega) (by omega) (by omega) (fun v21 l_v21 u_v21 hp22 => ⟨_, rfl, ?_⟩))
          show mm_W d mmX12_tellRow 34 [some (.ref 137), some (.int (Int32.ofInt (v1 - 1))), some (.int (Int32.ofInt v2)), some (.int (Int32.ofInt v12)), o13, o14] [.int (Int32.ofInt v21)] (mz_mk g15 x) Q
          refine mz_if_ne (tgt := 40) rfl rfl (mz_rg l_v21 u_v21) (fun c34_22 => ?_) (fun c34_22 => ?_)
          · skip
            refine mm_g 2 (pc1 := 42) (lo1 := [some (.ref 137), some (.int (Int32.ofInt (v1 - 1))), some (.int (Int32.ofInt v2)), some (.int (Int32.ofInt v12)), o13, o14]) (st1 := [.int (Int32.ofInt (v1 - 1)), .int (Int32.ofInt v2)]) (H1 := mz_mk g15 x) rfl ?_
            refine mz_ic_ne (tgt := 49) rfl rfl (mz_rg l_v2 u_v2) ⟨by omega, by omega⟩ (fun c42_22 => ?_) (fun c42_22 => ?_)
            · skip
              refine mz_ldcI (c := 100000) rfl rfl rfl ?_
              refine mm_g 3 (pc1 := 56) (lo1 := [some (.ref 137), some (.int (Int32.ofInt (v1 - 1))), some (.int (Int32.ofInt v2)), some (.int (Int32.ofInt v12)), some (.int (Int32.ofInt 100000)), some (.int (Int32.ofInt 0))]) (st1 := []) (H1 := mz_mk g15 x) rfl ?_
              have L28 : ∀ n27 : Nat, ∀ (v23 : Int) (v24 : Int), (8 - v24).toNat = n27 → 0 ≤ v23 → v23 ≤ 100000 → 0 ≤ v24 → v24 ≤ 8 → (mz_RI (mz_pu (g 141) (g 142)) g15 (g 140 0) v2 v12 v24 v23) → mm_W d mmX12_tellRow 56 [some (.ref 137), some (.int (Int32.ofInt (v1 - 1))), some (.int (Int32.ofInt v2)), some (.int (Int32.ofInt v12)), some (.int (Int32.ofInt v23)), some (.int (Int32.ofInt v24))] [] (mz_mk g15 x) Q := by
                intro n27
                induction n27 using Nat.strongRecOn with
                | ind n27 ih26 =>
                intro v23 v24 hmn27 l_v23 u_v23 l_v24 u_v24 hv29
                refine mm_g 2 (pc1 := 59) (lo1 := [some (.ref 137), some (.int (Int32.ofInt (v1 - 1))), some (.int (Int32.ofInt v2)), some (.int (Int32.ofInt v12)), some (.int (Int32.ofInt v23)), some (.int (Int32.ofInt v24))]) (st1 := [.ref 137, .int (Int32.ofInt v24)]) (H1 := mz_mk g15 x) rfl ?_
                refine mz_fgR (v := 140) rfl fd_12_36 (by decide) (sc_137 _) (rf_137_3 _ _ _) ?_
                refine mm_g 1 (pc1 := 63) (lo1 := [some (.ref 137), some (.int (Int32.ofInt (v1 - 1))), some (.int (Int32.ofInt v2)), some (.int (Int32.ofInt v12)), some (.int (Int32.ofInt v23)), some (.int (Int32.ofInt v24))]) (st1 := [.int (Int32.ofInt 0), .ref 140, .int (Int32.ofInt v24)]) (H1 := mz_mk g15 x) rfl ?_
                refine mz_ia (v := (g 140 0)) rfl (sh_140 _) (by decide) (by decide) (by decide) (show g15 140 0 = (g 140 0) from ((hfg15 140 0 (fun h => (absurd (show 140 = 163 from h) (by decide)))).trans ((hfg6 140 0 (fun h => (absurd (show 140 = 163 from h) (by decide)))).trans rfl))) ?_
                refine mz_ic_ge (tgt := 104) rfl rfl (mz_rg l_v24 u_v24) ⟨by omega, by omega⟩ (fun c64_29 => ?_) (fun c64_29 => ?_)
                · skip
                  refine mm_g 1 (pc1 := 105) (lo1 := [some (.ref 137), some (.int (Int32.ofInt (v1 - 1))), some (.int (Int32.ofInt v2)), some (.int (Int32.ofInt v12)), some (.int (Int32.ofInt v23)), some (.int (Int32.ofInt v24))]) (st1 := [.ref 137]) (H1 := mz_mk g15 x) rfl ?_
                  refine mz_fgR (v := 163) rfl fd_12_106 (by decide) (sc_137 _) (rf_137_41 _ _ _) ?_
                  refine mm_g 1 (pc1 := 109) (lo1 := [some (.ref 137), some (.int (Int32.ofInt (v1 - 1))), some (.int (Int32.ofInt v2)), some (.int (Int32.ofInt v12)), some (.int (Int32.ofInt v23)), some (.int (Int32.ofInt v24))]) (st1 := [.int (Int32.ofInt v12), .ref 163]) (H1 := mz_mk g15 x) rfl ?_
                  refine mz_bip rfl bip_8 ?_
                  refine mz_ishl rfl (fun v30 e_v30 hwv30 => ?_)
                  have b_v30 : 0 ≤ v30 ∧ v30 ≤ 1792 := by rw [e_v30]; exact mz_shl_b (lx := 0) (hx := 7) (k := 8) (by decide) (by decide) (by omega) (by omega) (by omega) (by omega)
                  have l_v30 := b_v30.1
                  have u_v30 := b_v30.2
                  refine mm_g 1 (pc1 := 113) (lo1 := [some (.ref 137), some (.int (Int32.ofInt (v1 - 1))), some (.int (Int32.ofInt v2)), some (.int (Int32.ofInt v12)), some (.int (Int32.ofInt v23)), some (.int (Int32.ofInt v24))]) (st1 := [.int (Int32.ofInt v2), .int (Int32.ofInt v30), .ref 163]) (H1 := mz_mk g15 x) rfl ?_
                  refine mz_iadd rfl ?_
                  refine mm_g 1 (pc1 := 116) (lo1 := [some (.ref 137), some (.int (Int32.ofInt (v1 - 1))), some (.int (Int32.ofInt v2)), some (.int (Int32.ofInt v12)), some (.int (Int32.ofInt v23)), some (.int (Int32.ofInt v24))]) (st1 := [.int (Int32.ofInt v23), .int (Int32.ofInt (v30 + v2)), .ref 163]) (H1 := mz_mk g15 x) rfl ?_
                  refine mz_sI rfl (sh_163 _) (by omega) (by omega) (by decide) hIg15 (ba_163 _) (by omega) (by omega) (fun g31 hIg31 hug31 => ?_)
                  refine mz_iincR (v := v12) (lo2 := [some (.ref 137), some (.int (Int32.ofInt (v1 - 1))), some (.int (Int32.ofInt v2)), some (.int (Int32.ofInt (v12 + 1))), some (.int (Int32.ofInt v23)), some (.int (Int32.ofInt v24))]) rfl rfl rfl (Nat.le_of_ble_eq_true rfl) rfl ?_
                  refine mz_gt (tgt := 19) rfl rfl ?_
                  exact ih16 ((8 - (v12 + 1)).toNat) (by omega) (v12 + 1) (some (.int (Int32.ofInt v23))) (some (.int (Int32.ofInt v24))) g31 rfl (by omega) (by omega) (mz_nl_i _) (mz_nl_i _) hIg31 (fun k j hk => ((hug31.2 k j (fun h => hk h.1)).trans (hfg15 k j (fun h => hk h)))) (mz_ET_up hv19 hug31 (show (v30 + v2) = mz_shlI v12 8 + v2 by rw [e_v30]) (by omega) (by omega) (by omega) (by omega) (by omega) (by omega)) (mz_EM_row hv20 hug31 (show (v30 + v2) = mz_shlI v12 8 + v2 by rw [e_v30]) (by omega) (by omega) (by omega) (by omega) (by omega) (by omega) hv29 (by omega))
                · skip
                  refine mm_g 2 (pc1 := 70) (lo1 := [some (.ref 137), some (.int (Int32.ofInt (v1 - 1))), some (.int (Int32.ofInt v2)), some (.int (Int32.ofInt v12)), some (.int (Int32.ofInt v23)), some (.int (Int32.ofInt v24))]) (st1 := [.int (Int32.ofInt v24), .int (Int32.ofInt v2)]) (H1 := mz_mk g15 x) rfl ?_
                  refine mz_cs rfl mt_12_450 (by decide) rfl (Nat.le_of_ble_eq_true rfl) (by omega) (c_X12_isOf (by omega) hx hIg15 (by omega) (by omega) (by omega) (by omega) (fun v32 l_v32 u_v32 hp33 => ⟨_, rfl, ?_⟩))
                  show mm_W d mmX12_tellRow 73 [some (.ref 137), some (.int (Int32.ofInt (v1 - 1))), some (.int (Int32.ofInt v2)), some (.int (Int32.ofInt v12)), some (.int (Int32.ofInt v23)), some (.int (Int32.ofInt v24))] [.int (Int32.ofInt v32)] (mz_mk g15 x) Q
                  refine mz_if_ne (tgt := 98) rfl rfl (mz_rg l_v32 u_v32) (fun c73_33 => ?_) (fun c73_33 => ?_)
                  · skip
                    refine mz_iincR (v := v24) (lo2 := [some (.ref 137), some (.int (Int32.ofInt (v1 - 1))), some (.int (Int32.ofInt v2)), some (.int (Int32.ofInt v12)), some (.int (Int32.ofInt v23)), some (.int (Int32.ofInt (v24 + 1)))]) rfl rfl rfl (Nat.le_of_ble_eq_true rfl) rfl ?_
                    refine mz_gt (tgt := 56) rfl rfl ?_
                    exact ih26 ((8 - (v24 + 1)).toNat) (by omega) v23 (v24 + 1) rfl (by omega) (by omega) (by omega) (by omega) (mz_RI_skip hv29 (by rw [← hp33 (by omega) (by omega) (by omega)]; omega))
                  · skip
                    refine mm_g 4 (pc1 := 82) (lo1 := [some (.ref 137), some (.int (Int32.ofInt (v1 - 1))), some (.int (Int32.ofInt v2)), some (.int (Int32.ofInt v12)), some (.int (Int32.ofInt v23)), some (.int (Int32.ofInt v24))]) (st1 := [.int (Int32.ofInt v24), .int (Int32.ofInt v12), .ref 137, .int (Int32.ofInt v23)]) (H1 := mz_mk g15 x) rfl ?_
                    refine mz_cv rfl mt_12_453 (by decide) (sc_137 _) rfl (Nat.le_of_ble_eq_true rfl) (by omega) (c_X12_pushed (by omega) hx hIg15 (by omega) (by omega) (by omega) (by omega) (fun v34 l_v34 u_v34 hp35 hp36 => ⟨_, rfl, ?_⟩))
                    show mm_W d mmX12_tellRow 85 [some (.ref 137), some (.int (Int32.ofInt (v1 - 1))), some (.int (Int32.ofInt v2)), some (.int (Int32.ofInt v12)), some (.int (Int32.ofInt v23)), some (.int (Int32.ofInt v24))] [.int (Int32.ofInt v34), .int (Int32.ofInt v23)] (mz_mk g15 x) Q
                    have pu36 := hp35
                    rw [show g15 141 = g 141 from funext (fun j => ((hfg15 141 j (fun h => (absurd (show 141 = 163 from h) (by decide)))).trans (hfg6 141 j (fun h => (absurd (show 141 = 163 from h) (by decide)))))), show g15 142 = g 142 from funext (fun j => ((hfg15 142 j (fun h => (absurd (show 142 = 163 from h) (by decide)))).trans (hfg6 142 j (fun h => (absurd (show 142 = 163 from h) (by decide))))))] at pu36
                    refine mm_g 3 (pc1 := 89) (lo1 := [some (.ref 137), some (.int (Int32.ofInt (v1 - 1))), some (.int (Int32.ofInt v2)), some (.int (Int32.ofInt v12)), some (.int (Int32.ofInt v23)), some (.int (Int32.ofInt v24))]) (st1 := [.int (Int32.ofInt v2), .int (Int32.ofInt v24), .ref 137, .int (Int32.ofInt v34), .int (Int32.ofInt v23)]) (H1 := mz_mk g15 x) rfl ?_
                    refine mz_cv rfl mt_12_456 (by decide) (sc_137 _) rfl (Nat.le_of_ble_eq_true rfl) (by omega) (c_X12_madeOn (by omega) hx hIg15 (by omega) (by omega) l_v2 u_v2 (fun v37 l_v37 u_v37 hp38 => ⟨_, rfl, ?_⟩))
                    show mm_W d mmX12_tellRow 92 [some (.ref 137), some (.int (Int32.ofInt (v1 - 1))), some (.int (Int32.ofInt v2)), some (.int (Int32.ofInt v12)), some (.int (Int32.ofInt v23)), some (.int (Int32.ofInt v24))] [.int (Int32.ofInt v37), .int (Int32.ofInt v34), .int (Int32.ofInt v23)] (mz_mk g15 x) Q
                    have mb38 := mz_ET_made (v := v24) hv19 (by omega) (by omega) (by omega) (by omega) (by omega) (by omega) (by rw [← hp33 (by omega) (by omega) (by omega)]; omega)
                    simp only [mz_cf] at mb38
                    rw [← hp38] at mb38
                    refine mz_iadd rfl ?_
                    refine mz_mn rfl mt_12_191 (Nat.le_of_ble_eq_true rfl) (by omega) (mz_rg l_v23 u_v23) ⟨by omega, by omega⟩ (fun v39 e_v39 => ?_)
                    have l_v39 : 0 ≤ v39 := by omega
                    have u_v39 : v39 ≤ 2048 := by omega
                    refine mm_g 1 (pc1 := 98) (lo1 := [some (.ref 137), some (.int (Int32.ofInt (v1 - 1))), some (.int (Int32.ofInt v2)), some (.int (Int32.ofInt v12)), some (.int (Int32.ofInt v39)), some (.int (Int32.ofInt v24))]) (st1 := []) (H1 := mz_mk g15 x) rfl ?_
                    refine mz_iincR (v := v24) (lo2 := [some (.ref 137), some (.int (Int32.ofInt (v1 - 1))), some (.int (Int32.ofInt v2)), some (.int (Int32.ofInt v12)), some (.int (Int32.ofInt v39)), some (.int (Int32.ofInt (v24 + 1)))]) rfl rfl rfl (Nat.le_of_ble_eq_true rfl) rfl ?_
                    refine mz_gt (tgt := 56) rfl rfl ?_
                    exact ih26 ((8 - (v24 + 1)).toNat) (by omega) v39 (v24 + 1) rfl (by omega) (by omega) (by omega) (by omega) (mz_RI_take hv29 hv19 (by omega) (by omega) (by omega) (by omega) (by omega) (by omega) (by rw [← hp33 (by omega) (by omega) (by omega)]; omega) pu36 hp38 ⟨by omega, by omega⟩ (by omega) (by omega) (by omega))
              exact L28 _ 100000 0 rfl (by decide) (by decide) (by decide) (by decide) (mz_RI_0b (by omega))
            · skip
              refine mm_g 1 (pc1 := 46) (lo1 := [some (.ref 137), some (.int (Int32.ofInt (v1 - 1))), some (.int (Int32.ofInt v2)), some (.int (Int32.ofInt v12)), o13, o14]) (st1 := [.int (Int32.ofInt 0)]) (H1 := mz_mk g15 x) rfl ?_
              refine mz_gt (tgt := 51) rfl rfl ?_
              refine mm_g 3 (pc1 := 56) (lo1 := [some (.ref 137), some (.int (Int32.ofInt (v1 - 1))), some (.int (Int32.ofInt v2)), some (.int (Int32.ofInt v12)), some (.int (Int32.ofInt 0)), some (.int (Int32.ofInt 0))]) (st1 := []) (H1 := mz_mk g15 x) rfl ?_
              have L45 : ∀ n44 : Nat, ∀ (v40 : Int) (v41 : Int), (8 - v41).toNat = n44 → 0 ≤ v40 → v40 ≤ 0 → 0 ≤ v41 → v41 ≤ 8 → (mz_RI (mz_pu (g 141) (g 142)) g15 (g 140 0) v2 v12 v41 v40) → mm_W d mmX12_tellRow 56 [some (.ref 137), some (.int (Int32.ofInt (v1 - 1))), some (.int (Int32.ofInt v2)), some (.int (Int32.ofInt v12)), some (.int (Int32.ofInt v40)), some (.int (Int32.ofInt v41))] [] (mz_mk g15 x) Q := by
                intro n44
                induction n44 using Nat.strongRecOn with
                | ind n44 ih43 =>
                intro v40 v41 hmn44 l_v40 u_v40 l_v41 u_v41 hv46
                refine mm_g 2 (pc1 := 59) (lo1 := [some (.ref 137), some (.int (Int32.ofInt (v1 - 1))), some (.int (Int32.ofInt v2)), some (.int (Int32.ofInt v12)), some (.int (Int32.ofInt v40)), some (.int (Int32.ofInt v41))]) (st1 := [.ref 137, .int (Int32.ofInt v41)]) (H1 := mz_mk g15 x) rfl ?_
                refine mz_fgR (v := 140) rfl fd_12_36 (by decide) (sc_137 _) (rf_137_3 _ _ _) ?_
                refine mm_g 1 (pc1 := 63) (lo1 := [some (.ref 137), some (.int (Int32.ofInt (v1 - 1))), some (.int (Int32.ofInt v2)), some (.int (Int32.ofInt v12)), some (.int (Int32.ofInt v40)), some (.int (Int32.ofInt v41))]) (st1 := [.int (Int32.ofInt 0), .ref 140, .int (Int32.ofInt v41)]) (H1 := mz_mk g15 x) rfl ?_
                refine mz_ia (v := (g 140 0)) rfl (sh_140 _) (by decide) (by decide) (by decide) (show g15 140 0 = (g 140 0) from ((hfg15 140 0 (fun h => (absurd (show 140 = 163 from h) (by decide)))).trans ((hfg6 140 0 (fun h => (absurd (show 140 = 163 from h) (by decide)))).trans rfl))) ?_
                refine mz_ic_ge (tgt := 104) rfl rfl (mz_rg l_v41 u_v41) ⟨by omega, by omega⟩ (fun c64_46 => ?_) (fun c64_46 => ?_)
                · skip
                  refine mm_g 1 (pc1 := 105) (lo1 := [some (.ref 137), some (.int (Int32.ofInt (v1 - 1))), some (.int (Int32.ofInt v2)), some (.int (Int32.ofInt v12)), some (.int (Int32.ofInt v40)), some (.int (Int32.ofInt v41))]) (st1 := [.ref 137]) (H1 := mz_mk g15 x) rfl ?_
                  refine mz_fgR (v := 163) rfl fd_12_106 (by decide) (sc_137 _) (rf_137_41 _ _ _) ?_
                  refine mm_g 1 (pc1 := 109) (lo1 := [some (.ref 137), some (.int (Int32.ofInt (v1 - 1))), some (.int (Int32.ofInt v2)), some (.int (Int32.ofInt v12)), some (.int (Int32.ofInt v40)), some (.int (Int32.ofInt v41))]) (st1 := [.int (Int32.ofInt v12), .ref 163]) (H1 := mz_mk g15 x) rfl ?_
                  refine mz_bip rfl bip_8 ?_
                  refine mz_ishl rfl (fun v47 e_v47 hwv47 => ?_)
                  have b_v47 : 0 ≤ v47 ∧ v47 ≤ 1792 := by rw [e_v47]; exact mz_shl_b (lx := 0) (hx := 7) (k := 8) (by decide) (by decide) (by omega) (by omega) (by omega) (by omega)
                  have l_v47 := b_v47.1
                  have u_v47 := b_v47.2
                  refine mm_g 1 (pc1 := 113) (lo1 := [some (.ref 137), some (.int (Int32.ofInt (v1 - 1))), some (.int (Int32.ofInt v2)), some (.int (Int32.ofInt v12)), some (.int (Int32.ofInt v40)), some (.int (Int32.ofInt v41))]) (st1 := [.int (Int32.ofInt v2), .int (Int32.ofInt v47), .ref 163]) (H1 := mz_mk g15 x) rfl ?_
                  refine mz_iadd rfl ?_
                  refine mm_g 1 (pc1 := 116) (lo1 := [some (.ref 137), some (.int (Int32.ofInt (v1 - 1))), some (.int (Int32.ofInt v2)), some (.int (Int32.ofInt v12)), some (.int (Int32.ofInt v40)), some (.int (Int32.ofInt v41))]) (st1 := [.int (Int32.ofInt v40), .int (Int32.ofInt (v47 + v2)), .ref 163]) (H1 := mz_mk g15 x) rfl ?_
                  refine mz_sI rfl (sh_163 _) (by omega) (by omega) (by decide) hIg15 (ba_163 _) (by omega) (by omega) (fun g48 hIg48 hug48 => ?_)
                  refine mz_iincR (v := v12) (lo2 := [some (.ref 137), some (.int (Int32.ofInt (v1 - 1))), some (.int (Int32.ofInt v2)), some (.int (Int32.ofInt (v12 + 1))), some (.int (Int32.ofInt v40)), some (.int (Int32.ofInt v41))]) rfl rfl rfl (Nat.le_of_ble_eq_true rfl) rfl ?_
                  refine mz_gt (tgt := 19) rfl rfl ?_
                  exact ih16 ((8 - (v12 + 1)).toNat) (by omega) (v12 + 1) (some (.int (Int32.ofInt v40))) (some (.int (Int32.ofInt v41))) g48 rfl (by omega) (by omega) (mz_nl_i _) (mz_nl_i _) hIg48 (fun k j hk => ((hug48.2 k j (fun h => hk h.1)).trans (hfg15 k j (fun h => hk h)))) (mz_ET_up hv19 hug48 (show (v47 + v2) = mz_shlI v12 8 + v2 by rw [e_v47]) (by omega) (by omega) (by omega) (by omega) (by omega) (by omega)) (mz_EM_row hv20 hug48 (show (v47 + v2) = mz_shlI v12 8 + v2 by rw [e_v47]) (by omega) (by omega) (by omega) (by omega) (by omega) (by omega) hv46 (by omega))
                · skip
                  refine mm_g 2 (pc1 := 70) (lo1 := [some (.ref 137), some (.int (Int32.ofInt (v1 - 1))), some (.int (Int32.ofInt v2)), some (.int (Int32.ofInt v12)), some (.int (Int32.ofInt v40)), some (.int (Int32.ofInt v41))]) (st1 := [.int (Int32.ofInt v41), .int (Int32.ofInt v2)]) (H1 := mz_mk g15 x) rfl ?_
                  refine mz_cs rfl mt_12_450 (by decide) rfl (Nat.le_of_ble_eq_true rfl) (by omega) (c_X12_isOf (by omega) hx hIg15 (by omega) (by omega) (by omega) (by omega) (fun v49 l_v49 u_v49 hp50 => ⟨_, rfl, ?_⟩))
                  show mm_W d mmX12_tellRow 73 [some (.ref 137), some (.int (Int32.ofInt (v1 - 1))), some (.int (Int32.ofInt v2)), some (.int (Int32.ofInt v12)), some (.int (Int32.ofInt v40)), some (.int (Int32.ofInt v41))] [.int (Int32.ofInt v49)] (mz_mk g15 x) Q
                  refine mz_if_ne (tgt := 98) rfl rfl (mz_rg l_v49 u_v49) (fun c73_50 => ?_) (fun c73_50 => ?_)
                  · skip
                    refine mz_iincR (v := v41) (lo2 := [some (.ref 137), some (.int (Int32.ofInt (v1 - 1))), some (.int (Int32.ofInt v2)), some (.int (Int32.ofInt v12)), some (.int (Int32.ofInt v40)), some (.int (Int32.ofInt (v41 + 1)))]) rfl rfl rfl (Nat.le_of_ble_eq_true rfl) rfl ?_
                    refine mz_gt (tgt := 56) rfl rfl ?_
                    exact ih43 ((8 - (v41 + 1)).toNat) (by omega) v40 (v41 + 1) rfl (by omega) (by omega) (by omega) (by omega) (mz_RI_skip hv46 (by rw [← hp50 (by omega) (by omega) (by omega)]; omega))
                  · skip
                    refine mm_g 4 (pc1 := 82) (lo1 := [some (.ref 137), some (.int (Int32.ofInt (v1 - 1))), some (.int (Int32.ofInt v2)), some (.int (Int32.ofInt v12)), some (.int (Int32.ofInt v40)), some (.int (Int32.ofInt v41))]) (st1 := [.int (Int32.ofInt v41), .int (Int32.ofInt v12), .ref 137, .int (Int32.ofInt v40)]) (H1 := mz_mk g15 x) rfl ?_
                    refine mz_cv rfl mt_12_453 (by decide) (sc_137 _) rfl (Nat.le_of_ble_eq_true rfl) (by omega) (c_X12_pushed (by omega) hx hIg15 (by omega) (by omega) (by omega) (by omega) (fun v51 l_v51 u_v51 hp52 hp53 => ⟨_, rfl, ?_⟩))
                    show mm_W d mmX12_tellRow 85 [some (.ref 137), some (.int (Int32.ofInt (v1 - 1))), some (.int (Int32.ofInt v2)), some (.int (Int32.ofInt v12)), some (.int (Int32.ofInt v40)), some (.int (Int32.ofInt v41))] [.int (Int32.ofInt v51), .int (Int32.ofInt v40)] (mz_mk g15 x) Q
                    have pu53 := hp52
                    rw [show g15 141 = g 141 from funext (fun j => ((hfg15 141 j (fun h => (absurd (show 141 = 163 from h) (by decide)))).trans (hfg6 141 j (fun h => (absurd (show 141 = 163 from h) (by decide)))))), show g15 142 = g 142 from funext (fun j => ((hfg15 142 j (fun h => (absurd (show 142 = 163 from h) (by decide)))).trans (hfg6 142 j (fun h => (absurd (show 142 = 163 from h) (by decide))))))] at pu53
                    refine mm_g 3 (pc1 := 89) (lo1 := [some (.ref 137), some (.int (Int32.ofInt (v1 - 1))), some (.int (Int32.ofInt v2)), some (.int (Int32.ofInt v12)), some (.int (Int32.ofInt v40)), some (.int (Int32.ofInt v41))]) (st1 := [.int (Int32.ofInt v2), .int (Int32.ofInt v41), .ref 137, .int (Int32.ofInt v51), .int (Int32.ofInt v40)]) (H1 := mz_mk g15 x) rfl ?_
                    refine mz_cv rfl mt_12_456 (by decide) (sc_137 _) rfl (Nat.le_of_ble_eq_true rfl) (by omega) (c_X12_madeOn (by omega) hx hIg15 (by omega) (by omega) l_v2 u_v2 (fun v54 l_v54 u_v54 hp55 => ⟨_, rfl, ?_⟩))
                    show mm_W d mmX12_tellRow 92 [some (.ref 137), some (.int (Int32.ofInt (v1 - 1))), some (.int (Int32.ofInt v2)), some (.int (Int32.ofInt v12)), some (.int (Int32.ofInt v40)), some (.int (Int32.ofInt v41))] [.int (Int32.ofInt v54), .int (Int32.ofInt v51), .int (Int32.ofInt v40)] (mz_mk g15 x) Q
                    have mb55 := mz_ET_made (v := v41) hv19 (by omega) (by omega) (by omega) (by omega) (by omega) (by omega) (by rw [← hp50 (by omega) (by omega) (by omega)]; omega)
                    simp only [mz_cf] at mb55
                    rw [← hp55] at mb55
                    refine mz_iadd rfl ?_
                    refine mz_mn rfl mt_12_191 (Nat.le_of_ble_eq_true rfl) (by omega) (mz_rg l_v40 u_v40) ⟨by omega, by omega⟩ (fun v56 e_v56 => ?_)
                    have l_v56 : 0 ≤ v56 := by omega
                    have u_v56 : v56 ≤ 0 := by omega
                    refine mm_g 1 (pc1 := 98) (lo1 := [some (.ref 137), some (.int (Int32.ofInt (v1 - 1))), some (.int (Int32.ofInt v2)), some (.int (Int32.ofInt v12)), some (.int (Int32.ofInt v56)), some (.int (Int32.ofInt v41))]) (st1 := []) (H1 := mz_mk g15 x) rfl ?_
                    refine mz_iincR (v := v41) (lo2 := [some (.ref 137), some (.int (Int32.ofInt (v1 - 1))), some (.int (Int32.ofInt v2)), some (.int (Int32.ofInt v12)), some (.int (Int32.ofInt v56)), some (.int (Int32.ofInt (v41 + 1)))]) rfl rfl rfl (Nat.le_of_ble_eq_true rfl) rfl ?_
                    refine mz_gt (tgt := 56) rfl rfl ?_
                    exact ih43 ((8 - (v41 + 1)).toNat) (by omega) v56 (v41 + 1) rfl (by omega) (by omega) (by omega) (by omega) (mz_RI_take hv46 hv19 (by omega) (by omega) (by omega) (by omega) (by omega) (by omega) (by rw [← hp50 (by omega) (by omega) (by omega)]; omega) pu53 hp55 ⟨by omega, by omega⟩ (by omega) (by omega) (by omega))
              exact L45 _ 0 0 rfl (by decide) (by decide) (by decide) (by decide) (mz_RI_0a (by omega))
          · skip
            refine mz_gt (tgt := 117) rfl rfl ?_
            refine mz_iincR (v := v12) (lo2 := [some (.ref 137), some (.int (Int32.ofInt (v1 - 1))), some (.int (Int32.ofInt v2)), some (.int (Int32.ofInt (v12 + 1))), o13, o14]) rfl rfl rfl (Nat.le_of_ble_eq_true rfl) rfl ?_
            refine mz_gt (tgt := 19) rfl rfl ?_
            exact ih16 ((8 - (v12 + 1)).toNat) (by omega) (v12 + 1) o13 o14 g15 rfl (by omega) (by omega) h_o13 h_o14 hIg15 (fun k j hk => (hfg15 k j (fun h => hk h))) hv19 (mz_EM_skip hv20 (by rw [← hp22 (by omega) (by omega) (by omega)]; omega))
      exact L18 _ 0 o4 o5 g6 rfl (by decide) (by decide) h_o4 h_o5 hIg6 (fun _ _ _ => rfl) hv10 mz_EM_0
  exact L9 _ (v1 - 1) none none none g rfl (by omega) (by omega) mz_nl_n mz_nl_n mz_nl_n hI (fun _ _ _ => rfl) (by rw [← hA]; exact mz_ET_A) (by omega)
def fw_X12_row (x : mm_X) (a1 : Int) : Nat → Nat → Prop := fun k j => (k = 137 ∧ j = 2) ∨ k = 163
set_option maxHeartbeats 20000000 in
theorem c_X12_row {d : Nat} (hd : 15 ≤ d) {x : mm_X} (hx : mk_x x) {g : mz_G} (hI : mz_inv g) {a1 : Int} (l_a1 : (-2147483648) ≤ a1) (u_a1 : a1 ≤ 2147483647) (p1 : mz_pv g) (p2 : g 137 30 ≤ 999) {Q : (Option Value ⊕ Nat) → mm_H → Prop} (hQ : ∀ (r : Int) (g1 : mz_G), mz_inv g1 → mz_fr (fw_X12_row x a1) g g1 → 0 ≤ r → r ≤ 100000 → (g1 137 30 ≤ 999) → Q (.inl (some (.int (Int32.ofInt r)))) (mz_mk g1 x)) : mm_C d 269 [.ref 137, .int (Int32.ofInt a1)] (mz_mk g x) Q := by
  refine ⟨mmX12_row, [some (.ref 137), some (.int (Int32.ofInt a1)), none, none, none, none, none, none], rfl, rfl, ?_⟩
  have bz0 := mz_rd hI bd_137_30
  have bz1 := mz_rd hI bt_140_0
  have bz2 := mz_rd hI bt_140_1
  have hpv := p1
  refine mm_g 2 (pc1 := 2) (lo1 := [some (.ref 137), some (.int (Int32.ofInt a1)), none, none, none, none, none, none]) (st1 := [.int (Int32.ofInt 0), .ref 137]) (H1 := mz_mk g x) rfl ?_
  refine mz_pI rfl fd_12_154 (sc_137 _) hI bd_137_2 (by omega) (by omega) (fun g1 hIg1 hug1 => ?_)
  refine mm_g 1 (pc1 := 6) (lo1 := [some (.ref 137), some (.int (Int32.ofInt a1)), none, none, none, none, none, none]) (st1 := [.int (Int32.ofInt a1)]) (H1 := mz_mk g1 x) rfl ?_
  refine mz_i2l rfl (mz_rg l_a1 u_a1) ?_
  refine mz_l2w (c := (-1)) rfl rfl rfl ?_
  refine mm_g 1 (pc1 := 11) (lo1 := [some (.ref 137), some (.int (Int32.ofInt a1)), none, none, none, none, none, none]) (st1 := [.ref 137, .long (Int64.ofInt (-1)), .long (Int64.ofInt a1)]) (H1 := mz_mk g1 x) rfl ?_
  refine mz_fgR (v := 140) rfl fd_12_36 (by decide) (sc_137 _) (rf_137_3 _ _ _) ?_
  refine mm_g 1 (pc1 := 15) (lo1 := [some (.ref 137), some (.int (Int32.ofInt a1)), none, none, none, none, none, none]) (st1 := [.int (Int32.ofInt 0), .ref 140, .long (Int64.ofInt (-1)), .long (Int64.ofInt a1)]) (H1 := mz_mk g1 x) rfl ?_
  refine mz_ia (v := (g 140 0)) rfl (sh_140 _) (by decide) (by decide) (by decide) (show g1 140 0 = (g 140 0) from ((hug1.2 140 0 (fun h => absurd h.1 (by decide))).trans rfl)) ?_
  refine mm_g 1 (pc1 := 17) (lo1 := [some (.ref 137), some (.int (Int32.ofInt a1)), none, none, none, none, none, none]) (st1 := [.int (Int32.ofInt 1), .int (Int32.ofInt (g 140 0)), .long (Int64.ofInt (-1)), .long (Int64.ofInt a1)]) (H1 := mz_mk g1 x) rfl ?_
  refine mz_isub rfl ?_
  refine mz_i2l rfl ⟨by omega, by omega⟩ ?_
  refine mz_cs rfl mt_12_157 (by decide) rfl (Nat.le_of_ble_eq_true rfl) (by omega) (c_X12_isIn (by omega) hx hIg1 (by omega) (by omega) (by omega) (by omega) (by omega) (by omega) (fun v2 l_v2 u_v2 hp3 => ⟨_, rfl, ?_⟩))
  show mm_W d mmX12_row 22 [some (.ref 137), some (.int (Int32.ofInt a1)), none, none, none, none, none, none] [.int (Int32.ofInt v2)] (mz_mk g1 x) Q
  refine mz_if_ne (tgt := 31) rfl rfl (mz_rg l_v2 u_v2) (fun c22_3 => ?_) (fun c22_3 => ?_)
  · skip
    refine mm_g 1 (pc1 := 32) (lo1 := [some (.ref 137), some (.int (Int32.ofInt a1)), none, none, none, none, none, none]) (st1 := [.ref 137]) (H1 := mz_mk g1 x) rfl ?_
    refine mz_fgR (v := 140) rfl fd_12_36 (by decide) (sc_137 _) (rf_137_3 _ _ _) ?_
    refine mm_g 1 (pc1 := 36) (lo1 := [some (.ref 137), some (.int (Int32.ofInt a1)), none, none, none, none, none, none]) (st1 := [.int (Int32.ofInt 0), .ref 140]) (H1 := mz_mk g1 x) rfl ?_
    refine mz_ia (v := (g 140 0)) rfl (sh_140 _) (by decide) (by decide) (by decide) (show g1 140 0 = (g 140 0) from ((hug1.2 140 0 (fun h => absurd h.1 (by decide))).trans rfl)) ?_
    refine mz_if_ne (tgt := 42) rfl rfl ⟨by omega, by omega⟩ (fun c37_3 => ?_) (fun c37_3 => ?_)
    · skip
      refine mm_g 1 (pc1 := 43) (lo1 := [some (.ref 137), some (.int (Int32.ofInt a1)), none, none, none, none, none, none]) (st1 := [.ref 137]) (H1 := mz_mk g1 x) rfl ?_
      refine mz_cv rfl mt_12_461 (by decide) (sc_137 _) rfl (Nat.le_of_ble_eq_true rfl) (by omega) (c_X12_tellRow (by omega) hx hIg1 (fun g4 hIg4 hfg4 hp5 => ⟨_, rfl, ?_⟩))
      show mm_W d mmX12_row 46 [some (.ref 137), some (.int (Int32.ofInt a1)), none, none, none, none, none, none] [] (mz_mk g4 x) Q
      have rt5 := hp5
      rw [show g1 141 = g 141 from funext (fun j => (hug1.2 141 j (fun h => absurd h.1 (by decide)))), show g1 142 = g 142 from funext (fun j => (hug1.2 142 j (fun h => absurd h.1 (by decide)))), show g1 140 0 = g 140 0 from (hug1.2 140 0 (fun h => absurd h.1 (by decide)))] at rt5
      have hAb := mz_Ab (T := (g 140 0)) (by omega) (by omega)
      refine mm_g 2 (pc1 := 48) (lo1 := [some (.ref 137), some (.int (Int32.ofInt a1)), some (.int (Int32.ofInt (-1))), none, none, none, none, none]) (st1 := []) (H1 := mz_mk g4 x) rfl ?_
      refine mz_ldcI (c := 100000) rfl rfl rfl ?_
      refine mm_g 3 (pc1 := 54) (lo1 := [some (.ref 137), some (.int (Int32.ofInt a1)), some (.int (Int32.ofInt (-1))), some (.int (Int32.ofInt 100000)), some (.int (Int32.ofInt 0)), none, none, none]) (st1 := []) (H1 := mz_mk g4 x) rfl ?_
      have L13 : ∀ n12 : Nat, ∀ (v6 : Int) (v7 : Int) (v8 : Int) (o9 : Option Value), (8 - v8).toNat = n12 → (-1) ≤ v6 → v6 ≤ 16 → 0 ≤ v7 → v7 ≤ 100000 → 0 ≤ v8 → v8 ≤ 8 → mz_nl o9 → ((v8 = 0 ∧ v6 = -1 ∧ v7 = 100000) ∨ (0 ≤ v6 ∧ v6 < g 140 0 ∧ 0 ≤ v7 ∧ v7 ≤ 2048)) → mm_W d mmX12_row 54 [some (.ref 137), some (.int (Int32.ofInt a1)), some (.int (Int32.ofInt v6)), some (.int (Int32.ofInt v7)), some (.int (Int32.ofInt v8)), o9, none, none] [] (mz_mk g4 x) Q := by
        intro n12
        induction n12 using Nat.strongRecOn with
        | ind n12 ih11 =>
        intro v6 v7 v8 o9 hmn12 l_v6 u_v6 l_v7 u_v7 l_v8 u_v8 h_o9 hv14
        refine mm_g 2 (pc1 := 57) (lo1 := [some (.ref 137), some (.int (Int32.ofInt a1)), some (.int (Int32.ofInt v6)), some (.int (Int32.ofInt v7)), some (.int (Int32.ofInt v8)), o9, none, none]) (st1 := [.ref 137, .int (Int32.ofInt v8)]) (H1 := mz_mk g4 x) rfl ?_
        refine mz_fgR (v := 140) rfl fd_12_36 (by decide) (sc_137 _) (rf_137_3 _ _ _) ?_
        refine mm_g 1 (pc1 := 61) (lo1 := [some (.ref 137), some (.int (Int32.ofInt a1)), some (.int (Int32.ofInt v6)), some (.int (Int32.ofInt v7)), some (.int (Int32.ofInt v8)), o9, none, none]) (st1 := [.int (Int32.ofInt 0), .ref 140, .int (Int32.ofInt v8)]) (H1 := mz_mk g4 x) rfl ?_
        refine mz_ia (v := (g 140 0)) rfl (sh_140 _) (by decide) (by decide) (by decide) (show g4 140 0 = (g 140 0) from ((hfg4 140 0 (fun h => (absurd (show 140 = 163 from h) (by decide)))).trans ((hug1.2 140 0 (fun h => absurd h.1 (by decide))).trans rfl))) ?_
        refine mz_ic_ge (tgt := 103) rfl rfl (mz_rg l_v8 u_v8) ⟨by omega, by omega⟩ (fun c62_14 => ?_) (fun c62_14 => ?_)
        · skip
          refine mm_g 2 (pc1 := 105) (lo1 := [some (.ref 137), some (.int (Int32.ofInt a1)), some (.int (Int32.ofInt v6)), some (.int (Int32.ofInt v7)), some (.int (Int32.ofInt v8)), o9, none, none]) (st1 := [.int (Int32.ofInt (-1)), .int (Int32.ofInt a1)]) (H1 := mz_mk g4 x) rfl ?_
          refine mz_ic_ne (tgt := 110) rfl rfl (mz_rg l_a1 u_a1) ⟨by decide, by decide⟩ (fun c105_14 => ?_) (fun c105_14 => ?_)
          · skip
            have w0_v6 : 0 ≤ v6 ∧ v6 ≤ 7 ∧ v6 < (g 140 0) := by omega
            refine mm_g 2 (pc1 := 112) (lo1 := [some (.ref 137), some (.int (Int32.ofInt a1)), some (.int (Int32.ofInt v6)), some (.int (Int32.ofInt v7)), some (.int (Int32.ofInt v8)), o9, none, none]) (st1 := [.int (Int32.ofInt v6), .int (Int32.ofInt 1)]) (H1 := mz_mk g4 x) rfl ?_
            refine mz_ishl rfl (fun v15 e_v15 hwv15 => ?_)
            have b_v15 : 1 ≤ v15 ∧ v15 ≤ 128 := by rw [e_v15]; exact mz_shl_b (lx := 1) (hx := 1) (k := 7) (by decide) (by decide) (by omega) (by omega) (by omega) (by omega)
            have l_v15 := b_v15.1
            have u_v15 := b_v15.2
            have wf := mz_first (T := (g 140 0)) (v := v6) (by omega) (by omega) (by omega) (by omega)
            rw [← e_v15] at wf
            have wf1 := wf.1
            have wf2 := wf.2.1
            have lw_v15 : 1 ≤ v15 := by omega
            have uw_v15 : v15 ≤ 255 := by omega
            refine mm_g 3 (pc1 := 118) (lo1 := [some (.ref 137), some (.int (Int32.ofInt a1)), some (.int (Int32.ofInt v6)), some (.int (Int32.ofInt v7)), some (.int (Int32.ofInt v15)), some (.int (Int32.ofInt 0)), none, none]) (st1 := []) (H1 := mz_mk g4 x) rfl ?_
            have L24 : ∀ n23 : Nat, ∀ (v16 : Int) (v17 : Int) (v18 : Int) (o19 : Option Value) (o20 : Option Value), (7 - v18).toNat = n23 → 0 ≤ v16 → v16 ≤ 7 → 1 ≤ v17 → v17 ≤ 255 → 0 ≤ v18 → v18 ≤ 7 → mz_nl o19 → mz_nl o20 → (0 ≤ v16 ∧ v16 < (g 140 0)) → (0 < v17 ∧ v17 ≤ mz_A (g 140 0)) → (mz_bit v17 v16 = 1) → (mz_pc v17 = v18 + 1) → mm_W d mmX12_row 118 [some (.ref 137), some (.int (Int32.ofInt a1)), some (.int (Int32.ofInt v16)), some (.int (Int32.ofInt v7)), some (.int (Int32.ofInt v17)), some (.int (Int32.ofInt v18)), o19, o20] [] (mz_mk g4 x) Q := by
              intro n23
              induction n23 using Nat.strongRecOn with
              | ind n23 ih22 =>
              intro v16 v17 v18 o19 o20 hmn23 l_v16 u_v16 l_v17 u_v17 l_v18 u_v18 h_o19 h_o20 hv25 hv26 hv27 hv28
              refine mm_g 2 (pc1 := 121) (lo1 := [some (.ref 137), some (.int (Int32.ofInt a1)), some (.int (Int32.ofInt v16)), some (.int (Int32.ofInt v7)), some (.int (Int32.ofInt v17)), some (.int (Int32.ofInt v18)), o19, o20]) (st1 := [.int (Int32.ofInt a1), .int (Int32.ofInt v18)]) (H1 := mz_mk g4 x) rfl ?_
              refine mz_ic_ge (tgt := 211) rfl rfl (mz_rg l_v18 u_v18) (mz_rg l_a1 u_a1) (fun c121_28 => ?_) (fun c121_28 => ?_)
              · skip
                refine mm_g 1 (pc1 := 212) (lo1 := [some (.ref 137), some (.int (Int32.ofInt a1)), some (.int (Int32.ofInt v16)), some (.int (Int32.ofInt v7)), some (.int (Int32.ofInt v17)), some (.int (Int32.ofInt v18)), o19, o20]) (st1 := [.int (Int32.ofInt v16)]) (H1 := mz_mk g4 x) rfl ?_
                exact mm_rt rfl rfl (hQ _ _ hIg4 (fun k j hk => ((hfg4 k j (fun h => hk (Or.inr h))).trans (hug1.2 k j (fun h => hk (Or.inl h))))) (by omega) (by omega) (by have h9 := (show g4 137 30 = (g 137 30) from ((hfg4 137 30 (fun h => (absurd (show 137 = 163 from h) (by decide)))).trans ((hug1.2 137 30 (fun h => absurd h.2 (by decide))).trans rfl))); omega))
              · skip
                refine mm_g 3 (pc1 := 128) (lo1 := [some (.ref 137), some (.int (Int32.ofInt a1)), some (.int (Int32.ofInt v16)), some (.int (Int32.ofInt v7)), some (.int (Int32.ofInt v17)), some (.int (Int32.ofInt v18)), some (.int (Int32.ofInt (-1))), o20]) (st1 := [.ref 137]) (H1 := mz_mk g4 x) rfl ?_
                refine mz_fgR (v := 140) rfl fd_12_36 (by decide) (sc_137 _) (rf_137_3 _ _ _) ?_
                refine mm_g 1 (pc1 := 132) (lo1 := [some (.ref 137), some (.int (Int32.ofInt a1)), some (.int (Int32.ofInt v16)), some (.int (Int32.ofInt v7)), some (.int (Int32.ofInt v17)), some (.int (Int32.ofInt v18)), some (.int (Int32.ofInt (-1))), o20]) (st1 := [.int (Int32.ofInt 0), .ref 140]) (H1 := mz_mk g4 x) rfl ?_
                refine mz_ia (v := (g 140 0)) rfl (sh_140 _) (by decide) (by decide) (by decide) (show g4 140 0 = (g 140 0) from ((hfg4 140 0 (fun h => (absurd (show 140 = 163 from h) (by decide)))).trans ((hug1.2 140 0 (fun h => absurd h.1 (by decide))).trans rfl))) ?_
                refine mm_g 1 (pc1 := 134) (lo1 := [some (.ref 137), some (.int (Int32.ofInt a1)), some (.int (Int32.ofInt v16)), some (.int (Int32.ofInt v7)), some (.int (Int32.ofInt v17)), some (.int (Int32.ofInt v18)), some (.int (Int32.ofInt (-1))), o20]) (st1 := [.int (Int32.ofInt 1), .int (Int32.ofInt (g 140 0))]) (H1 := mz_mk g4 x) rfl ?_
                refine mz_isub rfl ?_
                refine mm_g 1 (pc1 := 137) (lo1 := [some (.ref 137), some (.int (Int32.ofInt a1)), some (.int (Int32.ofInt v16)), some (.int (Int32.ofInt v7)), some (.int (Int32.ofInt v17)), some (.int (Int32.ofInt v18)), some (.int (Int32.ofInt (-1))), some (.int (Int32.ofInt ((g 140 0) - 1)))]) (st1 := []) (H1 := mz_mk g4 x) rfl ?_
                have L34 : ∀ n33 : Nat, ∀ (v29 : Int) (v30 : Int), (v30 - (-1)).toNat = n33 → (-1) ≤ v29 → v29 ≤ 7 → (-1) ≤ v30 → v30 ≤ 7 → (mz_NI (fun _ _ => True) (mz_pu (g 141) (g 142)) g4 (g 140 0) v16 v17 v29 v30) → (v30 + 1 ≤ (g 140 0)) → mm_W d mmX12_row 137 [some (.ref 137), some (.int (Int32.ofInt a1)), some (.int (Int32.ofInt v16)), some (.int (Int32.ofInt v7)), some (.int (Int32.ofInt v17)), some (.int (Int32.ofInt v18)), some (.int (Int32.ofInt v29)), some (.int (Int32.ofInt v30))] [] (mz_mk g4 x) Q := by
                  intro n33
                  induction n33 using Nat.strongRecOn with
                  | ind n33 ih32 =>
                  intro v29 v30 hmn33 l_v29 u_v29 l_v30 u_v30 hv35 hv36
                  refine mm_g 1 (pc1 := 139) (lo1 := [some (.ref 137), some (.int (Int32.ofInt a1)), some (.int (Int32.ofInt v16)), some (.int (Int32.ofInt v7)), some (.int (Int32.ofInt v17)), some (.int (Int32.ofInt v18)), some (.int (Int32.ofInt v29)), some (.int (Int32.ofInt v30))]) (st1 := [.int (Int32.ofInt v30)]) (H1 := mz_mk g4 x) rfl ?_
                  refine mz_if_lt (tgt := 193) rfl rfl (mz_rg l_v30 u_v30) (fun c139_36 => ?_) (fun c139_36 => ?_)
                  · skip
                    obtain ⟨n0_v29, n1_v29, nc_v29⟩ := mz_NI_end (b := true) hv35 (by omega) rt5 (by omega) (by omega) (by omega) (by omega) hv27 (by have hp := mz_pcA (T := (g 140 0)) (by omega) (by omega); show v17 < mz_A (g 140 0); rcases (by omega : v17 < mz_A (g 140 0) ∨ v17 = mz_A (g 140 0)) with z | z; exact z; rw [← z] at hp; omega)
                    have n2_v29 : v29 ≤ 7 := by omega
                    refine mm_g 3 (pc1 := 198) (lo1 := [some (.ref 137), some (.int (Int32.ofInt a1)), some (.int (Int32.ofInt v16)), some (.int (Int32.ofInt v7)), some (.int (Int32.ofInt v17)), some (.int (Int32.ofInt v18)), some (.int (Int32.ofInt v29)), some (.int (Int32.ofInt v30))]) (st1 := [.int (Int32.ofInt v29), .int (Int32.ofInt 1), .int (Int32.ofInt v17)]) (H1 := mz_mk g4 x) rfl ?_
                    refine mz_ishl rfl (fun v37 e_v37 hwv37 => ?_)
                    have b_v37 : 1 ≤ v37 ∧ v37 ≤ 128 := by rw [e_v37]; exact mz_shl_b (lx := 1) (hx := 1) (k := 7) (by decide) (by decide) (by omega) (by omega) (by omega) (by omega)
                    have l_v37 := b_v37.1
                    have u_v37 := b_v37.2
                    refine mz_ior rfl (fun v38 e_v38 hwv38 => ?_)
                    have b_v38 : 0 ≤ v38 ∧ v38 ≤ 255 := by rw [e_v38]; exact mz_or_lt (n := 8) (by decide) (by omega) (by omega) (by omega) (by omega)
                    have l_v38 := b_v38.1
                    have u_v38 := b_v38.2
                    have wn_v38 := mz_nxA (T := (g 140 0)) (h := v17) (v := v29) (by omega) (by omega) (by omega) (by omega) (by omega) (by omega) nc_v29.1
                    unfold mz_nx at wn_v38
                    rw [← e_v37, ← e_v38] at wn_v38
                    have wn1_v38 := wn_v38.1
                    have wn2_v38 := wn_v38.2.1
                    refine mm_g 3 (pc1 := 205) (lo1 := [some (.ref 137), some (.int (Int32.ofInt a1)), some (.int (Int32.ofInt v29)), some (.int (Int32.ofInt v7)), some (.int (Int32.ofInt v38)), some (.int (Int32.ofInt v18)), some (.int (Int32.ofInt v29)), some (.int (Int32.ofInt v30))]) (st1 := []) (H1 := mz_mk g4 x) rfl ?_
                    refine mz_iincR (v := v18) (lo2 := [some (.ref 137), some (.int (Int32.ofInt a1)), some (.int (Int32.ofInt v29)), some (.int (Int32.ofInt v7)), some (.int (Int32.ofInt v38)), some (.int (Int32.ofInt (v18 + 1))), some (.int (Int32.ofInt v29)), some (.int (Int32.ofInt v30))]) rfl rfl rfl (Nat.le_of_ble_eq_true rfl) rfl ?_
                    refine mz_gt (tgt := 118) rfl rfl ?_
                    exact ih22 ((7 - (v18 + 1)).toNat) (by omega) v29 v38 (v18 + 1) (some (.int (Int32.ofInt v29))) (some (.int (Int32.ofInt v30))) rfl (by omega) (by omega) (by omega) (by omega) (by omega) (by omega) (mz_nl_i _) (mz_nl_i _) (by omega) (by omega) wn_v38.2.2.1 (by have h9 := wn_v38.2.2.2; omega)
                  · skip
                    refine mm_g 2 (pc1 := 146) (lo1 := [some (.ref 137), some (.int (Int32.ofInt a1)), some (.int (Int32.ofInt v16)), some (.int (Int32.ofInt v7)), some (.int (Int32.ofInt v17)), some (.int (Int32.ofInt v18)), some (.int (Int32.ofInt v29)), some (.int (Int32.ofInt v30))]) (st1 := [.int (Int32.ofInt v30), .int (Int32.ofInt v17)]) (H1 := mz_mk g4 x) rfl ?_
                    refine mz_cs rfl mt_12_450 (by decide) rfl (Nat.le_of_ble_eq_true rfl) (by omega) (c_X12_isOf (by omega) hx hIg4 (by omega) (by omega) (by omega) (by omega) (fun v39 l_v39 u_v39 hp40 => ⟨_, rfl, ?_⟩))
                    show mm_W d mmX12_row 149 [some (.ref 137), some (.int (Int32.ofInt a1)), some (.int (Int32.ofInt v16)), some (.int (Int32.ofInt v7)), some (.int (Int32.ofInt v17)), some (.int (Int32.ofInt v18)), some (.int (Int32.ofInt v29)), some (.int (Int32.ofInt v30))] [.int (Int32.ofInt v39)] (mz_mk g4 x) Q
                    refine mz_if_ne (tgt := 187) rfl rfl (mz_rg l_v39 u_v39) (fun c149_40 => ?_) (fun c149_40 => ?_)
                    · skip
                      refine mz_iincR (v := v30) (lo2 := [some (.ref 137), some (.int (Int32.ofInt a1)), some (.int (Int32.ofInt v16)), some (.int (Int32.ofInt v7)), some (.int (Int32.ofInt v17)), some (.int (Int32.ofInt v18)), some (.int (Int32.ofInt v29)), some (.int (Int32.ofInt (v30 + (-1))))]) rfl rfl rfl (Nat.le_of_ble_eq_true rfl) rfl ?_
                      refine mz_gt (tgt := 137) rfl rfl ?_
                      exact ih32 (((v30 + (-1)) - (-1)).toNat) (by omega) v29 (v30 + (-1)) rfl (by omega) (by omega) (by omega) (by omega) (mz_NI_skip hv35 (fun z => by have h9 := z.1; rw [← hp40 (by omega) (by omega) (by omega)] at h9; omega)) (by omega)
                    · skip
                      refine mm_g 3 (pc1 := 156) (lo1 := [some (.ref 137), some (.int (Int32.ofInt a1)), some (.int (Int32.ofInt v16)), some (.int (Int32.ofInt v7)), some (.int (Int32.ofInt v17)), some (.int (Int32.ofInt v18)), some (.int (Int32.ofInt v29)), some (.int (Int32.ofInt v30))]) (st1 := [.int (Int32.ofInt v30), .int (Int32.ofInt v16), .ref 137]) (H1 := mz_mk g4 x) rfl ?_
                      refine mz_cv rfl mt_12_453 (by decide) (sc_137 _) rfl (Nat.le_of_ble_eq_true rfl) (by omega) (c_X12_pushed (by omega) hx hIg4 l_v16 u_v16 (by omega) (by omega) (fun v41 l_v41 u_v41 hp42 hp43 => ⟨_, rfl, ?_⟩))
                      show mm_W d mmX12_row 159 [some (.ref 137), some (.int (Int32.ofInt a1)), some (.int (Int32.ofInt v16)), some (.int (Int32.ofInt v7)), some (.int (Int32.ofInt v17)), some (.int (Int32.ofInt v18)), some (.int (Int32.ofInt v29)), some (.int (Int32.ofInt v30))] [.int (Int32.ofInt v41)] (mz_mk g4 x) Q
                      have pu43 := hp42
                      rw [show g4 141 = g 141 from funext (fun j => ((hfg4 141 j (fun h => (absurd (show 141 = 163 from h) (by decide)))).trans (hug1.2 141 j (fun h => absurd h.1 (by decide))))), show g4 142 = g 142 from funext (fun j => ((hfg4 142 j (fun h => (absurd (show 142 = 163 from h) (by decide)))).trans (hug1.2 142 j (fun h => absurd h.1 (by decide)))))] at pu43
                      refine mm_g 3 (pc1 := 164) (lo1 := [some (.ref 137), some (.int (Int32.ofInt a1)), some (.int (Int32.ofInt v16)), some (.int (Int32.ofInt v7)), some (.int (Int32.ofInt v17)), some (.int (Int32.ofInt v18)), some (.int (Int32.ofInt v29)), some (.int (Int32.ofInt v30))]) (st1 := [.int (Int32.ofInt v17), .int (Int32.ofInt v30), .ref 137, .int (Int32.ofInt v41)]) (H1 := mz_mk g4 x) rfl ?_
                      refine mz_cv rfl mt_12_456 (by decide) (sc_137 _) rfl (Nat.le_of_ble_eq_true rfl) (by omega) (c_X12_madeOn (by omega) hx hIg4 (by omega) (by omega) (by omega) (by omega) (fun v44 l_v44 u_v44 hp45 => ⟨_, rfl, ?_⟩))
                      show mm_W d mmX12_row 167 [some (.ref 137), some (.int (Int32.ofInt a1)), some (.int (Int32.ofInt v16)), some (.int (Int32.ofInt v7)), some (.int (Int32.ofInt v17)), some (.int (Int32.ofInt v18)), some (.int (Int32.ofInt v29)), some (.int (Int32.ofInt v30))] [.int (Int32.ofInt v44), .int (Int32.ofInt v41)] (mz_mk g4 x) Q
                      have mb45 := mz_ET_made (v := v30) (mz_ET_ge (h := v17) rt5 (by omega)) (by omega) (by omega) (by omega) (by omega) (by omega) (by omega) (by rw [← hp40 (by omega) (by omega) (by omega)]; omega)
                      simp only [mz_cf] at mb45
                      rw [← hp45] at mb45
                      refine mz_iadd rfl ?_
                      refine mm_g 1 (pc1 := 169) (lo1 := [some (.ref 137), some (.int (Int32.ofInt a1)), some (.int (Int32.ofInt v16)), some (.int (Int32.ofInt v7)), some (.int (Int32.ofInt v17)), some (.int (Int32.ofInt v18)), some (.int (Int32.ofInt v29)), some (.int (Int32.ofInt v30))]) (st1 := [.ref 137, .int (Int32.ofInt (v41 + v44))]) (H1 := mz_mk g4 x) rfl ?_
                      refine mz_fgR (v := 163) rfl fd_12_106 (by decide) (sc_137 _) (rf_137_41 _ _ _) ?_
                      refine mm_g 1 (pc1 := 173) (lo1 := [some (.ref 137), some (.int (Int32.ofInt a1)), some (.int (Int32.ofInt v16)), some (.int (Int32.ofInt v7)), some (.int (Int32.ofInt v17)), some (.int (Int32.ofInt v18)), some (.int (Int32.ofInt v29)), some (.int (Int32.ofInt v30))]) (st1 := [.int (Int32.ofInt v16), .ref 163, .int (Int32.ofInt (v41 + v44))]) (H1 := mz_mk g4 x) rfl ?_
                      refine mz_bip rfl bip_8 ?_
                      refine mz_ishl rfl (fun v46 e_v46 hwv46 => ?_)
                      have b_v46 : 0 ≤ v46 ∧ v46 ≤ 1792 := by rw [e_v46]; exact mz_shl_b (lx := 0) (hx := 7) (k := 8) (by decide) (by decide) (by omega) (by omega) (by omega) (by omega)
                      have l_v46 := b_v46.1
                      have u_v46 := b_v46.2
                      refine mm_g 1 (pc1 := 178) (lo1 := [some (.ref 137), some (.int (Int32.ofInt a1)), some (.int (Int32.ofInt v16)), some (.int (Int32.ofInt v7)), some (.int (Int32.ofInt v17)), some (.int (Int32.ofInt v18)), some (.int (Int32.ofInt v29)), some (.int (Int32.ofInt v30))]) (st1 := [.int (Int32.ofInt v17), .int (Int32.ofInt v46), .ref 163, .int (Int32.ofInt (v41 + v44))]) (H1 := mz_mk g4 x) rfl ?_
                      refine mz_iadd rfl ?_
                      refine mz_aI rfl (sh_163 _) (by omega) (by omega) (by decide) hIg4 (ba_163 _) (fun v47 e_v47 l_v47 u_v47 => ?_)
                      have goe47 := mz_go_at (g := g4) (h := v17) e_v46 (by omega) (by omega) e_v47
                      refine mz_ic_ne (tgt := 187) rfl rfl ⟨by omega, by omega⟩ (mz_rg l_v47 u_v47) (fun c180_47 => ?_) (fun c180_47 => ?_)
                      · skip
                        refine mz_iincR (v := v30) (lo2 := [some (.ref 137), some (.int (Int32.ofInt a1)), some (.int (Int32.ofInt v16)), some (.int (Int32.ofInt v7)), some (.int (Int32.ofInt v17)), some (.int (Int32.ofInt v18)), some (.int (Int32.ofInt v29)), some (.int (Int32.ofInt (v30 + (-1))))]) rfl rfl rfl (Nat.le_of_ble_eq_true rfl) rfl ?_
                        refine mz_gt (tgt := 137) rfl rfl ?_
                        exact ih32 (((v30 + (-1)) - (-1)).toNat) (by omega) v29 (v30 + (-1)) rfl (by omega) (by omega) (by omega) (by omega) (mz_NI_skip hv35 (fun z => by have h9 : mz_pu (g 141) (g 142) v16 v30 + mz_go g4 v30 (mz_nx v17 v30) = mz_go g4 v16 v17 := z.2.2; rw [← pu43, ← hp45, goe47] at h9; omega)) (by omega)
                      · skip
                        refine mm_g 2 (pc1 := 187) (lo1 := [some (.ref 137), some (.int (Int32.ofInt a1)), some (.int (Int32.ofInt v16)), some (.int (Int32.ofInt v7)), some (.int (Int32.ofInt v17)), some (.int (Int32.ofInt v18)), some (.int (Int32.ofInt v30)), some (.int (Int32.ofInt v30))]) (st1 := []) (H1 := mz_mk g4 x) rfl ?_
                        refine mz_iincR (v := v30) (lo2 := [some (.ref 137), some (.int (Int32.ofInt a1)), some (.int (Int32.ofInt v16)), some (.int (Int32.ofInt v7)), some (.int (Int32.ofInt v17)), some (.int (Int32.ofInt v18)), some (.int (Int32.ofInt v30)), some (.int (Int32.ofInt (v30 + (-1))))]) rfl rfl rfl (Nat.le_of_ble_eq_true rfl) rfl ?_
                        refine mz_gt (tgt := 137) rfl rfl ?_
                        exact ih32 (((v30 + (-1)) - (-1)).toNat) (by omega) v30 (v30 + (-1)) rfl (by omega) (by omega) (by omega) (by omega) (mz_NI_take (by omega) (by omega) ⟨(by rw [← hp40 (by omega) (by omega) (by omega)]; omega), trivial, (show mz_pu (g 141) (g 142) v16 v30 + mz_go g4 v30 (mz_nx v17 v30) = mz_go g4 v16 v17 by rw [← pu43, ← hp45, goe47]; omega)⟩) (by omega)
                exact L34 _ (-1) ((g 140 0) - 1) rfl (by decide) (by decide) (by omega) (by omega) (mz_NI_0 (by omega)) (by omega)
            exact L24 _ v6 v15 0 none none rfl (by omega) (by omega) (by omega) (by omega) (by decide) (by decide) mz_nl_n mz_nl_n (by omega) (by omega) wf.2.2.1 (by have h9 := wf.2.2.2.1; omega)
          · skip
            refine mm_g 1 (pc1 := 109) (lo1 := [some (.ref 137), some (.int (Int32.ofInt a1)), some (.int (Int32.ofInt v6)), some (.int (Int32.ofInt v7)), some (.int (Int32.ofInt v8)), o9, none, none]) (st1 := [.int (Int32.ofInt v7)]) (H1 := mz_mk g4 x) rfl ?_
            exact mm_rt rfl rfl (hQ _ _ hIg4 (fun k j hk => ((hfg4 k j (fun h => hk (Or.inr h))).trans (hug1.2 k j (fun h => hk (Or.inl h))))) (by omega) (by omega) (by have h9 := (show g4 137 30 = (g 137 30) from ((hfg4 137 30 (fun h => (absurd (show 137 = 163 from h) (by decide)))).trans ((hug1.2 137 30 (fun h => absurd h.2 (by decide))).trans rfl))); omega))
        · skip
          refine mm_g 1 (pc1 := 66) (lo1 := [some (.ref 137), some (.int (Int32.ofInt a1)), some (.int (Int32.ofInt v6)), some (.int (Int32.ofInt v7)), some (.int (Int32.ofInt v8)), o9, none, none]) (st1 := [.ref 137]) (H1 := mz_mk g4 x) rfl ?_
          refine mz_fgR (v := 142) rfl fd_12_43 (by decide) (sc_137 _) (rf_137_5 _ _ _) ?_
          refine mm_g 1 (pc1 := 71) (lo1 := [some (.ref 137), some (.int (Int32.ofInt a1)), some (.int (Int32.ofInt v6)), some (.int (Int32.ofInt v7)), some (.int (Int32.ofInt v8)), o9, none, none]) (st1 := [.int (Int32.ofInt v8), .ref 142]) (H1 := mz_mk g4 x) rfl ?_
          refine mz_aI rfl (sh_142 _) (by omega) (by omega) (by decide) hIg4 (ba_142 _) (fun v48 e_v48 l_v48 u_v48 => ?_)
          refine mm_g 3 (pc1 := 76) (lo1 := [some (.ref 137), some (.int (Int32.ofInt a1)), some (.int (Int32.ofInt v6)), some (.int (Int32.ofInt v7)), some (.int (Int32.ofInt v8)), o9, none, none]) (st1 := [.int (Int32.ofInt 0), .int (Int32.ofInt v8), .ref 137, .int (Int32.ofInt v48)]) (H1 := mz_mk g4 x) rfl ?_
          refine mz_cv rfl mt_12_456 (by decide) (sc_137 _) rfl (Nat.le_of_ble_eq_true rfl) (by omega) (c_X12_madeOn (by omega) hx hIg4 (by omega) (by omega) (by decide) (by decide) (fun v49 l_v49 u_v49 hp50 => ⟨_, rfl, ?_⟩))
          show mm_W d mmX12_row 79 [some (.ref 137), some (.int (Int32.ofInt a1)), some (.int (Int32.ofInt v6)), some (.int (Int32.ofInt v7)), some (.int (Int32.ofInt v8)), o9, none, none] [.int (Int32.ofInt v49), .int (Int32.ofInt v48)] (mz_mk g4 x) Q
          have mb50 := mz_ET_made (v := v8) rt5 (by omega) (by omega) (by omega) (by omega) (by omega) (by omega) (mz_bit0 (by omega) (by omega))
          simp only [mz_cf] at mb50
          rw [← hp50] at mb50
          refine mz_iadd rfl ?_
          refine mm_g 3 (pc1 := 85) (lo1 := [some (.ref 137), some (.int (Int32.ofInt a1)), some (.int (Int32.ofInt v6)), some (.int (Int32.ofInt v7)), some (.int (Int32.ofInt v8)), some (.int (Int32.ofInt (v48 + v49))), none, none]) (st1 := [.int (Int32.ofInt v7), .int (Int32.ofInt (v48 + v49))]) (H1 := mz_mk g4 x) rfl ?_
          refine mz_ic_lt (tgt := 91) rfl rfl ⟨by omega, by omega⟩ (mz_rg l_v7 u_v7) (fun c85_50 => ?_) (fun c85_50 => ?_)
          · skip
            refine mm_g 4 (pc1 := 97) (lo1 := [some (.ref 137), some (.int (Int32.ofInt a1)), some (.int (Int32.ofInt v8)), some (.int (Int32.ofInt (v48 + v49))), some (.int (Int32.ofInt v8)), some (.int (Int32.ofInt (v48 + v49))), none, none]) (st1 := []) (H1 := mz_mk g4 x) rfl ?_
            refine mz_iincR (v := v8) (lo2 := [some (.ref 137), some (.int (Int32.ofInt a1)), some (.int (Int32.ofInt v8)), some (.int (Int32.ofInt (v48 + v49))), some (.int (Int32.ofInt (v8 + 1))), some (.int (Int32.ofInt (v48 + v49))), none, none]) rfl rfl rfl (Nat.le_of_ble_eq_true rfl) rfl ?_
            refine mz_gt (tgt := 54) rfl rfl ?_
            exact ih11 ((8 - (v8 + 1)).toNat) (by omega) v8 (v48 + v49) (v8 + 1) (some (.int (Int32.ofInt (v48 + v49)))) rfl (by omega) (by omega) (by omega) (by omega) (by omega) (by omega) (mz_nl_i _) (by omega)
          · skip
            refine mz_gt (tgt := 97) rfl rfl ?_
            refine mz_iincR (v := v8) (lo2 := [some (.ref 137), some (.int (Int32.ofInt a1)), some (.int (Int32.ofInt v6)), some (.int (Int32.ofInt v7)), some (.int (Int32.ofInt (v8 + 1))), some (.int (Int32.ofInt (v48 + v49))), none, none]) rfl rfl rfl (Nat.le_of_ble_eq_true rfl) rfl ?_
            refine mz_gt (tgt := 54) rfl rfl ?_
            exact ih11 ((8 - (v8 + 1)).toNat) (by omega) v6 v7 (v8 + 1) (some (.int (Int32.ofInt (v48 + v49)))) rfl (by omega) (by omega) (by omega) (by omega) (by omega) (by omega) (mz_nl_i _) (by omega)
      exact L13 _ (-1) 100000 0 none rfl (by decide) (by decide) (by decide) (by decide) (by decide) (by decide) mz_nl_n (by omega)
    · skip
      refine mm_g 1 (pc1 := 41) (lo1 := [some (.ref 137), some (.int (Int32.ofInt a1)), none, none, none, none, none, none]) (st1 := [.int (Int32.ofInt 0)]) (H1 := mz_mk g1 x) rfl ?_
      exact mm_rt rfl rfl (hQ _ _ hIg1 (fun k j hk => (hug1.2 k j (fun h => hk (Or.inl h)))) (by decide) (by decide) (by have h9 := (show g1 137 30 = (g 137 30) from ((hug1.2 137 30 (fun h => absurd h.2 (by decide))).trans rfl)); omega))
  · skip
    refine mm_g 2 (pc1 := 27) (lo1 := [some (.ref 137), some (.int (Int32.ofInt a1)), none, none, none, none, none, none]) (st1 := [.int (Int32.ofInt 1), .ref 137]) (H1 := mz_mk g1 x) rfl ?_
    refine mz_cv rfl mt_12_294 (by decide) (sc_137 _) rfl (Nat.le_of_ble_eq_true rfl) (by omega) (c_X12_fail (by omega) hx hIg1 (by decide) (by decide) (fun v51 g52 hIg52 hfg52 l_v51 u_v51 => ⟨_, rfl, ?_⟩))
    show mm_W d mmX12_row 30 [some (.ref 137), some (.int (Int32.ofInt a1)), none, none, none, none, none, none] [.int (Int32.ofInt v51)] (mz_mk g52 x) Q
    exact mm_rt rfl rfl (hQ _ _ hIg52 (fun k j hk => ((hfg52 k j (fun h => hk (Or.inl h))).trans (hug1.2 k j (fun h => hk (Or.inl h))))) (by omega) (by omega) (by have h9 := (show g52 137 30 = (g 137 30) from ((hfg52 137 30 (fun h => (absurd (show (137 = 137 ∧ 30 = 2) from h) (by decide)))).trans ((hug1.2 137 30 (fun h => absurd h.2 (by decide))).trans rfl))); omega))
