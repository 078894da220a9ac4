/-! SEGMENTS of the rule in postfix form -/
def mz_rn (f : Nat → Int) (p : Nat) : Nat → Nat → Option Nat
  | 0, n => some n
  | k + 1, n => match mz_rn f p k n with
    | none => none
    | some m => mz_ds (f (p + k)) m
def mz_sg (f : Nat → Int) (p q h : Nat) : Prop := p ≤ q ∧ ∀ n, mz_rn f p (q - p) n = some (n + 1) ∧ ∀ k, k ≤ q - p → ∃ m, m ≤ n + h ∧ mz_rn f p k n = some m
theorem mz_rn_fr {f f1 : Nat → Int} {p : Nat} : ∀ {k : Nat}, (∀ j, p ≤ j → j < p + k → f1 j = f j) → ∀ n, mz_rn f1 p k n = mz_rn f p k n
  | 0, _, n => rfl
  | k + 1, h, n => by
    rw [mz_rn, mz_rn, mz_rn_fr (k := k) (fun j h1 h2 => h j h1 (by omega)) n, h (p + k) (by omega) (by omega)]
theorem mz_sg_fr {f f1 : Nat → Int} {p q h : Nat} (hs : mz_sg f p q h) (hf : ∀ j, p ≤ j → j < q → f1 j = f j) : mz_sg f1 p q h := by
  refine ⟨hs.1, fun n => ⟨?_, fun k hk => ?_⟩⟩
  · rw [mz_rn_fr (fun j h1 h2 => hf j h1 (by have := hs.1; omega)) n]; exact (hs.2 n).1
  · rw [mz_rn_fr (fun j h1 h2 => hf j h1 (by have := hs.1; omega)) n]; exact (hs.2 n).2 k hk
theorem mz_rn_add {f : Nat → Int} {p a n m : Nat} (h1 : mz_rn f p a n = some m) : ∀ b, mz_rn f p (a + b) n = mz_rn f (p + a) b m
  | 0 => by rw [Nat.add_zero, h1]; rfl
  | b + 1 => by
    rw [← Nat.add_assoc, mz_rn, mz_rn, mz_rn_add h1 b, Nat.add_assoc]
theorem mz_sg_val {f : Nat → Int} {p h : Nat} (hv : -7 ≤ f p) (hh : 1 ≤ h) : mz_sg f p (p + 1) h := by
  have e : ∀ n, mz_rn f p 1 n = some (n + 1) := fun n => by
    simp only [mz_rn, Nat.add_zero, mz_ds]
    rw [if_pos (by omega), if_pos hv]
  refine ⟨by omega, fun n => ⟨?_, fun k hk => ?_⟩⟩
  · rw [show p + 1 - p = 1 by omega]; exact e n
  · rcases (by omega : k = 0 ∨ k = 1) with rfl | rfl
    · exact ⟨n, by omega, rfl⟩
    · exact ⟨n + 1, by omega, e n⟩
theorem mz_sg_bin {f : Nat → Int} {p q r h1 h2 h : Nat} (a : mz_sg f p q h1) (b : mz_sg f q r h2) (hs : f r ≤ -20 ∧ f r ≠ -28 ∧ -28 ≤ f r) (e1 : h1 ≤ h) (e2 : h2 + 1 ≤ h) : mz_sg f p (r + 1) h := by
  have a0 := a.1
  have b0 := b.1
  refine ⟨by omega, fun n => ?_⟩
  obtain ⟨a1, a2⟩ := a.2 n
  obtain ⟨b1, b2⟩ := b.2 (n + 1)
  have c1 : ∀ k, mz_rn f p ((q - p) + k) n = mz_rn f q k (n + 1) := fun k => by
    rw [mz_rn_add a1 k, show p + (q - p) = q by omega]
  have c2 : mz_rn f p (r + 1 - p) n = some (n + 1) := by
    rw [show r + 1 - p = ((q - p) + (r - q)) + 1 by omega, mz_rn, c1, b1]
    show mz_ds (f (p + ((q - p) + (r - q)))) (n + 1 + 1) = _
    rw [show p + ((q - p) + (r - q)) = r by omega]
    unfold mz_ds
    rw [if_neg (by omega), if_neg hs.2.1, if_pos (by omega)]
    rfl
  refine ⟨c2, fun k hk => ?_⟩
  rcases (by omega : k ≤ q - p ∨ (q - p ≤ k ∧ k ≤ r - p) ∨ k = r + 1 - p) with z | z | z
  · obtain ⟨m, m1, m2⟩ := a2 k z
    exact ⟨m, by omega, m2⟩
  · obtain ⟨m, m1, m2⟩ := b2 (k - (q - p)) (by omega)
    refine ⟨m, by omega, ?_⟩
    rw [← c1, show (q - p) + (k - (q - p)) = k by omega] at m2
    exact m2
  · exact ⟨n + 1, by omega, by rw [z]; exact c2⟩
theorem mz_sg_not {f : Nat → Int} {p q h : Nat} (a : mz_sg f p q h) (hs : f q = -28) (hh : 1 ≤ h) : mz_sg f p (q + 1) h := by
  have a0 := a.1
  refine ⟨by omega, fun n => ?_⟩
  obtain ⟨a1, a2⟩ := a.2 n
  have c2 : mz_rn f p (q + 1 - p) n = some (n + 1) := by
    rw [show q + 1 - p = (q - p) + 1 by omega, mz_rn, a1]
    show mz_ds (f (p + (q - p))) (n + 1) = _
    rw [show p + (q - p) = q by omega, hs]
    unfold mz_ds
    rw [if_neg (by decide), if_pos rfl, if_pos (by omega)]
  refine ⟨c2, fun k hk => ?_⟩
  rcases (by omega : k ≤ q - p ∨ k = q + 1 - p) with z | z
  · exact a2 k z
  · exact ⟨n + 1, by omega, by rw [z]; exact c2⟩
theorem mz_sg_up {f : Nat → Int} {p q h h1 : Nat} (a : mz_sg f p q h) (e : h ≤ h1) : mz_sg f p q h1 :=
  ⟨a.1, fun n => ⟨(a.2 n).1, fun k hk => by obtain ⟨m, m1, m2⟩ := (a.2 n).2 k hk; exact ⟨m, by omega, m2⟩⟩⟩
/-- the part of the told rule's signs from a to b is one value, of at most so much depth (h : Int) -/
def mz_SG (g : mz_G) (a b h : Int) : Prop := 0 ≤ a ∧ a ≤ b ∧ mz_sg (g 149) (700 + a).toNat (700 + b).toNat h.toNat
theorem mz_SG_fr {g g1 : mz_G} {a b h : Int} (A : mz_SG g a b h) (hf : ∀ j : Nat, (j : Int) < 700 + b → g1 149 j = g 149 j) : mz_SG g1 a b h :=
  ⟨A.1, A.2.1, mz_sg_fr A.2.2 (fun j h1 h2 => hf j (by have := A.1; have := A.2.1; omega))⟩
theorem mz_SG_up {g : mz_G} {a b h h1 : Int} (A : mz_SG g a b h) (e : h ≤ h1) : mz_SG g a b h1 := ⟨A.1, A.2.1, mz_sg_up A.2.2 (by omega)⟩
theorem mz_SG_val {g : mz_G} {a h : Int} (h0 : 0 ≤ a) (hv : -7 ≤ g 149 (700 + a).toNat) (hh : 1 ≤ h) : mz_SG g a (a + 1) h := by
  refine ⟨h0, by omega, ?_⟩
  rw [show (700 + (a + 1)).toNat = (700 + a).toNat + 1 by omega]
  exact mz_sg_val hv (by omega)
theorem mz_SG_bin {g : mz_G} {a b c h1 h2 h s : Int} (A : mz_SG g a b h1) (B : mz_SG g b c h2) (hg : g 149 (700 + c).toNat = s) (hs : s ≤ -20 ∧ s ≠ -28 ∧ -28 ≤ s) (e1 : h1 ≤ h) (e2 : h2 + 1 ≤ h) (h20 : 0 ≤ h2) : mz_SG g a (c + 1) h := by
  have := A.1; have := A.2.1; have := B.2.1
  refine ⟨A.1, by omega, ?_⟩
  rw [show (700 + (c + 1)).toNat = (700 + c).toNat + 1 by omega]
  exact mz_sg_bin A.2.2 B.2.2 (by rw [hg]; exact hs) (by omega) (by omega)
theorem mz_SG_not {g : mz_G} {a b h : Int} (A : mz_SG g a b h) (hg : g 149 (700 + b).toNat = -28) (hh : 1 ≤ h) : mz_SG g a (b + 1) h := by
  have := A.1; have := A.2.1
  refine ⟨A.1, by omega, ?_⟩
  rw [show (700 + (b + 1)).toNat = (700 + b).toNat + 1 by omega]
  exact mz_sg_not A.2.2 hg (by omega)
/-- laid behind two: the first from a heap before -/
theorem mz_SG_lay {g0 g2 g3 : mz_G} {a b c h1 h2 h s : Int} (A : mz_SG g0 a b h1) (hA : ∀ j : Nat, (j : Int) < 700 + b → g2 149 j = g0 149 j) (B : mz_SG g2 b c h2) (hL : ∀ j : Nat, (j : Int) ≠ 700 + c → g3 149 j = g2 149 j) (hg : g3 149 (700 + c).toNat = s) (hs : s ≤ -20 ∧ s ≠ -28 ∧ -28 ≤ s) (e1 : h1 ≤ h) (e2 : h2 + 1 ≤ h) (h20 : 0 ≤ h2) : mz_SG g3 a (c + 1) h := by
  have hb := B.2.1
  exact mz_SG_bin (mz_SG_fr (mz_SG_fr A hA) (fun j hj => hL j (by omega))) (mz_SG_fr B (fun j hj => hL j (by omega))) hg hs e1 e2 h20
theorem mz_SG_layn {g0 g3 : mz_G} {a b h : Int} (A : mz_SG g0 a b h) (hL : ∀ j : Nat, (j : Int) ≠ 700 + b → g3 149 j = g0 149 j) (hg : g3 149 (700 + b).toNat = -28) (hh : 1 ≤ h) : mz_SG g3 a (b + 1) h :=
  mz_SG_not (mz_SG_fr A (fun j hj => hL j (by omega))) hg hh
/-- how far a loop of tokens still is: of a fault nothing -/
def mz_m (bad begins : Int) : Nat := if bad = 0 then (702 - begins).toNat else 0
theorem mz_m_lt {b e b1 e1 : Int} (h : b = 0) (h2 : e ≤ 700) (h3 : b1 = 0 → e < e1) : mz_m b1 e1 < mz_m b e := by
  unfold mz_m
  rw [if_pos h]
  split
  · have := h3 (by assumption); omega
  · omega
/-- words that omega is not to see -/
def mz_H (P : Prop) : Prop := P
theorem mz_hd {P : Prop} (h : P) : mz_H P := h
theorem mz_un {P : Prop} (h : mz_H P) : P := h
def mz_IS (b : Int) (P : Prop) : Prop := b = 0 → P
theorem mz_isU {b : Int} {P : Prop} (h : mz_IS b P) (hb : b = 0) : P := h hb
theorem mz_isI {b : Int} {P : Prop} (h : b = 0 → P) : mz_IS b P := h
theorem zf_mm (b : Int) {e : Int} (h : 0 ≤ e) : mz_m b e < 3000000000 := by
  unfold mz_m
  split <;> omega
theorem ksa_138 : mk_sa 138 2 := by unfold mk_sa; decide
theorem ksa_139 : mk_sa 139 7 := by unfold mk_sa; decide
