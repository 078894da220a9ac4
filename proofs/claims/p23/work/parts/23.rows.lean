/-! rows of the past; the rule's depth (wip/p2/tools/mk22.py) -/
def mk_rw (q n : Nat) : Prop := (q = 156 ∧ n = 1000) ∨ (q = 162 ∧ n = 25) ∨ (q = 169 ∧ n = 25) ∨ (q = 173 ∧ n = 25)
theorem rwp_156 : mk_rw 156 1000 := by unfold mk_rw; decide
theorem rwp_162 : mk_rw 162 25 := by unfold mk_rw; decide
theorem rwp_169 : mk_rw 169 25 := by unfold mk_rw; decide
theorem rwp_173 : mk_rw 173 25 := by unfold mk_rw; decide
theorem rw_sh {q n : Nat} (h : mk_rw q n) (L : Nat) : mm_SH L q = (100, n) := by rcases h with ⟨rfl, rfl⟩ | ⟨rfl, rfl⟩ | ⟨rfl, rfl⟩ | ⟨rfl, rfl⟩ <;> rfl
theorem rw_m {q n : Nat} (h : mk_rw q n) : n ≤ 100000 := by unfold mk_rw at h; omega
theorem rw_b {q n : Nat} (h : mk_rw q n) (j : Nat) : mz_bd q j = mz_rowb j := by rcases h with ⟨rfl, rfl⟩ | ⟨rfl, rfl⟩ | ⟨rfl, rfl⟩ | ⟨rfl, rfl⟩ <;> rfl
theorem rwb0 {q n : Nat} (h : mk_rw q n) {a f : Int} (h0 : 0 ≤ f ∧ f % 25 = 0) (h1 : f ≤ a) (h2 : a ≤ f) : mz_bd q a.toNat = (0, 999) := by
  rw [rw_b h]; unfold mz_rowb; rw [if_pos (by omega)]
theorem rwb1 {q n : Nat} (h : mk_rw q n) {a f : Int} (h0 : 0 ≤ f ∧ f % 25 = 0) (h1 : f + 1 ≤ a) (h2 : a ≤ f + 6) : mz_bd q a.toNat = (0, 8) := by
  rw [rw_b h]; unfold mz_rowb; rw [if_neg (by omega), if_pos (by omega)]
theorem rwb2 {q n : Nat} (h : mk_rw q n) {a f : Int} (h0 : 0 ≤ f ∧ f % 25 = 0) (h1 : f + 7 ≤ a) (h2 : a ≤ f + 18) : mz_bd q a.toNat = (0, 7) := by
  rw [rw_b h]; unfold mz_rowb; rw [if_neg (by omega), if_neg (by omega), if_pos (by omega)]
theorem rwb3 {q n : Nat} (h : mk_rw q n) {a f : Int} (h0 : 0 ≤ f ∧ f % 25 = 0) (h1 : f + 19 ≤ a) (h2 : a ≤ f + 24) : mz_bd q a.toNat = (-2147483648, 2147483647) := by
  rw [rw_b h]; unfold mz_rowb; rw [if_neg (by omega), if_neg (by omega), if_neg (by omega)]
theorem rwk {a : Int} (h : 25 ≤ a) : mz_bd 156 (a - 25).toNat = mz_bd 156 a.toNat := by
  show mz_rowb _ = mz_rowb _
  unfold mz_rowb
  rw [show (a - 25).toNat % 25 = a.toNat % 25 by omega]
theorem told_le (j : Nat) : 0 ≤ (mz_bd 140 j).1 ∧ (mz_bd 140 j).2 ≤ 700 := by
  show 0 ≤ (mz_toldb j).1 ∧ (mz_toldb j).2 ≤ 700
  unfold mz_toldb
  split
  · decide
  · split
    · decide
    · split <;> decide
def mz_bit (s k : Int) : Int := mz_andI (mz_shrI s k) 1
theorem mz_bit_all : ∀ s : Fin 64, (∀ k : Fin 6, mz_bit (s.val : Int) (k.val : Int) = 0) → s.val = 0 := by decide +kernel
theorem mz_bit_ex {s t : Int} (h1 : 1 ≤ s) (h2 : s ≤ 63) (h0 : 0 ≤ t) (h : ∀ i : Int, 0 ≤ i → i < t → mz_bit s i = 0) : t ≤ 5 := by
  rcases (by omega : 5 < t ∨ t ≤ 5) with z | z
  · exfalso
    have e := mz_bit_all ⟨s.toNat, by omega⟩ (fun k => by
      have hk := k.isLt
      have := h (k.val : Int) (by omega) (by omega)
      rwa [show ((s.toNat : Nat) : Int) = s by omega])
    dsimp only at e
    omega
  · exact z
theorem mz_clr_all : ∀ s : Fin 64, ∀ k : Fin 6, mz_bit (s.val : Int) (k.val : Int) ≠ 0 → mz_andI (s.val : Int) (mz_xorI (mz_shlI 1 (k.val : Int)) (-1)) < (s.val : Int) := by decide +kernel
theorem mz_clr {s t a b c : Int} (ea : a = mz_shlI 1 t) (eb : b = mz_xorI a (-1)) (ec : c = mz_andI s b) (h1 : 0 ≤ s) (h2 : s ≤ 63) (h3 : 0 ≤ t) (h4 : t ≤ 5) (hb : mz_bit s t ≠ 0) : c < s := by
  have := mz_clr_all ⟨s.toNat, by omega⟩ ⟨t.toNat, by omega⟩
  dsimp only at this
  rw [show ((s.toNat : Nat) : Int) = s by omega, show ((t.toNat : Nat) : Int) = t by omega] at this
  rw [ec, eb, ea]
  exact this hb
theorem mk_sa_n {q n : Nat} (h : mk_sa q n) : n ≤ 7 := by unfold mk_sa at h; omega
def mz_byte (g : mz_G) (a : Int) : Int := if a < g 137 17 then g 151 a.toNat else -1
theorem mz_byte_eq {g g1 : mz_G} {a : Int} (h1 : g1 137 17 = g 137 17) (h2 : ∀ j, g1 151 j = g 151 j) : mz_byte g1 a = mz_byte g a := by
  unfold mz_byte
  rw [h1, h2]
def mz_ds (s : Int) (n : Nat) : Option Nat := if -20 < s then (if -7 ≤ s then some (n + 1) else none) else if s = -28 then (if 1 ≤ n then some n else none) else (if 2 ≤ n ∧ -28 ≤ s then some (n - 1) else none)
def mz_dst (f : Nat → Int) : Nat → Option Nat
  | 0 => some 0
  | k + 1 => match mz_dst f k with
    | none => none
    | some n => mz_ds (f k) n
def mz_pv (g : mz_G) : Prop := ∀ k : Nat, (k : Int) ≤ g 140 3 → ∃ n, n ≤ 40 ∧ mz_dst (g 149) k = some n
theorem mz_pv_fr {g g1 : mz_G} (h : mz_pv g) (h1 : ∀ j, g1 149 j = g 149 j) (h2 : g1 140 3 = g 140 3) : mz_pv g1 := by
  have e : g1 149 = g 149 := funext h1
  intro k hk
  rw [e]
  exact h k (by omega)
theorem mz_dst_next {g : mz_G} (h : mz_pv g) {k n s t : Int} (hk : 0 ≤ k) (hd : mz_dst (g 149) k.toNat = some n.toNat) (hn : 0 ≤ n) (ht : g 140 3 = t) (hkt : k < t) (hs : g 149 k.toNat = s) : (-20 < s → -7 ≤ s ∧ n + 1 ≤ 40 ∧ mz_dst (g 149) (k + 1).toNat = some (n + 1).toNat) ∧ (s = -28 → 1 ≤ n ∧ mz_dst (g 149) (k + 1).toNat = some n.toNat) ∧ (s ≤ -20 ∧ s ≠ -28 → 2 ≤ n ∧ mz_dst (g 149) (k + 1).toNat = some (n + (-1)).toNat) := by
  obtain ⟨m, hm, e⟩ := h (k + 1).toNat (by omega)
  rw [show (k + 1).toNat = k.toNat + 1 by omega] at e ⊢
  have e2 := e
  simp only [mz_dst, hd, hs, mz_ds] at e2
  rw [e]
  refine ⟨fun z => ?_, fun z => ?_, fun ⟨z, z2⟩ => ?_⟩
  · rw [if_pos z] at e2
    split at e2
    · cases e2; exact ⟨by omega, by omega, by congr 1; omega⟩
    · cases e2
  · rw [if_neg (by omega), if_pos z] at e2
    split at e2
    · cases e2; exact ⟨by omega, by congr 1⟩
    · cases e2
  · rw [if_neg (by omega), if_neg z2] at e2
    split at e2
    · cases e2; exact ⟨by omega, by congr 1; omega⟩
    · cases e2
/-! what overlaps, what stands behind: functions of the heap -/
def mz_mt (fl fn : Nat → Int) (a b n i : Int) : Prop := fl (8 * a + (fn a.toNat - n + i)).toNat = fl (8 * b + i).toNat
def mz_mm (fl fn : Nat → Int) (a b n k : Int) : Prop := ∃ i, 0 ≤ i ∧ i < k ∧ ¬ mz_mt fl fn a b n i
def mz_ovr (fl fn : Nat → Int) (a b r : Int) : Prop := 0 ≤ r ∧ (0 < r → r + 1 ≤ fn a.toNat ∧ r + 1 ≤ fn b.toNat ∧ ∀ i, 0 ≤ i → i < r → mz_mt fl fn a b r i) ∧ ∀ n, r < n → n + 1 ≤ fn a.toNat → n + 1 ≤ fn b.toNat → mz_mm fl fn a b n n
theorem mz_ovr_u {fl fn : Nat → Int} {a b r s : Int} (h1 : mz_ovr fl fn a b r) (h2 : mz_ovr fl fn a b s) : ¬ r < s := by
  intro h
  have h10 := h1.1
  obtain ⟨z1, z2, z3⟩ := h2.2.1 (by omega)
  obtain ⟨i, i0, i1, i2⟩ := h1.2.2 s h z1 z2
  exact i2 (z3 i i0 i1)
noncomputable def mz_ov (fl fn : Nat → Int) (a b : Int) : Int := @dite Int (∃ r, mz_ovr fl fn a b r) (Classical.propDecidable _) (fun h => Classical.choose h) (fun _ => 0)
theorem mz_ov_eq {fl fn : Nat → Int} {a b r : Int} (h : mz_ovr fl fn a b r) : r = mz_ov fl fn a b := by
  have hx : ∃ r, mz_ovr fl fn a b r := ⟨r, h⟩
  have e : mz_ov fl fn a b = Classical.choose hx := dif_pos hx
  rw [e]
  have h2 := Classical.choose_spec hx
  have h3 := mz_ovr_u h h2
  have h4 := mz_ovr_u h2 h
  omega
noncomputable def mz_pu (fl fn : Nat → Int) (a b : Int) : Int := fn b.toNat - mz_ov fl fn a b
def mz_go (g : mz_G) (w h : Int) : Int := g 163 (256 * w + h).toNat
def mz_nx (h v : Int) : Int := mz_orI h (mz_shlI 1 v)
theorem mz_sh8 {w : Int} (h0 : 0 ≤ w) (h1 : w ≤ 7) : mz_shlI w 8 = 256 * w := by
  rcases (by omega : w = 0 ∨ w = 1 ∨ w = 2 ∨ w = 3 ∨ w = 4 ∨ w = 5 ∨ w = 6 ∨ w = 7) with h | h | h | h | h | h | h | h <;> (rw [h]; decide)
/-! EXACT FUNCTIONS: what a method does to the cells, as a function; the words of a proof's thread -/
def zf_E {α : Type} (a b : α) : Prop := a = b
theorem zf_rf {α : Type} {a : α} : zf_E a a := rfl
theorem zf_tr {α : Type} {a b c : α} (h : zf_E a b) (e : b = c) : zf_E a c := Eq.trans h e
def zf_l {α β : Type} (a : α) (f : α → β) : β := f a
def zf_m2 {α β γ : Type} (p : α × β) (f : α → β → γ) : γ := f p.1 p.2
def zf_m3 {α β γ δ : Type} (p : α × β × γ) (f : α → β → γ → δ) : δ := f p.1 p.2.1 p.2.2
def zf_m4 {α β γ δ ε : Type} (p : α × β × γ × δ) (f : α → β → γ → δ → ε) : ε := f p.1 p.2.1 p.2.2.1 p.2.2.2
def zf_m5 {α β γ δ ε ζ : Type} (p : α × β × γ × δ × ε) (f : α → β → γ → δ → ε → ζ) : ζ := f p.1 p.2.1 p.2.2.1 p.2.2.2.1 p.2.2.2.2
theorem zf_t1 {α β : Type} {F : β} {p a : α} {f : α → β} (h : zf_E F (zf_l p f)) (e : zf_E p a) : zf_E F (f a) := by
  cases e
  exact h
theorem zf_t2 {α β γ : Type} {F : γ} {p : α × β} {a : α} {b : β} {f : α → β → γ} (h : zf_E F (zf_m2 p f)) (e : zf_E p (a, b)) : zf_E F (f a b) := by
  cases e
  exact h
theorem zf_t3 {α β γ δ : Type} {F : δ} {p : α × β × γ} {a : α} {b : β} {c : γ} {f : α → β → γ → δ} (h : zf_E F (zf_m3 p f)) (e : zf_E p (a, b, c)) : zf_E F (f a b c) := by
  cases e
  exact h
theorem zf_t4 {α β γ δ ε : Type} {F : ε} {p : α × β × γ × δ} {a : α} {b : β} {c : γ} {d : δ} {f : α → β → γ → δ → ε} (h : zf_E F (zf_m4 p f)) (e : zf_E p (a, b, c, d)) : zf_E F (f a b c d) := by
  cases e
  exact h
theorem zf_t5 {α β γ δ ε ζ : Type} {F : ζ} {p : α × β × γ × δ × ε} {a : α} {b : β} {c : γ} {d : δ} {i : ε} {f : α → β → γ → δ → ε → ζ} (h : zf_E F (zf_m5 p f)) (e : zf_E p (a, b, c, d, i)) : zf_E F (f a b c d i) := by
  cases e
  exact h
abbrev zf_T : Type := Nat × Int × mz_G
abbrev zf_TX : Type := Nat × Int × mz_G × mm_X
def zf_mx (p : zf_T) (g : mz_G) (f : Int → mz_G → zf_T) : zf_T := if p.1 = 0 then f p.2.1 p.2.2 else (p.1, 0, g)
theorem zf_x1 {F p : zf_T} {g g1 : mz_G} {r : Int} {f : Int → mz_G → zf_T} (h : zf_E F (zf_mx p g f)) (e : zf_E p (0, r, g1)) : zf_E F (f r g1) := by
  cases e
  exact h
theorem zf_x2 {F p : zf_T} {g g1 : mz_G} {E : Nat} {f : Int → mz_G → zf_T} (h : zf_E F (zf_mx p g f)) (e : zf_E p (E, 0, g1)) (hE : E ≠ 0) : zf_E F (E, 0, g) := by
  cases e
  exact Eq.trans h (if_neg hE)
def zf_my (p : zf_T) (g : mz_G) (x : mm_X) (f : Int → mz_G → zf_TX) : zf_TX := if p.1 = 0 then f p.2.1 p.2.2 else (p.1, 0, g, x)
theorem zf_y1 {F : zf_TX} {p : zf_T} {g g1 : mz_G} {x : mm_X} {r : Int} {f : Int → mz_G → zf_TX} (h : zf_E F (zf_my p g x f)) (e : zf_E p (0, r, g1)) : zf_E F (f r g1) := by
  cases e
  exact h
theorem zf_y2 {F : zf_TX} {p : zf_T} {g g1 : mz_G} {x : mm_X} {E : Nat} {f : Int → mz_G → zf_TX} (h : zf_E F (zf_my p g x f)) (e : zf_E p (E, 0, g1)) (hE : E ≠ 0) : zf_E F (E, 0, g, x) := by
  cases e
  exact Eq.trans h (if_neg hE)
theorem zf_le {α β : Type} {a b : α} {f : α → β} (e : a = b) : zf_l a f = f b := by
  cases e
  rfl
theorem zf_lg {β : Type} {g g1 : mz_G} {q k : Nat} {v : Int} {f : mz_G → β} (h : mz_us g q k v g1) : zf_l (mz_up g q k v) f = f g1 := by
  have e : mz_up g q k v = g1 := by
    funext a b
    by_cases z : a = q ∧ b = k
    · rw [z.1, z.2, mz_up_at, h.1]
    · rw [mz_up_ne z, h.2 a b z]
  exact zf_le e
theorem zf_lw {β : Type} {a : Int} {f : Int → β} (h : mz_inR a) : zf_l (mz_wrap a) f = f a := zf_le (mz_wrap_id h)
theorem zf_lw2 {β : Type} {a n : Int} {f : Int → β} (e : n = a) (h : mz_inR n) : zf_l (mz_wrap a) f = f n := by
  cases e
  exact zf_lw h
theorem zf_ip {α : Type} {F : α} {c : Prop} {i : Decidable c} {A B : α} (h : zf_E F (@ite α c i A B)) (hc : c) : zf_E F A := Eq.trans h (if_pos hc)
theorem zf_in {α : Type} {F : α} {c : Prop} {i : Decidable c} {A B : α} (h : zf_E F (@ite α c i A B)) (hc : ¬ c) : zf_E F B := Eq.trans h (if_neg hc)
theorem zf_nl {α : Type} {F : α} {a b : Int} {i : Decidable (a < b)} {A B : α} (h : zf_E F (@ite α (a < b) i A B)) (hc : b ≤ a) : zf_E F B := Eq.trans h (if_neg (Int.not_lt.mpr hc))
def zf_remI (a b : Int) : Int := (Int32.ofInt a - Int32.ofInt a / Int32.ofInt b * Int32.ofInt b).toInt
theorem zf_divp {β : Type} {a b v : Int} {f : Int → β} (e : v = a / b) (ha : mz_inR a) (hb : mz_inR b) (h0 : 0 ≤ a) (h1 : 0 < b) : zf_l (mz_divI a b) f = f v := by
  refine zf_le ?_
  unfold mz_divI
  rw [mz_div_of ha hb h0 h1, e, mz_ti]
  have p := Int.ediv_nonneg h0 (Int.le_of_lt h1)
  have q := Int.ediv_le_self b h0
  have r := ha.2
  exact ⟨by omega, by omega⟩
theorem zf_rem_of {a b : Int} (ha : mz_inR a) (hb : mz_inR b) (h0 : 0 ≤ a) (h1 : 0 < b) : zf_remI a b = a % b := by
  unfold zf_remI
  rw [mz_div_of ha hb h0 h1, ← Int32.ofInt_mul, ← Int32.ofInt_sub, show a - a / b * b = a % b by rw [Int.emod_def, Int.mul_comm]]
  have p := Int.emod_nonneg a (show b ≠ 0 by omega)
  have q := Int.emod_lt_of_pos a h1
  have r := hb.2
  exact mz_ti ⟨by omega, by omega⟩
theorem zf_remp {β : Type} {a b v : Int} {f : Int → β} (e : v = a % b) (ha : mz_inR a) (hb : mz_inR b) (h0 : 0 ≤ a) (h1 : 0 < b) : zf_l (zf_remI a b) f = f v := zf_le ((zf_rem_of ha hb h0 h1).trans e.symm)
section ZF
variable {d : Nat} {M : mm_M} {pc : Nat} {lo : List (Option Value)} {st : List Value} {H : mm_H} {Q : (Option Value ⊕ Nat) → mm_H → Prop}
theorem zf_irem {a b : Int} (hl : mm_look M.2.2.2.2 pc = some (.irem, 1)) (hb : mz_inR b) (h0 : b ≠ 0) (k : ∀ v : Int, v = zf_remI a b → mz_inR v → mm_W d M (pc + 1) lo (.int (Int32.ofInt v) :: st) H Q) : mm_W d M pc lo (.int (Int32.ofInt b) :: .int (Int32.ofInt a) :: st) H Q := by
  have := k _ rfl (mz_toR _)
  unfold zf_remI at this
  rw [Int32.ofInt_toInt] at this
  exact mm_s1 (q := (pc + 1, lo, .int (Int32.ofInt a - Int32.ofInt a / Int32.ofInt b * Int32.ofInt b) :: st, H)) hl (by show (if Int32.ofInt b = 0 then _ else _) = _; rw [if_neg (fun z => h0 ((mz_eq0 hb).mp z))]; rfl) this
end ZF
def zf_ln (q : Nat) : Nat := if q = 4 ∨ q = 44 then 0 else if q = 133 ∨ q = 135 then 16 else 8
theorem zf_ln_le (q : Nat) : zf_ln q ≤ 16 := by
  unfold zf_ln
  split
  · decide
  · split <;> decide
theorem zf_let {q : Nat} (h : kd_let q) (L : Nat) : mm_SH L (q + 1) = (100, zf_ln q) := by unfold kd_let at h; rcases h with rfl | rfl | rfl | rfl | rfl | rfl | rfl | rfl | rfl | rfl | rfl | rfl | rfl | rfl | rfl | rfl | rfl | rfl | rfl | rfl <;> rfl
theorem zf_words (x : mm_X) {w : Nat} (h : kd_words w) {a : Int} (h0 : 0 ≤ a) (h1 : a < 8) {u : Nat} (e : mm_HR x.1 x.2.1 x.2.2.1 (w + 1) a.toNat = some u) : (w + 1) + (8 + 2 * a.toNat) = u := by
  obtain ⟨m, rfl⟩ : ∃ m : Nat, a = m := ⟨a.toNat, by omega⟩
  rw [Int.toNat_natCast] at e ⊢
  have hm : m = 0 ∨ m = 1 ∨ m = 2 ∨ m = 3 ∨ m = 4 ∨ m = 5 ∨ m = 6 ∨ m = 7 := by omega
  unfold kd_words at h
  rcases h with rfl | rfl <;> rcases hm with rfl | rfl | rfl | rfl | rfl | rfl | rfl | rfl <;> exact Option.some.inj e
theorem zf_tks (x : mm_X) {w : Nat} (h : kd_tks w) {a : Int} (h0 : 0 ≤ a) (h1 : a < 6) {u : Nat} (e : mm_HR x.1 x.2.1 x.2.2.1 (w + 1) a.toNat = some u) : (w + 1) + (2 + a.toNat) = u := by
  obtain ⟨m, rfl⟩ : ∃ m : Nat, a = m := ⟨a.toNat, by omega⟩
  rw [Int.toNat_natCast] at e ⊢
  have hm : m = 0 ∨ m = 1 ∨ m = 2 ∨ m = 3 ∨ m = 4 ∨ m = 5 := by omega
  unfold kd_tks at h
  rcases h with rfl | rfl | rfl | rfl | rfl <;> rcases hm with rfl | rfl | rfl | rfl | rfl | rfl <;> exact Option.some.inj e
def sa_i (q : Nat) : Nat := if q = 138 then 14 else 16
theorem kw_sa_i (x : mm_X) {q n : Nat} (h : mk_sa q n) {a : Int} (h0 : 0 ≤ a) (h1 : a < n) {u : Nat} (e : mm_HR x.1 x.2.1 x.2.2.1 q a.toNat = some (1000 + u)) : u = sa_i q + a.toNat := by
  obtain ⟨m, rfl⟩ : ∃ m : Nat, a = m := ⟨a.toNat, by omega⟩
  rw [Int.toNat_natCast] at e ⊢
  have go : ∀ c : Nat, mm_HR x.1 x.2.1 x.2.2.1 q m = some (1000 + c) → u = c := fun c h => by
    have := Option.some.inj (e.symm.trans h)
    omega
  rcases h with ⟨rfl, rfl⟩ | ⟨rfl, rfl⟩
  · have hm : m = 0 ∨ m = 1 := by omega
    rcases hm with rfl | rfl
    · exact go 14 rfl
    · exact go 15 rfl
  · have hm : m = 0 ∨ m = 1 ∨ m = 2 ∨ m = 3 ∨ m = 4 ∨ m = 5 ∨ m = 6 := by omega
    rcases hm with rfl | rfl | rfl | rfl | rfl | rfl | rfl
    · exact go 16 rfl
    · exact go 17 rfl
    · exact go 18 rfl
    · exact go 19 rfl
    · exact go 20 rfl
    · exact go 21 rfl
    · exact go 22 rfl
