/-! rows of the past; the rule's depth (wip/p2/tools/mk22.py) -/
def mk_rw (q n : Nat) : Prop := (q = 156 ∧ n = 1000) ∨ (q = 162 ∧ n = 25) ∨ (q = 169 ∧ n = 25) ∨ (q = 173 ∧ n = 25)
theorem rwp_156 : mk_rw 156 1000 := by unfold mk_rw; decide
theorem rwp_162 : mk_rw 162 25 := by unfold mk_rw; decide
theorem rwp_169 : mk_rw 169 25 := by unfold mk_rw; decide
theorem rwp_173 : mk_rw 173 25 := by unfold mk_rw; decide
theorem rw_sh {q n : Nat} (h : mk_rw q n) (L : Nat) : mm_SH L q = (100, n) := by rcases h with ⟨rfl, rfl⟩ | ⟨rfl, rfl⟩ | ⟨rfl, rfl⟩ | ⟨rfl, rfl⟩ <;> rfl
theorem rw_m {q n : Nat} (h : mk_rw q n) : n ≤ 100000 := by unfold mk_rw at h; omega
theorem rw_b {q n : Nat} (h : mk_rw q n) (j : Nat) : mz_bd q j = mz_rowb j := by rcases h with ⟨rfl, rfl⟩ | ⟨rfl, rfl⟩ | ⟨rfl, rfl⟩ | ⟨rfl, rfl⟩ <;> rfl
theorem rwb0 {q n : Nat} (h : mk_rw q n) {a f : Int} (h0 : 0 ≤ f ∧ f % 25 = 0) (h1 : f ≤ a) (h2 : a ≤ f) : mz_bd q a.toNat = (0, 999) := by
  rw [rw_b h]; unfold mz_rowb; rw [if_pos (by omega)]
theorem rwb1 {q n : Nat} (h : mk_rw q n) {a f : Int} (h0 : 0 ≤ f ∧ f % 25 = 0) (h1 : f + 1 ≤ a) (h2 : a ≤ f + 6) : mz_bd q a.toNat = (0, 8) := by
  rw [rw_b h]; unfold mz_rowb; rw [if_neg (by omega), if_pos (by omega)]
theorem rwb2 {q n : Nat} (h : mk_rw q n) {a f : Int} (h0 : 0 ≤ f ∧ f % 25 = 0) (h1 : f + 7 ≤ a) (h2 : a ≤ f + 18) : mz_bd q a.toNat = (0, 7) := by
  rw [rw_b h]; unfold mz_rowb; rw [if_neg (by omega), if_neg (by omega), if_pos (by omega)]
theorem rwb3 {q n : Nat} (h : mk_rw q n) {a f : Int} (h0 : 0 ≤ f ∧ f % 25 = 0) (h1 : f + 19 ≤ a) (h2 : a ≤ f + 24) : mz_bd q a.toNat = (-2147483648, 2147483647) := by
  rw [rw_b h]; unfold mz_rowb; rw [if_neg (by omega), if_neg (by omega), if_neg (by omega)]
theorem rwk {a : Int} (h : 25 ≤ a) : mz_bd 156 (a - 25).toNat = mz_bd 156 a.toNat := by
  show mz_rowb _ = mz_rowb _
  unfold mz_rowb
  rw [show (a - 25).toNat % 25 = a.toNat % 25 by omega]
theorem told_le (j : Nat) : 0 ≤ (mz_bd 140 j).1 ∧ (mz_bd 140 j).2 ≤ 700 := by
  show 0 ≤ (mz_toldb j).1 ∧ (mz_toldb j).2 ≤ 700
  unfold mz_toldb
  split
  · decide
  · split
    · decide
    · split <;> decide
def mz_bit (s k : Int) : Int := mz_andI (mz_shrI s k) 1
theorem mz_bit_all : ∀ s : Fin 64, (∀ k : Fin 6, mz_bit (s.val : Int) (k.val : Int) = 0) → s.val = 0 := by decide +kernel
theorem mz_bit_ex {s t : Int} (h1 : 1 ≤ s) (h2 : s ≤ 63) (h0 : 0 ≤ t) (h : ∀ i : Int, 0 ≤ i → i < t → mz_bit s i = 0) : t ≤ 5 := by
  rcases (by omega : 5 < t ∨ t ≤ 5) with z | z
  · exfalso
    have e := mz_bit_all ⟨s.toNat, by omega⟩ (fun k => by
      have hk := k.isLt
      have := h (k.val : Int) (by omega) (by omega)
      rwa [show ((s.toNat : Nat) : Int) = s by omega])
    dsimp only at e
    omega
  · exact z
theorem mz_clr_all : ∀ s : Fin 64, ∀ k : Fin 6, mz_bit (s.val : Int) (k.val : Int) ≠ 0 → mz_andI (s.val : Int) (mz_xorI (mz_shlI 1 (k.val : Int)) (-1)) < (s.val : Int) := by decide +kernel
theorem mz_clr {s t a b c : Int} (ea : a = mz_shlI 1 t) (eb : b = mz_xorI a (-1)) (ec : c = mz_andI s b) (h1 : 0 ≤ s) (h2 : s ≤ 63) (h3 : 0 ≤ t) (h4 : t ≤ 5) (hb : mz_bit s t ≠ 0) : c < s := by
  have := mz_clr_all ⟨s.toNat, by omega⟩ ⟨t.toNat, by omega⟩
  dsimp only at this
  rw [show ((s.toNat : Nat) : Int) = s by omega, show ((t.toNat : Nat) : Int) = t by omega] at this
  rw [ec, eb, ea]
  exact this hb
theorem mk_sa_n {q n : Nat} (h : mk_sa q n) : n ≤ 7 := by unfold mk_sa at h; omega
def mz_byte (g : mz_G) (a : Int) : Int := if a < g 137 17 then g 151 a.toNat else -1
theorem mz_byte_eq {g g1 : mz_G} {a : Int} (h1 : g1 137 17 = g 137 17) (h2 : ∀ j, g1 151 j = g 151 j) : mz_byte g1 a = mz_byte g a := by
  unfold mz_byte
  rw [h1, h2]
def mz_ds (s : Int) (n : Nat) : Option Nat := if -20 < s then (if -7 ≤ s then some (n + 1) else none) else if s = -28 then (if 1 ≤ n then some n else none) else (if 2 ≤ n then some (n - 1) else none)
def mz_dst (f : Nat → Int) : Nat → Option Nat
  | 0 => some 0
  | k + 1 => match mz_dst f k with
    | none => none
    | some n => mz_ds (f k) n
def mz_pv (g : mz_G) : Prop := ∀ k : Nat, (k : Int) ≤ g 140 3 → ∃ n, n ≤ 40 ∧ mz_dst (g 149) k = some n
theorem mz_pv_fr {g g1 : mz_G} (h : mz_pv g) (h1 : ∀ j, g1 149 j = g 149 j) (h2 : g1 140 3 = g 140 3) : mz_pv g1 := by
  have e : g1 149 = g 149 := funext h1
  intro k hk
  rw [e]
  exact h k (by omega)
theorem mz_dst_next {g : mz_G} (h : mz_pv g) {k n s t : Int} (hk : 0 ≤ k) (hd : mz_dst (g 149) k.toNat = some n.toNat) (hn : 0 ≤ n) (ht : g 140 3 = t) (hkt : k < t) (hs : g 149 k.toNat = s) : (-20 < s → -7 ≤ s ∧ n + 1 ≤ 40 ∧ mz_dst (g 149) (k + 1).toNat = some (n + 1).toNat) ∧ (s = -28 → 1 ≤ n ∧ mz_dst (g 149) (k + 1).toNat = some n.toNat) ∧ (s ≤ -20 ∧ s ≠ -28 → 2 ≤ n ∧ mz_dst (g 149) (k + 1).toNat = some (n + (-1)).toNat) := by
  obtain ⟨m, hm, e⟩ := h (k + 1).toNat (by omega)
  rw [show (k + 1).toNat = k.toNat + 1 by omega] at e ⊢
  have e2 := e
  simp only [mz_dst, hd, hs, mz_ds] at e2
  rw [e]
  refine ⟨fun z => ?_, fun z => ?_, fun ⟨z, z2⟩ => ?_⟩
  · rw [if_pos z] at e2
    split at e2
    · cases e2; exact ⟨by omega, by omega, by congr 1; omega⟩
    · cases e2
  · rw [if_neg (by omega), if_pos z] at e2
    split at e2
    · cases e2; exact ⟨by omega, by congr 1⟩
    · cases e2
  · rw [if_neg (by omega), if_neg z2] at e2
    split at e2
    · cases e2; exact ⟨by omega, by congr 1; omega⟩
    · cases e2
/-! what overlaps, what stands behind: functions of the heap -/
def mz_mt (fl fn : Nat → Int) (a b n i : Int) : Prop := fl (8 * a + (fn a.toNat - n + i)).toNat = fl (8 * b + i).toNat
def mz_mm (fl fn : Nat → Int) (a b n k : Int) : Prop := ∃ i, 0 ≤ i ∧ i < k ∧ ¬ mz_mt fl fn a b n i
def mz_ovr (fl fn : Nat → Int) (a b r : Int) : Prop := 0 ≤ r ∧ (0 < r → r + 1 ≤ fn a.toNat ∧ r + 1 ≤ fn b.toNat ∧ ∀ i, 0 ≤ i → i < r → mz_mt fl fn a b r i) ∧ ∀ n, r < n → n + 1 ≤ fn a.toNat → n + 1 ≤ fn b.toNat → mz_mm fl fn a b n n
theorem mz_ovr_u {fl fn : Nat → Int} {a b r s : Int} (h1 : mz_ovr fl fn a b r) (h2 : mz_ovr fl fn a b s) : ¬ r < s := by
  intro h
  have h10 := h1.1
  obtain ⟨z1, z2, z3⟩ := h2.2.1 (by omega)
  obtain ⟨i, i0, i1, i2⟩ := h1.2.2 s h z1 z2
  exact i2 (z3 i i0 i1)
noncomputable def mz_ov (fl fn : Nat → Int) (a b : Int) : Int := @dite Int (∃ r, mz_ovr fl fn a b r) (Classical.propDecidable _) (fun h => Classical.choose h) (fun _ => 0)
theorem mz_ov_eq {fl fn : Nat → Int} {a b r : Int} (h : mz_ovr fl fn a b r) : r = mz_ov fl fn a b := by
  have hx : ∃ r, mz_ovr fl fn a b r := ⟨r, h⟩
  have e : mz_ov fl fn a b = Classical.choose hx := dif_pos hx
  rw [e]
  have h2 := Classical.choose_spec hx
  have h3 := mz_ovr_u h h2
  have h4 := mz_ovr_u h2 h
  omega
noncomputable def mz_pu (fl fn : Nat → Int) (a b : Int) : Int := fn b.toNat - mz_ov fl fn a b
def mz_go (g : mz_G) (w h : Int) : Int := g 163 (256 * w + h).toNat
def mz_nx (h v : Int) : Int := mz_orI h (mz_shlI 1 v)
theorem mz_sh8 {w : Int} (h0 : 0 ≤ w) (h1 : w ≤ 7) : mz_shlI w 8 = 256 * w := by
  rcases (by omega : w = 0 ∨ w = 1 ∨ w = 2 ∨ w = 3 ∨ w = 4 ∨ w = 5 ∨ w = 6 ∨ w = 7) with h | h | h | h | h | h | h | h <;> (rw [h]; decide)
theorem bip_m28 : (Int8.ofInt (-28)).toInt32 = Int32.ofInt (-28) := by decide
theorem bip_17 : (Int8.ofInt 17).toInt32 = Int32.ofInt 17 := by decide
theorem bip_18 : (Int8.ofInt 18).toInt32 = Int32.ofInt 18 := by decide
theorem sip_1000 : (Int16.ofInt 1000).toInt32 = Int32.ofInt 1000 := by decide
theorem sip_9999 : (Int16.ofInt 9999).toInt32 = Int32.ofInt 9999 := by decide
theorem fd_12_36 : mm_tab mm_fldT 12 36 = some (12, 3, 0) ∧ mm_tab mm_ftT 12 3 = some 6 := ⟨rfl, rfl⟩
theorem fd_12_40 : mm_tab mm_fldT 12 40 = some (12, 4, 0) ∧ mm_tab mm_ftT 12 4 = some 6 := ⟨rfl, rfl⟩
theorem fd_12_43 : mm_tab mm_fldT 12 43 = some (12, 5, 0) ∧ mm_tab mm_ftT 12 5 = some 6 := ⟨rfl, rfl⟩
theorem fd_12_46 : mm_tab mm_fldT 12 46 = some (12, 6, 0) ∧ mm_tab mm_ftT 12 6 = some 6 := ⟨rfl, rfl⟩
theorem fd_12_49 : mm_tab mm_fldT 12 49 = some (12, 7, 0) ∧ mm_tab mm_ftT 12 7 = some 6 := ⟨rfl, rfl⟩
theorem fd_12_60 : mm_tab mm_fldT 12 60 = some (12, 11, 0) ∧ mm_tab mm_ftT 12 11 = some 6 := ⟨rfl, rfl⟩
theorem fd_12_63 : mm_tab mm_fldT 12 63 = some (12, 12, 0) ∧ mm_tab mm_ftT 12 12 = some 6 := ⟨rfl, rfl⟩
theorem fd_12_66 : mm_tab mm_fldT 12 66 = some (12, 13, 0) ∧ mm_tab mm_ftT 12 13 = some 6 := ⟨rfl, rfl⟩
theorem fd_12_69 : mm_tab mm_fldT 12 69 = some (12, 14, 0) ∧ mm_tab mm_ftT 12 14 = some 6 := ⟨rfl, rfl⟩
theorem fd_12_72 : mm_tab mm_fldT 12 72 = some (12, 24, 0) ∧ mm_tab mm_ftT 12 24 = some 0 := ⟨rfl, rfl⟩
theorem fd_12_76 : mm_tab mm_fldT 12 76 = some (12, 25, 0) ∧ mm_tab mm_ftT 12 25 = some 6 := ⟨rfl, rfl⟩
theorem fd_12_78 : mm_tab mm_fldT 12 78 = some (12, 26, 0) ∧ mm_tab mm_ftT 12 26 = some 6 := ⟨rfl, rfl⟩
theorem fd_12_80 : mm_tab mm_fldT 12 80 = some (12, 27, 0) ∧ mm_tab mm_ftT 12 27 = some 6 := ⟨rfl, rfl⟩
theorem fd_12_82 : mm_tab mm_fldT 12 82 = some (12, 28, 0) ∧ mm_tab mm_ftT 12 28 = some 6 := ⟨rfl, rfl⟩
theorem fd_12_85 : mm_tab mm_fldT 12 85 = some (12, 29, 0) ∧ mm_tab mm_ftT 12 29 = some 6 := ⟨rfl, rfl⟩
theorem fd_12_88 : mm_tab mm_fldT 12 88 = some (12, 33, 0) ∧ mm_tab mm_ftT 12 33 = some 6 := ⟨rfl, rfl⟩
theorem fd_12_91 : mm_tab mm_fldT 12 91 = some (12, 34, 0) ∧ mm_tab mm_ftT 12 34 = some 6 := ⟨rfl, rfl⟩
theorem fd_12_94 : mm_tab mm_fldT 12 94 = some (12, 35, 0) ∧ mm_tab mm_ftT 12 35 = some 6 := ⟨rfl, rfl⟩
theorem fd_12_97 : mm_tab mm_fldT 12 97 = some (12, 38, 0) ∧ mm_tab mm_ftT 12 38 = some 6 := ⟨rfl, rfl⟩
theorem fd_12_100 : mm_tab mm_fldT 12 100 = some (12, 39, 0) ∧ mm_tab mm_ftT 12 39 = some 6 := ⟨rfl, rfl⟩
theorem fd_12_103 : mm_tab mm_fldT 12 103 = some (12, 40, 0) ∧ mm_tab mm_ftT 12 40 = some 6 := ⟨rfl, rfl⟩
theorem fd_12_106 : mm_tab mm_fldT 12 106 = some (12, 41, 0) ∧ mm_tab mm_ftT 12 41 = some 6 := ⟨rfl, rfl⟩
theorem fd_12_109 : mm_tab mm_fldT 12 109 = some (12, 42, 0) ∧ mm_tab mm_ftT 12 42 = some 6 := ⟨rfl, rfl⟩
theorem fd_12_112 : mm_tab mm_fldT 12 112 = some (12, 43, 0) ∧ mm_tab mm_ftT 12 43 = some 6 := ⟨rfl, rfl⟩
theorem fd_12_115 : mm_tab mm_fldT 12 115 = some (12, 44, 0) ∧ mm_tab mm_ftT 12 44 = some 6 := ⟨rfl, rfl⟩
theorem fd_12_118 : mm_tab mm_fldT 12 118 = some (12, 45, 0) ∧ mm_tab mm_ftT 12 45 = some 6 := ⟨rfl, rfl⟩
theorem fd_12_121 : mm_tab mm_fldT 12 121 = some (12, 46, 0) ∧ mm_tab mm_ftT 12 46 = some 6 := ⟨rfl, rfl⟩
theorem fd_12_124 : mm_tab mm_fldT 12 124 = some (12, 47, 0) ∧ mm_tab mm_ftT 12 47 = some 6 := ⟨rfl, rfl⟩
theorem fd_12_127 : mm_tab mm_fldT 12 127 = some (12, 48, 0) ∧ mm_tab mm_ftT 12 48 = some 6 := ⟨rfl, rfl⟩
theorem fd_12_130 : mm_tab mm_fldT 12 130 = some (12, 49, 0) ∧ mm_tab mm_ftT 12 49 = some 6 := ⟨rfl, rfl⟩
theorem fd_12_133 : mm_tab mm_fldT 12 133 = some (12, 51, 0) ∧ mm_tab mm_ftT 12 51 = some 6 := ⟨rfl, rfl⟩
theorem fd_12_136 : mm_tab mm_fldT 12 136 = some (12, 56, 0) ∧ mm_tab mm_ftT 12 56 = some 6 := ⟨rfl, rfl⟩
theorem fd_12_139 : mm_tab mm_fldT 12 139 = some (12, 57, 0) ∧ mm_tab mm_ftT 12 57 = some 6 := ⟨rfl, rfl⟩
theorem fd_12_142 : mm_tab mm_fldT 12 142 = some (12, 58, 0) ∧ mm_tab mm_ftT 12 58 = some 6 := ⟨rfl, rfl⟩
theorem fd_12_145 : mm_tab mm_fldT 12 145 = some (12, 59, 0) ∧ mm_tab mm_ftT 12 59 = some 6 := ⟨rfl, rfl⟩
theorem fd_12_148 : mm_tab mm_fldT 12 148 = some (12, 60, 0) ∧ mm_tab mm_ftT 12 60 = some 6 := ⟨rfl, rfl⟩
theorem fd_12_151 : mm_tab mm_fldT 12 151 = some (12, 61, 0) ∧ mm_tab mm_ftT 12 61 = some 6 := ⟨rfl, rfl⟩
theorem fd_12_154 : mm_tab mm_fldT 12 154 = some (12, 2, 0) ∧ mm_tab mm_ftT 12 2 = some 0 := ⟨rfl, rfl⟩
theorem fd_12_161 : mm_tab mm_fldT 12 161 = some (12, 15, 0) ∧ mm_tab mm_ftT 12 15 = some 0 := ⟨rfl, rfl⟩
theorem fd_12_164 : mm_tab mm_fldT 12 164 = some (12, 17, 0) ∧ mm_tab mm_ftT 12 17 = some 0 := ⟨rfl, rfl⟩
theorem fd_12_167 : mm_tab mm_fldT 12 167 = some (12, 16, 0) ∧ mm_tab mm_ftT 12 16 = some 0 := ⟨rfl, rfl⟩
theorem fd_12_174 : mm_tab mm_fldT 12 174 = some (12, 20, 0) ∧ mm_tab mm_ftT 12 20 = some 0 := ⟨rfl, rfl⟩
theorem fd_12_177 : mm_tab mm_fldT 12 177 = some (12, 18, 0) ∧ mm_tab mm_ftT 12 18 = some 0 := ⟨rfl, rfl⟩
theorem fd_12_187 : mm_tab mm_fldT 12 187 = some (12, 19, 0) ∧ mm_tab mm_ftT 12 19 = some 0 := ⟨rfl, rfl⟩
theorem fd_12_200 : mm_tab mm_fldT 12 200 = some (12, 21, 0) ∧ mm_tab mm_ftT 12 21 = some 0 := ⟨rfl, rfl⟩
theorem fd_12_203 : mm_tab mm_fldT 12 203 = some (12, 22, 0) ∧ mm_tab mm_ftT 12 22 = some 0 := ⟨rfl, rfl⟩
theorem fd_12_206 : mm_tab mm_fldT 12 206 = some (12, 23, 0) ∧ mm_tab mm_ftT 12 23 = some 0 := ⟨rfl, rfl⟩
theorem fd_12_307 : mm_tab mm_fldT 12 307 = some (12, 30, 0) ∧ mm_tab mm_ftT 12 30 = some 0 := ⟨rfl, rfl⟩
theorem fd_12_310 : mm_tab mm_fldT 12 310 = some (12, 31, 0) ∧ mm_tab mm_ftT 12 31 = some 0 := ⟨rfl, rfl⟩
theorem fd_12_313 : mm_tab mm_fldT 12 313 = some (12, 32, 0) ∧ mm_tab mm_ftT 12 32 = some 0 := ⟨rfl, rfl⟩
theorem fd_12_316 : mm_tab mm_fldT 12 316 = some (12, 53, 0) ∧ mm_tab mm_ftT 12 53 = some 1 := ⟨rfl, rfl⟩
theorem fd_12_323 : mm_tab mm_fldT 12 323 = some (12, 36, 0) ∧ mm_tab mm_ftT 12 36 = some 0 := ⟨rfl, rfl⟩
theorem fd_12_326 : mm_tab mm_fldT 12 326 = some (12, 37, 0) ∧ mm_tab mm_ftT 12 37 = some 0 := ⟨rfl, rfl⟩
theorem fd_12_475 : mm_tab mm_fldT 12 475 = some (12, 50, 0) ∧ mm_tab mm_ftT 12 50 = some 0 := ⟨rfl, rfl⟩
theorem fd_12_495 : mm_tab mm_fldT 12 495 = some (12, 52, 0) ∧ mm_tab mm_ftT 12 52 = some 0 := ⟨rfl, rfl⟩
theorem fd_12_505 : mm_tab mm_fldT 12 505 = some (12, 54, 0) ∧ mm_tab mm_ftT 12 54 = some 0 := ⟨rfl, rfl⟩
theorem fd_12_508 : mm_tab mm_fldT 12 508 = some (12, 55, 0) ∧ mm_tab mm_ftT 12 55 = some 0 := ⟨rfl, rfl⟩
theorem mt_12_157 : mm_tab mm_mthT 12 157 = some (0, 182, 3, 0, 12) := rfl
theorem mt_12_170 : mm_tab mm_mthT 12 170 = some (1, 188, 1, 0, 12) := rfl
theorem mt_12_180 : mm_tab mm_mthT 12 180 = some (0, 189, 1, 0, 12) := rfl
theorem mt_12_184 : mm_tab mm_mthT 12 184 = some (0, 190, 1, 0, 12) := rfl
theorem mt_12_191 : mm_tab mm_mthT 12 191 = some (5, 0, 2, 0, 0) := rfl
theorem mt_12_197 : mm_tab mm_mthT 12 197 = some (0, 191, 1, 0, 12) := rfl
theorem mt_12_209 : mm_tab mm_mthT 12 209 = some (1, 293, 0, 0, 107) := rfl
theorem mt_12_213 : mm_tab mm_mthT 12 213 = some (1, 294, 1, 0, 107) := rfl
theorem mt_12_217 : mm_tab mm_mthT 12 217 = some (1, 194, 1, 0, 12) := rfl
theorem mt_12_221 : mm_tab mm_mthT 12 221 = some (1, 196, 1, 0, 12) := rfl
theorem mt_12_224 : mm_tab mm_mthT 12 224 = some (1, 193, 1, 0, 12) := rfl
theorem mt_12_228 : mm_tab mm_mthT 12 228 = some (1, 192, 0, 0, 12) := rfl
theorem mt_12_231 : mm_tab mm_mthT 12 231 = some (1, 198, 2, 0, 12) := rfl
theorem mt_12_294 : mm_tab mm_mthT 12 294 = some (1, 181, 1, 0, 12) := rfl
theorem mt_12_320 : mm_tab mm_mthT 12 320 = some (1, 220, 2, 0, 12) := rfl
theorem mt_12_329 : mm_tab mm_mthT 12 329 = some (4, 0, 2, 0, 0) := rfl
theorem mt_12_332 : mm_tab mm_mthT 12 332 = some (1, 225, 0, 0, 12) := rfl
theorem mt_12_336 : mm_tab mm_mthT 12 336 = some (1, 222, 2, 0, 12) := rfl
theorem mt_12_340 : mm_tab mm_mthT 12 340 = some (1, 228, 2, 0, 12) := rfl
theorem mt_12_343 : mm_tab mm_mthT 12 343 = some (0, 230, 3, 0, 12) := rfl
theorem mt_12_347 : mm_tab mm_mthT 12 347 = some (1, 233, 1, 0, 12) := rfl
theorem mt_12_350 : mm_tab mm_mthT 12 350 = some (1, 221, 2, 0, 12) := rfl
theorem mt_12_353 : mm_tab mm_mthT 12 353 = some (1, 231, 0, 0, 12) := rfl
theorem mt_12_356 : mm_tab mm_mthT 12 356 = some (1, 235, 2, 0, 12) := rfl
theorem mt_12_359 : mm_tab mm_mthT 12 359 = some (1, 232, 1, 0, 12) := rfl
theorem mt_12_362 : mm_tab mm_mthT 12 362 = some (1, 236, 1, 0, 12) := rfl
theorem mt_12_365 : mm_tab mm_mthT 12 365 = some (1, 234, 1, 0, 12) := rfl
theorem mt_12_368 : mm_tab mm_mthT 12 368 = some (1, 239, 1, 0, 12) := rfl
theorem mt_12_371 : mm_tab mm_mthT 12 371 = some (1, 238, 0, 0, 12) := rfl
theorem mt_12_374 : mm_tab mm_mthT 12 374 = some (1, 241, 0, 0, 12) := rfl
theorem mt_12_377 : mm_tab mm_mthT 12 377 = some (1, 240, 0, 0, 12) := rfl
theorem mt_12_380 : mm_tab mm_mthT 12 380 = some (1, 185, 1, 0, 12) := rfl
theorem mt_12_385 : mm_tab mm_mthT 12 385 = some (1, 227, 1, 0, 12) := rfl
theorem mt_12_388 : mm_tab mm_mthT 12 388 = some (1, 229, 1, 0, 12) := rfl
theorem mt_12_391 : mm_tab mm_mthT 12 391 = some (1, 186, 1, 0, 12) := rfl
theorem mt_12_394 : mm_tab mm_mthT 12 394 = some (1, 276, 1, 0, 12) := rfl
theorem mt_12_397 : mm_tab mm_mthT 12 397 = some (1, 218, 2, 0, 12) := rfl
theorem mt_12_403 : mm_tab mm_mthT 12 403 = some (1, 246, 1, 0, 12) := rfl
theorem mt_12_406 : mm_tab mm_mthT 12 406 = some (1, 247, 0, 0, 12) := rfl
theorem mt_12_409 : mm_tab mm_mthT 12 409 = some (1, 237, 1, 0, 12) := rfl
theorem mt_12_414 : mm_tab mm_mthT 12 414 = some (1, 251, 1, 0, 12) := rfl
theorem mt_12_417 : mm_tab mm_mthT 12 417 = some (1, 253, 3, 0, 12) := rfl
theorem mt_12_421 : mm_tab mm_mthT 12 421 = some (1, 219, 2, 0, 12) := rfl
theorem mt_12_424 : mm_tab mm_mthT 12 424 = some (1, 223, 2, 0, 12) := rfl
theorem mt_12_427 : mm_tab mm_mthT 12 427 = some (1, 224, 1, 0, 12) := rfl
theorem mt_12_435 : mm_tab mm_mthT 12 435 = some (1, 256, 2, 0, 12) := rfl
theorem mt_12_441 : mm_tab mm_mthT 12 441 = some (1, 259, 0, 0, 12) := rfl
theorem mt_12_444 : mm_tab mm_mthT 12 444 = some (1, 260, 0, 0, 12) := rfl
theorem mt_12_447 : mm_tab mm_mthT 12 447 = some (1, 226, 0, 0, 12) := rfl
theorem mt_12_450 : mm_tab mm_mthT 12 450 = some (0, 183, 2, 0, 12) := rfl
theorem mt_12_470 : mm_tab mm_mthT 12 470 = some (1, 274, 0, 0, 12) := rfl
theorem mt_12_478 : mm_tab mm_mthT 12 478 = some (1, 278, 0, 0, 12) := rfl
theorem mt_12_481 : mm_tab mm_mthT 12 481 = some (1, 279, 0, 0, 12) := rfl
theorem mt_12_484 : mm_tab mm_mthT 12 484 = some (0, 184, 1, 0, 12) := rfl
theorem mt_12_491 : mm_tab mm_mthT 12 491 = some (1, 284, 2, 0, 12) := rfl
theorem mt_12_499 : mm_tab mm_mthT 12 499 = some (1, 286, 1, 0, 12) := rfl
theorem mt_12_502 : mm_tab mm_mthT 12 502 = some (1, 287, 0, 0, 12) := rfl
theorem mt_12_511 : mm_tab mm_mthT 12 511 = some (0, 289, 2, 0, 12) := rfl
theorem sc_137 (L : Nat) : (mm_SH L 137).1 = 12 := rfl
theorem sh_140 (L : Nat) : mm_SH L 140 = (100, 8) := rfl
theorem sh_141 (L : Nat) : mm_SH L 141 = (100, 128) := rfl
theorem sh_142 (L : Nat) : mm_SH L 142 = (100, 16) := rfl
theorem sh_143 (L : Nat) : mm_SH L 143 = (100, 16) := rfl
theorem sh_144 (L : Nat) : mm_SH L 144 = (100, 12) := rfl
theorem sh_148 (L : Nat) : mm_SH L 148 = (100, 16) := rfl
theorem sh_149 (L : Nat) : mm_SH L 149 = (100, 1400) := rfl
theorem sh_150 (L : Nat) : mm_SH L 150 = (100, 3) := rfl
theorem sh_151 (L : Nat) : mm_SH L 151 = (100, 700) := rfl
theorem sh_152 (L : Nat) : mm_SH L 152 = (100, 6) := rfl
theorem sh_153 (L : Nat) : mm_SH L 153 = (100, 6) := rfl
theorem sh_154 (L : Nat) : mm_SH L 154 = (100, 6) := rfl
theorem sh_155 (L : Nat) : mm_SH L 155 = (100, 6) := rfl
theorem sh_156 (L : Nat) : mm_SH L 156 = (100, 1000) := rfl
theorem sh_157 (L : Nat) : mm_SH L 157 = (100, 16) := rfl
theorem sh_158 (L : Nat) : mm_SH L 158 = (100, 16) := rfl
theorem sh_159 (L : Nat) : mm_SH L 159 = (100, 289) := rfl
theorem sh_160 (L : Nat) : mm_SH L 160 = (100, 7) := rfl
theorem sh_161 (L : Nat) : mm_SH L 161 = (100, 64) := rfl
theorem sh_162 (L : Nat) : mm_SH L 162 = (100, 25) := rfl
theorem sh_163 (L : Nat) : mm_SH L 163 = (100, 2048) := rfl
theorem sh_164 (L : Nat) : mm_SH L 164 = (100, 36) := rfl
theorem sh_165 (L : Nat) : mm_SH L 165 = (100, 64) := rfl
theorem sh_166 (L : Nat) : mm_SH L 166 = (100, 8) := rfl
theorem sh_167 (L : Nat) : mm_SH L 167 = (100, 8) := rfl
theorem sh_168 (L : Nat) : mm_SH L 168 = (100, 8) := rfl
theorem sh_169 (L : Nat) : mm_SH L 169 = (100, 25) := rfl
theorem sh_170 (L : Nat) : mm_SH L 170 = (100, 60) := rfl
theorem sh_171 (L : Nat) : mm_SH L 171 = (100, 6) := rfl
theorem sh_172 (L : Nat) : mm_SH L 172 = (100, 8) := rfl
theorem sh_173 (L : Nat) : mm_SH L 173 = (100, 25) := rfl
theorem sh_174 (L : Nat) : mm_SH L 174 = (100, 1000) := rfl
theorem sh_175 (L : Nat) : mm_SH L 175 = (100, 8) := rfl
theorem sh_176 (L : Nat) : mm_SH L 176 = (100, 8) := rfl
theorem sh_177 (L : Nat) : mm_SH L 177 = (100, 8) := rfl
theorem sh_178 (L : Nat) : mm_SH L 178 = (100, 3) := rfl
theorem bd_137_2 : mz_bd 137 2 = ((-2147483648), 2147483647) := rfl
theorem bd_137_15 : mz_bd 137 15 = (0, 700) := rfl
theorem bd_137_16 : mz_bd 137 16 = (0, 700) := rfl
theorem bd_137_17 : mz_bd 137 17 = (0, 700) := rfl
theorem bd_137_18 : mz_bd 137 18 = (0, 4) := rfl
theorem bd_137_19 : mz_bd 137 19 = ((-2147483648), 2147483647) := rfl
theorem bd_137_20 : mz_bd 137 20 = (0, 700) := rfl
theorem bd_137_21 : mz_bd 137 21 = (0, 700) := rfl
theorem bd_137_22 : mz_bd 137 22 = ((-2147483648), 2147483647) := rfl
theorem bd_137_23 : mz_bd 137 23 = ((-2147483648), 2147483647) := rfl
theorem bd_137_24 : mz_bd 137 24 = ((-2147483648), 2147483647) := rfl
theorem bd_137_30 : mz_bd 137 30 = (0, 1999) := rfl
theorem bd_137_31 : mz_bd 137 31 = (0, 40) := rfl
theorem bd_137_32 : mz_bd 137 32 = (0, 8) := rfl
theorem bd_137_36 : mz_bd 137 36 = (0, 16) := rfl
theorem bd_137_37 : mz_bd 137 37 = (0, 16) := rfl
theorem bd_137_50 : mz_bd 137 50 = (0, 60) := rfl
theorem bd_137_52 : mz_bd 137 52 = ((-2147483648), 2147483647) := rfl
theorem bd_137_53 : mz_bd 137 53 = (0, 1) := rfl
theorem bd_137_54 : mz_bd 137 54 = (0, 40) := rfl
theorem bd_137_55 : mz_bd 137 55 = (0, 8) := rfl
theorem ba_141 (j : Nat) : mz_bd 141 j = ((-2147483648), 2147483647) := rfl
theorem ba_142 (j : Nat) : mz_bd 142 j = (0, 8) := rfl
theorem ba_143 (j : Nat) : mz_bd 143 j = ((-2147483648), 2147483647) := rfl
theorem ba_144 (j : Nat) : mz_bd 144 j = (0, 1) := rfl
theorem ba_148 (j : Nat) : mz_bd 148 j = ((-2147483648), 2147483647) := rfl
theorem ba_149 (j : Nat) : mz_bd 149 j = ((-2147483648), 2147483647) := rfl
theorem ba_150 (j : Nat) : mz_bd 150 j = ((-2147483648), 2147483647) := rfl
theorem ba_151 (j : Nat) : mz_bd 151 j = (0, 255) := rfl
theorem ba_152 (j : Nat) : mz_bd 152 j = (0, 8) := rfl
theorem ba_153 (j : Nat) : mz_bd 153 j = (0, 7) := rfl
theorem ba_154 (j : Nat) : mz_bd 154 j = (0, 7) := rfl
theorem ba_155 (j : Nat) : mz_bd 155 j = ((-2147483648), 2147483647) := rfl
theorem ba_157 (j : Nat) : mz_bd 157 j = ((-2147483648), 2147483647) := rfl
theorem ba_158 (j : Nat) : mz_bd 158 j = ((-2147483648), 2147483647) := rfl
theorem ba_159 (j : Nat) : mz_bd 159 j = ((-2147483648), 2147483647) := rfl
theorem ba_160 (j : Nat) : mz_bd 160 j = ((-2147483648), 2147483647) := rfl
theorem ba_161 (j : Nat) : mz_bd 161 j = ((-2147483648), 2147483647) := rfl
theorem ba_163 (j : Nat) : mz_bd 163 j = ((-2147483648), 2147483647) := rfl
theorem ba_164 (j : Nat) : mz_bd 164 j = ((-2147483648), 2147483647) := rfl
theorem ba_165 (j : Nat) : mz_bd 165 j = ((-2147483648), 2147483647) := rfl
theorem ba_166 (j : Nat) : mz_bd 166 j = (0, 5) := rfl
theorem ba_167 (j : Nat) : mz_bd 167 j = (0, 20) := rfl
theorem ba_168 (j : Nat) : mz_bd 168 j = ((-2147483648), 2147483647) := rfl
theorem ba_170 (j : Nat) : mz_bd 170 j = (0, 59) := rfl
theorem ba_171 (j : Nat) : mz_bd 171 j = (0, 511) := rfl
theorem ba_172 (j : Nat) : mz_bd 172 j = ((-2147483648), 2147483647) := rfl
theorem ba_175 (j : Nat) : mz_bd 175 j = (0, 5) := rfl
theorem ba_176 (j : Nat) : mz_bd 176 j = (0, 20) := rfl
theorem ba_177 (j : Nat) : mz_bd 177 j = ((-2147483648), 2147483647) := rfl
theorem ba_178 (j : Nat) : mz_bd 178 j = ((-2147483648), 2147483647) := rfl
theorem rf_137_3 (a b : Nat) (c : Option Nat) : mm_HR a b c 137 3 = some 140 := rfl
theorem rf_137_4 (a b : Nat) (c : Option Nat) : mm_HR a b c 137 4 = some 141 := rfl
theorem rf_137_5 (a b : Nat) (c : Option Nat) : mm_HR a b c 137 5 = some 142 := rfl
theorem rf_137_6 (a b : Nat) (c : Option Nat) : mm_HR a b c 137 6 = some 143 := rfl
theorem rf_137_7 (a b : Nat) (c : Option Nat) : mm_HR a b c 137 7 = some 144 := rfl
theorem rf_137_11 (a b : Nat) (c : Option Nat) : mm_HR a b c 137 11 = some 148 := rfl
theorem rf_137_12 (a b : Nat) (c : Option Nat) : mm_HR a b c 137 12 = some 149 := rfl
theorem rf_137_13 (a b : Nat) (c : Option Nat) : mm_HR a b c 137 13 = some 150 := rfl
theorem rf_137_14 (a b : Nat) (c : Option Nat) : mm_HR a b c 137 14 = some 151 := rfl
theorem rf_137_25 (a b : Nat) (c : Option Nat) : mm_HR a b c 137 25 = some 152 := rfl
theorem rf_137_26 (a b : Nat) (c : Option Nat) : mm_HR a b c 137 26 = some 153 := rfl
theorem rf_137_27 (a b : Nat) (c : Option Nat) : mm_HR a b c 137 27 = some 154 := rfl
theorem rf_137_28 (a b : Nat) (c : Option Nat) : mm_HR a b c 137 28 = some 155 := rfl
theorem rf_137_29 (a b : Nat) (c : Option Nat) : mm_HR a b c 137 29 = some 156 := rfl
theorem rf_137_33 (a b : Nat) (c : Option Nat) : mm_HR a b c 137 33 = some 157 := rfl
theorem rf_137_34 (a b : Nat) (c : Option Nat) : mm_HR a b c 137 34 = some 158 := rfl
theorem rf_137_35 (a b : Nat) (c : Option Nat) : mm_HR a b c 137 35 = some 159 := rfl
theorem rf_137_38 (a b : Nat) (c : Option Nat) : mm_HR a b c 137 38 = some 160 := rfl
theorem rf_137_39 (a b : Nat) (c : Option Nat) : mm_HR a b c 137 39 = some 161 := rfl
theorem rf_137_40 (a b : Nat) (c : Option Nat) : mm_HR a b c 137 40 = some 162 := rfl
theorem rf_137_41 (a b : Nat) (c : Option Nat) : mm_HR a b c 137 41 = some 163 := rfl
theorem rf_137_42 (a b : Nat) (c : Option Nat) : mm_HR a b c 137 42 = some 164 := rfl
theorem rf_137_43 (a b : Nat) (c : Option Nat) : mm_HR a b c 137 43 = some 165 := rfl
theorem rf_137_44 (a b : Nat) (c : Option Nat) : mm_HR a b c 137 44 = some 166 := rfl
theorem rf_137_45 (a b : Nat) (c : Option Nat) : mm_HR a b c 137 45 = some 167 := rfl
theorem rf_137_46 (a b : Nat) (c : Option Nat) : mm_HR a b c 137 46 = some 168 := rfl
theorem rf_137_47 (a b : Nat) (c : Option Nat) : mm_HR a b c 137 47 = some 169 := rfl
theorem rf_137_48 (a b : Nat) (c : Option Nat) : mm_HR a b c 137 48 = some 170 := rfl
theorem rf_137_49 (a b : Nat) (c : Option Nat) : mm_HR a b c 137 49 = some 171 := rfl
theorem rf_137_51 (a b : Nat) (c : Option Nat) : mm_HR a b c 137 51 = some 172 := rfl
theorem rf_137_56 (a b : Nat) (c : Option Nat) : mm_HR a b c 137 56 = some 173 := rfl
theorem rf_137_57 (a b : Nat) (c : Option Nat) : mm_HR a b c 137 57 = some 174 := rfl
theorem rf_137_58 (a b : Nat) (c : Option Nat) : mm_HR a b c 137 58 = some 175 := rfl
theorem rf_137_59 (a b : Nat) (c : Option Nat) : mm_HR a b c 137 59 = some 176 := rfl
theorem rf_137_60 (a b : Nat) (c : Option Nat) : mm_HR a b c 137 60 = some 177 := rfl
theorem rf_137_61 (a b : Nat) (c : Option Nat) : mm_HR a b c 137 61 = some 178 := rfl
theorem bt_140_0 : mz_bd 140 0 = (0, 8) := rfl
theorem bt_140_1 : mz_bd 140 1 = (0, 6) := rfl
theorem bt_140_2 : mz_bd 140 2 = (0, 8) := rfl
theorem bt_140_3 : mz_bd 140 3 = (0, 700) := rfl
theorem bt_140_4 : mz_bd 140 4 = (0, 8) := rfl
theorem bt_140_5 : mz_bd 140 5 = (0, 6) := rfl
theorem bt_140_6 : mz_bd 140 6 = (0, 8) := rfl
theorem bt_140_7 : mz_bd 140 7 = (0, 700) := rfl
