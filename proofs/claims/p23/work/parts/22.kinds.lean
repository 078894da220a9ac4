/-! KINDS of cells, bounds, the invariant (wip/p2/tools/mk22.py) -/
def mz_bC (t j : Nat) : Int × Int := match t, j with
  | 0, 1 => (0, 16)
  | 1, 3 => (0, 8)
  | 4, 7 => (0, 1)
  | 4, 8 => (0, 1)
  | 5, 1 => (0, 700)
  | 6, 2 => (0, 39)
  | 6, 3 => (0, 40)
  | 6, 7 => (0, 8)
  | 7, 1 => (0, 700)
  | 7, 2 => (0, 700)
  | 7, 3 => (0, 700)
  | 7, 5 => (0, 700)
  | 8, 4 => (0, 1)
  | 9, 2 => (0, 6)
  | 10, 3 => (0, 8)
  | 10, 9 => (0, 8)
  | 11, 7 => (0, 1)
  | 12, 15 => (0, 700)
  | 12, 16 => (0, 700)
  | 12, 17 => (0, 700)
  | 12, 18 => (0, 4)
  | 12, 20 => (0, 700)
  | 12, 21 => (0, 700)
  | 12, 30 => (0, 1999)
  | 12, 31 => (0, 40)
  | 12, 32 => (0, 8)
  | 12, 36 => (0, 16)
  | 12, 37 => (0, 16)
  | 12, 50 => (0, 60)
  | 12, 53 => (0, 1)
  | 12, 54 => (0, 40)
  | 12, 55 => (0, 8)
  | _, _ => (-2147483648, 2147483647)
def mz_rowb (j : Nat) : Int × Int := if j % 25 = 0 then (0, 999) else if j % 25 < 7 then (0, 8) else if j % 25 < 19 then (0, 7) else (-2147483648, 2147483647)
def mz_toldb (j : Nat) : Int × Int := if j % 4 = 0 then (0, 8) else if j % 4 = 1 then (0, 6) else if j % 4 = 2 then (0, 8) else (0, 700)
def mz_bA (k j : Nat) : Int × Int := match k with
  | 98 => (0, 20)
  | 113 => (0, 20)
  | 142 => (0, 8)
  | 144 => (0, 1)
  | 151 => (0, 255)
  | 152 => (0, 8)
  | 153 => (0, 7)
  | 154 => (0, 7)
  | 166 => (0, 5)
  | 167 => (0, 20)
  | 170 => (0, 59)
  | 171 => (0, 511)
  | 175 => (0, 5)
  | 176 => (0, 20)
  | 140 => mz_toldb j
  | 156 => mz_rowb j
  | 162 => mz_rowb j
  | 169 => mz_rowb j
  | 173 => mz_rowb j
  | 174 => mz_rowb j
  | _ => (-2147483648, 2147483647)
def mz_bd (k j : Nat) : Int × Int := match mm_at mm_SHL k with
  | some (t, _) => if t < 13 then mz_bC t j else mz_bA k j
  | none => (-2147483648, 2147483647)
def mz_inv (g : mz_G) : Prop := ∀ k j, (mz_bd k j).1 ≤ g k j ∧ g k j ≤ (mz_bd k j).2
def mz_fr (W : Nat → Nat → Prop) (g g1 : mz_G) : Prop := ∀ k j, ¬ W k j → g1 k j = g k j
def mz_us (g : mz_G) (q k : Nat) (v : Int) (g1 : mz_G) : Prop := g1 q k = v ∧ ∀ a b, ¬ (a = q ∧ b = k) → g1 a b = g a b
theorem mz_inv_up {g : mz_G} (hI : mz_inv g) {q k : Nat} {v lo hi : Int} (hb : mz_bd q k = (lo, hi)) (h1 : lo ≤ v) (h2 : v ≤ hi) : mz_inv (mz_up g q k v) := by
  intro a b
  by_cases h : a = q ∧ b = k
  · rw [h.1, h.2, mz_up_at, hb]
    exact ⟨h1, h2⟩
  · rw [mz_up_ne h]
    exact hI a b
theorem mz_us_up (g : mz_G) (q k : Nat) (v : Int) : mz_us g q k v (mz_up g q k v) := ⟨mz_up_at g q k v, fun _ _ h => mz_up_ne h⟩
theorem mz_rd {g : mz_G} (hI : mz_inv g) {q k : Nat} {lo hi : Int} (hb : mz_bd q k = (lo, hi)) : lo ≤ g q k ∧ g q k ≤ hi := by
  have := hI q k
  rw [hb] at this
  exact this
theorem mz_rg {v lo hi : Int} (l : lo ≤ v) (u : v ≤ hi) (h1 : -2147483648 ≤ lo := by decide) (h2 : hi ≤ 2147483647 := by decide) : mz_inR v := ⟨Int.le_trans h1 l, Int.le_trans u h2⟩
section RW
variable {d : Nat} {M : mm_M} {pc : Nat} {lo : List (Option Value)} {st : List Value} {Q : (Option Value ⊕ Nat) → mm_H → Prop} {g : mz_G} {x : mm_X}
theorem mz_gI {q ci k ne j kd : Nat} {b0 b1 : Int} (hl : mm_look M.2.2.2.2 pc = some (.getfield j, 3)) (hf : mm_tab mm_fldT M.1 j = some (ci, k, ne) ∧ mm_tab mm_ftT ci k = some kd) (hk : kd < 2) (hsh : (mm_SH x.2.2.2.1 q).1 = ci) (hI : mz_inv g) (hb : mz_bd q k = (b0, b1)) (kk : ∀ v : Int, g q k = v → b0 ≤ v → v ≤ b1 → mm_W d M (pc + 3) lo (.int (Int32.ofInt v) :: st) (mz_mk g x) Q) : mm_W d M pc lo (.ref q :: st) (mz_mk g x) Q :=
  mz_fgI hl hf hk hsh rfl (kk _ rfl (mz_rd hI hb).1 (mz_rd hI hb).2)
theorem mz_pI {q ci k ne j : Nat} {v b0 b1 : Int} (hl : mm_look M.2.2.2.2 pc = some (.putfield j, 3)) (hf : mm_tab mm_fldT M.1 j = some (ci, k, ne) ∧ mm_tab mm_ftT ci k = some 0) (hsh : (mm_SH x.2.2.2.1 q).1 = ci) (hI : mz_inv g) (hb : mz_bd q k = (b0, b1)) (h1 : b0 ≤ v) (h2 : v ≤ b1) (kk : ∀ g1 : mz_G, mz_inv g1 → mz_us g q k v g1 → mm_W d M (pc + 3) lo st (mz_mk g1 x) Q) : mm_W d M pc lo (.int (Int32.ofInt v) :: .ref q :: st) (mz_mk g x) Q :=
  mz_fpI hl hf hsh (kk _ (mz_inv_up hI hb h1 h2) (mz_us_up g q k v))
theorem mz_pZ {q ci k ne j : Nat} {v b0 b1 : Int} (hl : mm_look M.2.2.2.2 pc = some (.putfield j, 3)) (hf : mm_tab mm_fldT M.1 j = some (ci, k, ne) ∧ mm_tab mm_ftT ci k = some 1) (hsh : (mm_SH x.2.2.2.1 q).1 = ci) (hv : v = 0 ∨ v = 1) (hI : mz_inv g) (hb : mz_bd q k = (b0, b1)) (h1 : b0 ≤ v) (h2 : v ≤ b1) (kk : ∀ g1 : mz_G, mz_inv g1 → mz_us g q k v g1 → mm_W d M (pc + 3) lo st (mz_mk g1 x) Q) : mm_W d M pc lo (.int (Int32.ofInt v) :: .ref q :: st) (mz_mk g x) Q :=
  mz_fpZ hl hf hsh hv (kk _ (mz_inv_up hI hb h1 h2) (mz_us_up g q k v))
theorem mz_aI {q n : Nat} {a b0 b1 : Int} (hl : mm_look M.2.2.2.2 pc = some (.iaload, 1)) (hsh : mm_SH x.2.2.2.1 q = (100, n)) (h0 : 0 ≤ a) (h1 : a < n) (hn : n ≤ 100000) (hI : mz_inv g) (hb : mz_bd q a.toNat = (b0, b1)) (kk : ∀ v : Int, g q a.toNat = v → b0 ≤ v → v ≤ b1 → mm_W d M (pc + 1) lo (.int (Int32.ofInt v) :: st) (mz_mk g x) Q) : mm_W d M pc lo (.int (Int32.ofInt a) :: .ref q :: st) (mz_mk g x) Q :=
  mz_ia hl hsh h0 h1 hn rfl (kk _ rfl (mz_rd hI hb).1 (mz_rd hI hb).2)
theorem mz_bI {q n t : Nat} {a b0 b1 : Int} (hl : mm_look M.2.2.2.2 pc = some (.baload, 1)) (hsh : mm_SH x.2.2.2.1 q = (t, n)) (ht : t = 101 ∨ t = 108) (h0 : 0 ≤ a) (h1 : a < n) (hn : n ≤ 100000) (hI : mz_inv g) (hb : mz_bd q a.toNat = (b0, b1)) (kk : ∀ v : Int, g q a.toNat = v → b0 ≤ v → v ≤ b1 → mm_W d M (pc + 1) lo (.int (Int32.ofInt v) :: st) (mz_mk g x) Q) : mm_W d M pc lo (.int (Int32.ofInt a) :: .ref q :: st) (mz_mk g x) Q :=
  mz_ba hl hsh ht h0 h1 hn rfl (kk _ rfl (mz_rd hI hb).1 (mz_rd hI hb).2)
theorem mz_sI {q n : Nat} {a v b0 b1 : Int} (hl : mm_look M.2.2.2.2 pc = some (.iastore, 1)) (hsh : mm_SH x.2.2.2.1 q = (100, n)) (h0 : 0 ≤ a) (h1 : a < n) (hn : n ≤ 100000) (hI : mz_inv g) (hb : mz_bd q a.toNat = (b0, b1)) (h2 : b0 ≤ v) (h3 : v ≤ b1) (kk : ∀ g1 : mz_G, mz_inv g1 → mz_us g q a.toNat v g1 → mm_W d M (pc + 1) lo st (mz_mk g1 x) Q) : mm_W d M pc lo (.int (Int32.ofInt v) :: .int (Int32.ofInt a) :: .ref q :: st) (mz_mk g x) Q :=
  mz_is hl hsh h0 h1 hn (kk _ (mz_inv_up hI hb h2 h3) (mz_us_up g q _ v))
theorem mz_sB {q n : Nat} {a v : Int} (hl : mm_look M.2.2.2.2 pc = some (.bastore, 1)) (hsh : mm_SH x.2.2.2.1 q = (101, n)) (h0 : 0 ≤ a) (h1 : a < n) (hn : n ≤ 100000) (hI : mz_inv g) (hb : mz_bd q a.toNat = (-2147483648, 2147483647)) (h2 : -2147483648 ≤ v) (h3 : v ≤ 2147483647) (kk : ∀ g1 : mz_G, mz_inv g1 → mz_us g q a.toNat (mz_narI v) g1 → mm_W d M (pc + 1) lo st (mz_mk g1 x) Q) : mm_W d M pc lo (.int (Int32.ofInt v) :: .int (Int32.ofInt a) :: .ref q :: st) (mz_mk g x) Q :=
  mz_bs hl hsh h0 h1 hn (fun w hw hr => by subst hw; exact kk _ (mz_inv_up hI hb hr.1 hr.2) (mz_us_up g q _ _))
end RW
theorem mz_Rb {a : Int} {n : Nat} (h0 : 0 ≤ a) (h1 : a < (2 : Int) ^ n) (hn : n ≤ 31) : mz_inR a := by
  have : (2 : Int) ^ n ≤ 2 ^ 31 := by exact_mod_cast Nat.pow_le_pow_right (by decide) hn
  exact ⟨by omega, by omega⟩
theorem mz_tbN {a : Int} (h0 : 0 ≤ a) (hR : mz_inR a) : (Int32.ofInt a).toBitVec.toNat = a.toNat := by
  have h : 0 ≤ Int32.ofInt a := (mz_ge0 hR).mpr h0
  rw [Int32.toNat_toBitVec_of_le h, mz_toNat hR]
theorem mz_ofN {y : Int32} {m : Nat} (h : y.toBitVec.toNat = m) (hm : m < 2 ^ 31) : y.toInt = (m : Int) := by
  show y.toBitVec.toInt = _
  rw [BitVec.toInt_eq_toNat_of_lt (by omega), h]
theorem mz_or_nn {a b : Int} (ha : 0 ≤ a) (hb : 0 ≤ b) (hA : mz_inR a) (hB : mz_inR b) : mz_orI a b = ((a.toNat ||| b.toNat : Nat) : Int) := by
  refine mz_ofN ?_ ?_
  · rw [Int32.toBitVec_or, BitVec.toNat_or, mz_tbN ha hA, mz_tbN hb hB]
  · exact Nat.or_lt_two_pow (by have := hA.2; omega) (by have := hB.2; omega)
theorem mz_xor_nn {a b : Int} (ha : 0 ≤ a) (hb : 0 ≤ b) (hA : mz_inR a) (hB : mz_inR b) : mz_xorI a b = ((a.toNat ^^^ b.toNat : Nat) : Int) := by
  refine mz_ofN ?_ ?_
  · rw [Int32.toBitVec_xor, BitVec.toNat_xor, mz_tbN ha hA, mz_tbN hb hB]
  · exact Nat.xor_lt_two_pow (by have := hA.2; omega) (by have := hB.2; omega)
theorem mz_or_lt {a b : Int} {n : Nat} (hn : n ≤ 30) (h0 : 0 ≤ a) (h1 : a < (2 : Int) ^ n) (h2 : 0 ≤ b) (h3 : b < (2 : Int) ^ n) : 0 ≤ mz_orI a b ∧ mz_orI a b ≤ (2 : Int) ^ n - 1 := by
  rw [mz_or_nn h0 h2 (mz_Rb h0 h1 (by omega)) (mz_Rb h2 h3 (by omega))]
  have e : ((2 ^ n : Nat) : Int) = (2 : Int) ^ n := by exact_mod_cast rfl
  have h := Nat.or_lt_two_pow (x := a.toNat) (y := b.toNat) (n := n) (by omega) (by omega)
  omega
theorem mz_xor_lt {a b : Int} {n : Nat} (hn : n ≤ 30) (h0 : 0 ≤ a) (h1 : a < (2 : Int) ^ n) (h2 : 0 ≤ b) (h3 : b < (2 : Int) ^ n) : 0 ≤ mz_xorI a b ∧ mz_xorI a b ≤ (2 : Int) ^ n - 1 := by
  rw [mz_xor_nn h0 h2 (mz_Rb h0 h1 (by omega)) (mz_Rb h2 h3 (by omega))]
  have e : ((2 ^ n : Nat) : Int) = (2 : Int) ^ n := by exact_mod_cast rfl
  have h := Nat.xor_lt_two_pow (x := a.toNat) (y := b.toNat) (n := n) (by omega) (by omega)
  omega
theorem mz_and_N {a b : Int} (h0 : 0 ≤ b) (hB : mz_inR b) : mz_andI a b = (((Int32.ofInt a).toBitVec.toNat &&& b.toNat : Nat) : Int) := by
  refine mz_ofN ?_ ?_
  · rw [Int32.toBitVec_and, BitVec.toNat_and, mz_tbN h0 hB]
  · exact Nat.lt_of_le_of_lt Nat.and_le_right (by have := hB.2; omega)
theorem mz_and_r {a b hi : Int} (h0 : 0 ≤ b) (h1 : b ≤ hi) (hA : mz_inR a) (hi2 : hi ≤ 2147483647 := by decide) : 0 ≤ mz_andI a b ∧ mz_andI a b ≤ hi := by
  rw [mz_and_N h0 ⟨by omega, by omega⟩]
  have := Nat.and_le_right (n := (Int32.ofInt a).toBitVec.toNat) (m := b.toNat)
  omega
theorem mz_and_comm (a b : Int) : mz_andI a b = mz_andI b a := by unfold mz_andI; rw [Int32.and_comm]
theorem mz_and_l {a b hi : Int} (h0 : 0 ≤ a) (h1 : a ≤ hi) (hB : mz_inR b) (hi2 : hi ≤ 2147483647 := by decide) : 0 ≤ mz_andI a b ∧ mz_andI a b ≤ hi := by
  rw [mz_and_comm]; exact mz_and_r h0 h1 hB hi2
theorem mz_m31 {b : Int} (h0 : 0 ≤ b) (h1 : b ≤ 31) : (Int32.ofInt b &&& 31) = Int32.ofInt b := by
  have hB : mz_inR b := ⟨by omega, by omega⟩
  rw [← Int32.toInt_inj]
  have e : (Int32.ofInt b &&& Int32.ofInt 31).toInt = mz_andI b 31 := rfl
  show (Int32.ofInt b &&& Int32.ofInt 31).toInt = _
  rw [e, mz_and_N (by decide) ⟨by decide, by decide⟩, mz_tbN h0 hB, mz_ti hB]
  have : b.toNat &&& 31 = b.toNat % 32 := Nat.and_two_pow_sub_one_eq_mod b.toNat 5
  rw [show (31 : Int).toNat = 31 from rfl, this]
  omega
theorem mz_smod : ∀ n : Fin 32, ((Int32.ofInt ((n.val : Nat) : Int)).toBitVec.smod 32#32).toNat = n.val := by decide
theorem mz_shl_nn {a b : Int} (ha : 0 ≤ a) (hA : mz_inR a) (hb : 0 ≤ b) (hb2 : b ≤ 31) (h : a.toNat * 2 ^ b.toNat < 2 ^ 31) : mz_shlI a b = ((a.toNat * 2 ^ b.toNat : Nat) : Int) := by
  unfold mz_shlI
  rw [mz_m31 hb hb2]
  refine mz_ofN ?_ h
  obtain ⟨n, rfl⟩ : ∃ n : Nat, b = n := ⟨b.toNat, by omega⟩
  have hs := mz_smod ⟨n, by omega⟩
  dsimp only at hs
  rw [Int32.toBitVec_shiftLeft, BitVec.shiftLeft_eq']
  show ((Int32.ofInt a).toBitVec <<< ((Int32.ofInt (n : Int)).toBitVec.smod 32#32).toNat).toNat = _
  rw [hs, BitVec.toNat_shiftLeft, Nat.shiftLeft_eq, mz_tbN ha hA, Int.toNat_natCast]
  rw [Int.toNat_natCast] at h
  exact Nat.mod_eq_of_lt (by omega)
theorem mz_shr_nn {a b : Int} (hA : mz_inR a) (hb : 0 ≤ b) (hb2 : b ≤ 31) : mz_shrI a b = a / (2 : Int) ^ b.toNat := by
  unfold mz_shrI
  rw [mz_m31 hb hb2]
  obtain ⟨n, rfl⟩ : ∃ n : Nat, b = n := ⟨b.toNat, by omega⟩
  have hs := mz_smod ⟨n, by omega⟩
  dsimp only at hs
  show (Int32.ofInt a >>> Int32.ofInt n).toBitVec.toInt = _
  rw [Int32.toBitVec_shiftRight]
  show (BitVec.sshiftRight (Int32.ofInt a).toBitVec ((Int32.ofInt (n : Int)).toBitVec.smod 32#32).toNat).toInt = _
  rw [hs, BitVec.toInt_sshiftRight, Int.shiftRight_eq_div_pow, Int.toNat_natCast]
  show (Int32.ofInt a).toInt / _ = _
  rw [mz_ti hA]
  norm_cast
theorem mz_shr0 {a b : Int} (hb : b = 0) (h0 : 0 ≤ a) (h1 : a ≤ 2147483647) : mz_shrI a b = a := by
  rw [mz_shr_nn ⟨by omega, h1⟩ (by omega) (by omega), hb]
  exact Int.ediv_one a
theorem mz_shl_b {a b lx hx hi : Int} {k : Nat} (hm : hx * (2 : Int) ^ k ≤ hi) (hi2 : hi ≤ 2147483647 ∧ k ≤ 31) (h1 : 0 ≤ lx ∧ lx ≤ a) (h2 : a ≤ hx) (h3 : 0 ≤ b) (h4 : b ≤ k) : lx ≤ mz_shlI a b ∧ mz_shlI a b ≤ hi := by
  obtain ⟨m, rfl⟩ : ∃ n : Nat, a = n := ⟨a.toNat, by omega⟩
  obtain ⟨n, rfl⟩ : ∃ n : Nat, b = n := ⟨b.toNat, by omega⟩
  have p1 : (2 : Int) ^ n ≤ 2 ^ k := by exact_mod_cast Nat.pow_le_pow_right (by decide) (by omega)
  have p2 : (m : Int) * 2 ^ n ≤ hx * 2 ^ k := Int.mul_le_mul h2 p1 (by exact_mod_cast Nat.zero_le _) (by omega)
  have p3 : 1 ≤ 2 ^ n := Nat.one_le_two_pow
  have p4 : m * 1 ≤ m * 2 ^ n := Nat.mul_le_mul_left m p3
  have p5 : ((m * 2 ^ n : Nat) : Int) = (m : Int) * 2 ^ n := by norm_cast
  have p6 : hx * 1 ≤ hx * 2 ^ k := Int.mul_le_mul_of_nonneg_left (by exact_mod_cast Nat.one_le_two_pow) (by omega)
  rw [mz_shl_nn (by omega) ⟨by omega, by omega⟩ (by omega) (by omega) (by rw [Int.toNat_natCast, Int.toNat_natCast]; omega), Int.toNat_natCast, Int.toNat_natCast]
  omega
theorem mz_shr_b {a b hi : Int} (h0 : 0 ≤ a) (h1 : a ≤ hi) (h2 : 0 ≤ b) (h3 : b ≤ 31) (hi2 : hi ≤ 2147483647 := by decide) : 0 ≤ mz_shrI a b ∧ mz_shrI a b ≤ hi := by
  rw [mz_shr_nn ⟨by omega, by omega⟩ h2 h3]
  have p : (0 : Int) < 2 ^ b.toNat := by exact_mod_cast Nat.two_pow_pos _
  have q := Int.ediv_nonneg h0 (Int.le_of_lt p)
  have r := Int.ediv_le_self ((2 : Int) ^ b.toNat) h0
  omega

def kd_let (q : Nat) : Prop := q = 4 ∨ q = 11 ∨ q = 13 ∨ q = 15 ∨ q = 17 ∨ q = 19 ∨ q = 21 ∨ q = 23 ∨ q = 25 ∨ q = 44 ∨ q = 51 ∨ q = 53 ∨ q = 55 ∨ q = 57 ∨ q = 59 ∨ q = 61 ∨ q = 63 ∨ q = 65 ∨ q = 133 ∨ q = 135
theorem kn_let {q : Nat} (h : kd_let q) : (4 ≤ q ∧ q ≤ 25) ∨ (44 ≤ q ∧ q ≤ 65) ∨ q = 133 ∨ q = 135 := by unfold kd_let at h; omega
theorem kc_let {q : Nat} (h : kd_let q) (L : Nat) : (mm_SH L q).1 = 0 := by unfold kd_let at h; rcases h with rfl | rfl | rfl | rfl | rfl | rfl | rfl | rfl | rfl | rfl | rfl | rfl | rfl | rfl | rfl | rfl | rfl | rfl | rfl | rfl <;> rfl
def kd_load (q : Nat) : Prop := q = 1 ∨ q = 41
theorem kn_load {q : Nat} (h : kd_load q) : q = 1 ∨ q = 41 := by unfold kd_load at h; omega
theorem kc_load {q : Nat} (h : kd_load q) (L : Nat) : (mm_SH L q).1 = 1 := by unfold kd_load at h; rcases h with rfl | rfl <;> rfl
def kd_rule (q : Nat) : Prop := q = 37 ∨ q = 77
theorem kn_rule {q : Nat} (h : kd_rule q) : q = 37 ∨ q = 77 := by unfold kd_rule at h; omega
theorem kc_rule {q : Nat} (h : kd_rule q) (L : Nat) : (mm_SH L q).1 = 5 := by unfold kd_rule at h; rcases h with rfl | rfl <;> rfl
def kd_story (q : Nat) : Prop := q = 86 ∨ q = 101
theorem kn_story {q : Nat} (h : kd_story q) : q = 86 ∨ q = 101 := by unfold kd_story at h; omega
theorem kc_story {q : Nat} (h : kd_story q) (L : Nat) : (mm_SH L q).1 = 6 := by unfold kd_story at h; rcases h with rfl | rfl <;> rfl
def kd_trunk (q : Nat) : Prop := q = 29 ∨ q = 30 ∨ q = 31 ∨ q = 32 ∨ q = 33 ∨ q = 34 ∨ q = 35 ∨ q = 69 ∨ q = 70 ∨ q = 71 ∨ q = 72 ∨ q = 73 ∨ q = 74 ∨ q = 75 ∨ q = 89 ∨ q = 90 ∨ q = 91 ∨ q = 92 ∨ q = 93 ∨ q = 94 ∨ q = 95 ∨ q = 104 ∨ q = 105 ∨ q = 106 ∨ q = 107 ∨ q = 108 ∨ q = 109 ∨ q = 110 ∨ q = 122 ∨ q = 123 ∨ q = 126 ∨ q = 127 ∨ q = 128 ∨ q = 129 ∨ q = 130 ∨ q = 131 ∨ q = 132
theorem kn_trunk {q : Nat} (h : kd_trunk q) : (29 ≤ q ∧ q ≤ 35) ∨ (69 ≤ q ∧ q ≤ 75) ∨ (89 ≤ q ∧ q ≤ 95) ∨ (104 ≤ q ∧ q ≤ 110) ∨ q = 122 ∨ q = 123 ∨ (126 ≤ q ∧ q ≤ 132) := by unfold kd_trunk at h; omega
theorem kc_trunk {q : Nat} (h : kd_trunk q) (L : Nat) : (mm_SH L q).1 = 8 := by unfold kd_trunk at h; rcases h with rfl | rfl | rfl | rfl | rfl | rfl | rfl | rfl | rfl | rfl | rfl | rfl | rfl | rfl | rfl | rfl | rfl | rfl | rfl | rfl | rfl | rfl | rfl | rfl | rfl | rfl | rfl | rfl | rfl | rfl | rfl | rfl | rfl | rfl | rfl | rfl | rfl <;> rfl
def kd_tks (q : Nat) : Prop := q = 27 ∨ q = 67 ∨ q = 87 ∨ q = 102 ∨ q = 124
theorem kn_tks {q : Nat} (h : kd_tks q) : q = 27 ∨ q = 67 ∨ q = 87 ∨ q = 102 ∨ q = 124 := by unfold kd_tks at h; omega
theorem kc_tks {q : Nat} (h : kd_tks q) (L : Nat) : (mm_SH L q).1 = 9 := by unfold kd_tks at h; rcases h with rfl | rfl | rfl | rfl | rfl <;> rfl
def kd_words (q : Nat) : Prop := q = 2 ∨ q = 42
theorem kn_words {q : Nat} (h : kd_words q) : q = 2 ∨ q = 42 := by unfold kd_words at h; omega
theorem kc_words {q : Nat} (h : kd_words q) (L : Nat) : (mm_SH L q).1 = 10 := by unfold kd_words at h; rcases h with rfl | rfl <;> rfl
theorem kl_let {q : Nat} (h : kd_let q) (L : Nat) : ∃ n : Nat, mm_SH L (q + 1) = (100, n) ∧ n ≤ 16 := by unfold kd_let at h; rcases h with rfl | rfl | rfl | rfl | rfl | rfl | rfl | rfl | rfl | rfl | rfl | rfl | rfl | rfl | rfl | rfl | rfl | rfl | rfl | rfl <;> exact ⟨_, rfl, by decide⟩
theorem kba_let_0 {q : Nat} (h : kd_let q) (j : Nat) : mz_bd (q + 1) j = (-2147483648, 2147483647) := by unfold kd_let at h; rcases h with rfl | rfl | rfl | rfl | rfl | rfl | rfl | rfl | rfl | rfl | rfl | rfl | rfl | rfl | rfl | rfl | rfl | rfl | rfl | rfl <;> rfl
def mk_x (x : mm_X) : Prop := (x.1 = 1 ∧ x.2.1 = 41) ∨ (x.1 = 41 ∧ x.2.1 = 1)
theorem kn_x {x : mm_X} (h : mk_x x) : 1 ≤ x.1 ∧ x.1 ≤ 41 ∧ 1 ≤ x.2.1 ∧ x.2.1 ≤ 41 ∧ x.1 + x.2.1 = 42 := by unfold mk_x at h; omega
theorem kx_1 {x : mm_X} (h : mk_x x) : kd_load x.1 := by unfold mk_x at h; unfold kd_load; omega
theorem kx_2 {x : mm_X} (h : mk_x x) : kd_load x.2.1 := by unfold mk_x at h; unfold kd_load; omega
theorem kw_words (x : mm_X) {w : Nat} (h : kd_words w) {a : Int} (h0 : 0 ≤ a) (h1 : a < 8) : ∃ u : Nat, mm_HR x.1 x.2.1 x.2.2.1 (w + 1) a.toNat = some u ∧ kd_let u ∧ w + 9 ≤ u ∧ u ≤ w + 23 := by
  obtain ⟨n, rfl⟩ : ∃ n : Nat, a = n := ⟨a.toNat, by omega⟩
  have hn : n = 0 ∨ n = 1 ∨ n = 2 ∨ n = 3 ∨ n = 4 ∨ n = 5 ∨ n = 6 ∨ n = 7 := by omega
  rw [Int.toNat_natCast]
  unfold kd_words at h
  rcases h with rfl | rfl <;> rcases hn with rfl | rfl | rfl | rfl | rfl | rfl | rfl | rfl <;> exact ⟨_, rfl, by unfold kd_let; decide, by decide, by decide⟩
theorem kw_tks (x : mm_X) {w : Nat} (h : kd_tks w) {a : Int} (h0 : 0 ≤ a) (h1 : a < 6) : ∃ u : Nat, mm_HR x.1 x.2.1 x.2.2.1 (w + 1) a.toNat = some u ∧ kd_trunk u ∧ w + 3 ≤ u ∧ u ≤ w + 8 := by
  obtain ⟨n, rfl⟩ : ∃ n : Nat, a = n := ⟨a.toNat, by omega⟩
  have hn : n = 0 ∨ n = 1 ∨ n = 2 ∨ n = 3 ∨ n = 4 ∨ n = 5 := by omega
  rw [Int.toNat_natCast]
  unfold kd_tks at h
  rcases h with rfl | rfl | rfl | rfl | rfl <;> rcases hn with rfl | rfl | rfl | rfl | rfl | rfl <;> exact ⟨_, rfl, by unfold kd_trunk; decide, by decide, by decide⟩
def mk_sa (q n : Nat) : Prop := (q = 138 ∧ n = 2) ∨ (q = 139 ∧ n = 7)
theorem kc_sa {q n : Nat} (h : mk_sa q n) (L : Nat) : mm_SH L q = (105, n) := by rcases h with ⟨rfl, rfl⟩ | ⟨rfl, rfl⟩ <;> rfl
theorem km_sa {q n : Nat} (h : mk_sa q n) : n ≤ 100000 := by rcases h with ⟨rfl, rfl⟩ | ⟨rfl, rfl⟩ <;> decide
theorem kw_sa (x : mm_X) {q n : Nat} (h : mk_sa q n) {a : Int} (h0 : 0 ≤ a) (h1 : a < n) : ∃ u : Nat, u < 28 ∧ mm_HR x.1 x.2.1 x.2.2.1 q a.toNat = some (1000 + u) := by
  obtain ⟨m, rfl⟩ : ∃ m : Nat, a = m := ⟨a.toNat, by omega⟩
  rw [Int.toNat_natCast]
  rcases h with ⟨rfl, rfl⟩ | ⟨rfl, rfl⟩
  · have hm : m = 0 ∨ m = 1 := by omega
    rcases hm with rfl | rfl
    · exact ⟨14, by decide, rfl⟩
    · exact ⟨15, by decide, rfl⟩
  · have hm : m = 0 ∨ m = 1 ∨ m = 2 ∨ m = 3 ∨ m = 4 ∨ m = 5 ∨ m = 6 := by omega
    rcases hm with rfl | rfl | rfl | rfl | rfl | rfl | rfl
    · exact ⟨16, by decide, rfl⟩
    · exact ⟨17, by decide, rfl⟩
    · exact ⟨18, by decide, rfl⟩
    · exact ⟨19, by decide, rfl⟩
    · exact ⟨20, by decide, rfl⟩
    · exact ⟨21, by decide, rfl⟩
    · exact ⟨22, by decide, rfl⟩
theorem kc_str {s : Nat} (h : s < 28) (L : Nat) : (mm_SH L (1000 + s)).1 = 107 := by
  have e : mm_at mm_SHL (1000 + s) = none := by
    rw [mm_at_get]
    exact List.getElem?_eq_none (by show 180 ≤ 1000 + s; omega)
  unfold mm_SH
  rw [e]
  dsimp only
  rw [if_neg (by omega), if_pos (by omega)]
section TH
variable {d : Nat} {M : mm_M} {pc : Nat} {lo : List (Option Value)} {st : List Value} {H : mm_H} {Q : (Option Value ⊕ Nat) → mm_H → Prop} {g : mz_G} {x : mm_X}
theorem mz_throw {i ic E : Nat} (hl : mm_look M.2.2.2.2 pc = some (.new i, 3)) (h1 : mm_tab mm_newT M.1 i = none) (h2 : mm_tab mm_excT M.1 i = some (E, ic)) (h3 : mm_look M.2.2.2.2 (pc + 3) = some (.dup, 1)) (h4 : mm_look M.2.2.2.2 (pc + 4) = some (.invokespecial ic, 3)) (h5 : mm_look M.2.2.2.2 (pc + 7) = some (.athrow, 1)) (h6 : M.2.2.2.1 = []) (hc : mm_cat st ≤ 8) (hd : 12 ≤ d) (k : Q (.inr E) (mm_thr H)) : mm_W d M pc lo st H Q := by
  refine mm_th (E := E) hl ?_ k
  simp only [mm_step, h1, h2, if_pos (And.intro hc hd), h3, h4, h5, h6, if_true]
theorem mz_imulp {a b A B : Int} (hl : mm_look M.2.2.2.2 pc = some (.imul, 1)) (h1 : 0 ≤ a) (h2 : a ≤ A) (h3 : 0 ≤ b) (h4 : b ≤ B) (_ : A * B ≤ 2147483647) (k : ∀ v : Int, v = a * b → 0 ≤ v → v ≤ A * B → mm_W d M (pc + 1) lo (.int (Int32.ofInt v) :: st) H Q) : mm_W d M pc lo (.int (Int32.ofInt b) :: .int (Int32.ofInt a) :: st) H Q :=
  mz_imul hl (k _ rfl (Int.mul_nonneg h1 h3) (Int.mul_le_mul h2 h4 h3 (Int.le_trans h1 h2)))
theorem mz_iremq {a b : Int} (hl : mm_look M.2.2.2.2 pc = some (.irem, 1)) (ha : mz_inR a) (hb : mz_inR b) (h0 : 0 ≤ a) (h1 : 0 < b) (k : ∀ v : Int, v = a % b → 0 ≤ v → v < b → v ≤ a → mm_W d M (pc + 1) lo (.int (Int32.ofInt v) :: st) H Q) : mm_W d M pc lo (.int (Int32.ofInt b) :: .int (Int32.ofInt a) :: st) H Q := by
  refine mz_iremp hl ha hb h0 h1 (fun v e l u => k v e l u ?_)
  have h2 := Int.mul_nonneg (Int.le_of_lt h1) (Int.ediv_nonneg h0 (Int.le_of_lt h1))
  rw [e, Int.emod_def]
  omega
theorem mz_ld_1 (g : mz_G) (x : mm_X) (v : Nat) : mm_wR (mz_mk g x) 0 1 (some v) = mz_mk g (v, x.2) := by
  unfold mm_wR mz_mk
  dsimp only
  congr 2
  funext a b
  unfold mm_u2
  by_cases h : a = 0 ∧ b = 1
  · rw [if_pos h, h.1, h.2]; rfl
  · rw [if_neg h]
    unfold mm_HR
    split <;> simp_all
theorem mz_ld_2 (g : mz_G) (x : mm_X) (v : Nat) : mm_wR (mz_mk g x) 0 2 (some v) = mz_mk g (x.1, v, x.2.2) := by
  unfold mm_wR mz_mk
  dsimp only
  congr 2
  funext a b
  unfold mm_u2
  by_cases h : a = 0 ∧ b = 2
  · rw [if_pos h, h.1, h.2]; rfl
  · rw [if_neg h]
    unfold mm_HR
    split <;> simp_all
theorem mz_ld1 {v j ne : Nat} (hl : mm_look M.2.2.2.2 pc = some (.putfield j, 3)) (hf : mm_tab mm_fldT M.1 j = some (11, 1, ne) ∧ mm_tab mm_ftT 11 1 = some 2) (kk : mm_W d M (pc + 3) lo st (mz_mk g (v, x.2)) Q) : mm_W d M pc lo (.ref v :: .ref 0 :: st) (mz_mk g x) Q := by
  rw [← mz_ld_1] at kk
  refine mm_s1 (q := (pc + 3, lo, st, mm_wR (mz_mk g x) 0 1 (some v))) hl ?_ kk
  have hsh : (mm_sh (mz_mk g x) 0).1 = 11 := rfl
  simp only [mm_step, hf.1, hf.2, hsh, if_true]
  rfl
theorem mz_ld2 {v j ne : Nat} (hl : mm_look M.2.2.2.2 pc = some (.putfield j, 3)) (hf : mm_tab mm_fldT M.1 j = some (11, 2, ne) ∧ mm_tab mm_ftT 11 2 = some 2) (kk : mm_W d M (pc + 3) lo st (mz_mk g (x.1, v, x.2.2)) Q) : mm_W d M pc lo (.ref v :: .ref 0 :: st) (mz_mk g x) Q := by
  rw [← mz_ld_2] at kk
  refine mm_s1 (q := (pc + 3, lo, st, mm_wR (mz_mk g x) 0 2 (some v))) hl ?_ kk
  have hsh : (mm_sh (mz_mk g x) 0).1 = 11 := rfl
  simp only [mm_step, hf.1, hf.2, hsh, if_true]
  rfl
theorem mz_swap {x : mm_X} (h : mk_x x) : ∃ x1 : mm_X, x1 = (x.2.1, x.1, x.2.2) ∧ mk_x x1 ∧ x1.2.2 = x.2.2 := ⟨_, rfl, by unfold mk_x at h ⊢; dsimp only; omega, rfl⟩
def mz_sl (s : Nat) : Nat := ((mm_at mm_strs s).getD []).length
theorem mz_sl_le {s : Nat} (h : s < 28) : mz_sl s ≤ 100 := by
  have : ∀ t : Fin 28, mz_sl t.val ≤ 100 := by decide
  exact this ⟨s, h⟩
theorem sb_sh {s : Nat} (h : s < 28) (L : Nat) : mm_SH L ((1000 + s) + 1000) = (108, mz_sl s) := by
  have e : mm_at mm_SHL ((1000 + s) + 1000) = none := by
    rw [mm_at_get]
    exact List.getElem?_eq_none (by show 180 ≤ (1000 + s) + 1000; omega)
  unfold mm_SH
  rw [e]
  dsimp only
  rw [if_neg (by omega), if_neg (by omega), if_pos (by omega), show (1000 + s) + 1000 - 2000 = s by omega]
  rfl
theorem sb_bd (s j : Nat) : mz_bd ((1000 + s) + 1000) j = (-2147483648, 2147483647) := by
  have e : mm_at mm_SHL ((1000 + s) + 1000) = none := by
    rw [mm_at_get]
    exact List.getElem?_eq_none (by show 180 ≤ (1000 + s) + 1000; omega)
  unfold mz_bd
  rw [e]
theorem mz_lrf (o : Option Nat) : mm_long (va_rf o) = false := by cases o <;> rfl
theorem mz_sfv {j q : Nat} (hl : mm_look M.2.2.2.2 pc = some (.getfield j, 3)) (h1 : mm_tab mm_fldT M.1 j = none) (h2 : mm_tab mm_sfT M.1 j = some 0) (hsh : (mm_SH x.2.2.2.1 q).1 = 107) (k : mm_W d M (pc + 3) lo (.ref (q + 1000) :: st) (mz_mk g x) Q) : mm_W d M pc lo (.ref q :: st) (mz_mk g x) Q := by
  refine mm_s1 (q := (pc + 3, lo, .ref (q + 1000) :: st, mz_mk g x)) hl ?_ k
  have hsh' : (mm_sh (mz_mk g x) q).1 = 107 := hsh
  simp only [mm_step, h1, h2, hsh', if_true]
  rfl
theorem mz_sfc {j q : Nat} (hl : mm_look M.2.2.2.2 pc = some (.getfield j, 3)) (h1 : mm_tab mm_fldT M.1 j = none) (h2 : mm_tab mm_sfT M.1 j = some 1) (hsh : (mm_SH x.2.2.2.1 q).1 = 107) (k : mm_W d M (pc + 3) lo (.int (Int32.ofInt 0) :: st) (mz_mk g x) Q) : mm_W d M pc lo (.ref q :: st) (mz_mk g x) Q := by
  refine mm_s1 (q := (pc + 3, lo, .int (Int32.ofInt 0) :: st, mz_mk g x)) hl ?_ k
  have hsh' : (mm_sh (mz_mk g x) q).1 = 107 := hsh
  simp only [mm_step, h1, h2, hsh', if_true]
  rfl
theorem mz_gs0 {j : Nat} (hl : mm_look M.2.2.2.2 pc = some (.getstatic j, 3)) (h1 : mm_tab mm_gsT M.1 j = some 0) (k : mm_W d M (pc + 3) lo (.int (Int32.ofInt 1) :: st) H Q) : mm_W d M pc lo st H Q := by
  refine mm_s1 (q := (pc + 3, lo, .int (Int32.ofInt 1) :: st, H)) hl ?_ k
  simp only [mm_step, h1]
  rfl
theorem mz_gs1 {j : Nat} (hl : mm_look M.2.2.2.2 pc = some (.getstatic j, 3)) (h1 : mm_tab mm_gsT M.1 j = some 1) (k : mm_W d M (pc + 3) lo (va_rf x.2.2.1 :: st) (mz_mk g x) Q) : mm_W d M pc lo st (mz_mk g x) Q := by
  refine mm_s1 (q := (pc + 3, lo, va_rf x.2.2.1 :: st, mz_mk g x)) hl ?_ k
  simp only [mm_step, h1]
  rfl
theorem mz_i2cE {a : Int} (h0 : 0 ≤ a) (h1 : a < 65536) : ((Int32.ofInt a).toUInt32 % 65536).toInt32 = Int32.ofInt a := by
  have hR : mz_inR a := ⟨by omega, by omega⟩
  apply Int32.toBitVec_inj.mp
  apply BitVec.eq_of_toNat_eq
  show ((Int32.ofInt a).toBitVec % 65536#32).toNat = _
  rw [BitVec.toNat_umod, mz_tbN h0 hR]
  exact Nat.mod_eq_of_lt (by show a.toNat < 65536; omega)
theorem mz_i2c {a : Int} (hl : mm_look M.2.2.2.2 pc = some (.i2c, 1)) (h0 : 0 ≤ a) (h1 : a < 65536) (k : mm_W d M (pc + 1) lo (.int (Int32.ofInt a) :: st) H Q) : mm_W d M pc lo (.int (Int32.ofInt a) :: st) H Q := by
  refine mm_s1 (q := (pc + 1, lo, .int ((Int32.ofInt a).toUInt32 % 65536).toInt32 :: st, H)) hl rfl ?_
  rw [mz_i2cE h0 h1]
  exact k
theorem mz_rtC {v : Int} (hl : mm_look M.2.2.2.2 pc = some (.ireturn, 1)) (hM : M.2.2.1 = 5) (h0 : 0 ≤ v) (h1 : v < 65536) (k : Q (.inl (some (.int (Int32.ofInt v)))) H) : mm_W d M pc lo [.int (Int32.ofInt v)] H Q :=
  mm_rt hl (by simp only [mm_step, hM, if_pos (mz_i2cE h0 h1)]) k
end TH
