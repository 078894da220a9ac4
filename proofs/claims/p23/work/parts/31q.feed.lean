/-! FEEDING the tape, of both -/
theorem nar_i8 (w : Int32) : w.toInt8.toInt32.toInt8.toInt32 &&& 255 = w &&& 255 := by
  apply Int32.toBitVec_inj.1
  ext i hi
  simp [Int32.toBitVec_and, Int32.toBitVec_toInt8, Int8.toBitVec_toInt32]
  by_cases h : i < 8
  · rw [BitVec.getElem_signExtend, dif_pos h, BitVec.getElem_signExtend, dif_pos hi]
  · have e : (255#32)[i] = false := by
      rw [BitVec.getElem_eq_testBit_toNat]
      exact Nat.testBit_lt_two_pow (Nat.lt_of_lt_of_le (by decide : (255#32).toNat < 2 ^ 8) (Nat.pow_le_pow_right (by decide) (by omega)))
    rw [e, Bool.and_false, Bool.and_false]
theorem byte_k (v : Int) : mz_andI (mz_narI (mz_i8I v)) 255 = mz_andI v 255 := by
  unfold mz_andI mz_narI mz_i8I
  rw [Int32.ofInt_toInt, Int32.ofInt_toInt, vp_nar_byte]
  exact congrArg Int32.toInt (nar_i8 (Int32.ofInt v))
/-- what stands of the tapes -/
def fd_k (gA gB : mz_G) (c : Int) : Prop := gA 82 1 = c ∧ gB 137 15 = c ∧ ∀ j : Nat, mz_andI (gA 83 j) 255 = gB 151 j
def fa_b (a l : Int) (g : mz_G) : mz_G := mz_up (mz_up g 83 (g 82 1).toNat (mz_narI (mz_i8I (mz_shrI a l)))) 82 1 (g 82 1 + 1)
def fb_b (a l : Int) (g : mz_G) : mz_G := mz_up (mz_up g 151 (g 137 15).toNat (mz_andI (mz_shrI a l) 255)) 137 15 (g 137 15 + 1)
theorem fd_b {gA gB : mz_G} {c a l : Int} (h : fd_k gA gB c) : fd_k (fa_b a l gA) (fb_b a l gB) (c + 1) := by
  obtain ⟨h1, h2, h3⟩ := h
  unfold fa_b fb_b
  rw [h1, h2]
  refine ⟨mz_up_at .., mz_up_at .., fun j => ?_⟩
  rw [show mz_up (mz_up gA 83 c.toNat (mz_narI (mz_i8I (mz_shrI a l)))) 82 1 (c + 1) 83 j = mz_up gA 83 c.toNat (mz_narI (mz_i8I (mz_shrI a l))) 83 j from up_k (by decide), show mz_up (mz_up gB 151 c.toNat (mz_andI (mz_shrI a l) 255)) 137 15 (c + 1) 151 j = mz_up gB 151 c.toNat (mz_andI (mz_shrI a l) 255) 151 j from up_k (by decide)]
  by_cases e : j = c.toNat
  · rw [e, mz_up_at, mz_up_at]
    exact byte_k _
  · rw [up_j e, up_j e]
    exact h3 j
theorem fd_1 {gA gB : mz_G} {c : Int} (h : fd_k gA gB c) : gA 82 1 = c := h.1
theorem take_b {a l : Int} {k : Nat} {g : mz_G} (hl : 0 ≤ l) (h0 : 0 ≤ g 82 1) (h1 : g 82 1 < 700) {l1 : Int} (e : l1 = l - 8) : zL_X7_takeBytes_3 a (k + 1) l g = zL_X7_takeBytes_3 a k l1 (fa_b a l g) := by
  rw [zL_X7_takeBytes_3_s]
  unfold zB_X7_takeBytes_3 zJ_X7_takeBytes_49
  rw [if_neg (show ¬ l < 0 by omega), zf_lq, if_neg (show ¬ g 82 1 < 0 by omega), zf_lq, if_pos (show g 82 1 < ((700 : Nat) : Int) by omega), zf_lq, zf_lq, zf_lq, zf_lq, zf_lq, zf_lq, up_k (by decide), e]
  rfl
theorem take_4 {a c : Int} {g : mz_G} (e : g 82 1 = c) (h0 : 0 ≤ c) (h1 : c + 4 ≤ 700) : zF_X7_takeBytes a g = fa_b a 0 (fa_b a 8 (fa_b a 16 (fa_b a 24 g))) ∧ fa_b a 0 (fa_b a 8 (fa_b a 16 (fa_b a 24 g))) 82 1 = c + 4 := by
  have n : ∀ l (g : mz_G), fa_b a l g 82 1 = g 82 1 + 1 := fun l g => mz_up_at ..
  refine ⟨?_, by rw [n, n, n, n]; omega⟩
  unfold zF_X7_takeBytes
  rw [show (3000000000 : Nat) = 2999999995 + 1 + 1 + 1 + 1 + 1 from rfl, take_b (l1 := 16) (by decide) (by omega) (by omega) (by decide), take_b (l1 := 8) (by decide) (by rw [n]; omega) (by rw [n]; omega) (by decide), take_b (l1 := 0) (by decide) (by rw [n, n]; omega) (by rw [n, n]; omega) (by decide), take_b (l1 := -8) (by decide) (by rw [n, n, n]; omega) (by rw [n, n, n]; omega) (by decide), zL_X7_takeBytes_3_s]
  unfold zB_X7_takeBytes_3
  rw [if_pos (by decide)]
section FD
variable {a1 a2 a3 a4 a5 : Int}
theorem L23_b {k : Nat} {l l1 sh s : Int} {g : mz_G} (h : l < 20) (hl : l1 = l + 1) (hs : 24 - 8 * (l % 4) = sh) (hq : (if l < 4 then a1 else if l < 8 then a2 else if l < 12 then a3 else if l < 16 then a4 else a5) = s) : zL_X12_feed_23 a1 a2 a3 a4 a5 (k + 1) l g = zL_X12_feed_23 a1 a2 a3 a4 a5 k l1 (fb_b s sh g) := by
  have j : ∀ s, zJ_X12_feed_76 a1 a2 a3 a4 a5 (zL_X12_feed_23 a1 a2 a3 a4 a5 k) s l g = zL_X12_feed_23 a1 a2 a3 a4 a5 k l1 (fb_b s sh g) := fun s => by
    unfold zJ_X12_feed_76
    rw [zf_lq, zf_lq, zf_lq, zf_lq, zf_lq, zf_lq, zf_lq, up_k (by decide), hs, hl]
    rfl
  rw [zL_X12_feed_23_s]
  unfold zB_X12_feed_23
  rw [if_pos h, ← hq]
  by_cases q1 : l < 4
  · rw [if_pos q1, if_pos q1]; exact j _
  rw [if_neg q1, if_neg q1]
  by_cases q2 : l < 8
  · rw [if_pos q2, if_pos q2]; exact j _
  rw [if_neg q2, if_neg q2]
  by_cases q3 : l < 12
  · rw [if_pos q3, if_pos q3]; exact j _
  rw [if_neg q3, if_neg q3]
  by_cases q4 : l < 16
  · rw [if_pos q4, if_pos q4]; exact j _
  rw [if_neg q4, if_neg q4]; exact j _
def fb_4 (a : Int) (g : mz_G) : mz_G := fb_b a 0 (fb_b a 8 (fb_b a 16 (fb_b a 24 g)))
theorem L23_4 {k : Nat} {l l1 l2 l3 l4 s : Int} {g : mz_G} (h0 : 0 ≤ l) (h : l < 17) (h4 : l % 4 = 0) (e1 : l1 = l + 1) (e2 : l2 = l1 + 1) (e3 : l3 = l2 + 1) (e4 : l4 = l3 + 1) (hq : (if l < 4 then a1 else if l < 8 then a2 else if l < 12 then a3 else if l < 16 then a4 else a5) = s) : zL_X12_feed_23 a1 a2 a3 a4 a5 (k + 1 + 1 + 1 + 1) l g = zL_X12_feed_23 a1 a2 a3 a4 a5 k l4 (fb_4 s g) := by
  have q : ∀ m : Int, l ≤ m → m ≤ l + 3 → (if m < 4 then a1 else if m < 8 then a2 else if m < 12 then a3 else if m < 16 then a4 else a5) = s := fun m u v => by
    rw [← hq]
    by_cases q1 : l < 4
    · rw [if_pos q1, if_pos (by omega)]
    rw [if_neg q1, if_neg (show ¬ m < 4 by omega)]
    by_cases q2 : l < 8
    · rw [if_pos q2, if_pos (by omega)]
    rw [if_neg q2, if_neg (show ¬ m < 8 by omega)]
    by_cases q3 : l < 12
    · rw [if_pos q3, if_pos (by omega)]
    rw [if_neg q3, if_neg (show ¬ m < 12 by omega)]
    by_cases q4 : l < 16
    · rw [if_pos q4, if_pos (by omega)]
    rw [if_neg q4, if_neg (show ¬ m < 16 by omega)]
  rw [L23_b (sh := 24) (by omega) e1 (by omega) (q l (by omega) (by omega)), L23_b (sh := 16) (by omega) e2 (by omega) (q l1 (by omega) (by omega)), L23_b (sh := 8) (by omega) e3 (by omega) (q l2 (by omega) (by omega)), L23_b (sh := 0) (by omega) e4 (by omega) (q l3 (by omega) (by omega))]
  rfl
theorem L23_all {g : mz_G} : zL_X12_feed_23 a1 a2 a3 a4 a5 3000000000 0 g = (fb_4 a5 (fb_4 a4 (fb_4 a3 (fb_4 a2 (fb_4 a1 g)))) 137 15, fb_4 a5 (fb_4 a4 (fb_4 a3 (fb_4 a2 (fb_4 a1 g))))) := by
  rw [show (3000000000 : Nat) = 2999999979 + 1 + 1 + 1 + 1 + 1 + 1 + 1 + 1 + 1 + 1 + 1 + 1 + 1 + 1 + 1 + 1 + 1 + 1 + 1 + 1 + 1 from rfl]
  rw [L23_4 (l1 := 1) (l2 := 2) (l3 := 3) (l4 := 4) (s := a1) (by decide) (by decide) (by decide) (by decide) (by decide) (by decide) (by decide) rfl]
  rw [L23_4 (l1 := 5) (l2 := 6) (l3 := 7) (l4 := 8) (s := a2) (by decide) (by decide) (by decide) (by decide) (by decide) (by decide) (by decide) rfl]
  rw [L23_4 (l1 := 9) (l2 := 10) (l3 := 11) (l4 := 12) (s := a3) (by decide) (by decide) (by decide) (by decide) (by decide) (by decide) (by decide) rfl]
  rw [L23_4 (l1 := 13) (l2 := 14) (l3 := 15) (l4 := 16) (s := a4) (by decide) (by decide) (by decide) (by decide) (by decide) (by decide) (by decide) rfl]
  rw [L23_4 (l1 := 17) (l2 := 18) (l3 := 19) (l4 := 20) (s := a5) (by decide) (by decide) (by decide) (by decide) (by decide) (by decide) (by decide) rfl]
  rw [zL_X12_feed_23_s]
  unfold zB_X12_feed_23
  rw [if_neg (by decide), zf_lq]
theorem feed_k {x : mm_X} {gA gB : mz_G} {c : Int} (h : fd_k gA gB c) (h0 : 0 ≤ c) (h7 : c ≤ 700) : ∃ c1, fd_k (zF_X11_feed x a1 a2 a3 a4 a5 gA).2 (zF_X12_feed a1 a2 a3 a4 a5 gB).2 c1 ∧ (zF_X11_feed x a1 a2 a3 a4 a5 gA).1 = (zF_X12_feed a1 a2 a3 a4 a5 gB).1 := by
  unfold zF_X11_feed zF_X12_feed
  simp only [zf_lq]
  rw [h.1, show mz_up gB 137 2 0 137 15 = c from (up_j (by decide)).trans h.2.1]
  have hB : fd_k gA (mz_up gB 137 2 0) c := ⟨h.1, (up_j (by decide)).trans h.2.1, fun j => (h.2.2 j).trans (up_k (by decide)).symm⟩
  by_cases f : 700 < c + 20
  · rw [if_pos f, if_pos f]
    exact ⟨c, hB, rfl⟩
  · rw [if_neg f, if_neg f]
    have s4 : ∀ {gA gB : mz_G} {c : Int} (a : Int), fd_k gA gB c → 0 ≤ c → c + 4 ≤ 700 → fd_k (zF_X7_takeBytes a gA) (fb_4 a gB) (c + 4) := fun {gA gB c} a h u v => by
      rw [(take_4 h.1 u v).1]
      have := fd_b (a := a) (l := 0) (fd_b (a := a) (l := 8) (fd_b (a := a) (l := 16) (fd_b (a := a) (l := 24) h)))
      rw [show c + 1 + 1 + 1 + 1 = c + 4 by omega] at this
      exact this
    have z := s4 a5 (s4 a4 (s4 a3 (s4 a2 (s4 a1 hB h0 (by omega)) (by omega) (by omega)) (by omega) (by omega)) (by omega) (by omega)) (by omega) (by omega)
    rw [L23_all]
    exact ⟨_, z, z.1.trans z.2.1.symm⟩
end FD
