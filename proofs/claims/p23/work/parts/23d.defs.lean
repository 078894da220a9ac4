/-! the methods as functions (wip/p2/tools/dec.py) -/
def zJ_X7_takeBytes_49 (a1 : Int) (rc : Int → mz_G → mz_G) (l2 : Int) (g : mz_G) : mz_G :=
  rc (l2 + (-8)) g
def zB_X7_takeBytes_3 (a1 : Int) (rc : Int → mz_G → mz_G) (l2 : Int) (g : mz_G) : mz_G :=
  if l2 < 0 then (g) else (zf_l (g 82 1) fun v1 => if v1 < 0 then (zJ_X7_takeBytes_49 a1 rc l2 g) else (zf_l (g 82 1) fun v2 => if v2 < ((700 : Nat) : Int) then (zf_l (g 82 1) fun v3 => zf_l (mz_shrI a1 l2) fun v4 => zf_l (mz_i8I v4) fun v5 => zf_l (mz_up g 83 (v3 : Int).toNat (mz_narI v5)) fun g6 => zf_l (g6 82 1) fun v7 => zf_l (mz_up g6 82 1 (v7 + 1)) fun g8 => zJ_X7_takeBytes_49 a1 rc l2 g8) else (zJ_X7_takeBytes_49 a1 rc l2 g)))
def zL_X7_takeBytes_3 (a1 : Int) : Nat → Int → mz_G → mz_G
  | 0 => fun _ _ => default
  | k + 1 => zB_X7_takeBytes_3 a1 (zL_X7_takeBytes_3 a1 k)
theorem zL_X7_takeBytes_3_s {a1 : Int} {k : Nat} {l2 : Int} {g : mz_G} : zL_X7_takeBytes_3 a1 (k + 1) l2 g = zB_X7_takeBytes_3 a1 (zL_X7_takeBytes_3 a1 k) l2 g := rfl
def zF_X7_takeBytes (a1 : Int) (g : mz_G) : mz_G :=
  zL_X7_takeBytes_3 a1 3000000000 24 g
def zF_X11_feed (x : mm_X) (a1 : Int) (a2 : Int) (a3 : Int) (a4 : Int) (a5 : Int) (g : mz_G) : Int × mz_G :=
  zf_l (g 82 1) fun v1 => if (700 : Int) < (v1 + 20) then (((-1), g)) else (zf_l (zF_X7_takeBytes a1 g) fun g2 => zf_l (zF_X7_takeBytes a2 g2) fun g3 => zf_l (zF_X7_takeBytes a3 g3) fun g4 => zf_l (zF_X7_takeBytes a4 g4) fun g5 => zf_l (zF_X7_takeBytes a5 g5) fun g6 => zf_l (g6 82 1) fun v7 => (v7, g6))
def zF_X11_mustFit (a1 : Int) (g : mz_G) : zf_T :=
  if a1 = 0 then ((2, 0, g)) else ((0, 0, g))
def zF_X10_startAnew (q0 : Nat) (g : mz_G) : mz_G :=
  zf_l (mz_up g q0 3 0) fun g1 => g1
def zF_X5_clear (q0 : Nat) (g : mz_G) : mz_G :=
  zf_l (mz_up g q0 1 0) fun g1 => g1
def zF_X1_forgetAll (q0 : Nat) (g : mz_G) : mz_G :=
  zf_l (zF_X10_startAnew (q0 + 1) g) fun g1 => zf_l (mz_up g1 (q0 + 26) 2 0) fun g2 => zf_l (mz_up g2 q0 3 0) fun g3 => zf_l (zF_X5_clear (q0 + 36) g3) fun g4 => g4
def zJ_X7_byteAt_26 (a1 : Int) (g : mz_G) : Int :=
  0
def zF_X7_byteAt (a1 : Int) (g : mz_G) : Int :=
  if a1 < 0 then (zJ_X7_byteAt_26 a1 g) else (if a1 < ((700 : Nat) : Int) then (zf_l (g 83 (a1 : Int).toNat) fun v1 => zf_l (mz_andI v1 255) fun v2 => v2) else (zJ_X7_byteAt_26 a1 g))
def zJ_X7_isLetter_16 (a1 : Int) (g : mz_G) : Int :=
  0
def zF_X7_isLetter (a1 : Int) (g : mz_G) : Int :=
  if a1 < 97 then (zJ_X7_isLetter_16 a1 g) else (if (122 : Int) < a1 then (zJ_X7_isLetter_16 a1 g) else (1))
def zB_X7_stepWord_5 (rc : mz_G → mz_G) (g : mz_G) : mz_G :=
  zf_l (g 82 3) fun v2 => zf_l (g 82 2) fun v3 => if v2 < v3 then (zf_l (g 82 3) fun v4 => zf_l (zF_X7_byteAt v4 g) fun v5 => zf_l (zF_X7_isLetter v5 g) fun v6 => if v6 = 0 then (g) else (zf_l (g 82 3) fun v7 => zf_l (mz_up g 82 3 (v7 + 1)) fun g8 => rc g8)) else (g)
def zL_X7_stepWord_5 : Nat → mz_G → mz_G
  | 0 => fun _ => default
  | k + 1 => zB_X7_stepWord_5 (zL_X7_stepWord_5 k)
theorem zL_X7_stepWord_5_s {k : Nat} {g : mz_G} : zL_X7_stepWord_5 (k + 1) g = zB_X7_stepWord_5 (zL_X7_stepWord_5 k) g := rfl
def zF_X7_stepWord (g : mz_G) : mz_G :=
  zf_l (mz_up g 82 4 1) fun g1 => zL_X7_stepWord_5 3000000000 g1
def zJ_X7_isDigit_16 (a1 : Int) (g : mz_G) : Int :=
  0
def zF_X7_isDigit (a1 : Int) (g : mz_G) : Int :=
  if a1 < 48 then (zJ_X7_isDigit_16 a1 g) else (if (57 : Int) < a1 then (zJ_X7_isDigit_16 a1 g) else (1))
def zJ_X7_stepNumber_70 (rc : mz_G → mz_G) (s1 : Int) (g : mz_G) : mz_G :=
  zf_l (mz_up g 82 6 s1) fun g15 => zf_l (g15 82 3) fun v16 => zf_l (mz_up g15 82 3 (v16 + 1)) fun g17 => rc g17
def zB_X7_stepNumber_5 (rc : mz_G → mz_G) (g : mz_G) : mz_G :=
  zf_l (g 82 3) fun v2 => zf_l (g 82 2) fun v3 => if v2 < v3 then (zf_l (g 82 3) fun v4 => zf_l (zF_X7_byteAt v4 g) fun v5 => zf_l (zF_X7_isDigit v5 g) fun v6 => if v6 = 0 then (g) else (zf_l (g 82 3) fun v7 => zf_l (g 82 5) fun v8 => if (v7 - v8) < 4 then (zf_l (g 82 6) fun v9 => zf_l (mz_wrap (10 * v9)) fun v10 => zf_l (g 82 3) fun v11 => zf_l (zF_X7_byteAt v11 g) fun v12 => zf_l (mz_wrap (v10 + v12)) fun v13 => zf_l (mz_wrap (v13 - 48)) fun v14 => zJ_X7_stepNumber_70 rc v14 g) else (zf_l (g 82 6) fun v18 => zJ_X7_stepNumber_70 rc v18 g))) else (g)
def zL_X7_stepNumber_5 : Nat → mz_G → mz_G
  | 0 => fun _ => default
  | k + 1 => zB_X7_stepNumber_5 (zL_X7_stepNumber_5 k)
theorem zL_X7_stepNumber_5_s {k : Nat} {g : mz_G} : zL_X7_stepNumber_5 (k + 1) g = zB_X7_stepNumber_5 (zL_X7_stepNumber_5 k) g := rfl
def zF_X7_stepNumber (g : mz_G) : mz_G :=
  zf_l (mz_up g 82 4 2) fun g1 => zL_X7_stepNumber_5 3000000000 g1
def zJ_X7_isSign_64 (a1 : Int) (g : mz_G) : Int :=
  1
def zJ_X7_isSign_35 (a1 : Int) (s0 : Int) (g : mz_G) : Int :=
  if s0 = 0 then (if a1 = 43 then (zJ_X7_isSign_64 a1 g) else (if a1 = 45 then (zJ_X7_isSign_64 a1 g) else (if a1 = 42 then (zJ_X7_isSign_64 a1 g) else (if a1 = 47 then (zJ_X7_isSign_64 a1 g) else (0))))) else (zJ_X7_isSign_64 a1 g)
def zJ_X7_isSign_30 (a1 : Int) (g : mz_G) : Int :=
  zJ_X7_isSign_35 a1 1 g
def zF_X7_isSign (a1 : Int) (g : mz_G) : Int :=
  if a1 = 59 then (zJ_X7_isSign_30 a1 g) else (if a1 = 40 then (zJ_X7_isSign_30 a1 g) else (if a1 = 41 then (zJ_X7_isSign_30 a1 g) else (if a1 = 60 then (zJ_X7_isSign_30 a1 g) else (if a1 = 61 then (zJ_X7_isSign_30 a1 g) else (zJ_X7_isSign_35 a1 0 g)))))
def zJ_X7_step_37 (rc : mz_G → mz_G) (g : mz_G) : mz_G :=
  zf_l (g 82 3) fun v5 => zf_l (mz_up g 82 3 (v5 + 1)) fun g6 => rc g6
def zJ_X7_step_146 (s1 : Int) (g : mz_G) : mz_G :=
  zf_l (mz_up g 82 4 s1) fun g23 => zf_l (g23 82 3) fun v24 => zf_l (mz_up g23 82 3 (v24 + 1)) fun g25 => g25
def zJ_X7_step_50 (g : mz_G) : mz_G :=
  zf_l (g 82 3) fun v9 => zf_l (mz_up g 82 5 v9) fun g10 => zf_l (mz_up g10 82 6 0) fun g11 => zf_l (g11 82 3) fun v12 => zf_l (g11 82 2) fun v13 => if v12 < v13 then (zf_l (g11 82 3) fun v14 => zf_l (zF_X7_byteAt v14 g11) fun v15 => zf_l (zF_X7_isLetter v15 g11) fun v16 => if v16 = 0 then (zf_l (g11 82 3) fun v17 => zf_l (zF_X7_byteAt v17 g11) fun v18 => zf_l (zF_X7_isDigit v18 g11) fun v19 => if v19 = 0 then (zf_l (g11 82 3) fun v20 => zf_l (zF_X7_byteAt v20 g11) fun v21 => zf_l (zF_X7_isSign v21 g11) fun v22 => if v22 = 0 then (zJ_X7_step_146 3 g11) else (zJ_X7_step_146 v21 g11)) else (zf_l (zF_X7_stepNumber g11) fun g26 => g26)) else (zf_l (zF_X7_stepWord g11) fun g27 => g27)) else (zf_l (mz_up g11 82 4 0) fun g28 => g28)
def zB_X7_step_0 (rc : mz_G → mz_G) (g : mz_G) : mz_G :=
  zf_l (g 82 3) fun v1 => zf_l (g 82 2) fun v2 => if v1 < v2 then (zf_l (g 82 3) fun v3 => zf_l (zF_X7_byteAt v3 g) fun v4 => if v4 = 32 then (zJ_X7_step_37 rc g) else (zf_l (g 82 3) fun v7 => zf_l (zF_X7_byteAt v7 g) fun v8 => if v8 = 10 then (zJ_X7_step_37 rc g) else (zJ_X7_step_50 g))) else (zJ_X7_step_50 g)
def zL_X7_step_0 : Nat → mz_G → mz_G
  | 0 => fun _ => default
  | k + 1 => zB_X7_step_0 (zL_X7_step_0 k)
theorem zL_X7_step_0_s {k : Nat} {g : mz_G} : zL_X7_step_0 (k + 1) g = zB_X7_step_0 (zL_X7_step_0 k) g := rfl
def zF_X7_step (g : mz_G) : mz_G :=
  zL_X7_step_0 3000000000 g
def zF_X7_open (a1 : Int) (g : mz_G) : mz_G :=
  zf_l (mz_up g 82 1 0) fun g1 => zf_l (mz_up g1 82 2 a1) fun g2 => zf_l (mz_up g2 82 3 0) fun g3 => zf_l (zF_X7_step g3) fun g4 => g4
def zF_X4_begin (a1 : Int) (g : mz_G) : mz_G :=
  zf_l (mz_up g 81 1 0) fun g1 => zf_l (mz_up g1 81 2 (-1)) fun g2 => zf_l (zF_X7_open a1 g2) fun g3 => g3
def zF_X7_kind (g : mz_G) : Int :=
  zf_l (g 82 4) fun v1 => v1
def zJ_X4_goesOn_21 (g : mz_G) : Int :=
  0
def zF_X4_goesOn (g : mz_G) : Int :=
  zf_l (g 81 1) fun v1 => if v1 = 0 then (zf_l (zF_X7_kind g) fun v2 => if v2 = 0 then (zJ_X4_goesOn_21 g) else (1)) else (zJ_X4_goesOn_21 g)
def zF_X7_tokenSize (g : mz_G) : Int :=
  zf_l (g 82 3) fun v1 => zf_l (g 82 5) fun v2 => (v1 - v2)
def zF_J0_coder (q0 : Nat) (g : mz_G) : Int :=
  if (1 : Int) = 0 then (1) else (0)
def zF_J0_length (q0 : Nat) (g : mz_G) : Int :=
  zf_l (zF_J0_coder q0 g) fun v1 => zf_l (mz_shrI ((mz_sl q0) : Int) v1) fun v2 => v2
def zJ_J0_isLatin1_17 (q0 : Nat) (g : mz_G) : Int :=
  0
def zF_J0_isLatin1 (q0 : Nat) (g : mz_G) : Int :=
  if (1 : Int) = 0 then (zJ_J0_isLatin1_17 q0 g) else (if (0 : Int) = 0 then (1) else (zJ_J0_isLatin1_17 q0 g))
def zJ_J3_checkIndex_9 (a1 : Int) (a2 : Int) (g : mz_G) : Int :=
  (default : Int)
def zF_J3_checkIndex (a1 : Int) (a2 : Int) (g : mz_G) : Int :=
  if a1 < 0 then (zJ_J3_checkIndex_9 a1 a2 g) else (if a1 < a2 then (a1) else (zJ_J3_checkIndex_9 a1 a2 g))
def zF_J0_checkIndex (a1 : Int) (a2 : Int) (g : mz_G) : mz_G :=
  zf_l (zF_J3_checkIndex a1 a2 g) fun v1 => g
def zF_J1_charAt (q1 : Nat) (a2 : Int) (g : mz_G) : Int :=
  zf_l (zF_J0_checkIndex a2 ((mz_sl q1) : Int) g) fun g1 => zf_l (g1 ((1000 + q1) + 1000) (a2 : Int).toNat) fun v2 => zf_l (mz_andI v2 255) fun v3 => v3
def zF_J0_charAt (q0 : Nat) (a1 : Int) (g : mz_G) : Int :=
  zf_l (zF_J0_isLatin1 q0 g) fun v1 => if v1 = 0 then ((default : Int)) else (zf_l (zF_J1_charAt q0 a1 g) fun v2 => v2)
def zB_X7_spells_23 (q1 : Nat) (g : mz_G) (rc : Int → Int) (l2 : Int) : Int :=
  zf_l (zF_J0_length q1 g) fun v4 => if l2 < v4 then (zf_l (g 82 5) fun v5 => zf_l (zF_X7_byteAt (v5 + l2) g) fun v6 => zf_l (zF_J0_charAt q1 l2 g) fun v7 => if v6 = v7 then (rc (l2 + 1)) else (0)) else (1)
def zL_X7_spells_23 (q1 : Nat) (g : mz_G) : Nat → Int → Int
  | 0 => fun _ => default
  | k + 1 => zB_X7_spells_23 q1 g (zL_X7_spells_23 q1 g k)
theorem zL_X7_spells_23_s {q1 : Nat} {g : mz_G} {k : Nat} {l2 : Int} : zL_X7_spells_23 q1 g (k + 1) l2 = zB_X7_spells_23 q1 g (zL_X7_spells_23 q1 g k) l2 := rfl
def zJ_X7_spells_19 (q1 : Nat) (g : mz_G) : Int :=
  0
def zF_X7_spells (q1 : Nat) (g : mz_G) : Int :=
  zf_l (g 82 4) fun v1 => if v1 = 1 then (zf_l (zF_X7_tokenSize g) fun v2 => zf_l (zF_J0_length q1 g) fun v3 => if v2 = v3 then (zL_X7_spells_23 q1 g 3000000000 0) else (zJ_X7_spells_19 q1 g)) else (zJ_X7_spells_19 q1 g)
def zF_X10_many (q0 : Nat) (g : mz_G) : Int :=
  zf_l (g q0 3) fun v1 => v1
def zF_X7_start (g : mz_G) : Int :=
  zf_l (g 82 5) fun v1 => v1
def zF_X4_blame (a1 : Int) (g : mz_G) : Int × mz_G :=
  zf_l (mz_up g 81 1 a1) fun g1 => zf_l (zF_X7_start g1) fun v2 => zf_l (mz_up g1 81 2 v2) fun g3 => (0, g3)
def zJ_X10_of_22 (q0 : Nat) (a1 : Int) (g : mz_G) : Nat :=
  (q0 + 2)
def zF_X10_of (q0 : Nat) (a1 : Int) (g : mz_G) : Nat :=
  if a1 < 0 then (zJ_X10_of_22 q0 a1 g) else (if a1 < ((8 : Nat) : Int) then (zf_l ((q0 + 1) + (8 + 2 * (a1 : Int).toNat)) fun u1 => zf_l ((q0 + 1) + (8 + 2 * (a1 : Int).toNat)) fun u2 => u2) else (zJ_X10_of_22 q0 a1 g))
def zF_X0_empty (q0 : Nat) (g : mz_G) : mz_G :=
  zf_l (mz_up g q0 1 0) fun g1 => g1
def zF_X11_put (q1 : Nat) (n_q1 : Nat) (a2 : Int) (a3 : Int) (g : mz_G) : mz_G :=
  if a2 < 0 then (g) else (if a2 < (n_q1 : Int) then (zf_l (mz_up g q1 (a2 : Int).toNat a3) fun g1 => g1) else (g))
def zF_X0_addLetter (q0 : Nat) (a1 : Int) (g : mz_G) : mz_G :=
  zf_l (g q0 1) fun v1 => if v1 < ((zf_ln q0) : Int) then (zf_l (g q0 1) fun v2 => zf_l (zF_X11_put (q0 + 1) (zf_ln q0) v2 a1 g) fun g3 => zf_l (g3 q0 1) fun v4 => zf_l (mz_up g3 q0 1 (v4 + 1)) fun g5 => g5) else (g)
def zB_X7_spellInto_9 (q1 : Nat) (rc : Int → mz_G → mz_G) (l2 : Int) (g : mz_G) : mz_G :=
  zf_l (g 82 3) fun v3 => if l2 < v3 then (zf_l (zF_X7_byteAt l2 g) fun v4 => zf_l (zF_X0_addLetter q1 ((v4 - 97) + 1) g) fun g5 => rc (l2 + 1) g5) else (g)
def zL_X7_spellInto_9 (q1 : Nat) : Nat → Int → mz_G → mz_G
  | 0 => fun _ _ => default
  | k + 1 => zB_X7_spellInto_9 q1 (zL_X7_spellInto_9 q1 k)
theorem zL_X7_spellInto_9_s {q1 : Nat} {k : Nat} {l2 : Int} {g : mz_G} : zL_X7_spellInto_9 q1 (k + 1) l2 g = zB_X7_spellInto_9 q1 (zL_X7_spellInto_9 q1 k) l2 g := rfl
def zF_X7_spellInto (q1 : Nat) (g : mz_G) : mz_G :=
  zf_l (zF_X0_empty q1 g) fun g1 => zf_l (g1 82 5) fun v2 => zL_X7_spellInto_9 q1 3000000000 v2 g1
def zJ_X11_at_20 (q1 : Nat) (n_q1 : Nat) (a2 : Int) (g : mz_G) : Int :=
  0
def zF_X11_at (q1 : Nat) (n_q1 : Nat) (a2 : Int) (g : mz_G) : Int :=
  if a2 < 0 then (zJ_X11_at_20 q1 n_q1 a2 g) else (if a2 < (n_q1 : Int) then (zf_l (g q1 (a2 : Int).toNat) fun v1 => v1) else (zJ_X11_at_20 q1 n_q1 a2 g))
def zB_X0_matches_3 (q0 : Nat) (a1 : Int) (q2 : Nat) (a3 : Int) (g : mz_G) (rc : Int → Int) (l4 : Int) : Int :=
  if l4 < a3 then (zf_l (mz_wrap (a1 + l4)) fun v1 => zf_l (zF_X11_at (q0 + 1) (zf_ln q0) v1 g) fun v2 => zf_l (zF_X11_at (q2 + 1) (zf_ln q2) l4 g) fun v3 => if v2 = v3 then (rc (l4 + 1)) else (0)) else (1)
def zL_X0_matches_3 (q0 : Nat) (a1 : Int) (q2 : Nat) (a3 : Int) (g : mz_G) : Nat → Int → Int
  | 0 => fun _ => default
  | k + 1 => zB_X0_matches_3 q0 a1 q2 a3 g (zL_X0_matches_3 q0 a1 q2 a3 g k)
theorem zL_X0_matches_3_s {q0 : Nat} {a1 : Int} {q2 : Nat} {a3 : Int} {g : mz_G} {k : Nat} {l4 : Int} : zL_X0_matches_3 q0 a1 q2 a3 g (k + 1) l4 = zB_X0_matches_3 q0 a1 q2 a3 g (zL_X0_matches_3 q0 a1 q2 a3 g k) l4 := rfl
def zF_X0_matches (q0 : Nat) (a1 : Int) (q2 : Nat) (a3 : Int) (g : mz_G) : Int :=
  zL_X0_matches_3 q0 a1 q2 a3 g 3000000000 0
def zJ_X0_isSame_28 (q0 : Nat) (q1 : Nat) (g : mz_G) : Int :=
  0
def zF_X0_isSame (q0 : Nat) (q1 : Nat) (g : mz_G) : Int :=
  zf_l (g q0 1) fun v1 => zf_l (g q1 1) fun v2 => if v1 = v2 then (zf_l (g q0 1) fun v3 => zf_l (zF_X0_matches q0 0 q1 v3 g) fun v4 => if v4 = 0 then (zJ_X0_isSame_28 q0 q1 g) else (1)) else (zJ_X0_isSame_28 q0 q1 g)
def zB_X10_hasAlready_2 (q0 : Nat) (q1 : Nat) (g : mz_G) (rc : Int → Int) (l2 : Int) : Int :=
  zf_l (g q0 3) fun v1 => if l2 < v1 then (zf_l (zF_X10_of q0 l2 g) fun u2 => zf_l (zF_X0_isSame u2 q1 g) fun v3 => if v3 = 0 then (rc (l2 + 1)) else (1)) else (0)
def zL_X10_hasAlready_2 (q0 : Nat) (q1 : Nat) (g : mz_G) : Nat → Int → Int
  | 0 => fun _ => default
  | k + 1 => zB_X10_hasAlready_2 q0 q1 g (zL_X10_hasAlready_2 q0 q1 g k)
theorem zL_X10_hasAlready_2_s {q0 : Nat} {q1 : Nat} {g : mz_G} {k : Nat} {l2 : Int} : zL_X10_hasAlready_2 q0 q1 g (k + 1) l2 = zB_X10_hasAlready_2 q0 q1 g (zL_X10_hasAlready_2 q0 q1 g k) l2 := rfl
def zF_X10_hasAlready (q0 : Nat) (q1 : Nat) (g : mz_G) : Int :=
  zL_X10_hasAlready_2 q0 q1 g 3000000000 0
def zF_X7_number (g : mz_G) : Int :=
  zf_l (g 82 6) fun v1 => v1
def zJ_X4_readNumber_79 (a1 : Int) (a2 : Int) (l3 : Int) (l4 : Int) (g : mz_G) : Int × mz_G :=
  if l3 = 0 then (((-1), g)) else ((l4, g))
def zJ_X4_readNumber_59 (a1 : Int) (a2 : Int) (l3 : Int) (g : mz_G) : Int × mz_G :=
  zf_l (zF_X7_number g) fun v5 => if l3 = 0 then (zJ_X4_readNumber_79 a1 a2 l3 v5 g) else (zf_l (zF_X7_step g) fun g6 => zJ_X4_readNumber_79 a1 a2 l3 v5 g6)
def zF_X4_readNumber (a1 : Int) (a2 : Int) (g : mz_G) : Int × mz_G :=
  zf_l (zF_X7_kind g) fun v1 => if v1 = 2 then (zf_l (zF_X7_tokenSize g) fun v2 => if (4 : Int) < v2 then (zf_m2 (zF_X4_blame 2 g) fun v3 g4 => zJ_X4_readNumber_59 a1 a2 v3 g4) else (zf_l (zF_X7_number g) fun v7 => if a1 < v7 then (zf_m2 (zF_X4_blame a2 g) fun v8 g9 => zJ_X4_readNumber_59 a1 a2 v8 g9) else (zJ_X4_readNumber_59 a1 a2 1 g))) else (zf_m2 (zF_X4_blame 1 g) fun v10 g11 => zJ_X4_readNumber_59 a1 a2 v10 g11)
def zF_X10_takeNext (q0 : Nat) (a1 : Int) (g : mz_G) : mz_G :=
  zf_l (g q0 3) fun v1 => if v1 < 8 then (zf_l (g q0 3) fun v2 => zf_l (zF_X11_put (q0 + 4) 8 v2 a1 g) fun g3 => zf_l (g3 q0 3) fun v4 => zf_l (mz_up g3 q0 3 (v4 + 1)) fun g5 => g5) else (g)
def zJ_X4_readWord_113 (q1 : Nat) (l3 : Int) (g : mz_G) : Int × mz_G :=
  if l3 = (-1) then ((0, g)) else ((1, g))
def zF_X4_readWord (q1 : Nat) (g : mz_G) : Int × mz_G :=
  zf_l (zF_X10_many q1 g) fun v1 => if v1 < 8 then (zf_l (zF_X7_step g) fun g2 => zf_l (zF_X7_kind g2) fun v3 => if v3 = 1 then (zf_l (zF_X7_tokenSize g2) fun v4 => if (8 : Int) < v4 then (zf_m2 (zF_X4_blame 2 g2) fun v5 g6 => (v5, g6)) else (zf_l (zF_X10_many q1 g2) fun v7 => zf_l (zF_X10_of q1 v7 g2) fun u8 => zf_l (zF_X7_spellInto u8 g2) fun g9 => zf_l (zF_X10_hasAlready q1 u8 g9) fun v10 => if v10 = 0 then (zf_l (zF_X7_step g9) fun g11 => zf_m2 (zF_X4_readNumber 9 2 g11) fun v12 g13 => if v12 = (-1) then (zJ_X4_readWord_113 q1 v12 g13) else (zf_l (zF_X10_takeNext q1 v12 g13) fun g14 => zJ_X4_readWord_113 q1 v12 g14)) else (zf_m2 (zF_X4_blame 4 g9) fun v15 g16 => (v15, g16)))) else (zf_m2 (zF_X4_blame 1 g2) fun v17 g18 => (v17, g18))) else (zf_m2 (zF_X4_blame 2 g) fun v19 g20 => (v19, g20))
def zJ_X9_get_22 (q0 : Nat) (a1 : Int) (g : mz_G) : Nat :=
  (q0 + 2)
def zF_X9_get (q0 : Nat) (a1 : Int) (g : mz_G) : Nat :=
  if a1 < 0 then (zJ_X9_get_22 q0 a1 g) else (if a1 < ((6 : Nat) : Int) then (zf_l ((q0 + 1) + (2 + (a1 : Int).toNat)) fun u1 => zf_l ((q0 + 1) + (2 + (a1 : Int).toNat)) fun u2 => u2) else (zJ_X9_get_22 q0 a1 g))
def zF_X9_addTrunk (q0 : Nat) (a1 : Int) (a2 : Int) (a3 : Int) (a4 : Int) (g : mz_G) : mz_G :=
  zf_l (g q0 2) fun v1 => if v1 < 6 then (zf_l (g q0 2) fun v2 => zf_l (zF_X9_get q0 v2 g) fun u3 => zf_l (mz_up g u3 0 a1) fun g4 => zf_l (mz_up g4 u3 1 a2) fun g5 => zf_l (mz_up g5 u3 2 a3) fun g6 => zf_l (mz_up g6 u3 3 0) fun g7 => zf_l (mz_up g7 u3 4 a4) fun g8 => zf_l (g8 q0 2) fun v9 => zf_l (mz_up g8 q0 2 (v9 + 1)) fun g10 => g10) else (g)
def zJ_X4_readTrunk_100 (q1 : Nat) (a2 : Int) (l6 : Int) (g : mz_G) : Int × mz_G :=
  if l6 = (-1) then ((0, g)) else ((1, g))
def zJ_X4_readTrunk_78 (q1 : Nat) (a2 : Int) (s0 : Int) (l4 : Int) (l5 : Int) (g : mz_G) : Int × mz_G :=
  if s0 = (-1) then (zJ_X4_readTrunk_100 q1 a2 s0 g) else (zf_l (zF_X9_addTrunk (q1 + 26) l4 l5 s0 a2 g) fun g6 => zJ_X4_readTrunk_100 q1 a2 s0 g6)
def zJ_X4_readTrunk_59 (q1 : Nat) (a2 : Int) (s0 : Int) (l4 : Int) (g : mz_G) : Int × mz_G :=
  if s0 = (-1) then (zJ_X4_readTrunk_78 q1 a2 (-1) l4 s0 g) else (zf_m2 (zF_X4_readNumber 9 2 g) fun v7 g8 => zJ_X4_readTrunk_78 q1 a2 v7 l4 s0 g8)
def zF_X4_readTrunk (q1 : Nat) (a2 : Int) (g : mz_G) : Int × mz_G :=
  zf_l (g (q1 + 26) 2) fun v1 => if v1 < 6 then (zf_l (zF_X7_step g) fun g2 => zf_l (zF_X10_many (q1 + 1) g2) fun v3 => zf_m2 (zF_X4_readNumber (v3 - 1) 3 g2) fun v4 g5 => if v4 = (-1) then (zJ_X4_readTrunk_59 q1 a2 (-1) v4 g5) else (zf_m2 (zF_X4_readNumber (v3 - 1) 3 g5) fun v9 g10 => zJ_X4_readTrunk_59 q1 a2 v9 v4 g10)) else (zf_m2 (zF_X4_blame 2 g) fun v11 g12 => (v11, g12))
def zF_X1_addHeat (q0 : Nat) (a1 : Int) (g : mz_G) : mz_G :=
  zf_l (g q0 3) fun v1 => if v1 < 8 then (zf_l (g q0 3) fun v2 => zf_l (zF_X11_put (q0 + 35) 8 v2 a1 g) fun g3 => zf_l (g3 q0 3) fun v4 => zf_l (mz_up g3 q0 3 (v4 + 1)) fun g5 => g5) else (g)
def zJ_X4_readHeat_45 (q1 : Nat) (rc : Int → mz_G → (Int × mz_G)) (l2 : Int) (g : mz_G) : Int × mz_G :=
  zf_m2 (zF_X4_readNumber 9 2 g) fun v6 g7 => if v6 = (-1) then ((0, g7)) else (zf_l (zF_X1_addHeat q1 v6 g7) fun g8 => rc (l2 + 1) g8)
def zJ_X4_readHeat_90 (q1 : Nat) (g : mz_G) : Int × mz_G :=
  (1, g)
def zB_X4_readHeat_22 (q1 : Nat) (rc : Int → mz_G → (Int × mz_G)) (l2 : Int) (g : mz_G) : Int × mz_G :=
  if l2 < 8 then (if (0 : Int) < l2 then (zf_l (zF_X7_kind g) fun v5 => if v5 = 2 then (zJ_X4_readHeat_45 q1 rc l2 g) else ((1, g))) else (zJ_X4_readHeat_45 q1 rc l2 g)) else (zf_l (zF_X7_kind g) fun v9 => if v9 = 2 then (zf_m2 (zF_X4_blame 2 g) fun v10 g11 => if v10 = 0 then ((0, g11)) else (zJ_X4_readHeat_90 q1 g11)) else (zJ_X4_readHeat_90 q1 g))
def zL_X4_readHeat_22 (q1 : Nat) : Nat → Int → mz_G → (Int × mz_G)
  | 0 => fun _ _ => default
  | k + 1 => zB_X4_readHeat_22 q1 (zL_X4_readHeat_22 q1 k)
theorem zL_X4_readHeat_22_s {q1 : Nat} {k : Nat} {l2 : Int} {g : mz_G} : zL_X4_readHeat_22 q1 (k + 1) l2 g = zB_X4_readHeat_22 q1 (zL_X4_readHeat_22 q1 k) l2 g := rfl
def zF_X4_readHeat (q1 : Nat) (g : mz_G) : Int × mz_G :=
  zf_l (g q1 3) fun v1 => if (0 : Int) < v1 then (zf_m2 (zF_X4_blame 5 g) fun v2 g3 => (v2, g3)) else (zf_l (zF_X7_step g) fun g4 => zL_X4_readHeat_22 q1 3000000000 0 g4)
def zF_X5_isTold (q0 : Nat) (g : mz_G) : Int :=
  zf_l (g q0 1) fun v1 => if (0 : Int) < v1 then (1) else (0)
def zF_X4_notsAnew (a1 : Int) (g : mz_G) : mz_G :=
  zf_l (mz_up g 81 8 a1) fun g1 => zf_l (mz_up g1 81 6 0) fun g2 => g2
def zJ_X4_exprEnds_30 (g : mz_G) : Int :=
  0
def zF_X4_exprEnds (g : mz_G) : Int :=
  zf_l (g 81 7) fun v1 => if v1 = 0 then (zf_l (g 81 5) fun v2 => if v2 = 0 then (zf_l (zF_X7_kind g) fun v3 => if v3 = 59 then (1) else (zJ_X4_exprEnds_30 g)) else (zJ_X4_exprEnds_30 g)) else (zJ_X4_exprEnds_30 g)
def zF_X4_openSign (a1 : Int) (g : mz_G) : mz_G :=
  zf_l (g 81 4) fun v1 => zf_l (zF_X11_put 84 84 v1 a1 g) fun g2 => zf_l (g2 81 4) fun v3 => zf_l (mz_wrap (v3 + 1)) fun v4 => zf_l (mz_up g2 81 4 v4) fun g5 => g5
def zF_X4_valueOfWord (g : mz_G) : Int :=
  zf_l (zF_X7_spells 6 g) fun v1 => if v1 = 0 then (zf_l (zF_X7_spells 3 g) fun v2 => if v2 = 0 then (zf_l (zF_X7_spells 7 g) fun v3 => if v3 = 0 then (zf_l (zF_X7_spells 8 g) fun v4 => if v4 = 0 then (zf_l (zF_X7_spells 9 g) fun v5 => if v5 = 0 then (zf_l (zF_X7_spells 10 g) fun v6 => if v6 = 0 then (zf_l (zF_X7_spells 11 g) fun v7 => if v7 = 0 then (0) else ((-7))) else ((-6))) else ((-5))) else ((-4))) else ((-3))) else ((-2))) else ((-1))
def zF_X5_addStep (q0 : Nat) (a1 : Int) (g : mz_G) : mz_G :=
  zf_l (g q0 1) fun v1 => if v1 < 700 then (zf_l (g q0 1) fun v2 => zf_l (zF_X11_put (q0 + 1) 700 v2 a1 g) fun g3 => zf_l (g3 q0 1) fun v4 => zf_l (mz_up g3 q0 1 (v4 + 1)) fun g5 => g5) else (g)
def zJ_X4_readPart_195 (q1 : Nat) (g : mz_G) : Int × mz_G :=
  zf_l (zF_X7_step g) fun g7 => (1, g7)
def zJ_X4_readPart_185 (q1 : Nat) (l3 : Int) (g : mz_G) : Int × mz_G :=
  zf_l (zF_X5_addStep q1 l3 g) fun g15 => zf_l (mz_up g15 81 7 0) fun g16 => zJ_X4_readPart_195 q1 g16
def zJ_X4_readPart_170 (q1 : Nat) (l2 : Int) (l3 : Int) (g : mz_G) : Int × mz_G :=
  if l2 = 1 then (if l3 = 0 then (zf_m2 (zF_X4_blame 3 g) fun v13 g14 => (v13, g14)) else (zJ_X4_readPart_185 q1 l3 g)) else (zJ_X4_readPart_185 q1 l3 g)
def zJ_X4_readPart_147 (q1 : Nat) (s0 : Int) (l2 : Int) (g : mz_G) : Int × mz_G :=
  if l2 = 2 then (zf_l (zF_X7_tokenSize g) fun v10 => if (4 : Int) < v10 then (zf_m2 (zF_X4_blame 2 g) fun v11 g12 => (v11, g12)) else (zJ_X4_readPart_170 q1 l2 s0 g)) else (zJ_X4_readPart_170 q1 l2 s0 g)
def zJ_X4_readPart_128 (q1 : Nat) (l2 : Int) (g : mz_G) : Int × mz_G :=
  if l2 = 2 then (zf_l (zF_X7_number g) fun v9 => zJ_X4_readPart_147 q1 v9 l2 g) else (zf_l (zF_X4_valueOfWord g) fun v17 => zJ_X4_readPart_147 q1 v17 l2 g)
def zJ_X4_readPart_30 (q1 : Nat) (l2 : Int) (g : mz_G) : Int × mz_G :=
  zf_l (g 81 5) fun v2 => if v2 < 6 then (if l2 = 40 then (zf_l (zF_X4_openSign (-20) g) fun g3 => zf_l (g3 81 5) fun v4 => zf_l (mz_up g3 81 5 (v4 + 1)) fun g5 => zf_l (zF_X4_notsAnew 1 g5) fun g6 => zJ_X4_readPart_195 q1 g6) else (zf_l (g 81 8) fun v8 => if v8 = 0 then (zJ_X4_readPart_128 q1 l2 g) else (zf_l (zF_X7_spells 5 g) fun v18 => if v18 = 0 then (zJ_X4_readPart_128 q1 l2 g) else (zf_l (g 81 6) fun v19 => if v19 < 6 then (zf_l (g 81 6) fun v20 => zf_l (mz_up g 81 6 (v20 + 1)) fun g21 => zf_l (zF_X4_openSign (-13) g21) fun g22 => zJ_X4_readPart_195 q1 g22) else (zf_m2 (zF_X4_blame 2 g) fun v23 g24 => (v23, g24)))))) else (zf_m2 (zF_X4_blame 2 g) fun v25 g26 => (v25, g26))
def zF_X4_readPart (q1 : Nat) (g : mz_G) : Int × mz_G :=
  zf_l (zF_X7_kind g) fun v1 => if v1 = 2 then (zJ_X4_readPart_30 q1 v1 g) else (if v1 = 1 then (zJ_X4_readPart_30 q1 v1 g) else (if v1 = 40 then (zJ_X4_readPart_30 q1 v1 g) else (zf_m2 (zF_X4_blame 1 g) fun v27 g28 => (v27, g28))))
def zF_X4_lastOpen (g : mz_G) : Int :=
  zf_l (g 81 4) fun v1 => zf_l (mz_wrap (v1 - 1)) fun v2 => zf_l (zF_X11_at 84 84 v2 g) fun v3 => v3
def zJ_X4_rankOf_62 (a1 : Int) (g : mz_G) : Int :=
  6
def zJ_X4_rankOf_60 (a1 : Int) (g : mz_G) : Int :=
  5
def zJ_X4_rankOf_58 (a1 : Int) (g : mz_G) : Int :=
  4
def zF_X4_rankOf (a1 : Int) (g : mz_G) : Int :=
  if a1 = (-19) then (zJ_X4_rankOf_62 a1 g) else if a1 = (-18) then (zJ_X4_rankOf_62 a1 g) else if a1 = (-17) then (zJ_X4_rankOf_60 a1 g) else if a1 = (-16) then (zJ_X4_rankOf_60 a1 g) else if a1 = (-15) then (zJ_X4_rankOf_58 a1 g) else if a1 = (-14) then (zJ_X4_rankOf_58 a1 g) else if a1 = (-13) then (3) else if a1 = (-12) then (2) else if a1 = (-11) then (1) else (0)
def zB_X4_closeSigns_0 (q1 : Nat) (a2 : Int) (rc : mz_G → mz_G) (g : mz_G) : mz_G :=
  zf_l (g 81 4) fun v1 => if (0 : Int) < v1 then (zf_l (zF_X4_lastOpen g) fun v2 => zf_l (zF_X4_rankOf v2 g) fun v3 => if v3 < a2 then (g) else (zf_l (zF_X4_lastOpen g) fun v4 => zf_l (zF_X5_addStep q1 v4 g) fun g5 => zf_l (g5 81 4) fun v6 => zf_l (mz_up g5 81 4 (v6 - 1)) fun g7 => rc g7)) else (g)
def zL_X4_closeSigns_0 (q1 : Nat) (a2 : Int) : Nat → mz_G → mz_G
  | 0 => fun _ => default
  | k + 1 => zB_X4_closeSigns_0 q1 a2 (zL_X4_closeSigns_0 q1 a2 k)
theorem zL_X4_closeSigns_0_s {q1 : Nat} {a2 : Int} {k : Nat} {g : mz_G} : zL_X4_closeSigns_0 q1 a2 (k + 1) g = zB_X4_closeSigns_0 q1 a2 (zL_X4_closeSigns_0 q1 a2 k) g := rfl
def zF_X4_closeSigns (q1 : Nat) (a2 : Int) (g : mz_G) : mz_G :=
  zL_X4_closeSigns_0 q1 a2 3000000000 g
def zJ_X4_signOfToken_118 (g : mz_G) : Int :=
  zf_l (zF_X7_spells 12 g) fun v2 => if v2 = 0 then (zf_l (zF_X7_spells 13 g) fun v3 => if v3 = 0 then (0) else ((-12))) else ((-11))
def zF_X4_signOfToken (g : mz_G) : Int :=
  zf_l (zF_X7_kind g) fun v1 => if v1 = 42 then ((-18)) else if v1 = 43 then ((-16)) else if v1 = 44 then (zJ_X4_signOfToken_118 g) else if v1 = 45 then ((-17)) else if v1 = 46 then (zJ_X4_signOfToken_118 g) else if v1 = 47 then ((-19)) else if v1 = 48 then (zJ_X4_signOfToken_118 g) else if v1 = 49 then (zJ_X4_signOfToken_118 g) else if v1 = 50 then (zJ_X4_signOfToken_118 g) else if v1 = 51 then (zJ_X4_signOfToken_118 g) else if v1 = 52 then (zJ_X4_signOfToken_118 g) else if v1 = 53 then (zJ_X4_signOfToken_118 g) else if v1 = 54 then (zJ_X4_signOfToken_118 g) else if v1 = 55 then (zJ_X4_signOfToken_118 g) else if v1 = 56 then (zJ_X4_signOfToken_118 g) else if v1 = 57 then (zJ_X4_signOfToken_118 g) else if v1 = 58 then (zJ_X4_signOfToken_118 g) else if v1 = 59 then (zJ_X4_signOfToken_118 g) else if v1 = 60 then ((-14)) else if v1 = 61 then ((-15)) else (zJ_X4_signOfToken_118 g)
def zJ_X4_readSign_134 (q1 : Nat) (s1 : Int) (g : mz_G) : Int × mz_G :=
  zf_l (zF_X4_notsAnew s1 g) fun g21 => zf_l (zF_X7_step g21) fun g22 => (1, g22)
def zJ_X4_readSign_113 (q1 : Nat) (l2 : Int) (l3 : Int) (g : mz_G) : Int × mz_G :=
  zf_l (zF_X4_openSign l2 g) fun g19 => zf_l (mz_up g19 81 7 1) fun g20 => if (2 : Int) < l3 then (zJ_X4_readSign_134 q1 0 g20) else (zJ_X4_readSign_134 q1 1 g20)
def zJ_X4_readSign_88 (q1 : Nat) (s2 : Int) (l2 : Int) (l3 : Int) (g : mz_G) : Int × mz_G :=
  zf_l (zF_X4_closeSigns q1 s2 g) fun g14 => if l3 = 4 then (zf_l (zF_X4_lastOpen g14) fun v15 => zf_l (zF_X4_rankOf v15 g14) fun v16 => if v16 = 4 then (zf_m2 (zF_X4_blame 1 g14) fun v17 g18 => (v17, g18)) else (zJ_X4_readSign_113 q1 l2 l3 g14)) else (zJ_X4_readSign_113 q1 l2 l3 g14)
def zJ_X4_readSign_54 (q1 : Nat) (g : mz_G) : Int × mz_G :=
  zf_l (zF_X4_signOfToken g) fun v10 => zf_l (zF_X4_rankOf v10 g) fun v11 => if v11 = 0 then (zf_m2 (zF_X4_blame 1 g) fun v12 g13 => (v12, g13)) else (if v11 = 4 then (zJ_X4_readSign_88 q1 (v11 + 1) v10 v11 g) else (zJ_X4_readSign_88 q1 v11 v10 v11 g))
def zF_X4_readSign (q1 : Nat) (g : mz_G) : Int × mz_G :=
  zf_l (zF_X7_kind g) fun v1 => if v1 = 41 then (zf_l (g 81 5) fun v2 => if (0 : Int) < v2 then (zf_l (zF_X4_closeSigns q1 1 g) fun g3 => zf_l (g3 81 4) fun v4 => zf_l (mz_wrap (v4 - 1)) fun v5 => zf_l (mz_up g3 81 4 v5) fun g6 => zf_l (g6 81 5) fun v7 => zf_l (mz_up g6 81 5 (v7 - 1)) fun g8 => zf_l (zF_X7_step g8) fun g9 => (1, g9)) else (zJ_X4_readSign_54 q1 g)) else (zJ_X4_readSign_54 q1 g)
def zJ_X4_readGrows_89 (q1 : Nat) (l2 : Int) (g : mz_G) : Int × mz_G :=
  zf_l (zF_X4_closeSigns q1 1 g) fun g7 => (l2, g7)
def zJ_X4_readGrows_82 (q1 : Nat) (rc : Int → Int → mz_G → (Int × mz_G)) (s0 : Int) (l3 : Int) (g : mz_G) : Int × mz_G :=
  rc s0 (l3 + 1) g
def zB_X4_readGrows_44 (q1 : Nat) (rc : Int → Int → mz_G → (Int × mz_G)) (l2 : Int) (l3 : Int) (g : mz_G) : Int × mz_G :=
  if (700 : Int) < l3 then (zJ_X4_readGrows_89 q1 l2 g) else (if l2 = 0 then (zJ_X4_readGrows_89 q1 l2 g) else (zf_l (zF_X4_exprEnds g) fun v8 => if v8 = 0 then (zf_l (g 81 7) fun v9 => if v9 = 0 then (zf_m2 (zF_X4_readSign q1 g) fun v10 g11 => zJ_X4_readGrows_82 q1 rc v10 l3 g11) else (zf_m2 (zF_X4_readPart q1 g) fun v12 g13 => zJ_X4_readGrows_82 q1 rc v12 l3 g13)) else (zJ_X4_readGrows_89 q1 l2 g)))
def zL_X4_readGrows_44 (q1 : Nat) : Nat → Int → Int → mz_G → (Int × mz_G)
  | 0 => fun _ _ _ => default
  | k + 1 => zB_X4_readGrows_44 q1 (zL_X4_readGrows_44 q1 k)
theorem zL_X4_readGrows_44_s {q1 : Nat} {k : Nat} {l2 : Int} {l3 : Int} {g : mz_G} : zL_X4_readGrows_44 q1 (k + 1) l2 l3 g = zB_X4_readGrows_44 q1 (zL_X4_readGrows_44 q1 k) l2 l3 g := rfl
def zF_X4_readGrows (q1 : Nat) (g : mz_G) : Int × mz_G :=
  zf_l (zF_X5_isTold q1 g) fun v1 => if v1 = 0 then (zf_l (zF_X7_step g) fun g2 => zf_l (mz_up g2 81 4 0) fun g3 => zf_l (mz_up g3 81 5 0) fun g4 => zf_l (mz_up g4 81 7 1) fun g5 => zf_l (zF_X4_notsAnew 1 g5) fun g6 => zL_X4_readGrows_44 q1 3000000000 1 0 g6) else (zf_m2 (zF_X4_blame 5 g) fun v14 g15 => (v14, g15))
def zJ_X4_readLine_142 (q1 : Nat) (l2 : Int) (g : mz_G) : mz_G :=
  if l2 = 0 then (g) else (zf_l (zF_X7_step g) fun g8 => g8)
def zJ_X4_readLine_117 (q1 : Nat) (l2 : Int) (g : mz_G) : mz_G :=
  if l2 = 0 then (zJ_X4_readLine_142 q1 l2 g) else (zf_l (zF_X7_kind g) fun v9 => if v9 = 59 then (zJ_X4_readLine_142 q1 l2 g) else (zf_m2 (zF_X4_blame 1 g) fun v10 g11 => g11))
def zJ_X4_readLine_48 (q1 : Nat) (g : mz_G) : mz_G :=
  zf_l (zF_X7_spells 2 g) fun v16 => zf_m2 (zF_X4_readTrunk q1 v16 g) fun v17 g18 => zJ_X4_readLine_117 q1 v17 g18
def zF_X4_readLine (q1 : Nat) (g : mz_G) : mz_G :=
  zf_l (zF_X7_spells 0 g) fun v1 => if v1 = 0 then (zf_l (zF_X7_spells 1 g) fun v2 => if v2 = 0 then (zf_l (zF_X7_spells 2 g) fun v3 => if v3 = 0 then (zf_l (zF_X7_spells 3 g) fun v4 => if v4 = 0 then (zf_l (zF_X7_spells 4 g) fun v5 => if v5 = 0 then (zf_m2 (zF_X4_blame 1 g) fun v6 g7 => zJ_X4_readLine_117 q1 v6 g7) else (zf_m2 (zF_X4_readGrows (q1 + 36) g) fun v12 g13 => zJ_X4_readLine_117 q1 v12 g13)) else (zf_m2 (zF_X4_readHeat q1 g) fun v14 g15 => zJ_X4_readLine_117 q1 v14 g15)) else (zJ_X4_readLine_48 q1 g)) else (zJ_X4_readLine_48 q1 g)) else (zf_m2 (zF_X4_readWord (q1 + 1) g) fun v19 g20 => zJ_X4_readLine_117 q1 v19 g20)
def zF_X4_place (g : mz_G) : Int :=
  zf_l (g 81 2) fun v1 => v1
def zF_X4_faultKind (g : mz_G) : Int :=
  zf_l (g 81 1) fun v1 => v1
def zF_X6_refuse (q0 : Nat) (a1 : Int) (g : mz_G) : Int × mz_G :=
  zf_l (zF_X11_at (q0 + 14) 3 a1 g) fun v1 => zf_l (mz_wrap (v1 + 1)) fun v2 => zf_l (zF_X11_put (q0 + 14) 3 a1 v2 g) fun g3 => ((-1), g3)
def zJ_X0_overlapWith_39 (q0 : Nat) (q1 : Nat) (l2 : Int) (g : mz_G) : Int :=
  zf_l (max l2 0) fun v6 => v6
def zB_X0_overlapWith_14 (q0 : Nat) (q1 : Nat) (g : mz_G) (rc : Int → Int) (l2 : Int) : Int :=
  if (0 : Int) < l2 then (zf_l (g q0 1) fun v4 => zf_l (zF_X0_matches q0 (v4 - l2) q1 l2 g) fun v5 => if v5 = 0 then (rc (l2 + (-1))) else (zJ_X0_overlapWith_39 q0 q1 l2 g)) else (zJ_X0_overlapWith_39 q0 q1 l2 g)
def zL_X0_overlapWith_14 (q0 : Nat) (q1 : Nat) (g : mz_G) : Nat → Int → Int
  | 0 => fun _ => default
  | k + 1 => zB_X0_overlapWith_14 q0 q1 g (zL_X0_overlapWith_14 q0 q1 g k)
theorem zL_X0_overlapWith_14_s {q0 : Nat} {q1 : Nat} {g : mz_G} {k : Nat} {l2 : Int} : zL_X0_overlapWith_14 q0 q1 g (k + 1) l2 = zB_X0_overlapWith_14 q0 q1 g (zL_X0_overlapWith_14 q0 q1 g k) l2 := rfl
def zF_X0_overlapWith (q0 : Nat) (q1 : Nat) (g : mz_G) : Int :=
  zf_l (g q0 1) fun v1 => zf_l (g q1 1) fun v2 => zf_l (min v1 v2) fun v3 => zL_X0_overlapWith_14 q0 q1 g 3000000000 (v3 - 1)
def zF_X0_last (q0 : Nat) (g : mz_G) : Int :=
  zf_l (g q0 1) fun v1 => zf_l (zF_X11_at (q0 + 1) (zf_ln q0) (v1 - 1) g) fun v2 => v2
def zF_X0_signAt (q0 : Nat) (a1 : Int) (g : mz_G) : Int :=
  zf_l (zF_X11_at (q0 + 1) (zf_ln q0) a1 g) fun v1 => v1
def zJ_X10_fillRoom_94 (q0 : Nat) (q1 : Nat) (n_q1 : Nat) (q2 : Nat) (n_q2 : Nat) (rc : Int → Int → Int → Int → Int) (l3 : Int) (l4 : Int) (l5 : Int) (l6 : Int) (g : mz_G) : Int :=
  rc l3 l4 l5 (l6 + 1)
def zB_X10_fillRoom_31 (q0 : Nat) (q1 : Nat) (n_q1 : Nat) (q2 : Nat) (n_q2 : Nat) (g : mz_G) (rc : Int → Int → Int → Int → Int) (l3 : Int) (l4 : Int) (l5 : Int) (l6 : Int) : Int :=
  zf_l (g q0 3) fun v4 => if l6 < v4 then (zf_l (zF_X11_at q1 n_q1 ((l4 * 8) + l6) g) fun v5 => zf_l (mz_shlI 1 l6) fun v6 => zf_l (mz_andI l3 v6) fun v7 => if v7 = 0 then (if v5 < 0 then (zJ_X10_fillRoom_94 q0 q1 n_q1 q2 n_q2 rc l3 l4 l5 l6 g) else (zf_l (mz_shlI 1 l6) fun v8 => zf_l (mz_orI l3 v8) fun v9 => zf_l (zF_X11_at q2 n_q2 ((v9 * 8) + l6) g) fun v10 => zf_l (mz_wrap (v5 + v10)) fun v11 => zf_l (max l5 v11) fun v12 => zJ_X10_fillRoom_94 q0 q1 n_q1 q2 n_q2 rc l3 l4 v12 l6 g)) else (zJ_X10_fillRoom_94 q0 q1 n_q1 q2 n_q2 rc l3 l4 l5 l6 g)) else (l5)
def zL_X10_fillRoom_31 (q0 : Nat) (q1 : Nat) (n_q1 : Nat) (q2 : Nat) (n_q2 : Nat) (g : mz_G) : Nat → Int → Int → Int → Int → Int
  | 0 => fun _ _ _ _ => default
  | k + 1 => zB_X10_fillRoom_31 q0 q1 n_q1 q2 n_q2 g (zL_X10_fillRoom_31 q0 q1 n_q1 q2 n_q2 g k)
theorem zL_X10_fillRoom_31_s {q0 : Nat} {q1 : Nat} {n_q1 : Nat} {q2 : Nat} {n_q2 : Nat} {g : mz_G} {k : Nat} {l3 : Int} {l4 : Int} {l5 : Int} {l6 : Int} : zL_X10_fillRoom_31 q0 q1 n_q1 q2 n_q2 g (k + 1) l3 l4 l5 l6 = zB_X10_fillRoom_31 q0 q1 n_q1 q2 n_q2 g (zL_X10_fillRoom_31 q0 q1 n_q1 q2 n_q2 g k) l3 l4 l5 l6 := rfl
def zB_X10_fillRoom_16 (q0 : Nat) (q1 : Nat) (n_q1 : Nat) (q2 : Nat) (n_q2 : Nat) (rc : Int → Int → mz_G → mz_G) (l3 : Int) (l4 : Int) (g : mz_G) : mz_G :=
  zf_l (g q0 3) fun v3 => if l4 < v3 then (zf_l (zL_X10_fillRoom_31 q0 q1 n_q1 q2 n_q2 g 3000000000 l3 l4 0 0) fun v13 => zf_l (zF_X11_put q2 n_q2 ((l3 * 8) + l4) v13 g) fun g14 => rc l3 (l4 + 1) g14) else (g)
def zL_X10_fillRoom_16 (q0 : Nat) (q1 : Nat) (n_q1 : Nat) (q2 : Nat) (n_q2 : Nat) : Nat → Int → Int → mz_G → mz_G
  | 0 => fun _ _ _ => default
  | k + 1 => zB_X10_fillRoom_16 q0 q1 n_q1 q2 n_q2 (zL_X10_fillRoom_16 q0 q1 n_q1 q2 n_q2 k)
theorem zL_X10_fillRoom_16_s {q0 : Nat} {q1 : Nat} {n_q1 : Nat} {q2 : Nat} {n_q2 : Nat} {k : Nat} {l3 : Int} {l4 : Int} {g : mz_G} : zL_X10_fillRoom_16 q0 q1 n_q1 q2 n_q2 (k + 1) l3 l4 g = zB_X10_fillRoom_16 q0 q1 n_q1 q2 n_q2 (zL_X10_fillRoom_16 q0 q1 n_q1 q2 n_q2 k) l3 l4 g := rfl
def zB_X10_fillRoom_9 (q0 : Nat) (q1 : Nat) (n_q1 : Nat) (q2 : Nat) (n_q2 : Nat) (rc : Int → mz_G → mz_G) (l3 : Int) (g : mz_G) : mz_G :=
  if (0 : Int) < l3 then (zf_l (zL_X10_fillRoom_16 q0 q1 n_q1 q2 n_q2 3000000000 l3 0 g) fun g15 => rc (l3 + (-1)) g15) else (g)
def zL_X10_fillRoom_9 (q0 : Nat) (q1 : Nat) (n_q1 : Nat) (q2 : Nat) (n_q2 : Nat) : Nat → Int → mz_G → mz_G
  | 0 => fun _ _ => default
  | k + 1 => zB_X10_fillRoom_9 q0 q1 n_q1 q2 n_q2 (zL_X10_fillRoom_9 q0 q1 n_q1 q2 n_q2 k)
theorem zL_X10_fillRoom_9_s {q0 : Nat} {q1 : Nat} {n_q1 : Nat} {q2 : Nat} {n_q2 : Nat} {k : Nat} {l3 : Int} {g : mz_G} : zL_X10_fillRoom_9 q0 q1 n_q1 q2 n_q2 (k + 1) l3 g = zB_X10_fillRoom_9 q0 q1 n_q1 q2 n_q2 (zL_X10_fillRoom_9 q0 q1 n_q1 q2 n_q2 k) l3 g := rfl
def zF_X10_fillRoom (q0 : Nat) (q1 : Nat) (n_q1 : Nat) (q2 : Nat) (n_q2 : Nat) (g : mz_G) : mz_G :=
  zf_l (g q0 3) fun v1 => zf_l (mz_shlI 1 v1) fun v2 => zL_X10_fillRoom_9 q0 q1 n_q1 q2 n_q2 3000000000 (v2 - 1) g
def zJ_X10_firstNext_89 (q0 : Nat) (q1 : Nat) (n_q1 : Nat) (q2 : Nat) (n_q2 : Nat) (a3 : Int) (a4 : Int) (a5 : Int) (rc : Int → Int) (l6 : Int) (g : mz_G) : Int :=
  rc (l6 + 1)
def zJ_X10_firstNext_55 (q0 : Nat) (q1 : Nat) (n_q1 : Nat) (q2 : Nat) (n_q2 : Nat) (a3 : Int) (a4 : Int) (a5 : Int) (rc : Int → Int) (s0 : Int) (l6 : Int) (l7 : Int) (g : mz_G) : Int :=
  if s0 = 0 then (zJ_X10_firstNext_89 q0 q1 n_q1 q2 n_q2 a3 a4 a5 rc l6 g) else (zf_l (mz_shlI 1 l6) fun v4 => zf_l (mz_orI a3 v4) fun v5 => zf_l (mz_wrap (v5 * 8)) fun v6 => zf_l (mz_wrap (v6 + l6)) fun v7 => zf_l (zF_X11_at q2 n_q2 v7 g) fun v8 => zf_l (mz_wrap (l7 + v8)) fun v9 => if v9 = a5 then (l6) else (zJ_X10_firstNext_89 q0 q1 n_q1 q2 n_q2 a3 a4 a5 rc l6 g))
def zJ_X10_firstNext_54 (q0 : Nat) (q1 : Nat) (n_q1 : Nat) (q2 : Nat) (n_q2 : Nat) (a3 : Int) (a4 : Int) (a5 : Int) (rc : Int → Int) (l6 : Int) (l7 : Int) (g : mz_G) : Int :=
  zJ_X10_firstNext_55 q0 q1 n_q1 q2 n_q2 a3 a4 a5 rc 0 l6 l7 g
def zJ_X10_firstNext_34 (q0 : Nat) (q1 : Nat) (n_q1 : Nat) (q2 : Nat) (n_q2 : Nat) (a3 : Int) (a4 : Int) (a5 : Int) (rc : Int → Int) (s0 : Int) (l6 : Int) (g : mz_G) : Int :=
  zf_l (mz_shlI 1 l6) fun v2 => zf_l (mz_andI a3 v2) fun v3 => if v3 = 0 then (if s0 < 0 then (zJ_X10_firstNext_54 q0 q1 n_q1 q2 n_q2 a3 a4 a5 rc l6 s0 g) else (zJ_X10_firstNext_55 q0 q1 n_q1 q2 n_q2 a3 a4 a5 rc 1 l6 s0 g)) else (zJ_X10_firstNext_54 q0 q1 n_q1 q2 n_q2 a3 a4 a5 rc l6 s0 g)
def zB_X10_firstNext_3 (q0 : Nat) (q1 : Nat) (n_q1 : Nat) (q2 : Nat) (n_q2 : Nat) (a3 : Int) (a4 : Int) (a5 : Int) (g : mz_G) (rc : Int → Int) (l6 : Int) : Int :=
  zf_l (g q0 3) fun v1 => if l6 < v1 then (if a4 = (-1) then (zJ_X10_firstNext_34 q0 q1 n_q1 q2 n_q2 a3 a4 a5 rc 0 l6 g) else (zf_l (mz_wrap (a4 * 8)) fun v10 => zf_l (mz_wrap (v10 + l6)) fun v11 => zf_l (zF_X11_at q1 n_q1 v11 g) fun v12 => zJ_X10_firstNext_34 q0 q1 n_q1 q2 n_q2 a3 a4 a5 rc v12 l6 g)) else ((-1))
def zL_X10_firstNext_3 (q0 : Nat) (q1 : Nat) (n_q1 : Nat) (q2 : Nat) (n_q2 : Nat) (a3 : Int) (a4 : Int) (a5 : Int) (g : mz_G) : Nat → Int → Int
  | 0 => fun _ => default
  | k + 1 => zB_X10_firstNext_3 q0 q1 n_q1 q2 n_q2 a3 a4 a5 g (zL_X10_firstNext_3 q0 q1 n_q1 q2 n_q2 a3 a4 a5 g k)
theorem zL_X10_firstNext_3_s {q0 : Nat} {q1 : Nat} {n_q1 : Nat} {q2 : Nat} {n_q2 : Nat} {a3 : Int} {a4 : Int} {a5 : Int} {g : mz_G} {k : Nat} {l6 : Int} : zL_X10_firstNext_3 q0 q1 n_q1 q2 n_q2 a3 a4 a5 g (k + 1) l6 = zB_X10_firstNext_3 q0 q1 n_q1 q2 n_q2 a3 a4 a5 g (zL_X10_firstNext_3 q0 q1 n_q1 q2 n_q2 a3 a4 a5 g k) l6 := rfl
def zF_X10_firstNext (q0 : Nat) (q1 : Nat) (n_q1 : Nat) (q2 : Nat) (n_q2 : Nat) (a3 : Int) (a4 : Int) (a5 : Int) (g : mz_G) : Int :=
  zL_X10_firstNext_3 q0 q1 n_q1 q2 n_q2 a3 a4 a5 g 3000000000 0
def zB_X10_findOrder_57 (q0 : Nat) (q1 : Nat) (n_q1 : Nat) (q2 : Nat) (n_q2 : Nat) (q3 : Nat) (n_q3 : Nat) (rc : Int → Int → Int → Int → mz_G → (Int × mz_G)) (l4 : Int) (l5 : Int) (l6 : Int) (l7 : Int) (g : mz_G) : Int × mz_G :=
  zf_l (g q0 3) fun v6 => if l7 < v6 then (zf_l (zF_X10_firstNext q0 q1 n_q1 q3 n_q3 l5 l6 l4 g) fun v7 => if v7 = (-1) then ((l7, g)) else (zf_l (mz_shlI 1 v7) fun v8 => zf_l (mz_orI l5 v8) fun v9 => zf_l (zF_X11_at q3 n_q3 ((v9 * 8) + v7) g) fun v10 => zf_l (zF_X11_put q2 n_q2 l7 v7 g) fun g11 => rc v10 v9 v7 (l7 + 1) g11)) else ((l7, g))
def zL_X10_findOrder_57 (q0 : Nat) (q1 : Nat) (n_q1 : Nat) (q2 : Nat) (n_q2 : Nat) (q3 : Nat) (n_q3 : Nat) : Nat → Int → Int → Int → Int → mz_G → (Int × mz_G)
  | 0 => fun _ _ _ _ _ => default
  | k + 1 => zB_X10_findOrder_57 q0 q1 n_q1 q2 n_q2 q3 n_q3 (zL_X10_findOrder_57 q0 q1 n_q1 q2 n_q2 q3 n_q3 k)
theorem zL_X10_findOrder_57_s {q0 : Nat} {q1 : Nat} {n_q1 : Nat} {q2 : Nat} {n_q2 : Nat} {q3 : Nat} {n_q3 : Nat} {k : Nat} {l4 : Int} {l5 : Int} {l6 : Int} {l7 : Int} {g : mz_G} : zL_X10_findOrder_57 q0 q1 n_q1 q2 n_q2 q3 n_q3 (k + 1) l4 l5 l6 l7 g = zB_X10_findOrder_57 q0 q1 n_q1 q2 n_q2 q3 n_q3 (zL_X10_findOrder_57 q0 q1 n_q1 q2 n_q2 q3 n_q3 k) l4 l5 l6 l7 g := rfl
def zB_X10_findOrder_12 (q0 : Nat) (q1 : Nat) (n_q1 : Nat) (q2 : Nat) (n_q2 : Nat) (q3 : Nat) (n_q3 : Nat) (g : mz_G) (rc : Int → Int → (Int × mz_G)) (l4 : Int) (l5 : Int) : Int × mz_G :=
  zf_l (g q0 3) fun v2 => if l5 < v2 then (zf_l (mz_shlI 1 l5) fun v3 => zf_l (zF_X11_at q3 n_q3 ((v3 * 8) + l5) g) fun v4 => zf_l (max l4 v4) fun v5 => rc v5 (l5 + 1)) else (zL_X10_findOrder_57 q0 q1 n_q1 q2 n_q2 q3 n_q3 3000000000 l4 0 (-1) 0 g)
def zL_X10_findOrder_12 (q0 : Nat) (q1 : Nat) (n_q1 : Nat) (q2 : Nat) (n_q2 : Nat) (q3 : Nat) (n_q3 : Nat) (g : mz_G) : Nat → Int → Int → (Int × mz_G)
  | 0 => fun _ _ => default
  | k + 1 => zB_X10_findOrder_12 q0 q1 n_q1 q2 n_q2 q3 n_q3 g (zL_X10_findOrder_12 q0 q1 n_q1 q2 n_q2 q3 n_q3 g k)
theorem zL_X10_findOrder_12_s {q0 : Nat} {q1 : Nat} {n_q1 : Nat} {q2 : Nat} {n_q2 : Nat} {q3 : Nat} {n_q3 : Nat} {g : mz_G} {k : Nat} {l4 : Int} {l5 : Int} : zL_X10_findOrder_12 q0 q1 n_q1 q2 n_q2 q3 n_q3 g (k + 1) l4 l5 = zB_X10_findOrder_12 q0 q1 n_q1 q2 n_q2 q3 n_q3 g (zL_X10_findOrder_12 q0 q1 n_q1 q2 n_q2 q3 n_q3 g k) l4 l5 := rfl
def zF_X10_findOrder (q0 : Nat) (q1 : Nat) (n_q1 : Nat) (q2 : Nat) (n_q2 : Nat) (q3 : Nat) (n_q3 : Nat) (g : mz_G) : Int × mz_G :=
  zf_l (zF_X10_fillRoom q0 q1 n_q1 q3 n_q3 g) fun g1 => zL_X10_findOrder_12 q0 q1 n_q1 q2 n_q2 q3 n_q3 g1 3000000000 0 0
def zF_X10_inRow (q0 : Nat) (a1 : Int) (g : mz_G) : Int :=
  zf_l (zF_X11_at (q0 + 7) 8 a1 g) fun v1 => v1
def zF_X0_length (q0 : Nat) (g : mz_G) : Int :=
  zf_l (g q0 1) fun v1 => v1
def zF_X10_overlapOf (q0 : Nat) (a1 : Int) (a2 : Int) (g : mz_G) : Int :=
  zf_l (mz_wrap (a1 * 8)) fun v1 => zf_l (mz_wrap (v1 + a2)) fun v2 => zf_l (zF_X11_at (q0 + 5) 64 v2 g) fun v3 => v3
def zJ_X10_settle_81 (q0 : Nat) (q1 : Nat) (n_q1 : Nat) (rc : Int → Int → mz_G → mz_G) (s1 : Int) (s2 : Int) (l2 : Int) (l3 : Int) (g : mz_G) : mz_G :=
  zf_l (zF_X11_put (q0 + 6) 64 s1 s2 g) fun g11 => rc l2 (l3 + 1) g11
def zB_X10_settle_12 (q0 : Nat) (q1 : Nat) (n_q1 : Nat) (rc : Int → Int → mz_G → mz_G) (l2 : Int) (l3 : Int) (g : mz_G) : mz_G :=
  zf_l (g q0 3) fun v2 => if l3 < v2 then (zf_l (zF_X10_of q0 l2 g) fun u3 => zf_l (zF_X10_of q0 l3 g) fun u4 => zf_l (zF_X0_overlapWith u3 u4 g) fun v5 => zf_l (zF_X11_put (q0 + 5) 64 ((l2 * 8) + l3) v5 g) fun g6 => zf_l (zF_X10_of q0 l2 g6) fun u7 => zf_l (zF_X0_last u7 g6) fun v8 => zf_l (zF_X10_of q0 l3 g6) fun u9 => zf_l (zF_X0_signAt u9 0 g6) fun v10 => if v8 = v10 then (zJ_X10_settle_81 q0 q1 n_q1 rc ((l2 * 8) + l3) 1 l2 l3 g6) else (zJ_X10_settle_81 q0 q1 n_q1 rc ((l2 * 8) + l3) (-1) l2 l3 g6)) else (g)
def zL_X10_settle_12 (q0 : Nat) (q1 : Nat) (n_q1 : Nat) : Nat → Int → Int → mz_G → mz_G
  | 0 => fun _ _ _ => default
  | k + 1 => zB_X10_settle_12 q0 q1 n_q1 (zL_X10_settle_12 q0 q1 n_q1 k)
theorem zL_X10_settle_12_s {q0 : Nat} {q1 : Nat} {n_q1 : Nat} {k : Nat} {l2 : Int} {l3 : Int} {g : mz_G} : zL_X10_settle_12 q0 q1 n_q1 (k + 1) l2 l3 g = zB_X10_settle_12 q0 q1 n_q1 (zL_X10_settle_12 q0 q1 n_q1 k) l2 l3 g := rfl
def zJ_X10_settle_183 (q0 : Nat) (q1 : Nat) (n_q1 : Nat) (rc : Int → mz_G → mz_G) (s1 : Int) (s2 : Int) (s3 : Int) (l2 : Int) (g : mz_G) : mz_G :=
  zf_l (mz_wrap (s2 - s3)) fun v24 => zf_l (mz_wrap (s1 + v24)) fun v25 => zf_l (mz_up g q0 8 v25) fun g26 => rc (l2 + 1) g26
def zB_X10_settle_134 (q0 : Nat) (q1 : Nat) (n_q1 : Nat) (rc : Int → mz_G → mz_G) (l2 : Int) (g : mz_G) : mz_G :=
  zf_l (g q0 3) fun v19 => if l2 < v19 then (zf_l (g q0 8) fun v20 => zf_l (zF_X10_inRow q0 l2 g) fun v21 => zf_l (zF_X10_of q0 v21 g) fun u22 => zf_l (zF_X0_length u22 g) fun v23 => if l2 = 0 then (zJ_X10_settle_183 q0 q1 n_q1 rc v20 v23 0 l2 g) else (zf_l (zF_X10_inRow q0 (l2 - 1) g) fun v27 => zf_l (zF_X10_inRow q0 l2 g) fun v28 => zf_l (zF_X10_overlapOf q0 v27 v28 g) fun v29 => zJ_X10_settle_183 q0 q1 n_q1 rc v20 v23 v29 l2 g)) else (g)
def zL_X10_settle_134 (q0 : Nat) (q1 : Nat) (n_q1 : Nat) : Nat → Int → mz_G → mz_G
  | 0 => fun _ _ => default
  | k + 1 => zB_X10_settle_134 q0 q1 n_q1 (zL_X10_settle_134 q0 q1 n_q1 k)
theorem zL_X10_settle_134_s {q0 : Nat} {q1 : Nat} {n_q1 : Nat} {k : Nat} {l2 : Int} {g : mz_G} : zL_X10_settle_134 q0 q1 n_q1 (k + 1) l2 g = zB_X10_settle_134 q0 q1 n_q1 (zL_X10_settle_134 q0 q1 n_q1 k) l2 g := rfl
def zB_X10_settle_2 (q0 : Nat) (q1 : Nat) (n_q1 : Nat) (rc : Int → mz_G → mz_G) (l2 : Int) (g : mz_G) : mz_G :=
  zf_l (g q0 3) fun v1 => if l2 < v1 then (zf_l (zL_X10_settle_12 q0 q1 n_q1 3000000000 l2 0 g) fun g12 => rc (l2 + 1) g12) else (zf_m2 (zF_X10_findOrder q0 (q0 + 5) 64 (q0 + 7) 8 q1 n_q1 g) fun v13 g14 => zf_m2 (zF_X10_findOrder q0 (q0 + 6) 64 (q0 + 8) 8 q1 n_q1 g14) fun v15 g16 => zf_l (mz_up g16 q0 9 v15) fun g17 => zf_l (mz_up g17 q0 8 0) fun g18 => zL_X10_settle_134 q0 q1 n_q1 3000000000 0 g18)
def zL_X10_settle_2 (q0 : Nat) (q1 : Nat) (n_q1 : Nat) : Nat → Int → mz_G → mz_G
  | 0 => fun _ _ => default
  | k + 1 => zB_X10_settle_2 q0 q1 n_q1 (zL_X10_settle_2 q0 q1 n_q1 k)
theorem zL_X10_settle_2_s {q0 : Nat} {q1 : Nat} {n_q1 : Nat} {k : Nat} {l2 : Int} {g : mz_G} : zL_X10_settle_2 q0 q1 n_q1 (k + 1) l2 g = zB_X10_settle_2 q0 q1 n_q1 (zL_X10_settle_2 q0 q1 n_q1 k) l2 g := rfl
def zF_X10_settle (q0 : Nat) (q1 : Nat) (n_q1 : Nat) (g : mz_G) : mz_G :=
  zL_X10_settle_2 q0 q1 n_q1 3000000000 0 g
def zF_X8_becomeAs (q0 : Nat) (q1 : Nat) (g : mz_G) : mz_G :=
  zf_l (g q1 0) fun v1 => zf_l (mz_up g q0 0 v1) fun g2 => zf_l (g2 q1 1) fun v3 => zf_l (mz_up g2 q0 1 v3) fun g4 => zf_l (g4 q1 2) fun v5 => zf_l (mz_up g4 q0 2 v5) fun g6 => zf_l (g6 q1 3) fun v7 => zf_l (mz_up g6 q0 3 v7) fun g8 => zf_l (g8 q1 4) fun v9 => zf_l (mz_up g8 q0 4 v9) fun g10 => g10
def zB_X9_copyAll_18 (q0 : Nat) (q1 : Nat) (rc : Int → mz_G → mz_G) (l2 : Int) (g : mz_G) : mz_G :=
  zf_l (g q0 2) fun v5 => if l2 < v5 then (zf_l (zF_X9_get q0 l2 g) fun u6 => zf_l (zF_X9_get q1 l2 g) fun u7 => zf_l (zF_X8_becomeAs u6 u7 g) fun g8 => rc (l2 + 1) g8) else (g)
def zL_X9_copyAll_18 (q0 : Nat) (q1 : Nat) : Nat → Int → mz_G → mz_G
  | 0 => fun _ _ => default
  | k + 1 => zB_X9_copyAll_18 q0 q1 (zL_X9_copyAll_18 q0 q1 k)
theorem zL_X9_copyAll_18_s {q0 : Nat} {q1 : Nat} {k : Nat} {l2 : Int} {g : mz_G} : zL_X9_copyAll_18 q0 q1 (k + 1) l2 g = zB_X9_copyAll_18 q0 q1 (zL_X9_copyAll_18 q0 q1 k) l2 g := rfl
def zF_X9_copyAll (q0 : Nat) (q1 : Nat) (g : mz_G) : mz_G :=
  zf_l (g q1 2) fun v1 => zf_l (mz_up g q0 2 v1) fun g2 => zf_l (g2 q1 3) fun v3 => zf_l (mz_up g2 q0 3 v3) fun g4 => zL_X9_copyAll_18 q0 q1 3000000000 0 g4
def zF_X6_beginWith (q0 : Nat) (q1 : Nat) (g : mz_G) : mz_G :=
  zf_l (zF_X9_copyAll (q0 + 1) q1 g) fun g1 => zf_l (mz_up g1 q0 2 0) fun g2 => zf_l (mz_up g2 q0 3 0) fun g3 => zf_l (mz_up g3 q0 7 0) fun g4 => g4
def zJ_X11_baggage_77 (x : mm_X) (a1 : Int) (g : mz_G) : zf_TX :=
  zf_l (zF_X4_place g) fun v6 => zf_l (mz_up g 0 0 v6) fun g7 => zf_l (zF_X4_faultKind g7) fun v8 => if v8 = 0 then (zf_l ((x.2.1, x.1, x.2.2) : mm_X) fun x1 => zf_l (zF_X10_settle (x1.1 + 1) 85 2048 g7) fun g9 => zf_l (zF_X6_beginWith 86 (x1.1 + 26) g9) fun g10 => zf_l (mz_up g10 0 7 0) fun g11 => (0, 0, g11, x1)) else (zf_m2 (zF_X6_refuse 86 0 g7) fun v12 g13 => zf_l (zF_X4_faultKind g13) fun v14 => (0, v14, g13, x))
def zB_X11_baggage_43 (x : mm_X) (a1 : Int) (rc : Int → mz_G → zf_TX) (l2 : Int) (g : mz_G) : zf_TX :=
  if l2 < 700 then (zf_l (zF_X4_goesOn g) fun v5 => if v5 = 0 then (zJ_X11_baggage_77 x a1 g) else (zf_l (zF_X4_readLine x.2.1 g) fun g15 => rc (l2 + 1) g15)) else (zJ_X11_baggage_77 x a1 g)
def zL_X11_baggage_43 (x : mm_X) (a1 : Int) : Nat → Int → mz_G → zf_TX
  | 0 => fun _ _ => default
  | k + 1 => zB_X11_baggage_43 x a1 (zL_X11_baggage_43 x a1 k)
theorem zL_X11_baggage_43_s {x : mm_X} {a1 : Int} {k : Nat} {l2 : Int} {g : mz_G} : zL_X11_baggage_43 x a1 (k + 1) l2 g = zB_X11_baggage_43 x a1 (zL_X11_baggage_43 x a1 k) l2 g := rfl
def zJ_X11_baggage_23 (x : mm_X) (a1 : Int) (s0 : Int) (g : mz_G) : zf_TX :=
  zf_my (zF_X11_mustFit s0 g) g x fun v1 g2 => zf_l (zF_X1_forgetAll x.2.1 g2) fun g3 => zf_l (zF_X4_begin a1 g3) fun g4 => zL_X11_baggage_43 x a1 3000000000 0 g4
def zJ_X11_baggage_22 (x : mm_X) (a1 : Int) (g : mz_G) : zf_TX :=
  zJ_X11_baggage_23 x a1 0 g
def zF_X11_baggage (x : mm_X) (a1 : Int) (g : mz_G) : zf_TX :=
  if a1 < 0 then (zJ_X11_baggage_22 x a1 g) else (zf_l (g 82 1) fun v16 => if v16 < a1 then (zJ_X11_baggage_22 x a1 g) else (zJ_X11_baggage_23 x a1 1 g))
def zF_X11_fault (x : mm_X) (g : mz_G) : Int :=
  zf_l (g 0 0) fun v1 => v1
def zF_X11_trunkCount (x : mm_X) (g : mz_G) : Int :=
  zf_l (g 87 2) fun v1 => v1
def zF_X1_heatOf (q0 : Nat) (a1 : Int) (g : mz_G) : Int :=
  zf_l (g q0 3) fun v1 => if (0 : Int) < v1 then (zf_l (g q0 3) fun v2 => zf_l (zf_remI a1 v2) fun v3 => zf_l (zF_X11_at (q0 + 35) 8 v3 g) fun v4 => v4) else (5)
def zF_X1_fullOf (q0 : Nat) (q1 : Nat) (g : mz_G) : Int :=
  zf_l (g q1 0) fun v1 => zf_l (zF_X10_of (q0 + 1) v1 g) fun u2 => zf_l (zF_X0_length u2 g) fun v3 => zf_l (g q1 1) fun v4 => zf_l (zF_X10_of (q0 + 1) v4 g) fun u5 => zf_l (zF_X0_length u5 g) fun v6 => zf_l (min v3 v6) fun v7 => v7
def zF_X1_isFull (q0 : Nat) (q1 : Nat) (g : mz_G) : Int :=
  zf_l (g q1 3) fun v1 => zf_l (zF_X1_fullOf q0 q1 g) fun v2 => if v1 = v2 then (1) else (0)
def zJ_X1_howManyFull_30 (q0 : Nat) (q1 : Nat) (rc : Int → Int → Int) (s0 : Int) (s1 : Int) (l3 : Int) (g : mz_G) : Int :=
  zf_l (mz_wrap (s0 + s1)) fun v4 => rc v4 (l3 + 1)
def zB_X1_howManyFull_4 (q0 : Nat) (q1 : Nat) (g : mz_G) (rc : Int → Int → Int) (l2 : Int) (l3 : Int) : Int :=
  zf_l (g q1 2) fun v1 => if l3 < v1 then (zf_l (zF_X9_get q1 l3 g) fun u2 => zf_l (zF_X1_isFull q0 u2 g) fun v3 => if v3 = 0 then (zJ_X1_howManyFull_30 q0 q1 rc l2 0 l3 g) else (zJ_X1_howManyFull_30 q0 q1 rc l2 1 l3 g)) else (l2)
def zL_X1_howManyFull_4 (q0 : Nat) (q1 : Nat) (g : mz_G) : Nat → Int → Int → Int
  | 0 => fun _ _ => default
  | k + 1 => zB_X1_howManyFull_4 q0 q1 g (zL_X1_howManyFull_4 q0 q1 g k)
theorem zL_X1_howManyFull_4_s {q0 : Nat} {q1 : Nat} {g : mz_G} {k : Nat} {l2 : Int} {l3 : Int} : zL_X1_howManyFull_4 q0 q1 g (k + 1) l2 l3 = zB_X1_howManyFull_4 q0 q1 g (zL_X1_howManyFull_4 q0 q1 g k) l2 l3 := rfl
def zF_X1_howManyFull (q0 : Nat) (q1 : Nat) (g : mz_G) : Int :=
  zL_X1_howManyFull_4 q0 q1 g 3000000000 0 0
def zJ_X11_treaties_35 (x : mm_X) (rc : Int → Int → Int) (l1 : Int) (l2 : Int) (g : mz_G) : Int :=
  rc l1 (l2 + 1)
def zB_X11_treaties_4 (x : mm_X) (g : mz_G) (rc : Int → Int → Int) (l1 : Int) (l2 : Int) : Int :=
  zf_l (zF_X11_trunkCount x g) fun v1 => if l2 < v1 then (zf_l (zF_X9_get 87 l2 g) fun u2 => zf_l (g u2 4) fun v3 => if v3 = 0 then (zJ_X11_treaties_35 x rc l1 l2 g) else (zf_l (mz_shlI 1 l2) fun v4 => zf_l (mz_orI l1 v4) fun v5 => zJ_X11_treaties_35 x rc v5 l2 g)) else (l1)
def zL_X11_treaties_4 (x : mm_X) (g : mz_G) : Nat → Int → Int → Int
  | 0 => fun _ _ => default
  | k + 1 => zB_X11_treaties_4 x g (zL_X11_treaties_4 x g k)
theorem zL_X11_treaties_4_s {x : mm_X} {g : mz_G} {k : Nat} {l1 : Int} {l2 : Int} : zL_X11_treaties_4 x g (k + 1) l1 l2 = zB_X11_treaties_4 x g (zL_X11_treaties_4 x g k) l1 l2 := rfl
def zF_X11_treaties (x : mm_X) (g : mz_G) : Int :=
  zL_X11_treaties_4 x g 3000000000 0 0
def zF_X1_blendSize (q0 : Nat) (q1 : Nat) (g : mz_G) : Int :=
  zf_l (g q1 0) fun v1 => zf_l (zF_X10_of (q0 + 1) v1 g) fun u2 => zf_l (zF_X0_length u2 g) fun v3 => zf_l (g q1 1) fun v4 => zf_l (zF_X10_of (q0 + 1) v4 g) fun u5 => zf_l (zF_X0_length u5 g) fun v6 => zf_l (g q1 3) fun v7 => zf_l (mz_wrap ((v3 + v6) - v7)) fun v8 => v8
def zB_X1_lettersOfAll_4 (q0 : Nat) (q1 : Nat) (g : mz_G) (rc : Int → Int → Int) (l2 : Int) (l3 : Int) : Int :=
  zf_l (g q1 2) fun v1 => if l3 < v1 then (zf_l (zF_X9_get q1 l3 g) fun u2 => zf_l (zF_X1_blendSize q0 u2 g) fun v3 => zf_l (mz_wrap (l2 + v3)) fun v4 => rc v4 (l3 + 1)) else (l2)
def zL_X1_lettersOfAll_4 (q0 : Nat) (q1 : Nat) (g : mz_G) : Nat → Int → Int → Int
  | 0 => fun _ _ => default
  | k + 1 => zB_X1_lettersOfAll_4 q0 q1 g (zL_X1_lettersOfAll_4 q0 q1 g k)
theorem zL_X1_lettersOfAll_4_s {q0 : Nat} {q1 : Nat} {g : mz_G} {k : Nat} {l2 : Int} {l3 : Int} : zL_X1_lettersOfAll_4 q0 q1 g (k + 1) l2 l3 = zB_X1_lettersOfAll_4 q0 q1 g (zL_X1_lettersOfAll_4 q0 q1 g k) l2 l3 := rfl
def zF_X1_lettersOfAll (q0 : Nat) (q1 : Nat) (g : mz_G) : Int :=
  zL_X1_lettersOfAll_4 q0 q1 g 3000000000 0 0
def zF_X6_actsKept (q0 : Nat) (g : mz_G) : Int :=
  zf_l (g q0 3) fun v1 => v1
def zF_X6_seenSize (q0 : Nat) (g : mz_G) : Int :=
  zf_l (g q0 7) fun v1 => v1
def zF_X11_mustBe (a1 : Int) (g : mz_G) : zf_T :=
  if a1 = 0 then ((1, 0, g)) else ((0, 0, g))
def zF_X6_refusals (q0 : Nat) (a1 : Int) (g : mz_G) : Int :=
  zf_l (zF_X11_at (q0 + 14) 3 a1 g) fun v1 => v1
def zJ_X11_count_180 (x : mm_X) (a1 : Int) (s0 : Int) (g : mz_G) : zf_T :=
  zf_mx (zF_X11_mustBe s0 g) g fun v12 g13 => zf_l (zF_X6_refusals 86 (a1 - 10) g13) fun v14 => (0, v14, g13)
def zJ_X11_count_179 (x : mm_X) (a1 : Int) (g : mz_G) : zf_T :=
  zJ_X11_count_180 x a1 0 g
def zF_X11_count (x : mm_X) (a1 : Int) (g : mz_G) : zf_T :=
  if a1 = 0 then (zf_l (zF_X10_many (x.1 + 1) g) fun v1 => (0, v1, g)) else if a1 = 1 then (zf_l (zF_X11_trunkCount x g) fun v2 => (0, v2, g)) else if a1 = 2 then (zf_l (g 87 3) fun v3 => (0, v3, g)) else if a1 = 3 then (zf_l (g 87 3) fun v4 => zf_l (zF_X1_heatOf x.1 v4 g) fun v5 => (0, v5, g)) else if a1 = 4 then (zf_l (zF_X1_howManyFull x.1 87 g) fun v6 => (0, v6, g)) else if a1 = 5 then (zf_l (zF_X11_treaties x g) fun v7 => (0, v7, g)) else if a1 = 6 then (zf_l (zF_X1_lettersOfAll x.1 87 g) fun v8 => (0, v8, g)) else if a1 = 7 then (zf_l (zF_X6_actsKept 86 g) fun v9 => (0, v9, g)) else if a1 = 8 then (zf_l (zF_X6_seenSize 86 g) fun v10 => (0, v10, g)) else if a1 = 9 then (zf_l (g 82 1) fun v11 => (0, v11, g)) else (if a1 < 10 then (zJ_X11_count_179 x a1 g) else (if (12 : Int) < a1 then (zJ_X11_count_179 x a1 g) else (zJ_X11_count_180 x a1 1 g)))
def zJ_X11_isWord_22 (x : mm_X) (a1 : Int) (g : mz_G) : Int :=
  0
def zF_X11_isWord (x : mm_X) (a1 : Int) (g : mz_G) : Int :=
  if a1 < 0 then (zJ_X11_isWord_22 x a1 g) else (zf_l (zF_X10_many (x.1 + 1) g) fun v1 => if a1 < v1 then (1) else (zJ_X11_isWord_22 x a1 g))
def zF_X10_firmness (q0 : Nat) (a1 : Int) (g : mz_G) : Int :=
  zf_l (zF_X11_at (q0 + 4) 8 a1 g) fun v1 => v1
def zB_X0_holds_2 (q0 : Nat) (q1 : Nat) (g : mz_G) (rc : Int → Int) (l2 : Int) : Int :=
  zf_l (g q1 1) fun v1 => zf_l (g q0 1) fun v2 => if v2 < (l2 + v1) then (0) else (zf_l (g q1 1) fun v3 => zf_l (zF_X0_matches q0 l2 q1 v3 g) fun v4 => if v4 = 0 then (rc (l2 + 1)) else (1))
def zL_X0_holds_2 (q0 : Nat) (q1 : Nat) (g : mz_G) : Nat → Int → Int
  | 0 => fun _ => default
  | k + 1 => zB_X0_holds_2 q0 q1 g (zL_X0_holds_2 q0 q1 g k)
theorem zL_X0_holds_2_s {q0 : Nat} {q1 : Nat} {g : mz_G} {k : Nat} {l2 : Int} : zL_X0_holds_2 q0 q1 g (k + 1) l2 = zB_X0_holds_2 q0 q1 g (zL_X0_holds_2 q0 q1 g k) l2 := rfl
def zF_X0_holds (q0 : Nat) (q1 : Nat) (g : mz_G) : Int :=
  zL_X0_holds_2 q0 q1 g 3000000000 0
def zJ_X10_within_36 (q0 : Nat) (a1 : Int) (rc : Int → Int → Int) (s0 : Int) (s1 : Int) (l3 : Int) (g : mz_G) : Int :=
  zf_l (mz_orI s0 s1) fun v5 => rc v5 (l3 + 1)
def zB_X10_within_4 (q0 : Nat) (a1 : Int) (g : mz_G) (rc : Int → Int → Int) (l2 : Int) (l3 : Int) : Int :=
  zf_l (g q0 3) fun v1 => if l3 < v1 then (zf_l (zF_X10_of q0 l3 g) fun u2 => zf_l (zF_X10_of q0 a1 g) fun u3 => zf_l (zF_X0_holds u2 u3 g) fun v4 => if v4 = 0 then (zJ_X10_within_36 q0 a1 rc l2 0 l3 g) else (zf_l (mz_shlI 1 l3) fun v6 => zJ_X10_within_36 q0 a1 rc l2 v6 l3 g)) else (l2)
def zL_X10_within_4 (q0 : Nat) (a1 : Int) (g : mz_G) : Nat → Int → Int → Int
  | 0 => fun _ _ => default
  | k + 1 => zB_X10_within_4 q0 a1 g (zL_X10_within_4 q0 a1 g k)
theorem zL_X10_within_4_s {q0 : Nat} {a1 : Int} {g : mz_G} {k : Nat} {l2 : Int} {l3 : Int} : zL_X10_within_4 q0 a1 g (k + 1) l2 l3 = zB_X10_within_4 q0 a1 g (zL_X10_within_4 q0 a1 g k) l2 l3 := rfl
def zF_X10_within (q0 : Nat) (a1 : Int) (g : mz_G) : Int :=
  zL_X10_within_4 q0 a1 g 3000000000 0 0
def zJ_X0_howOften_30 (q0 : Nat) (a1 : Int) (rc : Int → Int → Int) (s0 : Int) (s1 : Int) (l3 : Int) (g : mz_G) : Int :=
  zf_l (mz_wrap (s0 + s1)) fun v3 => rc v3 (l3 + 1)
def zB_X0_howOften_4 (q0 : Nat) (a1 : Int) (g : mz_G) (rc : Int → Int → Int) (l2 : Int) (l3 : Int) : Int :=
  zf_l (g q0 1) fun v1 => if l3 < v1 then (zf_l (zF_X11_at (q0 + 1) (zf_ln q0) l3 g) fun v2 => if v2 = a1 then (zJ_X0_howOften_30 q0 a1 rc l2 1 l3 g) else (zJ_X0_howOften_30 q0 a1 rc l2 0 l3 g)) else (l2)
def zL_X0_howOften_4 (q0 : Nat) (a1 : Int) (g : mz_G) : Nat → Int → Int → Int
  | 0 => fun _ _ => default
  | k + 1 => zB_X0_howOften_4 q0 a1 g (zL_X0_howOften_4 q0 a1 g k)
theorem zL_X0_howOften_4_s {q0 : Nat} {a1 : Int} {g : mz_G} {k : Nat} {l2 : Int} {l3 : Int} : zL_X0_howOften_4 q0 a1 g (k + 1) l2 l3 = zB_X0_howOften_4 q0 a1 g (zL_X0_howOften_4 q0 a1 g k) l2 l3 := rfl
def zF_X0_howOften (q0 : Nat) (a1 : Int) (g : mz_G) : Int :=
  zL_X0_howOften_4 q0 a1 g 3000000000 0 0
def zB_X0_isAnagram_2 (q0 : Nat) (q1 : Nat) (g : mz_G) (rc : Int → Int) (l2 : Int) : Int :=
  if (26 : Int) < l2 then (1) else (zf_l (zF_X0_howOften q0 l2 g) fun v1 => zf_l (zF_X0_howOften q1 l2 g) fun v2 => if v1 = v2 then (rc (l2 + 1)) else (0))
def zL_X0_isAnagram_2 (q0 : Nat) (q1 : Nat) (g : mz_G) : Nat → Int → Int
  | 0 => fun _ => default
  | k + 1 => zB_X0_isAnagram_2 q0 q1 g (zL_X0_isAnagram_2 q0 q1 g k)
theorem zL_X0_isAnagram_2_s {q0 : Nat} {q1 : Nat} {g : mz_G} {k : Nat} {l2 : Int} : zL_X0_isAnagram_2 q0 q1 g (k + 1) l2 = zB_X0_isAnagram_2 q0 q1 g (zL_X0_isAnagram_2 q0 q1 g k) l2 := rfl
def zF_X0_isAnagram (q0 : Nat) (q1 : Nat) (g : mz_G) : Int :=
  zL_X0_isAnagram_2 q0 q1 g 3000000000 1
def zJ_X10_anagrams_36 (q0 : Nat) (a1 : Int) (rc : Int → Int → Int) (s0 : Int) (s1 : Int) (l3 : Int) (g : mz_G) : Int :=
  zf_l (mz_orI s0 s1) fun v5 => rc v5 (l3 + 1)
def zB_X10_anagrams_4 (q0 : Nat) (a1 : Int) (g : mz_G) (rc : Int → Int → Int) (l2 : Int) (l3 : Int) : Int :=
  zf_l (g q0 3) fun v1 => if l3 < v1 then (zf_l (zF_X10_of q0 l3 g) fun u2 => zf_l (zF_X10_of q0 a1 g) fun u3 => zf_l (zF_X0_isAnagram u2 u3 g) fun v4 => if v4 = 0 then (zJ_X10_anagrams_36 q0 a1 rc l2 0 l3 g) else (zf_l (mz_shlI 1 l3) fun v6 => zJ_X10_anagrams_36 q0 a1 rc l2 v6 l3 g)) else (l2)
def zL_X10_anagrams_4 (q0 : Nat) (a1 : Int) (g : mz_G) : Nat → Int → Int → Int
  | 0 => fun _ _ => default
  | k + 1 => zB_X10_anagrams_4 q0 a1 g (zL_X10_anagrams_4 q0 a1 g k)
theorem zL_X10_anagrams_4_s {q0 : Nat} {a1 : Int} {g : mz_G} {k : Nat} {l2 : Int} {l3 : Int} : zL_X10_anagrams_4 q0 a1 g (k + 1) l2 l3 = zB_X10_anagrams_4 q0 a1 g (zL_X10_anagrams_4 q0 a1 g k) l2 l3 := rfl
def zF_X10_anagrams (q0 : Nat) (a1 : Int) (g : mz_G) : Int :=
  zL_X10_anagrams_4 q0 a1 g 3000000000 0 0
def zJ_X11_trunksWith_49 (x : mm_X) (a1 : Int) (rc : Int → Int → Int) (l2 : Int) (l3 : Int) (g : mz_G) : Int :=
  rc l2 (l3 + 1)
def zJ_X11_trunksWith_43 (x : mm_X) (a1 : Int) (rc : Int → Int → Int) (l2 : Int) (l3 : Int) (g : mz_G) : Int :=
  zf_l (mz_shlI 1 l3) fun v4 => zf_l (mz_orI l2 v4) fun v5 => zJ_X11_trunksWith_49 x a1 rc v5 l3 g
def zB_X11_trunksWith_4 (x : mm_X) (a1 : Int) (g : mz_G) (rc : Int → Int → Int) (l2 : Int) (l3 : Int) : Int :=
  zf_l (zF_X11_trunkCount x g) fun v1 => if l3 < v1 then (zf_l (zF_X9_get 87 l3 g) fun u2 => zf_l (g u2 0) fun v3 => if v3 = a1 then (zJ_X11_trunksWith_43 x a1 rc l2 l3 g) else (zf_l (g u2 1) fun v6 => if v6 = a1 then (zJ_X11_trunksWith_43 x a1 rc l2 l3 g) else (zJ_X11_trunksWith_49 x a1 rc l2 l3 g))) else (l2)
def zL_X11_trunksWith_4 (x : mm_X) (a1 : Int) (g : mz_G) : Nat → Int → Int → Int
  | 0 => fun _ _ => default
  | k + 1 => zB_X11_trunksWith_4 x a1 g (zL_X11_trunksWith_4 x a1 g k)
theorem zL_X11_trunksWith_4_s {x : mm_X} {a1 : Int} {g : mz_G} {k : Nat} {l2 : Int} {l3 : Int} : zL_X11_trunksWith_4 x a1 g (k + 1) l2 l3 = zB_X11_trunksWith_4 x a1 g (zL_X11_trunksWith_4 x a1 g k) l2 l3 := rfl
def zF_X11_trunksWith (x : mm_X) (a1 : Int) (g : mz_G) : Int :=
  zL_X11_trunksWith_4 x a1 g 3000000000 0 0
def zJ_X11_word_22 (x : mm_X) (a1 : Int) (a2 : Int) (s0 : Int) (g : mz_G) : zf_T :=
  zf_mx (zF_X11_mustBe s0 g) g fun v2 g3 => if a2 = 0 then (zf_l (zF_X10_of (x.1 + 1) a1 g3) fun u4 => zf_l (zF_X0_length u4 g3) fun v5 => (0, v5, g3)) else if a2 = 1 then (zf_l (zF_X10_firmness (x.1 + 1) a1 g3) fun v6 => (0, v6, g3)) else if a2 = 2 then (zf_l (zF_X10_within (x.1 + 1) a1 g3) fun v7 => (0, v7, g3)) else if a2 = 3 then (zf_l (zF_X10_anagrams (x.1 + 1) a1 g3) fun v8 => (0, v8, g3)) else (zf_l (zF_X11_trunksWith x a1 g3) fun v9 => (0, v9, g3))
def zJ_X11_word_21 (x : mm_X) (a1 : Int) (a2 : Int) (g : mz_G) : zf_T :=
  zJ_X11_word_22 x a1 a2 0 g
def zF_X11_word (x : mm_X) (a1 : Int) (a2 : Int) (g : mz_G) : zf_T :=
  zf_l (zF_X11_isWord x a1 g) fun v1 => if v1 = 0 then (zJ_X11_word_21 x a1 a2 g) else (if a2 < 0 then (zJ_X11_word_21 x a1 a2 g) else (if (4 : Int) < a2 then (zJ_X11_word_21 x a1 a2 g) else (zJ_X11_word_22 x a1 a2 1 g)))
def zJ_X11_letter_37 (x : mm_X) (a1 : Int) (a2 : Int) (s0 : Int) (r3 : Nat) (g : mz_G) : zf_T :=
  zf_mx (zF_X11_mustBe s0 g) g fun v5 g6 => zf_l (zF_X0_signAt r3 a2 g6) fun v7 => (0, v7, g6)
def zJ_X11_letter_36 (x : mm_X) (a1 : Int) (a2 : Int) (r3 : Nat) (g : mz_G) : zf_T :=
  zJ_X11_letter_37 x a1 a2 0 r3 g
def zF_X11_letter (x : mm_X) (a1 : Int) (a2 : Int) (g : mz_G) : zf_T :=
  zf_l (zF_X11_isWord x a1 g) fun v1 => zf_mx (zF_X11_mustBe v1 g) g fun v2 g3 => zf_l (zF_X10_of (x.1 + 1) a1 g3) fun u4 => if a2 < 0 then (zJ_X11_letter_36 x a1 a2 u4 g3) else (zf_l (zF_X0_length u4 g3) fun v8 => if a2 < v8 then (zJ_X11_letter_37 x a1 a2 1 u4 g3) else (zJ_X11_letter_36 x a1 a2 u4 g3))
def zJ_X11_isTrunk_16 (x : mm_X) (a1 : Int) (g : mz_G) : Int :=
  0
def zF_X11_isTrunk (x : mm_X) (a1 : Int) (g : mz_G) : Int :=
  if a1 < 0 then (zJ_X11_isTrunk_16 x a1 g) else (zf_l (zF_X11_trunkCount x g) fun v1 => if a1 < v1 then (1) else (zJ_X11_isTrunk_16 x a1 g))
def zB_X1_blendInto_78 (q0 : Nat) (q1 : Nat) (q2 : Nat) (rc : Nat → Int → mz_G → mz_G) (r4 : Nat) (l6 : Int) (g : mz_G) : mz_G :=
  zf_l (zF_X0_length r4 g) fun v15 => if l6 < v15 then (zf_l (zF_X0_signAt r4 l6 g) fun v16 => zf_l (zF_X0_addLetter q2 v16 g) fun g17 => rc r4 (l6 + 1) g17) else (g)
def zL_X1_blendInto_78 (q0 : Nat) (q1 : Nat) (q2 : Nat) : Nat → Nat → Int → mz_G → mz_G
  | 0 => fun _ _ _ => default
  | k + 1 => zB_X1_blendInto_78 q0 q1 q2 (zL_X1_blendInto_78 q0 q1 q2 k)
theorem zL_X1_blendInto_78_s {q0 : Nat} {q1 : Nat} {q2 : Nat} {k : Nat} {r4 : Nat} {l6 : Int} {g : mz_G} : zL_X1_blendInto_78 q0 q1 q2 (k + 1) r4 l6 g = zB_X1_blendInto_78 q0 q1 q2 (zL_X1_blendInto_78 q0 q1 q2 k) r4 l6 g := rfl
def zB_X1_blendInto_47 (q0 : Nat) (q1 : Nat) (q2 : Nat) (rc : Nat → Nat → Int → Int → mz_G → mz_G) (r3 : Nat) (r4 : Nat) (l5 : Int) (l6 : Int) (g : mz_G) : mz_G :=
  if l6 < l5 then (zf_l (zF_X0_signAt r3 l6 g) fun v11 => zf_l (zF_X0_addLetter q2 v11 g) fun g12 => rc r3 r4 l5 (l6 + 1) g12) else (zf_l (g q1 3) fun v13 => zf_l (mz_divI v13 2) fun v14 => zL_X1_blendInto_78 q0 q1 q2 3000000000 r4 v14 g)
def zL_X1_blendInto_47 (q0 : Nat) (q1 : Nat) (q2 : Nat) : Nat → Nat → Nat → Int → Int → mz_G → mz_G
  | 0 => fun _ _ _ _ _ => default
  | k + 1 => zB_X1_blendInto_47 q0 q1 q2 (zL_X1_blendInto_47 q0 q1 q2 k)
theorem zL_X1_blendInto_47_s {q0 : Nat} {q1 : Nat} {q2 : Nat} {k : Nat} {r3 : Nat} {r4 : Nat} {l5 : Int} {l6 : Int} {g : mz_G} : zL_X1_blendInto_47 q0 q1 q2 (k + 1) r3 r4 l5 l6 g = zB_X1_blendInto_47 q0 q1 q2 (zL_X1_blendInto_47 q0 q1 q2 k) r3 r4 l5 l6 g := rfl
def zF_X1_blendInto (q0 : Nat) (q1 : Nat) (q2 : Nat) (g : mz_G) : mz_G :=
  zf_l (g q1 0) fun v1 => zf_l (zF_X10_of (q0 + 1) v1 g) fun u2 => zf_l (g q1 1) fun v3 => zf_l (zF_X10_of (q0 + 1) v3 g) fun u4 => zf_l (zF_X0_length u2 g) fun v5 => zf_l (g q1 3) fun v6 => zf_l (mz_wrap (v6 + 1)) fun v7 => zf_l (mz_divI v7 2) fun v8 => zf_l (mz_wrap (v5 - v8)) fun v9 => zf_l (zF_X0_empty q2 g) fun g10 => zL_X1_blendInto_47 q0 q1 q2 3000000000 u2 u4 v9 0 g10
def zJ_X2_changes_102 (q1 : Nat) (q2 : Nat) (rc : Int → Int → Int → mz_G → mz_G) (s0 : Int) (s1 : Int) (l3 : Int) (l5 : Int) (l6 : Int) (g : mz_G) : mz_G :=
  zf_l (mz_wrap (s0 + s1)) fun v9 => zf_l (zF_X11_at 117 17 l5 g) fun v10 => zf_l (min l6 v10) fun v11 => zf_l (mz_wrap (v11 + 1)) fun v12 => zf_l (min v9 v12) fun v13 => zf_l (zF_X11_put 117 17 (l5 + 1) v13 g) fun g14 => rc l3 l6 (l5 + 1) g14
def zB_X2_changes_59 (q1 : Nat) (q2 : Nat) (rc : Int → Int → Int → mz_G → mz_G) (l3 : Int) (l4 : Int) (l5 : Int) (g : mz_G) : mz_G :=
  zf_l (zF_X0_length q2 g) fun v5 => if l5 < v5 then (zf_l (zF_X11_at 117 17 (l5 + 1) g) fun v6 => zf_l (zF_X0_signAt q1 l3 g) fun v7 => zf_l (zF_X0_signAt q2 l5 g) fun v8 => if v7 = v8 then (zJ_X2_changes_102 q1 q2 rc l4 0 l3 l5 v6 g) else (zJ_X2_changes_102 q1 q2 rc l4 1 l3 l5 v6 g)) else (g)
def zL_X2_changes_59 (q1 : Nat) (q2 : Nat) : Nat → Int → Int → Int → mz_G → mz_G
  | 0 => fun _ _ _ _ => default
  | k + 1 => zB_X2_changes_59 q1 q2 (zL_X2_changes_59 q1 q2 k)
theorem zL_X2_changes_59_s {q1 : Nat} {q2 : Nat} {k : Nat} {l3 : Int} {l4 : Int} {l5 : Int} {g : mz_G} : zL_X2_changes_59 q1 q2 (k + 1) l3 l4 l5 g = zB_X2_changes_59 q1 q2 (zL_X2_changes_59 q1 q2 k) l3 l4 l5 g := rfl
def zB_X2_changes_27 (q1 : Nat) (q2 : Nat) (rc : Int → mz_G → (Int × mz_G)) (l3 : Int) (g : mz_G) : Int × mz_G :=
  zf_l (zF_X0_length q1 g) fun v2 => if l3 < v2 then (zf_l (zF_X11_at 117 17 0 g) fun v3 => zf_l (zF_X11_put 117 17 0 (l3 + 1) g) fun g4 => zf_l (zL_X2_changes_59 q1 q2 3000000000 l3 v3 0 g4) fun g15 => rc (l3 + 1) g15) else (zf_l (zF_X0_length q2 g) fun v16 => zf_l (zF_X11_at 117 17 v16 g) fun v17 => (v17, g))
def zL_X2_changes_27 (q1 : Nat) (q2 : Nat) : Nat → Int → mz_G → (Int × mz_G)
  | 0 => fun _ _ => default
  | k + 1 => zB_X2_changes_27 q1 q2 (zL_X2_changes_27 q1 q2 k)
theorem zL_X2_changes_27_s {q1 : Nat} {q2 : Nat} {k : Nat} {l3 : Int} {g : mz_G} : zL_X2_changes_27 q1 q2 (k + 1) l3 g = zB_X2_changes_27 q1 q2 (zL_X2_changes_27 q1 q2 k) l3 g := rfl
def zB_X2_changes_2 (q1 : Nat) (q2 : Nat) (rc : Int → mz_G → (Int × mz_G)) (l3 : Int) (g : mz_G) : Int × mz_G :=
  zf_l (zF_X0_length q2 g) fun v1 => if v1 < l3 then (zL_X2_changes_27 q1 q2 3000000000 0 g) else (zf_l (zF_X11_put 117 17 l3 l3 g) fun g18 => rc (l3 + 1) g18)
def zL_X2_changes_2 (q1 : Nat) (q2 : Nat) : Nat → Int → mz_G → (Int × mz_G)
  | 0 => fun _ _ => default
  | k + 1 => zB_X2_changes_2 q1 q2 (zL_X2_changes_2 q1 q2 k)
theorem zL_X2_changes_2_s {q1 : Nat} {q2 : Nat} {k : Nat} {l3 : Int} {g : mz_G} : zL_X2_changes_2 q1 q2 (k + 1) l3 g = zB_X2_changes_2 q1 q2 (zL_X2_changes_2 q1 q2 k) l3 g := rfl
def zF_X2_changes (q1 : Nat) (q2 : Nat) (g : mz_G) : Int × mz_G :=
  zL_X2_changes_2 q1 q2 3000000000 0 g
def zF_X3_setCost (a1 : Int) (a2 : Int) (a3 : Int) (g : mz_G) : mz_G :=
  zf_l (mz_wrap (a1 * 6)) fun v1 => zf_l (mz_wrap (v1 + a2)) fun v2 => zf_l (zF_X11_put 119 36 v2 a3 g) fun g3 => g3
def zJ_X11_lowestBit_22 (a1 : Int) (l1 : Int) (g : mz_G) : Int :=
  l1
def zB_X11_lowestBit_2 (a1 : Int) (g : mz_G) (rc : Int → Int) (l1 : Int) : Int :=
  if l1 < 32 then (zf_l (mz_shlI 1 l1) fun v1 => zf_l (mz_andI a1 v1) fun v2 => if v2 = 0 then (rc (l1 + 1)) else (zJ_X11_lowestBit_22 a1 l1 g)) else (zJ_X11_lowestBit_22 a1 l1 g)
def zL_X11_lowestBit_2 (a1 : Int) (g : mz_G) : Nat → Int → Int
  | 0 => fun _ => default
  | k + 1 => zB_X11_lowestBit_2 a1 g (zL_X11_lowestBit_2 a1 g k)
theorem zL_X11_lowestBit_2_s {a1 : Int} {g : mz_G} {k : Nat} {l1 : Int} : zL_X11_lowestBit_2 a1 g (k + 1) l1 = zB_X11_lowestBit_2 a1 g (zL_X11_lowestBit_2 a1 g k) l1 := rfl
def zF_X11_lowestBit (a1 : Int) (g : mz_G) : Int :=
  zL_X11_lowestBit_2 a1 g 3000000000 0
def zF_J6_bitCount (a1 : Int) (g : mz_G) : Int :=
  zf_l (mz_ushrI a1 1) fun v1 => zf_l (mz_andI v1 1431655765) fun v2 => zf_l (mz_wrap (a1 - v2)) fun v3 => zf_l (mz_andI v3 858993459) fun v4 => zf_l (mz_ushrI v3 2) fun v5 => zf_l (mz_andI v5 858993459) fun v6 => zf_l (mz_ushrI (v4 + v6) 4) fun v7 => zf_l (mz_wrap ((v4 + v6) + v7)) fun v8 => zf_l (mz_andI v8 252645135) fun v9 => zf_l (mz_ushrI v9 8) fun v10 => zf_l (mz_wrap (v9 + v10)) fun v11 => zf_l (mz_ushrI v11 16) fun v12 => zf_l (mz_wrap (v11 + v12)) fun v13 => zf_l (mz_andI v13 63) fun v14 => v14
def zF_X3_withCouple (a1 : Int) (a2 : Int) (a3 : Int) (g : mz_G) : Int :=
  zf_l (mz_wrap (a1 * 6)) fun v1 => zf_l (mz_wrap (v1 + a2)) fun v2 => zf_l (zF_X11_at 119 36 v2 g) fun v3 => zf_l (mz_shlI 1 a2) fun v4 => zf_l (mz_xorI v4 (-1)) fun v5 => zf_l (mz_andI a3 v5) fun v6 => zf_l (zF_X11_at 120 64 v6 g) fun v7 => zf_l (mz_wrap (v3 + v7)) fun v8 => v8
def zJ_X3_fewestOf_77 (a1 : Int) (a2 : Int) (rc : Int → Int → Int → Int → Int) (l3 : Int) (l4 : Int) (l5 : Int) (l6 : Int) (g : mz_G) : Int :=
  rc l3 l4 l5 (l6 + 1)
def zB_X3_fewestOf_45 (a1 : Int) (a2 : Int) (g : mz_G) (rc : Int → Int → Int → Int → Int) (l3 : Int) (l4 : Int) (l5 : Int) (l6 : Int) : Int :=
  if l6 < a2 then (zf_l (mz_shlI 1 l6) fun v8 => zf_l (mz_andI l4 v8) fun v9 => if v9 = 0 then (zJ_X3_fewestOf_77 a1 a2 rc l3 l4 l5 l6 g) else (zf_l (zF_X3_withCouple l3 l6 l4 g) fun v10 => zf_l (min l5 v10) fun v11 => zJ_X3_fewestOf_77 a1 a2 rc l3 l4 v11 l6 g)) else (l5)
def zL_X3_fewestOf_45 (a1 : Int) (a2 : Int) (g : mz_G) : Nat → Int → Int → Int → Int → Int
  | 0 => fun _ _ _ _ => default
  | k + 1 => zB_X3_fewestOf_45 a1 a2 g (zL_X3_fewestOf_45 a1 a2 g k)
theorem zL_X3_fewestOf_45_s {a1 : Int} {a2 : Int} {g : mz_G} {k : Nat} {l3 : Int} {l4 : Int} {l5 : Int} {l6 : Int} : zL_X3_fewestOf_45 a1 a2 g (k + 1) l3 l4 l5 l6 = zB_X3_fewestOf_45 a1 a2 g (zL_X3_fewestOf_45 a1 a2 g k) l3 l4 l5 l6 := rfl
def zJ_X3_fewestOf_38 (a1 : Int) (a2 : Int) (s0 : Int) (l3 : Int) (l4 : Int) (g : mz_G) : Int :=
  zL_X3_fewestOf_45 a1 a2 g 3000000000 l3 l4 s0 (l3 + 1)
def zF_X3_fewestOf (a1 : Int) (a2 : Int) (g : mz_G) : Int :=
  zf_l (zF_X11_lowestBit a1 g) fun v1 => zf_l (mz_shlI 1 v1) fun v2 => zf_l (mz_xorI v2 (-1)) fun v3 => zf_l (mz_andI a1 v3) fun v4 => zf_l (zF_J6_bitCount a1 g) fun v5 => zf_l (v5 % 2) fun v6 => if v6 = 1 then (zf_l (zF_X11_at 120 64 v4 g) fun v7 => zJ_X3_fewestOf_38 a1 a2 v7 v1 v4 g) else (zJ_X3_fewestOf_38 a1 a2 2147483647 v1 v4 g)
def zJ_X3_choosePartners_134 (a1 : Int) (a2 : Int) (rc : Int → Int → mz_G → mz_G) (l3 : Int) (l4 : Int) (g : mz_G) : mz_G :=
  rc l3 (l4 + 1) g
def zJ_X3_choosePartners_76 (a1 : Int) (a2 : Int) (rc : Int → Int → Int → Int → Int) (l3 : Int) (l4 : Int) (l5 : Int) (l6 : Int) (g : mz_G) : Int :=
  rc l3 l4 l5 (l6 + 1)
def zB_X3_choosePartners_39 (a1 : Int) (a2 : Int) (g : mz_G) (rc : Int → Int → Int → Int → Int) (l3 : Int) (l4 : Int) (l5 : Int) (l6 : Int) : Int :=
  if l6 < a2 then (zf_l (mz_shlI 1 l6) fun v6 => zf_l (mz_andI l5 v6) fun v7 => if v7 = 0 then (zJ_X3_choosePartners_76 a1 a2 rc l3 l4 l5 l6 g) else (zf_l (zF_X3_withCouple l4 l6 l5 g) fun v8 => zf_l (zF_X11_at 120 64 l3 g) fun v9 => if v8 = v9 then (l6) else (zJ_X3_choosePartners_76 a1 a2 rc l3 l4 l5 l6 g))) else (l6)
def zL_X3_choosePartners_39 (a1 : Int) (a2 : Int) (g : mz_G) : Nat → Int → Int → Int → Int → Int
  | 0 => fun _ _ _ _ => default
  | k + 1 => zB_X3_choosePartners_39 a1 a2 g (zL_X3_choosePartners_39 a1 a2 g k)
theorem zL_X3_choosePartners_39_s {a1 : Int} {a2 : Int} {g : mz_G} {k : Nat} {l3 : Int} {l4 : Int} {l5 : Int} {l6 : Int} : zL_X3_choosePartners_39 a1 a2 g (k + 1) l3 l4 l5 l6 = zB_X3_choosePartners_39 a1 a2 g (zL_X3_choosePartners_39 a1 a2 g k) l3 l4 l5 l6 := rfl
def zJ_X3_choosePartners_131 (a1 : Int) (a2 : Int) (rc : Int → Int → mz_G → mz_G) (l4 : Int) (l5 : Int) (g : mz_G) : mz_G :=
  zJ_X3_choosePartners_134 a1 a2 rc l5 l4 g
def zJ_X3_choosePartners_100 (a1 : Int) (a2 : Int) (rc : Int → Int → mz_G → mz_G) (s1 : Int) (s2 : Int) (l4 : Int) (l5 : Int) (l6 : Int) (g : mz_G) : mz_G :=
  zf_l (zF_X11_put 121 6 s1 s2 g) fun g11 => if l6 < a2 then (zf_l (zF_X11_put 121 6 l6 l4 g11) fun g12 => zf_l (mz_shlI 1 l6) fun v13 => zf_l (mz_xorI v13 (-1)) fun v14 => zf_l (mz_andI l5 v14) fun v15 => zJ_X3_choosePartners_131 a1 a2 rc l4 v15 g12) else (zJ_X3_choosePartners_131 a1 a2 rc l4 l5 g11)
def zJ_X3_choosePartners_82 (a1 : Int) (a2 : Int) (rc : Int → Int → mz_G → mz_G) (l4 : Int) (l5 : Int) (l6 : Int) (g : mz_G) : mz_G :=
  if l6 < a2 then (zJ_X3_choosePartners_100 a1 a2 rc l4 l6 l4 l5 l6 g) else (zJ_X3_choosePartners_100 a1 a2 rc l4 (-1) l4 l5 l6 g)
def zB_X3_choosePartners_5 (a1 : Int) (a2 : Int) (rc : Int → Int → mz_G → mz_G) (l3 : Int) (l4 : Int) (g : mz_G) : mz_G :=
  if l4 < a2 then (zf_l (mz_shlI 1 l4) fun v1 => zf_l (mz_andI l3 v1) fun v2 => if v2 = 0 then (zJ_X3_choosePartners_134 a1 a2 rc l3 l4 g) else (zf_l (mz_shlI 1 l4) fun v3 => zf_l (mz_xorI v3 (-1)) fun v4 => zf_l (mz_andI l3 v4) fun v5 => zf_l (zL_X3_choosePartners_39 a1 a2 g 3000000000 l3 l4 v5 (l4 + 1)) fun v10 => zJ_X3_choosePartners_82 a1 a2 rc l4 v5 v10 g)) else (g)
def zL_X3_choosePartners_5 (a1 : Int) (a2 : Int) : Nat → Int → Int → mz_G → mz_G
  | 0 => fun _ _ _ => default
  | k + 1 => zB_X3_choosePartners_5 a1 a2 (zL_X3_choosePartners_5 a1 a2 k)
theorem zL_X3_choosePartners_5_s {a1 : Int} {a2 : Int} {k : Nat} {l3 : Int} {l4 : Int} {g : mz_G} : zL_X3_choosePartners_5 a1 a2 (k + 1) l3 l4 g = zB_X3_choosePartners_5 a1 a2 (zL_X3_choosePartners_5 a1 a2 k) l3 l4 g := rfl
def zF_X3_choosePartners (a1 : Int) (a2 : Int) (g : mz_G) : mz_G :=
  zL_X3_choosePartners_5 a1 a2 3000000000 a1 0 g
def zB_X3_find_17 (a1 : Int) (rc : Int → Int → mz_G → mz_G) (l2 : Int) (l3 : Int) (g : mz_G) : mz_G :=
  if l2 < l3 then (zf_l (zF_X11_at 120 64 l2 g) fun v3 => zf_l (mz_up g 118 3 v3) fun g4 => zf_l (zF_X3_choosePartners l2 a1 g4) fun g5 => g5) else (zf_l (zF_X3_fewestOf l3 a1 g) fun v6 => zf_l (zF_X11_put 120 64 l3 v6 g) fun g7 => rc l2 (l3 + 1) g7)
def zL_X3_find_17 (a1 : Int) : Nat → Int → Int → mz_G → mz_G
  | 0 => fun _ _ _ => default
  | k + 1 => zB_X3_find_17 a1 (zL_X3_find_17 a1 k)
theorem zL_X3_find_17_s {a1 : Int} {k : Nat} {l2 : Int} {l3 : Int} {g : mz_G} : zL_X3_find_17 a1 (k + 1) l2 l3 g = zB_X3_find_17 a1 (zL_X3_find_17 a1 k) l2 l3 g := rfl
def zF_X3_find (a1 : Int) (g : mz_G) : mz_G :=
  zf_l (mz_shlI 1 a1) fun v1 => zf_l (zF_X11_put 120 64 0 0 g) fun g2 => zL_X3_find_17 a1 3000000000 (v1 - 1) 1 g2
def zB_X11_findCouples_38 (x : mm_X) (rc : Int → Int → Int → mz_G → mz_G) (l1 : Int) (l2 : Int) (l3 : Int) (g : mz_G) : mz_G :=
  if l3 < l1 then (zf_l (zF_X9_get 87 l3 g) fun u4 => zf_l (zF_X1_blendInto x.1 u4 135 g) fun g5 => zf_m2 (zF_X2_changes 133 135 g5) fun v6 g7 => zf_l (zF_X3_setCost l2 l3 v6 g7) fun g8 => rc l1 l2 (l3 + 1) g8) else (g)
def zL_X11_findCouples_38 (x : mm_X) : Nat → Int → Int → Int → mz_G → mz_G
  | 0 => fun _ _ _ _ => default
  | k + 1 => zB_X11_findCouples_38 x (zL_X11_findCouples_38 x k)
theorem zL_X11_findCouples_38_s {x : mm_X} {k : Nat} {l1 : Int} {l2 : Int} {l3 : Int} {g : mz_G} : zL_X11_findCouples_38 x (k + 1) l1 l2 l3 g = zB_X11_findCouples_38 x (zL_X11_findCouples_38 x k) l1 l2 l3 g := rfl
def zB_X11_findCouples_7 (x : mm_X) (rc : Int → Int → mz_G → mz_G) (l1 : Int) (l2 : Int) (g : mz_G) : mz_G :=
  if l2 < l1 then (zf_l (zF_X9_get 87 l2 g) fun u2 => zf_l (zF_X1_blendInto x.1 u2 133 g) fun g3 => zf_l (zL_X11_findCouples_38 x 3000000000 l1 l2 (l2 + 1) g3) fun g9 => rc l1 (l2 + 1) g9) else (zf_l (zF_X3_find l1 g) fun g10 => g10)
def zL_X11_findCouples_7 (x : mm_X) : Nat → Int → Int → mz_G → mz_G
  | 0 => fun _ _ _ => default
  | k + 1 => zB_X11_findCouples_7 x (zL_X11_findCouples_7 x k)
theorem zL_X11_findCouples_7_s {x : mm_X} {k : Nat} {l1 : Int} {l2 : Int} {g : mz_G} : zL_X11_findCouples_7 x (k + 1) l1 l2 g = zB_X11_findCouples_7 x (zL_X11_findCouples_7 x k) l1 l2 g := rfl
def zF_X11_findCouples (x : mm_X) (g : mz_G) : mz_G :=
  zf_l (zF_X11_trunkCount x g) fun v1 => zL_X11_findCouples_7 x 3000000000 v1 0 g
def zF_X3_partnerOf (a1 : Int) (g : mz_G) : Int :=
  zf_l (zF_X11_at 121 6 a1 g) fun v1 => v1
def zJ_X11_trunk_23 (x : mm_X) (a1 : Int) (a2 : Int) (s0 : Int) (g : mz_G) : zf_T :=
  zf_mx (zF_X11_mustBe s0 g) g fun v2 g3 => zf_l (zF_X9_get 87 a1 g3) fun u4 => if a2 = 0 then (zf_l (g3 u4 0) fun v5 => (0, v5, g3)) else if a2 = 1 then (zf_l (g3 u4 1) fun v6 => (0, v6, g3)) else if a2 = 2 then (zf_l (g3 u4 2) fun v7 => (0, v7, g3)) else if a2 = 3 then (zf_l (g3 u4 3) fun v8 => (0, v8, g3)) else if a2 = 4 then (zf_l (zF_X1_fullOf x.1 u4 g3) fun v9 => (0, v9, g3)) else if a2 = 5 then (zf_l (zF_X1_blendSize x.1 u4 g3) fun v10 => (0, v10, g3)) else if a2 = 6 then (zf_l (g3 u4 4) fun v11 => if v11 = 0 then ((0, 0, g3)) else ((0, 1, g3))) else (zf_l (zF_X11_findCouples x g3) fun g12 => zf_l (zF_X3_partnerOf a1 g12) fun v13 => (0, v13, g12))
def zJ_X11_trunk_22 (x : mm_X) (a1 : Int) (a2 : Int) (g : mz_G) : zf_T :=
  zJ_X11_trunk_23 x a1 a2 0 g
def zF_X11_trunk (x : mm_X) (a1 : Int) (a2 : Int) (g : mz_G) : zf_T :=
  zf_l (zF_X11_isTrunk x a1 g) fun v1 => if v1 = 0 then (zJ_X11_trunk_22 x a1 a2 g) else (if a2 < 0 then (zJ_X11_trunk_22 x a1 a2 g) else (if (7 : Int) < a2 then (zJ_X11_trunk_22 x a1 a2 g) else (zJ_X11_trunk_23 x a1 a2 1 g)))
def zB_X9_saveIn_11 (q0 : Nat) (q1 : Nat) (n_q1 : Nat) (a2 : Int) (rc : Int → mz_G → mz_G) (l3 : Int) (g : mz_G) : mz_G :=
  zf_l (g q0 2) fun v3 => if l3 < v3 then (zf_l (zF_X9_get q0 l3 g) fun u4 => zf_l (mz_wrap (a2 + 1)) fun v5 => zf_l (mz_wrap (v5 + (4 * l3))) fun v6 => zf_l (g u4 0) fun v7 => zf_l (zF_X11_put q1 n_q1 v6 v7 g) fun g8 => zf_l (mz_wrap (v6 + 1)) fun v9 => zf_l (g8 u4 1) fun v10 => zf_l (zF_X11_put q1 n_q1 v9 v10 g8) fun g11 => zf_l (mz_wrap (v6 + 2)) fun v12 => zf_l (g11 u4 2) fun v13 => zf_l (zF_X11_put q1 n_q1 v12 v13 g11) fun g14 => zf_l (mz_wrap (v6 + 3)) fun v15 => zf_l (g14 u4 3) fun v16 => zf_l (zF_X11_put q1 n_q1 v15 v16 g14) fun g17 => rc (l3 + 1) g17) else (g)
def zL_X9_saveIn_11 (q0 : Nat) (q1 : Nat) (n_q1 : Nat) (a2 : Int) : Nat → Int → mz_G → mz_G
  | 0 => fun _ _ => default
  | k + 1 => zB_X9_saveIn_11 q0 q1 n_q1 a2 (zL_X9_saveIn_11 q0 q1 n_q1 a2 k)
theorem zL_X9_saveIn_11_s {q0 : Nat} {q1 : Nat} {n_q1 : Nat} {a2 : Int} {k : Nat} {l3 : Int} {g : mz_G} : zL_X9_saveIn_11 q0 q1 n_q1 a2 (k + 1) l3 g = zB_X9_saveIn_11 q0 q1 n_q1 a2 (zL_X9_saveIn_11 q0 q1 n_q1 a2 k) l3 g := rfl
def zF_X9_saveIn (q0 : Nat) (q1 : Nat) (n_q1 : Nat) (a2 : Int) (g : mz_G) : mz_G :=
  zf_l (g q0 3) fun v1 => zf_l (zF_X11_put q1 n_q1 a2 v1 g) fun g2 => zL_X9_saveIn_11 q0 q1 n_q1 a2 3000000000 0 g2
def zF_X6_keepAct (q0 : Nat) (g : mz_G) : mz_G :=
  zf_l (g q0 2) fun v1 => zf_l (g q0 3) fun v2 => zf_l ((v1 + v2) % 40) fun v3 => zf_l (zF_X9_saveIn (q0 + 1) (q0 + 10) 1000 (v3 * 25) g) fun g4 => zf_l (g4 q0 3) fun v5 => if v5 < 40 then (zf_l (g4 q0 3) fun v6 => zf_l (mz_up g4 q0 3 (v6 + 1)) fun g7 => g7) else (zf_l (g4 q0 2) fun v8 => zf_l ((v8 + 1) % 40) fun v9 => zf_l (mz_up g4 q0 2 v9) fun g10 => g10)
def zF_X5_setTrunk (q0 : Nat) (q1 : Nat) (a2 : Int) (a3 : Int) (g : mz_G) : mz_G :=
  zf_l (g q1 2) fun v1 => zf_l (zF_X11_put (q0 + 2) 7 0 v1 g) fun g2 => zf_l (g2 q1 3) fun v3 => zf_l (zF_X11_put (q0 + 2) 7 2 v3 g2) fun g4 => zf_l (zF_X11_put (q0 + 2) 7 6 a2 g4) fun g5 => zf_l (zF_X11_put (q0 + 2) 7 1 a3 g5) fun g6 => g6
def zF_X5_setWords (q0 : Nat) (a1 : Int) (a2 : Int) (a3 : Int) (g : mz_G) : mz_G :=
  zf_l (zF_X11_put (q0 + 2) 7 3 a1 g) fun g1 => zf_l (zF_X11_put (q0 + 2) 7 4 a2 g1) fun g2 => zf_l (zF_X11_put (q0 + 2) 7 5 a3 g2) fun g3 => g3
def zJ_X5_joined_110 (a1 : Int) (a2 : Int) (a3 : Int) (g : mz_G) : Int :=
  if a3 = 0 then (0) else (zf_l (mz_divI a2 a3) fun v4 => v4)
def zJ_X5_joined_74 (a1 : Int) (a2 : Int) (a3 : Int) (g : mz_G) : Int :=
  0
def zJ_X5_joined_56 (a1 : Int) (a2 : Int) (a3 : Int) (g : mz_G) : Int :=
  1
def zF_X5_joined (a1 : Int) (a2 : Int) (a3 : Int) (g : mz_G) : Int :=
  if a1 = (-18) then (zf_l (mz_wrap (a2 * a3)) fun v1 => v1) else if a1 = (-17) then (zf_l (mz_wrap (a2 - a3)) fun v2 => v2) else if a1 = (-16) then (zf_l (mz_wrap (a2 + a3)) fun v3 => v3) else if a1 = (-15) then (if a2 = a3 then (1) else (0)) else if a1 = (-14) then (if a2 < a3 then (1) else (0)) else if a1 = (-13) then (zJ_X5_joined_110 a1 a2 a3 g) else if a1 = (-12) then (if a2 = 0 then (zJ_X5_joined_74 a1 a2 a3 g) else (if a3 = 0 then (zJ_X5_joined_74 a1 a2 a3 g) else (1))) else if a1 = (-11) then (if a2 = 0 then (if a3 = 0 then (0) else (zJ_X5_joined_56 a1 a2 a3 g)) else (zJ_X5_joined_56 a1 a2 a3 g)) else (zJ_X5_joined_110 a1 a2 a3 g)
def zJ_X5_worth_125 (q0 : Nat) (rc : Int → Int → mz_G → (Int × mz_G)) (l1 : Int) (l2 : Int) (g : mz_G) : Int × mz_G :=
  rc l1 (l2 + 1) g
def zJ_X5_worth_86 (q0 : Nat) (rc : Int → Int → mz_G → (Int × mz_G)) (s1 : Int) (s2 : Int) (l1 : Int) (l2 : Int) (g : mz_G) : Int × mz_G :=
  zf_l (zF_X11_put (q0 + 3) 40 s1 s2 g) fun g4 => zJ_X5_worth_125 q0 rc l1 l2 g4
def zJ_X5_worth_53 (q0 : Nat) (rc : Int → Int → mz_G → (Int × mz_G)) (s1 : Int) (s2 : Int) (l1 : Int) (l2 : Int) (g : mz_G) : Int × mz_G :=
  zf_l (zF_X11_put (q0 + 3) 40 s1 s2 g) fun g13 => zJ_X5_worth_125 q0 rc l1 l2 g13
def zB_X5_worth_4 (q0 : Nat) (rc : Int → Int → mz_G → (Int × mz_G)) (l1 : Int) (l2 : Int) (g : mz_G) : Int × mz_G :=
  zf_l (g q0 1) fun v1 => if l2 < v1 then (zf_l (zF_X11_at (q0 + 1) 700 l2 g) fun v2 => if v2 < (-7) then (if v2 = (-13) then (zf_l (zF_X11_at (q0 + 3) 40 l1 g) fun v3 => if v3 = 0 then (zJ_X5_worth_86 q0 rc l1 1 l1 l2 g) else (zJ_X5_worth_86 q0 rc l1 0 l1 l2 g)) else (zf_l (mz_wrap (l1 + (-1))) fun v5 => zf_l (zF_X11_at (q0 + 3) 40 v5 g) fun v6 => zf_l (mz_wrap (v5 + 1)) fun v7 => zf_l (zF_X11_at (q0 + 3) 40 v7 g) fun v8 => zf_l (zF_X5_joined v2 v6 v8 g) fun v9 => zf_l (zF_X11_put (q0 + 3) 40 v5 v9 g) fun g10 => zJ_X5_worth_125 q0 rc v5 l2 g10)) else (zf_l (mz_wrap (l1 + 1)) fun v11 => if v2 < 0 then (zf_l (zF_X11_at (q0 + 2) 7 ((-1) - v2) g) fun v12 => zJ_X5_worth_53 q0 rc v11 v12 v11 l2 g) else (zJ_X5_worth_53 q0 rc v11 v2 v11 l2 g))) else (zf_l (zF_X11_at (q0 + 3) 40 0 g) fun v14 => (v14, g))
def zL_X5_worth_4 (q0 : Nat) : Nat → Int → Int → mz_G → (Int × mz_G)
  | 0 => fun _ _ _ => default
  | k + 1 => zB_X5_worth_4 q0 (zL_X5_worth_4 q0 k)
theorem zL_X5_worth_4_s {q0 : Nat} {k : Nat} {l1 : Int} {l2 : Int} {g : mz_G} : zL_X5_worth_4 q0 (k + 1) l1 l2 g = zB_X5_worth_4 q0 (zL_X5_worth_4 q0 k) l1 l2 g := rfl
def zF_X5_worth (q0 : Nat) (g : mz_G) : Int × mz_G :=
  zL_X5_worth_4 q0 3000000000 (-1) 0 g
def zJ_X1_grow_116 (q0 : Nat) (q1 : Nat) (a2 : Int) (a3 : Int) (s0 : Int) (s1 : Int) (g : mz_G) : mz_G :=
  zf_l (mz_wrap (s0 + s1)) fun v5 => zf_l (zF_X1_fullOf q0 q1 g) fun v6 => zf_l (min v6 v5) fun v7 => zf_l (mz_up g q1 3 v7) fun g8 => g8
def zJ_X1_grow_96 (q0 : Nat) (q1 : Nat) (a2 : Int) (a3 : Int) (l4 : Int) (g : mz_G) : mz_G :=
  zf_l (g q1 3) fun v3 => zf_l (g q1 4) fun v4 => if v4 = 0 then (zJ_X1_grow_116 q0 q1 a2 a3 v3 l4 g) else (zJ_X1_grow_116 q0 q1 a2 a3 v3 (2 * l4) g)
def zJ_X1_grow_13 (q0 : Nat) (q1 : Nat) (a2 : Int) (a3 : Int) (s0 : Int) (g : mz_G) : mz_G :=
  zf_l (zF_X5_isTold (q0 + 36) g) fun v2 => if v2 = 0 then (zJ_X1_grow_96 q0 q1 a2 a3 s0 g) else (zf_l (zF_X5_setTrunk (q0 + 36) q1 a2 a3 g) fun g9 => zf_l (g9 q1 0) fun v10 => zf_l (zF_X10_firmness (q0 + 1) v10 g9) fun v11 => zf_l (g9 q1 1) fun v12 => zf_l (zF_X10_firmness (q0 + 1) v12 g9) fun v13 => zf_l (g9 q1 0) fun v14 => zf_l (g9 q1 1) fun v15 => zf_l (zF_X10_overlapOf (q0 + 1) v14 v15 g9) fun v16 => zf_l (zF_X5_setWords (q0 + 36) v11 v13 v16 g9) fun g17 => zf_m2 (zF_X5_worth (q0 + 36) g17) fun v18 g19 => zf_l (min 3 v18) fun v20 => zf_l (max 0 v20) fun v21 => zJ_X1_grow_96 q0 q1 a2 a3 v21 g19)
def zF_X1_grow (q0 : Nat) (q1 : Nat) (a2 : Int) (a3 : Int) (g : mz_G) : mz_G :=
  zf_l (g q1 2) fun v1 => if v1 < a3 then (zJ_X1_grow_13 q0 q1 a2 a3 1 g) else (zJ_X1_grow_13 q0 q1 a2 a3 0 g)
def zB_X1_passDay_11 (q0 : Nat) (q1 : Nat) (rc : Int → Int → mz_G → mz_G) (l2 : Int) (l3 : Int) (g : mz_G) : mz_G :=
  zf_l (g q1 2) fun v3 => if l3 < v3 then (zf_l (zF_X9_get q1 l3 g) fun u4 => zf_l (g q1 3) fun v5 => zf_l (zF_X1_grow q0 u4 v5 l2 g) fun g6 => rc l2 (l3 + 1) g6) else (zf_l (g q1 3) fun v7 => zf_l (mz_wrap (v7 + 1)) fun v8 => zf_l (mz_up g q1 3 v8) fun g9 => g9)
def zL_X1_passDay_11 (q0 : Nat) (q1 : Nat) : Nat → Int → Int → mz_G → mz_G
  | 0 => fun _ _ _ => default
  | k + 1 => zB_X1_passDay_11 q0 q1 (zL_X1_passDay_11 q0 q1 k)
theorem zL_X1_passDay_11_s {q0 : Nat} {q1 : Nat} {k : Nat} {l2 : Int} {l3 : Int} {g : mz_G} : zL_X1_passDay_11 q0 q1 (k + 1) l2 l3 g = zB_X1_passDay_11 q0 q1 (zL_X1_passDay_11 q0 q1 k) l2 l3 g := rfl
def zF_X1_passDay (q0 : Nat) (q1 : Nat) (g : mz_G) : mz_G :=
  zf_l (g q1 3) fun v1 => zf_l (zF_X1_heatOf q0 v1 g) fun v2 => zL_X1_passDay_11 q0 q1 3000000000 v2 0 g
def zJ_X11_days_29 (x : mm_X) (a1 : Int) (g : mz_G) : Int × mz_G :=
  zf_m2 (zF_X6_refuse 86 1 g) fun v1 g2 => (v1, g2)
def zB_X11_days_47 (x : mm_X) (a1 : Int) (rc : Int → mz_G → (Int × mz_G)) (l2 : Int) (g : mz_G) : Int × mz_G :=
  if l2 < a1 then (zf_l (zF_X1_passDay x.1 87 g) fun g6 => rc (l2 + 1) g6) else (zf_l (g 87 3) fun v7 => (v7, g))
def zL_X11_days_47 (x : mm_X) (a1 : Int) : Nat → Int → mz_G → (Int × mz_G)
  | 0 => fun _ _ => default
  | k + 1 => zB_X11_days_47 x a1 (zL_X11_days_47 x a1 k)
theorem zL_X11_days_47_s {x : mm_X} {a1 : Int} {k : Nat} {l2 : Int} {g : mz_G} : zL_X11_days_47 x a1 (k + 1) l2 g = zB_X11_days_47 x a1 (zL_X11_days_47 x a1 k) l2 g := rfl
def zF_X11_days (x : mm_X) (a1 : Int) (g : mz_G) : Int × mz_G :=
  if a1 < 1 then (zJ_X11_days_29 x a1 g) else (if (20 : Int) < a1 then (zJ_X11_days_29 x a1 g) else (zf_l (g 87 3) fun v3 => zf_l (mz_wrap (v3 + a1)) fun v4 => if (999 : Int) < v4 then (zJ_X11_days_29 x a1 g) else (zf_l (zF_X6_keepAct 86 g) fun g5 => zL_X11_days_47 x a1 3000000000 0 g5)))
def zJ_X11_draw_38 (x : mm_X) (a1 : Int) (a2 : Int) (g : mz_G) : zf_T :=
  zf_m2 (zF_X6_refuse 86 1 g) fun v5 g6 => (0, v5, g6)
def zF_X11_draw (x : mm_X) (a1 : Int) (a2 : Int) (g : mz_G) : zf_T :=
  zf_l (zF_X11_isTrunk x a1 g) fun v1 => zf_mx (zF_X11_mustBe v1 g) g fun v2 g3 => zf_l (zF_X9_get 87 a1 g3) fun u4 => if a2 < 0 then (zJ_X11_draw_38 x a1 a2 g3) else (if (9 : Int) < a2 then (zJ_X11_draw_38 x a1 a2 g3) else (zf_l (g3 u4 2) fun v7 => if a2 = v7 then (zJ_X11_draw_38 x a1 a2 g3) else (zf_l (zF_X6_keepAct 86 g3) fun g8 => zf_l (g8 u4 2) fun v9 => zf_l (mz_up g8 u4 2 a2) fun g10 => (0, v9, g10))))
def zJ_X11_pull_56 (x : mm_X) (a1 : Int) (a2 : Int) (g : mz_G) : zf_T :=
  zf_m2 (zF_X6_refuse 86 1 g) fun v5 g6 => (0, v5, g6)
def zF_X11_pull (x : mm_X) (a1 : Int) (a2 : Int) (g : mz_G) : zf_T :=
  zf_l (zF_X11_isTrunk x a1 g) fun v1 => zf_mx (zF_X11_mustBe v1 g) g fun v2 g3 => zf_l (zF_X9_get 87 a1 g3) fun u4 => if a2 < 1 then (zJ_X11_pull_56 x a1 a2 g3) else (if (9 : Int) < a2 then (zJ_X11_pull_56 x a1 a2 g3) else (zf_l (g3 u4 3) fun v7 => if v7 = 0 then (zJ_X11_pull_56 x a1 a2 g3) else (zf_l (zF_X1_isFull x.1 u4 g3) fun v8 => if v8 = 0 then (zf_l (g3 u4 4) fun v9 => if v9 = 0 then (zf_l (zF_X6_keepAct 86 g3) fun g10 => zf_l (g10 u4 3) fun v11 => zf_l (mz_wrap (v11 - a2)) fun v12 => zf_l (max 0 v12) fun v13 => zf_l (mz_up g10 u4 3 v13) fun g14 => zf_l (g14 u4 3) fun v15 => (0, v15, g14)) else (zJ_X11_pull_56 x a1 a2 g3)) else (zJ_X11_pull_56 x a1 a2 g3))))
def zF_X8_turnRound (q0 : Nat) (g : mz_G) : mz_G :=
  zf_l (g q0 0) fun v1 => zf_l (g q0 1) fun v2 => zf_l (mz_up g q0 0 v2) fun g3 => zf_l (mz_up g3 q0 1 v1) fun g4 => zf_l (mz_up g4 q0 3 0) fun g5 => g5
def zF_X11_turn (x : mm_X) (a1 : Int) (g : mz_G) : zf_T :=
  zf_l (zF_X11_isTrunk x a1 g) fun v1 => zf_mx (zF_X11_mustBe v1 g) g fun v2 g3 => zf_l (zF_X9_get 87 a1 g3) fun u4 => zf_l (zF_X6_keepAct 86 g3) fun g5 => zf_l (g5 u4 3) fun v6 => zf_l (zF_X8_turnRound u4 g5) fun g7 => (0, v6, g7)
def zJ_X8_packIn_17 (q0 : Nat) (a1 : Int) (a2 : Int) (g : mz_G) : mz_G :=
  zf_l (mz_up g q0 3 0) fun g2 => g2
def zF_X8_packIn (q0 : Nat) (a1 : Int) (a2 : Int) (g : mz_G) : mz_G :=
  if a1 = 0 then (zf_l (mz_up g q0 0 a2) fun g1 => zJ_X8_packIn_17 q0 a1 a2 g1) else (zf_l (mz_up g q0 1 a2) fun g3 => zJ_X8_packIn_17 q0 a1 a2 g3)
def zJ_X11_pack_63 (x : mm_X) (a1 : Int) (a2 : Int) (a3 : Int) (s0 : Int) (r4 : Nat) (g : mz_G) : zf_T :=
  if s0 = a3 then (zf_m2 (zF_X6_refuse 86 1 g) fun v6 g7 => (0, v6, g7)) else (zf_l (zF_X6_keepAct 86 g) fun g8 => zf_l (zF_X8_packIn r4 a2 a3 g8) fun g9 => (0, s0, g9))
def zJ_X11_pack_30 (x : mm_X) (a1 : Int) (a2 : Int) (a3 : Int) (s0 : Int) (g : mz_G) : zf_T :=
  zf_mx (zF_X11_mustBe s0 g) g fun v2 g3 => zf_l (zF_X9_get 87 a1 g3) fun u4 => if a2 = 0 then (zf_l (g3 u4 0) fun v5 => zJ_X11_pack_63 x a1 a2 a3 v5 u4 g3) else (zf_l (g3 u4 1) fun v10 => zJ_X11_pack_63 x a1 a2 a3 v10 u4 g3)
def zJ_X11_pack_29 (x : mm_X) (a1 : Int) (a2 : Int) (a3 : Int) (g : mz_G) : zf_T :=
  zJ_X11_pack_30 x a1 a2 a3 0 g
def zJ_X11_pack_17 (x : mm_X) (a1 : Int) (a2 : Int) (a3 : Int) (g : mz_G) : zf_T :=
  zf_l (zF_X11_isWord x a3 g) fun v11 => if v11 = 0 then (zJ_X11_pack_29 x a1 a2 a3 g) else (zJ_X11_pack_30 x a1 a2 a3 1 g)
def zF_X11_pack (x : mm_X) (a1 : Int) (a2 : Int) (a3 : Int) (g : mz_G) : zf_T :=
  zf_l (zF_X11_isTrunk x a1 g) fun v1 => if v1 = 0 then (zJ_X11_pack_29 x a1 a2 a3 g) else (if a2 = 0 then (zJ_X11_pack_17 x a1 a2 a3 g) else (if a2 = 1 then (zJ_X11_pack_17 x a1 a2 a3 g) else (zJ_X11_pack_29 x a1 a2 a3 g)))
def zB_X9_takeFrom_11 (q0 : Nat) (q1 : Nat) (n_q1 : Nat) (a2 : Int) (rc : Int → mz_G → mz_G) (l3 : Int) (g : mz_G) : mz_G :=
  zf_l (g q0 2) fun v3 => if l3 < v3 then (zf_l (zF_X9_get q0 l3 g) fun u4 => zf_l (mz_wrap (a2 + 1)) fun v5 => zf_l (mz_wrap (v5 + (4 * l3))) fun v6 => zf_l (zF_X11_at q1 n_q1 v6 g) fun v7 => zf_l (mz_up g u4 0 v7) fun g8 => zf_l (mz_wrap (v6 + 1)) fun v9 => zf_l (zF_X11_at q1 n_q1 v9 g8) fun v10 => zf_l (mz_up g8 u4 1 v10) fun g11 => zf_l (mz_wrap (v6 + 2)) fun v12 => zf_l (zF_X11_at q1 n_q1 v12 g11) fun v13 => zf_l (mz_up g11 u4 2 v13) fun g14 => zf_l (mz_wrap (v6 + 3)) fun v15 => zf_l (zF_X11_at q1 n_q1 v15 g14) fun v16 => zf_l (mz_up g14 u4 3 v16) fun g17 => rc (l3 + 1) g17) else (g)
def zL_X9_takeFrom_11 (q0 : Nat) (q1 : Nat) (n_q1 : Nat) (a2 : Int) : Nat → Int → mz_G → mz_G
  | 0 => fun _ _ => default
  | k + 1 => zB_X9_takeFrom_11 q0 q1 n_q1 a2 (zL_X9_takeFrom_11 q0 q1 n_q1 a2 k)
theorem zL_X9_takeFrom_11_s {q0 : Nat} {q1 : Nat} {n_q1 : Nat} {a2 : Int} {k : Nat} {l3 : Int} {g : mz_G} : zL_X9_takeFrom_11 q0 q1 n_q1 a2 (k + 1) l3 g = zB_X9_takeFrom_11 q0 q1 n_q1 a2 (zL_X9_takeFrom_11 q0 q1 n_q1 a2 k) l3 g := rfl
def zF_X9_takeFrom (q0 : Nat) (q1 : Nat) (n_q1 : Nat) (a2 : Int) (g : mz_G) : mz_G :=
  zf_l (zF_X11_at q1 n_q1 a2 g) fun v1 => zf_l (mz_up g q0 3 v1) fun g2 => zL_X9_takeFrom_11 q0 q1 n_q1 a2 3000000000 0 g2
def zF_X6_undoAct (q0 : Nat) (g : mz_G) : mz_G :=
  zf_l (g q0 3) fun v1 => if (0 : Int) < v1 then (zf_l (g q0 3) fun v2 => zf_l (mz_up g q0 3 (v2 - 1)) fun g3 => zf_l (g3 q0 2) fun v4 => zf_l (g3 q0 3) fun v5 => zf_l ((v4 + v5) % 40) fun v6 => zf_l (zF_X9_takeFrom (q0 + 1) (q0 + 10) 1000 (v6 * 25) g3) fun g7 => g7) else (g)
def zF_X11_undo (x : mm_X) (g : mz_G) : Int × mz_G :=
  zf_l (zF_X6_actsKept 86 g) fun v1 => if v1 = 0 then (((-1), g)) else (zf_l (zF_X6_undoAct 86 g) fun g2 => zf_l (zF_X6_actsKept 86 g2) fun v3 => (v3, g2))
def zJ_X11_isAhead_14 (a1 : Int) (g : mz_G) : Int :=
  0
def zF_X11_isAhead (a1 : Int) (g : mz_G) : Int :=
  if a1 < 0 then (zJ_X11_isAhead_14 a1 g) else (if (60 : Int) < a1 then (zJ_X11_isAhead_14 a1 g) else (1))
def zF_X11_growBy (x : mm_X) (q1 : Nat) (a2 : Int) (g : mz_G) : mz_G :=
  zf_l (g 87 3) fun v1 => zf_l (mz_wrap (v1 + a2)) fun v2 => zf_l (zF_X1_heatOf x.1 v2 g) fun v3 => zf_l (zF_X1_grow x.1 q1 v2 v3 g) fun g4 => g4
def zB_X11_growProbe_29 (x : mm_X) (a1 : Int) (a2 : Int) (a3 : Int) (rc : Int → mz_G → mz_G) (l4 : Int) (g : mz_G) : mz_G :=
  if l4 < a3 then (zf_l (zF_X11_growBy x 122 l4 g) fun g4 => rc (l4 + 1) g4) else (g)
def zL_X11_growProbe_29 (x : mm_X) (a1 : Int) (a2 : Int) (a3 : Int) : Nat → Int → mz_G → mz_G
  | 0 => fun _ _ => default
  | k + 1 => zB_X11_growProbe_29 x a1 a2 a3 (zL_X11_growProbe_29 x a1 a2 a3 k)
theorem zL_X11_growProbe_29_s {x : mm_X} {a1 : Int} {a2 : Int} {a3 : Int} {k : Nat} {l4 : Int} {g : mz_G} : zL_X11_growProbe_29 x a1 a2 a3 (k + 1) l4 g = zB_X11_growProbe_29 x a1 a2 a3 (zL_X11_growProbe_29 x a1 a2 a3 k) l4 g := rfl
def zF_X11_growProbe (x : mm_X) (a1 : Int) (a2 : Int) (a3 : Int) (g : mz_G) : mz_G :=
  zf_l (zF_X9_get 87 a1 g) fun u1 => zf_l (zF_X8_becomeAs 122 u1 g) fun g2 => zf_l (mz_up g2 122 2 a2) fun g3 => zL_X11_growProbe_29 x a1 a2 a3 3000000000 0 g3
def zJ_X11_nearestToBlend_60 (x : mm_X) (rc : Int → Int → Int → mz_G → (Int × mz_G)) (l1 : Int) (l2 : Int) (l3 : Int) (g : mz_G) : Int × mz_G :=
  rc l1 l2 (l3 + 1) g
def zJ_X11_nearestToBlend_55 (x : mm_X) (rc : Int → Int → Int → mz_G → (Int × mz_G)) (l3 : Int) (l4 : Int) (g : mz_G) : Int × mz_G :=
  zJ_X11_nearestToBlend_60 x rc l3 l4 l3 g
def zB_X11_nearestToBlend_6 (x : mm_X) (rc : Int → Int → Int → mz_G → (Int × mz_G)) (l1 : Int) (l2 : Int) (l3 : Int) (g : mz_G) : Int × mz_G :=
  zf_l (zF_X10_many (x.1 + 1) g) fun v1 => if l3 < v1 then (zf_l (zF_X10_of (x.1 + 1) l3 g) fun u2 => zf_m2 (zF_X2_changes 133 u2 g) fun v3 g4 => if l1 = (-1) then (zJ_X11_nearestToBlend_55 x rc l3 v3 g4) else (if v3 < l2 then (zJ_X11_nearestToBlend_55 x rc l3 v3 g4) else (zJ_X11_nearestToBlend_60 x rc l1 l2 l3 g4))) else ((l1, g))
def zL_X11_nearestToBlend_6 (x : mm_X) : Nat → Int → Int → Int → mz_G → (Int × mz_G)
  | 0 => fun _ _ _ _ => default
  | k + 1 => zB_X11_nearestToBlend_6 x (zL_X11_nearestToBlend_6 x k)
theorem zL_X11_nearestToBlend_6_s {x : mm_X} {k : Nat} {l1 : Int} {l2 : Int} {l3 : Int} {g : mz_G} : zL_X11_nearestToBlend_6 x (k + 1) l1 l2 l3 g = zB_X11_nearestToBlend_6 x (zL_X11_nearestToBlend_6 x k) l1 l2 l3 g := rfl
def zF_X11_nearestToBlend (x : mm_X) (g : mz_G) : Int × mz_G :=
  zL_X11_nearestToBlend_6 x 3000000000 (-1) 0 0 g
def zJ_X11_then_22 (x : mm_X) (a1 : Int) (a2 : Int) (a3 : Int) (s0 : Int) (g : mz_G) : zf_T :=
  zf_mx (zF_X11_mustBe s0 g) g fun v2 g3 => zf_l (zF_X11_isAhead a2 g3) fun v4 => zf_mx (zF_X11_mustFit v4 g3) g3 fun v5 g6 => zf_l (zF_X9_get 87 a1 g6) fun u7 => zf_l (g6 u7 2) fun v8 => zf_l (zF_X11_growProbe x a1 v8 a2 g6) fun g9 => if a3 = 0 then (zf_l (g9 122 3) fun v10 => (0, v10, g9)) else (if a3 = 1 then (zf_l (zF_X1_blendSize x.1 122 g9) fun v11 => (0, v11, g9)) else (zf_l (zF_X1_blendInto x.1 122 133 g9) fun g12 => zf_m2 (zF_X11_nearestToBlend x g12) fun v13 g14 => if a3 = 2 then ((0, v13, g14)) else (zf_l (zF_X10_of (x.1 + 1) v13 g14) fun u15 => zf_m2 (zF_X2_changes 133 u15 g14) fun v16 g17 => (0, v16, g17))))
def zJ_X11_then_21 (x : mm_X) (a1 : Int) (a2 : Int) (a3 : Int) (g : mz_G) : zf_T :=
  zJ_X11_then_22 x a1 a2 a3 0 g
def zF_X11_then (x : mm_X) (a1 : Int) (a2 : Int) (a3 : Int) (g : mz_G) : zf_T :=
  zf_l (zF_X11_isTrunk x a1 g) fun v1 => if v1 = 0 then (zJ_X11_then_21 x a1 a2 a3 g) else (if a3 < 0 then (zJ_X11_then_21 x a1 a2 a3 g) else (if (3 : Int) < a3 then (zJ_X11_then_21 x a1 a2 a3 g) else (zJ_X11_then_22 x a1 a2 a3 1 g)))
def zJ_X11_blend_76 (x : mm_X) (a1 : Int) (a2 : Int) (a3 : Int) (g : mz_G) : zf_T :=
  (0, (-1), g)
def zF_X11_blend (x : mm_X) (a1 : Int) (a2 : Int) (a3 : Int) (g : mz_G) : zf_T :=
  zf_l (zF_X11_isTrunk x a1 g) fun v1 => zf_mx (zF_X11_mustBe v1 g) g fun v2 g3 => zf_l (zF_X11_isAhead a3 g3) fun v4 => zf_mx (zF_X11_mustFit v4 g3) g3 fun v5 g6 => zf_l (zF_X9_get 87 a1 g6) fun u7 => zf_l (g6 u7 2) fun v8 => zf_l (zF_X11_growProbe x a1 v8 a3 g6) fun g9 => zf_l (zF_X1_blendInto x.1 122 133 g9) fun g10 => if a2 < 0 then (zJ_X11_blend_76 x a1 a2 a3 g10) else (zf_l (zF_X0_length 133 g10) fun v11 => if a2 < v11 then (zf_l (zF_X0_signAt 133 a2 g10) fun v12 => (0, v12, g10)) else (zJ_X11_blend_76 x a1 a2 a3 g10))
def zJ_X11_later_131 (x : mm_X) (a1 : Int) (a2 : Int) (rc : Int → Int → Int → Int → Int → mz_G → zf_T) (l3 : Int) (l4 : Int) (l5 : Int) (l6 : Int) (l7 : Int) (r8 : Nat) (g : mz_G) : zf_T :=
  zf_l (g 122 3) fun v14 => zf_l (g r8 3) fun v15 => zf_l (mz_wrap (v14 - v15)) fun v16 => zf_l (mz_wrap (l6 + v16)) fun v17 => rc l3 l4 l5 v17 (l7 + 1) g
def zJ_X11_later_96 (x : mm_X) (a1 : Int) (a2 : Int) (rc : Int → Int → Int → Int → Int → mz_G → zf_T) (s0 : Int) (s1 : Int) (l4 : Int) (l5 : Int) (l6 : Int) (l7 : Int) (r8 : Nat) (g : mz_G) : zf_T :=
  zf_l (mz_orI s0 s1) fun v11 => zf_l (zF_X1_blendSize x.1 122 g) fun v12 => if l5 < v12 then (zf_l (zF_X1_blendSize x.1 122 g) fun v13 => zJ_X11_later_131 x a1 a2 rc v11 l7 v13 l6 l7 r8 g) else (zJ_X11_later_131 x a1 a2 rc v11 l4 l5 l6 l7 r8 g)
def zB_X11_later_38 (x : mm_X) (a1 : Int) (a2 : Int) (rc : Int → Int → Int → Int → Int → mz_G → zf_T) (l3 : Int) (l4 : Int) (l5 : Int) (l6 : Int) (l7 : Int) (g : mz_G) : zf_T :=
  zf_l (zF_X11_trunkCount x g) fun v6 => if l7 < v6 then (zf_l (zF_X9_get 87 l7 g) fun u7 => zf_l (g u7 2) fun v8 => zf_l (zF_X11_growProbe x l7 v8 a1 g) fun g9 => zf_l (zF_X1_isFull x.1 122 g9) fun v10 => if v10 = 0 then (zJ_X11_later_96 x a1 a2 rc l3 0 l4 l5 l6 l7 u7 g9) else (zf_l (mz_shlI 1 l7) fun v18 => zJ_X11_later_96 x a1 a2 rc l3 v18 l4 l5 l6 l7 u7 g9)) else (if a2 = 0 then ((0, l3, g)) else (if a2 = 1 then ((0, l4, g)) else ((0, l6, g))))
def zL_X11_later_38 (x : mm_X) (a1 : Int) (a2 : Int) : Nat → Int → Int → Int → Int → Int → mz_G → zf_T
  | 0 => fun _ _ _ _ _ _ => default
  | k + 1 => zB_X11_later_38 x a1 a2 (zL_X11_later_38 x a1 a2 k)
theorem zL_X11_later_38_s {x : mm_X} {a1 : Int} {a2 : Int} {k : Nat} {l3 : Int} {l4 : Int} {l5 : Int} {l6 : Int} {l7 : Int} {g : mz_G} : zL_X11_later_38 x a1 a2 (k + 1) l3 l4 l5 l6 l7 g = zB_X11_later_38 x a1 a2 (zL_X11_later_38 x a1 a2 k) l3 l4 l5 l6 l7 g := rfl
def zJ_X11_later_14 (x : mm_X) (a1 : Int) (a2 : Int) (s0 : Int) (g : mz_G) : zf_T :=
  zf_mx (zF_X11_mustBe s0 g) g fun v1 g2 => zf_l (zF_X11_isAhead a1 g2) fun v3 => zf_mx (zF_X11_mustFit v3 g2) g2 fun v4 g5 => zL_X11_later_38 x a1 a2 3000000000 0 (-1) 0 0 0 g5
def zJ_X11_later_13 (x : mm_X) (a1 : Int) (a2 : Int) (g : mz_G) : zf_T :=
  zJ_X11_later_14 x a1 a2 0 g
def zF_X11_later (x : mm_X) (a1 : Int) (a2 : Int) (g : mz_G) : zf_T :=
  if a2 < 0 then (zJ_X11_later_13 x a1 a2 g) else (if (2 : Int) < a2 then (zJ_X11_later_13 x a1 a2 g) else (zJ_X11_later_14 x a1 a2 1 g))
def zB_X11_full_28 (x : mm_X) (a1 : Int) (rc : Int → mz_G → zf_T) (l2 : Int) (g : mz_G) : zf_T :=
  if (60 : Int) < l2 then ((0, (-1), g)) else (zf_l (zF_X1_isFull x.1 122 g) fun v6 => if v6 = 0 then (zf_l (zF_X11_growBy x 122 l2 g) fun g7 => rc (l2 + 1) g7) else ((0, l2, g)))
def zL_X11_full_28 (x : mm_X) (a1 : Int) : Nat → Int → mz_G → zf_T
  | 0 => fun _ _ => default
  | k + 1 => zB_X11_full_28 x a1 (zL_X11_full_28 x a1 k)
theorem zL_X11_full_28_s {x : mm_X} {a1 : Int} {k : Nat} {l2 : Int} {g : mz_G} : zL_X11_full_28 x a1 (k + 1) l2 g = zB_X11_full_28 x a1 (zL_X11_full_28 x a1 k) l2 g := rfl
def zF_X11_full (x : mm_X) (a1 : Int) (g : mz_G) : zf_T :=
  zf_l (zF_X11_isTrunk x a1 g) fun v1 => zf_mx (zF_X11_mustBe v1 g) g fun v2 g3 => zf_l (zF_X9_get 87 a1 g3) fun u4 => zf_l (zF_X8_becomeAs 122 u4 g3) fun g5 => zL_X11_full_28 x a1 3000000000 0 g5
def zB_X11_read_44 (x : mm_X) (a1 : Int) (a2 : Int) (rc : Int → mz_G → zf_T) (l3 : Int) (g : mz_G) : zf_T :=
  if (60 : Int) < l3 then ((0, (-1), g)) else (zf_l (zF_X1_blendInto x.1 122 133 g) fun g6 => zf_l (zF_X10_of (x.1 + 1) a2 g6) fun u7 => zf_l (zF_X0_holds 133 u7 g6) fun v8 => if v8 = 0 then (zf_l (zF_X11_growBy x 122 l3 g6) fun g9 => rc (l3 + 1) g9) else ((0, l3, g6)))
def zL_X11_read_44 (x : mm_X) (a1 : Int) (a2 : Int) : Nat → Int → mz_G → zf_T
  | 0 => fun _ _ => default
  | k + 1 => zB_X11_read_44 x a1 a2 (zL_X11_read_44 x a1 a2 k)
theorem zL_X11_read_44_s {x : mm_X} {a1 : Int} {a2 : Int} {k : Nat} {l3 : Int} {g : mz_G} : zL_X11_read_44 x a1 a2 (k + 1) l3 g = zB_X11_read_44 x a1 a2 (zL_X11_read_44 x a1 a2 k) l3 g := rfl
def zJ_X11_read_21 (x : mm_X) (a1 : Int) (a2 : Int) (s0 : Int) (g : mz_G) : zf_T :=
  zf_mx (zF_X11_mustBe s0 g) g fun v2 g3 => zf_l (zF_X9_get 87 a1 g3) fun u4 => zf_l (zF_X8_becomeAs 122 u4 g3) fun g5 => zL_X11_read_44 x a1 a2 3000000000 0 g5
def zJ_X11_read_20 (x : mm_X) (a1 : Int) (a2 : Int) (g : mz_G) : zf_T :=
  zJ_X11_read_21 x a1 a2 0 g
def zF_X11_read (x : mm_X) (a1 : Int) (a2 : Int) (g : mz_G) : zf_T :=
  zf_l (zF_X11_isTrunk x a1 g) fun v1 => if v1 = 0 then (zJ_X11_read_20 x a1 a2 g) else (zf_l (zF_X11_isWord x a2 g) fun v10 => if v10 = 0 then (zJ_X11_read_20 x a1 a2 g) else (zJ_X11_read_21 x a1 a2 1 g))
def zB_X11_alike_69 (x : mm_X) (a1 : Int) (a2 : Int) (rc : Int → mz_G → zf_T) (l3 : Int) (g : mz_G) : zf_T :=
  if (60 : Int) < l3 then ((0, (-1), g)) else (zf_l (zF_X1_blendInto x.1 122 133 g) fun g8 => zf_l (zF_X1_blendInto x.1 123 135 g8) fun g9 => zf_l (zF_X0_isSame 133 135 g9) fun v10 => if v10 = 0 then (zf_l (zF_X11_growBy x 122 l3 g9) fun g11 => zf_l (zF_X11_growBy x 123 l3 g11) fun g12 => rc (l3 + 1) g12) else ((0, l3, g9)))
def zL_X11_alike_69 (x : mm_X) (a1 : Int) (a2 : Int) : Nat → Int → mz_G → zf_T
  | 0 => fun _ _ => default
  | k + 1 => zB_X11_alike_69 x a1 a2 (zL_X11_alike_69 x a1 a2 k)
theorem zL_X11_alike_69_s {x : mm_X} {a1 : Int} {a2 : Int} {k : Nat} {l3 : Int} {g : mz_G} : zL_X11_alike_69 x a1 a2 (k + 1) l3 g = zB_X11_alike_69 x a1 a2 (zL_X11_alike_69 x a1 a2 k) l3 g := rfl
def zJ_X11_alike_21 (x : mm_X) (a1 : Int) (a2 : Int) (s0 : Int) (g : mz_G) : zf_T :=
  zf_mx (zF_X11_mustBe s0 g) g fun v2 g3 => if a1 = a2 then ((0, (-1), g3)) else (zf_l (zF_X9_get 87 a1 g3) fun u4 => zf_l (zF_X8_becomeAs 122 u4 g3) fun g5 => zf_l (zF_X9_get 87 a2 g5) fun u6 => zf_l (zF_X8_becomeAs 123 u6 g5) fun g7 => zL_X11_alike_69 x a1 a2 3000000000 0 g7)
def zJ_X11_alike_20 (x : mm_X) (a1 : Int) (a2 : Int) (g : mz_G) : zf_T :=
  zJ_X11_alike_21 x a1 a2 0 g
def zF_X11_alike (x : mm_X) (a1 : Int) (a2 : Int) (g : mz_G) : zf_T :=
  zf_l (zF_X11_isTrunk x a1 g) fun v1 => if v1 = 0 then (zJ_X11_alike_20 x a1 a2 g) else (zf_l (zF_X11_isTrunk x a2 g) fun v13 => if v13 = 0 then (zJ_X11_alike_20 x a1 a2 g) else (zJ_X11_alike_21 x a1 a2 1 g))
def zJ_X2_common_118 (q1 : Nat) (q2 : Nat) (rc : Int → Int → Int → mz_G → mz_G) (s1 : Int) (s2 : Int) (l3 : Int) (l5 : Int) (l6 : Int) (g : mz_G) : mz_G :=
  zf_l (zF_X11_put 117 17 s1 s2 g) fun g9 => rc l3 l6 (l5 + 1) g9
def zJ_X2_common_82 (q1 : Nat) (q2 : Nat) (rc : Int → Int → Int → mz_G → mz_G) (s0 : Int) (l3 : Int) (l4 : Int) (l5 : Int) (l6 : Int) (g : mz_G) : mz_G :=
  if s0 = 0 then (zf_l (zF_X11_at 117 17 l5 g) fun v7 => zf_l (max l6 v7) fun v8 => zJ_X2_common_118 q1 q2 rc (l5 + 1) v8 l3 l5 l6 g) else (zf_l (mz_wrap (l4 + 1)) fun v10 => zJ_X2_common_118 q1 q2 rc (l5 + 1) v10 l3 l5 l6 g)
def zB_X2_common_41 (q1 : Nat) (q2 : Nat) (rc : Int → Int → Int → mz_G → mz_G) (l3 : Int) (l4 : Int) (l5 : Int) (g : mz_G) : mz_G :=
  zf_l (zF_X0_length q2 g) fun v3 => if l5 < v3 then (zf_l (zF_X11_at 117 17 (l5 + 1) g) fun v4 => zf_l (zF_X0_signAt q1 l3 g) fun v5 => zf_l (zF_X0_signAt q2 l5 g) fun v6 => if v5 = v6 then (zJ_X2_common_82 q1 q2 rc 1 l3 l4 l5 v4 g) else (zJ_X2_common_82 q1 q2 rc 0 l3 l4 l5 v4 g)) else (g)
def zL_X2_common_41 (q1 : Nat) (q2 : Nat) : Nat → Int → Int → Int → mz_G → mz_G
  | 0 => fun _ _ _ _ => default
  | k + 1 => zB_X2_common_41 q1 q2 (zL_X2_common_41 q1 q2 k)
theorem zL_X2_common_41_s {q1 : Nat} {q2 : Nat} {k : Nat} {l3 : Int} {l4 : Int} {l5 : Int} {g : mz_G} : zL_X2_common_41 q1 q2 (k + 1) l3 l4 l5 g = zB_X2_common_41 q1 q2 (zL_X2_common_41 q1 q2 k) l3 l4 l5 g := rfl
def zB_X2_common_27 (q1 : Nat) (q2 : Nat) (rc : Int → mz_G → (Int × mz_G)) (l3 : Int) (g : mz_G) : Int × mz_G :=
  zf_l (zF_X0_length q1 g) fun v2 => if l3 < v2 then (zf_l (zL_X2_common_41 q1 q2 3000000000 l3 0 0 g) fun g11 => rc (l3 + 1) g11) else (zf_l (zF_X0_length q2 g) fun v12 => zf_l (zF_X11_at 117 17 v12 g) fun v13 => (v13, g))
def zL_X2_common_27 (q1 : Nat) (q2 : Nat) : Nat → Int → mz_G → (Int × mz_G)
  | 0 => fun _ _ => default
  | k + 1 => zB_X2_common_27 q1 q2 (zL_X2_common_27 q1 q2 k)
theorem zL_X2_common_27_s {q1 : Nat} {q2 : Nat} {k : Nat} {l3 : Int} {g : mz_G} : zL_X2_common_27 q1 q2 (k + 1) l3 g = zB_X2_common_27 q1 q2 (zL_X2_common_27 q1 q2 k) l3 g := rfl
def zB_X2_common_2 (q1 : Nat) (q2 : Nat) (rc : Int → mz_G → (Int × mz_G)) (l3 : Int) (g : mz_G) : Int × mz_G :=
  zf_l (zF_X0_length q2 g) fun v1 => if v1 < l3 then (zL_X2_common_27 q1 q2 3000000000 0 g) else (zf_l (zF_X11_put 117 17 l3 0 g) fun g14 => rc (l3 + 1) g14)
def zL_X2_common_2 (q1 : Nat) (q2 : Nat) : Nat → Int → mz_G → (Int × mz_G)
  | 0 => fun _ _ => default
  | k + 1 => zB_X2_common_2 q1 q2 (zL_X2_common_2 q1 q2 k)
theorem zL_X2_common_2_s {q1 : Nat} {q2 : Nat} {k : Nat} {l3 : Int} {g : mz_G} : zL_X2_common_2 q1 q2 (k + 1) l3 g = zB_X2_common_2 q1 q2 (zL_X2_common_2 q1 q2 k) l3 g := rfl
def zF_X2_common (q1 : Nat) (q2 : Nat) (g : mz_G) : Int × mz_G :=
  zL_X2_common_2 q1 q2 3000000000 0 g
def zJ_X11_both_30 (x : mm_X) (a1 : Int) (a2 : Int) (a3 : Int) (s0 : Int) (g : mz_G) : zf_T :=
  zf_mx (zF_X11_mustBe s0 g) g fun v2 g3 => if a3 = 0 then (zf_l (zF_X10_overlapOf (x.1 + 1) a1 a2 g3) fun v4 => (0, v4, g3)) else (zf_l (zF_X10_of (x.1 + 1) a1 g3) fun u5 => zf_l (zF_X10_of (x.1 + 1) a2 g3) fun u6 => if a3 = 1 then (zf_m2 (zF_X2_changes u5 u6 g3) fun v7 g8 => (0, v7, g8)) else (zf_m2 (zF_X2_common u5 u6 g3) fun v9 g10 => (0, v9, g10)))
def zJ_X11_both_29 (x : mm_X) (a1 : Int) (a2 : Int) (a3 : Int) (g : mz_G) : zf_T :=
  zJ_X11_both_30 x a1 a2 a3 0 g
def zF_X11_both (x : mm_X) (a1 : Int) (a2 : Int) (a3 : Int) (g : mz_G) : zf_T :=
  zf_l (zF_X11_isWord x a1 g) fun v1 => if v1 = 0 then (zJ_X11_both_29 x a1 a2 a3 g) else (zf_l (zF_X11_isWord x a2 g) fun v11 => if v11 = 0 then (zJ_X11_both_29 x a1 a2 a3 g) else (if a3 < 0 then (zJ_X11_both_29 x a1 a2 a3 g) else (if (2 : Int) < a3 then (zJ_X11_both_29 x a1 a2 a3 g) else (zJ_X11_both_30 x a1 a2 a3 1 g))))
def zF_X10_rowLetters (q0 : Nat) (g : mz_G) : Int :=
  zf_l (g q0 8) fun v1 => v1
def zJ_X11_row_39 (x : mm_X) (a1 : Int) (s0 : Int) (g : mz_G) : zf_T :=
  zf_mx (zF_X11_mustBe s0 g) g fun v2 g3 => zf_l (zF_X10_inRow (x.1 + 1) a1 g3) fun v4 => (0, v4, g3)
def zJ_X11_row_38 (x : mm_X) (a1 : Int) (g : mz_G) : zf_T :=
  zJ_X11_row_39 x a1 0 g
def zF_X11_row (x : mm_X) (a1 : Int) (g : mz_G) : zf_T :=
  if a1 = (-1) then (zf_l (zF_X10_rowLetters (x.1 + 1) g) fun v1 => (0, v1, g)) else (if a1 < 0 then (zJ_X11_row_38 x a1 g) else (zf_l (zF_X10_many (x.1 + 1) g) fun v5 => if a1 < v5 then (zJ_X11_row_39 x a1 1 g) else (zJ_X11_row_38 x a1 g)))
def zF_X10_chainSize (q0 : Nat) (g : mz_G) : Int :=
  zf_l (g q0 9) fun v1 => v1
def zF_X10_inChain (q0 : Nat) (a1 : Int) (g : mz_G) : Int :=
  zf_l (zF_X11_at (q0 + 8) 8 a1 g) fun v1 => v1
def zJ_X11_chain_39 (x : mm_X) (a1 : Int) (s0 : Int) (g : mz_G) : zf_T :=
  zf_mx (zF_X11_mustBe s0 g) g fun v2 g3 => zf_l (zF_X10_inChain (x.1 + 1) a1 g3) fun v4 => (0, v4, g3)
def zJ_X11_chain_38 (x : mm_X) (a1 : Int) (g : mz_G) : zf_T :=
  zJ_X11_chain_39 x a1 0 g
def zF_X11_chain (x : mm_X) (a1 : Int) (g : mz_G) : zf_T :=
  if a1 = (-1) then (zf_l (zF_X10_chainSize (x.1 + 1) g) fun v1 => (0, v1, g)) else (if a1 < 0 then (zJ_X11_chain_38 x a1 g) else (zf_l (zF_X10_chainSize (x.1 + 1) g) fun v5 => if a1 < v5 then (zJ_X11_chain_39 x a1 1 g) else (zJ_X11_chain_38 x a1 g)))
def zB_X11_toDraw_18 (x : mm_X) (a1 : Int) (a2 : Int) (rc : Int → mz_G → zf_T) (l3 : Int) (g : mz_G) : zf_T :=
  if l3 < 0 then ((0, (-1), g)) else (zf_l (zF_X11_growProbe x a1 l3 a2 g) fun g7 => zf_l (zF_X1_isFull x.1 122 g7) fun v8 => if v8 = 0 then (rc (l3 + (-1)) g7) else ((0, l3, g7)))
def zL_X11_toDraw_18 (x : mm_X) (a1 : Int) (a2 : Int) : Nat → Int → mz_G → zf_T
  | 0 => fun _ _ => default
  | k + 1 => zB_X11_toDraw_18 x a1 a2 (zL_X11_toDraw_18 x a1 a2 k)
theorem zL_X11_toDraw_18_s {x : mm_X} {a1 : Int} {a2 : Int} {k : Nat} {l3 : Int} {g : mz_G} : zL_X11_toDraw_18 x a1 a2 (k + 1) l3 g = zB_X11_toDraw_18 x a1 a2 (zL_X11_toDraw_18 x a1 a2 k) l3 g := rfl
def zF_X11_toDraw (x : mm_X) (a1 : Int) (a2 : Int) (g : mz_G) : zf_T :=
  zf_l (zF_X11_isTrunk x a1 g) fun v1 => zf_mx (zF_X11_mustBe v1 g) g fun v2 g3 => zf_l (zF_X11_isAhead a2 g3) fun v4 => zf_mx (zF_X11_mustFit v4 g3) g3 fun v5 g6 => zL_X11_toDraw_18 x a1 a2 3000000000 9 g6
def zF_X3_total (g : mz_G) : Int :=
  zf_l (g 118 3) fun v1 => v1
def zF_X11_couples (x : mm_X) (g : mz_G) : Int × mz_G :=
  zf_l (zF_X11_findCouples x g) fun g1 => zf_l (zF_X3_total g1) fun v2 => (v2, g1)
def zF_X6_addSeen (q0 : Nat) (a1 : Int) (a2 : Int) (a3 : Int) (g : mz_G) : mz_G :=
  zf_l (g q0 7) fun v1 => if v1 < 8 then (zf_l (g q0 7) fun v2 => zf_l (zF_X11_put (q0 + 11) 8 v2 a1 g) fun g3 => zf_l (g3 q0 7) fun v4 => zf_l (zF_X11_put (q0 + 12) 8 v4 a2 g3) fun g5 => zf_l (g5 q0 7) fun v6 => zf_l (zF_X11_put (q0 + 13) 8 v6 a3 g5) fun g7 => zf_l (g7 q0 7) fun v8 => zf_l (mz_up g7 q0 7 (v8 + 1)) fun g9 => g9) else (g)
def zJ_X11_see_52 (x : mm_X) (a1 : Int) (a2 : Int) (a3 : Int) (g : mz_G) : zf_T :=
  zf_m2 (zF_X6_refuse 86 2 g) fun v4 g5 => (0, v4, g5)
def zJ_X11_see_33 (x : mm_X) (a1 : Int) (a2 : Int) (a3 : Int) (s0 : Int) (g : mz_G) : zf_T :=
  if s0 = 0 then (zJ_X11_see_52 x a1 a2 a3 g) else (zf_l (zF_X6_seenSize 86 g) fun v6 => if v6 < 8 then (zf_l (zF_X6_addSeen 86 a1 a2 a3 g) fun g7 => zf_l (zF_X6_seenSize 86 g7) fun v8 => (0, v8, g7)) else (zJ_X11_see_52 x a1 a2 a3 g))
def zJ_X11_see_32 (x : mm_X) (a1 : Int) (a2 : Int) (a3 : Int) (g : mz_G) : zf_T :=
  zJ_X11_see_33 x a1 a2 a3 0 g
def zF_X11_see (x : mm_X) (a1 : Int) (a2 : Int) (a3 : Int) (g : mz_G) : zf_T :=
  zf_l (zF_X11_isTrunk x a1 g) fun v1 => zf_mx (zF_X11_mustBe v1 g) g fun v2 g3 => if a2 < 0 then (zJ_X11_see_32 x a1 a2 a3 g3) else (if (20 : Int) < a2 then (zJ_X11_see_32 x a1 a2 a3 g3) else (if a3 < 0 then (zJ_X11_see_32 x a1 a2 a3 g3) else (if (16 : Int) < a3 then (zJ_X11_see_32 x a1 a2 a3 g3) else (zJ_X11_see_33 x a1 a2 a3 1 g3))))
def zJ_X6_lastSeenDay_37 (q0 : Nat) (a1 : Int) (rc : Int → Int → Int) (l2 : Int) (l3 : Int) (g : mz_G) : Int :=
  rc l2 (l3 + 1)
def zB_X6_lastSeenDay_4 (q0 : Nat) (a1 : Int) (g : mz_G) (rc : Int → Int → Int) (l2 : Int) (l3 : Int) : Int :=
  zf_l (g q0 7) fun v1 => if l3 < v1 then (zf_l (zF_X11_at (q0 + 11) 8 l3 g) fun v2 => if v2 = a1 then (zf_l (zF_X11_at (q0 + 12) 8 l3 g) fun v3 => zf_l (max l2 v3) fun v4 => zJ_X6_lastSeenDay_37 q0 a1 rc v4 l3 g) else (zJ_X6_lastSeenDay_37 q0 a1 rc l2 l3 g)) else (l2)
def zL_X6_lastSeenDay_4 (q0 : Nat) (a1 : Int) (g : mz_G) : Nat → Int → Int → Int
  | 0 => fun _ _ => default
  | k + 1 => zB_X6_lastSeenDay_4 q0 a1 g (zL_X6_lastSeenDay_4 q0 a1 g k)
theorem zL_X6_lastSeenDay_4_s {q0 : Nat} {a1 : Int} {g : mz_G} {k : Nat} {l2 : Int} {l3 : Int} : zL_X6_lastSeenDay_4 q0 a1 g (k + 1) l2 l3 = zB_X6_lastSeenDay_4 q0 a1 g (zL_X6_lastSeenDay_4 q0 a1 g k) l2 l3 := rfl
def zF_X6_lastSeenDay (q0 : Nat) (a1 : Int) (g : mz_G) : Int :=
  zL_X6_lastSeenDay_4 q0 a1 g 3000000000 (-1) 0
def zJ_X6_agrees_65 (q0 : Nat) (a1 : Int) (a2 : Int) (a3 : Int) (rc : Int → Int) (l4 : Int) (g : mz_G) : Int :=
  rc (l4 + 1)
def zJ_X6_agrees_43 (q0 : Nat) (a1 : Int) (a2 : Int) (a3 : Int) (rc : Int → Int) (s0 : Int) (l4 : Int) (g : mz_G) : Int :=
  if s0 = 0 then (zJ_X6_agrees_65 q0 a1 a2 a3 rc l4 g) else (zf_l (zF_X11_at (q0 + 13) 8 l4 g) fun v4 => if v4 = a3 then (zJ_X6_agrees_65 q0 a1 a2 a3 rc l4 g) else (0))
def zJ_X6_agrees_42 (q0 : Nat) (a1 : Int) (a2 : Int) (a3 : Int) (rc : Int → Int) (l4 : Int) (g : mz_G) : Int :=
  zJ_X6_agrees_43 q0 a1 a2 a3 rc 0 l4 g
def zB_X6_agrees_3 (q0 : Nat) (a1 : Int) (a2 : Int) (a3 : Int) (g : mz_G) (rc : Int → Int) (l4 : Int) : Int :=
  zf_l (g q0 7) fun v1 => if l4 < v1 then (zf_l (zF_X11_at (q0 + 11) 8 l4 g) fun v2 => if v2 = a1 then (zf_l (zF_X11_at (q0 + 12) 8 l4 g) fun v3 => if v3 = a2 then (zJ_X6_agrees_43 q0 a1 a2 a3 rc 1 l4 g) else (zJ_X6_agrees_42 q0 a1 a2 a3 rc l4 g)) else (zJ_X6_agrees_42 q0 a1 a2 a3 rc l4 g)) else (1)
def zL_X6_agrees_3 (q0 : Nat) (a1 : Int) (a2 : Int) (a3 : Int) (g : mz_G) : Nat → Int → Int
  | 0 => fun _ => default
  | k + 1 => zB_X6_agrees_3 q0 a1 a2 a3 g (zL_X6_agrees_3 q0 a1 a2 a3 g k)
theorem zL_X6_agrees_3_s {q0 : Nat} {a1 : Int} {a2 : Int} {a3 : Int} {g : mz_G} {k : Nat} {l4 : Int} : zL_X6_agrees_3 q0 a1 a2 a3 g (k + 1) l4 = zB_X6_agrees_3 q0 a1 a2 a3 g (zL_X6_agrees_3 q0 a1 a2 a3 g k) l4 := rfl
def zF_X6_agrees (q0 : Nat) (a1 : Int) (a2 : Int) (a3 : Int) (g : mz_G) : Int :=
  zL_X6_agrees_3 q0 a1 a2 a3 g 3000000000 0
def zB_X11_fitsSeen_38 (x : mm_X) (a1 : Int) (a2 : Int) (rc : Int → Int → mz_G → (Int × mz_G)) (l3 : Int) (l4 : Int) (g : mz_G) : Int × mz_G :=
  if l3 < l4 then ((1, g)) else (zf_l (zF_X1_blendSize x.1 122 g) fun v5 => zf_l (zF_X6_agrees 86 a1 l4 v5 g) fun v6 => if v6 = 0 then ((0, g)) else (zf_l (zF_X11_growBy x 122 l4 g) fun g7 => rc l3 (l4 + 1) g7))
def zL_X11_fitsSeen_38 (x : mm_X) (a1 : Int) (a2 : Int) : Nat → Int → Int → mz_G → (Int × mz_G)
  | 0 => fun _ _ _ => default
  | k + 1 => zB_X11_fitsSeen_38 x a1 a2 (zL_X11_fitsSeen_38 x a1 a2 k)
theorem zL_X11_fitsSeen_38_s {x : mm_X} {a1 : Int} {a2 : Int} {k : Nat} {l3 : Int} {l4 : Int} {g : mz_G} : zL_X11_fitsSeen_38 x a1 a2 (k + 1) l3 l4 g = zB_X11_fitsSeen_38 x a1 a2 (zL_X11_fitsSeen_38 x a1 a2 k) l3 l4 g := rfl
def zF_X11_fitsSeen (x : mm_X) (a1 : Int) (a2 : Int) (g : mz_G) : Int × mz_G :=
  zf_l (zF_X6_lastSeenDay 86 a1 g) fun v1 => zf_l (zF_X9_get 87 a1 g) fun u2 => zf_l (zF_X8_becomeAs 122 u2 g) fun g3 => zf_l (mz_up g3 122 2 a2) fun g4 => zL_X11_fitsSeen_38 x a1 a2 3000000000 v1 0 g4
def zJ_X11_fittingTrunks_40 (x : mm_X) (rc : Int → Int → mz_G → (Int × mz_G)) (l1 : Int) (l2 : Int) (g : mz_G) : Int × mz_G :=
  rc l1 (l2 + 1) g
def zB_X11_fittingTrunks_4 (x : mm_X) (rc : Int → Int → mz_G → (Int × mz_G)) (l1 : Int) (l2 : Int) (g : mz_G) : Int × mz_G :=
  zf_l (zF_X11_trunkCount x g) fun v1 => if l2 < v1 then (zf_l (zF_X9_get 87 l2 g) fun u2 => zf_l (g u2 2) fun v3 => zf_m2 (zF_X11_fitsSeen x l2 v3 g) fun v4 g5 => if v4 = 0 then (zJ_X11_fittingTrunks_40 x rc l1 l2 g5) else (zf_l (mz_shlI 1 l2) fun v6 => zf_l (mz_orI l1 v6) fun v7 => zJ_X11_fittingTrunks_40 x rc v7 l2 g5)) else ((l1, g))
def zL_X11_fittingTrunks_4 (x : mm_X) : Nat → Int → Int → mz_G → (Int × mz_G)
  | 0 => fun _ _ _ => default
  | k + 1 => zB_X11_fittingTrunks_4 x (zL_X11_fittingTrunks_4 x k)
theorem zL_X11_fittingTrunks_4_s {x : mm_X} {k : Nat} {l1 : Int} {l2 : Int} {g : mz_G} : zL_X11_fittingTrunks_4 x (k + 1) l1 l2 g = zB_X11_fittingTrunks_4 x (zL_X11_fittingTrunks_4 x k) l1 l2 g := rfl
def zF_X11_fittingTrunks (x : mm_X) (g : mz_G) : Int × mz_G :=
  zL_X11_fittingTrunks_4 x 3000000000 0 0 g
def zF_X11_allTrunks (x : mm_X) (g : mz_G) : Int :=
  zf_l (zF_X11_trunkCount x g) fun v1 => zf_l (mz_shlI 1 v1) fun v2 => (v2 - 1)
def zJ_X11_looseStraps_62 (x : mm_X) (a1 : Int) (a2 : Int) (rc : Int → Int → mz_G → (Int × mz_G)) (l3 : Int) (l4 : Int) (g : mz_G) : Int × mz_G :=
  rc l3 (l4 + 1) g
def zB_X11_looseStraps_19 (x : mm_X) (a1 : Int) (a2 : Int) (rc : Int → Int → mz_G → (Int × mz_G)) (l3 : Int) (l4 : Int) (g : mz_G) : Int × mz_G :=
  if (9 : Int) < l4 then ((l3, g)) else (zf_l (zF_X9_get 87 a1 g) fun u4 => zf_l (g u4 2) fun v5 => if l4 = v5 then (zJ_X11_looseStraps_62 x a1 a2 rc l3 l4 g) else (zf_m2 (zF_X11_fitsSeen x a1 l4 g) fun v6 g7 => if v6 = 0 then (zJ_X11_looseStraps_62 x a1 a2 rc l3 l4 g7) else (zf_l (mz_shlI 1 l4) fun v8 => zf_l (mz_orI l3 v8) fun v9 => zJ_X11_looseStraps_62 x a1 a2 rc v9 l4 g7)))
def zL_X11_looseStraps_19 (x : mm_X) (a1 : Int) (a2 : Int) : Nat → Int → Int → mz_G → (Int × mz_G)
  | 0 => fun _ _ _ => default
  | k + 1 => zB_X11_looseStraps_19 x a1 a2 (zL_X11_looseStraps_19 x a1 a2 k)
theorem zL_X11_looseStraps_19_s {x : mm_X} {a1 : Int} {a2 : Int} {k : Nat} {l3 : Int} {l4 : Int} {g : mz_G} : zL_X11_looseStraps_19 x a1 a2 (k + 1) l3 l4 g = zB_X11_looseStraps_19 x a1 a2 (zL_X11_looseStraps_19 x a1 a2 k) l3 l4 g := rfl
def zF_X11_looseStraps (x : mm_X) (a1 : Int) (a2 : Int) (g : mz_G) : Int × mz_G :=
  zf_l (mz_shlI 1 a1) fun v1 => zf_l (mz_orI a2 v1) fun v2 => zf_l (zF_X11_allTrunks x g) fun v3 => if v2 = v3 then (zL_X11_looseStraps_19 x a1 a2 3000000000 0 0 g) else ((0, g))
def zJ_X11_loose_91 (x : mm_X) (a1 : Int) (rc : Int → Int → Int → Int → mz_G → zf_T) (l2 : Int) (l3 : Int) (l4 : Int) (l5 : Int) (l6 : Int) (g : mz_G) : zf_T :=
  zf_l (zF_J6_bitCount l6 g) fun v9 => zf_l (mz_wrap (l3 + v9)) fun v10 => rc l2 v10 l4 (l5 + 1) g
def zB_X11_loose_49 (x : mm_X) (a1 : Int) (rc : Int → Int → Int → Int → mz_G → zf_T) (l2 : Int) (l3 : Int) (l4 : Int) (l5 : Int) (g : mz_G) : zf_T :=
  zf_l (zF_X11_trunkCount x g) fun v6 => if l5 < v6 then (zf_m2 (zF_X11_looseStraps x l5 l2 g) fun v7 g8 => if v7 = 0 then (zJ_X11_loose_91 x a1 rc l2 l3 l4 l5 v7 g8) else (if l4 = (-1) then (zf_l (zF_X11_lowestBit v7 g8) fun v11 => zJ_X11_loose_91 x a1 rc l2 l3 ((10 * l5) + v11) l5 v7 g8) else (zJ_X11_loose_91 x a1 rc l2 l3 l4 l5 v7 g8))) else (if a1 = 0 then ((0, l3, g)) else ((0, l4, g)))
def zL_X11_loose_49 (x : mm_X) (a1 : Int) : Nat → Int → Int → Int → Int → mz_G → zf_T
  | 0 => fun _ _ _ _ _ => default
  | k + 1 => zB_X11_loose_49 x a1 (zL_X11_loose_49 x a1 k)
theorem zL_X11_loose_49_s {x : mm_X} {a1 : Int} {k : Nat} {l2 : Int} {l3 : Int} {l4 : Int} {l5 : Int} {g : mz_G} : zL_X11_loose_49 x a1 (k + 1) l2 l3 l4 l5 g = zB_X11_loose_49 x a1 (zL_X11_loose_49 x a1 k) l2 l3 l4 l5 g := rfl
def zJ_X11_loose_14 (x : mm_X) (a1 : Int) (s0 : Int) (g : mz_G) : zf_T :=
  zf_mx (zF_X11_mustBe s0 g) g fun v1 g2 => zf_m2 (zF_X11_fittingTrunks x g2) fun v3 g4 => if a1 = 2 then (zf_l (zF_X11_allTrunks x g4) fun v5 => if v3 = v5 then ((0, 1, g4)) else ((0, 0, g4))) else (zL_X11_loose_49 x a1 3000000000 v3 0 (-1) 0 g4)
def zJ_X11_loose_13 (x : mm_X) (a1 : Int) (g : mz_G) : zf_T :=
  zJ_X11_loose_14 x a1 0 g
def zF_X11_loose (x : mm_X) (a1 : Int) (g : mz_G) : zf_T :=
  if a1 < 0 then (zJ_X11_loose_13 x a1 g) else (if (2 : Int) < a1 then (zJ_X11_loose_13 x a1 g) else (zJ_X11_loose_14 x a1 1 g))
def zJ_X11_unlikeNumbers_72 (x : mm_X) (a1 : Int) (a2 : Int) (a3 : Int) (rc : Int → Int → Int → mz_G → (Int × mz_G)) (l4 : Int) (l5 : Int) (l6 : Int) (g : mz_G) : Int × mz_G :=
  rc l4 l5 (l6 + 1) g
def zJ_X11_unlikeNumbers_49 (x : mm_X) (a1 : Int) (a2 : Int) (a3 : Int) (rc : Int → Int → Int → mz_G → (Int × mz_G)) (l4 : Int) (l5 : Int) (l6 : Int) (g : mz_G) : Int × mz_G :=
  zf_l (zF_X11_growProbe x a1 l6 6 g) fun g5 => zf_l (g5 122 3) fun v6 => zf_l (mz_shlI 1 v6) fun v7 => zf_l (mz_orI l5 v7) fun v8 => zJ_X11_unlikeNumbers_72 x a1 a2 a3 rc l4 v8 l6 g5
def zB_X11_unlikeNumbers_22 (x : mm_X) (a1 : Int) (a2 : Int) (a3 : Int) (rc : Int → Int → Int → mz_G → (Int × mz_G)) (l4 : Int) (l5 : Int) (l6 : Int) (g : mz_G) : Int × mz_G :=
  if (9 : Int) < l6 then ((l5, g)) else (zf_l (mz_shlI 1 l6) fun v3 => zf_l (mz_andI a2 v3) fun v4 => if v4 = 0 then (if a3 = 0 then (zJ_X11_unlikeNumbers_72 x a1 a2 a3 rc l4 l5 l6 g) else (if l6 = l4 then (zJ_X11_unlikeNumbers_49 x a1 a2 a3 rc l4 l5 l6 g) else (zJ_X11_unlikeNumbers_72 x a1 a2 a3 rc l4 l5 l6 g))) else (zJ_X11_unlikeNumbers_49 x a1 a2 a3 rc l4 l5 l6 g))
def zL_X11_unlikeNumbers_22 (x : mm_X) (a1 : Int) (a2 : Int) (a3 : Int) : Nat → Int → Int → Int → mz_G → (Int × mz_G)
  | 0 => fun _ _ _ _ => default
  | k + 1 => zB_X11_unlikeNumbers_22 x a1 a2 a3 (zL_X11_unlikeNumbers_22 x a1 a2 a3 k)
theorem zL_X11_unlikeNumbers_22_s {x : mm_X} {a1 : Int} {a2 : Int} {a3 : Int} {k : Nat} {l4 : Int} {l5 : Int} {l6 : Int} {g : mz_G} : zL_X11_unlikeNumbers_22 x a1 a2 a3 (k + 1) l4 l5 l6 g = zB_X11_unlikeNumbers_22 x a1 a2 a3 (zL_X11_unlikeNumbers_22 x a1 a2 a3 k) l4 l5 l6 g := rfl
def zF_X11_unlikeNumbers (x : mm_X) (a1 : Int) (a2 : Int) (a3 : Int) (g : mz_G) : Int × mz_G :=
  zf_l (zF_X9_get 87 a1 g) fun u1 => zf_l (g u1 2) fun v2 => zL_X11_unlikeNumbers_22 x a1 a2 a3 3000000000 v2 0 0 g
def zJ_X11_look_128 (x : mm_X) (a1 : Int) (rc : Int → Int → Int → Int → Int → mz_G → zf_T) (l2 : Int) (l3 : Int) (l4 : Int) (l5 : Int) (l6 : Int) (g : mz_G) : zf_T :=
  rc l2 l3 l4 l5 (l6 + 1) g
def zJ_X11_look_96 (x : mm_X) (a1 : Int) (rc : Int → Int → Int → Int → Int → mz_G → zf_T) (s0 : Int) (l2 : Int) (l3 : Int) (l4 : Int) (l5 : Int) (l6 : Int) (l7 : Int) (g : mz_G) : zf_T :=
  zf_m2 (zF_X11_unlikeNumbers x l6 l7 s0 g) fun v14 g15 => zf_l (zF_J6_bitCount v14 g15) fun v16 => if l5 < v16 then (zJ_X11_look_128 x a1 rc l2 l3 l6 v16 l6 g15) else (zJ_X11_look_128 x a1 rc l2 l3 l4 l5 l6 g15)
def zB_X11_look_64 (x : mm_X) (a1 : Int) (rc : Int → Int → Int → Int → Int → mz_G → zf_T) (l2 : Int) (l3 : Int) (l4 : Int) (l5 : Int) (l6 : Int) (g : mz_G) : zf_T :=
  zf_l (zF_X11_trunkCount x g) fun v10 => if l6 < v10 then (zf_m2 (zF_X11_looseStraps x l6 l2 g) fun v11 g12 => zf_l (zF_J6_bitCount v11 g12) fun v13 => if v13 < l3 then (zJ_X11_look_96 x a1 rc 1 l2 l3 l4 l5 l6 v11 g12) else (zJ_X11_look_96 x a1 rc 0 l2 l3 l4 l5 l6 v11 g12)) else (if a1 = 0 then ((0, l4, g)) else ((0, l5, g)))
def zL_X11_look_64 (x : mm_X) (a1 : Int) : Nat → Int → Int → Int → Int → Int → mz_G → zf_T
  | 0 => fun _ _ _ _ _ _ => default
  | k + 1 => zB_X11_look_64 x a1 (zL_X11_look_64 x a1 k)
theorem zL_X11_look_64_s {x : mm_X} {a1 : Int} {k : Nat} {l2 : Int} {l3 : Int} {l4 : Int} {l5 : Int} {l6 : Int} {g : mz_G} : zL_X11_look_64 x a1 (k + 1) l2 l3 l4 l5 l6 g = zB_X11_look_64 x a1 (zL_X11_look_64 x a1 k) l2 l3 l4 l5 l6 g := rfl
def zB_X11_look_27 (x : mm_X) (a1 : Int) (rc : Int → Int → Int → mz_G → zf_T) (l2 : Int) (l3 : Int) (l4 : Int) (g : mz_G) : zf_T :=
  zf_l (zF_X11_trunkCount x g) fun v5 => if l4 < v5 then (zf_m2 (zF_X11_looseStraps x l4 l2 g) fun v6 g7 => zf_l (zF_J6_bitCount v6 g7) fun v8 => zf_l (mz_wrap (l3 + v8)) fun v9 => rc l2 v9 (l4 + 1) g7) else (zL_X11_look_64 x a1 3000000000 l2 l3 (-1) 0 0 g)
def zL_X11_look_27 (x : mm_X) (a1 : Int) : Nat → Int → Int → Int → mz_G → zf_T
  | 0 => fun _ _ _ _ => default
  | k + 1 => zB_X11_look_27 x a1 (zL_X11_look_27 x a1 k)
theorem zL_X11_look_27_s {x : mm_X} {a1 : Int} {k : Nat} {l2 : Int} {l3 : Int} {l4 : Int} {g : mz_G} : zL_X11_look_27 x a1 (k + 1) l2 l3 l4 g = zB_X11_look_27 x a1 (zL_X11_look_27 x a1 k) l2 l3 l4 g := rfl
def zJ_X11_look_14 (x : mm_X) (a1 : Int) (s0 : Int) (g : mz_G) : zf_T :=
  zf_mx (zF_X11_mustBe s0 g) g fun v1 g2 => zf_m2 (zF_X11_fittingTrunks x g2) fun v3 g4 => zL_X11_look_27 x a1 3000000000 v3 0 0 g4
def zJ_X11_look_9 (x : mm_X) (a1 : Int) (g : mz_G) : zf_T :=
  zJ_X11_look_14 x a1 1 g
def zF_X11_look (x : mm_X) (a1 : Int) (g : mz_G) : zf_T :=
  if a1 = 0 then (zJ_X11_look_9 x a1 g) else (if a1 = 1 then (zJ_X11_look_9 x a1 g) else (zJ_X11_look_14 x a1 0 g))
def zF_X6_forgetSeen (q0 : Nat) (g : mz_G) : mz_G :=
  zf_l (mz_up g q0 7 0) fun g1 => g1
def zF_X11_forget (x : mm_X) (g : mz_G) : mz_G :=
  zf_l (zF_X6_forgetSeen 86 g) fun g1 => g1
def zJ_X11_seasons_147 (x : mm_X) (a1 : Int) (a2 : Int) (a3 : Int) (rc : Int → Int → Int → Int → mz_G → (Int × mz_G)) (s0 : Int) (s1 : Int) (l4 : Int) (l5 : Int) (l7 : Int) (g : mz_G) : Int × mz_G :=
  zf_l (mz_wrap (s0 * s1)) fun v14 => rc l4 l5 v14 (l7 + 1) g
def zJ_X11_seasons_129 (x : mm_X) (a1 : Int) (a2 : Int) (a3 : Int) (rc : Int → Int → Int → Int → mz_G → (Int × mz_G)) (s2 : Int) (s3 : Int) (l4 : Int) (l5 : Int) (l6 : Int) (l7 : Int) (l8 : Int) (g : mz_G) : Int × mz_G :=
  zf_l (zF_X1_grow x.1 122 s2 s3 g) fun g13 => if l8 = 0 then (zJ_X11_seasons_147 x a1 a2 a3 rc l6 (10 - a3) l4 l5 l7 g13) else (zJ_X11_seasons_147 x a1 a2 a3 rc l6 a3 l4 l5 l7 g13)
def zJ_X11_seasons_95 (x : mm_X) (a1 : Int) (a2 : Int) (a3 : Int) (rc : Int → Int → Int → Int → mz_G → (Int × mz_G)) (s0 : Int) (l4 : Int) (l5 : Int) (l6 : Int) (l7 : Int) (g : mz_G) : Int × mz_G :=
  zf_l (g 87 3) fun v11 => zf_l (mz_wrap (v11 + l7)) fun v12 => if s0 = 0 then (zJ_X11_seasons_129 x a1 a2 a3 rc v12 0 l4 l5 l6 l7 s0 g) else (zJ_X11_seasons_129 x a1 a2 a3 rc v12 9 l4 l5 l6 l7 s0 g)
def zB_X11_seasons_74 (x : mm_X) (a1 : Int) (a2 : Int) (a3 : Int) (rc : Int → Int → Int → Int → mz_G → (Int × mz_G)) (l4 : Int) (l5 : Int) (l6 : Int) (l7 : Int) (g : mz_G) : Int × mz_G :=
  if l7 < a2 then (zf_l (mz_shlI 1 l7) fun v9 => zf_l (mz_andI l5 v9) fun v10 => if v10 = 0 then (zJ_X11_seasons_95 x a1 a2 a3 rc 0 l4 l5 l6 l7 g) else (zJ_X11_seasons_95 x a1 a2 a3 rc 1 l4 l5 l6 l7 g)) else ((l6, g))
def zL_X11_seasons_74 (x : mm_X) (a1 : Int) (a2 : Int) (a3 : Int) : Nat → Int → Int → Int → Int → mz_G → (Int × mz_G)
  | 0 => fun _ _ _ _ _ => default
  | k + 1 => zB_X11_seasons_74 x a1 a2 a3 (zL_X11_seasons_74 x a1 a2 a3 k)
theorem zL_X11_seasons_74_s {x : mm_X} {a1 : Int} {a2 : Int} {a3 : Int} {k : Nat} {l4 : Int} {l5 : Int} {l6 : Int} {l7 : Int} {g : mz_G} : zL_X11_seasons_74 x a1 a2 a3 (k + 1) l4 l5 l6 l7 g = zB_X11_seasons_74 x a1 a2 a3 (zL_X11_seasons_74 x a1 a2 a3 k) l4 l5 l6 l7 g := rfl
def zJ_X11_seasons_178 (x : mm_X) (a1 : Int) (a2 : Int) (a3 : Int) (rc : Int → Int → mz_G → zf_T) (s0 : Int) (s1 : Int) (l5 : Int) (g : mz_G) : zf_T :=
  zf_l (mz_wrap (s0 + s1)) fun v18 => rc v18 (l5 + 1) g
def zB_X11_seasons_42 (x : mm_X) (a1 : Int) (a2 : Int) (a3 : Int) (rc : Int → Int → mz_G → zf_T) (l4 : Int) (l5 : Int) (g : mz_G) : zf_T :=
  zf_l (mz_shlI 1 a2) fun v6 => if l5 < v6 then (zf_l (zF_X9_get 87 a1 g) fun u7 => zf_l (zF_X8_becomeAs 122 u7 g) fun g8 => zf_m2 (zL_X11_seasons_74 x a1 a2 a3 3000000000 l4 l5 1 0 g8) fun v15 g16 => zf_l (zF_X1_isFull x.1 122 g16) fun v17 => if v17 = 0 then (zJ_X11_seasons_178 x a1 a2 a3 rc l4 0 l5 g16) else (zJ_X11_seasons_178 x a1 a2 a3 rc l4 v15 l5 g16)) else ((0, l4, g))
def zL_X11_seasons_42 (x : mm_X) (a1 : Int) (a2 : Int) (a3 : Int) : Nat → Int → Int → mz_G → zf_T
  | 0 => fun _ _ _ => default
  | k + 1 => zB_X11_seasons_42 x a1 a2 a3 (zL_X11_seasons_42 x a1 a2 a3 k)
theorem zL_X11_seasons_42_s {x : mm_X} {a1 : Int} {a2 : Int} {a3 : Int} {k : Nat} {l4 : Int} {l5 : Int} {g : mz_G} : zL_X11_seasons_42 x a1 a2 a3 (k + 1) l4 l5 g = zB_X11_seasons_42 x a1 a2 a3 (zL_X11_seasons_42 x a1 a2 a3 k) l4 l5 g := rfl
def zJ_X11_seasons_33 (x : mm_X) (a1 : Int) (a2 : Int) (a3 : Int) (s0 : Int) (g : mz_G) : zf_T :=
  zf_mx (zF_X11_mustFit s0 g) g fun v4 g5 => zL_X11_seasons_42 x a1 a2 a3 3000000000 0 0 g5
def zJ_X11_seasons_32 (x : mm_X) (a1 : Int) (a2 : Int) (a3 : Int) (g : mz_G) : zf_T :=
  zJ_X11_seasons_33 x a1 a2 a3 0 g
def zF_X11_seasons (x : mm_X) (a1 : Int) (a2 : Int) (a3 : Int) (g : mz_G) : zf_T :=
  zf_l (zF_X11_isTrunk x a1 g) fun v1 => zf_mx (zF_X11_mustBe v1 g) g fun v2 g3 => if a2 < 1 then (zJ_X11_seasons_32 x a1 a2 a3 g3) else (if (5 : Int) < a2 then (zJ_X11_seasons_32 x a1 a2 a3 g3) else (if a3 < 0 then (zJ_X11_seasons_32 x a1 a2 a3 g3) else (if (10 : Int) < a3 then (zJ_X11_seasons_32 x a1 a2 a3 g3) else (zJ_X11_seasons_33 x a1 a2 a3 1 g3))))
def zJ_X11_ownGain_26 (x : mm_X) (a1 : Int) (a2 : Int) (s1 : Int) (s2 : Int) (g : mz_G) : Int × mz_G :=
  zf_l (zF_X11_growProbe x s1 s2 4 g) fun g1 => zf_l (zF_X1_blendSize x.1 122 g1) fun v2 => zf_l (mz_wrap (v2 - a2)) fun v3 => (v3, g1)
def zF_X11_ownGain (x : mm_X) (a1 : Int) (a2 : Int) (g : mz_G) : Int × mz_G :=
  if a2 = 1 then (zJ_X11_ownGain_26 x a1 a2 a1 9 g) else (zf_l (zF_X9_get 87 a1 g) fun u4 => zf_l (g u4 2) fun v5 => zJ_X11_ownGain_26 x a1 a2 a1 v5 g)
def zJ_X11_game_132 (x : mm_X) (a1 : Int) (a2 : Int) (a3 : Int) (rc : Int → Int → Int → Int → mz_G → (Int × Int × mz_G)) (l4 : Int) (l5 : Int) (l6 : Int) (l7 : Int) (g : mz_G) : Int × Int × mz_G :=
  rc l4 l5 l6 (l7 + 1) g
def zJ_X11_game_127 (x : mm_X) (a1 : Int) (a2 : Int) (a3 : Int) (rc : Int → Int → Int → Int → mz_G → (Int × Int × mz_G)) (s0 : Int) (l4 : Int) (l6 : Int) (l7 : Int) (g : mz_G) : Int × Int × mz_G :=
  zf_l (mz_wrap (l4 + 1)) fun v14 => zJ_X11_game_132 x a1 a2 a3 rc v14 s0 l6 l7 g
def zB_X11_game_64 (x : mm_X) (a1 : Int) (a2 : Int) (a3 : Int) (rc : Int → Int → Int → Int → mz_G → (Int × Int × mz_G)) (l4 : Int) (l5 : Int) (l6 : Int) (l7 : Int) (g : mz_G) : Int × Int × mz_G :=
  if (1 : Int) < l7 then ((l4, l5, g)) else (zf_m2 (zF_X11_ownGain x a1 l6 g) fun v6 g7 => zf_m2 (zF_X11_ownGain x a1 (1 - l6) g7) fun v8 g9 => if v6 < v8 then (zJ_X11_game_132 x a1 a2 a3 rc l4 l5 l6 l7 g9) else (zf_m2 (zF_X11_ownGain x a2 l7 g9) fun v10 g11 => zf_m2 (zF_X11_ownGain x a2 (1 - l7) g11) fun v12 g13 => if v10 < v12 then (zJ_X11_game_132 x a1 a2 a3 rc l4 l5 l6 l7 g13) else (if l5 = (-1) then (zJ_X11_game_127 x a1 a2 a3 rc ((10 * l6) + l7) l4 l6 l7 g13) else (zJ_X11_game_127 x a1 a2 a3 rc l5 l4 l6 l7 g13))))
def zL_X11_game_64 (x : mm_X) (a1 : Int) (a2 : Int) (a3 : Int) : Nat → Int → Int → Int → Int → mz_G → (Int × Int × mz_G)
  | 0 => fun _ _ _ _ _ => default
  | k + 1 => zB_X11_game_64 x a1 a2 a3 (zL_X11_game_64 x a1 a2 a3 k)
theorem zL_X11_game_64_s {x : mm_X} {a1 : Int} {a2 : Int} {a3 : Int} {k : Nat} {l4 : Int} {l5 : Int} {l6 : Int} {l7 : Int} {g : mz_G} : zL_X11_game_64 x a1 a2 a3 (k + 1) l4 l5 l6 l7 g = zB_X11_game_64 x a1 a2 a3 (zL_X11_game_64 x a1 a2 a3 k) l4 l5 l6 l7 g := rfl
def zB_X11_game_55 (x : mm_X) (a1 : Int) (a2 : Int) (a3 : Int) (rc : Int → Int → Int → mz_G → zf_T) (l4 : Int) (l5 : Int) (l6 : Int) (g : mz_G) : zf_T :=
  if (1 : Int) < l6 then (if a3 = 0 then ((0, l4, g)) else ((0, l5, g))) else (zf_m3 (zL_X11_game_64 x a1 a2 a3 3000000000 l4 l5 l6 0 g) fun v15 v16 g17 => rc v15 v16 (l6 + 1) g17)
def zL_X11_game_55 (x : mm_X) (a1 : Int) (a2 : Int) (a3 : Int) : Nat → Int → Int → Int → mz_G → zf_T
  | 0 => fun _ _ _ _ => default
  | k + 1 => zB_X11_game_55 x a1 a2 a3 (zL_X11_game_55 x a1 a2 a3 k)
theorem zL_X11_game_55_s {x : mm_X} {a1 : Int} {a2 : Int} {a3 : Int} {k : Nat} {l4 : Int} {l5 : Int} {l6 : Int} {g : mz_G} : zL_X11_game_55 x a1 a2 a3 (k + 1) l4 l5 l6 g = zB_X11_game_55 x a1 a2 a3 (zL_X11_game_55 x a1 a2 a3 k) l4 l5 l6 g := rfl
def zJ_X11_game_43 (x : mm_X) (a1 : Int) (a2 : Int) (a3 : Int) (s0 : Int) (g : mz_G) : zf_T :=
  zf_mx (zF_X11_mustFit s0 g) g fun v4 g5 => zL_X11_game_55 x a1 a2 a3 3000000000 0 (-1) 0 g5
def zJ_X11_game_30 (x : mm_X) (a1 : Int) (a2 : Int) (a3 : Int) (s0 : Int) (g : mz_G) : zf_T :=
  zf_mx (zF_X11_mustBe s0 g) g fun v2 g3 => if a1 = a2 then (zJ_X11_game_43 x a1 a2 a3 0 g3) else (zJ_X11_game_43 x a1 a2 a3 1 g3)
def zJ_X11_game_29 (x : mm_X) (a1 : Int) (a2 : Int) (a3 : Int) (g : mz_G) : zf_T :=
  zJ_X11_game_30 x a1 a2 a3 0 g
def zJ_X11_game_25 (x : mm_X) (a1 : Int) (a2 : Int) (a3 : Int) (g : mz_G) : zf_T :=
  zJ_X11_game_30 x a1 a2 a3 1 g
def zF_X11_game (x : mm_X) (a1 : Int) (a2 : Int) (a3 : Int) (g : mz_G) : zf_T :=
  zf_l (zF_X11_isTrunk x a1 g) fun v1 => if v1 = 0 then (zJ_X11_game_29 x a1 a2 a3 g) else (zf_l (zF_X11_isTrunk x a2 g) fun v18 => if v18 = 0 then (zJ_X11_game_29 x a1 a2 a3 g) else (if a3 = 0 then (zJ_X11_game_25 x a1 a2 a3 g) else (if a3 = 1 then (zJ_X11_game_25 x a1 a2 a3 g) else (zJ_X11_game_29 x a1 a2 a3 g))))
def zF_X11_drawOf (x : mm_X) (a1 : Int) (g : mz_G) : Int × mz_G :=
  zf_l (g 0 15) fun v1 => zf_l (mz_wrap (v1 * 1103515245)) fun v2 => zf_l (mz_wrap (v2 + 12345)) fun v3 => zf_l (mz_up g 0 15 v3) fun g4 => if (0 : Int) < a1 then (zf_l (g4 0 15) fun v5 => zf_l (mz_ushrI v5 16) fun v6 => zf_l (mz_andI v6 32767) fun v7 => zf_l (v7 % a1) fun v8 => (v8, g4)) else ((0, g4))
def zF_X11_drawAhead (x : mm_X) (g : mz_G) : mz_G :=
  zf_m2 (zF_X11_drawOf x 6 g) fun v1 g2 => zf_l (g2 124 2) fun v3 => if v3 = 0 then (g2) else (if (2 : Int) < v1 then (g2) else (zf_l (g2 124 2) fun v4 => zf_m2 (zF_X11_drawOf x v4 g2) fun v5 g6 => zf_l (zF_X9_get 124 v5 g6) fun u7 => if v1 = 0 then (zf_l (zF_X8_turnRound u7 g6) fun g8 => g8) else (if v1 = 1 then (zf_m2 (zF_X11_drawOf x 10 g6) fun v9 g10 => zf_l (mz_up g10 u7 2 v9) fun g11 => g11) else (zf_l (zF_X10_many (x.1 + 1) g6) fun v12 => zf_m2 (zF_X11_drawOf x v12 g6) fun v13 g14 => zf_m2 (zF_X11_drawOf x 2 g14) fun v15 g16 => zf_l (zF_X8_packIn u7 v15 v13 g16) fun g17 => g17))))
def zB_X11_years_49 (x : mm_X) (a1 : Int) (a2 : Int) (a3 : Int) (rc : Int → Int → mz_G → zf_T) (l4 : Int) (l5 : Int) (g : mz_G) : zf_T :=
  if l5 < a2 then (zf_l (zF_X11_drawAhead x g) fun g8 => zf_l (zF_X1_howManyFull x.1 124 g8) fun v9 => zf_l (zF_X1_passDay x.1 124 g8) fun g10 => zf_l (zF_X1_howManyFull x.1 124 g10) fun v11 => zf_l (mz_wrap (v11 - v9)) fun v12 => zf_l (mz_wrap (l4 + v12)) fun v13 => rc v13 (l5 + 1) g10) else (if a3 = 0 then ((0, l4, g)) else (if a3 = 1 then (zf_l (zF_X1_howManyFull x.1 124 g) fun v14 => (0, v14, g)) else (zf_l (zF_X1_lettersOfAll x.1 124 g) fun v15 => (0, v15, g))))
def zL_X11_years_49 (x : mm_X) (a1 : Int) (a2 : Int) (a3 : Int) : Nat → Int → Int → mz_G → zf_T
  | 0 => fun _ _ _ => default
  | k + 1 => zB_X11_years_49 x a1 a2 a3 (zL_X11_years_49 x a1 a2 a3 k)
theorem zL_X11_years_49_s {x : mm_X} {a1 : Int} {a2 : Int} {a3 : Int} {k : Nat} {l4 : Int} {l5 : Int} {g : mz_G} : zL_X11_years_49 x a1 a2 a3 (k + 1) l4 l5 g = zB_X11_years_49 x a1 a2 a3 (zL_X11_years_49 x a1 a2 a3 k) l4 l5 g := rfl
def zJ_X11_years_14 (x : mm_X) (a1 : Int) (a2 : Int) (a3 : Int) (s0 : Int) (g : mz_G) : zf_T :=
  zf_mx (zF_X11_mustBe s0 g) g fun v1 g2 => zf_l (zF_X11_isAhead a2 g2) fun v3 => zf_mx (zF_X11_mustFit v3 g2) g2 fun v4 g5 => zf_l (mz_up g5 0 15 a1) fun g6 => zf_l (zF_X9_copyAll 124 87 g6) fun g7 => zL_X11_years_49 x a1 a2 a3 3000000000 0 0 g7
def zJ_X11_years_13 (x : mm_X) (a1 : Int) (a2 : Int) (a3 : Int) (g : mz_G) : zf_T :=
  zJ_X11_years_14 x a1 a2 a3 0 g
def zF_X11_years (x : mm_X) (a1 : Int) (a2 : Int) (a3 : Int) (g : mz_G) : zf_T :=
  if a3 < 0 then (zJ_X11_years_13 x a1 a2 a3 g) else (if (2 : Int) < a3 then (zJ_X11_years_13 x a1 a2 a3 g) else (zJ_X11_years_14 x a1 a2 a3 1 g))
def zB_X11_copyRow_2 (q1 : Nat) (n_q1 : Nat) (q2 : Nat) (n_q2 : Nat) (rc : Int → mz_G → mz_G) (l2 : Int) (g : mz_G) : mz_G :=
  if l2 < (n_q1 : Int) then (if l2 < (n_q2 : Int) then (zf_l (g q1 (l2 : Int).toNat) fun v1 => zf_l (mz_up g q2 (l2 : Int).toNat v1) fun g2 => rc (l2 + 1) g2) else (g)) else (g)
def zL_X11_copyRow_2 (q1 : Nat) (n_q1 : Nat) (q2 : Nat) (n_q2 : Nat) : Nat → Int → mz_G → mz_G
  | 0 => fun _ _ => default
  | k + 1 => zB_X11_copyRow_2 q1 n_q1 q2 n_q2 (zL_X11_copyRow_2 q1 n_q1 q2 n_q2 k)
theorem zL_X11_copyRow_2_s {q1 : Nat} {n_q1 : Nat} {q2 : Nat} {n_q2 : Nat} {k : Nat} {l2 : Int} {g : mz_G} : zL_X11_copyRow_2 q1 n_q1 q2 n_q2 (k + 1) l2 g = zB_X11_copyRow_2 q1 n_q1 q2 n_q2 (zL_X11_copyRow_2 q1 n_q1 q2 n_q2 k) l2 g := rfl
def zF_X11_copyRow (q1 : Nat) (n_q1 : Nat) (q2 : Nat) (n_q2 : Nat) (g : mz_G) : mz_G :=
  zL_X11_copyRow_2 q1 n_q1 q2 n_q2 3000000000 0 g
def zF_X6_takeOver (q0 : Nat) (q1 : Nat) (g : mz_G) : mz_G :=
  zf_l (zF_X9_copyAll (q0 + 1) (q1 + 1) g) fun g1 => zf_l (zF_X11_copyRow (q1 + 10) 1000 (q0 + 10) 1000 g1) fun g2 => zf_l (g2 q1 2) fun v3 => zf_l (mz_up g2 q0 2 v3) fun g4 => zf_l (g4 q1 3) fun v5 => zf_l (mz_up g4 q0 3 v5) fun g6 => zf_l (zF_X11_copyRow (q1 + 11) 8 (q0 + 11) 8 g6) fun g7 => zf_l (zF_X11_copyRow (q1 + 12) 8 (q0 + 12) 8 g7) fun g8 => zf_l (zF_X11_copyRow (q1 + 13) 8 (q0 + 13) 8 g8) fun g9 => zf_l (g9 q1 7) fun v10 => zf_l (mz_up g9 q0 7 v10) fun g11 => zf_l (zF_X11_copyRow (q1 + 14) 3 (q0 + 14) 3 g11) fun g12 => g12
def zF_X11_image (x : mm_X) (g : mz_G) : mz_G :=
  zf_l (zF_X6_takeOver 101 86 g) fun g1 => zf_l (mz_up g1 0 7 1) fun g2 => g2
def zJ_X11_restore_18 (x : mm_X) (g : mz_G) : Int × mz_G :=
  zf_l (g 0 7) fun v2 => (v2, g)
def zF_X11_restore (x : mm_X) (g : mz_G) : Int × mz_G :=
  zf_l (g 0 7) fun v1 => if v1 = 0 then (zJ_X11_restore_18 x g) else (zf_l (zF_X6_takeOver 86 101 g) fun g3 => zJ_X11_restore_18 x g3)
def zF_X12_thrown (g : mz_G) : Int :=
  zf_l (g 137 2) fun v1 => v1
def zF_X12_fail (a1 : Int) (g : mz_G) : Int × mz_G :=
  zf_l (mz_up g 137 2 a1) fun g1 => (0, g1)
def zJ_X12_isIn_17 (a1 : Int) (a2 : Int) (a3 : Int) (g : mz_G) : Int :=
  0
def zF_X12_isIn (a1 : Int) (a2 : Int) (a3 : Int) (g : mz_G) : Int :=
  if a1 < a2 then (zJ_X12_isIn_17 a1 a2 a3 g) else (if a3 < a1 then (zJ_X12_isIn_17 a1 a2 a3 g) else (1))
def zF_X12_isOf (a1 : Int) (a2 : Int) (g : mz_G) : Int :=
  zf_l (mz_shrI a1 a2) fun v1 => zf_l (mz_andI v1 1) fun v2 => if v2 = 1 then (1) else (0)
def zB_X12_bitsOf_4 (a1 : Int) (g : mz_G) (rc : Int → Int → Int) (l1 : Int) (l2 : Int) : Int :=
  if l2 = 0 then (l1) else (zf_l (mz_wrap (l1 + 1)) fun v1 => zf_l (mz_andI l2 (l2 - 1)) fun v2 => rc v1 v2)
def zL_X12_bitsOf_4 (a1 : Int) (g : mz_G) : Nat → Int → Int → Int
  | 0 => fun _ _ => default
  | k + 1 => zB_X12_bitsOf_4 a1 g (zL_X12_bitsOf_4 a1 g k)
theorem zL_X12_bitsOf_4_s {a1 : Int} {g : mz_G} {k : Nat} {l1 : Int} {l2 : Int} : zL_X12_bitsOf_4 a1 g (k + 1) l1 l2 = zB_X12_bitsOf_4 a1 g (zL_X12_bitsOf_4 a1 g k) l1 l2 := rfl
def zF_X12_bitsOf (a1 : Int) (g : mz_G) : Int :=
  zL_X12_bitsOf_4 a1 g 3000000000 0 a1
def zF_X12_isWord (a1 : Int) (g : mz_G) : Int :=
  zf_l (g 140 0) fun v1 => zf_l (zF_X12_isIn a1 0 (v1 - 1) g) fun v2 => v2
def zF_X12_isTrunk (a1 : Int) (g : mz_G) : Int :=
  zf_l (g 140 1) fun v1 => zf_l (zF_X12_isIn a1 0 (v1 - 1) g) fun v2 => v2
def zJ_X12_feed_76 (a1 : Int) (a2 : Int) (a3 : Int) (a4 : Int) (a5 : Int) (rc : Int → mz_G → (Int × mz_G)) (s0 : Int) (l6 : Int) (g : mz_G) : Int × mz_G :=
  zf_l (g 137 15) fun v3 => zf_l (l6 % 4) fun v4 => zf_l (mz_shrI s0 (24 - (8 * v4))) fun v5 => zf_l (mz_andI v5 255) fun v6 => zf_l (mz_up g 151 (v3 : Int).toNat v6) fun g7 => zf_l (g7 137 15) fun v8 => zf_l (mz_up g7 137 15 (v8 + 1)) fun g9 => rc (l6 + 1) g9
def zB_X12_feed_23 (a1 : Int) (a2 : Int) (a3 : Int) (a4 : Int) (a5 : Int) (rc : Int → mz_G → (Int × mz_G)) (l6 : Int) (g : mz_G) : Int × mz_G :=
  if l6 < 20 then (if l6 < 4 then (zJ_X12_feed_76 a1 a2 a3 a4 a5 rc a1 l6 g) else (if l6 < 8 then (zJ_X12_feed_76 a1 a2 a3 a4 a5 rc a2 l6 g) else (if l6 < 12 then (zJ_X12_feed_76 a1 a2 a3 a4 a5 rc a3 l6 g) else (if l6 < 16 then (zJ_X12_feed_76 a1 a2 a3 a4 a5 rc a4 l6 g) else (zJ_X12_feed_76 a1 a2 a3 a4 a5 rc a5 l6 g))))) else (zf_l (g 137 15) fun v10 => (v10, g))
def zL_X12_feed_23 (a1 : Int) (a2 : Int) (a3 : Int) (a4 : Int) (a5 : Int) : Nat → Int → mz_G → (Int × mz_G)
  | 0 => fun _ _ => default
  | k + 1 => zB_X12_feed_23 a1 a2 a3 a4 a5 (zL_X12_feed_23 a1 a2 a3 a4 a5 k)
theorem zL_X12_feed_23_s {a1 : Int} {a2 : Int} {a3 : Int} {a4 : Int} {a5 : Int} {k : Nat} {l6 : Int} {g : mz_G} : zL_X12_feed_23 a1 a2 a3 a4 a5 (k + 1) l6 g = zB_X12_feed_23 a1 a2 a3 a4 a5 (zL_X12_feed_23 a1 a2 a3 a4 a5 k) l6 g := rfl
def zF_X12_feed (a1 : Int) (a2 : Int) (a3 : Int) (a4 : Int) (a5 : Int) (g : mz_G) : Int × mz_G :=
  zf_l (mz_up g 137 2 0) fun g1 => zf_l (g1 137 15) fun v2 => if (700 : Int) < (v2 + 20) then (((-1), g1)) else (zL_X12_feed_23 a1 a2 a3 a4 a5 3000000000 0 g1)
def zF_X12_byteAt (a1 : Int) (g : mz_G) : Int :=
  zf_l (g 137 17) fun v1 => if a1 < v1 then (zf_l (g 151 (a1 : Int).toNat) fun v2 => v2) else ((-1))
def zJ_X12_isLetter_16 (a1 : Int) (g : mz_G) : Int :=
  0
def zF_X12_isLetter (a1 : Int) (g : mz_G) : Int :=
  if a1 < 97 then (zJ_X12_isLetter_16 a1 g) else (if (122 : Int) < a1 then (zJ_X12_isLetter_16 a1 g) else (1))
def zJ_X12_isDigit_16 (a1 : Int) (g : mz_G) : Int :=
  0
def zF_X12_isDigit (a1 : Int) (g : mz_G) : Int :=
  if a1 < 48 then (zJ_X12_isDigit_16 a1 g) else (if (57 : Int) < a1 then (zJ_X12_isDigit_16 a1 g) else (1))
def zJ_X12_isMark_54 (a1 : Int) (g : mz_G) : Int :=
  1
def zF_X12_isMark (a1 : Int) (g : mz_G) : Int :=
  if a1 = 59 then (zJ_X12_isMark_54 a1 g) else (if a1 = 40 then (zJ_X12_isMark_54 a1 g) else (if a1 = 41 then (zJ_X12_isMark_54 a1 g) else (if a1 = 43 then (zJ_X12_isMark_54 a1 g) else (if a1 = 45 then (zJ_X12_isMark_54 a1 g) else (if a1 = 42 then (zJ_X12_isMark_54 a1 g) else (if a1 = 47 then (zJ_X12_isMark_54 a1 g) else (if a1 = 60 then (zJ_X12_isMark_54 a1 g) else (if a1 = 61 then (zJ_X12_isMark_54 a1 g) else (0)))))))))
def zJ_X12_stepOn_26 (rc : mz_G → mz_G) (g : mz_G) : mz_G :=
  zf_l (g 137 16) fun v3 => zf_l (mz_up g 137 16 (v3 + 1)) fun g4 => rc g4
def zJ_X12_stepOn_212 (g : mz_G) : mz_G :=
  zf_l (g 137 16) fun v12 => zf_l (mz_up g 137 21 v12) fun g13 => g13
def zJ_X12_stepOn_209 (s1 : Int) (g : mz_G) : mz_G :=
  zf_l (mz_up g 137 18 s1) fun g19 => zJ_X12_stepOn_212 g19
def zB_X12_stepOn_123 (rc : mz_G → mz_G) (g : mz_G) : mz_G :=
  zf_l (g 137 16) fun v21 => zf_l (zF_X12_byteAt v21 g) fun v22 => zf_l (zF_X12_isDigit v22 g) fun v23 => if v23 = 0 then (zf_l (mz_up g 137 18 2) fun g24 => zJ_X12_stepOn_212 g24) else (zf_l (g 137 19) fun v25 => zf_l (mz_wrap (10 * v25)) fun v26 => zf_l (g 137 16) fun v27 => zf_l (zF_X12_byteAt v27 g) fun v28 => zf_l (mz_wrap (v26 + v28)) fun v29 => zf_l (mz_wrap (v29 - 48)) fun v30 => zf_l (min 100000 v30) fun v31 => zf_l (mz_up g 137 19 v31) fun g32 => zf_l (g32 137 16) fun v33 => zf_l (mz_up g32 137 16 (v33 + 1)) fun g34 => rc g34)
def zL_X12_stepOn_123 : Nat → mz_G → mz_G
  | 0 => fun _ => default
  | k + 1 => zB_X12_stepOn_123 (zL_X12_stepOn_123 k)
theorem zL_X12_stepOn_123_s {k : Nat} {g : mz_G} : zL_X12_stepOn_123 (k + 1) g = zB_X12_stepOn_123 (zL_X12_stepOn_123 k) g := rfl
def zB_X12_stepOn_76 (rc : mz_G → mz_G) (g : mz_G) : mz_G :=
  zf_l (g 137 16) fun v35 => zf_l (zF_X12_byteAt v35 g) fun v36 => zf_l (zF_X12_isLetter v36 g) fun v37 => if v37 = 0 then (zf_l (mz_up g 137 18 1) fun g38 => zJ_X12_stepOn_212 g38) else (zf_l (g 137 16) fun v39 => zf_l (mz_up g 137 16 (v39 + 1)) fun g40 => rc g40)
def zL_X12_stepOn_76 : Nat → mz_G → mz_G
  | 0 => fun _ => default
  | k + 1 => zB_X12_stepOn_76 (zL_X12_stepOn_76 k)
theorem zL_X12_stepOn_76_s {k : Nat} {g : mz_G} : zL_X12_stepOn_76 (k + 1) g = zB_X12_stepOn_76 (zL_X12_stepOn_76 k) g := rfl
def zB_X12_stepOn_0 (rc : mz_G → mz_G) (g : mz_G) : mz_G :=
  zf_l (g 137 16) fun v1 => zf_l (zF_X12_byteAt v1 g) fun v2 => if v2 = 32 then (zJ_X12_stepOn_26 rc g) else (zf_l (g 137 16) fun v5 => zf_l (zF_X12_byteAt v5 g) fun v6 => if v6 = 10 then (zJ_X12_stepOn_26 rc g) else (zf_l (g 137 16) fun v7 => zf_l (mz_up g 137 20 v7) fun g8 => zf_l (g8 137 16) fun v9 => zf_l (zF_X12_byteAt v9 g8) fun v10 => if v10 = (-1) then (zf_l (mz_up g8 137 18 0) fun g11 => zJ_X12_stepOn_212 g11) else (zf_l (zF_X12_isLetter v10 g8) fun v14 => if v14 = 0 then (zf_l (zF_X12_isDigit v10 g8) fun v15 => if v15 = 0 then (zf_l (g8 137 16) fun v16 => zf_l (mz_up g8 137 16 (v16 + 1)) fun g17 => zf_l (zF_X12_isMark v10 g17) fun v18 => if v18 = 0 then (zJ_X12_stepOn_209 4 g17) else (zJ_X12_stepOn_209 3 g17)) else (zf_l (mz_up g8 137 19 0) fun g20 => zL_X12_stepOn_123 3000000000 g20)) else (zL_X12_stepOn_76 3000000000 g8))))
def zL_X12_stepOn_0 : Nat → mz_G → mz_G
  | 0 => fun _ => default
  | k + 1 => zB_X12_stepOn_0 (zL_X12_stepOn_0 k)
theorem zL_X12_stepOn_0_s {k : Nat} {g : mz_G} : zL_X12_stepOn_0 (k + 1) g = zB_X12_stepOn_0 (zL_X12_stepOn_0 k) g := rfl
def zF_X12_stepOn (g : mz_G) : mz_G :=
  zL_X12_stepOn_0 3000000000 g
def zF_X12_wrong (a1 : Int) (g : mz_G) : mz_G :=
  zf_l (g 137 22) fun v1 => if v1 = 0 then (zf_l (mz_up g 137 22 a1) fun g2 => zf_l (g2 137 20) fun v3 => zf_l (mz_up g2 137 23 v3) fun g4 => g4) else (g)
def zJ_X12_is_82 (q1 : Nat) (l2 : Int) (g : mz_G) : Int :=
  l2
def zJ_X12_is_75 (q1 : Nat) (rc : Int → Int → Int) (s0 : Int) (l3 : Int) (g : mz_G) : Int :=
  rc s0 (l3 + 1)
def zB_X12_is_39 (q1 : Nat) (g : mz_G) (rc : Int → Int → Int) (l2 : Int) (l3 : Int) : Int :=
  if l2 = 0 then (zJ_X12_is_82 q1 l2 g) else (zf_l (zF_J0_length q1 g) fun v6 => if l3 < v6 then (zf_l (zF_J0_charAt q1 l3 g) fun v7 => zf_l (g 137 20) fun v8 => zf_l (g 151 ((v8 + l3) : Int).toNat) fun v9 => if v7 = v9 then (zJ_X12_is_75 q1 rc 1 l3 g) else (zJ_X12_is_75 q1 rc 0 l3 g)) else (zJ_X12_is_82 q1 l2 g))
def zL_X12_is_39 (q1 : Nat) (g : mz_G) : Nat → Int → Int → Int
  | 0 => fun _ _ => default
  | k + 1 => zB_X12_is_39 q1 g (zL_X12_is_39 q1 g k)
theorem zL_X12_is_39_s {q1 : Nat} {g : mz_G} {k : Nat} {l2 : Int} {l3 : Int} : zL_X12_is_39 q1 g (k + 1) l2 l3 = zB_X12_is_39 q1 g (zL_X12_is_39 q1 g k) l2 l3 := rfl
def zJ_X12_is_36 (q1 : Nat) (s0 : Int) (g : mz_G) : Int :=
  zL_X12_is_39 q1 g 3000000000 s0 0
def zJ_X12_is_35 (q1 : Nat) (g : mz_G) : Int :=
  zJ_X12_is_36 q1 0 g
def zF_X12_is (q1 : Nat) (g : mz_G) : Int :=
  zf_l (g 137 22) fun v1 => if v1 = 0 then (zf_l (g 137 18) fun v2 => if v2 = 1 then (zf_l (zF_J0_length q1 g) fun v3 => zf_l (g 137 21) fun v4 => zf_l (g 137 20) fun v5 => if v3 = (v4 - v5) then (zJ_X12_is_36 q1 1 g) else (zJ_X12_is_35 q1 g)) else (zJ_X12_is_35 q1 g)) else (zJ_X12_is_35 q1 g)
def zB_X12_which_2 (q1 : Nat) (n_q1 : Nat) (g : mz_G) (rc : Int → Int) (l2 : Int) : Int :=
  if l2 < (n_q1 : Int) then (zf_l (sa_i q1 + (l2 : Int).toNat) fun u1 => zf_l (zF_X12_is u1 g) fun v2 => if v2 = 0 then (rc (l2 + 1)) else (l2)) else ((-1))
def zL_X12_which_2 (q1 : Nat) (n_q1 : Nat) (g : mz_G) : Nat → Int → Int
  | 0 => fun _ => default
  | k + 1 => zB_X12_which_2 q1 n_q1 g (zL_X12_which_2 q1 n_q1 g k)
theorem zL_X12_which_2_s {q1 : Nat} {n_q1 : Nat} {g : mz_G} {k : Nat} {l2 : Int} : zL_X12_which_2 q1 n_q1 g (k + 1) l2 = zB_X12_which_2 q1 n_q1 g (zL_X12_which_2 q1 n_q1 g k) l2 := rfl
def zF_X12_which (q1 : Nat) (n_q1 : Nat) (g : mz_G) : Int :=
  zL_X12_which_2 q1 n_q1 g 3000000000 0
def zJ_X12_isMarked_32 (a1 : Int) (g : mz_G) : Int :=
  0
def zF_X12_isMarked (a1 : Int) (g : mz_G) : Int :=
  zf_l (g 137 22) fun v1 => if v1 = 0 then (zf_l (g 137 18) fun v2 => if v2 = 3 then (zf_l (g 137 20) fun v3 => zf_l (g 151 (v3 : Int).toNat) fun v4 => if v4 = a1 then (1) else (zJ_X12_isMarked_32 a1 g)) else (zJ_X12_isMarked_32 a1 g)) else (zJ_X12_isMarked_32 a1 g)
def zJ_X12_mark_20 (a1 : Int) (g : mz_G) : mz_G :=
  zf_l (g 137 22) fun v4 => if v4 = 0 then (zf_l (zF_X12_stepOn g) fun g5 => g5) else (g)
def zF_X12_mark (a1 : Int) (g : mz_G) : mz_G :=
  zf_l (g 137 22) fun v1 => if v1 = 0 then (zf_l (zF_X12_isMarked a1 g) fun v2 => if v2 = 0 then (zf_l (zF_X12_wrong 1 g) fun g3 => zJ_X12_mark_20 a1 g3) else (zJ_X12_mark_20 a1 g)) else (zJ_X12_mark_20 a1 g)
def zJ_X12_numberNow_59 (a1 : Int) (a2 : Int) (g : mz_G) : Int × mz_G :=
  zf_l (g 137 22) fun v6 => if v6 = 0 then (zf_l (g 137 19) fun v7 => (v7, g)) else ((0, g))
def zJ_X12_numberNow_54 (a1 : Int) (a2 : Int) (g : mz_G) : Int × mz_G :=
  zf_l (zF_X12_wrong 2 g) fun g5 => zJ_X12_numberNow_59 a1 a2 g5
def zF_X12_numberNow (a1 : Int) (a2 : Int) (g : mz_G) : Int × mz_G :=
  zf_l (g 137 22) fun v1 => if v1 = 0 then (zf_l (g 137 18) fun v2 => if v2 = 2 then (zf_l (g 137 21) fun v3 => zf_l (g 137 20) fun v4 => if (4 : Int) < (v3 - v4) then (zJ_X12_numberNow_54 a1 a2 g) else (zf_l (g 137 19) fun v8 => if v8 < a1 then (zJ_X12_numberNow_54 a1 a2 g) else (zf_l (g 137 19) fun v9 => if a2 < v9 then (zJ_X12_numberNow_54 a1 a2 g) else (zJ_X12_numberNow_59 a1 a2 g)))) else (zf_l (zF_X12_wrong 1 g) fun g10 => zJ_X12_numberNow_59 a1 a2 g10)) else ((0, g))
def zJ_X12_readNumber_18 (a1 : Int) (a2 : Int) (l3 : Int) (g : mz_G) : Int × mz_G :=
  (l3, g)
def zF_X12_readNumber (a1 : Int) (a2 : Int) (g : mz_G) : Int × mz_G :=
  zf_m2 (zF_X12_numberNow a1 a2 g) fun v1 g2 => zf_l (g2 137 22) fun v3 => if v3 = 0 then (zf_l (zF_X12_stepOn g2) fun g4 => zJ_X12_readNumber_18 a1 a2 v1 g4) else (zJ_X12_readNumber_18 a1 a2 v1 g2)
def zF_X12_lay (a1 : Int) (g : mz_G) : mz_G :=
  zf_l (g 137 22) fun v1 => if v1 = 0 then (zf_l (g 140 7) fun v2 => zf_l (mz_up g 149 ((700 + v2) : Int).toNat a1) fun g3 => zf_l (g3 140 7) fun v4 => zf_l (mz_up g3 140 (7 : Int).toNat (v4 + 1)) fun g5 => g5) else (g)
def zJ_X12_another_17 (a1 : Int) (a2 : Int) (g : mz_G) : Int × mz_G :=
  zf_l (g 137 22) fun v3 => if v3 = 0 then (zf_l (zF_X12_stepOn g) fun g4 => (1, g4)) else ((0, g))
def zF_X12_another (a1 : Int) (a2 : Int) (g : mz_G) : Int × mz_G :=
  zf_l (g 140 ((4 + a1) : Int).toNat) fun v1 => if v1 = a2 then (zf_l (zF_X12_wrong 2 g) fun g2 => zJ_X12_another_17 a1 a2 g2) else (zJ_X12_another_17 a1 a2 g)
def zJ_X12_isToldAhead_84 (a1 : Int) (rc : Int → Int → Int → Int) (s0 : Int) (l2 : Int) (l4 : Int) (g : mz_G) : Int :=
  rc l2 s0 (l4 + 1)
def zB_X12_isToldAhead_34 (a1 : Int) (g : mz_G) (rc : Int → Int → Int → Int) (l2 : Int) (l3 : Int) (l4 : Int) : Int :=
  if l4 < a1 then (if l3 = 0 then (l3) else (zf_l (g 141 (((8 * (8 + l2)) + l4) : Int).toNat) fun v3 => zf_l (g 137 20) fun v4 => zf_l (g 151 ((v4 + l4) : Int).toNat) fun v5 => if v3 = ((v5 - 97) + 1) then (zJ_X12_isToldAhead_84 a1 rc 1 l2 l4 g) else (zJ_X12_isToldAhead_84 a1 rc 0 l2 l4 g))) else (l3)
def zL_X12_isToldAhead_34 (a1 : Int) (g : mz_G) : Nat → Int → Int → Int → Int
  | 0 => fun _ _ _ => default
  | k + 1 => zB_X12_isToldAhead_34 a1 g (zL_X12_isToldAhead_34 a1 g k)
theorem zL_X12_isToldAhead_34_s {a1 : Int} {g : mz_G} {k : Nat} {l2 : Int} {l3 : Int} {l4 : Int} : zL_X12_isToldAhead_34 a1 g (k + 1) l2 l3 l4 = zB_X12_isToldAhead_34 a1 g (zL_X12_isToldAhead_34 a1 g k) l2 l3 l4 := rfl
def zJ_X12_isToldAhead_91 (a1 : Int) (rc : Int → Int) (l2 : Int) (l3 : Int) (g : mz_G) : Int :=
  if l3 = 0 then (rc (l2 + 1)) else (1)
def zJ_X12_isToldAhead_30 (a1 : Int) (rc : Int → Int) (s0 : Int) (l2 : Int) (g : mz_G) : Int :=
  zf_l (zL_X12_isToldAhead_34 a1 g 3000000000 l2 s0 0) fun v6 => zJ_X12_isToldAhead_91 a1 rc l2 v6 g
def zB_X12_isToldAhead_2 (a1 : Int) (g : mz_G) (rc : Int → Int) (l2 : Int) : Int :=
  zf_l (g 140 4) fun v1 => if l2 < v1 then (zf_l (g 142 ((8 + l2) : Int).toNat) fun v2 => if v2 = a1 then (zJ_X12_isToldAhead_30 a1 rc 1 l2 g) else (zJ_X12_isToldAhead_30 a1 rc 0 l2 g)) else (0)
def zL_X12_isToldAhead_2 (a1 : Int) (g : mz_G) : Nat → Int → Int
  | 0 => fun _ => default
  | k + 1 => zB_X12_isToldAhead_2 a1 g (zL_X12_isToldAhead_2 a1 g k)
theorem zL_X12_isToldAhead_2_s {a1 : Int} {g : mz_G} {k : Nat} {l2 : Int} : zL_X12_isToldAhead_2 a1 g (k + 1) l2 = zB_X12_isToldAhead_2 a1 g (zL_X12_isToldAhead_2 a1 g k) l2 := rfl
def zF_X12_isToldAhead (a1 : Int) (g : mz_G) : Int :=
  zL_X12_isToldAhead_2 a1 g 3000000000 0
def zJ_X12_readWhich_42 (l1 : Int) (g : mz_G) : Int × mz_G :=
  (l1, g)
def zJ_X12_readWhich_31 (l1 : Int) (g : mz_G) : Int × mz_G :=
  zf_l (g 137 22) fun v5 => if v5 = 0 then (zf_l (zF_X12_stepOn g) fun g6 => zJ_X12_readWhich_42 l1 g6) else (zJ_X12_readWhich_42 l1 g)
def zF_X12_readWhich (g : mz_G) : Int × mz_G :=
  zf_m2 (zF_X12_numberNow 0 9999 g) fun v1 g2 => zf_l (g2 137 22) fun v3 => if v3 = 0 then (zf_l (g2 140 4) fun v4 => if v1 < v4 then (zJ_X12_readWhich_31 v1 g2) else (zf_l (zF_X12_wrong 3 g2) fun g7 => zJ_X12_readWhich_31 v1 g7)) else (zJ_X12_readWhich_31 v1 g2)
def zB_X12_takeHalf_2 (q1 : Nat) (n_q1 : Nat) (rc : Int → mz_G → mz_G) (l1 : Int) (g : mz_G) : mz_G :=
  zf_l ((n_q1 : Int) / 2) fun v1 => if l1 < v1 then (zf_l ((n_q1 : Int) / 2) fun v2 => zf_l (g q1 ((v2 + l1) : Int).toNat) fun v3 => zf_l (mz_up g q1 (l1 : Int).toNat v3) fun g4 => rc (l1 + 1) g4) else (g)
def zL_X12_takeHalf_2 (q1 : Nat) (n_q1 : Nat) : Nat → Int → mz_G → mz_G
  | 0 => fun _ _ => default
  | k + 1 => zB_X12_takeHalf_2 q1 n_q1 (zL_X12_takeHalf_2 q1 n_q1 k)
theorem zL_X12_takeHalf_2_s {q1 : Nat} {n_q1 : Nat} {k : Nat} {l1 : Int} {g : mz_G} : zL_X12_takeHalf_2 q1 n_q1 (k + 1) l1 g = zB_X12_takeHalf_2 q1 n_q1 (zL_X12_takeHalf_2 q1 n_q1 k) l1 g := rfl
def zF_X12_takeHalf (q1 : Nat) (n_q1 : Nat) (g : mz_G) : mz_G :=
  zL_X12_takeHalf_2 q1 n_q1 3000000000 0 g
def zF_X12_fault (g : mz_G) : Int × mz_G :=
  zf_l (mz_up g 137 2 0) fun g1 => zf_l (g1 137 24) fun v2 => (v2, g1)
def zB_X12_store_9 (q1 : Nat) (n_q1 : Nat) (a2 : Int) (rc : Int → mz_G → mz_G) (l3 : Int) (g : mz_G) : mz_G :=
  if l3 < 6 then (zf_l (g 152 (l3 : Int).toNat) fun v3 => zf_l (mz_up g q1 (((a2 + 1) + l3) : Int).toNat v3) fun g4 => zf_l (g4 153 (l3 : Int).toNat) fun v5 => zf_l (mz_up g4 q1 ((((a2 + 1) + 6) + l3) : Int).toNat v5) fun g6 => zf_l (g6 154 (l3 : Int).toNat) fun v7 => zf_l (mz_up g6 q1 ((((a2 + 1) + 12) + l3) : Int).toNat v7) fun g8 => zf_l (g8 155 (l3 : Int).toNat) fun v9 => zf_l (mz_up g8 q1 ((((a2 + 1) + 18) + l3) : Int).toNat v9) fun g10 => rc (l3 + 1) g10) else (g)
def zL_X12_store_9 (q1 : Nat) (n_q1 : Nat) (a2 : Int) : Nat → Int → mz_G → mz_G
  | 0 => fun _ _ => default
  | k + 1 => zB_X12_store_9 q1 n_q1 a2 (zL_X12_store_9 q1 n_q1 a2 k)
theorem zL_X12_store_9_s {q1 : Nat} {n_q1 : Nat} {a2 : Int} {k : Nat} {l3 : Int} {g : mz_G} : zL_X12_store_9 q1 n_q1 a2 (k + 1) l3 g = zB_X12_store_9 q1 n_q1 a2 (zL_X12_store_9 q1 n_q1 a2 k) l3 g := rfl
def zF_X12_store (q1 : Nat) (n_q1 : Nat) (a2 : Int) (g : mz_G) : mz_G :=
  zf_l (g 137 30) fun v1 => zf_l (mz_up g q1 (a2 : Int).toNat v1) fun g2 => zL_X12_store_9 q1 n_q1 a2 3000000000 0 g2
def zB_X12_recall_9 (q1 : Nat) (n_q1 : Nat) (a2 : Int) (rc : Int → mz_G → mz_G) (l3 : Int) (g : mz_G) : mz_G :=
  if l3 < 6 then (zf_l (g q1 (((a2 + 1) + l3) : Int).toNat) fun v3 => zf_l (mz_up g 152 (l3 : Int).toNat v3) fun g4 => zf_l (g4 q1 ((((a2 + 1) + 6) + l3) : Int).toNat) fun v5 => zf_l (mz_up g4 153 (l3 : Int).toNat v5) fun g6 => zf_l (g6 q1 ((((a2 + 1) + 12) + l3) : Int).toNat) fun v7 => zf_l (mz_up g6 154 (l3 : Int).toNat v7) fun g8 => zf_l (g8 q1 ((((a2 + 1) + 18) + l3) : Int).toNat) fun v9 => zf_l (mz_up g8 155 (l3 : Int).toNat v9) fun g10 => rc (l3 + 1) g10) else (g)
def zL_X12_recall_9 (q1 : Nat) (n_q1 : Nat) (a2 : Int) : Nat → Int → mz_G → mz_G
  | 0 => fun _ _ => default
  | k + 1 => zB_X12_recall_9 q1 n_q1 a2 (zL_X12_recall_9 q1 n_q1 a2 k)
theorem zL_X12_recall_9_s {q1 : Nat} {n_q1 : Nat} {a2 : Int} {k : Nat} {l3 : Int} {g : mz_G} : zL_X12_recall_9 q1 n_q1 a2 (k + 1) l3 g = zB_X12_recall_9 q1 n_q1 a2 (zL_X12_recall_9 q1 n_q1 a2 k) l3 g := rfl
def zF_X12_recall (q1 : Nat) (n_q1 : Nat) (a2 : Int) (g : mz_G) : mz_G :=
  zf_l (g q1 (a2 : Int).toNat) fun v1 => zf_l (mz_up g 137 30 v1) fun g2 => zL_X12_recall_9 q1 n_q1 a2 3000000000 0 g2
def zF_X12_letterOf (a1 : Int) (a2 : Int) (g : mz_G) : Int :=
  zf_l (g 141 (((8 * a1) + a2) : Int).toNat) fun v1 => v1
def zJ_X12_overlapOf_70 (a1 : Int) (a2 : Int) (rc : Int → Int → Int → Int) (s0 : Int) (l3 : Int) (l5 : Int) (g : mz_G) : Int :=
  rc l3 s0 (l5 + 1)
def zB_X12_overlapOf_28 (a1 : Int) (a2 : Int) (g : mz_G) (rc : Int → Int → Int → Int) (l3 : Int) (l4 : Int) (l5 : Int) : Int :=
  if l5 < l3 then (if l4 = 0 then (l4) else (zf_l (g 142 (a1 : Int).toNat) fun v4 => zf_l (zF_X12_letterOf a1 ((v4 - l3) + l5) g) fun v5 => zf_l (zF_X12_letterOf a2 l5 g) fun v6 => if v5 = v6 then (zJ_X12_overlapOf_70 a1 a2 rc 1 l3 l5 g) else (zJ_X12_overlapOf_70 a1 a2 rc 0 l3 l5 g))) else (l4)
def zL_X12_overlapOf_28 (a1 : Int) (a2 : Int) (g : mz_G) : Nat → Int → Int → Int → Int
  | 0 => fun _ _ _ => default
  | k + 1 => zB_X12_overlapOf_28 a1 a2 g (zL_X12_overlapOf_28 a1 a2 g k)
theorem zL_X12_overlapOf_28_s {a1 : Int} {a2 : Int} {g : mz_G} {k : Nat} {l3 : Int} {l4 : Int} {l5 : Int} : zL_X12_overlapOf_28 a1 a2 g (k + 1) l3 l4 l5 = zB_X12_overlapOf_28 a1 a2 g (zL_X12_overlapOf_28 a1 a2 g k) l3 l4 l5 := rfl
def zJ_X12_overlapOf_78 (a1 : Int) (a2 : Int) (rc : Int → Int) (l3 : Int) (l4 : Int) (g : mz_G) : Int :=
  if l4 = 0 then (rc (l3 + (-1))) else (l3)
def zB_X12_overlapOf_18 (a1 : Int) (a2 : Int) (g : mz_G) (rc : Int → Int) (l3 : Int) : Int :=
  if (0 : Int) < l3 then (zf_l (zL_X12_overlapOf_28 a1 a2 g 3000000000 l3 1 0) fun v7 => zJ_X12_overlapOf_78 a1 a2 rc l3 v7 g) else (0)
def zL_X12_overlapOf_18 (a1 : Int) (a2 : Int) (g : mz_G) : Nat → Int → Int
  | 0 => fun _ => default
  | k + 1 => zB_X12_overlapOf_18 a1 a2 g (zL_X12_overlapOf_18 a1 a2 g k)
theorem zL_X12_overlapOf_18_s {a1 : Int} {a2 : Int} {g : mz_G} {k : Nat} {l3 : Int} : zL_X12_overlapOf_18 a1 a2 g (k + 1) l3 = zB_X12_overlapOf_18 a1 a2 g (zL_X12_overlapOf_18 a1 a2 g k) l3 := rfl
def zF_X12_overlapOf (a1 : Int) (a2 : Int) (g : mz_G) : Int :=
  zf_l (g 142 (a1 : Int).toNat) fun v1 => zf_l (g 142 (a2 : Int).toNat) fun v2 => zf_l (min v1 v2) fun v3 => zL_X12_overlapOf_18 a1 a2 g 3000000000 (v3 - 1)
def zB_X12_wordInto_2 (q1 : Nat) (n_q1 : Nat) (a2 : Int) (rc : Int → mz_G → (Int × mz_G)) (l3 : Int) (g : mz_G) : Int × mz_G :=
  zf_l (g 142 (a2 : Int).toNat) fun v1 => if l3 < v1 then (zf_l (zF_X12_letterOf a2 l3 g) fun v2 => zf_l (mz_up g q1 (l3 : Int).toNat v2) fun g3 => rc (l3 + 1) g3) else (zf_l (g 142 (a2 : Int).toNat) fun v4 => (v4, g))
def zL_X12_wordInto_2 (q1 : Nat) (n_q1 : Nat) (a2 : Int) : Nat → Int → mz_G → (Int × mz_G)
  | 0 => fun _ _ => default
  | k + 1 => zB_X12_wordInto_2 q1 n_q1 a2 (zL_X12_wordInto_2 q1 n_q1 a2 k)
theorem zL_X12_wordInto_2_s {q1 : Nat} {n_q1 : Nat} {a2 : Int} {k : Nat} {l3 : Int} {g : mz_G} : zL_X12_wordInto_2 q1 n_q1 a2 (k + 1) l3 g = zB_X12_wordInto_2 q1 n_q1 a2 (zL_X12_wordInto_2 q1 n_q1 a2 k) l3 g := rfl
def zF_X12_wordInto (q1 : Nat) (n_q1 : Nat) (a2 : Int) (g : mz_G) : Int × mz_G :=
  zL_X12_wordInto_2 q1 n_q1 a2 3000000000 0 g
def zB_X12_blendInto_66 (q1 : Nat) (n_q1 : Nat) (a2 : Int) (rc : Int → Int → mz_G → (Int × mz_G)) (l3 : Int) (l4 : Int) (g : mz_G) : Int × mz_G :=
  zf_l (g 154 (a2 : Int).toNat) fun v10 => zf_l (g 142 (v10 : Int).toNat) fun v11 => if l4 < v11 then (zf_l (g 154 (a2 : Int).toNat) fun v12 => zf_l (zF_X12_letterOf v12 l4 g) fun v13 => zf_l (mz_up g q1 (l3 : Int).toNat v13) fun g14 => rc (l3 + 1) (l4 + 1) g14) else ((l3, g))
def zL_X12_blendInto_66 (q1 : Nat) (n_q1 : Nat) (a2 : Int) : Nat → Int → Int → mz_G → (Int × mz_G)
  | 0 => fun _ _ _ => default
  | k + 1 => zB_X12_blendInto_66 q1 n_q1 a2 (zL_X12_blendInto_66 q1 n_q1 a2 k)
theorem zL_X12_blendInto_66_s {q1 : Nat} {n_q1 : Nat} {a2 : Int} {k : Nat} {l3 : Int} {l4 : Int} {g : mz_G} : zL_X12_blendInto_66 q1 n_q1 a2 (k + 1) l3 l4 g = zB_X12_blendInto_66 q1 n_q1 a2 (zL_X12_blendInto_66 q1 n_q1 a2 k) l3 l4 g := rfl
def zB_X12_blendInto_5 (q1 : Nat) (n_q1 : Nat) (a2 : Int) (rc : Int → Int → mz_G → (Int × mz_G)) (l3 : Int) (l4 : Int) (g : mz_G) : Int × mz_G :=
  zf_l (g 153 (a2 : Int).toNat) fun v1 => zf_l (g 142 (v1 : Int).toNat) fun v2 => zf_l (g 152 (a2 : Int).toNat) fun v3 => zf_l ((v3 + 1) / 2) fun v4 => if l4 < (v2 - v4) then (zf_l (g 153 (a2 : Int).toNat) fun v5 => zf_l (zF_X12_letterOf v5 l4 g) fun v6 => zf_l (mz_up g q1 (l3 : Int).toNat v6) fun g7 => rc (l3 + 1) (l4 + 1) g7) else (zf_l (g 152 (a2 : Int).toNat) fun v8 => zf_l (v8 / 2) fun v9 => zL_X12_blendInto_66 q1 n_q1 a2 3000000000 l3 v9 g)
def zL_X12_blendInto_5 (q1 : Nat) (n_q1 : Nat) (a2 : Int) : Nat → Int → Int → mz_G → (Int × mz_G)
  | 0 => fun _ _ _ => default
  | k + 1 => zB_X12_blendInto_5 q1 n_q1 a2 (zL_X12_blendInto_5 q1 n_q1 a2 k)
theorem zL_X12_blendInto_5_s {q1 : Nat} {n_q1 : Nat} {a2 : Int} {k : Nat} {l3 : Int} {l4 : Int} {g : mz_G} : zL_X12_blendInto_5 q1 n_q1 a2 (k + 1) l3 l4 g = zB_X12_blendInto_5 q1 n_q1 a2 (zL_X12_blendInto_5 q1 n_q1 a2 k) l3 l4 g := rfl
def zF_X12_blendInto (q1 : Nat) (n_q1 : Nat) (a2 : Int) (g : mz_G) : Int × mz_G :=
  zL_X12_blendInto_5 q1 n_q1 a2 3000000000 0 0 g
def zJ_X12_compared_184 (a1 : Int) (rc : Int → Int → Int → mz_G → mz_G) (l2 : Int) (l3 : Int) (l4 : Int) (g : mz_G) : mz_G :=
  rc l2 l3 (l4 + 1) g
def zJ_X12_compared_60 (a1 : Int) (rc : Int → Int → Int → mz_G → mz_G) (s1 : Int) (s2 : Int) (l2 : Int) (l3 : Int) (l4 : Int) (g : mz_G) : mz_G :=
  zf_l (mz_up g 159 (s1 : Int).toNat s2) fun g6 => zJ_X12_compared_184 a1 rc l2 l3 l4 g6
def zJ_X12_compared_42 (a1 : Int) (rc : Int → Int → Int → mz_G → mz_G) (l2 : Int) (l3 : Int) (l4 : Int) (l5 : Int) (g : mz_G) : mz_G :=
  if a1 = 0 then (zJ_X12_compared_60 a1 rc l5 0 l2 l3 l4 g) else (zJ_X12_compared_60 a1 rc l5 (l3 + l4) l2 l3 l4 g)
def zJ_X12_compared_183 (a1 : Int) (rc : Int → Int → Int → mz_G → mz_G) (s1 : Int) (s2 : Int) (l2 : Int) (l3 : Int) (l4 : Int) (g : mz_G) : mz_G :=
  zf_l (mz_up g 159 (s1 : Int).toNat s2) fun g13 => zJ_X12_compared_184 a1 rc l2 l3 l4 g13
def zJ_X12_compared_148 (a1 : Int) (rc : Int → Int → Int → mz_G → mz_G) (s1 : Int) (s2 : Int) (s3 : Int) (l2 : Int) (l3 : Int) (l4 : Int) (l7 : Int) (l8 : Int) (g : mz_G) : mz_G :=
  zf_l (mz_wrap (s2 + s3)) fun v15 => zf_l (min l7 l8) fun v16 => zf_l (mz_wrap (1 + v16)) fun v17 => zf_l (min v15 v17) fun v18 => zJ_X12_compared_183 a1 rc s1 v18 l2 l3 l4 g
def zJ_X12_compared_89 (a1 : Int) (rc : Int → Int → Int → mz_G → mz_G) (s0 : Int) (l2 : Int) (l3 : Int) (l4 : Int) (l5 : Int) (g : mz_G) : mz_G :=
  zf_l (g 159 ((l5 - l2) : Int).toNat) fun v9 => zf_l (g 159 ((l5 - 1) : Int).toNat) fun v10 => zf_l (g 159 (((l5 - l2) - 1) : Int).toNat) fun v11 => if a1 = 0 then (if s0 = 0 then (zf_l (max v9 v10) fun v12 => zJ_X12_compared_183 a1 rc l5 v12 l2 l3 l4 g) else (zf_l (mz_wrap (v11 + 1)) fun v14 => zJ_X12_compared_183 a1 rc l5 v14 l2 l3 l4 g)) else (if s0 = 0 then (zJ_X12_compared_148 a1 rc l5 v11 1 l2 l3 l4 v9 v10 g) else (zJ_X12_compared_148 a1 rc l5 v11 0 l2 l3 l4 v9 v10 g))
def zB_X12_compared_16 (a1 : Int) (rc : Int → Int → Int → mz_G → mz_G) (l2 : Int) (l3 : Int) (l4 : Int) (g : mz_G) : mz_G :=
  zf_l (g 137 37) fun v5 => if v5 < l4 then (g) else (if l3 = 0 then (zJ_X12_compared_42 a1 rc l2 l3 l4 ((l2 * l3) + l4) g) else (if l4 = 0 then (zJ_X12_compared_42 a1 rc l2 l3 l4 ((l2 * l3) + l4) g) else (zf_l (g 157 ((l3 - 1) : Int).toNat) fun v7 => zf_l (g 158 ((l4 - 1) : Int).toNat) fun v8 => if v7 = v8 then (zJ_X12_compared_89 a1 rc 1 l2 l3 l4 ((l2 * l3) + l4) g) else (zJ_X12_compared_89 a1 rc 0 l2 l3 l4 ((l2 * l3) + l4) g))))
def zL_X12_compared_16 (a1 : Int) : Nat → Int → Int → Int → mz_G → mz_G
  | 0 => fun _ _ _ _ => default
  | k + 1 => zB_X12_compared_16 a1 (zL_X12_compared_16 a1 k)
theorem zL_X12_compared_16_s {a1 : Int} {k : Nat} {l2 : Int} {l3 : Int} {l4 : Int} {g : mz_G} : zL_X12_compared_16 a1 (k + 1) l2 l3 l4 g = zB_X12_compared_16 a1 (zL_X12_compared_16 a1 k) l2 l3 l4 g := rfl
def zB_X12_compared_5 (a1 : Int) (rc : Int → Int → mz_G → (Int × mz_G)) (l2 : Int) (l3 : Int) (g : mz_G) : Int × mz_G :=
  zf_l (g 137 36) fun v1 => if v1 < l3 then (zf_l (g 137 36) fun v2 => zf_l (g 137 37) fun v3 => zf_l (g 159 (((l2 * v2) + v3) : Int).toNat) fun v4 => (v4, g)) else (zf_l (zL_X12_compared_16 a1 3000000000 l2 l3 0 g) fun g19 => rc l2 (l3 + 1) g19)
def zL_X12_compared_5 (a1 : Int) : Nat → Int → Int → mz_G → (Int × mz_G)
  | 0 => fun _ _ _ => default
  | k + 1 => zB_X12_compared_5 a1 (zL_X12_compared_5 a1 k)
theorem zL_X12_compared_5_s {a1 : Int} {k : Nat} {l2 : Int} {l3 : Int} {g : mz_G} : zL_X12_compared_5 a1 (k + 1) l2 l3 g = zB_X12_compared_5 a1 (zL_X12_compared_5 a1 k) l2 l3 g := rfl
def zF_X12_compared (a1 : Int) (g : mz_G) : Int × mz_G :=
  zL_X12_compared_5 a1 3000000000 17 0 g
def zJ_X12_isWithin_53 (rc : Int → Int → Int → Int) (s0 : Int) (l1 : Int) (l3 : Int) (g : mz_G) : Int :=
  rc l1 s0 (l3 + 1)
def zB_X12_isWithin_19 (g : mz_G) (rc : Int → Int → Int → Int) (l1 : Int) (l2 : Int) (l3 : Int) : Int :=
  zf_l (g 137 37) fun v3 => if l3 < v3 then (if l2 = 0 then (l2) else (zf_l (g 157 ((l1 + l3) : Int).toNat) fun v4 => zf_l (g 158 (l3 : Int).toNat) fun v5 => if v4 = v5 then (zJ_X12_isWithin_53 rc 1 l1 l3 g) else (zJ_X12_isWithin_53 rc 0 l1 l3 g))) else (l2)
def zL_X12_isWithin_19 (g : mz_G) : Nat → Int → Int → Int → Int
  | 0 => fun _ _ _ => default
  | k + 1 => zB_X12_isWithin_19 g (zL_X12_isWithin_19 g k)
theorem zL_X12_isWithin_19_s {g : mz_G} {k : Nat} {l1 : Int} {l2 : Int} {l3 : Int} : zL_X12_isWithin_19 g (k + 1) l1 l2 l3 = zB_X12_isWithin_19 g (zL_X12_isWithin_19 g k) l1 l2 l3 := rfl
def zJ_X12_isWithin_60 (rc : Int → Int) (l1 : Int) (l2 : Int) (g : mz_G) : Int :=
  if l2 = 0 then (rc (l1 + 1)) else (1)
def zB_X12_isWithin_2 (g : mz_G) (rc : Int → Int) (l1 : Int) : Int :=
  zf_l (g 137 37) fun v1 => zf_l (g 137 36) fun v2 => if v2 < (l1 + v1) then (0) else (zf_l (zL_X12_isWithin_19 g 3000000000 l1 1 0) fun v6 => zJ_X12_isWithin_60 rc l1 v6 g)
def zL_X12_isWithin_2 (g : mz_G) : Nat → Int → Int
  | 0 => fun _ => default
  | k + 1 => zB_X12_isWithin_2 g (zL_X12_isWithin_2 g k)
theorem zL_X12_isWithin_2_s {g : mz_G} {k : Nat} {l1 : Int} : zL_X12_isWithin_2 g (k + 1) l1 = zB_X12_isWithin_2 g (zL_X12_isWithin_2 g k) l1 := rfl
def zF_X12_isWithin (g : mz_G) : Int :=
  zL_X12_isWithin_2 g 3000000000 0
def zJ_X12_areSame_22 (g : mz_G) : Int :=
  0
def zF_X12_areSame (g : mz_G) : Int :=
  zf_l (g 137 36) fun v1 => zf_l (g 137 37) fun v2 => if v1 = v2 then (zf_l (zF_X12_isWithin g) fun v3 => if v3 = 0 then (zJ_X12_areSame_22 g) else (1)) else (zJ_X12_areSame_22 g)
def zJ_X12_withinOf_55 (a1 : Int) (rc : Int → Int → mz_G → (Int × mz_G)) (s0 : Int) (s1 : Int) (l3 : Int) (g : mz_G) : Int × mz_G :=
  zf_l (mz_orI s0 s1) fun v9 => rc v9 (l3 + 1) g
def zB_X12_withinOf_17 (a1 : Int) (rc : Int → Int → mz_G → (Int × mz_G)) (l2 : Int) (l3 : Int) (g : mz_G) : Int × mz_G :=
  zf_l (g 140 0) fun v4 => if l3 < v4 then (zf_m2 (zF_X12_wordInto 157 16 l3 g) fun v5 g6 => zf_l (mz_up g6 137 36 v5) fun g7 => zf_l (zF_X12_isWithin g7) fun v8 => if v8 = 0 then (zJ_X12_withinOf_55 a1 rc l2 0 l3 g7) else (zf_l (mz_shlI 1 l3) fun v10 => zJ_X12_withinOf_55 a1 rc l2 v10 l3 g7)) else ((l2, g))
def zL_X12_withinOf_17 (a1 : Int) : Nat → Int → Int → mz_G → (Int × mz_G)
  | 0 => fun _ _ _ => default
  | k + 1 => zB_X12_withinOf_17 a1 (zL_X12_withinOf_17 a1 k)
theorem zL_X12_withinOf_17_s {a1 : Int} {k : Nat} {l2 : Int} {l3 : Int} {g : mz_G} : zL_X12_withinOf_17 a1 (k + 1) l2 l3 g = zB_X12_withinOf_17 a1 (zL_X12_withinOf_17 a1 k) l2 l3 g := rfl
def zF_X12_withinOf (a1 : Int) (g : mz_G) : Int × mz_G :=
  zf_m2 (zF_X12_wordInto 158 16 a1 g) fun v1 g2 => zf_l (mz_up g2 137 37 v1) fun g3 => zL_X12_withinOf_17 a1 3000000000 0 0 g3
def zJ_X12_manyOf_33 (a1 : Int) (a2 : Int) (rc : Int → Int → Int) (s0 : Int) (s1 : Int) (l4 : Int) (g : mz_G) : Int :=
  zf_l (mz_wrap (s0 + s1)) fun v3 => rc v3 (l4 + 1)
def zB_X12_manyOf_5 (a1 : Int) (a2 : Int) (g : mz_G) (rc : Int → Int → Int) (l3 : Int) (l4 : Int) : Int :=
  zf_l (g 142 (a1 : Int).toNat) fun v1 => if l4 < v1 then (zf_l (zF_X12_letterOf a1 l4 g) fun v2 => if v2 = a2 then (zJ_X12_manyOf_33 a1 a2 rc l3 1 l4 g) else (zJ_X12_manyOf_33 a1 a2 rc l3 0 l4 g)) else (l3)
def zL_X12_manyOf_5 (a1 : Int) (a2 : Int) (g : mz_G) : Nat → Int → Int → Int
  | 0 => fun _ _ => default
  | k + 1 => zB_X12_manyOf_5 a1 a2 g (zL_X12_manyOf_5 a1 a2 g k)
theorem zL_X12_manyOf_5_s {a1 : Int} {a2 : Int} {g : mz_G} {k : Nat} {l3 : Int} {l4 : Int} : zL_X12_manyOf_5 a1 a2 g (k + 1) l3 l4 = zB_X12_manyOf_5 a1 a2 g (zL_X12_manyOf_5 a1 a2 g k) l3 l4 := rfl
def zF_X12_manyOf (a1 : Int) (a2 : Int) (g : mz_G) : Int :=
  zL_X12_manyOf_5 a1 a2 g 3000000000 0 0
def zJ_X12_anagramsOf_54 (a1 : Int) (rc : Int → Int → Int → Int → Int) (s0 : Int) (l2 : Int) (l3 : Int) (l5 : Int) (g : mz_G) : Int :=
  rc l2 l3 s0 (l5 + 1)
def zB_X12_anagramsOf_20 (a1 : Int) (g : mz_G) (rc : Int → Int → Int → Int → Int) (l2 : Int) (l3 : Int) (l4 : Int) (l5 : Int) : Int :=
  if (26 : Int) < l5 then (l4) else (if l4 = 0 then (l4) else (zf_l (zF_X12_manyOf l3 l5 g) fun v2 => zf_l (zF_X12_manyOf a1 l5 g) fun v3 => if v2 = v3 then (zJ_X12_anagramsOf_54 a1 rc 1 l2 l3 l5 g) else (zJ_X12_anagramsOf_54 a1 rc 0 l2 l3 l5 g)))
def zL_X12_anagramsOf_20 (a1 : Int) (g : mz_G) : Nat → Int → Int → Int → Int → Int
  | 0 => fun _ _ _ _ => default
  | k + 1 => zB_X12_anagramsOf_20 a1 g (zL_X12_anagramsOf_20 a1 g k)
theorem zL_X12_anagramsOf_20_s {a1 : Int} {g : mz_G} {k : Nat} {l2 : Int} {l3 : Int} {l4 : Int} {l5 : Int} : zL_X12_anagramsOf_20 a1 g (k + 1) l2 l3 l4 l5 = zB_X12_anagramsOf_20 a1 g (zL_X12_anagramsOf_20 a1 g k) l2 l3 l4 l5 := rfl
def zJ_X12_anagramsOf_75 (a1 : Int) (rc : Int → Int → Int) (s0 : Int) (s1 : Int) (l3 : Int) (g : mz_G) : Int :=
  zf_l (mz_orI s0 s1) fun v5 => rc v5 (l3 + 1)
def zJ_X12_anagramsOf_62 (a1 : Int) (rc : Int → Int → Int) (l2 : Int) (l3 : Int) (l4 : Int) (g : mz_G) : Int :=
  if l4 = 0 then (zJ_X12_anagramsOf_75 a1 rc l2 0 l3 g) else (zf_l (mz_shlI 1 l3) fun v6 => zJ_X12_anagramsOf_75 a1 rc l2 v6 l3 g)
def zB_X12_anagramsOf_4 (a1 : Int) (g : mz_G) (rc : Int → Int → Int) (l2 : Int) (l3 : Int) : Int :=
  zf_l (g 140 0) fun v1 => if l3 < v1 then (zf_l (zL_X12_anagramsOf_20 a1 g 3000000000 l2 l3 1 1) fun v4 => zJ_X12_anagramsOf_62 a1 rc l2 l3 v4 g) else (l2)
def zL_X12_anagramsOf_4 (a1 : Int) (g : mz_G) : Nat → Int → Int → Int
  | 0 => fun _ _ => default
  | k + 1 => zB_X12_anagramsOf_4 a1 g (zL_X12_anagramsOf_4 a1 g k)
theorem zL_X12_anagramsOf_4_s {a1 : Int} {g : mz_G} {k : Nat} {l2 : Int} {l3 : Int} : zL_X12_anagramsOf_4 a1 g (k + 1) l2 l3 = zB_X12_anagramsOf_4 a1 g (zL_X12_anagramsOf_4 a1 g k) l2 l3 := rfl
def zF_X12_anagramsOf (a1 : Int) (g : mz_G) : Int :=
  zL_X12_anagramsOf_4 a1 g 3000000000 0 0
def zJ_X12_reckon_102 (a1 : Int) (a2 : Int) (a3 : Int) (g : mz_G) : Int :=
  0
def zJ_X12_reckon_112 (a1 : Int) (a2 : Int) (a3 : Int) (g : mz_G) : Int :=
  1
def zF_X12_reckon (a1 : Int) (a2 : Int) (a3 : Int) (g : mz_G) : Int :=
  if a1 = (-26) then (if a2 = 0 then (zJ_X12_reckon_102 a1 a2 a3 g) else (if a3 = 0 then (zJ_X12_reckon_102 a1 a2 a3 g) else (1))) else if a1 = (-25) then (if a2 = a3 then (1) else (0)) else if a1 = (-24) then (if a2 < a3 then (1) else (0)) else if a1 = (-23) then (if a3 = 0 then (0) else (zf_l (mz_divI a2 a3) fun v1 => v1)) else if a1 = (-22) then (zf_l (mz_wrap (a2 * a3)) fun v2 => v2) else if a1 = (-21) then (zf_l (mz_wrap (a2 - a3)) fun v3 => v3) else if a1 = (-20) then (zf_l (mz_wrap (a2 + a3)) fun v4 => v4) else (if a2 = 0 then (if a3 = 0 then (0) else (zJ_X12_reckon_112 a1 a2 a3 g)) else (zJ_X12_reckon_112 a1 a2 a3 g))
def zJ_X12_valueNow_117 (rc : Int → Int → mz_G → (Int × mz_G)) (l1 : Int) (l2 : Int) (g : mz_G) : Int × mz_G :=
  rc l1 (l2 + 1) g
def zJ_X12_valueNow_48 (rc : Int → Int → mz_G → (Int × mz_G)) (s1 : Int) (s2 : Int) (l1 : Int) (l2 : Int) (g : mz_G) : Int × mz_G :=
  zf_l (mz_up g 161 (s1 : Int).toNat s2) fun g4 => zJ_X12_valueNow_117 rc (l1 + 1) l2 g4
def zJ_X12_valueNow_84 (rc : Int → Int → mz_G → (Int × mz_G)) (s1 : Int) (s2 : Int) (l1 : Int) (l2 : Int) (g : mz_G) : Int × mz_G :=
  zf_l (mz_up g 161 (s1 : Int).toNat s2) fun g6 => zJ_X12_valueNow_117 rc l1 l2 g6
def zB_X12_valueNow_4 (rc : Int → Int → mz_G → (Int × mz_G)) (l1 : Int) (l2 : Int) (g : mz_G) : Int × mz_G :=
  zf_l (g 140 3) fun v1 => if l2 < v1 then (zf_l (g 149 (l2 : Int).toNat) fun v2 => if ((-20) : Int) < v2 then (if v2 < 0 then (zf_l (g 160 (((-1) - v2) : Int).toNat) fun v3 => zJ_X12_valueNow_48 rc l1 v3 l1 l2 g) else (zJ_X12_valueNow_48 rc l1 v2 l1 l2 g)) else (if v2 = (-28) then (zf_l (g 161 ((l1 - 1) : Int).toNat) fun v5 => if v5 = 0 then (zJ_X12_valueNow_84 rc (l1 - 1) 1 l1 l2 g) else (zJ_X12_valueNow_84 rc (l1 - 1) 0 l1 l2 g)) else (zf_l (g 161 (((l1 + (-1)) - 1) : Int).toNat) fun v7 => zf_l (g 161 ((l1 + (-1)) : Int).toNat) fun v8 => zf_l (zF_X12_reckon v2 v7 v8 g) fun v9 => zf_l (mz_up g 161 (((l1 + (-1)) - 1) : Int).toNat v9) fun g10 => zJ_X12_valueNow_117 rc (l1 + (-1)) l2 g10))) else (zf_l (g 161 0) fun v11 => (v11, g))
def zL_X12_valueNow_4 : Nat → Int → Int → mz_G → (Int × mz_G)
  | 0 => fun _ _ _ => default
  | k + 1 => zB_X12_valueNow_4 (zL_X12_valueNow_4 k)
theorem zL_X12_valueNow_4_s {k : Nat} {l1 : Int} {l2 : Int} {g : mz_G} : zL_X12_valueNow_4 (k + 1) l1 l2 g = zB_X12_valueNow_4 (zL_X12_valueNow_4 k) l1 l2 g := rfl
def zF_X12_valueNow (g : mz_G) : Int × mz_G :=
  zL_X12_valueNow_4 3000000000 0 0 g
def zF_X12_heatOf (a1 : Int) (g : mz_G) : Int :=
  zf_l (g 140 2) fun v1 => if v1 = 0 then (5) else (zf_l (g 140 2) fun v2 => zf_l (a1 % v2) fun v3 => zf_l (g 148 (v3 : Int).toNat) fun v4 => v4)
def zF_X12_fullOf (a1 : Int) (g : mz_G) : Int :=
  zf_l (g 153 (a1 : Int).toNat) fun v1 => zf_l (g 142 (v1 : Int).toNat) fun v2 => zf_l (g 154 (a1 : Int).toNat) fun v3 => zf_l (g 142 (v3 : Int).toNat) fun v4 => zf_l (min v2 v4) fun v5 => v5
def zF_X12_isFull (a1 : Int) (g : mz_G) : Int :=
  zf_l (g 152 (a1 : Int).toNat) fun v1 => zf_l (zF_X12_fullOf a1 g) fun v2 => if v1 = v2 then (1) else (0)
def zJ_X12_growsOf_128 (a1 : Int) (a2 : Int) (l3 : Int) (g : mz_G) : Int × mz_G :=
  zf_l (min 3 l3) fun v22 => zf_l (max 0 v22) fun v23 => zf_l (g 144 (a1 : Int).toNat) fun v24 => zf_l ((v23 * (1 + v24))) fun v25 => (v25, g)
def zJ_X12_growsOf_15 (a1 : Int) (a2 : Int) (s0 : Int) (g : mz_G) : Int × mz_G :=
  zf_l (g 140 3) fun v2 => if (0 : Int) < v2 then (zf_l (g 155 (a1 : Int).toNat) fun v3 => zf_l (mz_up g 160 (0 : Int).toNat v3) fun g4 => zf_l (mz_up g4 160 (1 : Int).toNat a2) fun g5 => zf_l (g5 152 (a1 : Int).toNat) fun v6 => zf_l (mz_up g5 160 (2 : Int).toNat v6) fun g7 => zf_l (g7 153 (a1 : Int).toNat) fun v8 => zf_l (g7 143 (v8 : Int).toNat) fun v9 => zf_l (mz_up g7 160 (3 : Int).toNat v9) fun g10 => zf_l (g10 154 (a1 : Int).toNat) fun v11 => zf_l (g10 143 (v11 : Int).toNat) fun v12 => zf_l (mz_up g10 160 (4 : Int).toNat v12) fun g13 => zf_l (g13 153 (a1 : Int).toNat) fun v14 => zf_l (g13 154 (a1 : Int).toNat) fun v15 => zf_l (zF_X12_overlapOf v14 v15 g13) fun v16 => zf_l (mz_up g13 160 (5 : Int).toNat v16) fun g17 => zf_l (g17 137 30) fun v18 => zf_l (mz_up g17 160 (6 : Int).toNat v18) fun g19 => zf_m2 (zF_X12_valueNow g19) fun v20 g21 => zJ_X12_growsOf_128 a1 a2 v20 g21) else (zJ_X12_growsOf_128 a1 a2 s0 g)
def zF_X12_growsOf (a1 : Int) (a2 : Int) (g : mz_G) : Int × mz_G :=
  zf_l (g 155 (a1 : Int).toNat) fun v1 => if v1 < a2 then (zJ_X12_growsOf_15 a1 a2 1 g) else (zJ_X12_growsOf_15 a1 a2 0 g)
def zB_X12_aDayOf_2 (a1 : Int) (rc : Int → mz_G → mz_G) (l2 : Int) (g : mz_G) : mz_G :=
  zf_l (g 140 1) fun v1 => if l2 < v1 then (zf_l (zF_X12_fullOf l2 g) fun v2 => zf_l (g 152 (l2 : Int).toNat) fun v3 => zf_m2 (zF_X12_growsOf l2 a1 g) fun v4 g5 => zf_l (min v2 (v3 + v4)) fun v6 => zf_l (mz_up g5 152 (l2 : Int).toNat v6) fun g7 => rc (l2 + 1) g7) else (zf_l (g 137 30) fun v8 => zf_l (mz_up g 137 30 (v8 + 1)) fun g9 => g9)
def zL_X12_aDayOf_2 (a1 : Int) : Nat → Int → mz_G → mz_G
  | 0 => fun _ _ => default
  | k + 1 => zB_X12_aDayOf_2 a1 (zL_X12_aDayOf_2 a1 k)
theorem zL_X12_aDayOf_2_s {a1 : Int} {k : Nat} {l2 : Int} {g : mz_G} : zL_X12_aDayOf_2 a1 (k + 1) l2 g = zB_X12_aDayOf_2 a1 (zL_X12_aDayOf_2 a1 k) l2 g := rfl
def zF_X12_aDayOf (a1 : Int) (g : mz_G) : mz_G :=
  zL_X12_aDayOf_2 a1 3000000000 0 g
def zB_X12_goOn_2 (a1 : Int) (rc : Int → mz_G → mz_G) (l2 : Int) (g : mz_G) : mz_G :=
  if l2 < a1 then (zf_l (g 137 30) fun v1 => zf_l (zF_X12_heatOf v1 g) fun v2 => zf_l (zF_X12_aDayOf v2 g) fun g3 => rc (l2 + 1) g3) else (g)
def zL_X12_goOn_2 (a1 : Int) : Nat → Int → mz_G → mz_G
  | 0 => fun _ _ => default
  | k + 1 => zB_X12_goOn_2 a1 (zL_X12_goOn_2 a1 k)
theorem zL_X12_goOn_2_s {a1 : Int} {k : Nat} {l2 : Int} {g : mz_G} : zL_X12_goOn_2 a1 (k + 1) l2 g = zB_X12_goOn_2 a1 (zL_X12_goOn_2 a1 k) l2 g := rfl
def zF_X12_goOn (a1 : Int) (g : mz_G) : mz_G :=
  zL_X12_goOn_2 a1 3000000000 0 g
def zJ_X12_fullOnes_30 (rc : Int → Int → Int) (s0 : Int) (s1 : Int) (l2 : Int) (g : mz_G) : Int :=
  zf_l (mz_orI s0 s1) fun v3 => rc v3 (l2 + 1)
def zB_X12_fullOnes_4 (g : mz_G) (rc : Int → Int → Int) (l1 : Int) (l2 : Int) : Int :=
  zf_l (g 140 1) fun v1 => if l2 < v1 then (zf_l (zF_X12_isFull l2 g) fun v2 => if v2 = 0 then (zJ_X12_fullOnes_30 rc l1 0 l2 g) else (zf_l (mz_shlI 1 l2) fun v4 => zJ_X12_fullOnes_30 rc l1 v4 l2 g)) else (l1)
def zL_X12_fullOnes_4 (g : mz_G) : Nat → Int → Int → Int
  | 0 => fun _ _ => default
  | k + 1 => zB_X12_fullOnes_4 g (zL_X12_fullOnes_4 g k)
theorem zL_X12_fullOnes_4_s {g : mz_G} {k : Nat} {l1 : Int} {l2 : Int} : zL_X12_fullOnes_4 g (k + 1) l1 l2 = zB_X12_fullOnes_4 g (zL_X12_fullOnes_4 g k) l1 l2 := rfl
def zF_X12_fullOnes (g : mz_G) : Int :=
  zL_X12_fullOnes_4 g 3000000000 0 0
def zF_X12_blendSize (a1 : Int) (g : mz_G) : Int :=
  zf_l (g 153 (a1 : Int).toNat) fun v1 => zf_l (g 142 (v1 : Int).toNat) fun v2 => zf_l (g 154 (a1 : Int).toNat) fun v3 => zf_l (g 142 (v3 : Int).toNat) fun v4 => zf_l (g 152 (a1 : Int).toNat) fun v5 => ((v2 + v4) - v5)
def zB_X12_allLetters_4 (g : mz_G) (rc : Int → Int → Int) (l1 : Int) (l2 : Int) : Int :=
  zf_l (g 140 1) fun v1 => if l2 < v1 then (zf_l (zF_X12_blendSize l2 g) fun v2 => zf_l (mz_wrap (l1 + v2)) fun v3 => rc v3 (l2 + 1)) else (l1)
def zL_X12_allLetters_4 (g : mz_G) : Nat → Int → Int → Int
  | 0 => fun _ _ => default
  | k + 1 => zB_X12_allLetters_4 g (zL_X12_allLetters_4 g k)
theorem zL_X12_allLetters_4_s {g : mz_G} {k : Nat} {l1 : Int} {l2 : Int} : zL_X12_allLetters_4 g (k + 1) l1 l2 = zB_X12_allLetters_4 g (zL_X12_allLetters_4 g k) l1 l2 := rfl
def zF_X12_allLetters (g : mz_G) : Int :=
  zL_X12_allLetters_4 g 3000000000 0 0
def zJ_X12_treaties_32 (rc : Int → Int → Int) (s0 : Int) (s1 : Int) (l2 : Int) (g : mz_G) : Int :=
  zf_l (mz_orI s0 s1) fun v4 => rc v4 (l2 + 1)
def zB_X12_treaties_4 (g : mz_G) (rc : Int → Int → Int) (l1 : Int) (l2 : Int) : Int :=
  zf_l (g 140 1) fun v1 => if l2 < v1 then (zf_l (g 144 (l2 : Int).toNat) fun v2 => if v2 = 1 then (zf_l (mz_shlI 1 l2) fun v3 => zJ_X12_treaties_32 rc l1 v3 l2 g) else (zJ_X12_treaties_32 rc l1 0 l2 g)) else (l1)
def zL_X12_treaties_4 (g : mz_G) : Nat → Int → Int → Int
  | 0 => fun _ _ => default
  | k + 1 => zB_X12_treaties_4 g (zL_X12_treaties_4 g k)
theorem zL_X12_treaties_4_s {g : mz_G} {k : Nat} {l1 : Int} {l2 : Int} : zL_X12_treaties_4 g (k + 1) l1 l2 = zB_X12_treaties_4 g (zL_X12_treaties_4 g k) l1 l2 := rfl
def zF_X12_treaties (g : mz_G) : Int :=
  zL_X12_treaties_4 g 3000000000 0 0
def zJ_X12_count_72 (a1 : Int) (g : mz_G) : Int × mz_G :=
  zf_l (g 140 (a1 : Int).toNat) fun v2 => (v2, g)
def zJ_X12_count_123 (a1 : Int) (g : mz_G) : Int × mz_G :=
  zf_l (g 150 ((a1 - 10) : Int).toNat) fun v12 => (v12, g)
def zF_X12_count (a1 : Int) (g : mz_G) : Int × mz_G :=
  zf_l (mz_up g 137 2 0) fun g1 => if a1 = 0 then (zJ_X12_count_72 a1 g1) else if a1 = 1 then (zJ_X12_count_72 a1 g1) else if a1 = 2 then (zf_l (g1 137 30) fun v3 => (v3, g1)) else if a1 = 3 then (zf_l (g1 137 30) fun v4 => zf_l (zF_X12_heatOf v4 g1) fun v5 => (v5, g1)) else if a1 = 4 then (zf_l (zF_X12_fullOnes g1) fun v6 => (v6, g1)) else if a1 = 5 then (zf_l (zF_X12_treaties g1) fun v7 => (v7, g1)) else if a1 = 6 then (zf_l (zF_X12_allLetters g1) fun v8 => (v8, g1)) else if a1 = 7 then (zf_l (g1 137 31) fun v9 => (v9, g1)) else if a1 = 8 then (zf_l (g1 137 32) fun v10 => (v10, g1)) else if a1 = 9 then (zf_l (g1 137 15) fun v11 => (v11, g1)) else if a1 = 10 then (zJ_X12_count_123 a1 g1) else if a1 = 11 then (zJ_X12_count_123 a1 g1) else if a1 = 12 then (zJ_X12_count_123 a1 g1) else (zf_m2 (zF_X12_fail 1 g1) fun v13 g14 => (v13, g14))
def zJ_X12_word_25 (a1 : Int) (a2 : Int) (g : mz_G) : Int × mz_G :=
  zf_m2 (zF_X12_fail 1 g) fun v3 g4 => (v3, g4)
def zJ_X12_word_103 (a1 : Int) (a2 : Int) (rc : Int → Int → (Int × mz_G)) (s0 : Int) (s1 : Int) (l4 : Int) (g : mz_G) : Int × mz_G :=
  zf_l (mz_orI s0 s1) fun v11 => rc v11 (l4 + 1)
def zJ_X12_word_95 (a1 : Int) (a2 : Int) (rc : Int → Int → (Int × mz_G)) (s0 : Int) (l4 : Int) (g : mz_G) : Int × mz_G :=
  zf_l (mz_shlI 1 l4) fun v10 => zJ_X12_word_103 a1 a2 rc s0 v10 l4 g
def zB_X12_word_61 (a1 : Int) (a2 : Int) (g : mz_G) (rc : Int → Int → (Int × mz_G)) (l3 : Int) (l4 : Int) : Int × mz_G :=
  zf_l (g 140 1) fun v8 => if l4 < v8 then (zf_l (g 153 (l4 : Int).toNat) fun v9 => if v9 = a1 then (zJ_X12_word_95 a1 a2 rc l3 l4 g) else (zf_l (g 154 (l4 : Int).toNat) fun v12 => if v12 = a1 then (zJ_X12_word_95 a1 a2 rc l3 l4 g) else (zJ_X12_word_103 a1 a2 rc l3 0 l4 g))) else (if a2 = 2 then (zf_m2 (zF_X12_withinOf a1 g) fun v13 g14 => (v13, g14)) else (if a2 = 3 then (zf_l (zF_X12_anagramsOf a1 g) fun v15 => (v15, g)) else ((l3, g))))
def zL_X12_word_61 (a1 : Int) (a2 : Int) (g : mz_G) : Nat → Int → Int → (Int × mz_G)
  | 0 => fun _ _ => default
  | k + 1 => zB_X12_word_61 a1 a2 g (zL_X12_word_61 a1 a2 g k)
theorem zL_X12_word_61_s {a1 : Int} {a2 : Int} {g : mz_G} {k : Nat} {l3 : Int} {l4 : Int} : zL_X12_word_61 a1 a2 g (k + 1) l3 l4 = zB_X12_word_61 a1 a2 g (zL_X12_word_61 a1 a2 g k) l3 l4 := rfl
def zF_X12_word (a1 : Int) (a2 : Int) (g : mz_G) : Int × mz_G :=
  zf_l (mz_up g 137 2 0) fun g1 => zf_l (zF_X12_isWord a1 g1) fun v2 => if v2 = 0 then (zJ_X12_word_25 a1 a2 g1) else (zf_l (zF_X12_isIn a2 0 4 g1) fun v5 => if v5 = 0 then (zJ_X12_word_25 a1 a2 g1) else (if a2 < 2 then (if a2 = 0 then (zf_l (g1 142 (a1 : Int).toNat) fun v6 => (v6, g1)) else (zf_l (g1 143 (a1 : Int).toNat) fun v7 => (v7, g1))) else (zL_X12_word_61 a1 a2 g1 3000000000 0 0)))
def zJ_X12_letter_40 (a1 : Int) (a2 : Int) (g : mz_G) : Int × mz_G :=
  zf_m2 (zF_X12_fail 1 g) fun v3 g4 => (v3, g4)
def zF_X12_letter (a1 : Int) (a2 : Int) (g : mz_G) : Int × mz_G :=
  zf_l (mz_up g 137 2 0) fun g1 => zf_l (zF_X12_isWord a1 g1) fun v2 => if v2 = 0 then (zJ_X12_letter_40 a1 a2 g1) else (zf_l (g1 142 (a1 : Int).toNat) fun v5 => zf_l (zF_X12_isIn a2 0 (v5 - 1) g1) fun v6 => if v6 = 0 then (zJ_X12_letter_40 a1 a2 g1) else (zf_l (zF_X12_letterOf a1 a2 g1) fun v7 => (v7, g1)))
def zB_X12_tellCouples_27 (rc : Int → Int → mz_G → mz_G) (l1 : Int) (l2 : Int) (g : mz_G) : mz_G :=
  zf_l (g 140 1) fun v5 => if l2 < v5 then (zf_m2 (zF_X12_blendInto 158 16 l2 g) fun v6 g7 => zf_l (mz_up g7 137 37 v6) fun g8 => zf_m2 (zF_X12_compared 1 g8) fun v9 g10 => zf_l (mz_up g10 164 (((6 * l1) + l2) : Int).toNat v9) fun g11 => rc l1 (l2 + 1) g11) else (g)
def zL_X12_tellCouples_27 : Nat → Int → Int → mz_G → mz_G
  | 0 => fun _ _ _ => default
  | k + 1 => zB_X12_tellCouples_27 (zL_X12_tellCouples_27 k)
theorem zL_X12_tellCouples_27_s {k : Nat} {l1 : Int} {l2 : Int} {g : mz_G} : zL_X12_tellCouples_27 (k + 1) l1 l2 g = zB_X12_tellCouples_27 (zL_X12_tellCouples_27 k) l1 l2 g := rfl
def zB_X12_tellCouples_101 (g : mz_G) (rc : Int → Int → Int) (l1 : Int) (l2 : Int) : Int :=
  zf_l (zF_X12_isOf l1 l2 g) fun v16 => if v16 = 0 then (rc l1 (l2 + 1)) else (l2)
def zL_X12_tellCouples_101 (g : mz_G) : Nat → Int → Int → Int
  | 0 => fun _ _ => default
  | k + 1 => zB_X12_tellCouples_101 g (zL_X12_tellCouples_101 g k)
theorem zL_X12_tellCouples_101_s {g : mz_G} {k : Nat} {l1 : Int} {l2 : Int} : zL_X12_tellCouples_101 g (k + 1) l1 l2 = zB_X12_tellCouples_101 g (zL_X12_tellCouples_101 g k) l1 l2 := rfl
def zJ_X12_tellCouples_205 (rc : Int → Int → Int → Int → mz_G → mz_G) (l1 : Int) (l2 : Int) (l3 : Int) (l4 : Int) (g : mz_G) : mz_G :=
  rc l1 l2 l3 (l4 + 1) g
def zB_X12_tellCouples_144 (rc : Int → Int → Int → Int → mz_G → mz_G) (l1 : Int) (l2 : Int) (l3 : Int) (l4 : Int) (g : mz_G) : mz_G :=
  zf_l (g 140 1) fun v24 => if l4 < v24 then (zf_l (zF_X12_isOf l3 l4 g) fun v25 => if v25 = 0 then (zJ_X12_tellCouples_205 rc l1 l2 l3 l4 g) else (zf_l (g 165 (l1 : Int).toNat) fun v26 => zf_l (g 164 (((6 * l2) + l4) : Int).toNat) fun v27 => zf_l (mz_shlI 1 l4) fun v28 => zf_l (mz_xorI v28 (-1)) fun v29 => zf_l (mz_andI l3 v29) fun v30 => zf_l (g 165 (v30 : Int).toNat) fun v31 => zf_l (mz_wrap (v27 + v31)) fun v32 => zf_l (min v26 v32) fun v33 => zf_l (mz_up g 165 (l1 : Int).toNat v33) fun g34 => zJ_X12_tellCouples_205 rc l1 l2 l3 l4 g34)) else (g)
def zL_X12_tellCouples_144 : Nat → Int → Int → Int → Int → mz_G → mz_G
  | 0 => fun _ _ _ _ _ => default
  | k + 1 => zB_X12_tellCouples_144 (zL_X12_tellCouples_144 k)
theorem zL_X12_tellCouples_144_s {k : Nat} {l1 : Int} {l2 : Int} {l3 : Int} {l4 : Int} {g : mz_G} : zL_X12_tellCouples_144 (k + 1) l1 l2 l3 l4 g = zB_X12_tellCouples_144 (zL_X12_tellCouples_144 k) l1 l2 l3 l4 g := rfl
def zB_X12_tellCouples_87 (rc : Int → mz_G → mz_G) (l1 : Int) (g : mz_G) : mz_G :=
  zf_l (g 140 1) fun v14 => zf_l (mz_shlI 1 v14) fun v15 => if l1 < v15 then (zf_l (zL_X12_tellCouples_101 g 3000000000 l1 0) fun v17 => zf_l (mz_shlI 1 v17) fun v18 => zf_l (mz_xorI v18 (-1)) fun v19 => zf_l (mz_andI l1 v19) fun v20 => zf_l (g 165 (v20 : Int).toNat) fun v21 => zf_l (mz_wrap (1000 + v21)) fun v22 => zf_l (mz_up g 165 (l1 : Int).toNat v22) fun g23 => zf_l (zL_X12_tellCouples_144 3000000000 l1 v17 v20 (v17 + 1) g23) fun g35 => rc (l1 + 1) g35) else (g)
def zL_X12_tellCouples_87 : Nat → Int → mz_G → mz_G
  | 0 => fun _ _ => default
  | k + 1 => zB_X12_tellCouples_87 (zL_X12_tellCouples_87 k)
theorem zL_X12_tellCouples_87_s {k : Nat} {l1 : Int} {g : mz_G} : zL_X12_tellCouples_87 (k + 1) l1 g = zB_X12_tellCouples_87 (zL_X12_tellCouples_87 k) l1 g := rfl
def zB_X12_tellCouples_2 (rc : Int → mz_G → mz_G) (l1 : Int) (g : mz_G) : mz_G :=
  zf_l (g 140 1) fun v1 => if l1 < v1 then (zf_m2 (zF_X12_blendInto 157 16 l1 g) fun v2 g3 => zf_l (mz_up g3 137 36 v2) fun g4 => zf_l (zL_X12_tellCouples_27 3000000000 l1 0 g4) fun g12 => rc (l1 + 1) g12) else (zf_l (mz_up g 165 (0 : Int).toNat 0) fun g13 => zL_X12_tellCouples_87 3000000000 1 g13)
def zL_X12_tellCouples_2 : Nat → Int → mz_G → mz_G
  | 0 => fun _ _ => default
  | k + 1 => zB_X12_tellCouples_2 (zL_X12_tellCouples_2 k)
theorem zL_X12_tellCouples_2_s {k : Nat} {l1 : Int} {g : mz_G} : zL_X12_tellCouples_2 (k + 1) l1 g = zB_X12_tellCouples_2 (zL_X12_tellCouples_2 k) l1 g := rfl
def zF_X12_tellCouples (g : mz_G) : mz_G :=
  zL_X12_tellCouples_2 3000000000 0 g
def zB_X12_coupleOf_21 (a1 : Int) (g : mz_G) (rc : Int → Int → Int) (l2 : Int) (l3 : Int) : Int :=
  zf_l (zF_X12_isOf l2 l3 g) fun v4 => if v4 = 0 then (rc l2 (l3 + 1)) else (l3)
def zL_X12_coupleOf_21 (a1 : Int) (g : mz_G) : Nat → Int → Int → Int
  | 0 => fun _ _ => default
  | k + 1 => zB_X12_coupleOf_21 a1 g (zL_X12_coupleOf_21 a1 g k)
theorem zL_X12_coupleOf_21_s {a1 : Int} {g : mz_G} {k : Nat} {l2 : Int} {l3 : Int} : zL_X12_coupleOf_21 a1 g (k + 1) l2 l3 = zB_X12_coupleOf_21 a1 g (zL_X12_coupleOf_21 a1 g k) l2 l3 := rfl
def zJ_X12_coupleOf_113 (a1 : Int) (rc : Int → Int → Int → Int → Int → Int) (l2 : Int) (l3 : Int) (l4 : Int) (l5 : Int) (l6 : Int) (g : mz_G) : Int :=
  rc l2 l3 l4 l5 (l6 + (-1))
def zB_X12_coupleOf_57 (a1 : Int) (g : mz_G) (rc : Int → Int → Int → Int → Int → Int) (l2 : Int) (l3 : Int) (l4 : Int) (l5 : Int) (l6 : Int) : Int :=
  if l3 < l6 then (zf_l (zF_X12_isOf l4 l6 g) fun v10 => if v10 = 0 then (zJ_X12_coupleOf_113 a1 rc l2 l3 l4 l5 l6 g) else (zf_l (g 164 (((6 * l3) + l6) : Int).toNat) fun v11 => zf_l (mz_shlI 1 l6) fun v12 => zf_l (mz_xorI v12 (-1)) fun v13 => zf_l (mz_andI l4 v13) fun v14 => zf_l (g 165 (v14 : Int).toNat) fun v15 => zf_l (mz_wrap (v11 + v15)) fun v16 => zf_l (g 165 (l2 : Int).toNat) fun v17 => if v16 = v17 then (zJ_X12_coupleOf_113 a1 rc l2 l3 l4 l6 l6 g) else (zJ_X12_coupleOf_113 a1 rc l2 l3 l4 l5 l6 g))) else (l5)
def zL_X12_coupleOf_57 (a1 : Int) (g : mz_G) : Nat → Int → Int → Int → Int → Int → Int
  | 0 => fun _ _ _ _ _ => default
  | k + 1 => zB_X12_coupleOf_57 a1 g (zL_X12_coupleOf_57 a1 g k)
theorem zL_X12_coupleOf_57_s {a1 : Int} {g : mz_G} {k : Nat} {l2 : Int} {l3 : Int} {l4 : Int} {l5 : Int} {l6 : Int} : zL_X12_coupleOf_57 a1 g (k + 1) l2 l3 l4 l5 l6 = zB_X12_coupleOf_57 a1 g (zL_X12_coupleOf_57 a1 g k) l2 l3 l4 l5 l6 := rfl
def zJ_X12_coupleOf_155 (a1 : Int) (rc : Int → (Int × mz_G)) (s0 : Int) (g : mz_G) : Int × mz_G :=
  rc s0
def zB_X12_coupleOf_15 (a1 : Int) (g : mz_G) (rc : Int → (Int × mz_G)) (l2 : Int) : Int × mz_G :=
  if l2 = 0 then (((-1), g)) else (zf_l (zL_X12_coupleOf_21 a1 g 3000000000 l2 0) fun v5 => zf_l (mz_shlI 1 v5) fun v6 => zf_l (mz_xorI v6 (-1)) fun v7 => zf_l (mz_andI l2 v7) fun v8 => zf_l (g 140 1) fun v9 => zf_l (zL_X12_coupleOf_57 a1 g 3000000000 l2 v5 v8 (-1) (v9 - 1)) fun v18 => if v5 = a1 then ((v18, g)) else (if v18 = a1 then ((v5, g)) else (if v18 = (-1) then (zJ_X12_coupleOf_155 a1 rc v8 g) else (zf_l (mz_shlI 1 v18) fun v19 => zf_l (mz_xorI v19 (-1)) fun v20 => zf_l (mz_andI v8 v20) fun v21 => zJ_X12_coupleOf_155 a1 rc v21 g))))
def zL_X12_coupleOf_15 (a1 : Int) (g : mz_G) : Nat → Int → (Int × mz_G)
  | 0 => fun _ => default
  | k + 1 => zB_X12_coupleOf_15 a1 g (zL_X12_coupleOf_15 a1 g k)
theorem zL_X12_coupleOf_15_s {a1 : Int} {g : mz_G} {k : Nat} {l2 : Int} : zL_X12_coupleOf_15 a1 g (k + 1) l2 = zB_X12_coupleOf_15 a1 g (zL_X12_coupleOf_15 a1 g k) l2 := rfl
def zF_X12_coupleOf (a1 : Int) (g : mz_G) : Int × mz_G :=
  zf_l (zF_X12_tellCouples g) fun g1 => zf_l (g1 140 1) fun v2 => zf_l (mz_shlI 1 v2) fun v3 => zL_X12_coupleOf_15 a1 g1 3000000000 (v3 - 1)
def zF_X12_trunk (a1 : Int) (a2 : Int) (g : mz_G) : Int × mz_G :=
  zf_l (mz_up g 137 2 0) fun g1 => zf_l (zF_X12_isTrunk a1 g1) fun v2 => if v2 = 0 then (zf_m2 (zF_X12_fail 1 g1) fun v3 g4 => (v3, g4)) else (if a2 = 0 then (zf_l (g1 153 (a1 : Int).toNat) fun v5 => (v5, g1)) else if a2 = 1 then (zf_l (g1 154 (a1 : Int).toNat) fun v6 => (v6, g1)) else if a2 = 2 then (zf_l (g1 155 (a1 : Int).toNat) fun v7 => (v7, g1)) else if a2 = 3 then (zf_l (g1 152 (a1 : Int).toNat) fun v8 => (v8, g1)) else if a2 = 4 then (zf_l (zF_X12_fullOf a1 g1) fun v9 => (v9, g1)) else if a2 = 5 then (zf_l (zF_X12_blendSize a1 g1) fun v10 => (v10, g1)) else if a2 = 6 then (zf_l (g1 144 (a1 : Int).toNat) fun v11 => (v11, g1)) else if a2 = 7 then (zf_m2 (zF_X12_coupleOf a1 g1) fun v12 g13 => (v12, g13)) else (zf_m2 (zF_X12_fail 1 g1) fun v14 g15 => (v14, g15)))
def zF_X12_refuse (a1 : Int) (g : mz_G) : Int × mz_G :=
  zf_l (g 150 (a1 : Int).toNat) fun v1 => zf_l (mz_wrap (v1 + 1)) fun v2 => zf_l (mz_up g 150 (a1 : Int).toNat v2) fun g3 => ((-1), g3)
def zJ_X12_keep_52 (g : mz_G) : mz_G :=
  zf_l (g 137 31) fun v6 => zf_l (zF_X12_store 156 1000 (25 * v6) g) fun g7 => zf_l (g7 137 31) fun v8 => zf_l (mz_up g7 137 31 (v8 + 1)) fun g9 => g9
def zB_X12_keep_12 (rc : Int → mz_G → mz_G) (l1 : Int) (g : mz_G) : mz_G :=
  if l1 < ((1000 : Nat) : Int) then (zf_l (g 156 (l1 : Int).toNat) fun v2 => zf_l (mz_up g 156 ((l1 - 25) : Int).toNat v2) fun g3 => rc (l1 + 1) g3) else (zf_l (g 137 31) fun v4 => zf_l (mz_up g 137 31 (v4 - 1)) fun g5 => zJ_X12_keep_52 g5)
def zL_X12_keep_12 : Nat → Int → mz_G → mz_G
  | 0 => fun _ _ => default
  | k + 1 => zB_X12_keep_12 (zL_X12_keep_12 k)
theorem zL_X12_keep_12_s {k : Nat} {l1 : Int} {g : mz_G} : zL_X12_keep_12 (k + 1) l1 g = zB_X12_keep_12 (zL_X12_keep_12 k) l1 g := rfl
def zF_X12_keep (g : mz_G) : mz_G :=
  zf_l (g 137 31) fun v1 => if v1 = 40 then (zL_X12_keep_12 3000000000 25 g) else (zJ_X12_keep_52 g)
def zJ_X12_days_29 (a1 : Int) (g : mz_G) : Int × mz_G :=
  zf_m2 (zF_X12_refuse 1 g) fun v3 g4 => (v3, g4)
def zF_X12_days (a1 : Int) (g : mz_G) : Int × mz_G :=
  zf_l (mz_up g 137 2 0) fun g1 => zf_l (zF_X12_isIn a1 1 20 g1) fun v2 => if v2 = 0 then (zJ_X12_days_29 a1 g1) else (zf_l (g1 137 30) fun v5 => if (999 : Int) < (v5 + a1) then (zJ_X12_days_29 a1 g1) else (zf_l (zF_X12_keep g1) fun g6 => zf_l (zF_X12_goOn a1 g6) fun g7 => zf_l (g7 137 30) fun v8 => (v8, g7)))
def zJ_X12_draw_43 (a1 : Int) (a2 : Int) (g : mz_G) : Int × mz_G :=
  zf_m2 (zF_X12_refuse 1 g) fun v7 g8 => (v7, g8)
def zF_X12_draw (a1 : Int) (a2 : Int) (g : mz_G) : Int × mz_G :=
  zf_l (mz_up g 137 2 0) fun g1 => zf_l (zF_X12_isTrunk a1 g1) fun v2 => if v2 = 0 then (zf_m2 (zF_X12_fail 1 g1) fun v3 g4 => (v3, g4)) else (zf_l (g1 155 (a1 : Int).toNat) fun v5 => zf_l (zF_X12_isIn a2 0 9 g1) fun v6 => if v6 = 0 then (zJ_X12_draw_43 a1 a2 g1) else (if a2 = v5 then (zJ_X12_draw_43 a1 a2 g1) else (zf_l (zF_X12_keep g1) fun g9 => zf_l (mz_up g9 155 (a1 : Int).toNat a2) fun g10 => (v5, g10))))
def zJ_X12_pull_58 (a1 : Int) (a2 : Int) (g : mz_G) : Int × mz_G :=
  zf_m2 (zF_X12_refuse 1 g) fun v6 g7 => (v6, g7)
def zF_X12_pull (a1 : Int) (a2 : Int) (g : mz_G) : Int × mz_G :=
  zf_l (mz_up g 137 2 0) fun g1 => zf_l (zF_X12_isTrunk a1 g1) fun v2 => if v2 = 0 then (zf_m2 (zF_X12_fail 1 g1) fun v3 g4 => (v3, g4)) else (zf_l (zF_X12_isIn a2 1 9 g1) fun v5 => if v5 = 0 then (zJ_X12_pull_58 a1 a2 g1) else (zf_l (g1 152 (a1 : Int).toNat) fun v8 => if v8 = 0 then (zJ_X12_pull_58 a1 a2 g1) else (zf_l (zF_X12_isFull a1 g1) fun v9 => if v9 = 0 then (zf_l (g1 144 (a1 : Int).toNat) fun v10 => if v10 = 1 then (zJ_X12_pull_58 a1 a2 g1) else (zf_l (zF_X12_keep g1) fun g11 => zf_l (g11 152 (a1 : Int).toNat) fun v12 => zf_l (max 0 (v12 - a2)) fun v13 => zf_l (mz_up g11 152 (a1 : Int).toNat v13) fun g14 => zf_l (g14 152 (a1 : Int).toNat) fun v15 => (v15, g14))) else (zJ_X12_pull_58 a1 a2 g1))))
def zF_X12_turnRound (a1 : Int) (g : mz_G) : mz_G :=
  zf_l (g 153 (a1 : Int).toNat) fun v1 => zf_l (g 154 (a1 : Int).toNat) fun v2 => zf_l (mz_up g 153 (a1 : Int).toNat v2) fun g3 => zf_l (mz_up g3 154 (a1 : Int).toNat v1) fun g4 => zf_l (mz_up g4 152 (a1 : Int).toNat 0) fun g5 => g5
def zF_X12_turn (a1 : Int) (g : mz_G) : Int × mz_G :=
  zf_l (mz_up g 137 2 0) fun g1 => zf_l (zF_X12_isTrunk a1 g1) fun v2 => if v2 = 0 then (zf_m2 (zF_X12_fail 1 g1) fun v3 g4 => (v3, g4)) else (zf_l (zF_X12_keep g1) fun g5 => zf_l (g5 152 (a1 : Int).toNat) fun v6 => zf_l (zF_X12_turnRound a1 g5) fun g7 => (v6, g7))
def zJ_X12_packIn_21 (a1 : Int) (a2 : Int) (a3 : Int) (g : mz_G) : mz_G :=
  zf_l (mz_up g 152 (a1 : Int).toNat 0) fun g2 => g2
def zF_X12_packIn (a1 : Int) (a2 : Int) (a3 : Int) (g : mz_G) : mz_G :=
  if a2 = 0 then (zf_l (mz_up g 153 (a1 : Int).toNat a3) fun g1 => zJ_X12_packIn_21 a1 a2 a3 g1) else (zf_l (mz_up g 154 (a1 : Int).toNat a3) fun g3 => zJ_X12_packIn_21 a1 a2 a3 g3)
def zJ_X12_pack_31 (a1 : Int) (a2 : Int) (a3 : Int) (g : mz_G) : Int × mz_G :=
  zf_m2 (zF_X12_fail 1 g) fun v3 g4 => (v3, g4)
def zJ_X12_pack_56 (a1 : Int) (a2 : Int) (a3 : Int) (s0 : Int) (g : mz_G) : Int × mz_G :=
  if s0 = a3 then (zf_m2 (zF_X12_refuse 1 g) fun v8 g9 => (v8, g9)) else (zf_l (zF_X12_keep g) fun g10 => zf_l (zF_X12_packIn a1 a2 a3 g10) fun g11 => (s0, g11))
def zF_X12_pack (a1 : Int) (a2 : Int) (a3 : Int) (g : mz_G) : Int × mz_G :=
  zf_l (mz_up g 137 2 0) fun g1 => zf_l (zF_X12_isTrunk a1 g1) fun v2 => if v2 = 0 then (zJ_X12_pack_31 a1 a2 a3 g1) else (zf_l (zF_X12_isIn a2 0 1 g1) fun v5 => if v5 = 0 then (zJ_X12_pack_31 a1 a2 a3 g1) else (zf_l (zF_X12_isWord a3 g1) fun v6 => if v6 = 0 then (zJ_X12_pack_31 a1 a2 a3 g1) else (if a2 = 0 then (zf_l (g1 153 (a1 : Int).toNat) fun v7 => zJ_X12_pack_56 a1 a2 a3 v7 g1) else (zf_l (g1 154 (a1 : Int).toNat) fun v12 => zJ_X12_pack_56 a1 a2 a3 v12 g1))))
def zF_X12_undo (g : mz_G) : Int × mz_G :=
  zf_l (mz_up g 137 2 0) fun g1 => zf_l (g1 137 31) fun v2 => if v2 = 0 then (((-1), g1)) else (zf_l (g1 137 31) fun v3 => zf_l (mz_up g1 137 31 (v3 - 1)) fun g4 => zf_l (g4 137 31) fun v5 => zf_l (zF_X12_recall 156 1000 (25 * v5) g4) fun g6 => zf_l (g6 137 31) fun v7 => (v7, g6))
def zJ_X12_nearest_71 (a1 : Int) (a2 : Int) (rc : Int → Int → Int → mz_G → (Int × mz_G)) (l3 : Int) (l4 : Int) (l5 : Int) (g : mz_G) : Int × mz_G :=
  rc l3 l4 (l5 + 1) g
def zB_X12_nearest_22 (a1 : Int) (a2 : Int) (rc : Int → Int → Int → mz_G → (Int × mz_G)) (l3 : Int) (l4 : Int) (l5 : Int) (g : mz_G) : Int × mz_G :=
  zf_l (g 140 0) fun v4 => if l5 < v4 then (zf_m2 (zF_X12_wordInto 158 16 l5 g) fun v5 g6 => zf_l (mz_up g6 137 37 v5) fun g7 => zf_m2 (zF_X12_compared 1 g7) fun v8 g9 => if v8 < l4 then (zJ_X12_nearest_71 a1 a2 rc l5 v8 l5 g9) else (zJ_X12_nearest_71 a1 a2 rc l3 l4 l5 g9)) else (if a2 = 0 then ((l4, g)) else ((l3, g)))
def zL_X12_nearest_22 (a1 : Int) (a2 : Int) : Nat → Int → Int → Int → mz_G → (Int × mz_G)
  | 0 => fun _ _ _ _ => default
  | k + 1 => zB_X12_nearest_22 a1 a2 (zL_X12_nearest_22 a1 a2 k)
theorem zL_X12_nearest_22_s {a1 : Int} {a2 : Int} {k : Nat} {l3 : Int} {l4 : Int} {l5 : Int} {g : mz_G} : zL_X12_nearest_22 a1 a2 (k + 1) l3 l4 l5 g = zB_X12_nearest_22 a1 a2 (zL_X12_nearest_22 a1 a2 k) l3 l4 l5 g := rfl
def zF_X12_nearest (a1 : Int) (a2 : Int) (g : mz_G) : Int × mz_G :=
  zf_m2 (zF_X12_blendInto 157 16 a1 g) fun v1 g2 => zf_l (mz_up g2 137 36 v1) fun g3 => zL_X12_nearest_22 a1 a2 3000000000 (-1) 100000 0 g3
def zJ_X12_then_25 (a1 : Int) (a2 : Int) (a3 : Int) (g : mz_G) : Int × mz_G :=
  zf_m2 (zF_X12_fail 1 g) fun v3 g4 => (v3, g4)
def zJ_X12_then_104 (a1 : Int) (a2 : Int) (a3 : Int) (s0 : Int) (g : mz_G) : Int × mz_G :=
  zf_l (zF_X12_recall 162 25 0 g) fun g12 => (s0, g12)
def zJ_X12_then_101 (a1 : Int) (a2 : Int) (a3 : Int) (s1 : Int) (s2 : Int) (g : mz_G) : Int × mz_G :=
  zf_m2 (zF_X12_nearest s1 s2 g) fun v14 g15 => zJ_X12_then_104 a1 a2 a3 v14 g15
def zF_X12_then (a1 : Int) (a2 : Int) (a3 : Int) (g : mz_G) : Int × mz_G :=
  zf_l (mz_up g 137 2 0) fun g1 => zf_l (zF_X12_isTrunk a1 g1) fun v2 => if v2 = 0 then (zJ_X12_then_25 a1 a2 a3 g1) else (zf_l (zF_X12_isIn a3 0 3 g1) fun v5 => if v5 = 0 then (zJ_X12_then_25 a1 a2 a3 g1) else (zf_l (zF_X12_isIn a2 0 60 g1) fun v6 => if v6 = 0 then (zf_m2 (zF_X12_fail 2 g1) fun v7 g8 => (v7, g8)) else (zf_l (zF_X12_store 162 25 0 g1) fun g9 => zf_l (zF_X12_goOn a2 g9) fun g10 => if a3 = 0 then (zf_l (g10 152 (a1 : Int).toNat) fun v11 => zJ_X12_then_104 a1 a2 a3 v11 g10) else (if a3 = 1 then (zf_l (zF_X12_blendSize a1 g10) fun v13 => zJ_X12_then_104 a1 a2 a3 v13 g10) else (if a3 = 2 then (zJ_X12_then_101 a1 a2 a3 a1 1 g10) else (zJ_X12_then_101 a1 a2 a3 a1 0 g10))))))
def zF_X12_blend (a1 : Int) (a2 : Int) (a3 : Int) (g : mz_G) : Int × mz_G :=
  zf_l (mz_up g 137 2 0) fun g1 => zf_l (zF_X12_isTrunk a1 g1) fun v2 => if v2 = 0 then (zf_m2 (zF_X12_fail 1 g1) fun v3 g4 => (v3, g4)) else (zf_l (zF_X12_isIn a3 0 60 g1) fun v5 => if v5 = 0 then (zf_m2 (zF_X12_fail 2 g1) fun v6 g7 => (v6, g7)) else (zf_l (zF_X12_store 162 25 0 g1) fun g8 => zf_l (zF_X12_goOn a3 g8) fun g9 => zf_m2 (zF_X12_blendInto 157 16 a1 g9) fun v10 g11 => zf_l (mz_up g11 137 36 v10) fun g12 => zf_l (zF_X12_recall 162 25 0 g12) fun g13 => zf_l (g13 137 36) fun v14 => zf_l (zF_X12_isIn a2 0 (v14 - 1) g13) fun v15 => if v15 = 0 then (((-1), g13)) else (zf_l (g13 157 (a2 : Int).toNat) fun v16 => (v16, g13))))
def zB_X12_allGrown_4 (g : mz_G) (rc : Int → Int → Int) (l1 : Int) (l2 : Int) : Int :=
  zf_l (g 140 1) fun v1 => if l2 < v1 then (zf_l (g 152 (l2 : Int).toNat) fun v2 => zf_l (mz_wrap (l1 + v2)) fun v3 => rc v3 (l2 + 1)) else (l1)
def zL_X12_allGrown_4 (g : mz_G) : Nat → Int → Int → Int
  | 0 => fun _ _ => default
  | k + 1 => zB_X12_allGrown_4 g (zL_X12_allGrown_4 g k)
theorem zL_X12_allGrown_4_s {g : mz_G} {k : Nat} {l1 : Int} {l2 : Int} : zL_X12_allGrown_4 g (k + 1) l1 l2 = zB_X12_allGrown_4 g (zL_X12_allGrown_4 g k) l1 l2 := rfl
def zF_X12_allGrown (g : mz_G) : Int :=
  zL_X12_allGrown_4 g 3000000000 0 0
def zJ_X12_longestNow_34 (rc : Int → Int → Int) (l1 : Int) (l2 : Int) (g : mz_G) : Int :=
  rc l1 (l2 + 1)
def zJ_X12_longestNow_32 (rc : Int → Int → Int) (l2 : Int) (g : mz_G) : Int :=
  zJ_X12_longestNow_34 rc l2 l2 g
def zB_X12_longestNow_4 (g : mz_G) (rc : Int → Int → Int) (l1 : Int) (l2 : Int) : Int :=
  zf_l (g 140 1) fun v1 => if l2 < v1 then (if l1 = (-1) then (zJ_X12_longestNow_32 rc l2 g) else (zf_l (zF_X12_blendSize l2 g) fun v2 => zf_l (zF_X12_blendSize l1 g) fun v3 => if v3 < v2 then (zJ_X12_longestNow_32 rc l2 g) else (zJ_X12_longestNow_34 rc l1 l2 g))) else (l1)
def zL_X12_longestNow_4 (g : mz_G) : Nat → Int → Int → Int
  | 0 => fun _ _ => default
  | k + 1 => zB_X12_longestNow_4 g (zL_X12_longestNow_4 g k)
theorem zL_X12_longestNow_4_s {g : mz_G} {k : Nat} {l1 : Int} {l2 : Int} : zL_X12_longestNow_4 g (k + 1) l1 l2 = zB_X12_longestNow_4 g (zL_X12_longestNow_4 g k) l1 l2 := rfl
def zF_X12_longestNow (g : mz_G) : Int :=
  zL_X12_longestNow_4 g 3000000000 (-1) 0
def zJ_X12_later_89 (a1 : Int) (a2 : Int) (s0 : Int) (g : mz_G) : Int × mz_G :=
  zf_l (zF_X12_recall 162 25 0 g) fun g12 => (s0, g12)
def zF_X12_later (a1 : Int) (a2 : Int) (g : mz_G) : Int × mz_G :=
  zf_l (mz_up g 137 2 0) fun g1 => zf_l (zF_X12_isIn a2 0 2 g1) fun v2 => if v2 = 0 then (zf_m2 (zF_X12_fail 1 g1) fun v3 g4 => (v3, g4)) else (zf_l (zF_X12_isIn a1 0 60 g1) fun v5 => if v5 = 0 then (zf_m2 (zF_X12_fail 2 g1) fun v6 g7 => (v6, g7)) else (zf_l (zF_X12_allGrown g1) fun v8 => zf_l (zF_X12_store 162 25 0 g1) fun g9 => zf_l (zF_X12_goOn a1 g9) fun g10 => if a2 = 0 then (zf_l (zF_X12_fullOnes g10) fun v11 => zJ_X12_later_89 a1 a2 v11 g10) else (if a2 = 1 then (zf_l (zF_X12_longestNow g10) fun v13 => zJ_X12_later_89 a1 a2 v13 g10) else (zf_l (zF_X12_allGrown g10) fun v14 => zf_l (mz_wrap (v14 - v8)) fun v15 => zJ_X12_later_89 a1 a2 v15 g10))))
def zJ_X12_full_64 (a1 : Int) (l2 : Int) (g : mz_G) : Int × mz_G :=
  zf_l (zF_X12_recall 162 25 0 g) fun g6 => (l2, g6)
def zJ_X12_full_53 (a1 : Int) (rc : Int → Int → mz_G → (Int × mz_G)) (l2 : Int) (l3 : Int) (g : mz_G) : Int × mz_G :=
  zf_l (zF_X12_goOn 1 g) fun g8 => rc l2 (l3 + 1) g8
def zB_X12_full_32 (a1 : Int) (rc : Int → Int → mz_G → (Int × mz_G)) (l2 : Int) (l3 : Int) (g : mz_G) : Int × mz_G :=
  if (60 : Int) < l3 then (zJ_X12_full_64 a1 l2 g) else (if l2 = (-1) then (zf_l (zF_X12_isFull a1 g) fun v7 => if v7 = 0 then (zJ_X12_full_53 a1 rc l2 l3 g) else (zJ_X12_full_53 a1 rc l3 l3 g)) else (zJ_X12_full_64 a1 l2 g))
def zL_X12_full_32 (a1 : Int) : Nat → Int → Int → mz_G → (Int × mz_G)
  | 0 => fun _ _ _ => default
  | k + 1 => zB_X12_full_32 a1 (zL_X12_full_32 a1 k)
theorem zL_X12_full_32_s {a1 : Int} {k : Nat} {l2 : Int} {l3 : Int} {g : mz_G} : zL_X12_full_32 a1 (k + 1) l2 l3 g = zB_X12_full_32 a1 (zL_X12_full_32 a1 k) l2 l3 g := rfl
def zF_X12_full (a1 : Int) (g : mz_G) : Int × mz_G :=
  zf_l (mz_up g 137 2 0) fun g1 => zf_l (zF_X12_isTrunk a1 g1) fun v2 => if v2 = 0 then (zf_m2 (zF_X12_fail 1 g1) fun v3 g4 => (v3, g4)) else (zf_l (zF_X12_store 162 25 0 g1) fun g5 => zL_X12_full_32 a1 3000000000 (-1) 0 g5)
def zJ_X12_read_21 (a1 : Int) (a2 : Int) (g : mz_G) : Int × mz_G :=
  zf_m2 (zF_X12_fail 1 g) fun v3 g4 => (v3, g4)
def zJ_X12_read_100 (a1 : Int) (a2 : Int) (l3 : Int) (g : mz_G) : Int × mz_G :=
  zf_l (zF_X12_recall 162 25 0 g) fun g10 => (l3, g10)
def zJ_X12_read_89 (a1 : Int) (a2 : Int) (rc : Int → Int → mz_G → (Int × mz_G)) (l3 : Int) (l4 : Int) (g : mz_G) : Int × mz_G :=
  zf_l (zF_X12_goOn 1 g) fun g15 => rc l3 (l4 + 1) g15
def zB_X12_read_54 (a1 : Int) (a2 : Int) (rc : Int → Int → mz_G → (Int × mz_G)) (l3 : Int) (l4 : Int) (g : mz_G) : Int × mz_G :=
  if (60 : Int) < l4 then (zJ_X12_read_100 a1 a2 l3 g) else (if l3 = (-1) then (zf_m2 (zF_X12_blendInto 157 16 a1 g) fun v11 g12 => zf_l (mz_up g12 137 36 v11) fun g13 => zf_l (zF_X12_isWithin g13) fun v14 => if v14 = 0 then (zJ_X12_read_89 a1 a2 rc l3 l4 g13) else (zJ_X12_read_89 a1 a2 rc l4 l4 g13)) else (zJ_X12_read_100 a1 a2 l3 g))
def zL_X12_read_54 (a1 : Int) (a2 : Int) : Nat → Int → Int → mz_G → (Int × mz_G)
  | 0 => fun _ _ _ => default
  | k + 1 => zB_X12_read_54 a1 a2 (zL_X12_read_54 a1 a2 k)
theorem zL_X12_read_54_s {a1 : Int} {a2 : Int} {k : Nat} {l3 : Int} {l4 : Int} {g : mz_G} : zL_X12_read_54 a1 a2 (k + 1) l3 l4 g = zB_X12_read_54 a1 a2 (zL_X12_read_54 a1 a2 k) l3 l4 g := rfl
def zF_X12_read (a1 : Int) (a2 : Int) (g : mz_G) : Int × mz_G :=
  zf_l (mz_up g 137 2 0) fun g1 => zf_l (zF_X12_isTrunk a1 g1) fun v2 => if v2 = 0 then (zJ_X12_read_21 a1 a2 g1) else (zf_l (zF_X12_isWord a2 g1) fun v5 => if v5 = 0 then (zJ_X12_read_21 a1 a2 g1) else (zf_m2 (zF_X12_wordInto 158 16 a2 g1) fun v6 g7 => zf_l (mz_up g7 137 37 v6) fun g8 => zf_l (zF_X12_store 162 25 0 g8) fun g9 => zL_X12_read_54 a1 a2 3000000000 (-1) 0 g9))
def zJ_X12_alike_21 (a1 : Int) (a2 : Int) (g : mz_G) : Int × mz_G :=
  zf_m2 (zF_X12_fail 1 g) fun v3 g4 => (v3, g4)
def zJ_X12_alike_105 (a1 : Int) (a2 : Int) (l3 : Int) (g : mz_G) : Int × mz_G :=
  zf_l (zF_X12_recall 162 25 0 g) fun g7 => (l3, g7)
def zJ_X12_alike_94 (a1 : Int) (a2 : Int) (rc : Int → Int → mz_G → (Int × mz_G)) (l3 : Int) (l4 : Int) (g : mz_G) : Int × mz_G :=
  zf_l (zF_X12_goOn 1 g) fun g15 => rc l3 (l4 + 1) g15
def zB_X12_alike_41 (a1 : Int) (a2 : Int) (rc : Int → Int → mz_G → (Int × mz_G)) (l3 : Int) (l4 : Int) (g : mz_G) : Int × mz_G :=
  if (60 : Int) < l4 then (zJ_X12_alike_105 a1 a2 l3 g) else (if l3 = (-1) then (if a1 = a2 then (zJ_X12_alike_105 a1 a2 l3 g) else (zf_m2 (zF_X12_blendInto 157 16 a1 g) fun v8 g9 => zf_l (mz_up g9 137 36 v8) fun g10 => zf_m2 (zF_X12_blendInto 158 16 a2 g10) fun v11 g12 => zf_l (mz_up g12 137 37 v11) fun g13 => zf_l (zF_X12_areSame g13) fun v14 => if v14 = 0 then (zJ_X12_alike_94 a1 a2 rc l3 l4 g13) else (zJ_X12_alike_94 a1 a2 rc l4 l4 g13))) else (zJ_X12_alike_105 a1 a2 l3 g))
def zL_X12_alike_41 (a1 : Int) (a2 : Int) : Nat → Int → Int → mz_G → (Int × mz_G)
  | 0 => fun _ _ _ => default
  | k + 1 => zB_X12_alike_41 a1 a2 (zL_X12_alike_41 a1 a2 k)
theorem zL_X12_alike_41_s {a1 : Int} {a2 : Int} {k : Nat} {l3 : Int} {l4 : Int} {g : mz_G} : zL_X12_alike_41 a1 a2 (k + 1) l3 l4 g = zB_X12_alike_41 a1 a2 (zL_X12_alike_41 a1 a2 k) l3 l4 g := rfl
def zF_X12_alike (a1 : Int) (a2 : Int) (g : mz_G) : Int × mz_G :=
  zf_l (mz_up g 137 2 0) fun g1 => zf_l (zF_X12_isTrunk a1 g1) fun v2 => if v2 = 0 then (zJ_X12_alike_21 a1 a2 g1) else (zf_l (zF_X12_isTrunk a2 g1) fun v5 => if v5 = 0 then (zJ_X12_alike_21 a1 a2 g1) else (zf_l (zF_X12_store 162 25 0 g1) fun g6 => zL_X12_alike_41 a1 a2 3000000000 (-1) 0 g6))
def zJ_X12_both_33 (a1 : Int) (a2 : Int) (a3 : Int) (g : mz_G) : Int × mz_G :=
  zf_m2 (zF_X12_fail 1 g) fun v3 g4 => (v3, g4)
def zJ_X12_both_87 (a1 : Int) (a2 : Int) (a3 : Int) (s1 : Int) (g : mz_G) : Int × mz_G :=
  zf_m2 (zF_X12_compared s1 g) fun v14 g15 => (v14, g15)
def zF_X12_both (a1 : Int) (a2 : Int) (a3 : Int) (g : mz_G) : Int × mz_G :=
  zf_l (mz_up g 137 2 0) fun g1 => zf_l (zF_X12_isWord a1 g1) fun v2 => if v2 = 0 then (zJ_X12_both_33 a1 a2 a3 g1) else (zf_l (zF_X12_isWord a2 g1) fun v5 => if v5 = 0 then (zJ_X12_both_33 a1 a2 a3 g1) else (zf_l (zF_X12_isIn a3 0 2 g1) fun v6 => if v6 = 0 then (zJ_X12_both_33 a1 a2 a3 g1) else (if a3 = 0 then (zf_l (zF_X12_overlapOf a1 a2 g1) fun v7 => (v7, g1)) else (zf_m2 (zF_X12_wordInto 157 16 a1 g1) fun v8 g9 => zf_l (mz_up g9 137 36 v8) fun g10 => zf_m2 (zF_X12_wordInto 158 16 a2 g10) fun v11 g12 => zf_l (mz_up g12 137 37 v11) fun g13 => if a3 = 1 then (zJ_X12_both_87 a1 a2 a3 1 g13) else (zJ_X12_both_87 a1 a2 a3 0 g13)))))
def zF_X12_madeOn (a1 : Int) (a2 : Int) (g : mz_G) : Int :=
  zf_l (mz_shlI a1 8) fun v1 => zf_l (mz_shlI 1 a1) fun v2 => zf_l (mz_orI a2 v2) fun v3 => zf_l (g 163 ((v1 + v3) : Int).toNat) fun v4 => v4
def zF_X12_pushed (a1 : Int) (a2 : Int) (g : mz_G) : Int :=
  zf_l (g 142 (a2 : Int).toNat) fun v1 => zf_l (zF_X12_overlapOf a1 a2 g) fun v2 => (v1 - v2)
def zJ_X12_toDraw_101 (a1 : Int) (a2 : Int) (l3 : Int) (g : mz_G) : Int × mz_G :=
  (l3, g)
def zJ_X12_toDraw_86 (a1 : Int) (a2 : Int) (rc : Int → Int → mz_G → (Int × mz_G)) (l3 : Int) (l4 : Int) (g : mz_G) : Int × mz_G :=
  zf_l (zF_X12_recall 162 25 0 g) fun g12 => rc l3 (l4 + (-1)) g12
def zB_X12_toDraw_52 (a1 : Int) (a2 : Int) (rc : Int → Int → mz_G → (Int × mz_G)) (l3 : Int) (l4 : Int) (g : mz_G) : Int × mz_G :=
  if l4 < 0 then (zJ_X12_toDraw_101 a1 a2 l3 g) else (if l3 = (-1) then (zf_l (mz_up g 155 (a1 : Int).toNat l4) fun g9 => zf_l (zF_X12_goOn a2 g9) fun g10 => zf_l (zF_X12_isFull a1 g10) fun v11 => if v11 = 0 then (zJ_X12_toDraw_86 a1 a2 rc l3 l4 g10) else (zJ_X12_toDraw_86 a1 a2 rc l4 l4 g10)) else (zJ_X12_toDraw_101 a1 a2 l3 g))
def zL_X12_toDraw_52 (a1 : Int) (a2 : Int) : Nat → Int → Int → mz_G → (Int × mz_G)
  | 0 => fun _ _ _ => default
  | k + 1 => zB_X12_toDraw_52 a1 a2 (zL_X12_toDraw_52 a1 a2 k)
theorem zL_X12_toDraw_52_s {a1 : Int} {a2 : Int} {k : Nat} {l3 : Int} {l4 : Int} {g : mz_G} : zL_X12_toDraw_52 a1 a2 (k + 1) l3 l4 g = zB_X12_toDraw_52 a1 a2 (zL_X12_toDraw_52 a1 a2 k) l3 l4 g := rfl
def zF_X12_toDraw (a1 : Int) (a2 : Int) (g : mz_G) : Int × mz_G :=
  zf_l (mz_up g 137 2 0) fun g1 => zf_l (zF_X12_isTrunk a1 g1) fun v2 => if v2 = 0 then (zf_m2 (zF_X12_fail 1 g1) fun v3 g4 => (v3, g4)) else (zf_l (zF_X12_isIn a2 0 60 g1) fun v5 => if v5 = 0 then (zf_m2 (zF_X12_fail 2 g1) fun v6 g7 => (v6, g7)) else (zf_l (zF_X12_store 162 25 0 g1) fun g8 => zL_X12_toDraw_52 a1 a2 3000000000 (-1) 9 g8))
def zF_X12_couples (g : mz_G) : Int × mz_G :=
  zf_l (mz_up g 137 2 0) fun g1 => zf_l (zF_X12_tellCouples g1) fun g2 => zf_l (g2 140 1) fun v3 => zf_l (mz_shlI 1 v3) fun v4 => zf_l (g2 165 ((v4 - 1) : Int).toNat) fun v5 => zf_l (zf_remI v5 1000) fun v6 => (v6, g2)
def zJ_X12_see_52 (a1 : Int) (a2 : Int) (a3 : Int) (g : mz_G) : Int × mz_G :=
  zf_m2 (zF_X12_refuse 2 g) fun v6 g7 => (v6, g7)
def zF_X12_see (a1 : Int) (a2 : Int) (a3 : Int) (g : mz_G) : Int × mz_G :=
  zf_l (mz_up g 137 2 0) fun g1 => zf_l (zF_X12_isTrunk a1 g1) fun v2 => if v2 = 0 then (zf_m2 (zF_X12_fail 1 g1) fun v3 g4 => (v3, g4)) else (zf_l (g1 137 32) fun v5 => if v5 = 8 then (zJ_X12_see_52 a1 a2 a3 g1) else (zf_l (zF_X12_isIn a2 0 20 g1) fun v8 => if v8 = 0 then (zJ_X12_see_52 a1 a2 a3 g1) else (zf_l (zF_X12_isIn a3 0 16 g1) fun v9 => if v9 = 0 then (zJ_X12_see_52 a1 a2 a3 g1) else (zf_l (g1 137 32) fun v10 => zf_l (mz_up g1 166 (v10 : Int).toNat a1) fun g11 => zf_l (g11 137 32) fun v12 => zf_l (mz_up g11 167 (v12 : Int).toNat a2) fun g13 => zf_l (g13 137 32) fun v14 => zf_l (mz_up g13 168 (v14 : Int).toNat a3) fun g15 => zf_l (g15 137 32) fun v16 => zf_l (mz_up g15 137 32 (v16 + 1)) fun g17 => zf_l (g17 137 32) fun v18 => (v18, g17)))))
def zJ_X12_isAsSeen_122 (l2 : Int) (g : mz_G) : Int × mz_G :=
  zf_l (zF_X12_recall 169 25 0 g) fun g5 => (l2, g5)
def zJ_X12_isAsSeen_104 (rc : Int → Int → Int → Int → Int) (s0 : Int) (l1 : Int) (l3 : Int) (l4 : Int) (g : mz_G) : Int :=
  rc l1 s0 l3 (l4 + 1)
def zJ_X12_isAsSeen_103 (rc : Int → Int → Int → Int → Int) (l1 : Int) (l3 : Int) (l4 : Int) (g : mz_G) : Int :=
  zJ_X12_isAsSeen_104 rc 0 l1 l3 l4 g
def zJ_X12_isAsSeen_99 (rc : Int → Int → Int → Int → Int) (l1 : Int) (l3 : Int) (l4 : Int) (g : mz_G) : Int :=
  zJ_X12_isAsSeen_104 rc 1 l1 l3 l4 g
def zB_X12_isAsSeen_54 (g : mz_G) (rc : Int → Int → Int → Int → Int) (l1 : Int) (l2 : Int) (l3 : Int) (l4 : Int) : Int :=
  zf_l (g 137 32) fun v6 => if l4 < v6 then (if l2 = 0 then (zJ_X12_isAsSeen_103 rc l1 l3 l4 g) else (zf_l (g 167 (l4 : Int).toNat) fun v7 => if v7 = l3 then (zf_l (g 166 (l4 : Int).toNat) fun v8 => zf_l (zF_X12_blendSize v8 g) fun v9 => zf_l (g 168 (l4 : Int).toNat) fun v10 => if v9 = v10 then (zJ_X12_isAsSeen_99 rc l1 l3 l4 g) else (zJ_X12_isAsSeen_103 rc l1 l3 l4 g)) else (zJ_X12_isAsSeen_99 rc l1 l3 l4 g))) else (l2)
def zL_X12_isAsSeen_54 (g : mz_G) : Nat → Int → Int → Int → Int → Int
  | 0 => fun _ _ _ _ => default
  | k + 1 => zB_X12_isAsSeen_54 g (zL_X12_isAsSeen_54 g k)
theorem zL_X12_isAsSeen_54_s {g : mz_G} {k : Nat} {l1 : Int} {l2 : Int} {l3 : Int} {l4 : Int} : zL_X12_isAsSeen_54 g (k + 1) l1 l2 l3 l4 = zB_X12_isAsSeen_54 g (zL_X12_isAsSeen_54 g k) l1 l2 l3 l4 := rfl
def zB_X12_isAsSeen_42 (rc : Int → Int → Int → mz_G → (Int × mz_G)) (l1 : Int) (l2 : Int) (l3 : Int) (g : mz_G) : Int × mz_G :=
  if l1 < l3 then (zJ_X12_isAsSeen_122 l2 g) else (if l2 = 0 then (zJ_X12_isAsSeen_122 l2 g) else (zf_l (zL_X12_isAsSeen_54 g 3000000000 l1 l2 l3 0) fun v11 => zf_l (zF_X12_goOn 1 g) fun g12 => rc l1 v11 (l3 + 1) g12))
def zL_X12_isAsSeen_42 : Nat → Int → Int → Int → mz_G → (Int × mz_G)
  | 0 => fun _ _ _ _ => default
  | k + 1 => zB_X12_isAsSeen_42 (zL_X12_isAsSeen_42 k)
theorem zL_X12_isAsSeen_42_s {k : Nat} {l1 : Int} {l2 : Int} {l3 : Int} {g : mz_G} : zL_X12_isAsSeen_42 (k + 1) l1 l2 l3 g = zB_X12_isAsSeen_42 (zL_X12_isAsSeen_42 k) l1 l2 l3 g := rfl
def zB_X12_isAsSeen_13 (g : mz_G) (rc : Int → Int → (Int × mz_G)) (l1 : Int) (l2 : Int) : Int × mz_G :=
  zf_l (g 137 32) fun v2 => if l2 < v2 then (zf_l (g 167 (l2 : Int).toNat) fun v3 => zf_l (max l1 v3) fun v4 => rc v4 (l2 + 1)) else (zL_X12_isAsSeen_42 3000000000 l1 1 0 g)
def zL_X12_isAsSeen_13 (g : mz_G) : Nat → Int → Int → (Int × mz_G)
  | 0 => fun _ _ => default
  | k + 1 => zB_X12_isAsSeen_13 g (zL_X12_isAsSeen_13 g k)
theorem zL_X12_isAsSeen_13_s {g : mz_G} {k : Nat} {l1 : Int} {l2 : Int} : zL_X12_isAsSeen_13 g (k + 1) l1 l2 = zB_X12_isAsSeen_13 g (zL_X12_isAsSeen_13 g k) l1 l2 := rfl
def zF_X12_isAsSeen (g : mz_G) : Int × mz_G :=
  zf_l (zF_X12_store 169 25 0 g) fun g1 => zL_X12_isAsSeen_13 g1 3000000000 0 0
def zJ_X12_tellFits_79 (rc : Int → Int → Int → mz_G → mz_G) (l1 : Int) (l2 : Int) (l3 : Int) (g : mz_G) : mz_G :=
  rc l1 l2 (l3 + 1) g
def zB_X12_tellFits_26 (rc : Int → Int → Int → mz_G → mz_G) (l1 : Int) (l2 : Int) (l3 : Int) (g : mz_G) : mz_G :=
  if (9 : Int) < l3 then (g) else (zf_l (mz_up g 155 (l1 : Int).toNat l3) fun g4 => if l3 = l2 then (zJ_X12_tellFits_79 rc l1 l2 l3 g4) else (zf_m2 (zF_X12_isAsSeen g4) fun v5 g6 => if v5 = 0 then (zJ_X12_tellFits_79 rc l1 l2 l3 g6) else (zf_l (g6 137 50) fun v7 => zf_l (mz_up g6 170 (v7 : Int).toNat ((10 * l1) + l3)) fun g8 => zf_l (g8 137 50) fun v9 => zf_l (mz_up g8 137 50 (v9 + 1)) fun g10 => zJ_X12_tellFits_79 rc l1 l2 l3 g10)))
def zL_X12_tellFits_26 : Nat → Int → Int → Int → mz_G → mz_G
  | 0 => fun _ _ _ _ => default
  | k + 1 => zB_X12_tellFits_26 (zL_X12_tellFits_26 k)
theorem zL_X12_tellFits_26_s {k : Nat} {l1 : Int} {l2 : Int} {l3 : Int} {g : mz_G} : zL_X12_tellFits_26 (k + 1) l1 l2 l3 g = zB_X12_tellFits_26 (zL_X12_tellFits_26 k) l1 l2 l3 g := rfl
def zB_X12_tellFits_7 (rc : Int → mz_G → mz_G) (l1 : Int) (g : mz_G) : mz_G :=
  zf_l (g 140 1) fun v2 => if l1 < v2 then (zf_l (g 155 (l1 : Int).toNat) fun v3 => zf_l (zL_X12_tellFits_26 3000000000 l1 v3 0 g) fun g11 => zf_l (mz_up g11 155 (l1 : Int).toNat v3) fun g12 => rc (l1 + 1) g12) else (g)
def zL_X12_tellFits_7 : Nat → Int → mz_G → mz_G
  | 0 => fun _ _ => default
  | k + 1 => zB_X12_tellFits_7 (zL_X12_tellFits_7 k)
theorem zL_X12_tellFits_7_s {k : Nat} {l1 : Int} {g : mz_G} : zL_X12_tellFits_7 (k + 1) l1 g = zB_X12_tellFits_7 (zL_X12_tellFits_7 k) l1 g := rfl
def zF_X12_tellFits (g : mz_G) : mz_G :=
  zf_l (mz_up g 137 50 0) fun g1 => zL_X12_tellFits_7 3000000000 0 g1
def zF_X12_loose (a1 : Int) (g : mz_G) : Int × mz_G :=
  zf_l (mz_up g 137 2 0) fun g1 => zf_l (zF_X12_isIn a1 0 2 g1) fun v2 => if v2 = 0 then (zf_m2 (zF_X12_fail 1 g1) fun v3 g4 => (v3, g4)) else (if a1 = 2 then (zf_m2 (zF_X12_isAsSeen g1) fun v5 g6 => if v5 = 0 then ((0, g6)) else ((1, g6))) else (zf_l (zF_X12_tellFits g1) fun g7 => if a1 = 0 then (zf_l (g7 137 50) fun v8 => (v8, g7)) else (zf_l (g7 137 50) fun v9 => if v9 = 0 then (((-1), g7)) else (zf_l (g7 170 0) fun v10 => (v10, g7)))))
def zB_X12_look_96 (a1 : Int) (rc : Int → Int → mz_G → mz_G) (l2 : Int) (l3 : Int) (g : mz_G) : mz_G :=
  zf_l (g 140 1) fun v15 => if l3 < v15 then (zf_l (g 171 (l3 : Int).toNat) fun v16 => zf_l (g 152 (l3 : Int).toNat) fun v17 => zf_l (mz_shlI 1 v17) fun v18 => zf_l (mz_orI v16 v18) fun v19 => zf_l (mz_up g 171 (l3 : Int).toNat v19) fun g20 => rc l2 (l3 + 1) g20) else (g)
def zL_X12_look_96 (a1 : Int) : Nat → Int → Int → mz_G → mz_G
  | 0 => fun _ _ _ => default
  | k + 1 => zB_X12_look_96 a1 (zL_X12_look_96 a1 k)
theorem zL_X12_look_96_s {a1 : Int} {k : Nat} {l2 : Int} {l3 : Int} {g : mz_G} : zL_X12_look_96 a1 (k + 1) l2 l3 g = zB_X12_look_96 a1 (zL_X12_look_96 a1 k) l2 l3 g := rfl
def zJ_X12_look_193 (a1 : Int) (rc : Int → Int → Int → (Int × mz_G)) (l2 : Int) (l3 : Int) (l4 : Int) (g : mz_G) : Int × mz_G :=
  rc l2 l3 (l4 + 1)
def zB_X12_look_151 (a1 : Int) (g : mz_G) (rc : Int → Int → Int → (Int × mz_G)) (l2 : Int) (l3 : Int) (l4 : Int) : Int × mz_G :=
  zf_l (g 140 1) fun v23 => if l4 < v23 then (zf_l (g 171 (l4 : Int).toNat) fun v24 => zf_l (zF_X12_bitsOf v24 g) fun v25 => if l3 < v25 then (zf_l (g 171 (l4 : Int).toNat) fun v26 => zf_l (zF_X12_bitsOf v26 g) fun v27 => zJ_X12_look_193 a1 rc l4 v27 l4 g) else (zJ_X12_look_193 a1 rc l2 l3 l4 g)) else (if a1 = 0 then ((l2, g)) else ((l3, g)))
def zL_X12_look_151 (a1 : Int) (g : mz_G) : Nat → Int → Int → Int → (Int × mz_G)
  | 0 => fun _ _ _ => default
  | k + 1 => zB_X12_look_151 a1 g (zL_X12_look_151 a1 g k)
theorem zL_X12_look_151_s {a1 : Int} {g : mz_G} {k : Nat} {l2 : Int} {l3 : Int} {l4 : Int} : zL_X12_look_151 a1 g (k + 1) l2 l3 l4 = zB_X12_look_151 a1 g (zL_X12_look_151 a1 g k) l2 l3 l4 := rfl
def zB_X12_look_57 (a1 : Int) (rc : Int → mz_G → (Int × mz_G)) (l2 : Int) (g : mz_G) : Int × mz_G :=
  zf_l (g 137 50) fun v8 => if l2 < v8 then (zf_l (g 170 (l2 : Int).toNat) fun v9 => zf_l (v9 / 10) fun v10 => zf_l (g 170 (l2 : Int).toNat) fun v11 => zf_l (v11 % 10) fun v12 => zf_l (mz_up g 155 (v10 : Int).toNat v12) fun g13 => zf_l (zF_X12_goOn 6 g13) fun g14 => zf_l (zL_X12_look_96 a1 3000000000 l2 0 g14) fun g21 => zf_l (zF_X12_recall 162 25 0 g21) fun g22 => rc (l2 + 1) g22) else (zL_X12_look_151 a1 g 3000000000 (-1) 0 0)
def zL_X12_look_57 (a1 : Int) : Nat → Int → mz_G → (Int × mz_G)
  | 0 => fun _ _ => default
  | k + 1 => zB_X12_look_57 a1 (zL_X12_look_57 a1 k)
theorem zL_X12_look_57_s {a1 : Int} {k : Nat} {l2 : Int} {g : mz_G} : zL_X12_look_57 a1 (k + 1) l2 g = zB_X12_look_57 a1 (zL_X12_look_57 a1 k) l2 g := rfl
def zB_X12_look_36 (a1 : Int) (rc : Int → mz_G → (Int × mz_G)) (l2 : Int) (g : mz_G) : Int × mz_G :=
  if l2 < 6 then (zf_l (mz_up g 171 (l2 : Int).toNat 0) fun g7 => rc (l2 + 1) g7) else (zL_X12_look_57 a1 3000000000 0 g)
def zL_X12_look_36 (a1 : Int) : Nat → Int → mz_G → (Int × mz_G)
  | 0 => fun _ _ => default
  | k + 1 => zB_X12_look_36 a1 (zL_X12_look_36 a1 k)
theorem zL_X12_look_36_s {a1 : Int} {k : Nat} {l2 : Int} {g : mz_G} : zL_X12_look_36 a1 (k + 1) l2 g = zB_X12_look_36 a1 (zL_X12_look_36 a1 k) l2 g := rfl
def zF_X12_look (a1 : Int) (g : mz_G) : Int × mz_G :=
  zf_l (mz_up g 137 2 0) fun g1 => zf_l (zF_X12_isIn a1 0 1 g1) fun v2 => if v2 = 0 then (zf_m2 (zF_X12_fail 1 g1) fun v3 g4 => (v3, g4)) else (zf_l (zF_X12_tellFits g1) fun g5 => zf_l (zF_X12_store 162 25 0 g5) fun g6 => zL_X12_look_36 a1 3000000000 0 g6)
def zF_X12_forget (g : mz_G) : mz_G :=
  zf_l (mz_up g 137 2 0) fun g1 => zf_l (mz_up g1 137 32 0) fun g2 => g2
def zJ_X12_seasons_43 (a1 : Int) (a2 : Int) (a3 : Int) (g : mz_G) : Int × mz_G :=
  zf_m2 (zF_X12_fail 2 g) fun v6 g7 => (v6, g7)
def zJ_X12_seasons_124 (a1 : Int) (a2 : Int) (a3 : Int) (rc : Int → Int → Int → Int → mz_G → (Int × mz_G)) (s1 : Int) (l4 : Int) (l5 : Int) (l6 : Int) (l7 : Int) (g : mz_G) : Int × mz_G :=
  zf_l (zF_X12_aDayOf s1 g) fun g14 => rc l4 l5 l6 (l7 + 1) g14
def zJ_X12_seasons_104 (a1 : Int) (a2 : Int) (a3 : Int) (rc : Int → Int → Int → Int → mz_G → (Int × mz_G)) (s0 : Int) (s1 : Int) (l4 : Int) (l5 : Int) (l7 : Int) (g : mz_G) : Int × mz_G :=
  zf_l (mz_wrap (s0 * s1)) fun v12 => zf_l (zF_X12_isOf l5 l7 g) fun v13 => if v13 = 0 then (zJ_X12_seasons_124 a1 a2 a3 rc 0 l4 l5 v12 l7 g) else (zJ_X12_seasons_124 a1 a2 a3 rc 9 l4 l5 v12 l7 g)
def zB_X12_seasons_78 (a1 : Int) (a2 : Int) (a3 : Int) (rc : Int → Int → Int → Int → mz_G → (Int × mz_G)) (l4 : Int) (l5 : Int) (l6 : Int) (l7 : Int) (g : mz_G) : Int × mz_G :=
  if l7 < a2 then (zf_l (zF_X12_isOf l5 l7 g) fun v11 => if v11 = 0 then (zJ_X12_seasons_104 a1 a2 a3 rc l6 (10 - a3) l4 l5 l7 g) else (zJ_X12_seasons_104 a1 a2 a3 rc l6 a3 l4 l5 l7 g)) else ((l6, g))
def zL_X12_seasons_78 (a1 : Int) (a2 : Int) (a3 : Int) : Nat → Int → Int → Int → Int → mz_G → (Int × mz_G)
  | 0 => fun _ _ _ _ _ => default
  | k + 1 => zB_X12_seasons_78 a1 a2 a3 (zL_X12_seasons_78 a1 a2 a3 k)
theorem zL_X12_seasons_78_s {a1 : Int} {a2 : Int} {a3 : Int} {k : Nat} {l4 : Int} {l5 : Int} {l6 : Int} {l7 : Int} {g : mz_G} : zL_X12_seasons_78 a1 a2 a3 (k + 1) l4 l5 l6 l7 g = zB_X12_seasons_78 a1 a2 a3 (zL_X12_seasons_78 a1 a2 a3 k) l4 l5 l6 l7 g := rfl
def zJ_X12_seasons_149 (a1 : Int) (a2 : Int) (a3 : Int) (rc : Int → Int → mz_G → (Int × mz_G)) (s0 : Int) (s1 : Int) (l5 : Int) (g : mz_G) : Int × mz_G :=
  zf_l (mz_wrap (s0 + s1)) fun v18 => zf_l (zF_X12_recall 162 25 0 g) fun g19 => rc v18 (l5 + 1) g19
def zB_X12_seasons_64 (a1 : Int) (a2 : Int) (a3 : Int) (rc : Int → Int → mz_G → (Int × mz_G)) (l4 : Int) (l5 : Int) (g : mz_G) : Int × mz_G :=
  zf_l (mz_shlI 1 a2) fun v10 => if l5 < v10 then (zf_m2 (zL_X12_seasons_78 a1 a2 a3 3000000000 l4 l5 1 0 g) fun v15 g16 => zf_l (zF_X12_isFull a1 g16) fun v17 => if v17 = 0 then (zJ_X12_seasons_149 a1 a2 a3 rc l4 0 l5 g16) else (zJ_X12_seasons_149 a1 a2 a3 rc l4 v15 l5 g16)) else ((l4, g))
def zL_X12_seasons_64 (a1 : Int) (a2 : Int) (a3 : Int) : Nat → Int → Int → mz_G → (Int × mz_G)
  | 0 => fun _ _ _ => default
  | k + 1 => zB_X12_seasons_64 a1 a2 a3 (zL_X12_seasons_64 a1 a2 a3 k)
theorem zL_X12_seasons_64_s {a1 : Int} {a2 : Int} {a3 : Int} {k : Nat} {l4 : Int} {l5 : Int} {g : mz_G} : zL_X12_seasons_64 a1 a2 a3 (k + 1) l4 l5 g = zB_X12_seasons_64 a1 a2 a3 (zL_X12_seasons_64 a1 a2 a3 k) l4 l5 g := rfl
def zF_X12_seasons (a1 : Int) (a2 : Int) (a3 : Int) (g : mz_G) : Int × mz_G :=
  zf_l (mz_up g 137 2 0) fun g1 => zf_l (zF_X12_isTrunk a1 g1) fun v2 => if v2 = 0 then (zf_m2 (zF_X12_fail 1 g1) fun v3 g4 => (v3, g4)) else (zf_l (zF_X12_isIn a2 1 5 g1) fun v5 => if v5 = 0 then (zJ_X12_seasons_43 a1 a2 a3 g1) else (zf_l (zF_X12_isIn a3 0 10 g1) fun v8 => if v8 = 0 then (zJ_X12_seasons_43 a1 a2 a3 g1) else (zf_l (zF_X12_store 162 25 0 g1) fun g9 => zL_X12_seasons_64 a1 a2 a3 3000000000 0 0 g9)))
def zJ_X12_tellGains_46 (a1 : Int) (a2 : Int) (rc : Int → mz_G → mz_G) (l3 : Int) (g : mz_G) : mz_G :=
  zf_l (zF_X12_goOn 4 g) fun g6 => zf_l (zF_X12_blendSize a1 g6) fun v7 => zf_l (zF_X12_blendSize a2 g6) fun v8 => zf_l (l3 / 2) fun v9 => zf_l (mz_up g6 172 ((2 * l3) : Int).toNat ((v7 - v8) - v9)) fun g10 => zf_l (l3 % 2) fun v11 => zf_l (mz_up g10 172 (((2 * l3) + 1) : Int).toNat ((-(v7 - v8)) - v11)) fun g12 => zf_l (zF_X12_recall 162 25 0 g12) fun g13 => rc (l3 + 1) g13
def zJ_X12_tellGains_31 (a1 : Int) (a2 : Int) (rc : Int → mz_G → mz_G) (l3 : Int) (g : mz_G) : mz_G :=
  zf_l (l3 % 2) fun v4 => if v4 = 1 then (zf_l (mz_up g 155 (a2 : Int).toNat 9) fun g5 => zJ_X12_tellGains_46 a1 a2 rc l3 g5) else (zJ_X12_tellGains_46 a1 a2 rc l3 g)
def zB_X12_tellGains_11 (a1 : Int) (a2 : Int) (rc : Int → mz_G → mz_G) (l3 : Int) (g : mz_G) : mz_G :=
  if l3 < 4 then (zf_l (l3 / 2) fun v2 => if v2 = 1 then (zf_l (mz_up g 155 (a1 : Int).toNat 9) fun g3 => zJ_X12_tellGains_31 a1 a2 rc l3 g3) else (zJ_X12_tellGains_31 a1 a2 rc l3 g)) else (g)
def zL_X12_tellGains_11 (a1 : Int) (a2 : Int) : Nat → Int → mz_G → mz_G
  | 0 => fun _ _ => default
  | k + 1 => zB_X12_tellGains_11 a1 a2 (zL_X12_tellGains_11 a1 a2 k)
theorem zL_X12_tellGains_11_s {a1 : Int} {a2 : Int} {k : Nat} {l3 : Int} {g : mz_G} : zL_X12_tellGains_11 a1 a2 (k + 1) l3 g = zB_X12_tellGains_11 a1 a2 (zL_X12_tellGains_11 a1 a2 k) l3 g := rfl
def zF_X12_tellGains (a1 : Int) (a2 : Int) (g : mz_G) : mz_G :=
  zf_l (zF_X12_store 162 25 0 g) fun g1 => zL_X12_tellGains_11 a1 a2 3000000000 0 g1
def zJ_X12_game_31 (a1 : Int) (a2 : Int) (a3 : Int) (g : mz_G) : Int × mz_G :=
  zf_m2 (zF_X12_fail 1 g) fun v3 g4 => (v3, g4)
def zJ_X12_game_150 (a1 : Int) (a2 : Int) (a3 : Int) (rc : Int → Int → Int → (Int × mz_G)) (l4 : Int) (l5 : Int) (l6 : Int) (g : mz_G) : Int × mz_G :=
  rc l4 l5 (l6 + 1)
def zJ_X12_game_148 (a1 : Int) (a2 : Int) (a3 : Int) (rc : Int → Int → Int → (Int × mz_G)) (s0 : Int) (l4 : Int) (l6 : Int) (g : mz_G) : Int × mz_G :=
  zJ_X12_game_150 a1 a2 a3 rc l4 s0 l6 g
def zB_X12_game_63 (a1 : Int) (a2 : Int) (a3 : Int) (g : mz_G) (rc : Int → Int → Int → (Int × mz_G)) (l4 : Int) (l5 : Int) (l6 : Int) : Int × mz_G :=
  if l6 < 4 then (zf_l (mz_xorI l6 2) fun v10 => zf_l (g 172 ((2 * v10) : Int).toNat) fun v11 => zf_l (g 172 ((2 * l6) : Int).toNat) fun v12 => if v12 < v11 then (zJ_X12_game_150 a1 a2 a3 rc l4 l5 l6 g) else (zf_l (mz_xorI l6 1) fun v13 => zf_l (g 172 (((2 * v13) + 1) : Int).toNat) fun v14 => zf_l (g 172 (((2 * l6) + 1) : Int).toNat) fun v15 => if v15 < v14 then (zJ_X12_game_150 a1 a2 a3 rc l4 l5 l6 g) else (zf_l (mz_wrap (l4 + 1)) fun v16 => if l5 = (-1) then (zf_l (l6 / 2) fun v17 => zf_l (l6 % 2) fun v18 => zJ_X12_game_148 a1 a2 a3 rc ((10 * v17) + v18) v16 l6 g) else (zJ_X12_game_148 a1 a2 a3 rc l5 v16 l6 g)))) else (if a3 = 0 then ((l4, g)) else ((l5, g)))
def zL_X12_game_63 (a1 : Int) (a2 : Int) (a3 : Int) (g : mz_G) : Nat → Int → Int → Int → (Int × mz_G)
  | 0 => fun _ _ _ => default
  | k + 1 => zB_X12_game_63 a1 a2 a3 g (zL_X12_game_63 a1 a2 a3 g k)
theorem zL_X12_game_63_s {a1 : Int} {a2 : Int} {a3 : Int} {g : mz_G} {k : Nat} {l4 : Int} {l5 : Int} {l6 : Int} : zL_X12_game_63 a1 a2 a3 g (k + 1) l4 l5 l6 = zB_X12_game_63 a1 a2 a3 g (zL_X12_game_63 a1 a2 a3 g k) l4 l5 l6 := rfl
def zF_X12_game (a1 : Int) (a2 : Int) (a3 : Int) (g : mz_G) : Int × mz_G :=
  zf_l (mz_up g 137 2 0) fun g1 => zf_l (zF_X12_isTrunk a1 g1) fun v2 => if v2 = 0 then (zJ_X12_game_31 a1 a2 a3 g1) else (zf_l (zF_X12_isTrunk a2 g1) fun v5 => if v5 = 0 then (zJ_X12_game_31 a1 a2 a3 g1) else (zf_l (zF_X12_isIn a3 0 1 g1) fun v6 => if v6 = 0 then (zJ_X12_game_31 a1 a2 a3 g1) else (if a1 = a2 then (zf_m2 (zF_X12_fail 2 g1) fun v7 g8 => (v7, g8)) else (zf_l (zF_X12_tellGains a1 a2 g1) fun g9 => zL_X12_game_63 a1 a2 a3 g9 3000000000 0 (-1) 0))))
def zF_X12_drawOf (a1 : Int) (g : mz_G) : Int × mz_G :=
  zf_l (g 137 52) fun v1 => zf_l (mz_wrap (v1 * 1103515245)) fun v2 => zf_l (mz_wrap (v2 + 12345)) fun v3 => zf_l (mz_up g 137 52 v3) fun g4 => zf_l (g4 137 52) fun v5 => zf_l (mz_shrI v5 16) fun v6 => zf_l (mz_andI v6 32767) fun v7 => zf_l (v7 % a1) fun v8 => (v8, g4)
def zJ_X12_something_59 (l1 : Int) (l2 : Int) (g : mz_G) : mz_G :=
  if l1 = 2 then (zf_l (g 140 0) fun v11 => zf_m2 (zF_X12_drawOf v11 g) fun v12 g13 => zf_m2 (zF_X12_drawOf 2 g13) fun v14 g15 => zf_l (zF_X12_packIn l2 v14 v12 g15) fun g16 => g16) else (g)
def zJ_X12_something_42 (l1 : Int) (l2 : Int) (g : mz_G) : mz_G :=
  if l1 = 1 then (zf_m2 (zF_X12_drawOf 10 g) fun v8 g9 => zf_l (mz_up g9 155 (l2 : Int).toNat v8) fun g10 => zJ_X12_something_59 l1 l2 g10) else (zJ_X12_something_59 l1 l2 g)
def zF_X12_something (g : mz_G) : mz_G :=
  zf_m2 (zF_X12_drawOf 6 g) fun v1 g2 => if (2 : Int) < v1 then (g2) else (zf_l (g2 140 1) fun v3 => if v3 = 0 then (g2) else (zf_l (g2 140 1) fun v4 => zf_m2 (zF_X12_drawOf v4 g2) fun v5 g6 => if v1 = 0 then (zf_l (zF_X12_turnRound v5 g6) fun g7 => zJ_X12_something_42 v1 v5 g7) else (zJ_X12_something_42 v1 v5 g6)))
def zJ_X12_years_133 (a1 : Int) (a2 : Int) (a3 : Int) (s0 : Int) (g : mz_G) : Int × mz_G :=
  zf_l (zF_X12_recall 162 25 0 g) fun g18 => (s0, g18)
def zB_X12_years_61 (a1 : Int) (a2 : Int) (a3 : Int) (rc : Int → Int → mz_G → (Int × mz_G)) (l4 : Int) (l5 : Int) (g : mz_G) : Int × mz_G :=
  if l5 < a2 then (zf_l (zF_X12_something g) fun g10 => zf_l (zF_X12_fullOnes g10) fun v11 => zf_l (zF_X12_goOn 1 g10) fun g12 => zf_l (zF_X12_fullOnes g12) fun v13 => zf_l (mz_xorI v11 (-1)) fun v14 => zf_l (mz_andI v13 v14) fun v15 => zf_l (zF_X12_bitsOf v15 g12) fun v16 => zf_l (mz_wrap (l4 + v16)) fun v17 => rc v17 (l5 + 1) g12) else (if a3 = 0 then (zJ_X12_years_133 a1 a2 a3 l4 g) else (if a3 = 1 then (zf_l (zF_X12_fullOnes g) fun v19 => zf_l (zF_X12_bitsOf v19 g) fun v20 => zJ_X12_years_133 a1 a2 a3 v20 g) else (zf_l (zF_X12_allLetters g) fun v21 => zJ_X12_years_133 a1 a2 a3 v21 g)))
def zL_X12_years_61 (a1 : Int) (a2 : Int) (a3 : Int) : Nat → Int → Int → mz_G → (Int × mz_G)
  | 0 => fun _ _ _ => default
  | k + 1 => zB_X12_years_61 a1 a2 a3 (zL_X12_years_61 a1 a2 a3 k)
theorem zL_X12_years_61_s {a1 : Int} {a2 : Int} {a3 : Int} {k : Nat} {l4 : Int} {l5 : Int} {g : mz_G} : zL_X12_years_61 a1 a2 a3 (k + 1) l4 l5 g = zB_X12_years_61 a1 a2 a3 (zL_X12_years_61 a1 a2 a3 k) l4 l5 g := rfl
def zF_X12_years (a1 : Int) (a2 : Int) (a3 : Int) (g : mz_G) : Int × mz_G :=
  zf_l (mz_up g 137 2 0) fun g1 => zf_l (zF_X12_isIn a3 0 2 g1) fun v2 => if v2 = 0 then (zf_m2 (zF_X12_fail 1 g1) fun v3 g4 => (v3, g4)) else (zf_l (zF_X12_isIn a2 0 60 g1) fun v5 => if v5 = 0 then (zf_m2 (zF_X12_fail 2 g1) fun v6 g7 => (v6, g7)) else (zf_l (zF_X12_store 162 25 0 g1) fun g8 => zf_l (mz_up g8 137 52 a1) fun g9 => zL_X12_years_61 a1 a2 a3 3000000000 0 0 g9))
def zB_X12_copyTo_2 (q1 : Nat) (n_q1 : Nat) (q2 : Nat) (n_q2 : Nat) (rc : Int → mz_G → mz_G) (l2 : Int) (g : mz_G) : mz_G :=
  if l2 < (n_q1 : Int) then (zf_l (g q2 (l2 : Int).toNat) fun v1 => zf_l (mz_up g q1 (l2 : Int).toNat v1) fun g2 => rc (l2 + 1) g2) else (g)
def zL_X12_copyTo_2 (q1 : Nat) (n_q1 : Nat) (q2 : Nat) (n_q2 : Nat) : Nat → Int → mz_G → mz_G
  | 0 => fun _ _ => default
  | k + 1 => zB_X12_copyTo_2 q1 n_q1 q2 n_q2 (zL_X12_copyTo_2 q1 n_q1 q2 n_q2 k)
theorem zL_X12_copyTo_2_s {q1 : Nat} {n_q1 : Nat} {q2 : Nat} {n_q2 : Nat} {k : Nat} {l2 : Int} {g : mz_G} : zL_X12_copyTo_2 q1 n_q1 q2 n_q2 (k + 1) l2 g = zB_X12_copyTo_2 q1 n_q1 q2 n_q2 (zL_X12_copyTo_2 q1 n_q1 q2 n_q2 k) l2 g := rfl
def zF_X12_copyTo (q1 : Nat) (n_q1 : Nat) (q2 : Nat) (n_q2 : Nat) (g : mz_G) : mz_G :=
  zL_X12_copyTo_2 q1 n_q1 q2 n_q2 3000000000 0 g
def zF_X12_image (g : mz_G) : mz_G :=
  zf_l (mz_up g 137 2 0) fun g1 => zf_l (mz_up g1 137 53 1) fun g2 => zf_l (g2 137 31) fun v3 => zf_l (mz_up g2 137 54 v3) fun g4 => zf_l (g4 137 32) fun v5 => zf_l (mz_up g4 137 55 v5) fun g6 => zf_l (zF_X12_store 173 25 0 g6) fun g7 => zf_l (zF_X12_copyTo 174 1000 156 1000 g7) fun g8 => zf_l (zF_X12_copyTo 175 8 166 8 g8) fun g9 => zf_l (zF_X12_copyTo 176 8 167 8 g9) fun g10 => zf_l (zF_X12_copyTo 177 8 168 8 g10) fun g11 => zf_l (zF_X12_copyTo 178 3 150 3 g11) fun g12 => g12
def zF_X12_restore (g : mz_G) : Int × mz_G :=
  zf_l (mz_up g 137 2 0) fun g1 => zf_l (g1 137 53) fun v2 => if v2 = 0 then ((0, g1)) else (zf_l (g1 137 54) fun v3 => zf_l (mz_up g1 137 31 v3) fun g4 => zf_l (g4 137 55) fun v5 => zf_l (mz_up g4 137 32 v5) fun g6 => zf_l (zF_X12_recall 173 25 0 g6) fun g7 => zf_l (zF_X12_copyTo 156 1000 174 1000 g7) fun g8 => zf_l (zF_X12_copyTo 166 8 175 8 g8) fun g9 => zf_l (zF_X12_copyTo 167 8 176 8 g9) fun g10 => zf_l (zF_X12_copyTo 168 8 177 8 g10) fun g11 => zf_l (zF_X12_copyTo 150 3 178 3 g11) fun g12 => (1, g12))
def zJ_X12_readPart_56 (rx : Int → mz_G → mz_G) (a1 : Int) (l2 : Int) (g : mz_G) : mz_G :=
  zf_l (zF_X12_lay ((-1) - l2) g) fun g9 => zf_l (g9 137 22) fun v10 => if v10 = 0 then (zf_l (zF_X12_stepOn g9) fun g11 => g11) else (g9)
def zF_X12_readPart (rx : Int → mz_G → mz_G) (a1 : Int) (g : mz_G) : mz_G :=
  zf_l (g 137 22) fun v1 => if v1 = 0 then (zf_l (g 137 18) fun v2 => if v2 = 2 then (zf_m2 (zF_X12_readNumber 0 9999 g) fun v3 g4 => zf_l (zF_X12_lay v3 g4) fun g5 => g5) else (zf_l (g 137 18) fun v6 => if v6 = 1 then (zf_l (zF_X12_which 139 7 g) fun v7 => if v7 = (-1) then (zf_l (zF_X12_wrong 3 g) fun g8 => zJ_X12_readPart_56 rx a1 v7 g8) else (zJ_X12_readPart_56 rx a1 v7 g)) else (zf_l (zF_X12_mark 40 g) fun g12 => zf_l (rx (a1 + 1) g12) fun g13 => zf_l (zF_X12_mark 41 g13) fun g14 => g14))) else (g)
def zJ_X12_readProduct_39 (rx : Int → mz_G → mz_G) (a1 : Int) (rc : mz_G → mz_G) (s0 : Int) (g : mz_G) : mz_G :=
  zf_l (zF_X12_stepOn g) fun g5 => zf_l (zF_X12_readPart rx a1 g5) fun g6 => zf_l (zF_X12_lay s0 g6) fun g7 => rc g7
def zJ_X12_readProduct_23 (rx : Int → mz_G → mz_G) (a1 : Int) (rc : mz_G → mz_G) (g : mz_G) : mz_G :=
  zf_l (zF_X12_isMarked 42 g) fun v4 => if v4 = 0 then (zJ_X12_readProduct_39 rx a1 rc (-23) g) else (zJ_X12_readProduct_39 rx a1 rc (-22) g)
def zB_X12_readProduct_5 (rx : Int → mz_G → mz_G) (a1 : Int) (rc : mz_G → mz_G) (g : mz_G) : mz_G :=
  zf_l (zF_X12_isMarked 42 g) fun v2 => if v2 = 0 then (zf_l (zF_X12_isMarked 47 g) fun v3 => if v3 = 0 then (g) else (zJ_X12_readProduct_23 rx a1 rc g)) else (zJ_X12_readProduct_23 rx a1 rc g)
def zL_X12_readProduct_5 (rx : Int → mz_G → mz_G) (a1 : Int) : Nat → mz_G → mz_G
  | 0 => fun _ => default
  | k + 1 => zB_X12_readProduct_5 rx a1 (zL_X12_readProduct_5 rx a1 k)
theorem zL_X12_readProduct_5_s {rx : Int → mz_G → mz_G} {a1 : Int} {k : Nat} {g : mz_G} : zL_X12_readProduct_5 rx a1 (k + 1) g = zB_X12_readProduct_5 rx a1 (zL_X12_readProduct_5 rx a1 k) g := rfl
def zF_X12_readProduct (rx : Int → mz_G → mz_G) (a1 : Int) (g : mz_G) : mz_G :=
  zf_l (zF_X12_readPart rx a1 g) fun g1 => zL_X12_readProduct_5 rx a1 3000000000 g1
def zJ_X12_readSum_39 (rx : Int → mz_G → mz_G) (a1 : Int) (rc : mz_G → mz_G) (s0 : Int) (g : mz_G) : mz_G :=
  zf_l (zF_X12_stepOn g) fun g5 => zf_l (zF_X12_readProduct rx a1 g5) fun g6 => zf_l (zF_X12_lay s0 g6) fun g7 => rc g7
def zJ_X12_readSum_23 (rx : Int → mz_G → mz_G) (a1 : Int) (rc : mz_G → mz_G) (g : mz_G) : mz_G :=
  zf_l (zF_X12_isMarked 43 g) fun v4 => if v4 = 0 then (zJ_X12_readSum_39 rx a1 rc (-21) g) else (zJ_X12_readSum_39 rx a1 rc (-20) g)
def zB_X12_readSum_5 (rx : Int → mz_G → mz_G) (a1 : Int) (rc : mz_G → mz_G) (g : mz_G) : mz_G :=
  zf_l (zF_X12_isMarked 43 g) fun v2 => if v2 = 0 then (zf_l (zF_X12_isMarked 45 g) fun v3 => if v3 = 0 then (g) else (zJ_X12_readSum_23 rx a1 rc g)) else (zJ_X12_readSum_23 rx a1 rc g)
def zL_X12_readSum_5 (rx : Int → mz_G → mz_G) (a1 : Int) : Nat → mz_G → mz_G
  | 0 => fun _ => default
  | k + 1 => zB_X12_readSum_5 rx a1 (zL_X12_readSum_5 rx a1 k)
theorem zL_X12_readSum_5_s {rx : Int → mz_G → mz_G} {a1 : Int} {k : Nat} {g : mz_G} : zL_X12_readSum_5 rx a1 (k + 1) g = zB_X12_readSum_5 rx a1 (zL_X12_readSum_5 rx a1 k) g := rfl
def zF_X12_readSum (rx : Int → mz_G → mz_G) (a1 : Int) (g : mz_G) : mz_G :=
  zf_l (zF_X12_readProduct rx a1 g) fun g1 => zL_X12_readSum_5 rx a1 3000000000 g1
def zB_X12_readNot_96 (rx : Int → mz_G → mz_G) (a1 : Int) (rc : Int → Int → mz_G → mz_G) (l2 : Int) (l3 : Int) (g : mz_G) : mz_G :=
  if l3 < l2 then (zf_l (zF_X12_lay (-28) g) fun g5 => rc l2 (l3 + 1) g5) else (g)
def zL_X12_readNot_96 (rx : Int → mz_G → mz_G) (a1 : Int) : Nat → Int → Int → mz_G → mz_G
  | 0 => fun _ _ _ => default
  | k + 1 => zB_X12_readNot_96 rx a1 (zL_X12_readNot_96 rx a1 k)
theorem zL_X12_readNot_96_s {rx : Int → mz_G → mz_G} {a1 : Int} {k : Nat} {l2 : Int} {l3 : Int} {g : mz_G} : zL_X12_readNot_96 rx a1 (k + 1) l2 l3 g = zB_X12_readNot_96 rx a1 (zL_X12_readNot_96 rx a1 k) l2 l3 g := rfl
def zJ_X12_readNot_94 (rx : Int → mz_G → mz_G) (a1 : Int) (l2 : Int) (g : mz_G) : mz_G :=
  zL_X12_readNot_96 rx a1 3000000000 l2 0 g
def zJ_X12_readNot_79 (rx : Int → mz_G → mz_G) (a1 : Int) (s0 : Int) (l2 : Int) (g : mz_G) : mz_G :=
  zf_l (zF_X12_stepOn g) fun g7 => zf_l (zF_X12_readSum rx a1 g7) fun g8 => zf_l (zF_X12_lay s0 g8) fun g9 => zJ_X12_readNot_94 rx a1 l2 g9
def zJ_X12_readNot_63 (rx : Int → mz_G → mz_G) (a1 : Int) (l2 : Int) (g : mz_G) : mz_G :=
  zf_l (zF_X12_isMarked 60 g) fun v6 => if v6 = 0 then (zJ_X12_readNot_79 rx a1 (-25) l2 g) else (zJ_X12_readNot_79 rx a1 (-24) l2 g)
def zJ_X12_readNot_23 (rx : Int → mz_G → mz_G) (a1 : Int) (rc : Int → mz_G → mz_G) (l2 : Int) (g : mz_G) : mz_G :=
  zf_l (g 137 22) fun v11 => if v11 = 0 then (zf_l (zF_X12_stepOn g) fun g12 => rc (l2 + 1) g12) else (rc (l2 + 1) g)
def zB_X12_readNot_2 (rx : Int → mz_G → mz_G) (a1 : Int) (rc : Int → mz_G → mz_G) (l2 : Int) (g : mz_G) : mz_G :=
  zf_l (zF_X12_is 24 g) fun v1 => if v1 = 0 then (zf_l (zF_X12_readSum rx a1 g) fun g2 => zf_l (zF_X12_isMarked 60 g2) fun v3 => if v3 = 0 then (zf_l (zF_X12_isMarked 61 g2) fun v4 => if v4 = 0 then (zJ_X12_readNot_94 rx a1 l2 g2) else (zJ_X12_readNot_63 rx a1 l2 g2)) else (zJ_X12_readNot_63 rx a1 l2 g2)) else (if l2 = 6 then (zf_l (zF_X12_wrong 2 g) fun g10 => zJ_X12_readNot_23 rx a1 rc l2 g10) else (zJ_X12_readNot_23 rx a1 rc l2 g))
def zL_X12_readNot_2 (rx : Int → mz_G → mz_G) (a1 : Int) : Nat → Int → mz_G → mz_G
  | 0 => fun _ _ => default
  | k + 1 => zB_X12_readNot_2 rx a1 (zL_X12_readNot_2 rx a1 k)
theorem zL_X12_readNot_2_s {rx : Int → mz_G → mz_G} {a1 : Int} {k : Nat} {l2 : Int} {g : mz_G} : zL_X12_readNot_2 rx a1 (k + 1) l2 g = zB_X12_readNot_2 rx a1 (zL_X12_readNot_2 rx a1 k) l2 g := rfl
def zF_X12_readNot (rx : Int → mz_G → mz_G) (a1 : Int) (g : mz_G) : mz_G :=
  zL_X12_readNot_2 rx a1 3000000000 0 g
def zB_X12_readAnd_5 (rx : Int → mz_G → mz_G) (a1 : Int) (rc : mz_G → mz_G) (g : mz_G) : mz_G :=
  zf_l (zF_X12_is 25 g) fun v2 => if v2 = 0 then (g) else (zf_l (zF_X12_stepOn g) fun g3 => zf_l (zF_X12_readNot rx a1 g3) fun g4 => zf_l (zF_X12_lay (-26) g4) fun g5 => rc g5)
def zL_X12_readAnd_5 (rx : Int → mz_G → mz_G) (a1 : Int) : Nat → mz_G → mz_G
  | 0 => fun _ => default
  | k + 1 => zB_X12_readAnd_5 rx a1 (zL_X12_readAnd_5 rx a1 k)
theorem zL_X12_readAnd_5_s {rx : Int → mz_G → mz_G} {a1 : Int} {k : Nat} {g : mz_G} : zL_X12_readAnd_5 rx a1 (k + 1) g = zB_X12_readAnd_5 rx a1 (zL_X12_readAnd_5 rx a1 k) g := rfl
def zF_X12_readAnd (rx : Int → mz_G → mz_G) (a1 : Int) (g : mz_G) : mz_G :=
  zf_l (zF_X12_readNot rx a1 g) fun g1 => zL_X12_readAnd_5 rx a1 3000000000 g1
def zB_X12_readExpression_67 (rx : Int → mz_G → mz_G) (a1 : Int) (rc : mz_G → mz_G) (g : mz_G) : mz_G :=
  zf_l (zF_X12_is 26 g) fun v5 => if v5 = 0 then (g) else (zf_l (zF_X12_stepOn g) fun g6 => zf_l (zF_X12_readAnd rx a1 g6) fun g7 => zf_l (zF_X12_lay (-27) g7) fun g8 => rc g8)
def zL_X12_readExpression_67 (rx : Int → mz_G → mz_G) (a1 : Int) : Nat → mz_G → mz_G
  | 0 => fun _ => default
  | k + 1 => zB_X12_readExpression_67 rx a1 (zL_X12_readExpression_67 rx a1 k)
theorem zL_X12_readExpression_67_s {rx : Int → mz_G → mz_G} {a1 : Int} {k : Nat} {g : mz_G} : zL_X12_readExpression_67 rx a1 (k + 1) g = zB_X12_readExpression_67 rx a1 (zL_X12_readExpression_67 rx a1 k) g := rfl
def zJ_X12_readExpression_62 (rx : Int → mz_G → mz_G) (a1 : Int) (g : mz_G) : mz_G :=
  zf_l (zF_X12_readAnd rx a1 g) fun g4 => zL_X12_readExpression_67 rx a1 3000000000 g4
def zJ_X12_readExpression_38 (rx : Int → mz_G → mz_G) (a1 : Int) (s0 : Int) (g : mz_G) : mz_G :=
  if s0 = 0 then (zf_l (zF_X12_wrong 1 g) fun g3 => zJ_X12_readExpression_62 rx a1 g3) else (if a1 = 6 then (zf_l (zF_X12_wrong 2 g) fun g9 => zJ_X12_readExpression_62 rx a1 g9) else (zJ_X12_readExpression_62 rx a1 g))
def zJ_X12_readExpression_33 (rx : Int → mz_G → mz_G) (a1 : Int) (g : mz_G) : mz_G :=
  zJ_X12_readExpression_38 rx a1 1 g
def zF_X12_readExpression (rx : Int → mz_G → mz_G) (a1 : Int) (g : mz_G) : mz_G :=
  zf_l (g 137 22) fun v1 => if v1 = 0 then (zf_l (g 137 18) fun v2 => if v2 = 2 then (zJ_X12_readExpression_33 rx a1 g) else (zf_l (g 137 18) fun v10 => if v10 = 1 then (zJ_X12_readExpression_33 rx a1 g) else (zf_l (zF_X12_isMarked 40 g) fun v11 => if v11 = 0 then (zJ_X12_readExpression_38 rx a1 0 g) else (zJ_X12_readExpression_33 rx a1 g)))) else (g)
def zR_expr : Nat → Int → mz_G → mz_G
  | 0 => fun _ _ => default
  | k + 1 => zF_X12_readExpression (zR_expr k)
def zJ_X12_sayWord_125 (rc : Int → Int → Int → mz_G → mz_G) (s1 : Int) (s2 : Int) (l1 : Int) (l2 : Int) (l3 : Int) (g : mz_G) : mz_G :=
  zf_l (mz_up g 141 (s1 : Int).toNat s2) fun g11 => rc l1 l2 (l3 + 1) g11
def zB_X12_sayWord_84 (rc : Int → Int → Int → mz_G → mz_G) (l1 : Int) (l2 : Int) (l3 : Int) (g : mz_G) : mz_G :=
  if l3 < 8 then (if l3 < l2 then (zf_l (g 137 20) fun v9 => zf_l (g 151 ((v9 + l3) : Int).toNat) fun v10 => zJ_X12_sayWord_125 rc ((8 * l1) + l3) ((v10 - 97) + 1) l1 l2 l3 g) else (zJ_X12_sayWord_125 rc ((8 * l1) + l3) 0 l1 l2 l3 g)) else (zf_l (mz_up g 142 (l1 : Int).toNat l2) fun g12 => zf_l (zF_X12_stepOn g12) fun g13 => zf_m2 (zF_X12_readNumber 0 9 g13) fun v14 g15 => zf_l (mz_up g15 143 (l1 : Int).toNat v14) fun g16 => zf_l (g16 140 4) fun v17 => zf_l (mz_up g16 140 (4 : Int).toNat (v17 + 1)) fun g18 => g18)
def zL_X12_sayWord_84 : Nat → Int → Int → Int → mz_G → mz_G
  | 0 => fun _ _ _ _ => default
  | k + 1 => zB_X12_sayWord_84 (zL_X12_sayWord_84 k)
theorem zL_X12_sayWord_84_s {k : Nat} {l1 : Int} {l2 : Int} {l3 : Int} {g : mz_G} : zL_X12_sayWord_84 (k + 1) l1 l2 l3 g = zB_X12_sayWord_84 (zL_X12_sayWord_84 k) l1 l2 l3 g := rfl
def zJ_X12_sayWord_74 (l1 : Int) (l2 : Int) (g : mz_G) : mz_G :=
  zf_l (g 137 22) fun v8 => if v8 = 0 then (zL_X12_sayWord_84 3000000000 l1 l2 0 g) else (g)
def zF_X12_sayWord (g : mz_G) : mz_G :=
  zf_m2 (zF_X12_another 0 8 g) fun v1 g2 => if v1 = 0 then (g2) else (zf_l (g2 140 4) fun v3 => zf_l (g2 137 21) fun v4 => zf_l (g2 137 20) fun v5 => zf_l (g2 137 18) fun v6 => if v6 = 1 then (if (8 : Int) < (v4 - v5) then (zf_l (zF_X12_wrong 2 g2) fun g7 => zJ_X12_sayWord_74 (8 + v3) (v4 - v5) g7) else (zf_l (zF_X12_isToldAhead (v4 - v5) g2) fun v19 => if v19 = 0 then (zJ_X12_sayWord_74 (8 + v3) (v4 - v5) g2) else (zf_l (zF_X12_wrong 4 g2) fun g20 => zJ_X12_sayWord_74 (8 + v3) (v4 - v5) g20))) else (zf_l (zF_X12_wrong 1 g2) fun g21 => zJ_X12_sayWord_74 (8 + v3) (v4 - v5) g21))
def zF_X12_sayTrunk (a1 : Int) (g : mz_G) : mz_G :=
  zf_m2 (zF_X12_another 1 6 g) fun v1 g2 => if v1 = 0 then (g2) else (zf_l (g2 140 5) fun v3 => zf_l (mz_up g2 144 ((6 + v3) : Int).toNat a1) fun g4 => zf_m2 (zF_X12_readWhich g4) fun v5 g6 => zf_l (mz_up g6 145 ((6 + v3) : Int).toNat v5) fun g7 => zf_m2 (zF_X12_readWhich g7) fun v8 g9 => zf_l (mz_up g9 146 ((6 + v3) : Int).toNat v8) fun g10 => zf_m2 (zF_X12_readNumber 0 9 g10) fun v11 g12 => zf_l (mz_up g12 147 ((6 + v3) : Int).toNat v11) fun g13 => zf_l (g13 140 5) fun v14 => zf_l (mz_up g13 140 (5 : Int).toNat (v14 + 1)) fun g15 => g15)
def zJ_X12_sayHeat_100 (rc : mz_G → mz_G) (s1 : Int) (s2 : Int) (s3 : Int) (g : mz_G) : mz_G :=
  zf_l (mz_up g 140 (s1 : Int).toNat (s2 + s3)) fun g14 => rc g14
def zJ_X12_sayHeat_80 (rc : mz_G → mz_G) (g : mz_G) : mz_G :=
  zf_l (g 140 6) fun v12 => zf_l (g 137 22) fun v13 => if v13 = 0 then (zJ_X12_sayHeat_100 rc 6 v12 1 g) else (zJ_X12_sayHeat_100 rc 6 v12 0 g)
def zJ_X12_sayHeat_49 (rc : mz_G → mz_G) (g : mz_G) : mz_G :=
  zf_m2 (zF_X12_readNumber 0 9 g) fun v7 g8 => zf_l (g8 137 22) fun v9 => if v9 = 0 then (zf_l (g8 140 6) fun v10 => zf_l (mz_up g8 148 ((8 + v10) : Int).toNat v7) fun g11 => zJ_X12_sayHeat_80 rc g11) else (zJ_X12_sayHeat_80 rc g8)
def zB_X12_sayHeat_17 (rc : mz_G → mz_G) (g : mz_G) : mz_G :=
  zf_l (g 137 22) fun v3 => if v3 = 0 then (zf_l (g 137 18) fun v4 => if v4 = 2 then (zf_l (g 140 6) fun v5 => if v5 = 8 then (zf_l (zF_X12_wrong 2 g) fun g6 => zJ_X12_sayHeat_49 rc g6) else (zJ_X12_sayHeat_49 rc g)) else (g)) else (g)
def zL_X12_sayHeat_17 : Nat → mz_G → mz_G
  | 0 => fun _ => default
  | k + 1 => zB_X12_sayHeat_17 (zL_X12_sayHeat_17 k)
theorem zL_X12_sayHeat_17_s {k : Nat} {g : mz_G} : zL_X12_sayHeat_17 (k + 1) g = zB_X12_sayHeat_17 (zL_X12_sayHeat_17 k) g := rfl
def zF_X12_sayHeat (g : mz_G) : mz_G :=
  zf_l (zF_X12_stepOn g) fun g1 => zf_l (g1 137 18) fun v2 => if v2 = 2 then (zL_X12_sayHeat_17 3000000000 g1) else (zf_l (zF_X12_wrong 1 g1) fun g15 => zL_X12_sayHeat_17 3000000000 g15)
def zJ_X12_readLine_127 (a1 : Int) (l3 : Int) (g : mz_G) : Int × mz_G :=
  zf_l (zF_X12_mark 59 g) fun g7 => zf_l (mz_orI a1 l3) fun v8 => (v8, g7)
def zJ_X12_readLine_92 (a1 : Int) (l2 : Int) (l3 : Int) (g : mz_G) : Int × mz_G :=
  if l2 = (-1) then (zf_l (zF_X12_is 27 g) fun v12 => if v12 = 0 then (zf_l (zF_X12_wrong 1 g) fun g13 => zJ_X12_readLine_127 a1 l3 g13) else (zf_l (zF_X12_sayWord g) fun g14 => zJ_X12_readLine_127 a1 l3 g14)) else (zf_l (zF_X12_sayTrunk l2 g) fun g15 => zJ_X12_readLine_127 a1 l3 g15)
def zJ_X12_readLine_68 (a1 : Int) (l2 : Int) (l3 : Int) (g : mz_G) : Int × mz_G :=
  if l3 = 2 then (zf_l (g 137 22) fun v9 => if v9 = 0 then (zf_l (zF_X12_stepOn g) fun g10 => zf_l (zR_expr 8 0 g10) fun g11 => zJ_X12_readLine_127 a1 l3 g11) else (zJ_X12_readLine_92 a1 l2 l3 g)) else (zJ_X12_readLine_92 a1 l2 l3 g)
def zJ_X12_readLine_49 (a1 : Int) (l2 : Int) (l3 : Int) (g : mz_G) : Int × mz_G :=
  if l3 = 1 then (zf_l (g 137 22) fun v5 => if v5 = 0 then (zf_l (zF_X12_sayHeat g) fun g6 => zJ_X12_readLine_127 a1 l3 g6) else (zJ_X12_readLine_68 a1 l2 l3 g)) else (zJ_X12_readLine_68 a1 l2 l3 g)
def zJ_X12_readLine_37 (a1 : Int) (s0 : Int) (l2 : Int) (g : mz_G) : Int × mz_G :=
  zf_l (mz_andI s0 a1) fun v4 => if v4 = 0 then (zJ_X12_readLine_49 a1 l2 s0 g) else (zf_l (zF_X12_wrong 5 g) fun g16 => zJ_X12_readLine_49 a1 l2 s0 g16)
def zF_X12_readLine (a1 : Int) (g : mz_G) : Int × mz_G :=
  zf_l (zF_X12_which 138 2 g) fun v1 => zf_l (zF_X12_is 17 g) fun v2 => if v2 = 0 then (zf_l (zF_X12_is 23 g) fun v3 => if v3 = 0 then (zJ_X12_readLine_37 a1 0 v1 g) else (zJ_X12_readLine_37 a1 2 v1 g)) else (zJ_X12_readLine_37 a1 1 v1 g)
def zJ_X12_takeOver_165 (rc : Int → mz_G → mz_G) (s1 : Int) (s2 : Int) (l1 : Int) (g : mz_G) : mz_G :=
  zf_l (mz_up g 155 (s1 : Int).toNat s2) fun g16 => rc (l1 + 1) g16
def zJ_X12_takeOver_145 (rc : Int → mz_G → mz_G) (s1 : Int) (s2 : Int) (l1 : Int) (l2 : Int) (g : mz_G) : mz_G :=
  zf_l (mz_up g 154 (s1 : Int).toNat s2) fun g15 => if l2 = 0 then (zJ_X12_takeOver_165 rc l1 0 l1 g15) else (zf_l (g15 147 (l1 : Int).toNat) fun v17 => zJ_X12_takeOver_165 rc l1 v17 l1 g15)
def zJ_X12_takeOver_125 (rc : Int → mz_G → mz_G) (s1 : Int) (s2 : Int) (l1 : Int) (l2 : Int) (g : mz_G) : mz_G :=
  zf_l (mz_up g 153 (s1 : Int).toNat s2) fun g14 => if l2 = 0 then (zJ_X12_takeOver_145 rc l1 0 l1 l2 g14) else (zf_l (g14 146 (l1 : Int).toNat) fun v18 => zJ_X12_takeOver_145 rc l1 v18 l1 l2 g14)
def zJ_X12_takeOver_98 (rc : Int → mz_G → mz_G) (s0 : Int) (l1 : Int) (g : mz_G) : mz_G :=
  zf_l (mz_up g 152 (l1 : Int).toNat 0) fun g13 => if s0 = 0 then (zJ_X12_takeOver_125 rc l1 0 l1 s0 g13) else (zf_l (g13 145 (l1 : Int).toNat) fun v19 => zJ_X12_takeOver_125 rc l1 v19 l1 s0 g13)
def zB_X12_takeOver_77 (rc : Int → mz_G → mz_G) (l1 : Int) (g : mz_G) : mz_G :=
  if l1 < 6 then (zf_l (g 140 1) fun v12 => if l1 < v12 then (zJ_X12_takeOver_98 rc 1 l1 g) else (zJ_X12_takeOver_98 rc 0 l1 g)) else (zf_l (mz_up g 137 31 0) fun g20 => zf_l (mz_up g20 137 32 0) fun g21 => zf_l (mz_up g21 137 53 0) fun g22 => g22)
def zL_X12_takeOver_77 : Nat → Int → mz_G → mz_G
  | 0 => fun _ _ => default
  | k + 1 => zB_X12_takeOver_77 (zL_X12_takeOver_77 k)
theorem zL_X12_takeOver_77_s {k : Nat} {l1 : Int} {g : mz_G} : zL_X12_takeOver_77 (k + 1) l1 g = zB_X12_takeOver_77 (zL_X12_takeOver_77 k) l1 g := rfl
def zF_X12_takeOver (g : mz_G) : mz_G :=
  zf_l (zF_X12_takeHalf 140 8 g) fun g1 => zf_l (zF_X12_takeHalf 141 128 g1) fun g2 => zf_l (zF_X12_takeHalf 142 16 g2) fun g3 => zf_l (zF_X12_takeHalf 143 16 g3) fun g4 => zf_l (zF_X12_takeHalf 144 12 g4) fun g5 => zf_l (zF_X12_takeHalf 145 12 g5) fun g6 => zf_l (zF_X12_takeHalf 146 12 g6) fun g7 => zf_l (zF_X12_takeHalf 147 12 g7) fun g8 => zf_l (zF_X12_takeHalf 148 16 g8) fun g9 => zf_l (zF_X12_takeHalf 149 1400 g9) fun g10 => zf_l (mz_up g10 137 30 0) fun g11 => zL_X12_takeOver_77 3000000000 0 g11
def zJ_X12_baggage_17 (a1 : Int) (g : mz_G) : Int × mz_G :=
  zf_m2 (zF_X12_fail 1 g) fun v2 g3 => (v2, g3)
def zJ_X12_baggage_99 (a1 : Int) (g : mz_G) : Int × mz_G :=
  zf_l (g 137 22) fun v14 => if v14 = 0 then (zf_l (zF_X12_takeOver g) fun g15 => (0, g15)) else (zf_l (g 137 23) fun v16 => zf_l (mz_up g 137 24 v16) fun g17 => zf_l (g17 150 0) fun v18 => zf_l (mz_wrap (v18 + 1)) fun v19 => zf_l (mz_up g17 150 (0 : Int).toNat v19) fun g20 => zf_l (g20 137 22) fun v21 => (v21, g20))
def zB_X12_baggage_76 (a1 : Int) (rc : Int → mz_G → (Int × mz_G)) (l2 : Int) (g : mz_G) : Int × mz_G :=
  zf_l (g 137 22) fun v12 => if v12 = 0 then (zf_l (g 137 18) fun v13 => if v13 = 0 then (zJ_X12_baggage_99 a1 g) else (zf_m2 (zF_X12_readLine l2 g) fun v22 g23 => rc v22 g23)) else (zJ_X12_baggage_99 a1 g)
def zL_X12_baggage_76 (a1 : Int) : Nat → Int → mz_G → (Int × mz_G)
  | 0 => fun _ _ => default
  | k + 1 => zB_X12_baggage_76 a1 (zL_X12_baggage_76 a1 k)
theorem zL_X12_baggage_76_s {a1 : Int} {k : Nat} {l2 : Int} {g : mz_G} : zL_X12_baggage_76 a1 (k + 1) l2 g = zB_X12_baggage_76 a1 (zL_X12_baggage_76 a1 k) l2 g := rfl
def zB_X12_baggage_50 (a1 : Int) (rc : Int → mz_G → (Int × mz_G)) (l2 : Int) (g : mz_G) : Int × mz_G :=
  if l2 < 4 then (zf_l (mz_up g 140 ((4 + l2) : Int).toNat 0) fun g10 => rc (l2 + 1) g10) else (zf_l (zF_X12_stepOn g) fun g11 => zL_X12_baggage_76 a1 3000000000 0 g11)
def zL_X12_baggage_50 (a1 : Int) : Nat → Int → mz_G → (Int × mz_G)
  | 0 => fun _ _ => default
  | k + 1 => zB_X12_baggage_50 a1 (zL_X12_baggage_50 a1 k)
theorem zL_X12_baggage_50_s {a1 : Int} {k : Nat} {l2 : Int} {g : mz_G} : zL_X12_baggage_50 a1 (k + 1) l2 g = zB_X12_baggage_50 a1 (zL_X12_baggage_50 a1 k) l2 g := rfl
def zF_X12_baggage (a1 : Int) (g : mz_G) : Int × mz_G :=
  zf_l (mz_up g 137 2 0) fun g1 => if a1 < 0 then (zJ_X12_baggage_17 a1 g1) else (zf_l (g1 137 15) fun v4 => if v4 < a1 then (zJ_X12_baggage_17 a1 g1) else (zf_l (mz_up g1 137 15 0) fun g5 => zf_l (mz_up g5 137 17 a1) fun g6 => zf_l (mz_up g6 137 16 0) fun g7 => zf_l (mz_up g7 137 22 0) fun g8 => zf_l (mz_up g8 137 24 (-1)) fun g9 => zL_X12_baggage_50 a1 3000000000 0 g9))
def zF_X12_follows (a1 : Int) (a2 : Int) (g : mz_G) : Int :=
  zf_l (g 142 (a1 : Int).toNat) fun v1 => zf_l (zF_X12_letterOf a1 (v1 - 1) g) fun v2 => zf_l (zF_X12_letterOf a2 0 g) fun v3 => if v2 = v3 then (1) else (0)
def zJ_X12_tellRow_117 (rc : Int → Int → Int → mz_G → mz_G) (l1 : Int) (l2 : Int) (l3 : Int) (g : mz_G) : mz_G :=
  rc l1 l2 (l3 + 1) g
def zJ_X12_tellRow_98 (rc : Int → Int → Int → Int → Int → Int) (l1 : Int) (l2 : Int) (l3 : Int) (l4 : Int) (l5 : Int) (g : mz_G) : Int :=
  rc l1 l2 l3 l4 (l5 + 1)
def zB_X12_tellRow_56 (g : mz_G) (rc : Int → Int → Int → Int → Int → Int) (l1 : Int) (l2 : Int) (l3 : Int) (l4 : Int) (l5 : Int) : Int :=
  zf_l (g 140 0) fun v5 => if l5 < v5 then (zf_l (zF_X12_isOf l2 l5 g) fun v6 => if v6 = 0 then (zf_l (zF_X12_pushed l3 l5 g) fun v7 => zf_l (zF_X12_madeOn l5 l2 g) fun v8 => zf_l (min l4 (v7 + v8)) fun v9 => zJ_X12_tellRow_98 rc l1 l2 l3 v9 l5 g) else (zJ_X12_tellRow_98 rc l1 l2 l3 l4 l5 g)) else (l4)
def zL_X12_tellRow_56 (g : mz_G) : Nat → Int → Int → Int → Int → Int → Int
  | 0 => fun _ _ _ _ _ => default
  | k + 1 => zB_X12_tellRow_56 g (zL_X12_tellRow_56 g k)
theorem zL_X12_tellRow_56_s {g : mz_G} {k : Nat} {l1 : Int} {l2 : Int} {l3 : Int} {l4 : Int} {l5 : Int} : zL_X12_tellRow_56 g (k + 1) l1 l2 l3 l4 l5 = zB_X12_tellRow_56 g (zL_X12_tellRow_56 g k) l1 l2 l3 l4 l5 := rfl
def zJ_X12_tellRow_51 (rc : Int → Int → Int → mz_G → mz_G) (s0 : Int) (l1 : Int) (l2 : Int) (l3 : Int) (g : mz_G) : mz_G :=
  zf_l (zL_X12_tellRow_56 g 3000000000 l1 l2 l3 s0 0) fun v10 => zf_l (mz_shlI l3 8) fun v11 => zf_l (mz_up g 163 ((v11 + l2) : Int).toNat v10) fun g12 => zJ_X12_tellRow_117 rc l1 l2 l3 g12
def zB_X12_tellRow_19 (rc : Int → Int → Int → mz_G → mz_G) (l1 : Int) (l2 : Int) (l3 : Int) (g : mz_G) : mz_G :=
  zf_l (g 140 0) fun v3 => if l3 < v3 then (zf_l (zF_X12_isOf l2 l3 g) fun v4 => if v4 = 0 then (zJ_X12_tellRow_117 rc l1 l2 l3 g) else (if l2 = l1 then (zJ_X12_tellRow_51 rc 0 l1 l2 l3 g) else (zJ_X12_tellRow_51 rc 100000 l1 l2 l3 g))) else (g)
def zL_X12_tellRow_19 : Nat → Int → Int → Int → mz_G → mz_G
  | 0 => fun _ _ _ _ => default
  | k + 1 => zB_X12_tellRow_19 (zL_X12_tellRow_19 k)
theorem zL_X12_tellRow_19_s {k : Nat} {l1 : Int} {l2 : Int} {l3 : Int} {g : mz_G} : zL_X12_tellRow_19 (k + 1) l1 l2 l3 g = zB_X12_tellRow_19 (zL_X12_tellRow_19 k) l1 l2 l3 g := rfl
def zB_X12_tellRow_13 (rc : Int → Int → mz_G → mz_G) (l1 : Int) (l2 : Int) (g : mz_G) : mz_G :=
  if (0 : Int) < l2 then (zf_l (zL_X12_tellRow_19 3000000000 l1 l2 0 g) fun g13 => rc l1 (l2 + (-1)) g13) else (g)
def zL_X12_tellRow_13 : Nat → Int → Int → mz_G → mz_G
  | 0 => fun _ _ _ => default
  | k + 1 => zB_X12_tellRow_13 (zL_X12_tellRow_13 k)
theorem zL_X12_tellRow_13_s {k : Nat} {l1 : Int} {l2 : Int} {g : mz_G} : zL_X12_tellRow_13 (k + 1) l1 l2 g = zB_X12_tellRow_13 (zL_X12_tellRow_13 k) l1 l2 g := rfl
def zF_X12_tellRow (g : mz_G) : mz_G :=
  zf_l (g 140 0) fun v1 => zf_l (mz_shlI 1 v1) fun v2 => zL_X12_tellRow_13 3000000000 (v2 - 1) (v2 - 1) g
def zJ_X12_row_97 (a1 : Int) (rc : Int → Int → Int → (Int × mz_G)) (l2 : Int) (l3 : Int) (l4 : Int) (g : mz_G) : Int × mz_G :=
  rc l2 l3 (l4 + 1)
def zJ_X12_row_187 (a1 : Int) (rc : Int → Int → Int → Int → Int → Int) (l2 : Int) (l4 : Int) (l5 : Int) (l6 : Int) (l7 : Int) (g : mz_G) : Int :=
  rc l2 l4 l5 l6 (l7 + (-1))
def zB_X12_row_137 (a1 : Int) (g : mz_G) (rc : Int → Int → Int → Int → Int → Int) (l2 : Int) (l4 : Int) (l5 : Int) (l6 : Int) (l7 : Int) : Int :=
  if l7 < 0 then (l6) else (zf_l (zF_X12_isOf l4 l7 g) fun v13 => if v13 = 0 then (zf_l (zF_X12_pushed l2 l7 g) fun v14 => zf_l (zF_X12_madeOn l7 l4 g) fun v15 => zf_l (mz_shlI l2 8) fun v16 => zf_l (g 163 ((v16 + l4) : Int).toNat) fun v17 => if (v14 + v15) = v17 then (zJ_X12_row_187 a1 rc l2 l4 l5 l7 l7 g) else (zJ_X12_row_187 a1 rc l2 l4 l5 l6 l7 g)) else (zJ_X12_row_187 a1 rc l2 l4 l5 l6 l7 g))
def zL_X12_row_137 (a1 : Int) (g : mz_G) : Nat → Int → Int → Int → Int → Int → Int
  | 0 => fun _ _ _ _ _ => default
  | k + 1 => zB_X12_row_137 a1 g (zL_X12_row_137 a1 g k)
theorem zL_X12_row_137_s {a1 : Int} {g : mz_G} {k : Nat} {l2 : Int} {l4 : Int} {l5 : Int} {l6 : Int} {l7 : Int} : zL_X12_row_137 a1 g (k + 1) l2 l4 l5 l6 l7 = zB_X12_row_137 a1 g (zL_X12_row_137 a1 g k) l2 l4 l5 l6 l7 := rfl
def zB_X12_row_118 (a1 : Int) (g : mz_G) (rc : Int → Int → Int → (Int × mz_G)) (l2 : Int) (l4 : Int) (l5 : Int) : Int × mz_G :=
  if l5 < a1 then (zf_l (g 140 0) fun v12 => zf_l (zL_X12_row_137 a1 g 3000000000 l2 l4 l5 (-1) (v12 - 1)) fun v18 => zf_l (mz_shlI 1 v18) fun v19 => zf_l (mz_orI l4 v19) fun v20 => rc v18 v20 (l5 + 1)) else ((l2, g))
def zL_X12_row_118 (a1 : Int) (g : mz_G) : Nat → Int → Int → Int → (Int × mz_G)
  | 0 => fun _ _ _ => default
  | k + 1 => zB_X12_row_118 a1 g (zL_X12_row_118 a1 g k)
theorem zL_X12_row_118_s {a1 : Int} {g : mz_G} {k : Nat} {l2 : Int} {l4 : Int} {l5 : Int} : zL_X12_row_118 a1 g (k + 1) l2 l4 l5 = zB_X12_row_118 a1 g (zL_X12_row_118 a1 g k) l2 l4 l5 := rfl
def zB_X12_row_54 (a1 : Int) (g : mz_G) (rc : Int → Int → Int → (Int × mz_G)) (l2 : Int) (l3 : Int) (l4 : Int) : Int × mz_G :=
  zf_l (g 140 0) fun v8 => if l4 < v8 then (zf_l (g 142 (l4 : Int).toNat) fun v9 => zf_l (zF_X12_madeOn l4 0 g) fun v10 => if (v9 + v10) < l3 then (zJ_X12_row_97 a1 rc l4 (v9 + v10) l4 g) else (zJ_X12_row_97 a1 rc l2 l3 l4 g)) else (if a1 = (-1) then ((l3, g)) else (zf_l (mz_shlI 1 l2) fun v11 => zL_X12_row_118 a1 g 3000000000 l2 v11 0))
def zL_X12_row_54 (a1 : Int) (g : mz_G) : Nat → Int → Int → Int → (Int × mz_G)
  | 0 => fun _ _ _ => default
  | k + 1 => zB_X12_row_54 a1 g (zL_X12_row_54 a1 g k)
theorem zL_X12_row_54_s {a1 : Int} {g : mz_G} {k : Nat} {l2 : Int} {l3 : Int} {l4 : Int} : zL_X12_row_54 a1 g (k + 1) l2 l3 l4 = zB_X12_row_54 a1 g (zL_X12_row_54 a1 g k) l2 l3 l4 := rfl
def zF_X12_row (a1 : Int) (g : mz_G) : Int × mz_G :=
  zf_l (mz_up g 137 2 0) fun g1 => zf_l (g1 140 0) fun v2 => zf_l (zF_X12_isIn a1 (-1) (v2 - 1) g1) fun v3 => if v3 = 0 then (zf_m2 (zF_X12_fail 1 g1) fun v4 g5 => (v4, g5)) else (zf_l (g1 140 0) fun v6 => if v6 = 0 then ((0, g1)) else (zf_l (zF_X12_tellRow g1) fun g7 => zL_X12_row_54 a1 g7 3000000000 (-1) 100000 0))
def zJ_X12_tellChain_105 (rc : Int → Int → mz_G → mz_G) (l1 : Int) (l2 : Int) (g : mz_G) : mz_G :=
  rc l1 (l2 + 1) g
def zJ_X12_tellChain_87 (rc : Int → Int → Int → Int → Int) (l1 : Int) (l2 : Int) (l3 : Int) (l4 : Int) (g : mz_G) : Int :=
  rc l1 l2 l3 (l4 + 1)
def zB_X12_tellChain_43 (g : mz_G) (rc : Int → Int → Int → Int → Int) (l1 : Int) (l2 : Int) (l3 : Int) (l4 : Int) : Int :=
  zf_l (g 140 0) fun v5 => if l4 < v5 then (zf_l (zF_X12_isOf l1 l4 g) fun v6 => if v6 = 0 then (zf_l (zF_X12_follows l2 l4 g) fun v7 => if v7 = 0 then (zJ_X12_tellChain_87 rc l1 l2 l3 l4 g) else (zf_l (zF_X12_madeOn l4 l1 g) fun v8 => zf_l (max l3 (1 + v8)) fun v9 => zJ_X12_tellChain_87 rc l1 l2 v9 l4 g)) else (zJ_X12_tellChain_87 rc l1 l2 l3 l4 g)) else (l3)
def zL_X12_tellChain_43 (g : mz_G) : Nat → Int → Int → Int → Int → Int
  | 0 => fun _ _ _ _ => default
  | k + 1 => zB_X12_tellChain_43 g (zL_X12_tellChain_43 g k)
theorem zL_X12_tellChain_43_s {g : mz_G} {k : Nat} {l1 : Int} {l2 : Int} {l3 : Int} {l4 : Int} : zL_X12_tellChain_43 g (k + 1) l1 l2 l3 l4 = zB_X12_tellChain_43 g (zL_X12_tellChain_43 g k) l1 l2 l3 l4 := rfl
def zB_X12_tellChain_17 (rc : Int → Int → mz_G → mz_G) (l1 : Int) (l2 : Int) (g : mz_G) : mz_G :=
  zf_l (g 140 0) fun v3 => if l2 < v3 then (zf_l (zF_X12_isOf l1 l2 g) fun v4 => if v4 = 0 then (zJ_X12_tellChain_105 rc l1 l2 g) else (zf_l (zL_X12_tellChain_43 g 3000000000 l1 l2 0 0) fun v10 => zf_l (mz_shlI l2 8) fun v11 => zf_l (mz_up g 163 ((v11 + l1) : Int).toNat v10) fun g12 => zJ_X12_tellChain_105 rc l1 l2 g12)) else (g)
def zL_X12_tellChain_17 : Nat → Int → Int → mz_G → mz_G
  | 0 => fun _ _ _ => default
  | k + 1 => zB_X12_tellChain_17 (zL_X12_tellChain_17 k)
theorem zL_X12_tellChain_17_s {k : Nat} {l1 : Int} {l2 : Int} {g : mz_G} : zL_X12_tellChain_17 (k + 1) l1 l2 g = zB_X12_tellChain_17 (zL_X12_tellChain_17 k) l1 l2 g := rfl
def zB_X12_tellChain_11 (rc : Int → mz_G → mz_G) (l1 : Int) (g : mz_G) : mz_G :=
  if (0 : Int) < l1 then (zf_l (zL_X12_tellChain_17 3000000000 l1 0 g) fun g13 => rc (l1 + (-1)) g13) else (g)
def zL_X12_tellChain_11 : Nat → Int → mz_G → mz_G
  | 0 => fun _ _ => default
  | k + 1 => zB_X12_tellChain_11 (zL_X12_tellChain_11 k)
theorem zL_X12_tellChain_11_s {k : Nat} {l1 : Int} {g : mz_G} : zL_X12_tellChain_11 (k + 1) l1 g = zB_X12_tellChain_11 (zL_X12_tellChain_11 k) l1 g := rfl
def zF_X12_tellChain (g : mz_G) : mz_G :=
  zf_l (g 140 0) fun v1 => zf_l (mz_shlI 1 v1) fun v2 => zL_X12_tellChain_11 3000000000 (v2 - 1) g
def zJ_X12_chain_53 (a1 : Int) (rc : Int → Int → Int → (Int × mz_G)) (l2 : Int) (l3 : Int) (l4 : Int) (g : mz_G) : Int × mz_G :=
  rc l2 l3 (l4 + 1)
def zJ_X12_chain_168 (a1 : Int) (rc : Int → Int → Int → Int → Int → Int) (l2 : Int) (l4 : Int) (l5 : Int) (l6 : Int) (l7 : Int) (g : mz_G) : Int :=
  rc l2 l4 l5 l6 (l7 + (-1))
def zB_X12_chain_114 (a1 : Int) (g : mz_G) (rc : Int → Int → Int → Int → Int → Int) (l2 : Int) (l4 : Int) (l5 : Int) (l6 : Int) (l7 : Int) : Int :=
  if l7 < 0 then (l6) else (zf_l (zF_X12_isOf l4 l7 g) fun v10 => if v10 = 0 then (zf_l (zF_X12_follows l2 l7 g) fun v11 => if v11 = 0 then (zJ_X12_chain_168 a1 rc l2 l4 l5 l6 l7 g) else (zf_l (zF_X12_madeOn l7 l4 g) fun v12 => zf_l (mz_shlI l2 8) fun v13 => zf_l (g 163 ((v13 + l4) : Int).toNat) fun v14 => if (1 + v12) = v14 then (zJ_X12_chain_168 a1 rc l2 l4 l5 l7 l7 g) else (zJ_X12_chain_168 a1 rc l2 l4 l5 l6 l7 g))) else (zJ_X12_chain_168 a1 rc l2 l4 l5 l6 l7 g))
def zL_X12_chain_114 (a1 : Int) (g : mz_G) : Nat → Int → Int → Int → Int → Int → Int
  | 0 => fun _ _ _ _ _ => default
  | k + 1 => zB_X12_chain_114 a1 g (zL_X12_chain_114 a1 g k)
theorem zL_X12_chain_114_s {a1 : Int} {g : mz_G} {k : Nat} {l2 : Int} {l4 : Int} {l5 : Int} {l6 : Int} {l7 : Int} : zL_X12_chain_114 a1 g (k + 1) l2 l4 l5 l6 l7 = zB_X12_chain_114 a1 g (zL_X12_chain_114 a1 g k) l2 l4 l5 l6 l7 := rfl
def zB_X12_chain_95 (a1 : Int) (g : mz_G) (rc : Int → Int → Int → (Int × mz_G)) (l2 : Int) (l4 : Int) (l5 : Int) : Int × mz_G :=
  if l5 < a1 then (zf_l (g 140 0) fun v9 => zf_l (zL_X12_chain_114 a1 g 3000000000 l2 l4 l5 (-1) (v9 - 1)) fun v15 => zf_l (mz_shlI 1 v15) fun v16 => zf_l (mz_orI l4 v16) fun v17 => rc v15 v17 (l5 + 1)) else ((l2, g))
def zL_X12_chain_95 (a1 : Int) (g : mz_G) : Nat → Int → Int → Int → (Int × mz_G)
  | 0 => fun _ _ _ => default
  | k + 1 => zB_X12_chain_95 a1 g (zL_X12_chain_95 a1 g k)
theorem zL_X12_chain_95_s {a1 : Int} {g : mz_G} {k : Nat} {l2 : Int} {l4 : Int} {l5 : Int} : zL_X12_chain_95 a1 g (k + 1) l2 l4 l5 = zB_X12_chain_95 a1 g (zL_X12_chain_95 a1 g k) l2 l4 l5 := rfl
def zB_X12_chain_16 (a1 : Int) (g : mz_G) (rc : Int → Int → Int → (Int × mz_G)) (l2 : Int) (l3 : Int) (l4 : Int) : Int × mz_G :=
  zf_l (g 140 0) fun v3 => if l4 < v3 then (zf_l (zF_X12_madeOn l4 0 g) fun v4 => if l3 < (1 + v4) then (zJ_X12_chain_53 a1 rc l4 (1 + v4) l4 g) else (zJ_X12_chain_53 a1 rc l2 l3 l4 g)) else (zf_l (zF_X12_isIn a1 (-1) (l3 - 1) g) fun v5 => if v5 = 0 then (zf_m2 (zF_X12_fail 1 g) fun v6 g7 => (v6, g7)) else (if a1 = (-1) then ((l3, g)) else (zf_l (mz_shlI 1 l2) fun v8 => zL_X12_chain_95 a1 g 3000000000 l2 v8 0)))
def zL_X12_chain_16 (a1 : Int) (g : mz_G) : Nat → Int → Int → Int → (Int × mz_G)
  | 0 => fun _ _ _ => default
  | k + 1 => zB_X12_chain_16 a1 g (zL_X12_chain_16 a1 g k)
theorem zL_X12_chain_16_s {a1 : Int} {g : mz_G} {k : Nat} {l2 : Int} {l3 : Int} {l4 : Int} : zL_X12_chain_16 a1 g (k + 1) l2 l3 l4 = zB_X12_chain_16 a1 g (zL_X12_chain_16 a1 g k) l2 l3 l4 := rfl
def zF_X12_chain (a1 : Int) (g : mz_G) : Int × mz_G :=
  zf_l (mz_up g 137 2 0) fun g1 => zf_l (zF_X12_tellChain g1) fun g2 => zL_X12_chain_16 a1 g2 3000000000 (-1) 0 0
