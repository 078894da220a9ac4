/-! THE START, by program (wip/p2/tools/gen33.py) -/
def st_ws : List (String × Nat × String) := [("GrownWords$Reader", 55, "word"), ("GrownWords$Reader", 71, "trunk"), ("GrownWords$Reader", 73, "treaty"), ("GrownWords$Reader", 79, "heat"), ("GrownWords$Reader", 85, "grows"), ("GrownWords$Reader", 177, "not"), ("GrownWords$Reader", 203, "strap"), ("GrownWords$Reader", 205, "grown"), ("GrownWords$Reader", 207, "said"), ("GrownWords$Reader", 209, "meant"), ("GrownWords$Reader", 211, "overlap"), ("GrownWords$Reader", 213, "day"), ("GrownWords$Reader", 215, "or"), ("GrownWords$Reader", 217, "and"), ("GrownWordsModel", 11, "trunk"), ("GrownWordsModel", 13, "treaty"), ("GrownWordsModel", 19, "strap"), ("GrownWordsModel", 21, "heat"), ("GrownWordsModel", 23, "grown"), ("GrownWordsModel", 25, "said"), ("GrownWordsModel", 27, "meant"), ("GrownWordsModel", 29, "overlap"), ("GrownWordsModel", 31, "day"), ("GrownWordsModel", 281, "grows"), ("GrownWordsModel", 256, "not"), ("GrownWordsModel", 264, "and"), ("GrownWordsModel", 269, "or"), ("GrownWordsModel", 289, "word")]
def st_w (j : Nat) : String × Nat × String := (mm_at st_ws j).getD ("", 0, "")
def st_tm (j : Nat) : Jvm.Term := .string (st_w j).1 (st_w j).2.1
def st_len (j : Nat) : Nat := ((mm_at mm_strs j).getD []).length
def st_byte (j i : Nat) : Int32 := nI (((mm_at mm_strs j).getD []).getD i 0)
abbrev st_F : List Jvm.Cond := flatC (Jvm.Cond.and given_1 narrow_1)
theorem st_m0 : ∀ j, j < 28 → st_len j < 2 ^ 31 := by decide +kernel
/-- a number of a word about a string, so that few words are looked at in full -/
def st_key : Jvm.Cond → Nat
  | .exactly (.string _ x) _ => 1000000 + x
  | .eq (.field (.string _ x) _ _ _) (.int _) => 2000000 + x
  | .arrayOf (.field (.string _ x) _ _ _) _ => 3000000 + x
  | .eq (.length (.field (.string _ x) _ _ _)) _ => 4000000 + x
  | .eq (.elem (.field (.string _ x) _ _ _) (.int i)) _ => 5000000 + 64 * x + i.toInt.toNat
  | _ => 0
def st_kf (X : Jvm.Cond) : Bool := st_F.any (fun c => Nat.beq (st_key c) (st_key X) && decide (c = X))
theorem st_kf_m {X : Jvm.Cond} (h : st_kf X = true) : X ∈ st_F := by
  obtain ⟨c, h1, h2⟩ := List.any_eq_true.mp h
  rw [Bool.and_eq_true] at h2
  rw [← of_decide_eq_true h2.2]
  exact h1
theorem st_n1 : ∀ j, j < 28 → st_kf (Jvm.Cond.exactly (st_tm j) "java/lang/String") = true := by decide +kernel
theorem st_m1 : ∀ j, j < 28 → (Jvm.Cond.exactly (st_tm j) "java/lang/String") ∈ st_F := fun j hj => st_kf_m (st_n1 j hj)
theorem st_n2 : ∀ j, j < 28 → st_kf (Jvm.Cond.eq (.field (st_tm j) "java/lang/String" "coder" "B") (.int 0)) = true := by decide +kernel
theorem st_m2 : ∀ j, j < 28 → (Jvm.Cond.eq (.field (st_tm j) "java/lang/String" "coder" "B") (.int 0)) ∈ st_F := fun j hj => st_kf_m (st_n2 j hj)
theorem st_n3 : ∀ j, j < 28 → st_kf (Jvm.Cond.arrayOf (.field (st_tm j) "java/lang/String" "value" "[B") .byte) = true := by decide +kernel
theorem st_m3 : ∀ j, j < 28 → (Jvm.Cond.arrayOf (.field (st_tm j) "java/lang/String" "value" "[B") .byte) ∈ st_F := fun j hj => st_kf_m (st_n3 j hj)
theorem st_n4 : ∀ j, j < 28 → st_kf (Jvm.Cond.eq (.length (.field (st_tm j) "java/lang/String" "value" "[B")) (.int (Int32.ofNat (st_len j)))) = true := by decide +kernel
theorem st_m4 : ∀ j, j < 28 → (Jvm.Cond.eq (.length (.field (st_tm j) "java/lang/String" "value" "[B")) (.int (Int32.ofNat (st_len j)))) ∈ st_F := fun j hj => st_kf_m (st_n4 j hj)
theorem st_n5 : ∀ j, j < 28 → ∀ i, i < st_len j → st_kf (Jvm.Cond.eq (.elem (.field (st_tm j) "java/lang/String" "value" "[B") (.int (Int32.ofNat i))) (.int (st_byte j i))) = true := by decide +kernel
theorem st_m5 : ∀ j, j < 28 → ∀ i, i < st_len j → (Jvm.Cond.eq (.elem (.field (st_tm j) "java/lang/String" "value" "[B") (.int (Int32.ofNat i))) (.int (st_byte j i))) ∈ st_F := fun j hj i hi => st_kf_m (st_n5 j hj i hi)
theorem st_in {w : Jvm.Cond} (h : w ∈ tables_1) : w ∈ lw_tbl := List.mem_append_right _ h
theorem st_inst : ∀ q ∈ mm_cl, Jvm.Cond.instantiable q.1 q.2.2 ∈ mm_TW := List.forall_mem_cons.mpr ⟨wd_47, List.forall_mem_cons.mpr ⟨wd_34, List.forall_mem_cons.mpr ⟨wd_299, List.forall_mem_cons.mpr ⟨wd_309, List.forall_mem_cons.mpr ⟨wd_197, List.forall_mem_cons.mpr ⟨wd_156, List.forall_mem_cons.mpr ⟨wd_262, List.forall_mem_cons.mpr ⟨wd_203, List.forall_mem_cons.mpr ⟨wd_99, List.forall_mem_cons.mpr ⟨wd_92, List.forall_mem_cons.mpr ⟨wd_40, List.forall_mem_cons.mpr ⟨wd_26, List.forall_mem_cons.mpr ⟨wd_1329, fun _ h => absurd h List.not_mem_nil⟩⟩⟩⟩⟩⟩⟩⟩⟩⟩⟩⟩⟩
theorem st_r0 : (28 : Nat) = 28 ∧ (Jvm.Cond.stringRef "GrownWords$Reader" 55 "word") ∈ lw_tbl := ⟨rfl, st_in (mm_tm mm_c23_h 2 rfl)⟩
theorem st_r1 : (28 : Nat) = 28 ∧ (Jvm.Cond.stringRef "GrownWords$Reader" 71 "trunk") ∈ lw_tbl := ⟨rfl, st_in (mm_tm mm_c26_h 14 rfl)⟩
theorem st_r2 : (28 : Nat) = 28 ∧ (Jvm.Cond.stringRef "GrownWords$Reader" 73 "treaty") ∈ lw_tbl := ⟨rfl, st_in (mm_tm mm_c26_h 15 rfl)⟩
theorem st_r3 : (28 : Nat) = 28 ∧ (Jvm.Cond.stringRef "GrownWords$Reader" 79 "heat") ∈ lw_tbl := ⟨rfl, st_in (mm_tm mm_c26_h 24 rfl)⟩
theorem st_r4 : (28 : Nat) = 28 ∧ (Jvm.Cond.stringRef "GrownWords$Reader" 85 "grows") ∈ lw_tbl := ⟨rfl, st_in (mm_tm mm_c27_h 2 rfl)⟩
theorem st_r5 : (28 : Nat) = 28 ∧ (Jvm.Cond.stringRef "GrownWords$Reader" 177 "not") ∈ lw_tbl := ⟨rfl, st_in (mm_tm mm_c27_h 25 rfl)⟩
theorem st_r6 : (28 : Nat) = 28 ∧ (Jvm.Cond.stringRef "GrownWords$Reader" 203 "strap") ∈ lw_tbl := ⟨rfl, st_in (mm_tm mm_c27_h 30 rfl)⟩
theorem st_r7 : (28 : Nat) = 28 ∧ (Jvm.Cond.stringRef "GrownWords$Reader" 205 "grown") ∈ lw_tbl := ⟨rfl, st_in (mm_tm mm_c27_h 31 rfl)⟩
theorem st_r8 : (28 : Nat) = 28 ∧ (Jvm.Cond.stringRef "GrownWords$Reader" 207 "said") ∈ lw_tbl := ⟨rfl, st_in (mm_tm mm_c28_h 0 rfl)⟩
theorem st_r9 : (28 : Nat) = 28 ∧ (Jvm.Cond.stringRef "GrownWords$Reader" 209 "meant") ∈ lw_tbl := ⟨rfl, st_in (mm_tm mm_c28_h 1 rfl)⟩
theorem st_r10 : (28 : Nat) = 28 ∧ (Jvm.Cond.stringRef "GrownWords$Reader" 211 "overlap") ∈ lw_tbl := ⟨rfl, st_in (mm_tm mm_c28_h 2 rfl)⟩
theorem st_r11 : (28 : Nat) = 28 ∧ (Jvm.Cond.stringRef "GrownWords$Reader" 213 "day") ∈ lw_tbl := ⟨rfl, st_in (mm_tm mm_c28_h 3 rfl)⟩
theorem st_r12 : (28 : Nat) = 28 ∧ (Jvm.Cond.stringRef "GrownWords$Reader" 215 "or") ∈ lw_tbl := ⟨rfl, st_in (mm_tm mm_c28_h 28 rfl)⟩
theorem st_r13 : (28 : Nat) = 28 ∧ (Jvm.Cond.stringRef "GrownWords$Reader" 217 "and") ∈ lw_tbl := ⟨rfl, st_in (mm_tm mm_c28_h 29 rfl)⟩
theorem st_r14 : (28 : Nat) = 28 ∧ (Jvm.Cond.stringRef "GrownWordsModel" 11 "trunk") ∈ lw_tbl := ⟨rfl, st_in (mm_tm mm_c41_h 24 rfl)⟩
theorem st_r15 : (28 : Nat) = 28 ∧ (Jvm.Cond.stringRef "GrownWordsModel" 13 "treaty") ∈ lw_tbl := ⟨rfl, st_in (mm_tm mm_c41_h 25 rfl)⟩
theorem st_r16 : (28 : Nat) = 28 ∧ (Jvm.Cond.stringRef "GrownWordsModel" 19 "strap") ∈ lw_tbl := ⟨rfl, st_in (mm_tm mm_c41_h 26 rfl)⟩
theorem st_r17 : (28 : Nat) = 28 ∧ (Jvm.Cond.stringRef "GrownWordsModel" 21 "heat") ∈ lw_tbl := ⟨rfl, st_in (mm_tm mm_c41_h 27 rfl)⟩
theorem st_r18 : (28 : Nat) = 28 ∧ (Jvm.Cond.stringRef "GrownWordsModel" 23 "grown") ∈ lw_tbl := ⟨rfl, st_in (mm_tm mm_c41_h 28 rfl)⟩
theorem st_r19 : (28 : Nat) = 28 ∧ (Jvm.Cond.stringRef "GrownWordsModel" 25 "said") ∈ lw_tbl := ⟨rfl, st_in (mm_tm mm_c41_h 29 rfl)⟩
theorem st_r20 : (28 : Nat) = 28 ∧ (Jvm.Cond.stringRef "GrownWordsModel" 27 "meant") ∈ lw_tbl := ⟨rfl, st_in (mm_tm mm_c41_h 30 rfl)⟩
theorem st_r21 : (28 : Nat) = 28 ∧ (Jvm.Cond.stringRef "GrownWordsModel" 29 "overlap") ∈ lw_tbl := ⟨rfl, st_in (mm_tm mm_c41_h 31 rfl)⟩
theorem st_r22 : (28 : Nat) = 28 ∧ (Jvm.Cond.stringRef "GrownWordsModel" 31 "day") ∈ lw_tbl := ⟨rfl, st_in (mm_tm mm_c42_h 0 rfl)⟩
theorem st_r23 : (28 : Nat) = 28 ∧ (Jvm.Cond.stringRef "GrownWordsModel" 281 "grows") ∈ lw_tbl := ⟨rfl, st_in (mm_tm mm_c49_h 13 rfl)⟩
theorem st_r24 : (28 : Nat) = 28 ∧ (Jvm.Cond.stringRef "GrownWordsModel" 256 "not") ∈ lw_tbl := ⟨rfl, st_in (mm_tm mm_c50_h 14 rfl)⟩
theorem st_r25 : (28 : Nat) = 28 ∧ (Jvm.Cond.stringRef "GrownWordsModel" 264 "and") ∈ lw_tbl := ⟨rfl, st_in (mm_tm mm_c51_h 3 rfl)⟩
theorem st_r26 : (28 : Nat) = 28 ∧ (Jvm.Cond.stringRef "GrownWordsModel" 269 "or") ∈ lw_tbl := ⟨rfl, st_in (mm_tm mm_c51_h 4 rfl)⟩
theorem st_r27 : (28 : Nat) = 28 ∧ (Jvm.Cond.stringRef "GrownWordsModel" 289 "word") ∈ lw_tbl := ⟨rfl, st_in (mm_tm mm_c51_h 17 rfl)⟩
theorem st_str (own i j : Nat) (h : mm_tab mm_strT own i = some j) : j < 28 ∧ ∃ tx, st_tm j = .string (mm_cn own) i ∧ (Jvm.Cond.stringRef (mm_cn own) i tx) ∈ lw_tbl := mm_tab_of (P := (fun own i (j : Nat) => j < 28 ∧ ∃ tx, st_tm j = .string (mm_cn own) i ∧ (Jvm.Cond.stringRef (mm_cn own) i tx) ∈ lw_tbl)) (T := mm_strT) (⟨trivial, ⟨trivial, ⟨trivial, ⟨trivial, ⟨⟨⟨by decide, "word", rfl, st_r0.2⟩, ⟨⟨by decide, "trunk", rfl, st_r1.2⟩, ⟨⟨by decide, "treaty", rfl, st_r2.2⟩, ⟨⟨by decide, "heat", rfl, st_r3.2⟩, ⟨⟨by decide, "grows", rfl, st_r4.2⟩, ⟨⟨by decide, "not", rfl, st_r5.2⟩, ⟨⟨by decide, "strap", rfl, st_r6.2⟩, ⟨⟨by decide, "grown", rfl, st_r7.2⟩, ⟨⟨by decide, "said", rfl, st_r8.2⟩, ⟨⟨by decide, "meant", rfl, st_r9.2⟩, ⟨⟨by decide, "overlap", rfl, st_r10.2⟩, ⟨⟨by decide, "day", rfl, st_r11.2⟩, ⟨⟨by decide, "or", rfl, st_r12.2⟩, ⟨⟨by decide, "and", rfl, st_r13.2⟩, trivial⟩⟩⟩⟩⟩⟩⟩⟩⟩⟩⟩⟩⟩⟩, ⟨trivial, ⟨trivial, ⟨trivial, ⟨trivial, ⟨trivial, ⟨trivial, ⟨trivial, ⟨⟨⟨by decide, "trunk", rfl, st_r14.2⟩, ⟨⟨by decide, "treaty", rfl, st_r15.2⟩, ⟨⟨by decide, "strap", rfl, st_r16.2⟩, ⟨⟨by decide, "heat", rfl, st_r17.2⟩, ⟨⟨by decide, "grown", rfl, st_r18.2⟩, ⟨⟨by decide, "said", rfl, st_r19.2⟩, ⟨⟨by decide, "meant", rfl, st_r20.2⟩, ⟨⟨by decide, "overlap", rfl, st_r21.2⟩, ⟨⟨by decide, "day", rfl, st_r22.2⟩, ⟨⟨by decide, "grows", rfl, st_r23.2⟩, ⟨⟨by decide, "not", rfl, st_r24.2⟩, ⟨⟨by decide, "and", rfl, st_r25.2⟩, ⟨⟨by decide, "or", rfl, st_r26.2⟩, ⟨⟨by decide, "word", rfl, st_r27.2⟩, trivial⟩⟩⟩⟩⟩⟩⟩⟩⟩⟩⟩⟩⟩⟩, ⟨trivial, ⟨trivial, ⟨trivial, ⟨trivial, ⟨trivial, ⟨trivial, trivial⟩⟩⟩⟩⟩⟩⟩⟩⟩⟩⟩⟩⟩⟩⟩⟩⟩⟩⟩) h
theorem st_w1 : (Jvm.Cond.arrayClass .int) ∈ lw_tbl := by decide +kernel
theorem st_w2 : (Jvm.Cond.arrayClass .byte) ∈ lw_tbl := by decide +kernel
theorem st_w3 : (Jvm.Cond.arrayClass .long) ∈ lw_tbl := by decide +kernel
theorem st_w4 : (Jvm.Cond.arrayOver (.object RX0)) ∈ lw_tbl := by decide +kernel
theorem st_w5 : (Jvm.Cond.arrayOver (.object RX8)) ∈ lw_tbl := by decide +kernel
theorem st_w6 : (Jvm.Cond.arrayOver (.object "java/lang/String")) ∈ lw_tbl := by decide +kernel
theorem st_w7 : (Jvm.Cond.laysStatic "java/lang/String" "COMPACT_STRINGS" "Z") ∈ lw_tbl := by decide +kernel
theorem st_w8 : (Jvm.Cond.initialized "java/lang/String") ∈ lw_tbl := by decide +kernel
theorem st_w9 : (Jvm.Cond.eq (.static "java/lang/String" "COMPACT_STRINGS" "Z") (.int 1)) ∈ st_F := by decide +kernel
theorem st_w10 : (Jvm.Cond.laysStatic "jdk/internal/util/Preconditions" "SIOOBE_FORMATTER" "Ljava/util/function/BiFunction;") ∈ lw_tbl := by decide +kernel
theorem st_w11 : (Jvm.Cond.initialized "jdk/internal/util/Preconditions") ∈ lw_tbl := by decide +kernel
theorem st_w12 : (Jvm.Cond.isRef (.static "jdk/internal/util/Preconditions" "SIOOBE_FORMATTER" "Ljava/util/function/BiFunction;")) ∈ st_F := by decide +kernel
theorem st_w13 : (Jvm.Cond.laysStatic "java/lang/Throwable" "UNASSIGNED_STACK" "[Ljava/lang/StackTraceElement;") ∈ lw_tbl := by decide +kernel
theorem st_w14 : (Jvm.Cond.initialized "java/lang/Throwable") ∈ lw_tbl := by decide +kernel
theorem st_w15 : (Jvm.Cond.isRef (.static "java/lang/Throwable" "UNASSIGNED_STACK" "[Ljava/lang/StackTraceElement;")) ∈ st_F := by decide +kernel
theorem st_w16 : (Jvm.Cond.laysStatic "java/lang/Throwable" "SUPPRESSED_SENTINEL" "Ljava/util/List;") ∈ lw_tbl := by decide +kernel
theorem st_w17 : (Jvm.Cond.isRef (.static "java/lang/Throwable" "SUPPRESSED_SENTINEL" "Ljava/util/List;")) ∈ st_F := by decide +kernel
theorem st_w18 : (Jvm.Cond.not (.castable "java/lang/IllegalArgumentException" "java/util/NoSuchElementException")) ∈ st_F := by decide +kernel
/-! THE START: what the claim's words give of the machine -/
section ST
variable {args : Array Value} {s : State}
theorem st_int (h : (Jvm.Cond.arrayClass .int).before args s = true) : ∃ cA, ArrOfT s cA .int ∧ va_RA s cA .int := by
  obtain ⟨cA, kA, comp, h1, h2, h3⟩ := Cond.arrayClass_spec h
  exact ⟨cA, fun n z => ⟨fun k h => (by cases h), kA, h2, comp, h3⟩, h1⟩
theorem st_byt (h : (Jvm.Cond.arrayClass .byte).before args s = true) : ∃ cA, ArrOfT s cA .byte ∧ va_RA s cA .byte := by
  obtain ⟨cA, kA, comp, h1, h2, h3⟩ := Cond.arrayClass_spec h
  exact ⟨cA, fun n z => ⟨fun k h => (by cases h), kA, h2, comp, h3⟩, h1⟩
theorem st_lon (h : (Jvm.Cond.arrayClass .long).before args s = true) : ∃ cA, ArrOfT s cA .long ∧ va_RA s cA .long := by
  obtain ⟨cA, kA, comp, h1, h2, h3⟩ := Cond.arrayClass_spec h
  exact ⟨cA, fun n z => ⟨fun k h => (by cases h), kA, h2, comp, h3⟩, h1⟩
theorem st_obj {C : String} (h : (Jvm.Cond.arrayOver (.object C)).before args s = true) : ∃ cA, ArrOfT s cA (.object C) ∧ va_RA s cA (.object C) := by
  obtain ⟨comp, c, k, h1, h2, h3, h4, h5⟩ := Cond.arrayOver_spec h
  exact ⟨c, fun n z => ⟨fun k h => (by cases h), k, h3, comp, h4⟩, k, comp, h3, h4, h1, h5⟩
theorem st_K (hts : ∀ w ∈ lw_tbl, w.before args s = true) : ∃ (D : va_G) (cA : Nat → ClassId), va_K D mm_cl (mm_tys cA) s := by
  have htw : ∀ w ∈ mm_TW, w.before args s = true := fun w hw => hts w (List.mem_filter.mp hw).1
  have key : ∀ k : Nat, ∃ x : ClassId × (Nat → Nat), ∀ q, mm_cl[k]? = some q → u_Kn s q.1 q.2.1 q.2.2 x.1 x.2 := by
    intro k
    cases hq : mm_cl[k]? with
    | none => exact ⟨((st_int (hts _ st_w1)).choose, fun _ => 0), fun q h => by cases h⟩
    | some q =>
      have hf := mm_FC_ok k q (by rw [mm_at_get]; exact hq)
      obtain ⟨cC, iS, h⟩ := u_known (C := q.1) (T := q.2.1) (N := q.2.2) (n := q.2.2) htw hf.1 (htw _ (st_inst q (List.mem_of_getElem? hq)))
      exact ⟨(cC, iS), fun q' h' => by cases h'; exact h⟩
  obtain ⟨f, hf⟩ := Classical.axiomOfChoice key
  obtain ⟨c0, h0⟩ := st_int (hts _ st_w1)
  obtain ⟨c1, h1⟩ := st_byt (hts _ st_w2)
  obtain ⟨c2, h2⟩ := st_lon (hts _ st_w3)
  obtain ⟨c3, h3⟩ := st_obj (hts _ st_w4)
  obtain ⟨c4, h4⟩ := st_obj (hts _ st_w5)
  obtain ⟨c5, h5⟩ := st_obj (hts _ st_w6)
  refine ⟨(fun k => (f k).1, fun k => (f k).2), fun k => if k = 100 then c0 else if k = 101 then c1 else if k = 102 then c2 else if k = 103 then c3 else if k = 104 then c4 else c5, fun k q h => hf k q h, fun k q h => ?_⟩
  match k, h with
  | 0, h => cases h; exact h0
  | 1, h => cases h; exact h1
  | 2, h => cases h; exact h2
  | 3, h => cases h; exact h3
  | 4, h => cases h; exact h4
  | 5, h => cases h; exact h5
  | k + 6, h => cases h
theorem st_S {A : Nat → Prop} (hs : ∀ w ∈ st_F, w.before args s = true) (hA : ∀ a : Nat, a < s.heap.size → ¬ A a) : ∃ adK adV : Nat → Nat, ∀ j, j < 28 → (st_tm j).eval args s none [] s = some (.ref (adK j)) ∧ va_O "java/lang/String" (adK j) A s s.heap ∧ va_OF "java/lang/String" "coder" "B" (.int 0) (adK j) A s s.heap ∧ va_OF "java/lang/String" "value" "[B" (.ref (adV j)) (adK j) A s s.heap ∧ va_T .byte (adV j) (st_len j) (fun i => .int (st_byte j i)) A s s.heap := by
  have h0 : ∀ j : Nat, ∃ q : Nat × Nat, j < 28 → (st_tm j).eval args s none [] s = some (.ref q.1) ∧ va_O "java/lang/String" q.1 A s s.heap ∧ va_OF "java/lang/String" "coder" "B" (.int 0) q.1 A s s.heap ∧ va_OF "java/lang/String" "value" "[B" (.ref q.2) q.1 A s s.heap ∧ va_T .byte q.2 (st_len j) (fun i => .int (st_byte j i)) A s s.heap := by
    intro j
    by_cases hj : j < 28
    · obtain ⟨a, c, cA, kA, q1, q2, q3, q4, q5, q6, -⟩ := Cond.exactly_spec (args := args) (first := s) (o := none) (s := s) (idx := []) (t := st_tm j) (cls := "java/lang/String") (hs _ (st_m1 j hj))
      obtain ⟨t, ht, hT⟩ := va_Tof (f := fun i => .int (st_byte j i)) (A := A) (st_m0 j hj) (hs _ (st_m3 j hj)) (va_eqt (hs _ (st_m4 j hj))) (fun i hi => va_eqt (hs _ (st_m5 j hj i hi))) hA
      exact ⟨(a, t), fun _ => ⟨q1, ⟨cA, q3, q5, by rw [q6]; exact q2, hA a (Array.getElem?_eq_some_iff.mp q3).1⟩, vk_OFof q1 (va_eqt (hs _ (st_m2 j hj))) hA, vk_OFof q1 ht hA, hT⟩⟩
    · exact ⟨(0, 0), fun h => absurd h hj⟩
  obtain ⟨ad, had⟩ := Classical.axiomOfChoice h0
  exact ⟨fun j => (ad j).1, fun j => (ad j).2, fun j hj => had j hj⟩
end ST
def st_a (b t : Nat) (K V : Nat → Nat) : Nat → Nat := fun k => if k = 5000 then b else if k = 4001 then t else if k < 2000 then K (k - 1000) else V (k - 2000)
theorem st_aK {b t : Nat} {K V : Nat → Nat} {j : Nat} (hj : j < 28) : st_a b t K V (1000 + j) = K j := by
  unfold st_a
  rw [if_neg (by omega), if_neg (by omega), if_pos (by omega), Nat.add_sub_cancel_left]
theorem st_aV {b t : Nat} {K V : Nat → Nat} {j : Nat} (hj : j < 28) : st_a b t K V (2000 + j) = V j := by
  unfold st_a
  rw [if_neg (by omega), if_neg (by omega), if_neg (by omega), Nat.add_sub_cancel_left]
def st_g (xs : Nat → Int32) : mz_G := fun k j => if 2000 ≤ k ∧ k < 2028 then (st_byte (k - 2000) j).toInt else if k = 5000 then (xs j).toInt else 0
theorem st_g0 (xs : Nat → Int32) : ∀ k j : Nat, k < 1000 → st_g xs k j = 0 := fun k j h => by
  unfold st_g
  rw [if_neg (by omega), if_neg (by omega)]
theorem st_SH {L q : Nat} (h : 180 ≤ q) : mm_SH L q = if q = 5000 then (106, L) else if 1000 ≤ q ∧ q < 1028 then (107, ((mm_at mm_strs (q - 1000)).getD []).length) else if 2000 ≤ q ∧ q < 2028 then (108, ((mm_at mm_strs (q - 2000)).getD []).length) else (999, 0) := by
  unfold mm_SH
  rw [mm_at_get, List.getElem?_eq_none (by rw [mb_SHl]; omega)]
theorem st_sh {rs : List (List (Nat × Nat))} {g : mz_G} {so : Option Nat} {L sl q : Nat} (h : 1000 ≤ q) : mm_sh (mb 0 rs g so L sl) q = mm_SH L q := if_pos (Or.inr h)
theorem st_wf {L : Nat} {xs : Nat → Int32} {so : Option Nat} (hso : so = none ∨ so = some 4001) : mm_wf L xs so (mb 0 mbR0 (st_g xs) so L 0) := by
  refine ⟨Nat.zero_le _, fun q h0 h1 => ?_, fun q h0 h1 => ?_, fun q h => absurd h (Nat.not_lt_zero _), fun j hj => ⟨?_, ?_, fun i => ?_⟩, ?_, fun i => ?_, ?_, hso, fun q h0 h1 => ?_, fun q h1 => ?_, fun q h1 => ?_, fun q j k h => ?_⟩
  · show (mb_S 0 L q).1 = 999
    unfold mb_S
    rw [if_neg (by omega)]
  · rw [st_sh (by omega), st_SH (by omega)] at h1
    split at h1
    · dsimp only at h1; omega
    · split at h1
      · dsimp only at h1; omega
      · split at h1
        · dsimp only at h1; omega
        · dsimp only at h1; omega
  · rw [st_sh (by omega), st_SH (by omega), if_neg (by omega), if_pos (by omega), Nat.add_sub_cancel_left]
  · rw [st_sh (by omega), st_SH (by omega), if_neg (by omega), if_neg (by omega), if_pos (by omega), Nat.add_sub_cancel_left]
  · show Int32.ofInt (st_g xs (2000 + j) i) = _
    unfold st_g
    rw [if_pos (by omega), Nat.add_sub_cancel_left, Int32.ofInt_toInt]
    rfl
  · rw [st_sh (by omega), st_SH (by omega), if_pos rfl]
  · show Int32.ofInt (st_g xs 5000 i) = _
    unfold st_g
    rw [if_neg (by omega), if_pos rfl, Int32.ofInt_toInt]
  · show mb_R so mbR0 4000 0 = so
    unfold mb_R
    rw [if_pos ⟨rfl, rfl⟩]
  · rw [st_sh (by omega), st_SH (by omega)] at h1
    split at h1
    · cases h1
    · split at h1
      · omega
      · split at h1
        · cases h1
        · cases h1
  · by_cases hq : 1000 ≤ q
    · rw [st_sh hq, st_SH (by omega)] at h1
      split at h1
      · cases h1
      · split at h1
        · cases h1
        · split at h1
          · assumption
          · cases h1
    · exfalso
      have e : (mm_sh (mb 0 mbR0 (st_g xs) so L 0) q) = (999, 0) := if_neg (by omega)
      rw [e] at h1
      cases h1
  · by_cases hq : 1000 ≤ q
    · rw [st_sh hq, st_SH (by omega)] at h1
      split at h1
      · assumption
      · split at h1
        · cases h1
        · split at h1
          · cases h1
          · cases h1
    · exfalso
      have e : (mm_sh (mb 0 mbR0 (st_g xs) so L 0) q) = (999, 0) := if_neg (by omega)
      rw [e] at h1
      cases h1
  · have h2 : mb_R so mbR0 q j = some k := h
    unfold mb_R at h2
    split at h2
    · rcases hso with z | z
      · rw [z] at h2; cases h2
      · rw [z] at h2; cases h2; exact Or.inr (by decide)
    · rw [mbE0.2 q j (Nat.zero_le _)] at h2
      cases h2
theorem st_told0 (j : Nat) : (mz_toldb j).1 ≤ 0 ∧ 0 ≤ (mz_toldb j).2 := by
  unfold mz_toldb
  split
  · decide
  · split
    · decide
    · split <;> decide
theorem st_row0 (j : Nat) : (mz_rowb j).1 ≤ 0 ∧ 0 ≤ (mz_rowb j).2 := by
  unfold mz_rowb
  split
  · decide
  · split
    · decide
    · split <;> decide
theorem st_bC0 (t j : Nat) : (mz_bC t j).1 ≤ 0 ∧ 0 ≤ (mz_bC t j).2 := by
  unfold mz_bC
  split <;> decide
theorem st_bA0 (k j : Nat) : (mz_bA k j).1 ≤ 0 ∧ 0 ≤ (mz_bA k j).2 := by
  unfold mz_bA
  split <;> first | exact st_told0 _ | exact st_row0 _ | decide
theorem st_b0 (k j : Nat) : (mz_bd k j).1 ≤ 0 ∧ 0 ≤ (mz_bd k j).2 := by
  unfold mz_bd
  split
  · split
    · exact st_bC0 _ _
    · exact st_bA0 _ _
  · decide
theorem st_bo {k : Nat} (h : 180 ≤ k) (j : Nat) : mz_bd k j = (-2147483648, 2147483647) := by
  unfold mz_bd
  rw [mm_at_get, List.getElem?_eq_none (by rw [mb_SHl]; exact h)]
theorem st_i32 (x : Int32) : -2147483648 ≤ x.toInt ∧ x.toInt ≤ 2147483647 := by
  have h1 := Int32.le_toInt x
  have h2 := Int32.toInt_lt x
  exact ⟨by omega, by omega⟩
theorem st_inv (xs : Nat → Int32) : mz_inv (st_g xs) := by
  intro k j
  unfold st_g
  split
  · rw [st_bo (by omega)]; exact st_i32 _
  · split
    · rw [st_bo (by omega)]; exact st_i32 _
    · exact st_b0 k j
/-- the ints behind the constructors -/
def st_f (xs : Nat → Int32) : mz_G := mz_up (mz_up (mz_up (st_g xs) 0 0 (-1)) 81 2 (-1)) 137 24 (-1)
theorem st_finv (xs : Nat → Int32) : mz_inv (st_f xs) :=
  mz_inv_up (mz_inv_up (mz_inv_up (st_inv xs) (Prod.eta _).symm (by decide) (by decide)) (Prod.eta _).symm (by decide) (by decide)) (Prod.eta _).symm (by decide) (by decide)
theorem st_f0 (xs : Nat → Int32) {k j : Nat} (h : k < 1000) (h0 : k ≠ 0) (h1 : k ≠ 81) (h2 : k = 137 → j ≠ 24) : st_f xs k j = 0 := by
  unfold st_f
  rw [mz_up_ne (by omega), mz_up_ne (by omega), mz_up_ne (by omega)]
  exact st_g0 xs k j h
theorem st_MI (xs : Nat → Int32) : mz_MI (st_f xs) := by
  have e0 : st_f xs 140 0 = 0 := st_f0 xs (by decide) (by decide) (by decide) (by decide)
  have e1 : st_f xs 140 1 = 0 := st_f0 xs (by decide) (by decide) (by decide) (by decide)
  have e3 : st_f xs 140 3 = 0 := st_f0 xs (by decide) (by decide) (by decide) (by decide)
  have e30 : st_f xs 137 30 = 0 := st_f0 xs (by decide) (by decide) (by decide) (by decide)
  refine ⟨fun k hk => ?_, by omega, fun h => by omega, fun j hj => by omega⟩
  have : k = 0 := by omega
  rw [this]
  exact ⟨0, by omega, rfl⟩
theorem st_Lq (so : Option Nat) (L : Nat) (xs : Nat → Int32) : mz_Lq so L 0 (st_f xs) (1, 41, so, L, fun _ _ => 0, 180, 14538) :=
  ⟨st_finv xs, Or.inl ⟨rfl, rfl⟩, st_MI xs, rfl, rfl, (by show 6 * ((180 : Nat) : Int) ≤ 1080 + 0; decide), (by show ((14538 : Nat) : Int) ≤ 14538 + 0; decide)⟩
theorem st_sy8 : ∀ q : Fin 28, ∀ i : Fin 8, (st_byte q.val i.val).toInt = mz_sy q.val i.val := by decide +kernel
theorem st_sy {q i : Nat} (hq : q < 28) : (st_byte q i).toInt = mz_sy q i := by
  by_cases h : i < 8
  · exact st_sy8 ⟨q, hq⟩ ⟨i, h⟩
  · have l : ((mm_at mm_strs q).getD []).length ≤ i := by
      have := mz_sl_k ⟨q, hq⟩
      dsimp only at this
      unfold mz_sl at this
      omega
    unfold st_byte mz_sy
    rw [List.getD_eq_getElem?_getD, List.getElem?_eq_none l]
    rfl
theorem st_sr4 (xs : Nat → Int32) : mz_str (st_f xs) := fun q i hq => by
  unfold st_f
  rw [mz_up_ne (by omega), mz_up_ne (by omega), mz_up_ne (by omega)]
  unfold st_g
  rw [if_pos ⟨by omega, by omega⟩, show 1000 + q + 1000 - 2000 = q by omega]
  exact st_sy hq
theorem st_ru (so : Option Nat) (L : Nat) (xs : Nat → Int32) : ru (1, 41, so, L, fun _ _ => 0, 180, 14538) (st_f xs) (st_f xs) := by
  have s := st_sr4 xs
  have pv := (st_MI xs).1
  have e0 : st_f xs 0 0 = st_f xs 137 24 := ((up_k (by decide)).trans ((up_k (by decide)).trans (mz_up_at ..))).trans (mz_up_at ..).symm
  have z : ∀ k j : Nat, k < 1000 ∧ k ≠ 0 ∧ k ≠ 81 ∧ ¬ (k = 137 ∧ j = 24) → st_f xs k j = 0 := fun k j h => st_f0 xs h.1 h.2.1 h.2.2.1 (fun e y => h.2.2.2 ⟨e, y⟩)
  have z7 : st_f xs 0 7 = 0 := (up_k (by decide)).trans ((up_k (by decide)).trans ((up_j (by decide)).trans (st_g0 xs 0 7 (by decide))))
  generalize st_f xs = g at *
  have n0 : g 140 0 = 0 := z 140 0 (by decide)
  have n1 : g 140 1 = 0 := z 140 1 (by decide)
  have n2 : g 140 2 = 0 := z 140 2 (by decide)
  have n3 : g 140 3 = 0 := z 140 3 (by decide)
  have d30 : g 137 30 = 0 := z 137 30 (by decide)
  have d31 : g 137 31 = 0 := z 137 31 (by decide)
  have d32 : g 137 32 = 0 := z 137 32 (by decide)
  have a2 : g 86 2 = 0 := z 86 2 (by decide)
  have S : sta 1 g g := ⟨⟨(z 2 3 (by decide)).trans n0.symm, by omega, by omega, fun i hi => by omega⟩, fun i j hi _ => by omega, ⟨(z 1 3 (by decide)).trans n2.symm, by omega, by omega, fun i hi => by omega⟩, ⟨(z 37 1 (by decide)).trans n3.symm, by omega, by omega, fun i hi => by omega, pv⟩⟩
  have N : sy_n 87 g g (g 137 30) (sy_c g) := ⟨(z 87 2 (by decide)).trans n1.symm, (z 87 3 (by decide)).trans d30.symm, fun t ht => by omega, ⟨by omega, by omega⟩, fun t ht => by omega⟩
  have A : sy_a 86 96 g g (g 137 31) 156 := ⟨(z 86 3 (by decide)).trans d31.symm, ⟨by omega, by omega⟩, ⟨by omega, by omega⟩, fun k hk => by omega⟩
  have E : sy_s 86 97 g g (g 137 32) 166 := ⟨(z 86 7 (by decide)).trans d32.symm, ⟨by omega, by omega⟩, fun i hi => by omega⟩
  have R : sy_r 100 g g 150 := fun i hi => (z 100 i ⟨by decide, by decide, by decide, fun h => absurd h.1 (by decide)⟩).trans (z 150 i ⟨by decide, by decide, by decide, fun h => absurd h.1 (by decide)⟩).symm
  refine ⟨⟨s, s, ⟨(z 82 1 (by decide)).trans (z 137 15 (by decide)).symm, fun j => ?_⟩, e0, z 27 3 (by decide), z 67 3 (by decide)⟩, S, ⟨⟨by omega, by omega⟩, fun t ht => by omega⟩, ⟨N, A, E, R⟩, ⟨z7.trans (z 137 53 (by decide)).symm, Or.inl z7⟩, fun h => by omega⟩
  rw [z 83 j ⟨by decide, by decide, by decide, fun h => absurd h.1 (by decide)⟩, z 151 j ⟨by decide, by decide, by decide, fun h => absurd h.1 (by decide)⟩]
  decide
theorem st_RR (so : Option Nat) (L : Nat) (xs : Nat → Int32) : RR (1, 41, so, L, fun _ _ => 0, 180, 14538) (st_f xs) := by
  refine ⟨st_ru so L xs, fun n hn _ => ?_⟩
  have z : ∀ k j : Nat, k < 1000 ∧ k ≠ 0 ∧ k ≠ 81 ∧ ¬ (k = 137 ∧ j = 24) → st_f xs k j = 0 := fun k j h => st_f0 xs h.1 h.2.1 h.2.2.1 (fun e y => h.2.2.2 ⟨e, y⟩)
  have h3 : st_f xs (1 + 1) 3 = 0 := z 2 3 (by decide)
  have h8 : st_f xs (1 + 1) 8 = 0 := z 2 8 (by decide)
  have h9 : st_f xs (1 + 1) 9 = 0 := z 2 9 (by decide)
  generalize st_f xs = g at *
  have n0 : n = 0 := by
    have : g (1 + 1) 3 = (n : Int) := hn
    omega
  rw [n0]
  exact ⟨⟨h8, fun i hi => absurd hi (Nat.not_lt_zero i)⟩, h9, fun i hi => absurd hi (Nat.not_lt_zero i)⟩
/-- the law's whole run on the mini machine -/
theorem st_run {L : Nat} (hL : L ≤ 3072) (so : Option Nat) (xs : Nat → Int32) : mm_W 2000 mmL_law 0 [some (.ref 5000), none, none, none, none, none, none] [] (mb 0 mbR0 (st_g xs) so L 0) (fun o H1 => o = .inl (some (.int (Int32.ofInt 1))) ∧ mm_nc H1 ≤ 601024 ∧ mm_ns H1 ≤ 7293033) := by
  refine mb_run0 (by decide) (st_g0 xs) mbE0 (fun E1 => mb_run1 (by decide) (st_g0 xs) E1 (fun E2 => mb_run2 (by decide) (st_g0 xs) E2 (fun _ => ?_)))
  rw [mb_end]
  exact law_loop (so := so) (L := L) (by decide) hL (fun g x P => ⟨rfl, (by have h := P.2.2.2.2.2.1; show x.2.2.2.2.2.1 ≤ 601024; omega), (by have h := P.2.2.2.2.2.2; show x.2.2.2.2.2.2 ≤ 7293033; omega)⟩) _ 0 none none (st_f xs) (1, 41, so, L, fun _ _ => 0, 180, 14538) rfl (Int.le_refl 0) (by omega) mz_nl_n mz_nl_n (st_Lq so L xs) (st_RR so L xs)
