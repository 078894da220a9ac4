/-! the codes, decoded, by program -/
def mm_lenok : Instr → Nat → Bool
  | .tableswitch .., _ => true
  | .iload _, n => n == 2
  | .aload _, n => n == 2
  | .lload _, n => n == 2
  | .istore _, n => n == 2
  | .astore _, n => n == 2
  | .bipush _, n => n == 2
  | .ldc _, n => n == 2
  | .newarray _, n => n == 2
  | .sipush _, n => n == 3
  | .ldc_w _, n => n == 3
  | .ldc2_w _, n => n == 3
  | .iinc .., n => n == 3
  | .getfield _, n => n == 3
  | .putfield _, n => n == 3
  | .getstatic _, n => n == 3
  | .ifCond .., n => n == 3
  | .if_icmp .., n => n == 3
  | .ifnull _, n => n == 3
  | .ifnonnull _, n => n == 3
  | .goto _, n => n == 3
  | .invokestatic _, n => n == 3
  | .invokevirtual _, n => n == 3
  | .invokespecial _, n => n == 3
  | .new _, n => n == 3
  | .anewarray _, n => n == 3
  | _, n => n == 1
def mm_brok (pc : Nat) : Instr → Bool
  | .ifCond _ off => decide (0 ≤ (pc : Int) + off)
  | .if_icmp _ off => decide (0 ≤ (pc : Int) + off)
  | _ => true
def mm_codeok (cc : ByteArray) (code : List (Nat × Instr × Nat)) : Prop := ∀ x ∈ code, decode cc x.1 = .ok (x.2.1, x.2.2) ∧ mm_lenok x.2.1 x.2.2 = true ∧ mm_brok x.1 x.2.1 = true
theorem mm_codeok_split {cc : ByteArray} {l : List (Nat × Instr × Nat)} (n : Nat) (h1 : mm_codeok cc (l.take n)) (h2 : mm_codeok cc (l.drop n)) : mm_codeok cc l := by
  intro x hx
  rw [← List.take_append_drop n l] at hx
  rcases List.mem_append.1 hx with h | h
  · exact h1 x h
  · exact h2 x h
def dc_chk (c : ByteArray) : Nat → List UInt8 → List (Nat × Instr × Nat) → Bool
  | _, _, [] => true
  | q, l, x :: t => match l.drop (x.1 - q) with
    | [] => false
    | u :: r => Nat.ble q x.1 && (decide (dc_o u.toNat r = some x.2) || decide (decode c x.1 = .ok (x.2.1, x.2.2))) && mm_lenok x.2.1 x.2.2 && mm_brok x.1 x.2.1 && dc_chk c (x.1 + 1) r t
theorem dc_all_l {c : ByteArray} : ∀ (l : List (Nat × Instr × Nat)) (q : Nat), dc_chk c q (c.data.toList.drop q) l = true → mm_codeok c l := by
  intro l
  induction l with
  | nil => intro q _ x hx; cases hx
  | cons y t ih =>
    intro q h
    unfold dc_chk at h
    generalize hd : (c.data.toList.drop q).drop (y.1 - q) = d at h
    cases d with
    | nil => cases h
    | cons u r =>
      simp only [Bool.and_eq_true, Bool.or_eq_true, decide_eq_true_eq] at h
      obtain ⟨⟨⟨⟨h1, h2⟩, h3⟩, h4⟩, h5⟩ := h
      have hq : q ≤ y.1 := Nat.le_of_ble_eq_true h1
      rw [List.drop_drop, show q + (y.1 - q) = y.1 by omega] at hd
      rw [← dc_dr hd] at h5
      have ht := ih _ h5
      intro x hx
      rcases List.mem_cons.1 hx with z | z
      · rw [z]
        refine ⟨?_, h3, h4⟩
        rcases h2 with w | w
        · exact dc_ok hd _ w
        · exact w
      · exact ht x z
theorem dc_all {c : ByteArray} {l : List (Nat × Instr × Nat)} (h : dc_chk c 0 c.data.toList l = true) : mm_codeok c l := dc_all_l l 0 h
set_option maxRecDepth 100000 in
theorem co_X0_init : mm_codeok cX0_init mmX0_init.2.2.2.2 := dc_all (by decide +kernel)
set_option maxRecDepth 100000 in
theorem co_X0_empty : mm_codeok cX0_empty mmX0_empty.2.2.2.2 := dc_all (by decide +kernel)
set_option maxRecDepth 100000 in
theorem co_X0_addLetter : mm_codeok cX0_addLetter mmX0_addLetter.2.2.2.2 := dc_all (by decide +kernel)
set_option maxRecDepth 100000 in
theorem co_X0_length : mm_codeok cX0_length mmX0_length.2.2.2.2 := dc_all (by decide +kernel)
set_option maxRecDepth 100000 in
theorem co_X0_signAt : mm_codeok cX0_signAt mmX0_signAt.2.2.2.2 := dc_all (by decide +kernel)
set_option maxRecDepth 100000 in
theorem co_X0_last : mm_codeok cX0_last mmX0_last.2.2.2.2 := dc_all (by decide +kernel)
set_option maxRecDepth 100000 in
theorem co_X0_isSame : mm_codeok cX0_isSame mmX0_isSame.2.2.2.2 := dc_all (by decide +kernel)
set_option maxRecDepth 100000 in
theorem co_X0_holds : mm_codeok cX0_holds mmX0_holds.2.2.2.2 := dc_all (by decide +kernel)
set_option maxRecDepth 100000 in
theorem co_X0_matches : mm_codeok cX0_matches mmX0_matches.2.2.2.2 := dc_all (by decide +kernel)
set_option maxRecDepth 100000 in
theorem co_X0_overlapWith : mm_codeok cX0_overlapWith mmX0_overlapWith.2.2.2.2 := dc_all (by decide +kernel)
set_option maxRecDepth 100000 in
theorem co_X0_isAnagram : mm_codeok cX0_isAnagram mmX0_isAnagram.2.2.2.2 := dc_all (by decide +kernel)
set_option maxRecDepth 100000 in
theorem co_X0_howOften : mm_codeok cX0_howOften mmX0_howOften.2.2.2.2 := dc_all (by decide +kernel)
set_option maxRecDepth 100000 in
theorem co_X1_init : mm_codeok cX1_init mmX1_init.2.2.2.2 := dc_all (by decide +kernel)
set_option maxRecDepth 100000 in
theorem co_X1_forgetAll : mm_codeok cX1_forgetAll mmX1_forgetAll.2.2.2.2 := dc_all (by decide +kernel)
set_option maxRecDepth 100000 in
theorem co_X1_addHeat : mm_codeok cX1_addHeat mmX1_addHeat.2.2.2.2 := dc_all (by decide +kernel)
set_option maxRecDepth 100000 in
theorem co_X1_heatOf : mm_codeok cX1_heatOf mmX1_heatOf.2.2.2.2 := dc_all (by decide +kernel)
set_option maxRecDepth 100000 in
theorem co_X1_fullOf : mm_codeok cX1_fullOf mmX1_fullOf.2.2.2.2 := dc_all (by decide +kernel)
set_option maxRecDepth 100000 in
theorem co_X1_isFull : mm_codeok cX1_isFull mmX1_isFull.2.2.2.2 := dc_all (by decide +kernel)
set_option maxRecDepth 100000 in
theorem co_X1_blendSize : mm_codeok cX1_blendSize mmX1_blendSize.2.2.2.2 := dc_all (by decide +kernel)
set_option maxRecDepth 100000 in
theorem co_X1_blendInto : mm_codeok cX1_blendInto mmX1_blendInto.2.2.2.2 := dc_all (by decide +kernel)
set_option maxRecDepth 100000 in
theorem co_X1_howManyFull : mm_codeok cX1_howManyFull mmX1_howManyFull.2.2.2.2 := dc_all (by decide +kernel)
set_option maxRecDepth 100000 in
theorem co_X1_lettersOfAll : mm_codeok cX1_lettersOfAll mmX1_lettersOfAll.2.2.2.2 := dc_all (by decide +kernel)
set_option maxRecDepth 100000 in
theorem co_X1_passDay : mm_codeok cX1_passDay mmX1_passDay.2.2.2.2 := dc_all (by decide +kernel)
set_option maxRecDepth 100000 in
theorem co_X1_grow : mm_codeok cX1_grow mmX1_grow.2.2.2.2 := dc_all (by decide +kernel)
set_option maxRecDepth 100000 in
theorem co_X2_init : mm_codeok cX2_init mmX2_init.2.2.2.2 := dc_all (by decide +kernel)
set_option maxRecDepth 100000 in
theorem co_X2_changes : mm_codeok cX2_changes mmX2_changes.2.2.2.2 := dc_all (by decide +kernel)
set_option maxRecDepth 100000 in
theorem co_X2_common : mm_codeok cX2_common mmX2_common.2.2.2.2 := dc_all (by decide +kernel)
set_option maxRecDepth 100000 in
theorem co_X3_init : mm_codeok cX3_init mmX3_init.2.2.2.2 := dc_all (by decide +kernel)
set_option maxRecDepth 100000 in
theorem co_X3_setCost : mm_codeok cX3_setCost mmX3_setCost.2.2.2.2 := dc_all (by decide +kernel)
set_option maxRecDepth 100000 in
theorem co_X3_total : mm_codeok cX3_total mmX3_total.2.2.2.2 := dc_all (by decide +kernel)
set_option maxRecDepth 100000 in
theorem co_X3_partnerOf : mm_codeok cX3_partnerOf mmX3_partnerOf.2.2.2.2 := dc_all (by decide +kernel)
set_option maxRecDepth 100000 in
theorem co_X3_find : mm_codeok cX3_find mmX3_find.2.2.2.2 := dc_all (by decide +kernel)
set_option maxRecDepth 100000 in
theorem co_X3_fewestOf : mm_codeok cX3_fewestOf mmX3_fewestOf.2.2.2.2 := dc_all (by decide +kernel)
set_option maxRecDepth 100000 in
theorem co_X3_withCouple : mm_codeok cX3_withCouple mmX3_withCouple.2.2.2.2 := dc_all (by decide +kernel)
set_option maxRecDepth 100000 in
theorem co_X3_choosePartners : mm_codeok cX3_choosePartners mmX3_choosePartners.2.2.2.2 := dc_all (by decide +kernel)
set_option maxRecDepth 100000 in
theorem co_X4_init : mm_codeok cX4_init mmX4_init.2.2.2.2 := dc_all (by decide +kernel)
set_option maxRecDepth 100000 in
theorem co_X4_place : mm_codeok cX4_place mmX4_place.2.2.2.2 := dc_all (by decide +kernel)
set_option maxRecDepth 100000 in
theorem co_X4_faultKind : mm_codeok cX4_faultKind mmX4_faultKind.2.2.2.2 := dc_all (by decide +kernel)
set_option maxRecDepth 100000 in
theorem co_X4_begin : mm_codeok cX4_begin mmX4_begin.2.2.2.2 := dc_all (by decide +kernel)
set_option maxRecDepth 100000 in
theorem co_X4_goesOn : mm_codeok cX4_goesOn mmX4_goesOn.2.2.2.2 := dc_all (by decide +kernel)
set_option maxRecDepth 100000 in
theorem co_X4_blame : mm_codeok cX4_blame mmX4_blame.2.2.2.2 := dc_all (by decide +kernel)
set_option maxRecDepth 100000 in
theorem co_X4_readLine : mm_codeok cX4_readLine mmX4_readLine.2.2.2.2 := dc_all (by decide +kernel)
set_option maxRecDepth 100000 in
theorem co_X4_readWord : mm_codeok cX4_readWord mmX4_readWord.2.2.2.2 := dc_all (by decide +kernel)
set_option maxRecDepth 100000 in
theorem co_X4_readNumber : mm_codeok cX4_readNumber mmX4_readNumber.2.2.2.2 := dc_all (by decide +kernel)
set_option maxRecDepth 100000 in
theorem co_X4_readTrunk : mm_codeok cX4_readTrunk mmX4_readTrunk.2.2.2.2 := dc_all (by decide +kernel)
set_option maxRecDepth 100000 in
theorem co_X4_readHeat : mm_codeok cX4_readHeat mmX4_readHeat.2.2.2.2 := dc_all (by decide +kernel)
set_option maxRecDepth 100000 in
theorem co_X4_readGrows : mm_codeok cX4_readGrows mmX4_readGrows.2.2.2.2 := dc_all (by decide +kernel)
set_option maxRecDepth 100000 in
theorem co_X4_exprEnds : mm_codeok cX4_exprEnds mmX4_exprEnds.2.2.2.2 := dc_all (by decide +kernel)
set_option maxRecDepth 100000 in
theorem co_X4_readPart : mm_codeok cX4_readPart mmX4_readPart.2.2.2.2 := dc_all (by decide +kernel)
set_option maxRecDepth 100000 in
theorem co_X4_notsAnew : mm_codeok cX4_notsAnew mmX4_notsAnew.2.2.2.2 := dc_all (by decide +kernel)
set_option maxRecDepth 100000 in
theorem co_X4_readSign : mm_codeok cX4_readSign mmX4_readSign.2.2.2.2 := dc_all (by decide +kernel)
set_option maxRecDepth 100000 in
theorem co_X4_openSign : mm_codeok cX4_openSign mmX4_openSign.2.2.2.2 := dc_all (by decide +kernel)
set_option maxRecDepth 100000 in
theorem co_X4_lastOpen : mm_codeok cX4_lastOpen mmX4_lastOpen.2.2.2.2 := dc_all (by decide +kernel)
set_option maxRecDepth 100000 in
theorem co_X4_closeSigns : mm_codeok cX4_closeSigns mmX4_closeSigns.2.2.2.2 := dc_all (by decide +kernel)
set_option maxRecDepth 100000 in
theorem co_X4_valueOfWord : mm_codeok cX4_valueOfWord mmX4_valueOfWord.2.2.2.2 := dc_all (by decide +kernel)
set_option maxRecDepth 100000 in
theorem co_X4_signOfToken : mm_codeok cX4_signOfToken mmX4_signOfToken.2.2.2.2 := dc_all (by decide +kernel)
set_option maxRecDepth 100000 in
theorem co_X4_rankOf : mm_codeok cX4_rankOf mmX4_rankOf.2.2.2.2 := dc_all (by decide +kernel)
set_option maxRecDepth 100000 in
theorem co_X5_init : mm_codeok cX5_init mmX5_init.2.2.2.2 := dc_all (by decide +kernel)
set_option maxRecDepth 100000 in
theorem co_X5_clear : mm_codeok cX5_clear mmX5_clear.2.2.2.2 := dc_all (by decide +kernel)
set_option maxRecDepth 100000 in
theorem co_X5_isTold : mm_codeok cX5_isTold mmX5_isTold.2.2.2.2 := dc_all (by decide +kernel)
set_option maxRecDepth 100000 in
theorem co_X5_addStep : mm_codeok cX5_addStep mmX5_addStep.2.2.2.2 := dc_all (by decide +kernel)
set_option maxRecDepth 100000 in
theorem co_X5_setTrunk : mm_codeok cX5_setTrunk mmX5_setTrunk.2.2.2.2 := dc_all (by decide +kernel)
set_option maxRecDepth 100000 in
theorem co_X5_setWords : mm_codeok cX5_setWords mmX5_setWords.2.2.2.2 := dc_all (by decide +kernel)
set_option maxRecDepth 100000 in
theorem co_X5_worth : mm_codeok cX5_worth mmX5_worth.2.2.2.2 := dc_all (by decide +kernel)
set_option maxRecDepth 100000 in
theorem co_X5_joined : mm_codeok cX5_joined mmX5_joined.2.2.2.2 := dc_all (by decide +kernel)
set_option maxRecDepth 100000 in
theorem co_X6_init : mm_codeok cX6_init mmX6_init.2.2.2.2 := dc_all (by decide +kernel)
set_option maxRecDepth 100000 in
theorem co_X6_takeOver : mm_codeok cX6_takeOver mmX6_takeOver.2.2.2.2 := dc_all (by decide +kernel)
set_option maxRecDepth 100000 in
theorem co_X6_beginWith : mm_codeok cX6_beginWith mmX6_beginWith.2.2.2.2 := dc_all (by decide +kernel)
set_option maxRecDepth 100000 in
theorem co_X6_refuse : mm_codeok cX6_refuse mmX6_refuse.2.2.2.2 := dc_all (by decide +kernel)
set_option maxRecDepth 100000 in
theorem co_X6_refusals : mm_codeok cX6_refusals mmX6_refusals.2.2.2.2 := dc_all (by decide +kernel)
set_option maxRecDepth 100000 in
theorem co_X6_actsKept : mm_codeok cX6_actsKept mmX6_actsKept.2.2.2.2 := dc_all (by decide +kernel)
set_option maxRecDepth 100000 in
theorem co_X6_keepAct : mm_codeok cX6_keepAct mmX6_keepAct.2.2.2.2 := dc_all (by decide +kernel)
set_option maxRecDepth 100000 in
theorem co_X6_undoAct : mm_codeok cX6_undoAct mmX6_undoAct.2.2.2.2 := dc_all (by decide +kernel)
set_option maxRecDepth 100000 in
theorem co_X6_seenSize : mm_codeok cX6_seenSize mmX6_seenSize.2.2.2.2 := dc_all (by decide +kernel)
set_option maxRecDepth 100000 in
theorem co_X6_addSeen : mm_codeok cX6_addSeen mmX6_addSeen.2.2.2.2 := dc_all (by decide +kernel)
set_option maxRecDepth 100000 in
theorem co_X6_forgetSeen : mm_codeok cX6_forgetSeen mmX6_forgetSeen.2.2.2.2 := dc_all (by decide +kernel)
set_option maxRecDepth 100000 in
theorem co_X6_lastSeenDay : mm_codeok cX6_lastSeenDay mmX6_lastSeenDay.2.2.2.2 := dc_all (by decide +kernel)
set_option maxRecDepth 100000 in
theorem co_X6_agrees : mm_codeok cX6_agrees mmX6_agrees.2.2.2.2 := dc_all (by decide +kernel)
set_option maxRecDepth 100000 in
theorem co_X7_init : mm_codeok cX7_init mmX7_init.2.2.2.2 := dc_all (by decide +kernel)
set_option maxRecDepth 100000 in
theorem co_X7_takeBytes : mm_codeok cX7_takeBytes mmX7_takeBytes.2.2.2.2 := dc_all (by decide +kernel)
set_option maxRecDepth 100000 in
theorem co_X7_open : mm_codeok cX7_open mmX7_open.2.2.2.2 := dc_all (by decide +kernel)
set_option maxRecDepth 100000 in
theorem co_X7_step : mm_codeok cX7_step mmX7_step.2.2.2.2 := dc_all (by decide +kernel)
set_option maxRecDepth 100000 in
theorem co_X7_stepWord : mm_codeok cX7_stepWord mmX7_stepWord.2.2.2.2 := dc_all (by decide +kernel)
set_option maxRecDepth 100000 in
theorem co_X7_stepNumber : mm_codeok cX7_stepNumber mmX7_stepNumber.2.2.2.2 := dc_all (by decide +kernel)
set_option maxRecDepth 100000 in
theorem co_X7_byteAt : mm_codeok cX7_byteAt mmX7_byteAt.2.2.2.2 := dc_all (by decide +kernel)
set_option maxRecDepth 100000 in
theorem co_X7_isLetter : mm_codeok cX7_isLetter mmX7_isLetter.2.2.2.2 := dc_all (by decide +kernel)
set_option maxRecDepth 100000 in
theorem co_X7_isDigit : mm_codeok cX7_isDigit mmX7_isDigit.2.2.2.2 := dc_all (by decide +kernel)
set_option maxRecDepth 100000 in
theorem co_X7_isSign : mm_codeok cX7_isSign mmX7_isSign.2.2.2.2 := dc_all (by decide +kernel)
set_option maxRecDepth 100000 in
theorem co_X7_kind : mm_codeok cX7_kind mmX7_kind.2.2.2.2 := dc_all (by decide +kernel)
set_option maxRecDepth 100000 in
theorem co_X7_start : mm_codeok cX7_start mmX7_start.2.2.2.2 := dc_all (by decide +kernel)
set_option maxRecDepth 100000 in
theorem co_X7_tokenSize : mm_codeok cX7_tokenSize mmX7_tokenSize.2.2.2.2 := dc_all (by decide +kernel)
set_option maxRecDepth 100000 in
theorem co_X7_number : mm_codeok cX7_number mmX7_number.2.2.2.2 := dc_all (by decide +kernel)
set_option maxRecDepth 100000 in
theorem co_X7_spells : mm_codeok cX7_spells mmX7_spells.2.2.2.2 := dc_all (by decide +kernel)
set_option maxRecDepth 100000 in
theorem co_X7_spellInto : mm_codeok cX7_spellInto mmX7_spellInto.2.2.2.2 := dc_all (by decide +kernel)
set_option maxRecDepth 100000 in
theorem co_X8_init : mm_codeok cX8_init mmX8_init.2.2.2.2 := dc_all (by decide +kernel)
set_option maxRecDepth 100000 in
theorem co_X8_becomeAs : mm_codeok cX8_becomeAs mmX8_becomeAs.2.2.2.2 := dc_all (by decide +kernel)
set_option maxRecDepth 100000 in
theorem co_X8_turnRound : mm_codeok cX8_turnRound mmX8_turnRound.2.2.2.2 := dc_all (by decide +kernel)
set_option maxRecDepth 100000 in
theorem co_X8_packIn : mm_codeok cX8_packIn mmX8_packIn.2.2.2.2 := dc_all (by decide +kernel)
set_option maxRecDepth 100000 in
theorem co_X9_init : mm_codeok cX9_init mmX9_init.2.2.2.2 := dc_all (by decide +kernel)
set_option maxRecDepth 100000 in
theorem co_X9_get : mm_codeok cX9_get mmX9_get.2.2.2.2 := dc_all (by decide +kernel)
set_option maxRecDepth 100000 in
theorem co_X9_addTrunk : mm_codeok cX9_addTrunk mmX9_addTrunk.2.2.2.2 := dc_all (by decide +kernel)
set_option maxRecDepth 100000 in
theorem co_X9_copyAll : mm_codeok cX9_copyAll mmX9_copyAll.2.2.2.2 := dc_all (by decide +kernel)
set_option maxRecDepth 100000 in
theorem co_X9_saveIn : mm_codeok cX9_saveIn mmX9_saveIn.2.2.2.2 := dc_all (by decide +kernel)
set_option maxRecDepth 100000 in
theorem co_X9_takeFrom : mm_codeok cX9_takeFrom mmX9_takeFrom.2.2.2.2 := dc_all (by decide +kernel)
set_option maxRecDepth 100000 in
theorem co_X10_init : mm_codeok cX10_init mmX10_init.2.2.2.2 := dc_all (by decide +kernel)
set_option maxRecDepth 100000 in
theorem co_X10_startAnew : mm_codeok cX10_startAnew mmX10_startAnew.2.2.2.2 := dc_all (by decide +kernel)
set_option maxRecDepth 100000 in
theorem co_X10_many : mm_codeok cX10_many mmX10_many.2.2.2.2 := dc_all (by decide +kernel)
set_option maxRecDepth 100000 in
theorem co_X10_of : mm_codeok cX10_of mmX10_of.2.2.2.2 := dc_all (by decide +kernel)
set_option maxRecDepth 100000 in
theorem co_X10_hasAlready : mm_codeok cX10_hasAlready mmX10_hasAlready.2.2.2.2 := dc_all (by decide +kernel)
set_option maxRecDepth 100000 in
theorem co_X10_takeNext : mm_codeok cX10_takeNext mmX10_takeNext.2.2.2.2 := dc_all (by decide +kernel)
set_option maxRecDepth 100000 in
theorem co_X10_firmness : mm_codeok cX10_firmness mmX10_firmness.2.2.2.2 := dc_all (by decide +kernel)
set_option maxRecDepth 100000 in
theorem co_X10_overlapOf : mm_codeok cX10_overlapOf mmX10_overlapOf.2.2.2.2 := dc_all (by decide +kernel)
set_option maxRecDepth 100000 in
theorem co_X10_rowLetters : mm_codeok cX10_rowLetters mmX10_rowLetters.2.2.2.2 := dc_all (by decide +kernel)
set_option maxRecDepth 100000 in
theorem co_X10_inRow : mm_codeok cX10_inRow mmX10_inRow.2.2.2.2 := dc_all (by decide +kernel)
set_option maxRecDepth 100000 in
theorem co_X10_chainSize : mm_codeok cX10_chainSize mmX10_chainSize.2.2.2.2 := dc_all (by decide +kernel)
set_option maxRecDepth 100000 in
theorem co_X10_inChain : mm_codeok cX10_inChain mmX10_inChain.2.2.2.2 := dc_all (by decide +kernel)
set_option maxRecDepth 100000 in
theorem co_X10_within : mm_codeok cX10_within mmX10_within.2.2.2.2 := dc_all (by decide +kernel)
set_option maxRecDepth 100000 in
theorem co_X10_anagrams : mm_codeok cX10_anagrams mmX10_anagrams.2.2.2.2 := dc_all (by decide +kernel)
set_option maxRecDepth 100000 in
theorem co_X10_settle : mm_codeok cX10_settle mmX10_settle.2.2.2.2 := dc_all (by decide +kernel)
set_option maxRecDepth 100000 in
theorem co_X10_findOrder : mm_codeok cX10_findOrder mmX10_findOrder.2.2.2.2 := dc_all (by decide +kernel)
set_option maxRecDepth 100000 in
theorem co_X10_fillRoom : mm_codeok cX10_fillRoom mmX10_fillRoom.2.2.2.2 := dc_all (by decide +kernel)
set_option maxRecDepth 100000 in
theorem co_X10_firstNext : mm_codeok cX10_firstNext mmX10_firstNext.2.2.2.2 := dc_all (by decide +kernel)
set_option maxRecDepth 100000 in
theorem co_X11_init : mm_codeok cX11_init mmX11_init.2.2.2.2 := dc_all (by decide +kernel)
set_option maxRecDepth 100000 in
theorem co_X11_feed : mm_codeok cX11_feed mmX11_feed.2.2.2.2 := dc_all (by decide +kernel)
set_option maxRecDepth 100000 in
theorem co_X11_baggage : mm_codeok cX11_baggage mmX11_baggage.2.2.2.2 := dc_all (by decide +kernel)
set_option maxRecDepth 100000 in
theorem co_X11_fault : mm_codeok cX11_fault mmX11_fault.2.2.2.2 := dc_all (by decide +kernel)
set_option maxRecDepth 100000 in
theorem co_X11_count : mm_codeok cX11_count mmX11_count.2.2.2.2 := dc_all (by decide +kernel)
set_option maxRecDepth 100000 in
theorem co_X11_trunkCount : mm_codeok cX11_trunkCount mmX11_trunkCount.2.2.2.2 := dc_all (by decide +kernel)
set_option maxRecDepth 100000 in
theorem co_X11_treaties : mm_codeok cX11_treaties mmX11_treaties.2.2.2.2 := dc_all (by decide +kernel)
set_option maxRecDepth 100000 in
theorem co_X11_word : mm_codeok cX11_word mmX11_word.2.2.2.2 := dc_all (by decide +kernel)
set_option maxRecDepth 100000 in
theorem co_X11_trunksWith : mm_codeok cX11_trunksWith mmX11_trunksWith.2.2.2.2 := dc_all (by decide +kernel)
set_option maxRecDepth 100000 in
theorem co_X11_letter : mm_codeok cX11_letter mmX11_letter.2.2.2.2 := dc_all (by decide +kernel)
set_option maxRecDepth 100000 in
theorem co_X11_trunk : mm_codeok cX11_trunk mmX11_trunk.2.2.2.2 := dc_all (by decide +kernel)
set_option maxRecDepth 100000 in
theorem co_X11_days : mm_codeok cX11_days mmX11_days.2.2.2.2 := dc_all (by decide +kernel)
set_option maxRecDepth 100000 in
theorem co_X11_draw : mm_codeok cX11_draw mmX11_draw.2.2.2.2 := dc_all (by decide +kernel)
set_option maxRecDepth 100000 in
theorem co_X11_pull : mm_codeok cX11_pull mmX11_pull.2.2.2.2 := dc_all (by decide +kernel)
set_option maxRecDepth 100000 in
theorem co_X11_turn : mm_codeok cX11_turn mmX11_turn.2.2.2.2 := dc_all (by decide +kernel)
set_option maxRecDepth 100000 in
theorem co_X11_pack : mm_codeok cX11_pack mmX11_pack.2.2.2.2 := dc_all (by decide +kernel)
set_option maxRecDepth 100000 in
theorem co_X11_undo : mm_codeok cX11_undo mmX11_undo.2.2.2.2 := dc_all (by decide +kernel)
set_option maxRecDepth 100000 in
theorem co_X11_then : mm_codeok cX11_then mmX11_then.2.2.2.2 := dc_all (by decide +kernel)
set_option maxRecDepth 100000 in
theorem co_X11_nearestToBlend : mm_codeok cX11_nearestToBlend mmX11_nearestToBlend.2.2.2.2 := dc_all (by decide +kernel)
set_option maxRecDepth 100000 in
theorem co_X11_blend : mm_codeok cX11_blend mmX11_blend.2.2.2.2 := dc_all (by decide +kernel)
set_option maxRecDepth 100000 in
theorem co_X11_later : mm_codeok cX11_later mmX11_later.2.2.2.2 := dc_all (by decide +kernel)
set_option maxRecDepth 100000 in
theorem co_X11_full : mm_codeok cX11_full mmX11_full.2.2.2.2 := dc_all (by decide +kernel)
set_option maxRecDepth 100000 in
theorem co_X11_read : mm_codeok cX11_read mmX11_read.2.2.2.2 := dc_all (by decide +kernel)
set_option maxRecDepth 100000 in
theorem co_X11_alike : mm_codeok cX11_alike mmX11_alike.2.2.2.2 := dc_all (by decide +kernel)
set_option maxRecDepth 100000 in
theorem co_X11_growBy : mm_codeok cX11_growBy mmX11_growBy.2.2.2.2 := dc_all (by decide +kernel)
set_option maxRecDepth 100000 in
theorem co_X11_growProbe : mm_codeok cX11_growProbe mmX11_growProbe.2.2.2.2 := dc_all (by decide +kernel)
set_option maxRecDepth 100000 in
theorem co_X11_both : mm_codeok cX11_both mmX11_both.2.2.2.2 := dc_all (by decide +kernel)
set_option maxRecDepth 100000 in
theorem co_X11_row : mm_codeok cX11_row mmX11_row.2.2.2.2 := dc_all (by decide +kernel)
set_option maxRecDepth 100000 in
theorem co_X11_chain : mm_codeok cX11_chain mmX11_chain.2.2.2.2 := dc_all (by decide +kernel)
set_option maxRecDepth 100000 in
theorem co_X11_toDraw : mm_codeok cX11_toDraw mmX11_toDraw.2.2.2.2 := dc_all (by decide +kernel)
set_option maxRecDepth 100000 in
theorem co_X11_couples : mm_codeok cX11_couples mmX11_couples.2.2.2.2 := dc_all (by decide +kernel)
set_option maxRecDepth 100000 in
theorem co_X11_findCouples : mm_codeok cX11_findCouples mmX11_findCouples.2.2.2.2 := dc_all (by decide +kernel)
set_option maxRecDepth 100000 in
theorem co_X11_see : mm_codeok cX11_see mmX11_see.2.2.2.2 := dc_all (by decide +kernel)
set_option maxRecDepth 100000 in
theorem co_X11_loose : mm_codeok cX11_loose mmX11_loose.2.2.2.2 := dc_all (by decide +kernel)
set_option maxRecDepth 100000 in
theorem co_X11_look : mm_codeok cX11_look mmX11_look.2.2.2.2 := dc_all (by decide +kernel)
set_option maxRecDepth 100000 in
theorem co_X11_forget : mm_codeok cX11_forget mmX11_forget.2.2.2.2 := dc_all (by decide +kernel)
set_option maxRecDepth 100000 in
theorem co_X11_allTrunks : mm_codeok cX11_allTrunks mmX11_allTrunks.2.2.2.2 := dc_all (by decide +kernel)
set_option maxRecDepth 100000 in
theorem co_X11_fittingTrunks : mm_codeok cX11_fittingTrunks mmX11_fittingTrunks.2.2.2.2 := dc_all (by decide +kernel)
set_option maxRecDepth 100000 in
theorem co_X11_looseStraps : mm_codeok cX11_looseStraps mmX11_looseStraps.2.2.2.2 := dc_all (by decide +kernel)
set_option maxRecDepth 100000 in
theorem co_X11_fitsSeen : mm_codeok cX11_fitsSeen mmX11_fitsSeen.2.2.2.2 := dc_all (by decide +kernel)
set_option maxRecDepth 100000 in
theorem co_X11_unlikeNumbers : mm_codeok cX11_unlikeNumbers mmX11_unlikeNumbers.2.2.2.2 := dc_all (by decide +kernel)
set_option maxRecDepth 100000 in
theorem co_X11_seasons : mm_codeok cX11_seasons mmX11_seasons.2.2.2.2 := dc_all (by decide +kernel)
set_option maxRecDepth 100000 in
theorem co_X11_game : mm_codeok cX11_game mmX11_game.2.2.2.2 := dc_all (by decide +kernel)
set_option maxRecDepth 100000 in
theorem co_X11_ownGain : mm_codeok cX11_ownGain mmX11_ownGain.2.2.2.2 := dc_all (by decide +kernel)
set_option maxRecDepth 100000 in
theorem co_X11_years : mm_codeok cX11_years mmX11_years.2.2.2.2 := dc_all (by decide +kernel)
set_option maxRecDepth 100000 in
theorem co_X11_drawAhead : mm_codeok cX11_drawAhead mmX11_drawAhead.2.2.2.2 := dc_all (by decide +kernel)
set_option maxRecDepth 100000 in
theorem co_X11_drawOf : mm_codeok cX11_drawOf mmX11_drawOf.2.2.2.2 := dc_all (by decide +kernel)
set_option maxRecDepth 100000 in
theorem co_X11_image : mm_codeok cX11_image mmX11_image.2.2.2.2 := dc_all (by decide +kernel)
set_option maxRecDepth 100000 in
theorem co_X11_restore : mm_codeok cX11_restore mmX11_restore.2.2.2.2 := dc_all (by decide +kernel)
set_option maxRecDepth 100000 in
theorem co_X11_isWord : mm_codeok cX11_isWord mmX11_isWord.2.2.2.2 := dc_all (by decide +kernel)
set_option maxRecDepth 100000 in
theorem co_X11_isTrunk : mm_codeok cX11_isTrunk mmX11_isTrunk.2.2.2.2 := dc_all (by decide +kernel)
set_option maxRecDepth 100000 in
theorem co_X11_isAhead : mm_codeok cX11_isAhead mmX11_isAhead.2.2.2.2 := dc_all (by decide +kernel)
set_option maxRecDepth 100000 in
theorem co_X11_mustBe : mm_codeok cX11_mustBe mmX11_mustBe.2.2.2.2 := dc_all (by decide +kernel)
set_option maxRecDepth 100000 in
theorem co_X11_mustFit : mm_codeok cX11_mustFit mmX11_mustFit.2.2.2.2 := dc_all (by decide +kernel)
set_option maxRecDepth 100000 in
theorem co_X11_at : mm_codeok cX11_at mmX11_at.2.2.2.2 := dc_all (by decide +kernel)
set_option maxRecDepth 100000 in
theorem co_X11_put : mm_codeok cX11_put mmX11_put.2.2.2.2 := dc_all (by decide +kernel)
set_option maxRecDepth 100000 in
theorem co_X11_copyRow : mm_codeok cX11_copyRow mmX11_copyRow.2.2.2.2 := dc_all (by decide +kernel)
set_option maxRecDepth 100000 in
theorem co_X11_lowestBit : mm_codeok cX11_lowestBit mmX11_lowestBit.2.2.2.2 := dc_all (by decide +kernel)
set_option maxRecDepth 100000 in
theorem co_X12_init : mm_codeok cX12_init mmX12_init.2.2.2.2 := dc_all (by decide +kernel)
set_option maxRecDepth 100000 in
theorem co_X12_thrown : mm_codeok cX12_thrown mmX12_thrown.2.2.2.2 := dc_all (by decide +kernel)
set_option maxRecDepth 100000 in
theorem co_X12_fail : mm_codeok cX12_fail mmX12_fail.2.2.2.2 := dc_all (by decide +kernel)
set_option maxRecDepth 100000 in
theorem co_X12_isIn : mm_codeok cX12_isIn mmX12_isIn.2.2.2.2 := dc_all (by decide +kernel)
set_option maxRecDepth 100000 in
theorem co_X12_isOf : mm_codeok cX12_isOf mmX12_isOf.2.2.2.2 := dc_all (by decide +kernel)
set_option maxRecDepth 100000 in
theorem co_X12_bitsOf : mm_codeok cX12_bitsOf mmX12_bitsOf.2.2.2.2 := dc_all (by decide +kernel)
set_option maxRecDepth 100000 in
theorem co_X12_isWord : mm_codeok cX12_isWord mmX12_isWord.2.2.2.2 := dc_all (by decide +kernel)
set_option maxRecDepth 100000 in
theorem co_X12_isTrunk : mm_codeok cX12_isTrunk mmX12_isTrunk.2.2.2.2 := dc_all (by decide +kernel)
set_option maxRecDepth 100000 in
theorem co_X12_feed : mm_codeok cX12_feed mmX12_feed.2.2.2.2 := dc_all (by decide +kernel)
set_option maxRecDepth 100000 in
theorem co_X12_byteAt : mm_codeok cX12_byteAt mmX12_byteAt.2.2.2.2 := dc_all (by decide +kernel)
set_option maxRecDepth 100000 in
theorem co_X12_isLetter : mm_codeok cX12_isLetter mmX12_isLetter.2.2.2.2 := dc_all (by decide +kernel)
set_option maxRecDepth 100000 in
theorem co_X12_isDigit : mm_codeok cX12_isDigit mmX12_isDigit.2.2.2.2 := dc_all (by decide +kernel)
set_option maxRecDepth 100000 in
theorem co_X12_isMark : mm_codeok cX12_isMark mmX12_isMark.2.2.2.2 := dc_all (by decide +kernel)
set_option maxRecDepth 100000 in
theorem co_X12_stepOn : mm_codeok cX12_stepOn mmX12_stepOn.2.2.2.2 := dc_all (by decide +kernel)
set_option maxRecDepth 100000 in
theorem co_X12_wrong : mm_codeok cX12_wrong mmX12_wrong.2.2.2.2 := dc_all (by decide +kernel)
set_option maxRecDepth 100000 in
theorem co_X12_is : mm_codeok cX12_is mmX12_is.2.2.2.2 := dc_all (by decide +kernel)
set_option maxRecDepth 100000 in
theorem co_X12_which : mm_codeok cX12_which mmX12_which.2.2.2.2 := dc_all (by decide +kernel)
set_option maxRecDepth 100000 in
theorem co_X12_isMarked : mm_codeok cX12_isMarked mmX12_isMarked.2.2.2.2 := dc_all (by decide +kernel)
set_option maxRecDepth 100000 in
theorem co_X12_mark : mm_codeok cX12_mark mmX12_mark.2.2.2.2 := dc_all (by decide +kernel)
set_option maxRecDepth 100000 in
theorem co_X12_numberNow : mm_codeok cX12_numberNow mmX12_numberNow.2.2.2.2 := dc_all (by decide +kernel)
set_option maxRecDepth 100000 in
theorem co_X12_readNumber : mm_codeok cX12_readNumber mmX12_readNumber.2.2.2.2 := dc_all (by decide +kernel)
set_option maxRecDepth 100000 in
theorem co_X12_lay : mm_codeok cX12_lay mmX12_lay.2.2.2.2 := dc_all (by decide +kernel)
set_option maxRecDepth 100000 in
theorem co_X12_readPart : mm_codeok cX12_readPart mmX12_readPart.2.2.2.2 := dc_all (by decide +kernel)
set_option maxRecDepth 100000 in
theorem co_X12_readProduct : mm_codeok cX12_readProduct mmX12_readProduct.2.2.2.2 := dc_all (by decide +kernel)
set_option maxRecDepth 100000 in
theorem co_X12_readSum : mm_codeok cX12_readSum mmX12_readSum.2.2.2.2 := dc_all (by decide +kernel)
set_option maxRecDepth 100000 in
theorem co_X12_readNot : mm_codeok cX12_readNot mmX12_readNot.2.2.2.2 := dc_all (by decide +kernel)
set_option maxRecDepth 100000 in
theorem co_X12_readAnd : mm_codeok cX12_readAnd mmX12_readAnd.2.2.2.2 := dc_all (by decide +kernel)
set_option maxRecDepth 100000 in
theorem co_X12_readExpression : mm_codeok cX12_readExpression mmX12_readExpression.2.2.2.2 := dc_all (by decide +kernel)
set_option maxRecDepth 100000 in
theorem co_X12_another : mm_codeok cX12_another mmX12_another.2.2.2.2 := dc_all (by decide +kernel)
set_option maxRecDepth 100000 in
theorem co_X12_isToldAhead : mm_codeok cX12_isToldAhead mmX12_isToldAhead.2.2.2.2 := dc_all (by decide +kernel)
set_option maxRecDepth 100000 in
theorem co_X12_sayWord : mm_codeok cX12_sayWord mmX12_sayWord.2.2.2.2 := dc_all (by decide +kernel)
set_option maxRecDepth 100000 in
theorem co_X12_readWhich : mm_codeok cX12_readWhich mmX12_readWhich.2.2.2.2 := dc_all (by decide +kernel)
set_option maxRecDepth 100000 in
theorem co_X12_sayTrunk : mm_codeok cX12_sayTrunk mmX12_sayTrunk.2.2.2.2 := dc_all (by decide +kernel)
set_option maxRecDepth 100000 in
theorem co_X12_sayHeat : mm_codeok cX12_sayHeat mmX12_sayHeat.2.2.2.2 := dc_all (by decide +kernel)
set_option maxRecDepth 100000 in
theorem co_X12_readLine : mm_codeok cX12_readLine mmX12_readLine.2.2.2.2 := dc_all (by decide +kernel)
set_option maxRecDepth 100000 in
theorem co_X12_baggage : mm_codeok cX12_baggage mmX12_baggage.2.2.2.2 := dc_all (by decide +kernel)
set_option maxRecDepth 100000 in
theorem co_X12_takeHalf : mm_codeok cX12_takeHalf mmX12_takeHalf.2.2.2.2 := dc_all (by decide +kernel)
set_option maxRecDepth 100000 in
theorem co_X12_takeOver : mm_codeok cX12_takeOver mmX12_takeOver.2.2.2.2 := dc_all (by decide +kernel)
set_option maxRecDepth 100000 in
theorem co_X12_fault : mm_codeok cX12_fault mmX12_fault.2.2.2.2 := dc_all (by decide +kernel)
set_option maxRecDepth 100000 in
theorem co_X12_store : mm_codeok cX12_store mmX12_store.2.2.2.2 := dc_all (by decide +kernel)
set_option maxRecDepth 100000 in
theorem co_X12_recall : mm_codeok cX12_recall mmX12_recall.2.2.2.2 := dc_all (by decide +kernel)
set_option maxRecDepth 100000 in
theorem co_X12_letterOf : mm_codeok cX12_letterOf mmX12_letterOf.2.2.2.2 := dc_all (by decide +kernel)
set_option maxRecDepth 100000 in
theorem co_X12_overlapOf : mm_codeok cX12_overlapOf mmX12_overlapOf.2.2.2.2 := dc_all (by decide +kernel)
set_option maxRecDepth 100000 in
theorem co_X12_wordInto : mm_codeok cX12_wordInto mmX12_wordInto.2.2.2.2 := dc_all (by decide +kernel)
set_option maxRecDepth 100000 in
theorem co_X12_blendInto : mm_codeok cX12_blendInto mmX12_blendInto.2.2.2.2 := dc_all (by decide +kernel)
set_option maxRecDepth 100000 in
theorem co_X12_compared : mm_codeok cX12_compared mmX12_compared.2.2.2.2 := dc_all (by decide +kernel)
set_option maxRecDepth 100000 in
theorem co_X12_isWithin : mm_codeok cX12_isWithin mmX12_isWithin.2.2.2.2 := dc_all (by decide +kernel)
set_option maxRecDepth 100000 in
theorem co_X12_areSame : mm_codeok cX12_areSame mmX12_areSame.2.2.2.2 := dc_all (by decide +kernel)
set_option maxRecDepth 100000 in
theorem co_X12_withinOf : mm_codeok cX12_withinOf mmX12_withinOf.2.2.2.2 := dc_all (by decide +kernel)
set_option maxRecDepth 100000 in
theorem co_X12_manyOf : mm_codeok cX12_manyOf mmX12_manyOf.2.2.2.2 := dc_all (by decide +kernel)
set_option maxRecDepth 100000 in
theorem co_X12_anagramsOf : mm_codeok cX12_anagramsOf mmX12_anagramsOf.2.2.2.2 := dc_all (by decide +kernel)
set_option maxRecDepth 100000 in
theorem co_X12_reckon : mm_codeok cX12_reckon mmX12_reckon.2.2.2.2 := dc_all (by decide +kernel)
set_option maxRecDepth 100000 in
theorem co_X12_valueNow : mm_codeok cX12_valueNow mmX12_valueNow.2.2.2.2 := dc_all (by decide +kernel)
set_option maxRecDepth 100000 in
theorem co_X12_heatOf : mm_codeok cX12_heatOf mmX12_heatOf.2.2.2.2 := dc_all (by decide +kernel)
set_option maxRecDepth 100000 in
theorem co_X12_fullOf : mm_codeok cX12_fullOf mmX12_fullOf.2.2.2.2 := dc_all (by decide +kernel)
set_option maxRecDepth 100000 in
theorem co_X12_isFull : mm_codeok cX12_isFull mmX12_isFull.2.2.2.2 := dc_all (by decide +kernel)
set_option maxRecDepth 100000 in
theorem co_X12_growsOf : mm_codeok cX12_growsOf mmX12_growsOf.2.2.2.2 := dc_all (by decide +kernel)
set_option maxRecDepth 100000 in
theorem co_X12_aDayOf : mm_codeok cX12_aDayOf mmX12_aDayOf.2.2.2.2 := dc_all (by decide +kernel)
set_option maxRecDepth 100000 in
theorem co_X12_goOn : mm_codeok cX12_goOn mmX12_goOn.2.2.2.2 := dc_all (by decide +kernel)
set_option maxRecDepth 100000 in
theorem co_X12_fullOnes : mm_codeok cX12_fullOnes mmX12_fullOnes.2.2.2.2 := dc_all (by decide +kernel)
set_option maxRecDepth 100000 in
theorem co_X12_blendSize : mm_codeok cX12_blendSize mmX12_blendSize.2.2.2.2 := dc_all (by decide +kernel)
set_option maxRecDepth 100000 in
theorem co_X12_allLetters : mm_codeok cX12_allLetters mmX12_allLetters.2.2.2.2 := dc_all (by decide +kernel)
set_option maxRecDepth 100000 in
theorem co_X12_treaties : mm_codeok cX12_treaties mmX12_treaties.2.2.2.2 := dc_all (by decide +kernel)
set_option maxRecDepth 100000 in
theorem co_X12_count : mm_codeok cX12_count mmX12_count.2.2.2.2 := dc_all (by decide +kernel)
set_option maxRecDepth 100000 in
theorem co_X12_word : mm_codeok cX12_word mmX12_word.2.2.2.2 := dc_all (by decide +kernel)
set_option maxRecDepth 100000 in
theorem co_X12_letter : mm_codeok cX12_letter mmX12_letter.2.2.2.2 := dc_all (by decide +kernel)
set_option maxRecDepth 100000 in
theorem co_X12_trunk : mm_codeok cX12_trunk mmX12_trunk.2.2.2.2 := dc_all (by decide +kernel)
set_option maxRecDepth 100000 in
theorem co_X12_refuse : mm_codeok cX12_refuse mmX12_refuse.2.2.2.2 := dc_all (by decide +kernel)
set_option maxRecDepth 100000 in
theorem co_X12_keep : mm_codeok cX12_keep mmX12_keep.2.2.2.2 := dc_all (by decide +kernel)
set_option maxRecDepth 100000 in
theorem co_X12_days : mm_codeok cX12_days mmX12_days.2.2.2.2 := dc_all (by decide +kernel)
set_option maxRecDepth 100000 in
theorem co_X12_draw : mm_codeok cX12_draw mmX12_draw.2.2.2.2 := dc_all (by decide +kernel)
set_option maxRecDepth 100000 in
theorem co_X12_pull : mm_codeok cX12_pull mmX12_pull.2.2.2.2 := dc_all (by decide +kernel)
set_option maxRecDepth 100000 in
theorem co_X12_turnRound : mm_codeok cX12_turnRound mmX12_turnRound.2.2.2.2 := dc_all (by decide +kernel)
set_option maxRecDepth 100000 in
theorem co_X12_turn : mm_codeok cX12_turn mmX12_turn.2.2.2.2 := dc_all (by decide +kernel)
set_option maxRecDepth 100000 in
theorem co_X12_packIn : mm_codeok cX12_packIn mmX12_packIn.2.2.2.2 := dc_all (by decide +kernel)
set_option maxRecDepth 100000 in
theorem co_X12_pack : mm_codeok cX12_pack mmX12_pack.2.2.2.2 := dc_all (by decide +kernel)
set_option maxRecDepth 100000 in
theorem co_X12_undo : mm_codeok cX12_undo mmX12_undo.2.2.2.2 := dc_all (by decide +kernel)
set_option maxRecDepth 100000 in
theorem co_X12_nearest : mm_codeok cX12_nearest mmX12_nearest.2.2.2.2 := dc_all (by decide +kernel)
set_option maxRecDepth 100000 in
theorem co_X12_then : mm_codeok cX12_then mmX12_then.2.2.2.2 := dc_all (by decide +kernel)
set_option maxRecDepth 100000 in
theorem co_X12_blend : mm_codeok cX12_blend mmX12_blend.2.2.2.2 := dc_all (by decide +kernel)
set_option maxRecDepth 100000 in
theorem co_X12_allGrown : mm_codeok cX12_allGrown mmX12_allGrown.2.2.2.2 := dc_all (by decide +kernel)
set_option maxRecDepth 100000 in
theorem co_X12_longestNow : mm_codeok cX12_longestNow mmX12_longestNow.2.2.2.2 := dc_all (by decide +kernel)
set_option maxRecDepth 100000 in
theorem co_X12_later : mm_codeok cX12_later mmX12_later.2.2.2.2 := dc_all (by decide +kernel)
set_option maxRecDepth 100000 in
theorem co_X12_full : mm_codeok cX12_full mmX12_full.2.2.2.2 := dc_all (by decide +kernel)
set_option maxRecDepth 100000 in
theorem co_X12_read : mm_codeok cX12_read mmX12_read.2.2.2.2 := dc_all (by decide +kernel)
set_option maxRecDepth 100000 in
theorem co_X12_alike : mm_codeok cX12_alike mmX12_alike.2.2.2.2 := dc_all (by decide +kernel)
set_option maxRecDepth 100000 in
theorem co_X12_both : mm_codeok cX12_both mmX12_both.2.2.2.2 := dc_all (by decide +kernel)
set_option maxRecDepth 100000 in
theorem co_X12_madeOn : mm_codeok cX12_madeOn mmX12_madeOn.2.2.2.2 := dc_all (by decide +kernel)
set_option maxRecDepth 100000 in
theorem co_X12_tellRow : mm_codeok cX12_tellRow mmX12_tellRow.2.2.2.2 := dc_all (by decide +kernel)
set_option maxRecDepth 100000 in
theorem co_X12_pushed : mm_codeok cX12_pushed mmX12_pushed.2.2.2.2 := dc_all (by decide +kernel)
set_option maxRecDepth 100000 in
theorem co_X12_row : mm_codeok cX12_row mmX12_row.2.2.2.2 := dc_all (by decide +kernel)
set_option maxRecDepth 100000 in
theorem co_X12_follows : mm_codeok cX12_follows mmX12_follows.2.2.2.2 := dc_all (by decide +kernel)
set_option maxRecDepth 100000 in
theorem co_X12_tellChain : mm_codeok cX12_tellChain mmX12_tellChain.2.2.2.2 := dc_all (by decide +kernel)
set_option maxRecDepth 100000 in
theorem co_X12_chain : mm_codeok cX12_chain mmX12_chain.2.2.2.2 := dc_all (by decide +kernel)
set_option maxRecDepth 100000 in
theorem co_X12_toDraw : mm_codeok cX12_toDraw mmX12_toDraw.2.2.2.2 := dc_all (by decide +kernel)
set_option maxRecDepth 100000 in
theorem co_X12_tellCouples : mm_codeok cX12_tellCouples mmX12_tellCouples.2.2.2.2 := dc_all (by decide +kernel)
set_option maxRecDepth 100000 in
theorem co_X12_couples : mm_codeok cX12_couples mmX12_couples.2.2.2.2 := dc_all (by decide +kernel)
set_option maxRecDepth 100000 in
theorem co_X12_coupleOf : mm_codeok cX12_coupleOf mmX12_coupleOf.2.2.2.2 := dc_all (by decide +kernel)
set_option maxRecDepth 100000 in
theorem co_X12_see : mm_codeok cX12_see mmX12_see.2.2.2.2 := dc_all (by decide +kernel)
set_option maxRecDepth 100000 in
theorem co_X12_isAsSeen : mm_codeok cX12_isAsSeen mmX12_isAsSeen.2.2.2.2 := dc_all (by decide +kernel)
set_option maxRecDepth 100000 in
theorem co_X12_tellFits : mm_codeok cX12_tellFits mmX12_tellFits.2.2.2.2 := dc_all (by decide +kernel)
set_option maxRecDepth 100000 in
theorem co_X12_loose : mm_codeok cX12_loose mmX12_loose.2.2.2.2 := dc_all (by decide +kernel)
set_option maxRecDepth 100000 in
theorem co_X12_look : mm_codeok cX12_look mmX12_look.2.2.2.2 := dc_all (by decide +kernel)
set_option maxRecDepth 100000 in
theorem co_X12_forget : mm_codeok cX12_forget mmX12_forget.2.2.2.2 := dc_all (by decide +kernel)
set_option maxRecDepth 100000 in
theorem co_X12_seasons : mm_codeok cX12_seasons mmX12_seasons.2.2.2.2 := dc_all (by decide +kernel)
set_option maxRecDepth 100000 in
theorem co_X12_tellGains : mm_codeok cX12_tellGains mmX12_tellGains.2.2.2.2 := dc_all (by decide +kernel)
set_option maxRecDepth 100000 in
theorem co_X12_game : mm_codeok cX12_game mmX12_game.2.2.2.2 := dc_all (by decide +kernel)
set_option maxRecDepth 100000 in
theorem co_X12_drawOf : mm_codeok cX12_drawOf mmX12_drawOf.2.2.2.2 := dc_all (by decide +kernel)
set_option maxRecDepth 100000 in
theorem co_X12_something : mm_codeok cX12_something mmX12_something.2.2.2.2 := dc_all (by decide +kernel)
set_option maxRecDepth 100000 in
theorem co_X12_years : mm_codeok cX12_years mmX12_years.2.2.2.2 := dc_all (by decide +kernel)
set_option maxRecDepth 100000 in
theorem co_X12_copyTo : mm_codeok cX12_copyTo mmX12_copyTo.2.2.2.2 := dc_all (by decide +kernel)
set_option maxRecDepth 100000 in
theorem co_X12_image : mm_codeok cX12_image mmX12_image.2.2.2.2 := dc_all (by decide +kernel)
set_option maxRecDepth 100000 in
theorem co_X12_restore : mm_codeok cX12_restore mmX12_restore.2.2.2.2 := dc_all (by decide +kernel)
set_option maxRecDepth 100000 in
theorem co_J6_bitCount : mm_codeok cJ6_bitCount_0f7a4 mmJ6_bitCount.2.2.2.2 := dc_all (by decide +kernel)
set_option maxRecDepth 100000 in
theorem co_J0_length : mm_codeok cJ0_length_8abf5 mmJ0_length.2.2.2.2 := dc_all (by decide +kernel)
set_option maxRecDepth 100000 in
theorem co_J0_charAt : mm_codeok cJ0_charAt_5068e mmJ0_charAt.2.2.2.2 := dc_all (by decide +kernel)
set_option maxRecDepth 100000 in
theorem co_J0_coder : mm_codeok cJ0_coder_7d493 mmJ0_coder.2.2.2.2 := dc_all (by decide +kernel)
set_option maxRecDepth 100000 in
theorem co_J0_isLatin1 : mm_codeok cJ0_isLatin1_aae02 mmJ0_isLatin1.2.2.2.2 := dc_all (by decide +kernel)
set_option maxRecDepth 100000 in
theorem co_J0_checkIndex : mm_codeok cJ0_checkIndex_df160 mmJ0_checkIndex.2.2.2.2 := dc_all (by decide +kernel)
set_option maxRecDepth 100000 in
theorem co_J1_charAt : mm_codeok cJ1_charAt_3b067 mmJ1_charAt.2.2.2.2 := dc_all (by decide +kernel)
set_option maxRecDepth 100000 in
theorem co_J3_checkIndex : mm_codeok cJ3_checkIndex_8e157 mmJ3_checkIndex.2.2.2.2 := dc_all (by decide +kernel)
set_option maxRecDepth 100000 in
theorem co_L_baggage : mm_codeok cL_baggage mmL_baggage.2.2.2.2 := dc_all (by decide +kernel)
set_option maxRecDepth 100000 in
theorem co_L_count : mm_codeok cL_count mmL_count.2.2.2.2 := dc_all (by decide +kernel)
set_option maxRecDepth 100000 in
theorem co_L_word : mm_codeok cL_word mmL_word.2.2.2.2 := dc_all (by decide +kernel)
set_option maxRecDepth 100000 in
theorem co_L_letter : mm_codeok cL_letter mmL_letter.2.2.2.2 := dc_all (by decide +kernel)
set_option maxRecDepth 100000 in
theorem co_L_trunk : mm_codeok cL_trunk mmL_trunk.2.2.2.2 := dc_all (by decide +kernel)
set_option maxRecDepth 100000 in
theorem co_L_draw : mm_codeok cL_draw mmL_draw.2.2.2.2 := dc_all (by decide +kernel)
set_option maxRecDepth 100000 in
theorem co_L_pull : mm_codeok cL_pull mmL_pull.2.2.2.2 := dc_all (by decide +kernel)
set_option maxRecDepth 100000 in
theorem co_L_turn : mm_codeok cL_turn mmL_turn.2.2.2.2 := dc_all (by decide +kernel)
set_option maxRecDepth 100000 in
theorem co_L_pack : mm_codeok cL_pack mmL_pack.2.2.2.2 := dc_all (by decide +kernel)
set_option maxRecDepth 100000 in
theorem co_L_then : mm_codeok cL_then mmL_then.2.2.2.2 := dc_all (by decide +kernel)
set_option maxRecDepth 100000 in
theorem co_L_blend : mm_codeok cL_blend mmL_blend.2.2.2.2 := dc_all (by decide +kernel)
set_option maxRecDepth 100000 in
theorem co_L_later : mm_codeok cL_later mmL_later.2.2.2.2 := dc_all (by decide +kernel)
set_option maxRecDepth 100000 in
theorem co_L_full : mm_codeok cL_full mmL_full.2.2.2.2 := dc_all (by decide +kernel)
set_option maxRecDepth 100000 in
theorem co_L_read : mm_codeok cL_read mmL_read.2.2.2.2 := dc_all (by decide +kernel)
set_option maxRecDepth 100000 in
theorem co_L_alike : mm_codeok cL_alike mmL_alike.2.2.2.2 := dc_all (by decide +kernel)
set_option maxRecDepth 100000 in
theorem co_L_both : mm_codeok cL_both mmL_both.2.2.2.2 := dc_all (by decide +kernel)
set_option maxRecDepth 100000 in
theorem co_L_row : mm_codeok cL_row mmL_row.2.2.2.2 := dc_all (by decide +kernel)
set_option maxRecDepth 100000 in
theorem co_L_chain : mm_codeok cL_chain mmL_chain.2.2.2.2 := dc_all (by decide +kernel)
set_option maxRecDepth 100000 in
theorem co_L_toDraw : mm_codeok cL_toDraw mmL_toDraw.2.2.2.2 := dc_all (by decide +kernel)
set_option maxRecDepth 100000 in
theorem co_L_see : mm_codeok cL_see mmL_see.2.2.2.2 := dc_all (by decide +kernel)
set_option maxRecDepth 100000 in
theorem co_L_loose : mm_codeok cL_loose mmL_loose.2.2.2.2 := dc_all (by decide +kernel)
set_option maxRecDepth 100000 in
theorem co_L_look : mm_codeok cL_look mmL_look.2.2.2.2 := dc_all (by decide +kernel)
set_option maxRecDepth 100000 in
theorem co_L_seasons : mm_codeok cL_seasons mmL_seasons.2.2.2.2 := dc_all (by decide +kernel)
set_option maxRecDepth 100000 in
theorem co_L_game : mm_codeok cL_game mmL_game.2.2.2.2 := dc_all (by decide +kernel)
set_option maxRecDepth 100000 in
theorem co_L_years : mm_codeok cL_years mmL_years.2.2.2.2 := dc_all (by decide +kernel)
set_option maxRecDepth 100000 in
theorem co_L_law : mm_codeok cL_law mmL_law.2.2.2.2 := dc_all (by decide +kernel)
